/-! the reference's arrays, by program (wip/whole/model.py) -/
def yr (m i : Nat) : Value := if i ≤ m then .ref (130 + i) else .null
def yf (m : Nat) : List Value := [.int 0, .int 0, .int 0, .int 0, yr m 1, yr m 2, yr m 3, yr m 4, yr m 5, yr m 6, yr m 7, yr m 8, yr m 9, yr m 10, yr m 11, yr m 12, yr m 13, yr m 14, yr m 15, yr m 16, yr m 17, yr m 18, yr m 19, yr m 20, yr m 21, yr m 22, yr m 23, yr m 24, yr m 25, yr m 26, yr m 27, yr m 28, yr m 29, yr m 30, yr m 31, yr m 32, yr m 33, yr m 34, yr m 35, yr m 36, .int 0, yr m 37, yr m 38, yr m 39, yr m 40, yr m 41, .int 0, .int 0, .int 0, .int 0, yr m 42, yr m 43]
/-- the reference's part empty -/
def zY (σ : tm_S) : tm_S := (fun q j => if q < 130 then σ.1 q j else 0, σ.2)
def hy (σ : tm_S) (m : Nat) : Nat → tv_C := fun q => if q = 130 then .inr (5, yf m) else hp (zY σ) q
theorem hy_at {σ : tm_S} {m : Nat} : hy σ m 130 = .inr (5, yf m) := by unfold hy; rw [if_pos rfl]
theorem hy_new {σ : tm_S} {m q0 n : Nat} {c : tv_C} (hne : q0 ≠ 130) (hc : hp (zY σ) q0 = c) : ∀ q, q ≤ n → va_up (hy σ m) q0 c q = hy σ m q := by
  intro q _
  by_cases he : q = q0
  · subst he
    rw [va_up_self]
    unfold hy
    rw [if_neg hne, hc]
  · rw [va_up_ne _ _ he]
theorem hy_put {σ : tm_S} {m n : Nat} {fs : List Value} (he : fs = yf (m + 1)) : ∀ q, q ≤ n → va_up (hy σ m) 130 (.inr (5, fs)) q = hy σ (m + 1) q := by
  intro q _
  subst he
  by_cases hq : q = 130
  · subst hq
    rw [va_up_self, hy_at]
  · rw [va_up_ne _ _ hq]
    unfold hy
    rw [if_neg hq, if_neg hq]
theorem hy_0 {σ : tm_S} {c : tv_C} (hc : c = .inr (5, yf 0)) : ∀ q, q ≤ 130 → va_up (hp σ) 130 c q = hy σ 0 q := by
  intro q hq
  subst hc
  by_cases he : q = 130
  · subst he
    rw [va_up_self, hy_at]
  · rw [va_up_ne _ _ he]
    unfold hy
    rw [if_neg he]
    show tm_c (kd q) q (σ.1 q) (σ.2 q) = tm_c (kd q) q (fun j => if q < 130 then σ.1 q j else 0) (σ.2 q)
    congr 1
    funext j
    rw [if_pos (by omega)]
theorem hy_43 {σ : tm_S} {n : Nat} : ∀ q, q ≤ n → hy σ 43 q = hp (zY σ) q := by
  intro q _
  unfold hy
  by_cases he : q = 130
  · subst he
    rw [if_pos rfl, hp_at kd_130]
    rfl
  · rw [if_neg he]
abbrev rmY : Room := { frames := 3, cells := 43, slots := 1140, locals := 63 }
set_option maxHeartbeats 8000000 in
set_option maxRecDepth 100000 in
theorem k_Ya {X : tv_X} {σ : tm_S} {a1 a2 a3 : Int32} (hC : tv_K X tb_Y_init 5 "TrickleMeshModel" tm_wg tm_ns tm_cl tm_ty rmY) (kk : V X 43 1140 173 (hp (zY σ)) 349 [some (.ref 130), some (.int a1), some (.int a2), some (.int a3), none] []) : V X 0 0 130 (hy σ 0) 0 [some (.ref 130), some (.int a1), some (.int a2), some (.int a3), none] [] := by
  refine V.blk hC [(.aload_n 0, 1)] 0 _ _ ⟨d_Y_init_0, trivial⟩ (show tv_run _ _ _ _ = some (1, [some (.ref 130), some (.int a1), some (.int a2), some (.int a3), none], [.ref 130]) from rfl) ?_
  refine V.objInit hC rfl tg_Y_1 ⟨tm_le rfl, tm_le rfl⟩ d_Y_init_1 ?_
  show V X 0 0 130 (hy σ 0) 4 [some (.ref 130), some (.int a1), some (.int a2), some (.int a3), none] []
  refine V.blk hC [(.aload_n 0, 1), (.bipush 49, 2)] 4 _ _ ⟨d_Y_init_4, d_Y_init_5, trivial⟩ (show tv_run _ _ _ _ = some (7, [some (.ref 130), some (.int a1), some (.int a2), some (.int a3), none], [.int (49 : Int32), .ref 130]) from rfl) ?_
  refine V.newi hC (t := 0) (N := 49) rfl tm_ar_int (by decide) (by decide) (by decide) ⟨tm_le rfl, tm_le rfl⟩ d_Y_init_7 ?_
  refine V.congr (hy_new (by decide) ((hp_at kd_131).trans rfl)) ?_
  refine V.putf hC tf_Y_7 (v := .ref 131) tt_Y to_Y tn_Y rfl (to_Y 4 (by decide)) tm_fra ⟨by omega, by omega⟩ hy_at (tm_le rfl) d_Y_init_9 ?_
  refine V.congr (hy_put (m := 0) rfl) ?_
  show V X 1 49 131 (hy σ 1) 12 [some (.ref 130), some (.int a1), some (.int a2), some (.int a3), none] []
  refine V.blk hC [(.aload_n 0, 1), (.bipush 49, 2)] 12 _ _ ⟨d_Y_init_12, d_Y_init_13, trivial⟩ (show tv_run _ _ _ _ = some (15, [some (.ref 130), some (.int a1), some (.int a2), some (.int a3), none], [.int (49 : Int32), .ref 130]) from rfl) ?_
  refine V.newi hC (t := 0) (N := 49) rfl tm_ar_int (by decide) (by decide) (by decide) ⟨tm_le rfl, tm_le rfl⟩ d_Y_init_15 ?_
  refine V.congr (hy_new (by decide) ((hp_at kd_132).trans rfl)) ?_
  refine V.putf hC tf_Y_13 (v := .ref 132) tt_Y to_Y tn_Y rfl (to_Y 5 (by decide)) tm_fra ⟨by omega, by omega⟩ hy_at (tm_le rfl) d_Y_init_17 ?_
  refine V.congr (hy_put (m := 1) rfl) ?_
  show V X 2 98 132 (hy σ 2) 20 [some (.ref 130), some (.int a1), some (.int a2), some (.int a3), none] []
  refine V.blk hC [(.aload_n 0, 1), (.bipush 49, 2)] 20 _ _ ⟨d_Y_init_20, d_Y_init_21, trivial⟩ (show tv_run _ _ _ _ = some (23, [some (.ref 130), some (.int a1), some (.int a2), some (.int a3), none], [.int (49 : Int32), .ref 130]) from rfl) ?_
  refine V.newz hC (t := 1) (N := 49) rfl tm_ar_boolean (by decide) (by decide) (by decide) ⟨tm_le rfl, tm_le rfl⟩ d_Y_init_23 ?_
  refine V.congr (hy_new (by decide) ((hp_at kd_133).trans rfl)) ?_
  refine V.putf hC tf_Y_16 (v := .ref 133) tt_Y to_Y tn_Y rfl (to_Y 6 (by decide)) tm_fra ⟨by omega, by omega⟩ hy_at (tm_le rfl) d_Y_init_25 ?_
  refine V.congr (hy_put (m := 2) rfl) ?_
  show V X 3 147 133 (hy σ 3) 28 [some (.ref 130), some (.int a1), some (.int a2), some (.int a3), none] []
  refine V.blk hC [(.aload_n 0, 1), (.bipush 49, 2)] 28 _ _ ⟨d_Y_init_28, d_Y_init_29, trivial⟩ (show tv_run _ _ _ _ = some (31, [some (.ref 130), some (.int a1), some (.int a2), some (.int a3), none], [.int (49 : Int32), .ref 130]) from rfl) ?_
  refine V.newi hC (t := 0) (N := 49) rfl tm_ar_int (by decide) (by decide) (by decide) ⟨tm_le rfl, tm_le rfl⟩ d_Y_init_31 ?_
  refine V.congr (hy_new (by decide) ((hp_at kd_134).trans rfl)) ?_
  refine V.putf hC tf_Y_20 (v := .ref 134) tt_Y to_Y tn_Y rfl (to_Y 7 (by decide)) tm_fra ⟨by omega, by omega⟩ hy_at (tm_le rfl) d_Y_init_33 ?_
  refine V.congr (hy_put (m := 3) rfl) ?_
  show V X 4 196 134 (hy σ 4) 36 [some (.ref 130), some (.int a1), some (.int a2), some (.int a3), none] []
  refine V.blk hC [(.aload_n 0, 1), (.bipush 49, 2)] 36 _ _ ⟨d_Y_init_36, d_Y_init_37, trivial⟩ (show tv_run _ _ _ _ = some (39, [some (.ref 130), some (.int a1), some (.int a2), some (.int a3), none], [.int (49 : Int32), .ref 130]) from rfl) ?_
  refine V.newi hC (t := 0) (N := 49) rfl tm_ar_int (by decide) (by decide) (by decide) ⟨tm_le rfl, tm_le rfl⟩ d_Y_init_39 ?_
  refine V.congr (hy_new (by decide) ((hp_at kd_135).trans rfl)) ?_
  refine V.putf hC tf_Y_23 (v := .ref 135) tt_Y to_Y tn_Y rfl (to_Y 8 (by decide)) tm_fra ⟨by omega, by omega⟩ hy_at (tm_le rfl) d_Y_init_41 ?_
  refine V.congr (hy_put (m := 4) rfl) ?_
  show V X 5 245 135 (hy σ 5) 44 [some (.ref 130), some (.int a1), some (.int a2), some (.int a3), none] []
  refine V.blk hC [(.aload_n 0, 1), (.bipush 49, 2)] 44 _ _ ⟨d_Y_init_44, d_Y_init_45, trivial⟩ (show tv_run _ _ _ _ = some (47, [some (.ref 130), some (.int a1), some (.int a2), some (.int a3), none], [.int (49 : Int32), .ref 130]) from rfl) ?_
  refine V.newi hC (t := 0) (N := 49) rfl tm_ar_int (by decide) (by decide) (by decide) ⟨tm_le rfl, tm_le rfl⟩ d_Y_init_47 ?_
  refine V.congr (hy_new (by decide) ((hp_at kd_136).trans rfl)) ?_
  refine V.putf hC tf_Y_26 (v := .ref 136) tt_Y to_Y tn_Y rfl (to_Y 9 (by decide)) tm_fra ⟨by omega, by omega⟩ hy_at (tm_le rfl) d_Y_init_49 ?_
  refine V.congr (hy_put (m := 5) rfl) ?_
  show V X 6 294 136 (hy σ 6) 52 [some (.ref 130), some (.int a1), some (.int a2), some (.int a3), none] []
  refine V.blk hC [(.aload_n 0, 1), (.bipush 7, 2)] 52 _ _ ⟨d_Y_init_52, d_Y_init_53, trivial⟩ (show tv_run _ _ _ _ = some (55, [some (.ref 130), some (.int a1), some (.int a2), some (.int a3), none], [.int (7 : Int32), .ref 130]) from rfl) ?_
  refine V.newz hC (t := 1) (N := 7) rfl tm_ar_boolean (by decide) (by decide) (by decide) ⟨tm_le rfl, tm_le rfl⟩ d_Y_init_55 ?_
  refine V.congr (hy_new (by decide) ((hp_at kd_137).trans rfl)) ?_
  refine V.putf hC tf_Y_29 (v := .ref 137) tt_Y to_Y tn_Y rfl (to_Y 10 (by decide)) tm_fra ⟨by omega, by omega⟩ hy_at (tm_le rfl) d_Y_init_57 ?_
  refine V.congr (hy_put (m := 6) rfl) ?_
  show V X 7 301 137 (hy σ 7) 60 [some (.ref 130), some (.int a1), some (.int a2), some (.int a3), none] []
  refine V.blk hC [(.aload_n 0, 1), (.bipush 7, 2)] 60 _ _ ⟨d_Y_init_60, d_Y_init_61, trivial⟩ (show tv_run _ _ _ _ = some (63, [some (.ref 130), some (.int a1), some (.int a2), some (.int a3), none], [.int (7 : Int32), .ref 130]) from rfl) ?_
  refine V.newi hC (t := 0) (N := 7) rfl tm_ar_int (by decide) (by decide) (by decide) ⟨tm_le rfl, tm_le rfl⟩ d_Y_init_63 ?_
  refine V.congr (hy_new (by decide) ((hp_at kd_138).trans rfl)) ?_
  refine V.putf hC tf_Y_32 (v := .ref 138) tt_Y to_Y tn_Y rfl (to_Y 11 (by decide)) tm_fra ⟨by omega, by omega⟩ hy_at (tm_le rfl) d_Y_init_65 ?_
  refine V.congr (hy_put (m := 7) rfl) ?_
  show V X 8 308 138 (hy σ 8) 68 [some (.ref 130), some (.int a1), some (.int a2), some (.int a3), none] []
  refine V.blk hC [(.aload_n 0, 1), (.bipush 7, 2)] 68 _ _ ⟨d_Y_init_68, d_Y_init_69, trivial⟩ (show tv_run _ _ _ _ = some (71, [some (.ref 130), some (.int a1), some (.int a2), some (.int a3), none], [.int (7 : Int32), .ref 130]) from rfl) ?_
  refine V.newi hC (t := 0) (N := 7) rfl tm_ar_int (by decide) (by decide) (by decide) ⟨tm_le rfl, tm_le rfl⟩ d_Y_init_71 ?_
  refine V.congr (hy_new (by decide) ((hp_at kd_139).trans rfl)) ?_
  refine V.putf hC tf_Y_35 (v := .ref 139) tt_Y to_Y tn_Y rfl (to_Y 12 (by decide)) tm_fra ⟨by omega, by omega⟩ hy_at (tm_le rfl) d_Y_init_73 ?_
  refine V.congr (hy_put (m := 8) rfl) ?_
  show V X 9 315 139 (hy σ 9) 76 [some (.ref 130), some (.int a1), some (.int a2), some (.int a3), none] []
  refine V.blk hC [(.aload_n 0, 1), (.bipush 7, 2)] 76 _ _ ⟨d_Y_init_76, d_Y_init_77, trivial⟩ (show tv_run _ _ _ _ = some (79, [some (.ref 130), some (.int a1), some (.int a2), some (.int a3), none], [.int (7 : Int32), .ref 130]) from rfl) ?_
  refine V.newi hC (t := 0) (N := 7) rfl tm_ar_int (by decide) (by decide) (by decide) ⟨tm_le rfl, tm_le rfl⟩ d_Y_init_79 ?_
  refine V.congr (hy_new (by decide) ((hp_at kd_140).trans rfl)) ?_
  refine V.putf hC tf_Y_38 (v := .ref 140) tt_Y to_Y tn_Y rfl (to_Y 13 (by decide)) tm_fra ⟨by omega, by omega⟩ hy_at (tm_le rfl) d_Y_init_81 ?_
  refine V.congr (hy_put (m := 9) rfl) ?_
  show V X 10 322 140 (hy σ 10) 84 [some (.ref 130), some (.int a1), some (.int a2), some (.int a3), none] []
  refine V.blk hC [(.aload_n 0, 1), (.bipush 7, 2)] 84 _ _ ⟨d_Y_init_84, d_Y_init_85, trivial⟩ (show tv_run _ _ _ _ = some (87, [some (.ref 130), some (.int a1), some (.int a2), some (.int a3), none], [.int (7 : Int32), .ref 130]) from rfl) ?_
  refine V.newi hC (t := 0) (N := 7) rfl tm_ar_int (by decide) (by decide) (by decide) ⟨tm_le rfl, tm_le rfl⟩ d_Y_init_87 ?_
  refine V.congr (hy_new (by decide) ((hp_at kd_141).trans rfl)) ?_
  refine V.putf hC tf_Y_41 (v := .ref 141) tt_Y to_Y tn_Y rfl (to_Y 14 (by decide)) tm_fra ⟨by omega, by omega⟩ hy_at (tm_le rfl) d_Y_init_89 ?_
  refine V.congr (hy_put (m := 10) rfl) ?_
  show V X 11 329 141 (hy σ 11) 92 [some (.ref 130), some (.int a1), some (.int a2), some (.int a3), none] []
  refine V.blk hC [(.aload_n 0, 1), (.bipush 7, 2)] 92 _ _ ⟨d_Y_init_92, d_Y_init_93, trivial⟩ (show tv_run _ _ _ _ = some (95, [some (.ref 130), some (.int a1), some (.int a2), some (.int a3), none], [.int (7 : Int32), .ref 130]) from rfl) ?_
  refine V.newz hC (t := 1) (N := 7) rfl tm_ar_boolean (by decide) (by decide) (by decide) ⟨tm_le rfl, tm_le rfl⟩ d_Y_init_95 ?_
  refine V.congr (hy_new (by decide) ((hp_at kd_142).trans rfl)) ?_
  refine V.putf hC tf_Y_44 (v := .ref 142) tt_Y to_Y tn_Y rfl (to_Y 15 (by decide)) tm_fra ⟨by omega, by omega⟩ hy_at (tm_le rfl) d_Y_init_97 ?_
  refine V.congr (hy_put (m := 11) rfl) ?_
  show V X 12 336 142 (hy σ 12) 100 [some (.ref 130), some (.int a1), some (.int a2), some (.int a3), none] []
  refine V.blk hC [(.aload_n 0, 1), (.bipush 7, 2)] 100 _ _ ⟨d_Y_init_100, d_Y_init_101, trivial⟩ (show tv_run _ _ _ _ = some (103, [some (.ref 130), some (.int a1), some (.int a2), some (.int a3), none], [.int (7 : Int32), .ref 130]) from rfl) ?_
  refine V.newi hC (t := 0) (N := 7) rfl tm_ar_int (by decide) (by decide) (by decide) ⟨tm_le rfl, tm_le rfl⟩ d_Y_init_103 ?_
  refine V.congr (hy_new (by decide) ((hp_at kd_143).trans rfl)) ?_
  refine V.putf hC tf_Y_47 (v := .ref 143) tt_Y to_Y tn_Y rfl (to_Y 16 (by decide)) tm_fra ⟨by omega, by omega⟩ hy_at (tm_le rfl) d_Y_init_105 ?_
  refine V.congr (hy_put (m := 12) rfl) ?_
  show V X 13 343 143 (hy σ 13) 108 [some (.ref 130), some (.int a1), some (.int a2), some (.int a3), none] []
  refine V.blk hC [(.aload_n 0, 1), (.bipush 7, 2)] 108 _ _ ⟨d_Y_init_108, d_Y_init_109, trivial⟩ (show tv_run _ _ _ _ = some (111, [some (.ref 130), some (.int a1), some (.int a2), some (.int a3), none], [.int (7 : Int32), .ref 130]) from rfl) ?_
  refine V.newi hC (t := 0) (N := 7) rfl tm_ar_int (by decide) (by decide) (by decide) ⟨tm_le rfl, tm_le rfl⟩ d_Y_init_111 ?_
  refine V.congr (hy_new (by decide) ((hp_at kd_144).trans rfl)) ?_
  refine V.putf hC tf_Y_50 (v := .ref 144) tt_Y to_Y tn_Y rfl (to_Y 17 (by decide)) tm_fra ⟨by omega, by omega⟩ hy_at (tm_le rfl) d_Y_init_113 ?_
  refine V.congr (hy_put (m := 13) rfl) ?_
  show V X 14 350 144 (hy σ 14) 116 [some (.ref 130), some (.int a1), some (.int a2), some (.int a3), none] []
  refine V.blk hC [(.aload_n 0, 1), (.bipush 7, 2)] 116 _ _ ⟨d_Y_init_116, d_Y_init_117, trivial⟩ (show tv_run _ _ _ _ = some (119, [some (.ref 130), some (.int a1), some (.int a2), some (.int a3), none], [.int (7 : Int32), .ref 130]) from rfl) ?_
  refine V.newi hC (t := 0) (N := 7) rfl tm_ar_int (by decide) (by decide) (by decide) ⟨tm_le rfl, tm_le rfl⟩ d_Y_init_119 ?_
  refine V.congr (hy_new (by decide) ((hp_at kd_145).trans rfl)) ?_
  refine V.putf hC tf_Y_53 (v := .ref 145) tt_Y to_Y tn_Y rfl (to_Y 18 (by decide)) tm_fra ⟨by omega, by omega⟩ hy_at (tm_le rfl) d_Y_init_121 ?_
  refine V.congr (hy_put (m := 14) rfl) ?_
  show V X 15 357 145 (hy σ 15) 124 [some (.ref 130), some (.int a1), some (.int a2), some (.int a3), none] []
  refine V.blk hC [(.aload_n 0, 1), (.bipush 7, 2)] 124 _ _ ⟨d_Y_init_124, d_Y_init_125, trivial⟩ (show tv_run _ _ _ _ = some (127, [some (.ref 130), some (.int a1), some (.int a2), some (.int a3), none], [.int (7 : Int32), .ref 130]) from rfl) ?_
  refine V.newi hC (t := 0) (N := 7) rfl tm_ar_int (by decide) (by decide) (by decide) ⟨tm_le rfl, tm_le rfl⟩ d_Y_init_127 ?_
  refine V.congr (hy_new (by decide) ((hp_at kd_146).trans rfl)) ?_
  refine V.putf hC tf_Y_56 (v := .ref 146) tt_Y to_Y tn_Y rfl (to_Y 19 (by decide)) tm_fra ⟨by omega, by omega⟩ hy_at (tm_le rfl) d_Y_init_129 ?_
  refine V.congr (hy_put (m := 15) rfl) ?_
  show V X 16 364 146 (hy σ 16) 132 [some (.ref 130), some (.int a1), some (.int a2), some (.int a3), none] []
  refine V.blk hC [(.aload_n 0, 1), (.bipush 28, 2)] 132 _ _ ⟨d_Y_init_132, d_Y_init_133, trivial⟩ (show tv_run _ _ _ _ = some (135, [some (.ref 130), some (.int a1), some (.int a2), some (.int a3), none], [.int (28 : Int32), .ref 130]) from rfl) ?_
  refine V.newi hC (t := 0) (N := 28) rfl tm_ar_int (by decide) (by decide) (by decide) ⟨tm_le rfl, tm_le rfl⟩ d_Y_init_135 ?_
  refine V.congr (hy_new (by decide) ((hp_at kd_147).trans rfl)) ?_
  refine V.putf hC tf_Y_59 (v := .ref 147) tt_Y to_Y tn_Y rfl (to_Y 20 (by decide)) tm_fra ⟨by omega, by omega⟩ hy_at (tm_le rfl) d_Y_init_137 ?_
  refine V.congr (hy_put (m := 16) rfl) ?_
  show V X 17 392 147 (hy σ 17) 140 [some (.ref 130), some (.int a1), some (.int a2), some (.int a3), none] []
  refine V.blk hC [(.aload_n 0, 1), (.bipush 7, 2)] 140 _ _ ⟨d_Y_init_140, d_Y_init_141, trivial⟩ (show tv_run _ _ _ _ = some (143, [some (.ref 130), some (.int a1), some (.int a2), some (.int a3), none], [.int (7 : Int32), .ref 130]) from rfl) ?_
  refine V.newi hC (t := 0) (N := 7) rfl tm_ar_int (by decide) (by decide) (by decide) ⟨tm_le rfl, tm_le rfl⟩ d_Y_init_143 ?_
  refine V.congr (hy_new (by decide) ((hp_at kd_148).trans rfl)) ?_
  refine V.putf hC tf_Y_62 (v := .ref 148) tt_Y to_Y tn_Y rfl (to_Y 21 (by decide)) tm_fra ⟨by omega, by omega⟩ hy_at (tm_le rfl) d_Y_init_145 ?_
  refine V.congr (hy_put (m := 17) rfl) ?_
  show V X 18 399 148 (hy σ 18) 148 [some (.ref 130), some (.int a1), some (.int a2), some (.int a3), none] []
  refine V.blk hC [(.aload_n 0, 1), (.bipush 7, 2)] 148 _ _ ⟨d_Y_init_148, d_Y_init_149, trivial⟩ (show tv_run _ _ _ _ = some (151, [some (.ref 130), some (.int a1), some (.int a2), some (.int a3), none], [.int (7 : Int32), .ref 130]) from rfl) ?_
  refine V.newi hC (t := 0) (N := 7) rfl tm_ar_int (by decide) (by decide) (by decide) ⟨tm_le rfl, tm_le rfl⟩ d_Y_init_151 ?_
  refine V.congr (hy_new (by decide) ((hp_at kd_149).trans rfl)) ?_
  refine V.putf hC tf_Y_65 (v := .ref 149) tt_Y to_Y tn_Y rfl (to_Y 22 (by decide)) tm_fra ⟨by omega, by omega⟩ hy_at (tm_le rfl) d_Y_init_153 ?_
  refine V.congr (hy_put (m := 18) rfl) ?_
  show V X 19 406 149 (hy σ 19) 156 [some (.ref 130), some (.int a1), some (.int a2), some (.int a3), none] []
  refine V.blk hC [(.aload_n 0, 1), (.bipush 7, 2)] 156 _ _ ⟨d_Y_init_156, d_Y_init_157, trivial⟩ (show tv_run _ _ _ _ = some (159, [some (.ref 130), some (.int a1), some (.int a2), some (.int a3), none], [.int (7 : Int32), .ref 130]) from rfl) ?_
  refine V.newi hC (t := 0) (N := 7) rfl tm_ar_int (by decide) (by decide) (by decide) ⟨tm_le rfl, tm_le rfl⟩ d_Y_init_159 ?_
  refine V.congr (hy_new (by decide) ((hp_at kd_150).trans rfl)) ?_
  refine V.putf hC tf_Y_68 (v := .ref 150) tt_Y to_Y tn_Y rfl (to_Y 23 (by decide)) tm_fra ⟨by omega, by omega⟩ hy_at (tm_le rfl) d_Y_init_161 ?_
  refine V.congr (hy_put (m := 19) rfl) ?_
  show V X 20 413 150 (hy σ 20) 164 [some (.ref 130), some (.int a1), some (.int a2), some (.int a3), none] []
  refine V.blk hC [(.aload_n 0, 1), (.bipush 7, 2)] 164 _ _ ⟨d_Y_init_164, d_Y_init_165, trivial⟩ (show tv_run _ _ _ _ = some (167, [some (.ref 130), some (.int a1), some (.int a2), some (.int a3), none], [.int (7 : Int32), .ref 130]) from rfl) ?_
  refine V.newi hC (t := 0) (N := 7) rfl tm_ar_int (by decide) (by decide) (by decide) ⟨tm_le rfl, tm_le rfl⟩ d_Y_init_167 ?_
  refine V.congr (hy_new (by decide) ((hp_at kd_151).trans rfl)) ?_
  refine V.putf hC tf_Y_71 (v := .ref 151) tt_Y to_Y tn_Y rfl (to_Y 24 (by decide)) tm_fra ⟨by omega, by omega⟩ hy_at (tm_le rfl) d_Y_init_169 ?_
  refine V.congr (hy_put (m := 20) rfl) ?_
  show V X 21 420 151 (hy σ 21) 172 [some (.ref 130), some (.int a1), some (.int a2), some (.int a3), none] []
  refine V.blk hC [(.aload_n 0, 1), (.bipush 7, 2)] 172 _ _ ⟨d_Y_init_172, d_Y_init_173, trivial⟩ (show tv_run _ _ _ _ = some (175, [some (.ref 130), some (.int a1), some (.int a2), some (.int a3), none], [.int (7 : Int32), .ref 130]) from rfl) ?_
  refine V.newi hC (t := 0) (N := 7) rfl tm_ar_int (by decide) (by decide) (by decide) ⟨tm_le rfl, tm_le rfl⟩ d_Y_init_175 ?_
  refine V.congr (hy_new (by decide) ((hp_at kd_152).trans rfl)) ?_
  refine V.putf hC tf_Y_74 (v := .ref 152) tt_Y to_Y tn_Y rfl (to_Y 25 (by decide)) tm_fra ⟨by omega, by omega⟩ hy_at (tm_le rfl) d_Y_init_177 ?_
  refine V.congr (hy_put (m := 21) rfl) ?_
  show V X 22 427 152 (hy σ 22) 180 [some (.ref 130), some (.int a1), some (.int a2), some (.int a3), none] []
  refine V.blk hC [(.aload_n 0, 1), (.bipush 7, 2)] 180 _ _ ⟨d_Y_init_180, d_Y_init_181, trivial⟩ (show tv_run _ _ _ _ = some (183, [some (.ref 130), some (.int a1), some (.int a2), some (.int a3), none], [.int (7 : Int32), .ref 130]) from rfl) ?_
  refine V.newz hC (t := 1) (N := 7) rfl tm_ar_boolean (by decide) (by decide) (by decide) ⟨tm_le rfl, tm_le rfl⟩ d_Y_init_183 ?_
  refine V.congr (hy_new (by decide) ((hp_at kd_153).trans rfl)) ?_
  refine V.putf hC tf_Y_77 (v := .ref 153) tt_Y to_Y tn_Y rfl (to_Y 26 (by decide)) tm_fra ⟨by omega, by omega⟩ hy_at (tm_le rfl) d_Y_init_185 ?_
  refine V.congr (hy_put (m := 22) rfl) ?_
  show V X 23 434 153 (hy σ 23) 188 [some (.ref 130), some (.int a1), some (.int a2), some (.int a3), none] []
  refine V.blk hC [(.aload_n 0, 1), (.bipush 32, 2)] 188 _ _ ⟨d_Y_init_188, d_Y_init_189, trivial⟩ (show tv_run _ _ _ _ = some (191, [some (.ref 130), some (.int a1), some (.int a2), some (.int a3), none], [.int (32 : Int32), .ref 130]) from rfl) ?_
  refine V.newz hC (t := 1) (N := 32) rfl tm_ar_boolean (by decide) (by decide) (by decide) ⟨tm_le rfl, tm_le rfl⟩ d_Y_init_191 ?_
  refine V.congr (hy_new (by decide) ((hp_at kd_154).trans rfl)) ?_
  refine V.putf hC tf_Y_80 (v := .ref 154) tt_Y to_Y tn_Y rfl (to_Y 27 (by decide)) tm_fra ⟨by omega, by omega⟩ hy_at (tm_le rfl) d_Y_init_193 ?_
  refine V.congr (hy_put (m := 23) rfl) ?_
  show V X 24 466 154 (hy σ 24) 196 [some (.ref 130), some (.int a1), some (.int a2), some (.int a3), none] []
  refine V.blk hC [(.aload_n 0, 1), (.bipush 32, 2)] 196 _ _ ⟨d_Y_init_196, d_Y_init_197, trivial⟩ (show tv_run _ _ _ _ = some (199, [some (.ref 130), some (.int a1), some (.int a2), some (.int a3), none], [.int (32 : Int32), .ref 130]) from rfl) ?_
  refine V.newi hC (t := 0) (N := 32) rfl tm_ar_int (by decide) (by decide) (by decide) ⟨tm_le rfl, tm_le rfl⟩ d_Y_init_199 ?_
  refine V.congr (hy_new (by decide) ((hp_at kd_155).trans rfl)) ?_
  refine V.putf hC tf_Y_83 (v := .ref 155) tt_Y to_Y tn_Y rfl (to_Y 28 (by decide)) tm_fra ⟨by omega, by omega⟩ hy_at (tm_le rfl) d_Y_init_201 ?_
  refine V.congr (hy_put (m := 24) rfl) ?_
  show V X 25 498 155 (hy σ 25) 204 [some (.ref 130), some (.int a1), some (.int a2), some (.int a3), none] []
  refine V.blk hC [(.aload_n 0, 1), (.bipush 32, 2)] 204 _ _ ⟨d_Y_init_204, d_Y_init_205, trivial⟩ (show tv_run _ _ _ _ = some (207, [some (.ref 130), some (.int a1), some (.int a2), some (.int a3), none], [.int (32 : Int32), .ref 130]) from rfl) ?_
  refine V.newi hC (t := 0) (N := 32) rfl tm_ar_int (by decide) (by decide) (by decide) ⟨tm_le rfl, tm_le rfl⟩ d_Y_init_207 ?_
  refine V.congr (hy_new (by decide) ((hp_at kd_156).trans rfl)) ?_
  refine V.putf hC tf_Y_86 (v := .ref 156) tt_Y to_Y tn_Y rfl (to_Y 29 (by decide)) tm_fra ⟨by omega, by omega⟩ hy_at (tm_le rfl) d_Y_init_209 ?_
  refine V.congr (hy_put (m := 25) rfl) ?_
  show V X 26 530 156 (hy σ 26) 212 [some (.ref 130), some (.int a1), some (.int a2), some (.int a3), none] []
  refine V.blk hC [(.aload_n 0, 1), (.bipush 32, 2)] 212 _ _ ⟨d_Y_init_212, d_Y_init_213, trivial⟩ (show tv_run _ _ _ _ = some (215, [some (.ref 130), some (.int a1), some (.int a2), some (.int a3), none], [.int (32 : Int32), .ref 130]) from rfl) ?_
  refine V.newi hC (t := 0) (N := 32) rfl tm_ar_int (by decide) (by decide) (by decide) ⟨tm_le rfl, tm_le rfl⟩ d_Y_init_215 ?_
  refine V.congr (hy_new (by decide) ((hp_at kd_157).trans rfl)) ?_
  refine V.putf hC tf_Y_89 (v := .ref 157) tt_Y to_Y tn_Y rfl (to_Y 30 (by decide)) tm_fra ⟨by omega, by omega⟩ hy_at (tm_le rfl) d_Y_init_217 ?_
  refine V.congr (hy_put (m := 26) rfl) ?_
  show V X 27 562 157 (hy σ 27) 220 [some (.ref 130), some (.int a1), some (.int a2), some (.int a3), none] []
  refine V.blk hC [(.aload_n 0, 1), (.bipush 32, 2)] 220 _ _ ⟨d_Y_init_220, d_Y_init_221, trivial⟩ (show tv_run _ _ _ _ = some (223, [some (.ref 130), some (.int a1), some (.int a2), some (.int a3), none], [.int (32 : Int32), .ref 130]) from rfl) ?_
  refine V.newi hC (t := 0) (N := 32) rfl tm_ar_int (by decide) (by decide) (by decide) ⟨tm_le rfl, tm_le rfl⟩ d_Y_init_223 ?_
  refine V.congr (hy_new (by decide) ((hp_at kd_158).trans rfl)) ?_
  refine V.putf hC tf_Y_92 (v := .ref 158) tt_Y to_Y tn_Y rfl (to_Y 31 (by decide)) tm_fra ⟨by omega, by omega⟩ hy_at (tm_le rfl) d_Y_init_225 ?_
  refine V.congr (hy_put (m := 27) rfl) ?_
  show V X 28 594 158 (hy σ 28) 228 [some (.ref 130), some (.int a1), some (.int a2), some (.int a3), none] []
  refine V.blk hC [(.aload_n 0, 1), (.sipush 224, 3)] 228 _ _ ⟨d_Y_init_228, d_Y_init_229, trivial⟩ (show tv_run _ _ _ _ = some (232, [some (.ref 130), some (.int a1), some (.int a2), some (.int a3), none], [.int (224 : Int32), .ref 130]) from rfl) ?_
  refine V.newi hC (t := 0) (N := 224) rfl tm_ar_int (by decide) (by decide) (by decide) ⟨tm_le rfl, tm_le rfl⟩ d_Y_init_232 ?_
  refine V.congr (hy_new (by decide) ((hp_at kd_159).trans rfl)) ?_
  refine V.putf hC tf_Y_95 (v := .ref 159) tt_Y to_Y tn_Y rfl (to_Y 32 (by decide)) tm_fra ⟨by omega, by omega⟩ hy_at (tm_le rfl) d_Y_init_234 ?_
  refine V.congr (hy_put (m := 28) rfl) ?_
  show V X 29 818 159 (hy σ 29) 237 [some (.ref 130), some (.int a1), some (.int a2), some (.int a3), none] []
  refine V.blk hC [(.aload_n 0, 1), (.bipush 32, 2)] 237 _ _ ⟨d_Y_init_237, d_Y_init_238, trivial⟩ (show tv_run _ _ _ _ = some (240, [some (.ref 130), some (.int a1), some (.int a2), some (.int a3), none], [.int (32 : Int32), .ref 130]) from rfl) ?_
  refine V.newz hC (t := 1) (N := 32) rfl tm_ar_boolean (by decide) (by decide) (by decide) ⟨tm_le rfl, tm_le rfl⟩ d_Y_init_240 ?_
  refine V.congr (hy_new (by decide) ((hp_at kd_160).trans rfl)) ?_
  refine V.putf hC tf_Y_98 (v := .ref 160) tt_Y to_Y tn_Y rfl (to_Y 33 (by decide)) tm_fra ⟨by omega, by omega⟩ hy_at (tm_le rfl) d_Y_init_242 ?_
  refine V.congr (hy_put (m := 29) rfl) ?_
  show V X 30 850 160 (hy σ 30) 245 [some (.ref 130), some (.int a1), some (.int a2), some (.int a3), none] []
  refine V.blk hC [(.aload_n 0, 1), (.bipush 32, 2)] 245 _ _ ⟨d_Y_init_245, d_Y_init_246, trivial⟩ (show tv_run _ _ _ _ = some (248, [some (.ref 130), some (.int a1), some (.int a2), some (.int a3), none], [.int (32 : Int32), .ref 130]) from rfl) ?_
  refine V.newi hC (t := 0) (N := 32) rfl tm_ar_int (by decide) (by decide) (by decide) ⟨tm_le rfl, tm_le rfl⟩ d_Y_init_248 ?_
  refine V.congr (hy_new (by decide) ((hp_at kd_161).trans rfl)) ?_
  refine V.putf hC tf_Y_101 (v := .ref 161) tt_Y to_Y tn_Y rfl (to_Y 34 (by decide)) tm_fra ⟨by omega, by omega⟩ hy_at (tm_le rfl) d_Y_init_250 ?_
  refine V.congr (hy_put (m := 30) rfl) ?_
  show V X 31 882 161 (hy σ 31) 253 [some (.ref 130), some (.int a1), some (.int a2), some (.int a3), none] []
  refine V.blk hC [(.aload_n 0, 1), (.bipush 32, 2)] 253 _ _ ⟨d_Y_init_253, d_Y_init_254, trivial⟩ (show tv_run _ _ _ _ = some (256, [some (.ref 130), some (.int a1), some (.int a2), some (.int a3), none], [.int (32 : Int32), .ref 130]) from rfl) ?_
  refine V.newi hC (t := 0) (N := 32) rfl tm_ar_int (by decide) (by decide) (by decide) ⟨tm_le rfl, tm_le rfl⟩ d_Y_init_256 ?_
  refine V.congr (hy_new (by decide) ((hp_at kd_162).trans rfl)) ?_
  refine V.putf hC tf_Y_104 (v := .ref 162) tt_Y to_Y tn_Y rfl (to_Y 35 (by decide)) tm_fra ⟨by omega, by omega⟩ hy_at (tm_le rfl) d_Y_init_258 ?_
  refine V.congr (hy_put (m := 31) rfl) ?_
  show V X 32 914 162 (hy σ 32) 261 [some (.ref 130), some (.int a1), some (.int a2), some (.int a3), none] []
  refine V.blk hC [(.aload_n 0, 1), (.bipush 32, 2)] 261 _ _ ⟨d_Y_init_261, d_Y_init_262, trivial⟩ (show tv_run _ _ _ _ = some (264, [some (.ref 130), some (.int a1), some (.int a2), some (.int a3), none], [.int (32 : Int32), .ref 130]) from rfl) ?_
  refine V.newi hC (t := 0) (N := 32) rfl tm_ar_int (by decide) (by decide) (by decide) ⟨tm_le rfl, tm_le rfl⟩ d_Y_init_264 ?_
  refine V.congr (hy_new (by decide) ((hp_at kd_163).trans rfl)) ?_
  refine V.putf hC tf_Y_107 (v := .ref 163) tt_Y to_Y tn_Y rfl (to_Y 36 (by decide)) tm_fra ⟨by omega, by omega⟩ hy_at (tm_le rfl) d_Y_init_266 ?_
  refine V.congr (hy_put (m := 32) rfl) ?_
  show V X 33 946 163 (hy σ 33) 269 [some (.ref 130), some (.int a1), some (.int a2), some (.int a3), none] []
  refine V.blk hC [(.aload_n 0, 1), (.bipush 32, 2)] 269 _ _ ⟨d_Y_init_269, d_Y_init_270, trivial⟩ (show tv_run _ _ _ _ = some (272, [some (.ref 130), some (.int a1), some (.int a2), some (.int a3), none], [.int (32 : Int32), .ref 130]) from rfl) ?_
  refine V.newi hC (t := 0) (N := 32) rfl tm_ar_int (by decide) (by decide) (by decide) ⟨tm_le rfl, tm_le rfl⟩ d_Y_init_272 ?_
  refine V.congr (hy_new (by decide) ((hp_at kd_164).trans rfl)) ?_
  refine V.putf hC tf_Y_110 (v := .ref 164) tt_Y to_Y tn_Y rfl (to_Y 37 (by decide)) tm_fra ⟨by omega, by omega⟩ hy_at (tm_le rfl) d_Y_init_274 ?_
  refine V.congr (hy_put (m := 33) rfl) ?_
  show V X 34 978 164 (hy σ 34) 277 [some (.ref 130), some (.int a1), some (.int a2), some (.int a3), none] []
  refine V.blk hC [(.aload_n 0, 1), (.bipush 32, 2)] 277 _ _ ⟨d_Y_init_277, d_Y_init_278, trivial⟩ (show tv_run _ _ _ _ = some (280, [some (.ref 130), some (.int a1), some (.int a2), some (.int a3), none], [.int (32 : Int32), .ref 130]) from rfl) ?_
  refine V.newz hC (t := 1) (N := 32) rfl tm_ar_boolean (by decide) (by decide) (by decide) ⟨tm_le rfl, tm_le rfl⟩ d_Y_init_280 ?_
  refine V.congr (hy_new (by decide) ((hp_at kd_165).trans rfl)) ?_
  refine V.putf hC tf_Y_113 (v := .ref 165) tt_Y to_Y tn_Y rfl (to_Y 38 (by decide)) tm_fra ⟨by omega, by omega⟩ hy_at (tm_le rfl) d_Y_init_282 ?_
  refine V.congr (hy_put (m := 34) rfl) ?_
  show V X 35 1010 165 (hy σ 35) 285 [some (.ref 130), some (.int a1), some (.int a2), some (.int a3), none] []
  refine V.blk hC [(.aload_n 0, 1), (.bipush 32, 2)] 285 _ _ ⟨d_Y_init_285, d_Y_init_286, trivial⟩ (show tv_run _ _ _ _ = some (288, [some (.ref 130), some (.int a1), some (.int a2), some (.int a3), none], [.int (32 : Int32), .ref 130]) from rfl) ?_
  refine V.newz hC (t := 1) (N := 32) rfl tm_ar_boolean (by decide) (by decide) (by decide) ⟨tm_le rfl, tm_le rfl⟩ d_Y_init_288 ?_
  refine V.congr (hy_new (by decide) ((hp_at kd_166).trans rfl)) ?_
  refine V.putf hC tf_Y_116 (v := .ref 166) tt_Y to_Y tn_Y rfl (to_Y 39 (by decide)) tm_fra ⟨by omega, by omega⟩ hy_at (tm_le rfl) d_Y_init_290 ?_
  refine V.congr (hy_put (m := 35) rfl) ?_
  show V X 36 1042 166 (hy σ 36) 293 [some (.ref 130), some (.int a1), some (.int a2), some (.int a3), none] []
  refine V.blk hC [(.aload_n 0, 1), (.bipush 7, 2)] 293 _ _ ⟨d_Y_init_293, d_Y_init_294, trivial⟩ (show tv_run _ _ _ _ = some (296, [some (.ref 130), some (.int a1), some (.int a2), some (.int a3), none], [.int (7 : Int32), .ref 130]) from rfl) ?_
  refine V.newi hC (t := 0) (N := 7) rfl tm_ar_int (by decide) (by decide) (by decide) ⟨tm_le rfl, tm_le rfl⟩ d_Y_init_296 ?_
  refine V.congr (hy_new (by decide) ((hp_at kd_167).trans rfl)) ?_
  refine V.putf hC tf_Y_119 (v := .ref 167) tt_Y to_Y tn_Y rfl (to_Y 41 (by decide)) tm_fra ⟨by omega, by omega⟩ hy_at (tm_le rfl) d_Y_init_298 ?_
  refine V.congr (hy_put (m := 36) rfl) ?_
  show V X 37 1049 167 (hy σ 37) 301 [some (.ref 130), some (.int a1), some (.int a2), some (.int a3), none] []
  refine V.blk hC [(.aload_n 0, 1), (.bipush 7, 2)] 301 _ _ ⟨d_Y_init_301, d_Y_init_302, trivial⟩ (show tv_run _ _ _ _ = some (304, [some (.ref 130), some (.int a1), some (.int a2), some (.int a3), none], [.int (7 : Int32), .ref 130]) from rfl) ?_
  refine V.newi hC (t := 0) (N := 7) rfl tm_ar_int (by decide) (by decide) (by decide) ⟨tm_le rfl, tm_le rfl⟩ d_Y_init_304 ?_
  refine V.congr (hy_new (by decide) ((hp_at kd_168).trans rfl)) ?_
  refine V.putf hC tf_Y_122 (v := .ref 168) tt_Y to_Y tn_Y rfl (to_Y 42 (by decide)) tm_fra ⟨by omega, by omega⟩ hy_at (tm_le rfl) d_Y_init_306 ?_
  refine V.congr (hy_put (m := 37) rfl) ?_
  show V X 38 1056 168 (hy σ 38) 309 [some (.ref 130), some (.int a1), some (.int a2), some (.int a3), none] []
  refine V.blk hC [(.aload_n 0, 1), (.bipush 7, 2)] 309 _ _ ⟨d_Y_init_309, d_Y_init_310, trivial⟩ (show tv_run _ _ _ _ = some (312, [some (.ref 130), some (.int a1), some (.int a2), some (.int a3), none], [.int (7 : Int32), .ref 130]) from rfl) ?_
  refine V.newz hC (t := 1) (N := 7) rfl tm_ar_boolean (by decide) (by decide) (by decide) ⟨tm_le rfl, tm_le rfl⟩ d_Y_init_312 ?_
  refine V.congr (hy_new (by decide) ((hp_at kd_169).trans rfl)) ?_
  refine V.putf hC tf_Y_125 (v := .ref 169) tt_Y to_Y tn_Y rfl (to_Y 43 (by decide)) tm_fra ⟨by omega, by omega⟩ hy_at (tm_le rfl) d_Y_init_314 ?_
  refine V.congr (hy_put (m := 38) rfl) ?_
  show V X 39 1063 169 (hy σ 39) 317 [some (.ref 130), some (.int a1), some (.int a2), some (.int a3), none] []
  refine V.blk hC [(.aload_n 0, 1), (.bipush 7, 2)] 317 _ _ ⟨d_Y_init_317, d_Y_init_318, trivial⟩ (show tv_run _ _ _ _ = some (320, [some (.ref 130), some (.int a1), some (.int a2), some (.int a3), none], [.int (7 : Int32), .ref 130]) from rfl) ?_
  refine V.newz hC (t := 1) (N := 7) rfl tm_ar_boolean (by decide) (by decide) (by decide) ⟨tm_le rfl, tm_le rfl⟩ d_Y_init_320 ?_
  refine V.congr (hy_new (by decide) ((hp_at kd_170).trans rfl)) ?_
  refine V.putf hC tf_Y_128 (v := .ref 170) tt_Y to_Y tn_Y rfl (to_Y 44 (by decide)) tm_fra ⟨by omega, by omega⟩ hy_at (tm_le rfl) d_Y_init_322 ?_
  refine V.congr (hy_put (m := 39) rfl) ?_
  show V X 40 1070 170 (hy σ 40) 325 [some (.ref 130), some (.int a1), some (.int a2), some (.int a3), none] []
  refine V.blk hC [(.aload_n 0, 1), (.bipush 7, 2)] 325 _ _ ⟨d_Y_init_325, d_Y_init_326, trivial⟩ (show tv_run _ _ _ _ = some (328, [some (.ref 130), some (.int a1), some (.int a2), some (.int a3), none], [.int (7 : Int32), .ref 130]) from rfl) ?_
  refine V.newz hC (t := 1) (N := 7) rfl tm_ar_boolean (by decide) (by decide) (by decide) ⟨tm_le rfl, tm_le rfl⟩ d_Y_init_328 ?_
  refine V.congr (hy_new (by decide) ((hp_at kd_171).trans rfl)) ?_
  refine V.putf hC tf_Y_131 (v := .ref 171) tt_Y to_Y tn_Y rfl (to_Y 45 (by decide)) tm_fra ⟨by omega, by omega⟩ hy_at (tm_le rfl) d_Y_init_330 ?_
  refine V.congr (hy_put (m := 40) rfl) ?_
  show V X 41 1077 171 (hy σ 41) 333 [some (.ref 130), some (.int a1), some (.int a2), some (.int a3), none] []
  refine V.blk hC [(.aload_n 0, 1), (.bipush 7, 2)] 333 _ _ ⟨d_Y_init_333, d_Y_init_334, trivial⟩ (show tv_run _ _ _ _ = some (336, [some (.ref 130), some (.int a1), some (.int a2), some (.int a3), none], [.int (7 : Int32), .ref 130]) from rfl) ?_
  refine V.newi hC (t := 0) (N := 7) rfl tm_ar_int (by decide) (by decide) (by decide) ⟨tm_le rfl, tm_le rfl⟩ d_Y_init_336 ?_
  refine V.congr (hy_new (by decide) ((hp_at kd_172).trans rfl)) ?_
  refine V.putf hC tf_Y_134 (v := .ref 172) tt_Y to_Y tn_Y rfl (to_Y 50 (by decide)) tm_fra ⟨by omega, by omega⟩ hy_at (tm_le rfl) d_Y_init_338 ?_
  refine V.congr (hy_put (m := 41) rfl) ?_
  show V X 42 1084 172 (hy σ 42) 341 [some (.ref 130), some (.int a1), some (.int a2), some (.int a3), none] []
  refine V.blk hC [(.aload_n 0, 1), (.bipush 56, 2)] 341 _ _ ⟨d_Y_init_341, d_Y_init_342, trivial⟩ (show tv_run _ _ _ _ = some (344, [some (.ref 130), some (.int a1), some (.int a2), some (.int a3), none], [.int (56 : Int32), .ref 130]) from rfl) ?_
  refine V.newi hC (t := 0) (N := 56) rfl tm_ar_int (by decide) (by decide) (by decide) ⟨tm_le rfl, tm_le rfl⟩ d_Y_init_344 ?_
  refine V.congr (hy_new (by decide) ((hp_at kd_173).trans rfl)) ?_
  refine V.putf hC tf_Y_137 (v := .ref 173) tt_Y to_Y tn_Y rfl (to_Y 51 (by decide)) tm_fra ⟨by omega, by omega⟩ hy_at (tm_le rfl) d_Y_init_346 ?_
  refine V.congr (hy_put (m := 42) rfl) ?_
  exact V.congr hy_43 kk
