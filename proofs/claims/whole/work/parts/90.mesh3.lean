/-! the mesh's constructor -/
abbrev rmX : Room := { frames := 4, cells := 128, slots := 1085, locals := 82 }
section MESH3
variable {X : tv_X} {L : Nat} {xs : Nat → Int32} {a r k a1 a2 a3 : Int32}
set_option maxHeartbeats 4000000 in
set_option maxRecDepth 100000 in
theorem k_Xl (hC : tv_K X tb_X_init 5 "TrickleMesh" tm_wg tm_ns tm_cl tm_ty rmX) (kk : V X 128 1085 129 (hm (mI L xs a r k) 7) 91 [some (.ref 1), some (.int a1), some (.int a2), some (.int a3), some (.int (Int32.ofNat 7))] []) : ∀ c m, m + c = 7 → V X (9 + 17 * m) (63 + 146 * m) (10 + 17 * m) (hm (mI L xs a r k) m) 62 [some (.ref 1), some (.int a1), some (.int a2), some (.int a3), some (.int (Int32.ofNat m))] []
  | 0, m, hm0 => by
    obtain rfl : m = 7 := by omega
    refine V.blk hC [(.iload 4, 2), (.bipush 7, 2)] 62 _ _ ⟨d_X_init_62, d_X_init_64, trivial⟩ (show tv_run _ _ _ _ = some (66, _, [.int (Int32.ofNat 7), .int (Int32.ofNat 7)]) from rfl) ?_
    refine V.icmp_ge hC d_X_init_66 (tgt := 91) (by decide) (fun _ => ?_) (fun hc => absurd (by decide) hc)
    exact kk
  | c + 1, m, hm0 => by
    have hm7 : m < 7 := by omega
    obtain ⟨b1, b2, b3, b4⟩ := fill_a m hm7
    refine V.blk hC [(.iload 4, 2), (.bipush 7, 2)] 62 _ _ ⟨d_X_init_62, d_X_init_64, trivial⟩ (show tv_run _ _ _ _ = some (66, _, [.int (Int32.ofNat 7), .int (Int32.ofNat m)]) from rfl) ?_
    refine V.icmp_ge hC d_X_init_66 (tgt := 91) (by decide) (fun hc => absurd hc b1) (fun _ => ?_)
    refine V.blk hC [(.aload_n 0, 1)] 69 _ _ ⟨d_X_init_69, trivial⟩ (show tv_run _ _ _ _ = some (70, [some (.ref 1), some (.int a1), some (.int a2), some (.int a3), some (.int (Int32.ofNat m))], [.ref 1]) from rfl) ?_
    refine V.getf hC tf_X_11 (v := .ref 2) ⟨by omega, by omega⟩ ((hm_ne (by decide)).trans (hp_at kd_1)) rfl d_X_init_70 ?_
    refine V.blk hC [(.iload 4, 2)] 73 _ _ ⟨d_X_init_73, trivial⟩ (show tv_run _ _ _ _ = some (75, [some (.ref 1), some (.int a1), some (.int a2), some (.int a3), some (.int (Int32.ofNat m))], [.int (Int32.ofNat m), .ref 2]) from rfl) ?_
    refine V.new hC (ci := 1) (C := tR_N) (T := tT_N) (N := 14) (fs := [.int 0, .null, .null, .null, .null, .null, .null, .null, .int 0, .int 0, .int 0, .int 0, .int 0, .int 0]) tt_N to_N rfl tl_N ⟨tw_X_9, tm_mk_N, ti_N⟩ te_N ⟨by show 9 + 17 * m + 1 ≤ 128; omega, by show 63 + 146 * m + 14 ≤ 1085; omega⟩ d_X_init_75 ?_
    refine V.congr hx_one ?_
    refine V.blk hC [(.dup, 1), (.iload 4, 2)] 78 _ _ ⟨d_X_init_78, d_X_init_79, trivial⟩ (show tv_run _ _ _ _ = some (81, [some (.ref 1), some (.int a1), some (.int a2), some (.int a3), some (.int (Int32.ofNat m))], [.int (Int32.ofNat m), .ref (10 + 17 * m + 1), .ref (10 + 17 * m + 1), .int (Int32.ofNat m), .ref 2]) from rfl) ?_
    refine V.callI hC tm_nest rfl (k_N (hm (mI L xs a r k) m) (10 + 17 * m) (Int32.ofNat m)) (tm_gd tc_N_init) tg_X_39 rfl th_N_init ⟨tm_le rfl, tm_le rfl, by show 9 + 17 * m + 1 + 16 ≤ 128; omega, by show 63 + 146 * m + 14 + 132 ≤ 1085; omega⟩ ⟨by omega, by omega⟩ (As := [.int (Int32.ofNat m)]) (st := [.ref (10 + 17 * m + 1), .int (Int32.ofNat m), .ref 2]) rfl (tm_le rfl) d_X_init_81 ?_
    rintro v n2 h2 ⟨rfl, rfl, rfl⟩
    show V X (9 + 17 * m + 1 + 16) (63 + 146 * m + 14 + 132) (10 + 17 * m + 17) (hx (hm (mI L xs a r k) m) (10 + 17 * m) (kL_N (10 + 17 * m) (Int32.ofNat m))) 84 [some (.ref 1), some (.int a1), some (.int a2), some (.int a3), some (.int (Int32.ofNat m))] [.ref (10 + 17 * m + 1), .int (Int32.ofNat m), .ref 2]
    refine V.aast hC (t := 2) (ci := 1) (r := (tR_N, tT_N, 14)) rfl rfl ⟨by omega, by omega⟩ ((hx_lo (by omega)).trans hm_2) ⟨by omega, by omega⟩ (hx_at (i := 0) rfl) b2 d_X_init_84 ?_
    rw [b3]
    refine V.congr (nd_up hm7) ?_
    refine V.blk hC [(.iinc 4 1, 3)] 85 _ _ ⟨d_X_init_85, trivial⟩ (show tv_run _ _ _ _ = some (88, [some (.ref 1), some (.int a1), some (.int a2), some (.int a3), some (.int (Int32.ofNat m + 1))], []) from rfl) ?_
    rw [b4]
    refine V.goto hC d_X_init_88 (tgt := 62) (by decide) ?_
    have ih := k_Xl hC kk c (m + 1) (by omega)
    rw [show 9 + 17 * (m + 1) = 9 + 17 * m + 1 + 16 by omega, show 63 + 146 * (m + 1) = 63 + 146 * m + 14 + 132 by omega, show 10 + 17 * (m + 1) = 10 + 17 * m + 17 by omega] at ih
    exact ih
/-- the root's own numbers, before its timer is reset -/
def mR (σ : tm_S) : tm_S := sI (sI (sI σ 11 10 1) 11 11 1) 22 0 1
theorem kd_11 : kd 11 = 5 := by decide +kernel
theorem kd_22 : kd 22 = 9 := by decide +kernel
set_option maxHeartbeats 4000000 in
set_option maxRecDepth 100000 in
theorem k_X {h : Nat → tv_C} (h0 : h 0 = .inl (0, (L, .inl xs))) {σ' : tm_S} (hf : f_X_resetTimer (mR (mI L xs a1 (clR a2) (clK a3))) 11 = some σ') : tv_Met ty_X_init (Cond.code ty_X_init tb_X_init 5 none :: tm_wg) tm_ns tm_cl tm_ty 4 82 128 1085 [.ref 1, .int a1, .int a2, .int a3] 1 (hx h 0 [.inr (4, [.int 0, .int 0, .null, .null, .int 0, .int 0, .int 0, .int 0, .int 0, .int 0, .int 0])]) (tm_P1 none σ') := by
  refine tv_Met.of (by decide) rfl (tm_le rfl) ?_
  intro X hC hnm hr hE
  have hC : tv_K X tb_X_init 5 "TrickleMesh" tm_wg tm_ns tm_cl tm_ty rmX := hC
  refine k_Xa hC hnm h 0 a1 a2 a3 ?_
  refine V.congr (mI_0 h0) ?_
  refine k_Xl hC ?_ 7 0 (by omega)
  generalize mI L xs a1 (clR a2) (clK a3) = σ at hf ⊢
  refine V.aext (a := 2) (g := fun j => some (11 + 17 * j)) ⟨by omega, by omega⟩ hm_2 (fun j hj => by rw [if_pos hj]) ?_
  refine V.congr (h' := hp σ) (fun q _ => ?_) ?_
  · by_cases h2 : q = 2
    · subst h2
      rw [va_up_self]
      exact (hp_at kd_2).symm
    · rw [va_up_ne _ _ h2, hm_ne h2]
  refine V.blk hC [(.aload_n 0, 1)] 91 _ _ ⟨d_X_init_91, trivial⟩ (show tv_run _ _ _ _ = some (92, [some (.ref 1), some (.int a1), some (.int a2), some (.int a3), some (.int (Int32.ofNat 7))], [.ref 1]) from rfl) ?_
  refine V.getf hC tf_X_11 (v := .ref 2) ⟨by omega, by omega⟩ (hp_at kd_1) rfl d_X_init_92 ?_
  refine V.blk hC [(.iconst 0, 1)] 95 _ _ ⟨d_X_init_95, trivial⟩ (show tv_run _ _ _ _ = some (96, [some (.ref 1), some (.int a1), some (.int a2), some (.int a3), some (.int (Int32.ofNat 7))], [.int (0 : Int32), .ref 2]) from rfl) ?_
  refine V.aald hC (ty := .object "TrickleMesh$Node") ⟨by omega, by omega⟩ (hp_at kd_2) rfl rfl (show ¬ ((0 : Int32) < 0 ∨ 7 ≤ (0 : Int32).toNatClampNeg) by decide) d_X_init_96 ?_
  show V X 128 1085 129 (hp σ) 97 [some (.ref 1), some (.int a1), some (.int a2), some (.int a3), some (.int (Int32.ofNat 7))] [.ref 11]
  refine V.blk hC [(.astore 4, 2), (.aload 4, 2), (.iconst 1, 1)] 97 _ _ ⟨d_X_init_97, d_X_init_99, d_X_init_101, trivial⟩ (show tv_run _ _ _ _ = some (102, [some (.ref 1), some (.int a1), some (.int a2), some (.int a3), some (.ref 11)], [.int (1 : Int32), .ref 11]) from rfl) ?_
  refine V.seti hC tf_X_42 tt_N to_N tn_N rfl (by decide +kernel) tm_fi kd_11 ⟨by omega, by omega⟩ rfl rfl (tm_le rfl) d_X_init_102 ?_
  refine V.blk hC [(.aload 4, 2), (.iconst 1, 1)] 105 _ _ ⟨d_X_init_105, d_X_init_107, trivial⟩ (show tv_run _ _ _ _ = some (108, [some (.ref 1), some (.int a1), some (.int a2), some (.int a3), some (.ref 11)], [.int (1 : Int32), .ref 11]) from rfl) ?_
  refine V.seti hC tf_X_45 tt_N to_N tn_N rfl (by decide +kernel) tm_fi kd_11 ⟨by omega, by omega⟩ rfl rfl (tm_le rfl) d_X_init_108 ?_
  refine V.blk hC [(.aload 4, 2)] 111 _ _ ⟨d_X_init_111, trivial⟩ (show tv_run _ _ _ _ = some (113, [some (.ref 1), some (.int a1), some (.int a2), some (.int a3), some (.ref 11)], [.ref 11]) from rfl) ?_
  refine V.getf hC tf_X_48 (v := .ref 22) ⟨by omega, by omega⟩ (hp_at kd_11) rfl d_X_init_113 ?_
  refine V.blk hC [(.iconst 1, 1)] 116 _ _ ⟨d_X_init_116, trivial⟩ (show tv_run _ _ _ _ = some (117, [some (.ref 1), some (.int a1), some (.int a2), some (.int a3), some (.ref 11)], [.int (1 : Int32), .ref 22]) from rfl) ?_
  refine V.seti hC tf_X_52 tt_T to_T tn_T rfl (by decide +kernel) (tm_fz (by decide)) kd_22 ⟨by omega, by omega⟩ rfl rfl (tm_le rfl) d_X_init_117 ?_
  refine V.blk hC [(.aload_n 0, 1), (.aload 4, 2)] 120 _ _ ⟨d_X_init_120, d_X_init_121, trivial⟩ (show tv_run _ _ _ _ = some (123, [some (.ref 1), some (.int a1), some (.int a2), some (.int a3), some (.ref 11)], [.ref 11, .ref 1]) from rfl) ?_
  refine V.callV hC tm_nest rfl (c1_X_resetTimer (mR σ) 11 kd_11 hf) (tm_gd tc_X_resetTimer) tg_X_58 th_X_resetTimer ⟨tm_le rfl, tm_le rfl, tm_le rfl, tm_le rfl⟩ (ci := 4) (T := tT_X) (N := 11) rfl ⟨by omega, by omega⟩ (hp_at kd_1) (As := [.ref 11]) (st := []) rfl (tm_le rfl) d_X_init_123 ?_
  rintro v n2 h2 ⟨rfl, rfl, rfl⟩
  exact V.vret hC hr hE d_X_init_126 ⟨rfl, rfl, rfl⟩
end MESH3
