set_option maxHeartbeats 4000000 in
set_option maxRecDepth 100000 in
theorem c_Y_allGoals_L6 {X : tv_X} {r : Int32 × tm_S} (hC : tv_K X tb_Y_allGoals 4 "TrickleMeshModel" tm_wg tm_ns tm_cl tm_ty { frames := 0, cells := 0, slots := 0, locals := 0 }) (hr : tv_ret X (some .int)) (hE : tv_end X (tm_P (some (.int r.1)) r.2) 0 0) : ∀ (k : Nat) (σ : tm_S) (l1 : Int32) (l2 : Int32) (l3 : Int32), f_Y_allGoals_L6 k σ l1 l2 l3 = some r → V X 0 0 tm_n (hp σ) 6 [some (.ref 130), some (.int l1), some (.int l2), some (.int l3)] [] := by
  intro k
  induction k with
  | zero => intro σ l1 l2 l3  hf; simp only [f_Y_allGoals_L6] at hf; cases hf
  | succ k hrc =>
    intro σ l1 l2 l3  hf
    rw [f_Y_allGoals_L6] at hf
    refine V.blk hC [(.iload_n 3, 1), (.bipush 7, 2)] 6 [some (.ref 130), some (.int l1), some (.int l2), some (.int l3)] [] ⟨d_Y_allGoals_6, d_Y_allGoals_7, trivial⟩ (show tv_run _ _ _ _ = some (9, [some (.ref 130), some (.int l1), some (.int l2), some (.int l3)], [.int (7 : Int32), .int l3]) from rfl) ?_
    refine V.icmp_ge hC d_Y_allGoals_9 (tgt := 42) (by decide) (fun hc => ?_) (fun hc => ?_)
    · rw [if_pos hc] at hf
      refine V.blk hC [(.iload_n 2, 1)] 42 [some (.ref 130), some (.int l1), some (.int l2), some (.int l3)] [] ⟨d_Y_allGoals_42, trivial⟩ (show tv_run _ _ _ _ = some (43, [some (.ref 130), some (.int l1), some (.int l2), some (.int l3)], [.int l2]) from rfl) ?_
      obtain rfl := Option.some.inj hf
      exact V.iret hC hr hE d_Y_allGoals_43 ⟨rfl, rfl, rfl⟩
    · rw [if_neg hc] at hf
      refine V.blk hC [(.aload_n 0, 1)] 12 [some (.ref 130), some (.int l1), some (.int l2), some (.int l3)] [] ⟨d_Y_allGoals_12, trivial⟩ (show tv_run _ _ _ _ = some (13, [some (.ref 130), some (.int l1), some (.int l2), some (.int l3)], [.ref 130]) from rfl) ?_
      refine V.getf hC tf_Y_20 (kd_in kd_130 (by decide)) (hp_at kd_130) rfl d_Y_allGoals_13 ?_
      show V X 0 0 tm_n (hp σ) 16 [some (.ref 130), some (.int l1), some (.int l2), some (.int l3)] [.ref 134]
      refine V.blk hC [(.bipush 7, 2), (.iload_n 1, 1), (.imul, 1), (.iload_n 3, 1), (.iadd, 1)] 16 [some (.ref 130), some (.int l1), some (.int l2), some (.int l3)] [.ref 134] ⟨d_Y_allGoals_16, d_Y_allGoals_18, d_Y_allGoals_19, d_Y_allGoals_20, d_Y_allGoals_21, trivial⟩ (show tv_run _ _ _ _ = some (22, [some (.ref 130), some (.int l1), some (.int l2), some (.int l3)], [.int (((7 : Int32) * l1) + l3), .ref 134]) from rfl) ?_
      obtain ⟨hb1, hf⟩ := tm_if hf
      refine V.iald hC (kd_in kd_134 (by decide)) (hp_at kd_134) rfl hb1 d_Y_allGoals_22 ?_
      show V X 0 0 tm_n (hp σ) 23 [some (.ref 130), some (.int l1), some (.int l2), some (.int l3)] [.int (σ.1 134 (((7 : Int32) * l1) + l3).toNatClampNeg)]
      refine V.if_lt hC d_Y_allGoals_23 (tgt := 34) (by decide) (fun hc => ?_) (fun hc => ?_)
      · rw [if_pos hc] at hf
        refine V.blk hC [(.iload_n 2, 1)] 34 [some (.ref 130), some (.int l1), some (.int l2), some (.int l3)] [] ⟨d_Y_allGoals_34, trivial⟩ (show tv_run _ _ _ _ = some (35, [some (.ref 130), some (.int l1), some (.int l2), some (.int l3)], [.int l2]) from rfl) ?_
        exact V.less (tv_le_some (tv_le_some (tv_le_none (tv_le_some tv_le_nil)))) (c_Y_allGoals_L35 hC hr hE hrc σ l1 l3 l2  hf)
      · rw [if_neg hc] at hf
        refine V.blk hC [(.iload_n 2, 1), (.iconst 1, 1), (.iload_n 3, 1), (.ishl, 1), (.ior, 1)] 26 [some (.ref 130), some (.int l1), some (.int l2), some (.int l3)] [] ⟨d_Y_allGoals_26, d_Y_allGoals_27, d_Y_allGoals_28, d_Y_allGoals_29, d_Y_allGoals_30, trivial⟩ (show tv_run _ _ _ _ = some (31, [some (.ref 130), some (.int l1), some (.int l2), some (.int l3)], [.int (l2 ||| ((1 : Int32) <<< (l3 &&& 31)))]) from rfl) ?_
        refine V.goto hC d_Y_allGoals_31 (tgt := 35) (by decide) ?_
        exact V.less (tv_le_some (tv_le_some (tv_le_none (tv_le_some tv_le_nil)))) (c_Y_allGoals_L35 hC hr hE hrc σ l1 l3 (l2 ||| ((1 : Int32) <<< (l3 &&& 31)))  hf)
set_option maxHeartbeats 4000000 in
set_option maxRecDepth 100000 in
theorem c_Y_allGoals (σ : tm_S) (a1 : Int32)  {r : Int32 × tm_S} (hf : f_Y_allGoals σ a1 = some r) : tv_Met ty_Y_allGoals (Cond.code ty_Y_allGoals tb_Y_allGoals 4 (some .int) :: tm_wg) tm_ns tm_cl tm_ty 0 0 0 0 [.ref 130, .int a1] tm_n (hp σ) (tm_P (some (.int r.1)) r.2) := by
  refine tv_Met.of (by decide) rfl (tm_le rfl) ?_
  intro X hC hnm hr hE
  have hC : tv_K X tb_Y_allGoals 4 "TrickleMeshModel" tm_wg tm_ns tm_cl tm_ty { frames := 0, cells := 0, slots := 0, locals := 0 } := hC
  show V X 0 0 tm_n (hp σ) 0 [some (.ref 130), some (.int a1), none, none] []
  unfold f_Y_allGoals at hf
  refine V.blk hC [(.iconst 1, 1), (.iload_n 1, 1), (.ishl, 1), (.istore_n 2, 1), (.iconst 0, 1), (.istore_n 3, 1)] 0 [some (.ref 130), some (.int a1), none, none] [] ⟨d_Y_allGoals_0, d_Y_allGoals_1, d_Y_allGoals_2, d_Y_allGoals_3, d_Y_allGoals_4, d_Y_allGoals_5, trivial⟩ (show tv_run _ _ _ _ = some (6, [some (.ref 130), some (.int a1), some (.int ((1 : Int32) <<< (a1 &&& 31))), some (.int (0 : Int32))], []) from rfl) ?_
  exact V.less (tv_le_some (tv_le_some (tv_le_some (tv_le_some tv_le_nil)))) (c_Y_allGoals_L6 hC hr hE tm_fu σ a1 ((1 : Int32) <<< (a1 &&& 31)) (0 : Int32)  hf)
set_option maxHeartbeats 4000000 in
set_option maxRecDepth 100000 in
theorem c_Y_announce_L28 {X : tv_X} {r : tm_S} (hC : tv_K X tb_Y_announce 7 "TrickleMeshModel" tm_wg tm_ns tm_cl tm_ty { frames := 3, cells := 0, slots := 0, locals := 64 }) (hr : tv_ret X none) (hE : tv_end X (tm_P none r) 0 0) : ∀ (k : Nat) (σ : tm_S) (l1 : Int32) (l5 : Int32) (l6 : Int32), f_Y_announce_L28 k σ l1 l5 l6 = some r → V X 0 0 tm_n (hp σ) 28 [some (.ref 130), some (.int l1), none, none, none, some (.int l5), some (.int l6)] [] := by
  intro k
  induction k with
  | zero => intro σ l1 l5 l6  hf; simp only [f_Y_announce_L28] at hf; cases hf
  | succ k hrc =>
    intro σ l1 l5 l6  hf
    rw [f_Y_announce_L28] at hf
    refine V.blk hC [(.iload 6, 2), (.bipush 7, 2)] 28 [some (.ref 130), some (.int l1), none, none, none, some (.int l5), some (.int l6)] [] ⟨d_Y_announce_28, d_Y_announce_30, trivial⟩ (show tv_run _ _ _ _ = some (32, [some (.ref 130), some (.int l1), none, none, none, some (.int l5), some (.int l6)], [.int (7 : Int32), .int l6]) from rfl) ?_
    refine V.icmp_ge hC d_Y_announce_32 (tgt := 66) (by decide) (fun hc => ?_) (fun hc => ?_)
    · rw [if_pos hc] at hf
      refine V.blk hC [(.aload_n 0, 1), (.iload_n 1, 1), (.iload 5, 2)] 66 [some (.ref 130), some (.int l1), none, none, none, some (.int l5), some (.int l6)] [] ⟨d_Y_announce_66, d_Y_announce_67, d_Y_announce_68, trivial⟩ (show tv_run _ _ _ _ = some (70, [some (.ref 130), some (.int l1), none, none, none, some (.int l5), some (.int l6)], [.int l5, .int l1, .ref 130]) from rfl) ?_
      obtain ⟨q7, hq7, hf⟩ := tm_bd hf
      refine V.callV hC tm_nest rfl (c_Y_queue σ l1 l5  hq7) (tm_gd tc_Y_queue) tg_Y_186 th_Y_queue ⟨tm_le rfl, tm_le rfl, tm_le rfl, tm_le rfl⟩ rfl (kd_in kd_130 (by decide)) (hp_at kd_130) (As := [.int l1, .int l5]) (st := []) rfl (tm_le rfl) d_Y_announce_70 ?_
      rintro v n2 h2 ⟨rfl, rfl, rfl⟩
      show V X 0 0 tm_n (hp q7) 73 [some (.ref 130), some (.int l1), none, none, none, some (.int l5), some (.int l6)] []
      obtain rfl := Option.some.inj hf
      exact V.vret hC hr hE d_Y_announce_73 ⟨rfl, rfl, rfl⟩
    · rw [if_neg hc] at hf
      refine V.blk hC [(.aload_n 0, 1)] 35 [some (.ref 130), some (.int l1), none, none, none, some (.int l5), some (.int l6)] [] ⟨d_Y_announce_35, trivial⟩ (show tv_run _ _ _ _ = some (36, [some (.ref 130), some (.int l1), none, none, none, some (.int l5), some (.int l6)], [.ref 130]) from rfl) ?_
      refine V.getf hC tf_Y_95 (kd_in kd_130 (by decide)) (hp_at kd_130) rfl d_Y_announce_36 ?_
      show V X 0 0 tm_n (hp σ) 39 [some (.ref 130), some (.int l1), none, none, none, some (.int l5), some (.int l6)] [.ref 159]
      refine V.blk hC [(.bipush 7, 2), (.iload 5, 2), (.imul, 1), (.iload 6, 2), (.iadd, 1), (.aload_n 0, 1)] 39 [some (.ref 130), some (.int l1), none, none, none, some (.int l5), some (.int l6)] [.ref 159] ⟨d_Y_announce_39, d_Y_announce_41, d_Y_announce_43, d_Y_announce_44, d_Y_announce_46, d_Y_announce_47, trivial⟩ (show tv_run _ _ _ _ = some (48, [some (.ref 130), some (.int l1), none, none, none, some (.int l5), some (.int l6)], [.ref 130, .int (((7 : Int32) * l5) + l6), .ref 159]) from rfl) ?_
      refine V.getf hC tf_Y_23 (kd_in kd_130 (by decide)) (hp_at kd_130) rfl d_Y_announce_48 ?_
      show V X 0 0 tm_n (hp σ) 51 [some (.ref 130), some (.int l1), none, none, none, some (.int l5), some (.int l6)] [.ref 135, .int (((7 : Int32) * l5) + l6), .ref 159]
      refine V.blk hC [(.bipush 7, 2), (.iload_n 1, 1), (.imul, 1), (.iload 6, 2), (.iadd, 1)] 51 [some (.ref 130), some (.int l1), none, none, none, some (.int l5), some (.int l6)] [.ref 135, .int (((7 : Int32) * l5) + l6), .ref 159] ⟨d_Y_announce_51, d_Y_announce_53, d_Y_announce_54, d_Y_announce_55, d_Y_announce_57, trivial⟩ (show tv_run _ _ _ _ = some (58, [some (.ref 130), some (.int l1), none, none, none, some (.int l5), some (.int l6)], [.int (((7 : Int32) * l1) + l6), .ref 135, .int (((7 : Int32) * l5) + l6), .ref 159]) from rfl) ?_
      obtain ⟨hb8, hf⟩ := tm_if hf
      refine V.iald hC (kd_in kd_135 (by decide)) (hp_at kd_135) rfl hb8 d_Y_announce_58 ?_
      show V X 0 0 tm_n (hp σ) 59 [some (.ref 130), some (.int l1), none, none, none, some (.int l5), some (.int l6)] [.int (σ.1 135 (((7 : Int32) * l1) + l6).toNatClampNeg), .int (((7 : Int32) * l5) + l6), .ref 159]
      obtain ⟨hb9, hf⟩ := tm_if hf
      obtain ⟨σ10, hσ10, hf⟩ := tm_ww hf
      refine V.seta hC kd_159 (kd_in kd_159 (by decide)) rfl rfl rfl hb9 d_Y_announce_59 ?_
      rw [← hσ10]
      refine V.blk hC [(.iinc 6 1, 3)] 60 [some (.ref 130), some (.int l1), none, none, none, some (.int l5), some (.int l6)] [] ⟨d_Y_announce_60, trivial⟩ (show tv_run _ _ _ _ = some (63, [some (.ref 130), some (.int l1), none, none, none, some (.int l5), some (.int (l6 + (1 : Int32)))], []) from rfl) ?_
      refine V.goto hC d_Y_announce_63 (tgt := 28) (by decide) ?_
      exact V.less (tv_le_some (tv_le_some (tv_le_none (tv_le_none (tv_le_none (tv_le_some (tv_le_some tv_le_nil))))))) (hrc σ10 l1 l5 (l6 + (1 : Int32))  hf)
set_option maxHeartbeats 4000000 in
set_option maxRecDepth 100000 in
theorem c_Y_announce (σ : tm_S) (a1 : Int32) (a2 : Int32) (a3 : Int32) (a4 : Int32)  {r : tm_S} (hf : f_Y_announce σ a1 a2 a3 a4 = some r) : tv_Met ty_Y_announce (Cond.code ty_Y_announce tb_Y_announce 7 none :: tm_wg) tm_ns tm_cl tm_ty 3 64 0 0 [.ref 130, .int a1, .int a2, .int a3, .int a4] tm_n (hp σ) (tm_P none r) := by
  refine tv_Met.of (by decide) rfl (tm_le rfl) ?_
  intro X hC hnm hr hE
  have hC : tv_K X tb_Y_announce 7 "TrickleMeshModel" tm_wg tm_ns tm_cl tm_ty { frames := 3, cells := 0, slots := 0, locals := 64 } := hC
  show V X 0 0 tm_n (hp σ) 0 [some (.ref 130), some (.int a1), some (.int a2), some (.int a3), some (.int a4), none, none] []
  unfold f_Y_announce at hf
  refine V.blk hC [(.aload_n 0, 1), (.iconst 3, 1), (.iload_n 2, 1)] 0 [some (.ref 130), some (.int a1), some (.int a2), some (.int a3), some (.int a4), none, none] [] ⟨d_Y_announce_0, d_Y_announce_1, d_Y_announce_2, trivial⟩ (show tv_run _ _ _ _ = some (3, [some (.ref 130), some (.int a1), some (.int a2), some (.int a3), some (.int a4), none, none], [.int a2, .int (3 : Int32), .ref 130]) from rfl) ?_
  obtain ⟨q1, hq1, hf⟩ := tm_bd hf
  refine V.callV hC tm_nest rfl (c_Y_makeFrame σ (3 : Int32) a2  hq1) (tm_gd tc_Y_makeFrame) tg_Y_182 th_Y_makeFrame ⟨tm_le rfl, tm_le rfl, tm_le rfl, tm_le rfl⟩ rfl (kd_in kd_130 (by decide)) (hp_at kd_130) (As := [.int (3 : Int32), .int a2]) (st := []) rfl (tm_le rfl) d_Y_announce_3 ?_
  rintro v n2 h2 ⟨rfl, rfl, rfl⟩
  show V X 0 0 tm_n (hp q1.2) 6 [some (.ref 130), some (.int a1), some (.int a2), some (.int a3), some (.int a4), none, none] [.int q1.1]
  refine V.blk hC [(.istore 5, 2), (.aload_n 0, 1)] 6 [some (.ref 130), some (.int a1), some (.int a2), some (.int a3), some (.int a4), none, none] [.int q1.1] ⟨d_Y_announce_6, d_Y_announce_8, trivial⟩ (show tv_run _ _ _ _ = some (9, [some (.ref 130), some (.int a1), some (.int a2), some (.int a3), some (.int a4), some (.int q1.1), none], [.ref 130]) from rfl) ?_
  refine V.getf hC tf_Y_92 (kd_in kd_130 (by decide)) (hp_at kd_130) rfl d_Y_announce_9 ?_
  show V X 0 0 tm_n (hp q1.2) 12 [some (.ref 130), some (.int a1), some (.int a2), some (.int a3), some (.int a4), some (.int q1.1), none] [.ref 158]
  refine V.blk hC [(.iload 5, 2), (.iload_n 3, 1)] 12 [some (.ref 130), some (.int a1), some (.int a2), some (.int a3), some (.int a4), some (.int q1.1), none] [.ref 158] ⟨d_Y_announce_12, d_Y_announce_14, trivial⟩ (show tv_run _ _ _ _ = some (15, [some (.ref 130), some (.int a1), some (.int a2), some (.int a3), some (.int a4), some (.int q1.1), none], [.int a3, .int q1.1, .ref 158]) from rfl) ?_
  obtain ⟨hb2, hf⟩ := tm_if hf
  obtain ⟨σ3, hσ3, hf⟩ := tm_ww hf
  refine V.seta hC kd_158 (kd_in kd_158 (by decide)) rfl rfl rfl hb2 d_Y_announce_15 ?_
  rw [← hσ3]
  refine V.blk hC [(.aload_n 0, 1)] 16 [some (.ref 130), some (.int a1), some (.int a2), some (.int a3), some (.int a4), some (.int q1.1), none] [] ⟨d_Y_announce_16, trivial⟩ (show tv_run _ _ _ _ = some (17, [some (.ref 130), some (.int a1), some (.int a2), some (.int a3), some (.int a4), some (.int q1.1), none], [.ref 130]) from rfl) ?_
  refine V.getf hC tf_Y_98 (kd_in kd_130 (by decide)) (hp_at kd_130) rfl d_Y_announce_17 ?_
  show V X 0 0 tm_n (hp σ3) 20 [some (.ref 130), some (.int a1), some (.int a2), some (.int a3), some (.int a4), some (.int q1.1), none] [.ref 160]
  refine V.blk hC [(.iload 5, 2), (.iload 4, 2)] 20 [some (.ref 130), some (.int a1), some (.int a2), some (.int a3), some (.int a4), some (.int q1.1), none] [.ref 160] ⟨d_Y_announce_20, d_Y_announce_22, trivial⟩ (show tv_run _ _ _ _ = some (24, [some (.ref 130), some (.int a1), some (.int a2), some (.int a3), some (.int a4), some (.int q1.1), none], [.int a4, .int q1.1, .ref 160]) from rfl) ?_
  obtain ⟨hb4, hf⟩ := tm_if hf
  obtain ⟨hz6, hf⟩ := tm_if hf
  obtain ⟨σ5, hσ5, hf⟩ := tm_ww hf
  refine V.setz hC kd_160 (kd_in kd_160 (by decide)) rfl rfl rfl hb4 hz6 d_Y_announce_24 ?_
  rw [← hσ5]
  refine V.blk hC [(.iconst 0, 1), (.istore 6, 2)] 25 [some (.ref 130), some (.int a1), some (.int a2), some (.int a3), some (.int a4), some (.int q1.1), none] [] ⟨d_Y_announce_25, d_Y_announce_26, trivial⟩ (show tv_run _ _ _ _ = some (28, [some (.ref 130), some (.int a1), some (.int a2), some (.int a3), some (.int a4), some (.int q1.1), some (.int (0 : Int32))], []) from rfl) ?_
  exact V.less (tv_le_some (tv_le_some (tv_le_none (tv_le_none (tv_le_none (tv_le_some (tv_le_some tv_le_nil))))))) (c_Y_announce_L28 hC hr hE tm_fu σ5 a1 q1.1 (0 : Int32)  hf)
set_option maxHeartbeats 4000000 in
set_option maxRecDepth 100000 in
theorem c_Y_choose_L124 {X : tv_X} {r : Int32 × tm_S} (hC : tv_K X tb_Y_choose 9 "TrickleMeshModel" tm_wg tm_ns tm_cl tm_ty { frames := 4, cells := 0, slots := 0, locals := 90 }) (hr : tv_ret X (some .boolean)) (hE : tv_end X (tm_P (some (.int r.1)) r.2) 0 0) {rc : tm_S → Int32 → Int32 → Int32 → Int32 → Option (Int32 × tm_S)} (hrc : ∀ (σ : tm_S) (l1 : Int32) (l2 : Int32) (l3 : Int32) (l4 : Int32), rc σ l1 l2 l3 l4 = some r → V X 0 0 tm_n (hp σ) 7 [some (.ref 130), some (.int l1), some (.int l2), some (.int l3), some (.int l4), none, none, none, none] []) (σ : tm_S) (l1 : Int32) (l2 : Int32) (l3 : Int32) (l4 : Int32)  (hf : f_Y_choose_L124 rc σ l1 l2 l3 l4 = some r) : V X 0 0 tm_n (hp σ) 124 [some (.ref 130), some (.int l1), some (.int l2), some (.int l3), some (.int l4), none, none, none, none] [] := by
  unfold f_Y_choose_L124 at hf
  refine V.blk hC [(.iinc 4 1, 3)] 124 [some (.ref 130), some (.int l1), some (.int l2), some (.int l3), some (.int l4), none, none, none, none] [] ⟨d_Y_choose_124, trivial⟩ (show tv_run _ _ _ _ = some (127, [some (.ref 130), some (.int l1), some (.int l2), some (.int l3), some (.int (l4 + (1 : Int32))), none, none, none, none], []) from rfl) ?_
  refine V.goto hC d_Y_choose_127 (tgt := 7) (by decide) ?_
  exact V.less (tv_le_some (tv_le_some (tv_le_some (tv_le_some (tv_le_some (tv_le_none (tv_le_none (tv_le_none (tv_le_none tv_le_nil))))))))) (hrc σ l1 l2 l3 (l4 + (1 : Int32))  hf)
set_option maxHeartbeats 4000000 in
set_option maxRecDepth 100000 in
theorem c_Y_choose_L118 {X : tv_X} {r : Int32 × tm_S} (hC : tv_K X tb_Y_choose 9 "TrickleMeshModel" tm_wg tm_ns tm_cl tm_ty { frames := 4, cells := 0, slots := 0, locals := 90 }) (hr : tv_ret X (some .boolean)) (hE : tv_end X (tm_P (some (.int r.1)) r.2) 0 0) {rc : tm_S → Int32 → Int32 → Int32 → Int32 → Option (Int32 × tm_S)} (hrc : ∀ (σ : tm_S) (l1 : Int32) (l2 : Int32) (l3 : Int32) (l4 : Int32), rc σ l1 l2 l3 l4 = some r → V X 0 0 tm_n (hp σ) 7 [some (.ref 130), some (.int l1), some (.int l2), some (.int l3), some (.int l4), none, none, none, none] []) (σ : tm_S) (l1 : Int32) (l4 : Int32) (l7 : Int32)  (hf : f_Y_choose_L118 rc σ l1 l4 l7 = some r) : V X 0 0 tm_n (hp σ) 118 [some (.ref 130), some (.int l1), none, none, some (.int l4), none, none, some (.int l7), none] [] := by
  unfold f_Y_choose_L118 at hf
  refine V.blk hC [(.iload 4, 2), (.istore_n 2, 1), (.iload 7, 2), (.istore_n 3, 1)] 118 [some (.ref 130), some (.int l1), none, none, some (.int l4), none, none, some (.int l7), none] [] ⟨d_Y_choose_118, d_Y_choose_120, d_Y_choose_121, d_Y_choose_123, trivial⟩ (show tv_run _ _ _ _ = some (124, [some (.ref 130), some (.int l1), some (.int l4), some (.int l7), some (.int l4), none, none, some (.int l7), none], []) from rfl) ?_
  exact V.less (tv_le_some (tv_le_some (tv_le_some (tv_le_some (tv_le_some (tv_le_none (tv_le_none (tv_le_none (tv_le_none tv_le_nil))))))))) (c_Y_choose_L124 hC hr hE hrc σ l1 l4 l7 l4  hf)
set_option maxHeartbeats 4000000 in
set_option maxRecDepth 100000 in
theorem c_Y_choose_L67 {X : tv_X} {r : Int32 × tm_S} (hC : tv_K X tb_Y_choose 9 "TrickleMeshModel" tm_wg tm_ns tm_cl tm_ty { frames := 4, cells := 0, slots := 0, locals := 90 }) (hr : tv_ret X (some .boolean)) (hE : tv_end X (tm_P (some (.int r.1)) r.2) 0 0) {rc : tm_S → Int32 → Int32 → Int32 → Int32 → Option (Int32 × tm_S)} (hrc : ∀ (σ : tm_S) (l1 : Int32) (l2 : Int32) (l3 : Int32) (l4 : Int32), rc σ l1 l2 l3 l4 = some r → V X 0 0 tm_n (hp σ) 7 [some (.ref 130), some (.int l1), some (.int l2), some (.int l3), some (.int l4), none, none, none, none] []) (σ : tm_S) (l1 : Int32) (l2 : Int32) (l3 : Int32) (l4 : Int32) (l5 : Int32) (s0 : Int32)  (hf : f_Y_choose_L67 rc σ l1 l2 l3 l4 l5 s0 = some r) : V X 0 0 tm_n (hp σ) 67 [some (.ref 130), some (.int l1), some (.int l2), some (.int l3), some (.int l4), some (.int l5), none, none, none] [.int s0] := by
  unfold f_Y_choose_L67 at hf
  refine V.blk hC [(.istore 6, 2), (.aload_n 0, 1)] 67 [some (.ref 130), some (.int l1), some (.int l2), some (.int l3), some (.int l4), some (.int l5), none, none, none] [.int s0] ⟨d_Y_choose_67, d_Y_choose_69, trivial⟩ (show tv_run _ _ _ _ = some (70, [some (.ref 130), some (.int l1), some (.int l2), some (.int l3), some (.int l4), some (.int l5), some (.int s0), none, none], [.ref 130]) from rfl) ?_
  refine V.getf hC tf_Y_13 (kd_in kd_130 (by decide)) (hp_at kd_130) rfl d_Y_choose_70 ?_
  show V X 0 0 tm_n (hp σ) 73 [some (.ref 130), some (.int l1), some (.int l2), some (.int l3), some (.int l4), some (.int l5), some (.int s0), none, none] [.ref 132]
  refine V.blk hC [(.iload 5, 2)] 73 [some (.ref 130), some (.int l1), some (.int l2), some (.int l3), some (.int l4), some (.int l5), some (.int s0), none, none] [.ref 132] ⟨d_Y_choose_73, trivial⟩ (show tv_run _ _ _ _ = some (75, [some (.ref 130), some (.int l1), some (.int l2), some (.int l3), some (.int l4), some (.int l5), some (.int s0), none, none], [.int l5, .ref 132]) from rfl) ?_
  obtain ⟨hb7, hf⟩ := tm_if hf
  refine V.iald hC (kd_in kd_132 (by decide)) (hp_at kd_132) rfl hb7 d_Y_choose_75 ?_
  show V X 0 0 tm_n (hp σ) 76 [some (.ref 130), some (.int l1), some (.int l2), some (.int l3), some (.int l4), some (.int l5), some (.int s0), none, none] [.int (σ.1 132 l5.toNatClampNeg)]
  refine V.blk hC [(.aload_n 0, 1)] 76 [some (.ref 130), some (.int l1), some (.int l2), some (.int l3), some (.int l4), some (.int l5), some (.int s0), none, none] [.int (σ.1 132 l5.toNatClampNeg)] ⟨d_Y_choose_76, trivial⟩ (show tv_run _ _ _ _ = some (77, [some (.ref 130), some (.int l1), some (.int l2), some (.int l3), some (.int l4), some (.int l5), some (.int s0), none, none], [.ref 130, .int (σ.1 132 l5.toNatClampNeg)]) from rfl) ?_
  refine V.getf hC tf_Y_7 (kd_in kd_130 (by decide)) (hp_at kd_130) rfl d_Y_choose_77 ?_
  show V X 0 0 tm_n (hp σ) 80 [some (.ref 130), some (.int l1), some (.int l2), some (.int l3), some (.int l4), some (.int l5), some (.int s0), none, none] [.ref 131, .int (σ.1 132 l5.toNatClampNeg)]
  refine V.blk hC [(.iload 5, 2)] 80 [some (.ref 130), some (.int l1), some (.int l2), some (.int l3), some (.int l4), some (.int l5), some (.int s0), none, none] [.ref 131, .int (σ.1 132 l5.toNatClampNeg)] ⟨d_Y_choose_80, trivial⟩ (show tv_run _ _ _ _ = some (82, [some (.ref 130), some (.int l1), some (.int l2), some (.int l3), some (.int l4), some (.int l5), some (.int s0), none, none], [.int l5, .ref 131, .int (σ.1 132 l5.toNatClampNeg)]) from rfl) ?_
  obtain ⟨hb8, hf⟩ := tm_if hf
  refine V.iald hC (kd_in kd_131 (by decide)) (hp_at kd_131) rfl hb8 d_Y_choose_82 ?_
  show V X 0 0 tm_n (hp σ) 83 [some (.ref 130), some (.int l1), some (.int l2), some (.int l3), some (.int l4), some (.int l5), some (.int s0), none, none] [.int (σ.1 131 l5.toNatClampNeg), .int (σ.1 132 l5.toNatClampNeg)]
  refine V.blk hC [(.iadd, 1), (.istore 7, 2), (.iload 6, 2)] 83 [some (.ref 130), some (.int l1), some (.int l2), some (.int l3), some (.int l4), some (.int l5), some (.int s0), none, none] [.int (σ.1 131 l5.toNatClampNeg), .int (σ.1 132 l5.toNatClampNeg)] ⟨d_Y_choose_83, d_Y_choose_84, d_Y_choose_86, trivial⟩ (show tv_run _ _ _ _ = some (88, [some (.ref 130), some (.int l1), some (.int l2), some (.int l3), some (.int l4), some (.int l5), some (.int s0), some (.int ((σ.1 132 l5.toNatClampNeg) + (σ.1 131 l5.toNatClampNeg))), none], [.int s0]) from rfl) ?_
  refine V.if_eq hC d_Y_choose_88 (tgt := 124) (by decide) (fun hc => ?_) (fun hc => ?_)
  · rw [if_pos hc] at hf
    exact V.less (tv_le_some (tv_le_some (tv_le_some (tv_le_some (tv_le_some (tv_le_none (tv_le_none (tv_le_none (tv_le_none tv_le_nil))))))))) (c_Y_choose_L124 hC hr hE hrc σ l1 l2 l3 l4  hf)
  · rw [if_neg hc] at hf
    refine V.blk hC [(.iload_n 2, 1)] 91 [some (.ref 130), some (.int l1), some (.int l2), some (.int l3), some (.int l4), some (.int l5), some (.int s0), some (.int ((σ.1 132 l5.toNatClampNeg) + (σ.1 131 l5.toNatClampNeg))), none] [] ⟨d_Y_choose_91, trivial⟩ (show tv_run _ _ _ _ = some (92, [some (.ref 130), some (.int l1), some (.int l2), some (.int l3), some (.int l4), some (.int l5), some (.int s0), some (.int ((σ.1 132 l5.toNatClampNeg) + (σ.1 131 l5.toNatClampNeg))), none], [.int l2]) from rfl) ?_
    refine V.if_lt hC d_Y_choose_92 (tgt := 118) (by decide) (fun hc => ?_) (fun hc => ?_)
    · rw [if_pos hc] at hf
      exact V.less (tv_le_some (tv_le_some (tv_le_none (tv_le_none (tv_le_some (tv_le_none (tv_le_none (tv_le_some (tv_le_none tv_le_nil))))))))) (c_Y_choose_L118 hC hr hE hrc σ l1 l4 ((σ.1 132 l5.toNatClampNeg) + (σ.1 131 l5.toNatClampNeg))  hf)
    · rw [if_neg hc] at hf
      refine V.blk hC [(.iload 7, 2), (.iload_n 3, 1)] 95 [some (.ref 130), some (.int l1), some (.int l2), some (.int l3), some (.int l4), some (.int l5), some (.int s0), some (.int ((σ.1 132 l5.toNatClampNeg) + (σ.1 131 l5.toNatClampNeg))), none] [] ⟨d_Y_choose_95, d_Y_choose_97, trivial⟩ (show tv_run _ _ _ _ = some (98, [some (.ref 130), some (.int l1), some (.int l2), some (.int l3), some (.int l4), some (.int l5), some (.int s0), some (.int ((σ.1 132 l5.toNatClampNeg) + (σ.1 131 l5.toNatClampNeg))), none], [.int l3, .int ((σ.1 132 l5.toNatClampNeg) + (σ.1 131 l5.toNatClampNeg))]) from rfl) ?_
      refine V.icmp_lt hC d_Y_choose_98 (tgt := 118) (by decide) (fun hc => ?_) (fun hc => ?_)
      · rw [if_pos hc] at hf
        exact V.less (tv_le_some (tv_le_some (tv_le_none (tv_le_none (tv_le_some (tv_le_none (tv_le_none (tv_le_some (tv_le_none tv_le_nil))))))))) (c_Y_choose_L118 hC hr hE hrc σ l1 l4 ((σ.1 132 l5.toNatClampNeg) + (σ.1 131 l5.toNatClampNeg))  hf)
      · rw [if_neg hc] at hf
        refine V.blk hC [(.iload 7, 2), (.iload_n 3, 1)] 101 [some (.ref 130), some (.int l1), some (.int l2), some (.int l3), some (.int l4), some (.int l5), some (.int s0), some (.int ((σ.1 132 l5.toNatClampNeg) + (σ.1 131 l5.toNatClampNeg))), none] [] ⟨d_Y_choose_101, d_Y_choose_103, trivial⟩ (show tv_run _ _ _ _ = some (104, [some (.ref 130), some (.int l1), some (.int l2), some (.int l3), some (.int l4), some (.int l5), some (.int s0), some (.int ((σ.1 132 l5.toNatClampNeg) + (σ.1 131 l5.toNatClampNeg))), none], [.int l3, .int ((σ.1 132 l5.toNatClampNeg) + (σ.1 131 l5.toNatClampNeg))]) from rfl) ?_
        refine V.icmp_ne hC d_Y_choose_104 (tgt := 124) (by decide) (fun hc => ?_) (fun hc => ?_)
        · rw [if_neg hc] at hf
          exact V.less (tv_le_some (tv_le_some (tv_le_some (tv_le_some (tv_le_some (tv_le_none (tv_le_none (tv_le_none (tv_le_none tv_le_nil))))))))) (c_Y_choose_L124 hC hr hE hrc σ l1 l2 l3 l4  hf)
        · rw [if_pos hc] at hf
          refine V.blk hC [(.iload 4, 2), (.aload_n 0, 1)] 107 [some (.ref 130), some (.int l1), some (.int l2), some (.int l3), some (.int l4), some (.int l5), some (.int s0), some (.int ((σ.1 132 l5.toNatClampNeg) + (σ.1 131 l5.toNatClampNeg))), none] [] ⟨d_Y_choose_107, d_Y_choose_109, trivial⟩ (show tv_run _ _ _ _ = some (110, [some (.ref 130), some (.int l1), some (.int l2), some (.int l3), some (.int l4), some (.int l5), some (.int s0), some (.int ((σ.1 132 l5.toNatClampNeg) + (σ.1 131 l5.toNatClampNeg))), none], [.ref 130, .int l4]) from rfl) ?_
          refine V.getf hC tf_Y_38 (kd_in kd_130 (by decide)) (hp_at kd_130) rfl d_Y_choose_110 ?_
          show V X 0 0 tm_n (hp σ) 113 [some (.ref 130), some (.int l1), some (.int l2), some (.int l3), some (.int l4), some (.int l5), some (.int s0), some (.int ((σ.1 132 l5.toNatClampNeg) + (σ.1 131 l5.toNatClampNeg))), none] [.ref 140, .int l4]
          refine V.blk hC [(.iload_n 1, 1)] 113 [some (.ref 130), some (.int l1), some (.int l2), some (.int l3), some (.int l4), some (.int l5), some (.int s0), some (.int ((σ.1 132 l5.toNatClampNeg) + (σ.1 131 l5.toNatClampNeg))), none] [.ref 140, .int l4] ⟨d_Y_choose_113, trivial⟩ (show tv_run _ _ _ _ = some (114, [some (.ref 130), some (.int l1), some (.int l2), some (.int l3), some (.int l4), some (.int l5), some (.int s0), some (.int ((σ.1 132 l5.toNatClampNeg) + (σ.1 131 l5.toNatClampNeg))), none], [.int l1, .ref 140, .int l4]) from rfl) ?_
          obtain ⟨hb9, hf⟩ := tm_if hf
          refine V.iald hC (kd_in kd_140 (by decide)) (hp_at kd_140) rfl hb9 d_Y_choose_114 ?_
          show V X 0 0 tm_n (hp σ) 115 [some (.ref 130), some (.int l1), some (.int l2), some (.int l3), some (.int l4), some (.int l5), some (.int s0), some (.int ((σ.1 132 l5.toNatClampNeg) + (σ.1 131 l5.toNatClampNeg))), none] [.int (σ.1 140 l1.toNatClampNeg), .int l4]
          refine V.icmp_ne hC d_Y_choose_115 (tgt := 124) (by decide) (fun hc => ?_) (fun hc => ?_)
          · rw [if_neg hc] at hf
            exact V.less (tv_le_some (tv_le_some (tv_le_some (tv_le_some (tv_le_some (tv_le_none (tv_le_none (tv_le_none (tv_le_none tv_le_nil))))))))) (c_Y_choose_L124 hC hr hE hrc σ l1 l2 l3 l4  hf)
          · rw [if_pos hc] at hf
            exact V.less (tv_le_some (tv_le_some (tv_le_none (tv_le_none (tv_le_some (tv_le_none (tv_le_none (tv_le_some (tv_le_none tv_le_nil))))))))) (c_Y_choose_L118 hC hr hE hrc σ l1 l4 ((σ.1 132 l5.toNatClampNeg) + (σ.1 131 l5.toNatClampNeg))  hf)
set_option maxHeartbeats 4000000 in
set_option maxRecDepth 100000 in
theorem c_Y_choose_L66 {X : tv_X} {r : Int32 × tm_S} (hC : tv_K X tb_Y_choose 9 "TrickleMeshModel" tm_wg tm_ns tm_cl tm_ty { frames := 4, cells := 0, slots := 0, locals := 90 }) (hr : tv_ret X (some .boolean)) (hE : tv_end X (tm_P (some (.int r.1)) r.2) 0 0) {rc : tm_S → Int32 → Int32 → Int32 → Int32 → Option (Int32 × tm_S)} (hrc : ∀ (σ : tm_S) (l1 : Int32) (l2 : Int32) (l3 : Int32) (l4 : Int32), rc σ l1 l2 l3 l4 = some r → V X 0 0 tm_n (hp σ) 7 [some (.ref 130), some (.int l1), some (.int l2), some (.int l3), some (.int l4), none, none, none, none] []) (σ : tm_S) (l1 : Int32) (l2 : Int32) (l3 : Int32) (l4 : Int32) (l5 : Int32)  (hf : f_Y_choose_L66 rc σ l1 l2 l3 l4 l5 = some r) : V X 0 0 tm_n (hp σ) 66 [some (.ref 130), some (.int l1), some (.int l2), some (.int l3), some (.int l4), some (.int l5), none, none, none] [] := by
  unfold f_Y_choose_L66 at hf
  refine V.blk hC [(.iconst 0, 1)] 66 [some (.ref 130), some (.int l1), some (.int l2), some (.int l3), some (.int l4), some (.int l5), none, none, none] [] ⟨d_Y_choose_66, trivial⟩ (show tv_run _ _ _ _ = some (67, [some (.ref 130), some (.int l1), some (.int l2), some (.int l3), some (.int l4), some (.int l5), none, none, none], [.int (0 : Int32)]) from rfl) ?_
  exact V.less (tv_le_some (tv_le_some (tv_le_some (tv_le_some (tv_le_some (tv_le_some (tv_le_none (tv_le_none (tv_le_none tv_le_nil))))))))) (c_Y_choose_L67 hC hr hE hrc σ l1 l2 l3 l4 l5 (0 : Int32)  hf)
set_option maxHeartbeats 4000000 in
set_option maxRecDepth 100000 in
theorem c_Y_choose_L377 {X : tv_X} {r : Int32 × tm_S} (hC : tv_K X tb_Y_choose 9 "TrickleMeshModel" tm_wg tm_ns tm_cl tm_ty { frames := 4, cells := 0, slots := 0, locals := 90 }) (hr : tv_ret X (some .boolean)) (hE : tv_end X (tm_P (some (.int r.1)) r.2) 0 0) (σ : tm_S) (l7 : Int32)  (hf : f_Y_choose_L377 σ l7 = some r) : V X 0 0 tm_n (hp σ) 377 [some (.ref 130), none, none, none, none, none, none, some (.int l7), none] [] := by
  unfold f_Y_choose_L377 at hf
  refine V.blk hC [(.iload 7, 2)] 377 [some (.ref 130), none, none, none, none, none, none, some (.int l7), none] [] ⟨d_Y_choose_377, trivial⟩ (show tv_run _ _ _ _ = some (379, [some (.ref 130), none, none, none, none, none, none, some (.int l7), none], [.int l7]) from rfl) ?_
  obtain ⟨hz28, hf⟩ := tm_if hf
  obtain rfl := Option.some.inj hf
  exact V.zret hC hr hE (tm_nz hz28) d_Y_choose_379 ⟨rfl, rfl, rfl⟩
set_option maxHeartbeats 4000000 in
set_option maxRecDepth 100000 in
theorem c_Y_choose_L341 {X : tv_X} {r : Int32 × tm_S} (hC : tv_K X tb_Y_choose 9 "TrickleMeshModel" tm_wg tm_ns tm_cl tm_ty { frames := 4, cells := 0, slots := 0, locals := 90 }) (hr : tv_ret X (some .boolean)) (hE : tv_end X (tm_P (some (.int r.1)) r.2) 0 0) (σ : tm_S) (l1 : Int32) (l7 : Int32) (l8 : Int32)  (hf : f_Y_choose_L341 σ l1 l7 l8 = some r) : V X 0 0 tm_n (hp σ) 341 [some (.ref 130), some (.int l1), none, none, none, none, none, some (.int l7), some (.int l8)] [] := by
  unfold f_Y_choose_L341 at hf
  refine V.blk hC [(.aload_n 0, 1)] 341 [some (.ref 130), some (.int l1), none, none, none, none, none, some (.int l7), some (.int l8)] [] ⟨d_Y_choose_341, trivial⟩ (show tv_run _ _ _ _ = some (342, [some (.ref 130), some (.int l1), none, none, none, none, none, some (.int l7), some (.int l8)], [.ref 130]) from rfl) ?_
  refine V.getf hC tf_Y_38 (kd_in kd_130 (by decide)) (hp_at kd_130) rfl d_Y_choose_342 ?_
  show V X 0 0 tm_n (hp σ) 345 [some (.ref 130), some (.int l1), none, none, none, none, none, some (.int l7), some (.int l8)] [.ref 140]
  refine V.blk hC [(.iload_n 1, 1)] 345 [some (.ref 130), some (.int l1), none, none, none, none, none, some (.int l7), some (.int l8)] [.ref 140] ⟨d_Y_choose_345, trivial⟩ (show tv_run _ _ _ _ = some (346, [some (.ref 130), some (.int l1), none, none, none, none, none, some (.int l7), some (.int l8)], [.int l1, .ref 140]) from rfl) ?_
  obtain ⟨hb29, hf⟩ := tm_if hf
  refine V.iald hC (kd_in kd_140 (by decide)) (hp_at kd_140) rfl hb29 d_Y_choose_346 ?_
  show V X 0 0 tm_n (hp σ) 347 [some (.ref 130), some (.int l1), none, none, none, none, none, some (.int l7), some (.int l8)] [.int (σ.1 140 l1.toNatClampNeg)]
  refine V.if_lt hC d_Y_choose_347 (tgt := 377) (by decide) (fun hc => ?_) (fun hc => ?_)
  · rw [if_pos hc] at hf
    exact V.less (tv_le_some (tv_le_none (tv_le_none (tv_le_none (tv_le_none (tv_le_none (tv_le_none (tv_le_some (tv_le_none tv_le_nil))))))))) (c_Y_choose_L377 hC hr hE σ l7  hf)
  · rw [if_neg hc] at hf
    refine V.blk hC [(.aload_n 0, 1)] 350 [some (.ref 130), some (.int l1), none, none, none, none, none, some (.int l7), some (.int l8)] [] ⟨d_Y_choose_350, trivial⟩ (show tv_run _ _ _ _ = some (351, [some (.ref 130), some (.int l1), none, none, none, none, none, some (.int l7), some (.int l8)], [.ref 130]) from rfl) ?_
    refine V.getf hC tf_Y_23 (kd_in kd_130 (by decide)) (hp_at kd_130) rfl d_Y_choose_351 ?_
    show V X 0 0 tm_n (hp σ) 354 [some (.ref 130), some (.int l1), none, none, none, none, none, some (.int l7), some (.int l8)] [.ref 135]
    refine V.blk hC [(.bipush 8, 2), (.iload_n 1, 1), (.imul, 1), (.dup2, 1)] 354 [some (.ref 130), some (.int l1), none, none, none, none, none, some (.int l7), some (.int l8)] [.ref 135] ⟨d_Y_choose_354, d_Y_choose_356, d_Y_choose_357, d_Y_choose_358, trivial⟩ (show tv_run _ _ _ _ = some (359, [some (.ref 130), some (.int l1), none, none, none, none, none, some (.int l7), some (.int l8)], [.int ((8 : Int32) * l1), .ref 135, .int ((8 : Int32) * l1), .ref 135]) from rfl) ?_
    obtain ⟨hb30, hf⟩ := tm_if hf
    refine V.iald hC (kd_in kd_135 (by decide)) (hp_at kd_135) rfl hb30 d_Y_choose_359 ?_
    show V X 0 0 tm_n (hp σ) 360 [some (.ref 130), some (.int l1), none, none, none, none, none, some (.int l7), some (.int l8)] [.int (σ.1 135 ((8 : Int32) * l1).toNatClampNeg), .int ((8 : Int32) * l1), .ref 135]
    refine V.blk hC [(.iconst 1, 1), (.iadd, 1)] 360 [some (.ref 130), some (.int l1), none, none, none, none, none, some (.int l7), some (.int l8)] [.int (σ.1 135 ((8 : Int32) * l1).toNatClampNeg), .int ((8 : Int32) * l1), .ref 135] ⟨d_Y_choose_360, d_Y_choose_361, trivial⟩ (show tv_run _ _ _ _ = some (362, [some (.ref 130), some (.int l1), none, none, none, none, none, some (.int l7), some (.int l8)], [.int ((σ.1 135 ((8 : Int32) * l1).toNatClampNeg) + (1 : Int32)), .int ((8 : Int32) * l1), .ref 135]) from rfl) ?_
    obtain ⟨hb31, hf⟩ := tm_if hf
    obtain ⟨σ32, hσ32, hf⟩ := tm_ww hf
    refine V.seta hC kd_135 (kd_in kd_135 (by decide)) rfl rfl rfl hb31 d_Y_choose_362 ?_
    rw [← hσ32]
    refine V.blk hC [(.aload_n 0, 1), (.iload_n 1, 1), (.aload_n 0, 1)] 363 [some (.ref 130), some (.int l1), none, none, none, none, none, some (.int l7), some (.int l8)] [] ⟨d_Y_choose_363, d_Y_choose_364, d_Y_choose_365, trivial⟩ (show tv_run _ _ _ _ = some (366, [some (.ref 130), some (.int l1), none, none, none, none, none, some (.int l7), some (.int l8)], [.ref 130, .int l1, .ref 130]) from rfl) ?_
    refine V.getf hC tf_Y_38 (kd_in kd_130 (by decide)) (hp_at kd_130) rfl d_Y_choose_366 ?_
    show V X 0 0 tm_n (hp σ32) 369 [some (.ref 130), some (.int l1), none, none, none, none, none, some (.int l7), some (.int l8)] [.ref 140, .int l1, .ref 130]
    refine V.blk hC [(.iload_n 1, 1)] 369 [some (.ref 130), some (.int l1), none, none, none, none, none, some (.int l7), some (.int l8)] [.ref 140, .int l1, .ref 130] ⟨d_Y_choose_369, trivial⟩ (show tv_run _ _ _ _ = some (370, [some (.ref 130), some (.int l1), none, none, none, none, none, some (.int l7), some (.int l8)], [.int l1, .ref 140, .int l1, .ref 130]) from rfl) ?_
    obtain ⟨hb33, hf⟩ := tm_if hf
    refine V.iald hC (kd_in kd_140 (by decide)) (hp_at kd_140) rfl hb33 d_Y_choose_370 ?_
    show V X 0 0 tm_n (hp σ32) 371 [some (.ref 130), some (.int l1), none, none, none, none, none, some (.int l7), some (.int l8)] [.int (σ32.1 140 l1.toNatClampNeg), .int l1, .ref 130]
    refine V.blk hC [(.iload 8, 2), (.iconst 0, 1)] 371 [some (.ref 130), some (.int l1), none, none, none, none, none, some (.int l7), some (.int l8)] [.int (σ32.1 140 l1.toNatClampNeg), .int l1, .ref 130] ⟨d_Y_choose_371, d_Y_choose_373, trivial⟩ (show tv_run _ _ _ _ = some (374, [some (.ref 130), some (.int l1), none, none, none, none, none, some (.int l7), some (.int l8)], [.int (0 : Int32), .int l8, .int (σ32.1 140 l1.toNatClampNeg), .int l1, .ref 130]) from rfl) ?_
    obtain ⟨q34, hq34, hf⟩ := tm_bd hf
    refine V.callV hC tm_nest rfl (c_Y_announce σ32 l1 (σ32.1 140 l1.toNatClampNeg) l8 (0 : Int32)  hq34) (tm_gd tc_Y_announce) tg_Y_193 th_Y_announce ⟨tm_le rfl, tm_le rfl, tm_le rfl, tm_le rfl⟩ rfl (kd_in kd_130 (by decide)) (hp_at kd_130) (As := [.int l1, .int (σ32.1 140 l1.toNatClampNeg), .int l8, .int (0 : Int32)]) (st := []) rfl (tm_le rfl) d_Y_choose_374 ?_
    rintro v n2 h2 ⟨rfl, rfl, rfl⟩
    show V X 0 0 tm_n (hp q34) 377 [some (.ref 130), some (.int l1), none, none, none, none, none, some (.int l7), some (.int l8)] []
    exact V.less (tv_le_some (tv_le_none (tv_le_none (tv_le_none (tv_le_none (tv_le_none (tv_le_none (tv_le_some (tv_le_none tv_le_nil))))))))) (c_Y_choose_L377 hC hr hE q34 l7  hf)
set_option maxHeartbeats 4000000 in
set_option maxRecDepth 100000 in
theorem c_Y_choose_L308 {X : tv_X} {r : Int32 × tm_S} (hC : tv_K X tb_Y_choose 9 "TrickleMeshModel" tm_wg tm_ns tm_cl tm_ty { frames := 4, cells := 0, slots := 0, locals := 90 }) (hr : tv_ret X (some .boolean)) (hE : tv_end X (tm_P (some (.int r.1)) r.2) 0 0) (σ : tm_S) (l1 : Int32) (l5 : Int32) (l7 : Int32)  (hf : f_Y_choose_L308 σ l1 l5 l7 = some r) : V X 0 0 tm_n (hp σ) 308 [some (.ref 130), some (.int l1), none, none, none, some (.int l5), none, some (.int l7), none] [] := by
  unfold f_Y_choose_L308 at hf
  refine V.blk hC [(.aload_n 0, 1)] 308 [some (.ref 130), some (.int l1), none, none, none, some (.int l5), none, some (.int l7), none] [] ⟨d_Y_choose_308, trivial⟩ (show tv_run _ _ _ _ = some (309, [some (.ref 130), some (.int l1), none, none, none, some (.int l5), none, some (.int l7), none], [.ref 130]) from rfl) ?_
  refine V.getf hC tf_Y_38 (kd_in kd_130 (by decide)) (hp_at kd_130) rfl d_Y_choose_309 ?_
  show V X 0 0 tm_n (hp σ) 312 [some (.ref 130), some (.int l1), none, none, none, some (.int l5), none, some (.int l7), none] [.ref 140]
  refine V.blk hC [(.iload_n 1, 1)] 312 [some (.ref 130), some (.int l1), none, none, none, some (.int l5), none, some (.int l7), none] [.ref 140] ⟨d_Y_choose_312, trivial⟩ (show tv_run _ _ _ _ = some (313, [some (.ref 130), some (.int l1), none, none, none, some (.int l5), none, some (.int l7), none], [.int l1, .ref 140]) from rfl) ?_
  obtain ⟨hb25, hf⟩ := tm_if hf
  refine V.iald hC (kd_in kd_140 (by decide)) (hp_at kd_140) rfl hb25 d_Y_choose_313 ?_
  show V X 0 0 tm_n (hp σ) 314 [some (.ref 130), some (.int l1), none, none, none, some (.int l5), none, some (.int l7), none] [.int (σ.1 140 l1.toNatClampNeg)]
  refine V.blk hC [(.iload 5, 2)] 314 [some (.ref 130), some (.int l1), none, none, none, some (.int l5), none, some (.int l7), none] [.int (σ.1 140 l1.toNatClampNeg)] ⟨d_Y_choose_314, trivial⟩ (show tv_run _ _ _ _ = some (316, [some (.ref 130), some (.int l1), none, none, none, some (.int l5), none, some (.int l7), none], [.int l5, .int (σ.1 140 l1.toNatClampNeg)]) from rfl) ?_
  refine V.icmp_eq hC d_Y_choose_316 (tgt := 377) (by decide) (fun hc => ?_) (fun hc => ?_)
  · rw [if_pos hc] at hf
    exact V.less (tv_le_some (tv_le_none (tv_le_none (tv_le_none (tv_le_none (tv_le_none (tv_le_none (tv_le_some (tv_le_none tv_le_nil))))))))) (c_Y_choose_L377 hC hr hE σ l7  hf)
  · rw [if_neg hc] at hf
    refine V.blk hC [(.aload_n 0, 1), (.iload_n 1, 1)] 319 [some (.ref 130), some (.int l1), none, none, none, some (.int l5), none, some (.int l7), none] [] ⟨d_Y_choose_319, d_Y_choose_320, trivial⟩ (show tv_run _ _ _ _ = some (321, [some (.ref 130), some (.int l1), none, none, none, some (.int l5), none, some (.int l7), none], [.int l1, .ref 130]) from rfl) ?_
    obtain ⟨q26, hq26, hf⟩ := tm_bd hf
    refine V.callV hC tm_nest rfl (c_Y_allGoals σ l1  hq26) (tm_gd tc_Y_allGoals) tg_Y_190 th_Y_allGoals ⟨tm_le rfl, tm_le rfl, tm_le rfl, tm_le rfl⟩ rfl (kd_in kd_130 (by decide)) (hp_at kd_130) (As := [.int l1]) (st := []) rfl (tm_le rfl) d_Y_choose_321 ?_
    rintro v n2 h2 ⟨rfl, rfl, rfl⟩
    show V X 0 0 tm_n (hp q26.2) 324 [some (.ref 130), some (.int l1), none, none, none, some (.int l5), none, some (.int l7), none] [.int q26.1]
    refine V.blk hC [(.istore 8, 2), (.iload 5, 2)] 324 [some (.ref 130), some (.int l1), none, none, none, some (.int l5), none, some (.int l7), none] [.int q26.1] ⟨d_Y_choose_324, d_Y_choose_326, trivial⟩ (show tv_run _ _ _ _ = some (328, [some (.ref 130), some (.int l1), none, none, none, some (.int l5), none, some (.int l7), some (.int q26.1)], [.int l5]) from rfl) ?_
    refine V.if_lt hC d_Y_choose_328 (tgt := 341) (by decide) (fun hc => ?_) (fun hc => ?_)
    · rw [if_pos hc] at hf
      exact V.less (tv_le_some (tv_le_some (tv_le_none (tv_le_none (tv_le_none (tv_le_none (tv_le_none (tv_le_some (tv_le_some tv_le_nil))))))))) (c_Y_choose_L341 hC hr hE q26.2 l1 l7 q26.1  hf)
    · rw [if_neg hc] at hf
      refine V.blk hC [(.aload_n 0, 1), (.iload_n 1, 1), (.iload 5, 2), (.iload 8, 2), (.iconst 1, 1)] 331 [some (.ref 130), some (.int l1), none, none, none, some (.int l5), none, some (.int l7), some (.int q26.1)] [] ⟨d_Y_choose_331, d_Y_choose_332, d_Y_choose_333, d_Y_choose_335, d_Y_choose_337, trivial⟩ (show tv_run _ _ _ _ = some (338, [some (.ref 130), some (.int l1), none, none, none, some (.int l5), none, some (.int l7), some (.int q26.1)], [.int (1 : Int32), .int q26.1, .int l5, .int l1, .ref 130]) from rfl) ?_
      obtain ⟨q27, hq27, hf⟩ := tm_bd hf
      refine V.callV hC tm_nest rfl (c_Y_announce q26.2 l1 l5 q26.1 (1 : Int32)  hq27) (tm_gd tc_Y_announce) tg_Y_193 th_Y_announce ⟨tm_le rfl, tm_le rfl, tm_le rfl, tm_le rfl⟩ rfl (kd_in kd_130 (by decide)) (hp_at kd_130) (As := [.int l1, .int l5, .int q26.1, .int (1 : Int32)]) (st := []) rfl (tm_le rfl) d_Y_choose_338 ?_
      rintro v n2 h2 ⟨rfl, rfl, rfl⟩
      show V X 0 0 tm_n (hp q27) 341 [some (.ref 130), some (.int l1), none, none, none, some (.int l5), none, some (.int l7), some (.int q26.1)] []
      exact V.less (tv_le_some (tv_le_some (tv_le_none (tv_le_none (tv_le_none (tv_le_none (tv_le_none (tv_le_some (tv_le_some tv_le_nil))))))))) (c_Y_choose_L341 hC hr hE q27 l1 l7 q26.1  hf)
set_option maxHeartbeats 4000000 in
set_option maxRecDepth 100000 in
theorem c_Y_choose_L296 {X : tv_X} {r : Int32 × tm_S} (hC : tv_K X tb_Y_choose 9 "TrickleMeshModel" tm_wg tm_ns tm_cl tm_ty { frames := 4, cells := 0, slots := 0, locals := 90 }) (hr : tv_ret X (some .boolean)) (hE : tv_end X (tm_P (some (.int r.1)) r.2) 0 0) (σ : tm_S) (l1 : Int32) (l5 : Int32) (s0 : Int32)  (hf : f_Y_choose_L296 σ l1 l5 s0 = some r) : V X 0 0 tm_n (hp σ) 296 [some (.ref 130), some (.int l1), none, none, none, some (.int l5), none, none, none] [.int s0] := by
  unfold f_Y_choose_L296 at hf
  refine V.blk hC [(.istore 7, 2), (.iload 7, 2)] 296 [some (.ref 130), some (.int l1), none, none, none, some (.int l5), none, none, none] [.int s0] ⟨d_Y_choose_296, d_Y_choose_298, trivial⟩ (show tv_run _ _ _ _ = some (300, [some (.ref 130), some (.int l1), none, none, none, some (.int l5), none, some (.int s0), none], [.int s0]) from rfl) ?_
  refine V.if_eq hC d_Y_choose_300 (tgt := 308) (by decide) (fun hc => ?_) (fun hc => ?_)
  · rw [if_pos hc] at hf
    exact V.less (tv_le_some (tv_le_some (tv_le_none (tv_le_none (tv_le_none (tv_le_some (tv_le_none (tv_le_some (tv_le_none tv_le_nil))))))))) (c_Y_choose_L308 hC hr hE σ l1 l5 s0  hf)
  · rw [if_neg hc] at hf
    refine V.blk hC [(.aload_n 0, 1), (.iload_n 1, 1)] 303 [some (.ref 130), some (.int l1), none, none, none, some (.int l5), none, some (.int s0), none] [] ⟨d_Y_choose_303, d_Y_choose_304, trivial⟩ (show tv_run _ _ _ _ = some (305, [some (.ref 130), some (.int l1), none, none, none, some (.int l5), none, some (.int s0), none], [.int l1, .ref 130]) from rfl) ?_
    obtain ⟨q24, hq24, hf⟩ := tm_bd hf
    refine V.callV hC tm_nest rfl (c_Y_reset σ l1  hq24) (tm_gd tc_Y_reset) tg_Y_150 th_Y_reset ⟨tm_le rfl, tm_le rfl, tm_le rfl, tm_le rfl⟩ rfl (kd_in kd_130 (by decide)) (hp_at kd_130) (As := [.int l1]) (st := []) rfl (tm_le rfl) d_Y_choose_305 ?_
    rintro v n2 h2 ⟨rfl, rfl, rfl⟩
    show V X 0 0 tm_n (hp q24) 308 [some (.ref 130), some (.int l1), none, none, none, some (.int l5), none, some (.int s0), none] []
    exact V.less (tv_le_some (tv_le_some (tv_le_none (tv_le_none (tv_le_none (tv_le_some (tv_le_none (tv_le_some (tv_le_none tv_le_nil))))))))) (c_Y_choose_L308 hC hr hE q24 l1 l5 s0  hf)
set_option maxHeartbeats 4000000 in
set_option maxRecDepth 100000 in
theorem c_Y_choose_L291 {X : tv_X} {r : Int32 × tm_S} (hC : tv_K X tb_Y_choose 9 "TrickleMeshModel" tm_wg tm_ns tm_cl tm_ty { frames := 4, cells := 0, slots := 0, locals := 90 }) (hr : tv_ret X (some .boolean)) (hE : tv_end X (tm_P (some (.int r.1)) r.2) 0 0) (σ : tm_S) (l1 : Int32) (l5 : Int32)  (hf : f_Y_choose_L291 σ l1 l5 = some r) : V X 0 0 tm_n (hp σ) 291 [some (.ref 130), some (.int l1), none, none, none, some (.int l5), none, none, none] [] := by
  unfold f_Y_choose_L291 at hf
  refine V.blk hC [(.iconst 1, 1)] 291 [some (.ref 130), some (.int l1), none, none, none, some (.int l5), none, none, none] [] ⟨d_Y_choose_291, trivial⟩ (show tv_run _ _ _ _ = some (292, [some (.ref 130), some (.int l1), none, none, none, some (.int l5), none, none, none], [.int (1 : Int32)]) from rfl) ?_
  refine V.goto hC d_Y_choose_292 (tgt := 296) (by decide) ?_
  exact V.less (tv_le_some (tv_le_some (tv_le_none (tv_le_none (tv_le_none (tv_le_some (tv_le_none (tv_le_none (tv_le_none tv_le_nil))))))))) (c_Y_choose_L296 hC hr hE σ l1 l5 (1 : Int32)  hf)
set_option maxHeartbeats 4000000 in
set_option maxRecDepth 100000 in
theorem c_Y_choose_L268 {X : tv_X} {r : Int32 × tm_S} (hC : tv_K X tb_Y_choose 9 "TrickleMeshModel" tm_wg tm_ns tm_cl tm_ty { frames := 4, cells := 0, slots := 0, locals := 90 }) (hr : tv_ret X (some .boolean)) (hE : tv_end X (tm_P (some (.int r.1)) r.2) 0 0) (σ : tm_S) (l1 : Int32) (l4 : Int32) (l5 : Int32) (s0 : Int32) (s1 : Int32)  (hf : f_Y_choose_L268 σ l1 l4 l5 s0 s1 = some r) : V X 0 0 tm_n (hp σ) 268 [some (.ref 130), some (.int l1), none, none, some (.int l4), some (.int l5), none, none, none] [.int s0, .int s1, .ref 142] := by
  unfold f_Y_choose_L268 at hf
  obtain ⟨hb19, hf⟩ := tm_if hf
  obtain ⟨hz21, hf⟩ := tm_if hf
  obtain ⟨σ20, hσ20, hf⟩ := tm_ww hf
  refine V.setz hC kd_142 (kd_in kd_142 (by decide)) rfl rfl rfl hb19 hz21 d_Y_choose_268 ?_
  rw [← hσ20]
  refine V.blk hC [(.aload_n 0, 1)] 269 [some (.ref 130), some (.int l1), none, none, some (.int l4), some (.int l5), none, none, none] [] ⟨d_Y_choose_269, trivial⟩ (show tv_run _ _ _ _ = some (270, [some (.ref 130), some (.int l1), none, none, some (.int l4), some (.int l5), none, none, none], [.ref 130]) from rfl) ?_
  refine V.getf hC tf_Y_35 (kd_in kd_130 (by decide)) (hp_at kd_130) rfl d_Y_choose_270 ?_
  show V X 0 0 tm_n (hp σ20) 273 [some (.ref 130), some (.int l1), none, none, some (.int l4), some (.int l5), none, none, none] [.ref 139]
  refine V.blk hC [(.iload_n 1, 1)] 273 [some (.ref 130), some (.int l1), none, none, some (.int l4), some (.int l5), none, none, none] [.ref 139] ⟨d_Y_choose_273, trivial⟩ (show tv_run _ _ _ _ = some (274, [some (.ref 130), some (.int l1), none, none, some (.int l4), some (.int l5), none, none, none], [.int l1, .ref 139]) from rfl) ?_
  obtain ⟨hb22, hf⟩ := tm_if hf
  refine V.iald hC (kd_in kd_139 (by decide)) (hp_at kd_139) rfl hb22 d_Y_choose_274 ?_
  show V X 0 0 tm_n (hp σ20) 275 [some (.ref 130), some (.int l1), none, none, some (.int l4), some (.int l5), none, none, none] [.int (σ20.1 139 l1.toNatClampNeg)]
  refine V.blk hC [(.iload 4, 2)] 275 [some (.ref 130), some (.int l1), none, none, some (.int l4), some (.int l5), none, none, none] [.int (σ20.1 139 l1.toNatClampNeg)] ⟨d_Y_choose_275, trivial⟩ (show tv_run _ _ _ _ = some (277, [some (.ref 130), some (.int l1), none, none, some (.int l4), some (.int l5), none, none, none], [.int l4, .int (σ20.1 139 l1.toNatClampNeg)]) from rfl) ?_
  refine V.icmp_ne hC d_Y_choose_277 (tgt := 291) (by decide) (fun hc => ?_) (fun hc => ?_)
  · rw [if_neg hc] at hf
    exact V.less (tv_le_some (tv_le_some (tv_le_none (tv_le_none (tv_le_none (tv_le_some (tv_le_none (tv_le_none (tv_le_none tv_le_nil))))))))) (c_Y_choose_L291 hC hr hE σ20 l1 l5  hf)
  · rw [if_pos hc] at hf
    refine V.blk hC [(.aload_n 0, 1)] 280 [some (.ref 130), some (.int l1), none, none, some (.int l4), some (.int l5), none, none, none] [] ⟨d_Y_choose_280, trivial⟩ (show tv_run _ _ _ _ = some (281, [some (.ref 130), some (.int l1), none, none, some (.int l4), some (.int l5), none, none, none], [.ref 130]) from rfl) ?_
    refine V.getf hC tf_Y_38 (kd_in kd_130 (by decide)) (hp_at kd_130) rfl d_Y_choose_281 ?_
    show V X 0 0 tm_n (hp σ20) 284 [some (.ref 130), some (.int l1), none, none, some (.int l4), some (.int l5), none, none, none] [.ref 140]
    refine V.blk hC [(.iload_n 1, 1)] 284 [some (.ref 130), some (.int l1), none, none, some (.int l4), some (.int l5), none, none, none] [.ref 140] ⟨d_Y_choose_284, trivial⟩ (show tv_run _ _ _ _ = some (285, [some (.ref 130), some (.int l1), none, none, some (.int l4), some (.int l5), none, none, none], [.int l1, .ref 140]) from rfl) ?_
    obtain ⟨hb23, hf⟩ := tm_if hf
    refine V.iald hC (kd_in kd_140 (by decide)) (hp_at kd_140) rfl hb23 d_Y_choose_285 ?_
    show V X 0 0 tm_n (hp σ20) 286 [some (.ref 130), some (.int l1), none, none, some (.int l4), some (.int l5), none, none, none] [.int (σ20.1 140 l1.toNatClampNeg)]
    refine V.blk hC [(.iload 5, 2)] 286 [some (.ref 130), some (.int l1), none, none, some (.int l4), some (.int l5), none, none, none] [.int (σ20.1 140 l1.toNatClampNeg)] ⟨d_Y_choose_286, trivial⟩ (show tv_run _ _ _ _ = some (288, [some (.ref 130), some (.int l1), none, none, some (.int l4), some (.int l5), none, none, none], [.int l5, .int (σ20.1 140 l1.toNatClampNeg)]) from rfl) ?_
    refine V.icmp_eq hC d_Y_choose_288 (tgt := 295) (by decide) (fun hc => ?_) (fun hc => ?_)
    · rw [if_pos hc] at hf
      refine V.blk hC [(.iconst 0, 1)] 295 [some (.ref 130), some (.int l1), none, none, some (.int l4), some (.int l5), none, none, none] [] ⟨d_Y_choose_295, trivial⟩ (show tv_run _ _ _ _ = some (296, [some (.ref 130), some (.int l1), none, none, some (.int l4), some (.int l5), none, none, none], [.int (0 : Int32)]) from rfl) ?_
      exact V.less (tv_le_some (tv_le_some (tv_le_none (tv_le_none (tv_le_none (tv_le_some (tv_le_none (tv_le_none (tv_le_none tv_le_nil))))))))) (c_Y_choose_L296 hC hr hE σ20 l1 l5 (0 : Int32)  hf)
    · rw [if_neg hc] at hf
      exact V.less (tv_le_some (tv_le_some (tv_le_none (tv_le_none (tv_le_none (tv_le_some (tv_le_none (tv_le_none (tv_le_none tv_le_nil))))))))) (c_Y_choose_L291 hC hr hE σ20 l1 l5  hf)
set_option maxHeartbeats 4000000 in
set_option maxRecDepth 100000 in
theorem c_Y_choose_L263 {X : tv_X} {r : Int32 × tm_S} (hC : tv_K X tb_Y_choose 9 "TrickleMeshModel" tm_wg tm_ns tm_cl tm_ty { frames := 4, cells := 0, slots := 0, locals := 90 }) (hr : tv_ret X (some .boolean)) (hE : tv_end X (tm_P (some (.int r.1)) r.2) 0 0) (σ : tm_S) (l1 : Int32) (l4 : Int32) (l5 : Int32) (s0 : Int32)  (hf : f_Y_choose_L263 σ l1 l4 l5 s0 = some r) : V X 0 0 tm_n (hp σ) 263 [some (.ref 130), some (.int l1), none, none, some (.int l4), some (.int l5), none, none, none] [.int s0, .ref 142] := by
  unfold f_Y_choose_L263 at hf
  refine V.blk hC [(.iconst 1, 1)] 263 [some (.ref 130), some (.int l1), none, none, some (.int l4), some (.int l5), none, none, none] [.int s0, .ref 142] ⟨d_Y_choose_263, trivial⟩ (show tv_run _ _ _ _ = some (264, [some (.ref 130), some (.int l1), none, none, some (.int l4), some (.int l5), none, none, none], [.int (1 : Int32), .int s0, .ref 142]) from rfl) ?_
  refine V.goto hC d_Y_choose_264 (tgt := 268) (by decide) ?_
  exact V.less (tv_le_some (tv_le_some (tv_le_none (tv_le_none (tv_le_some (tv_le_some (tv_le_none (tv_le_none (tv_le_none tv_le_nil))))))))) (c_Y_choose_L268 hC hr hE σ l1 l4 l5 (1 : Int32) s0  hf)
set_option maxHeartbeats 4000000 in
set_option maxRecDepth 100000 in
theorem c_Y_choose_L243 {X : tv_X} {r : Int32 × tm_S} (hC : tv_K X tb_Y_choose 9 "TrickleMeshModel" tm_wg tm_ns tm_cl tm_ty { frames := 4, cells := 0, slots := 0, locals := 90 }) (hr : tv_ret X (some .boolean)) (hE : tv_end X (tm_P (some (.int r.1)) r.2) 0 0) (σ : tm_S) (l1 : Int32) (l4 : Int32) (l5 : Int32) (l6 : Int32) (s0 : Int32) (s1 : Int32)  (hf : f_Y_choose_L243 σ l1 l4 l5 l6 s0 s1 = some r) : V X 0 0 tm_n (hp σ) 243 [some (.ref 130), some (.int l1), none, none, some (.int l4), some (.int l5), some (.int l6), none, none] [.int s0, .int s1, .ref 141] := by
  unfold f_Y_choose_L243 at hf
  obtain ⟨hb16, hf⟩ := tm_if hf
  obtain ⟨σ17, hσ17, hf⟩ := tm_ww hf
  refine V.seta hC kd_141 (kd_in kd_141 (by decide)) rfl rfl rfl hb16 d_Y_choose_243 ?_
  rw [← hσ17]
  refine V.blk hC [(.aload_n 0, 1)] 244 [some (.ref 130), some (.int l1), none, none, some (.int l4), some (.int l5), some (.int l6), none, none] [] ⟨d_Y_choose_244, trivial⟩ (show tv_run _ _ _ _ = some (245, [some (.ref 130), some (.int l1), none, none, some (.int l4), some (.int l5), some (.int l6), none, none], [.ref 130]) from rfl) ?_
  refine V.getf hC tf_Y_44 (kd_in kd_130 (by decide)) (hp_at kd_130) rfl d_Y_choose_245 ?_
  show V X 0 0 tm_n (hp σ17) 248 [some (.ref 130), some (.int l1), none, none, some (.int l4), some (.int l5), some (.int l6), none, none] [.ref 142]
  refine V.blk hC [(.iload_n 1, 1), (.aload_n 0, 1)] 248 [some (.ref 130), some (.int l1), none, none, some (.int l4), some (.int l5), some (.int l6), none, none] [.ref 142] ⟨d_Y_choose_248, d_Y_choose_249, trivial⟩ (show tv_run _ _ _ _ = some (250, [some (.ref 130), some (.int l1), none, none, some (.int l4), some (.int l5), some (.int l6), none, none], [.ref 130, .int l1, .ref 142]) from rfl) ?_
  refine V.getf hC tf_Y_44 (kd_in kd_130 (by decide)) (hp_at kd_130) rfl d_Y_choose_250 ?_
  show V X 0 0 tm_n (hp σ17) 253 [some (.ref 130), some (.int l1), none, none, some (.int l4), some (.int l5), some (.int l6), none, none] [.ref 142, .int l1, .ref 142]
  refine V.blk hC [(.iload_n 1, 1)] 253 [some (.ref 130), some (.int l1), none, none, some (.int l4), some (.int l5), some (.int l6), none, none] [.ref 142, .int l1, .ref 142] ⟨d_Y_choose_253, trivial⟩ (show tv_run _ _ _ _ = some (254, [some (.ref 130), some (.int l1), none, none, some (.int l4), some (.int l5), some (.int l6), none, none], [.int l1, .ref 142, .int l1, .ref 142]) from rfl) ?_
  obtain ⟨hb18, hf⟩ := tm_if hf
  refine V.zald hC (kd_in kd_142 (by decide)) (hp_at kd_142) rfl hb18 d_Y_choose_254 ?_
  show V X 0 0 tm_n (hp σ17) 255 [some (.ref 130), some (.int l1), none, none, some (.int l4), some (.int l5), some (.int l6), none, none] [.int (σ17.1 142 l1.toNatClampNeg), .int l1, .ref 142]
  refine V.if_ne hC d_Y_choose_255 (tgt := 263) (by decide) (fun hc => ?_) (fun hc => ?_)
  · rw [if_neg hc] at hf
    exact V.less (tv_le_some (tv_le_some (tv_le_none (tv_le_none (tv_le_some (tv_le_some (tv_le_none (tv_le_none (tv_le_none tv_le_nil))))))))) (c_Y_choose_L263 hC hr hE σ17 l1 l4 l5 l1  hf)
  · rw [if_pos hc] at hf
    refine V.blk hC [(.iload 6, 2)] 258 [some (.ref 130), some (.int l1), none, none, some (.int l4), some (.int l5), some (.int l6), none, none] [.int l1, .ref 142] ⟨d_Y_choose_258, trivial⟩ (show tv_run _ _ _ _ = some (260, [some (.ref 130), some (.int l1), none, none, some (.int l4), some (.int l5), some (.int l6), none, none], [.int l6, .int l1, .ref 142]) from rfl) ?_
    refine V.if_ne hC d_Y_choose_260 (tgt := 267) (by decide) (fun hc => ?_) (fun hc => ?_)
    · rw [if_neg hc] at hf
      refine V.blk hC [(.iconst 0, 1)] 267 [some (.ref 130), some (.int l1), none, none, some (.int l4), some (.int l5), some (.int l6), none, none] [.int l1, .ref 142] ⟨d_Y_choose_267, trivial⟩ (show tv_run _ _ _ _ = some (268, [some (.ref 130), some (.int l1), none, none, some (.int l4), some (.int l5), some (.int l6), none, none], [.int (0 : Int32), .int l1, .ref 142]) from rfl) ?_
      exact V.less (tv_le_some (tv_le_some (tv_le_none (tv_le_none (tv_le_some (tv_le_some (tv_le_none (tv_le_none (tv_le_none tv_le_nil))))))))) (c_Y_choose_L268 hC hr hE σ17 l1 l4 l5 (0 : Int32) l1  hf)
    · rw [if_pos hc] at hf
      exact V.less (tv_le_some (tv_le_some (tv_le_none (tv_le_none (tv_le_some (tv_le_some (tv_le_none (tv_le_none (tv_le_none tv_le_nil))))))))) (c_Y_choose_L263 hC hr hE σ17 l1 l4 l5 l1  hf)
set_option maxHeartbeats 4000000 in
set_option maxRecDepth 100000 in
theorem c_Y_choose_L237 {X : tv_X} {r : Int32 × tm_S} (hC : tv_K X tb_Y_choose 9 "TrickleMeshModel" tm_wg tm_ns tm_cl tm_ty { frames := 4, cells := 0, slots := 0, locals := 90 }) (hr : tv_ret X (some .boolean)) (hE : tv_end X (tm_P (some (.int r.1)) r.2) 0 0) (σ : tm_S) (l1 : Int32) (l4 : Int32) (l5 : Int32) (l6 : Int32) (s0 : Int32)  (hf : f_Y_choose_L237 σ l1 l4 l5 l6 s0 = some r) : V X 0 0 tm_n (hp σ) 237 [some (.ref 130), some (.int l1), none, none, some (.int l4), some (.int l5), some (.int l6), none, none] [.int s0, .ref 141] := by
  unfold f_Y_choose_L237 at hf
  refine V.blk hC [(.aload_n 0, 1)] 237 [some (.ref 130), some (.int l1), none, none, some (.int l4), some (.int l5), some (.int l6), none, none] [.int s0, .ref 141] ⟨d_Y_choose_237, trivial⟩ (show tv_run _ _ _ _ = some (238, [some (.ref 130), some (.int l1), none, none, some (.int l4), some (.int l5), some (.int l6), none, none], [.ref 130, .int s0, .ref 141]) from rfl) ?_
  refine V.getf hC tf_Y_41 (kd_in kd_130 (by decide)) (hp_at kd_130) rfl d_Y_choose_238 ?_
  show V X 0 0 tm_n (hp σ) 241 [some (.ref 130), some (.int l1), none, none, some (.int l4), some (.int l5), some (.int l6), none, none] [.ref 141, .int s0, .ref 141]
  refine V.blk hC [(.iload_n 1, 1)] 241 [some (.ref 130), some (.int l1), none, none, some (.int l4), some (.int l5), some (.int l6), none, none] [.ref 141, .int s0, .ref 141] ⟨d_Y_choose_241, trivial⟩ (show tv_run _ _ _ _ = some (242, [some (.ref 130), some (.int l1), none, none, some (.int l4), some (.int l5), some (.int l6), none, none], [.int l1, .ref 141, .int s0, .ref 141]) from rfl) ?_
  obtain ⟨hb15, hf⟩ := tm_if hf
  refine V.iald hC (kd_in kd_141 (by decide)) (hp_at kd_141) rfl hb15 d_Y_choose_242 ?_
  show V X 0 0 tm_n (hp σ) 243 [some (.ref 130), some (.int l1), none, none, some (.int l4), some (.int l5), some (.int l6), none, none] [.int (σ.1 141 l1.toNatClampNeg), .int s0, .ref 141]
  exact V.less (tv_le_some (tv_le_some (tv_le_none (tv_le_none (tv_le_some (tv_le_some (tv_le_some (tv_le_none (tv_le_none tv_le_nil))))))))) (c_Y_choose_L243 hC hr hE σ l1 l4 l5 l6 (σ.1 141 l1.toNatClampNeg) s0  hf)
set_option maxHeartbeats 4000000 in
set_option maxRecDepth 100000 in
theorem c_Y_choose_L212 {X : tv_X} {r : Int32 × tm_S} (hC : tv_K X tb_Y_choose 9 "TrickleMeshModel" tm_wg tm_ns tm_cl tm_ty { frames := 4, cells := 0, slots := 0, locals := 90 }) (hr : tv_ret X (some .boolean)) (hE : tv_end X (tm_P (some (.int r.1)) r.2) 0 0) (σ : tm_S) (l1 : Int32) (l3 : Int32) (l4 : Int32) (l5 : Int32) (l6 : Int32) (s0 : Int32) (s1 : Int32)  (hf : f_Y_choose_L212 σ l1 l3 l4 l5 l6 s0 s1 = some r) : V X 0 0 tm_n (hp σ) 212 [some (.ref 130), some (.int l1), none, some (.int l3), some (.int l4), some (.int l5), some (.int l6), none, none] [.int s0, .int s1, .ref 140] := by
  unfold f_Y_choose_L212 at hf
  obtain ⟨hb12, hf⟩ := tm_if hf
  obtain ⟨σ13, hσ13, hf⟩ := tm_ww hf
  refine V.seta hC kd_140 (kd_in kd_140 (by decide)) rfl rfl rfl hb12 d_Y_choose_212 ?_
  rw [← hσ13]
  refine V.blk hC [(.aload_n 0, 1)] 213 [some (.ref 130), some (.int l1), none, some (.int l3), some (.int l4), some (.int l5), some (.int l6), none, none] [] ⟨d_Y_choose_213, trivial⟩ (show tv_run _ _ _ _ = some (214, [some (.ref 130), some (.int l1), none, some (.int l3), some (.int l4), some (.int l5), some (.int l6), none, none], [.ref 130]) from rfl) ?_
  refine V.getf hC tf_Y_41 (kd_in kd_130 (by decide)) (hp_at kd_130) rfl d_Y_choose_214 ?_
  show V X 0 0 tm_n (hp σ13) 217 [some (.ref 130), some (.int l1), none, some (.int l3), some (.int l4), some (.int l5), some (.int l6), none, none] [.ref 141]
  refine V.blk hC [(.iload_n 1, 1), (.iload 6, 2)] 217 [some (.ref 130), some (.int l1), none, some (.int l3), some (.int l4), some (.int l5), some (.int l6), none, none] [.ref 141] ⟨d_Y_choose_217, d_Y_choose_218, trivial⟩ (show tv_run _ _ _ _ = some (220, [some (.ref 130), some (.int l1), none, some (.int l3), some (.int l4), some (.int l5), some (.int l6), none, none], [.int l6, .int l1, .ref 141]) from rfl) ?_
  refine V.if_ne hC d_Y_choose_220 (tgt := 237) (by decide) (fun hc => ?_) (fun hc => ?_)
  · rw [if_neg hc] at hf
    exact V.less (tv_le_some (tv_le_some (tv_le_none (tv_le_none (tv_le_some (tv_le_some (tv_le_some (tv_le_none (tv_le_none tv_le_nil))))))))) (c_Y_choose_L237 hC hr hE σ13 l1 l4 l5 l6 l1  hf)
  · rw [if_pos hc] at hf
    refine V.blk hC [(.iload_n 3, 1), (.aload_n 0, 1)] 223 [some (.ref 130), some (.int l1), none, some (.int l3), some (.int l4), some (.int l5), some (.int l6), none, none] [.int l1, .ref 141] ⟨d_Y_choose_223, d_Y_choose_224, trivial⟩ (show tv_run _ _ _ _ = some (225, [some (.ref 130), some (.int l1), none, some (.int l3), some (.int l4), some (.int l5), some (.int l6), none, none], [.ref 130, .int l3, .int l1, .ref 141]) from rfl) ?_
    refine V.getf hC tf_Y_41 (kd_in kd_130 (by decide)) (hp_at kd_130) rfl d_Y_choose_225 ?_
    show V X 0 0 tm_n (hp σ13) 228 [some (.ref 130), some (.int l1), none, some (.int l3), some (.int l4), some (.int l5), some (.int l6), none, none] [.ref 141, .int l3, .int l1, .ref 141]
    refine V.blk hC [(.iload_n 1, 1)] 228 [some (.ref 130), some (.int l1), none, some (.int l3), some (.int l4), some (.int l5), some (.int l6), none, none] [.ref 141, .int l3, .int l1, .ref 141] ⟨d_Y_choose_228, trivial⟩ (show tv_run _ _ _ _ = some (229, [some (.ref 130), some (.int l1), none, some (.int l3), some (.int l4), some (.int l5), some (.int l6), none, none], [.int l1, .ref 141, .int l3, .int l1, .ref 141]) from rfl) ?_
    obtain ⟨hb14, hf⟩ := tm_if hf
    refine V.iald hC (kd_in kd_141 (by decide)) (hp_at kd_141) rfl hb14 d_Y_choose_229 ?_
    show V X 0 0 tm_n (hp σ13) 230 [some (.ref 130), some (.int l1), none, some (.int l3), some (.int l4), some (.int l5), some (.int l6), none, none] [.int (σ13.1 141 l1.toNatClampNeg), .int l3, .int l1, .ref 141]
    refine V.icmp_ge hC d_Y_choose_230 (tgt := 237) (by decide) (fun hc => ?_) (fun hc => ?_)
    · rw [if_pos hc] at hf
      exact V.less (tv_le_some (tv_le_some (tv_le_none (tv_le_none (tv_le_some (tv_le_some (tv_le_some (tv_le_none (tv_le_none tv_le_nil))))))))) (c_Y_choose_L237 hC hr hE σ13 l1 l4 l5 l6 l1  hf)
    · rw [if_neg hc] at hf
      refine V.blk hC [(.iload_n 3, 1)] 233 [some (.ref 130), some (.int l1), none, some (.int l3), some (.int l4), some (.int l5), some (.int l6), none, none] [.int l1, .ref 141] ⟨d_Y_choose_233, trivial⟩ (show tv_run _ _ _ _ = some (234, [some (.ref 130), some (.int l1), none, some (.int l3), some (.int l4), some (.int l5), some (.int l6), none, none], [.int l3, .int l1, .ref 141]) from rfl) ?_
      refine V.goto hC d_Y_choose_234 (tgt := 243) (by decide) ?_
      exact V.less (tv_le_some (tv_le_some (tv_le_none (tv_le_none (tv_le_some (tv_le_some (tv_le_some (tv_le_none (tv_le_none tv_le_nil))))))))) (c_Y_choose_L243 hC hr hE σ13 l1 l4 l5 l6 l3 l1  hf)
