set_option maxHeartbeats 4000000 in
set_option maxRecDepth 100000 in
theorem c_Y_draw (σ : tm_S) (a1 : Int32)  {r : Int32 × tm_S} (hf : f_Y_draw σ a1 = some r) : tv_Met ty_Y_draw (Cond.code ty_Y_draw tb_Y_draw 2 (some .int) :: tm_wg) tm_ns tm_cl tm_ty 0 0 0 0 [.ref 130, .int a1] tm_n (hp σ) (tm_P (some (.int r.1)) r.2) := by
  refine tv_Met.of (by decide) rfl (tm_le rfl) ?_
  intro X hC hnm hr hE
  have hC : tv_K X tb_Y_draw 2 "TrickleMeshModel" tm_wg tm_ns tm_cl tm_ty { frames := 0, cells := 0, slots := 0, locals := 0 } := hC
  show V X 0 0 tm_n (hp σ) 0 [some (.ref 130), some (.int a1)] []
  unfold f_Y_draw at hf
  refine V.blk hC [(.aload_n 0, 1), (.aload_n 0, 1)] 0 [some (.ref 130), some (.int a1)] [] ⟨d_Y_draw_0, d_Y_draw_1, trivial⟩ (show tv_run _ _ _ _ = some (2, [some (.ref 130), some (.int a1)], [.ref 130, .ref 130]) from rfl) ?_
  refine V.getf hC tf_Y_140 (kd_in kd_130 (by decide)) (hp_at kd_130) rfl d_Y_draw_2 ?_
  show V X 0 0 tm_n (hp σ) 5 [some (.ref 130), some (.int a1)] [.int (σ.1 130 0), .ref 130]
  refine V.ldc hC tk_Y_154 d_Y_draw_5 ?_
  refine V.blk hC [(.imul, 1), (.sipush 12345, 3), (.iadd, 1)] 7 [some (.ref 130), some (.int a1)] [.int (1103515245 : Int32), .int (σ.1 130 0), .ref 130] ⟨d_Y_draw_7, d_Y_draw_8, d_Y_draw_11, trivial⟩ (show tv_run _ _ _ _ = some (12, [some (.ref 130), some (.int a1)], [.int (((σ.1 130 0) * (1103515245 : Int32)) + (12345 : Int32)), .ref 130]) from rfl) ?_
  obtain ⟨σ1, hσ1, hf⟩ := tm_ww hf
  refine V.seti hC tf_Y_140 tt_Y to_Y tn_Y rfl (by decide +kernel) tm_fi kd_130 (kd_in kd_130 (by decide)) rfl rfl (tm_le rfl) d_Y_draw_12 ?_
  rw [← hσ1]
  refine V.blk hC [(.aload_n 0, 1)] 15 [some (.ref 130), some (.int a1)] [] ⟨d_Y_draw_15, trivial⟩ (show tv_run _ _ _ _ = some (16, [some (.ref 130), some (.int a1)], [.ref 130]) from rfl) ?_
  refine V.getf hC tf_Y_140 (kd_in kd_130 (by decide)) (hp_at kd_130) rfl d_Y_draw_16 ?_
  show V X 0 0 tm_n (hp σ1) 19 [some (.ref 130), some (.int a1)] [.int (σ1.1 130 0)]
  refine V.blk hC [(.bipush 16, 2), (.iushr, 1), (.iload_n 1, 1)] 19 [some (.ref 130), some (.int a1)] [.int (σ1.1 130 0)] ⟨d_Y_draw_19, d_Y_draw_21, d_Y_draw_22, trivial⟩ (show tv_run _ _ _ _ = some (23, [some (.ref 130), some (.int a1)], [.int a1, .int (((σ1.1 130 0).toUInt32 >>> ((16 : Int32).toUInt32 &&& Int32.toUInt32 31)).toInt32)]) from rfl) ?_
  obtain ⟨hn2, hf⟩ := tm_if hf
  refine V.irem hC d_Y_draw_23 hn2 ?_
  obtain rfl := Option.some.inj hf
  exact V.iret hC hr hE d_Y_draw_24 ⟨rfl, rfl, rfl⟩
set_option maxHeartbeats 4000000 in
set_option maxRecDepth 100000 in
theorem c_Y_makeFrame_L2 {X : tv_X} {r : Int32 × tm_S} (hC : tv_K X tb_Y_makeFrame 4 "TrickleMeshModel" tm_wg tm_ns tm_cl tm_ty { frames := 0, cells := 0, slots := 0, locals := 0 }) (hr : tv_ret X (some .int)) (hE : tv_end X (tm_P (some (.int r.1)) r.2) 0 0) : ∀ (k : Nat) (σ : tm_S) (l1 : Int32) (l2 : Int32) (l3 : Int32), f_Y_makeFrame_L2 k σ l1 l2 l3 = some r → V X 0 0 tm_n (hp σ) 2 [some (.ref 130), some (.int l1), some (.int l2), some (.int l3)] [] := by
  intro k
  induction k with
  | zero => intro σ l1 l2 l3  hf; simp only [f_Y_makeFrame_L2] at hf; cases hf
  | succ k hrc =>
    intro σ l1 l2 l3  hf
    rw [f_Y_makeFrame_L2] at hf
    refine V.blk hC [(.aload_n 0, 1)] 2 [some (.ref 130), some (.int l1), some (.int l2), some (.int l3)] [] ⟨d_Y_makeFrame_2, trivial⟩ (show tv_run _ _ _ _ = some (3, [some (.ref 130), some (.int l1), some (.int l2), some (.int l3)], [.ref 130]) from rfl) ?_
    refine V.getf hC tf_Y_80 (kd_in kd_130 (by decide)) (hp_at kd_130) rfl d_Y_makeFrame_3 ?_
    show V X 0 0 tm_n (hp σ) 6 [some (.ref 130), some (.int l1), some (.int l2), some (.int l3)] [.ref 154]
    refine V.blk hC [(.iload_n 3, 1)] 6 [some (.ref 130), some (.int l1), some (.int l2), some (.int l3)] [.ref 154] ⟨d_Y_makeFrame_6, trivial⟩ (show tv_run _ _ _ _ = some (7, [some (.ref 130), some (.int l1), some (.int l2), some (.int l3)], [.int l3, .ref 154]) from rfl) ?_
    obtain ⟨hb1, hf⟩ := tm_if hf
    refine V.zald hC (kd_in kd_154 (by decide)) (hp_at kd_154) rfl hb1 d_Y_makeFrame_7 ?_
    show V X 0 0 tm_n (hp σ) 8 [some (.ref 130), some (.int l1), some (.int l2), some (.int l3)] [.int (σ.1 154 l3.toNatClampNeg)]
    refine V.if_eq hC d_Y_makeFrame_8 (tgt := 17) (by decide) (fun hc => ?_) (fun hc => ?_)
    · rw [if_pos hc] at hf
      refine V.blk hC [(.aload_n 0, 1), (.dup, 1)] 17 [some (.ref 130), some (.int l1), some (.int l2), some (.int l3)] [] ⟨d_Y_makeFrame_17, d_Y_makeFrame_18, trivial⟩ (show tv_run _ _ _ _ = some (19, [some (.ref 130), some (.int l1), some (.int l2), some (.int l3)], [.ref 130, .ref 130]) from rfl) ?_
      refine V.getf hC tf_Y_155 (kd_in kd_130 (by decide)) (hp_at kd_130) rfl d_Y_makeFrame_19 ?_
      show V X 0 0 tm_n (hp σ) 22 [some (.ref 130), some (.int l1), some (.int l2), some (.int l3)] [.int (σ.1 130 40), .ref 130]
      refine V.blk hC [(.iconst 1, 1), (.iadd, 1)] 22 [some (.ref 130), some (.int l1), some (.int l2), some (.int l3)] [.int (σ.1 130 40), .ref 130] ⟨d_Y_makeFrame_22, d_Y_makeFrame_23, trivial⟩ (show tv_run _ _ _ _ = some (24, [some (.ref 130), some (.int l1), some (.int l2), some (.int l3)], [.int ((σ.1 130 40) + (1 : Int32)), .ref 130]) from rfl) ?_
      obtain ⟨σ2, hσ2, hf⟩ := tm_ww hf
      refine V.seti hC tf_Y_155 tt_Y to_Y tn_Y rfl (by decide +kernel) tm_fi kd_130 (kd_in kd_130 (by decide)) rfl rfl (tm_le rfl) d_Y_makeFrame_24 ?_
      rw [← hσ2]
      refine V.blk hC [(.aload_n 0, 1)] 27 [some (.ref 130), some (.int l1), some (.int l2), some (.int l3)] [] ⟨d_Y_makeFrame_27, trivial⟩ (show tv_run _ _ _ _ = some (28, [some (.ref 130), some (.int l1), some (.int l2), some (.int l3)], [.ref 130]) from rfl) ?_
      refine V.getf hC tf_Y_80 (kd_in kd_130 (by decide)) (hp_at kd_130) rfl d_Y_makeFrame_28 ?_
      show V X 0 0 tm_n (hp σ2) 31 [some (.ref 130), some (.int l1), some (.int l2), some (.int l3)] [.ref 154]
      refine V.blk hC [(.iload_n 3, 1), (.iconst 1, 1)] 31 [some (.ref 130), some (.int l1), some (.int l2), some (.int l3)] [.ref 154] ⟨d_Y_makeFrame_31, d_Y_makeFrame_32, trivial⟩ (show tv_run _ _ _ _ = some (33, [some (.ref 130), some (.int l1), some (.int l2), some (.int l3)], [.int (1 : Int32), .int l3, .ref 154]) from rfl) ?_
      obtain ⟨hb3, hf⟩ := tm_if hf
      obtain ⟨σ4, hσ4, hf⟩ := tm_ww hf
      refine V.setz hC kd_154 (kd_in kd_154 (by decide)) rfl rfl rfl hb3 (by decide) d_Y_makeFrame_33 ?_
      rw [← hσ4]
      refine V.blk hC [(.aload_n 0, 1)] 34 [some (.ref 130), some (.int l1), some (.int l2), some (.int l3)] [] ⟨d_Y_makeFrame_34, trivial⟩ (show tv_run _ _ _ _ = some (35, [some (.ref 130), some (.int l1), some (.int l2), some (.int l3)], [.ref 130]) from rfl) ?_
      refine V.getf hC tf_Y_83 (kd_in kd_130 (by decide)) (hp_at kd_130) rfl d_Y_makeFrame_35 ?_
      show V X 0 0 tm_n (hp σ4) 38 [some (.ref 130), some (.int l1), some (.int l2), some (.int l3)] [.ref 155]
      refine V.blk hC [(.iload_n 3, 1), (.aload_n 0, 1)] 38 [some (.ref 130), some (.int l1), some (.int l2), some (.int l3)] [.ref 155] ⟨d_Y_makeFrame_38, d_Y_makeFrame_39, trivial⟩ (show tv_run _ _ _ _ = some (40, [some (.ref 130), some (.int l1), some (.int l2), some (.int l3)], [.ref 130, .int l3, .ref 155]) from rfl) ?_
      refine V.getf hC tf_Y_155 (kd_in kd_130 (by decide)) (hp_at kd_130) rfl d_Y_makeFrame_40 ?_
      show V X 0 0 tm_n (hp σ4) 43 [some (.ref 130), some (.int l1), some (.int l2), some (.int l3)] [.int (σ4.1 130 40), .int l3, .ref 155]
      obtain ⟨hb5, hf⟩ := tm_if hf
      obtain ⟨σ6, hσ6, hf⟩ := tm_ww hf
      refine V.seta hC kd_155 (kd_in kd_155 (by decide)) rfl rfl rfl hb5 d_Y_makeFrame_43 ?_
      rw [← hσ6]
      refine V.blk hC [(.aload_n 0, 1)] 44 [some (.ref 130), some (.int l1), some (.int l2), some (.int l3)] [] ⟨d_Y_makeFrame_44, trivial⟩ (show tv_run _ _ _ _ = some (45, [some (.ref 130), some (.int l1), some (.int l2), some (.int l3)], [.ref 130]) from rfl) ?_
      refine V.getf hC tf_Y_86 (kd_in kd_130 (by decide)) (hp_at kd_130) rfl d_Y_makeFrame_45 ?_
      show V X 0 0 tm_n (hp σ6) 48 [some (.ref 130), some (.int l1), some (.int l2), some (.int l3)] [.ref 156]
      refine V.blk hC [(.iload_n 3, 1), (.iload_n 1, 1)] 48 [some (.ref 130), some (.int l1), some (.int l2), some (.int l3)] [.ref 156] ⟨d_Y_makeFrame_48, d_Y_makeFrame_49, trivial⟩ (show tv_run _ _ _ _ = some (50, [some (.ref 130), some (.int l1), some (.int l2), some (.int l3)], [.int l1, .int l3, .ref 156]) from rfl) ?_
      obtain ⟨hb7, hf⟩ := tm_if hf
      obtain ⟨σ8, hσ8, hf⟩ := tm_ww hf
      refine V.seta hC kd_156 (kd_in kd_156 (by decide)) rfl rfl rfl hb7 d_Y_makeFrame_50 ?_
      rw [← hσ8]
      refine V.blk hC [(.aload_n 0, 1)] 51 [some (.ref 130), some (.int l1), some (.int l2), some (.int l3)] [] ⟨d_Y_makeFrame_51, trivial⟩ (show tv_run _ _ _ _ = some (52, [some (.ref 130), some (.int l1), some (.int l2), some (.int l3)], [.ref 130]) from rfl) ?_
      refine V.getf hC tf_Y_89 (kd_in kd_130 (by decide)) (hp_at kd_130) rfl d_Y_makeFrame_52 ?_
      show V X 0 0 tm_n (hp σ8) 55 [some (.ref 130), some (.int l1), some (.int l2), some (.int l3)] [.ref 157]
      refine V.blk hC [(.iload_n 3, 1), (.iload_n 2, 1)] 55 [some (.ref 130), some (.int l1), some (.int l2), some (.int l3)] [.ref 157] ⟨d_Y_makeFrame_55, d_Y_makeFrame_56, trivial⟩ (show tv_run _ _ _ _ = some (57, [some (.ref 130), some (.int l1), some (.int l2), some (.int l3)], [.int l2, .int l3, .ref 157]) from rfl) ?_
      obtain ⟨hb9, hf⟩ := tm_if hf
      obtain ⟨σ10, hσ10, hf⟩ := tm_ww hf
      refine V.seta hC kd_157 (kd_in kd_157 (by decide)) rfl rfl rfl hb9 d_Y_makeFrame_57 ?_
      rw [← hσ10]
      refine V.blk hC [(.iload_n 3, 1)] 58 [some (.ref 130), some (.int l1), some (.int l2), some (.int l3)] [] ⟨d_Y_makeFrame_58, trivial⟩ (show tv_run _ _ _ _ = some (59, [some (.ref 130), some (.int l1), some (.int l2), some (.int l3)], [.int l3]) from rfl) ?_
      obtain rfl := Option.some.inj hf
      exact V.iret hC hr hE d_Y_makeFrame_59 ⟨rfl, rfl, rfl⟩
    · rw [if_neg hc] at hf
      refine V.blk hC [(.iinc 3 1, 3)] 11 [some (.ref 130), some (.int l1), some (.int l2), some (.int l3)] [] ⟨d_Y_makeFrame_11, trivial⟩ (show tv_run _ _ _ _ = some (14, [some (.ref 130), some (.int l1), some (.int l2), some (.int (l3 + (1 : Int32)))], []) from rfl) ?_
      refine V.goto hC d_Y_makeFrame_14 (tgt := 2) (by decide) ?_
      exact V.less (tv_le_some (tv_le_some (tv_le_some (tv_le_some tv_le_nil)))) (hrc σ l1 l2 (l3 + (1 : Int32))  hf)
set_option maxHeartbeats 4000000 in
set_option maxRecDepth 100000 in
theorem c_Y_makeFrame (σ : tm_S) (a1 : Int32) (a2 : Int32)  {r : Int32 × tm_S} (hf : f_Y_makeFrame σ a1 a2 = some r) : tv_Met ty_Y_makeFrame (Cond.code ty_Y_makeFrame tb_Y_makeFrame 4 (some .int) :: tm_wg) tm_ns tm_cl tm_ty 0 0 0 0 [.ref 130, .int a1, .int a2] tm_n (hp σ) (tm_P (some (.int r.1)) r.2) := by
  refine tv_Met.of (by decide) rfl (tm_le rfl) ?_
  intro X hC hnm hr hE
  have hC : tv_K X tb_Y_makeFrame 4 "TrickleMeshModel" tm_wg tm_ns tm_cl tm_ty { frames := 0, cells := 0, slots := 0, locals := 0 } := hC
  show V X 0 0 tm_n (hp σ) 0 [some (.ref 130), some (.int a1), some (.int a2), none] []
  unfold f_Y_makeFrame at hf
  refine V.blk hC [(.iconst 0, 1), (.istore_n 3, 1)] 0 [some (.ref 130), some (.int a1), some (.int a2), none] [] ⟨d_Y_makeFrame_0, d_Y_makeFrame_1, trivial⟩ (show tv_run _ _ _ _ = some (2, [some (.ref 130), some (.int a1), some (.int a2), some (.int (0 : Int32))], []) from rfl) ?_
  exact V.less (tv_le_some (tv_le_some (tv_le_some (tv_le_some tv_le_nil)))) (c_Y_makeFrame_L2 hC hr hE tm_fu σ a1 a2 (0 : Int32)  hf)
set_option maxHeartbeats 4000000 in
set_option maxRecDepth 100000 in
theorem c_Y_first (σ : tm_S) (a1 : Int32)  {r : tm_S} (hf : f_Y_first σ a1 = some r) : tv_Met ty_Y_first (Cond.code ty_Y_first tb_Y_first 2 none :: tm_wg) tm_ns tm_cl tm_ty 1 21 0 0 [.ref 130, .int a1] tm_n (hp σ) (tm_P none r) := by
  refine tv_Met.of (by decide) rfl (tm_le rfl) ?_
  intro X hC hnm hr hE
  have hC : tv_K X tb_Y_first 2 "TrickleMeshModel" tm_wg tm_ns tm_cl tm_ty { frames := 1, cells := 0, slots := 0, locals := 21 } := hC
  show V X 0 0 tm_n (hp σ) 0 [some (.ref 130), some (.int a1)] []
  unfold f_Y_first at hf
  refine V.blk hC [(.aload_n 0, 1)] 0 [some (.ref 130), some (.int a1)] [] ⟨d_Y_first_0, trivial⟩ (show tv_run _ _ _ _ = some (1, [some (.ref 130), some (.int a1)], [.ref 130]) from rfl) ?_
  refine V.getf hC tf_Y_62 (kd_in kd_130 (by decide)) (hp_at kd_130) rfl d_Y_first_1 ?_
  show V X 0 0 tm_n (hp σ) 4 [some (.ref 130), some (.int a1)] [.ref 148]
  refine V.blk hC [(.iload_n 1, 1)] 4 [some (.ref 130), some (.int a1)] [.ref 148] ⟨d_Y_first_4, trivial⟩ (show tv_run _ _ _ _ = some (5, [some (.ref 130), some (.int a1)], [.int a1, .ref 148]) from rfl) ?_
  obtain ⟨hb1, hf⟩ := tm_if hf
  refine V.iald hC (kd_in kd_148 (by decide)) (hp_at kd_148) rfl hb1 d_Y_first_5 ?_
  show V X 0 0 tm_n (hp σ) 6 [some (.ref 130), some (.int a1)] [.int (σ.1 148 a1.toNatClampNeg)]
  refine V.if_ne hC d_Y_first_6 (tgt := 10) (by decide) (fun hc => ?_) (fun hc => ?_)
  · rw [if_neg hc] at hf
    refine V.blk hC [(.aload_n 0, 1)] 10 [some (.ref 130), some (.int a1)] [] ⟨d_Y_first_10, trivial⟩ (show tv_run _ _ _ _ = some (11, [some (.ref 130), some (.int a1)], [.ref 130]) from rfl) ?_
    refine V.getf hC tf_Y_68 (kd_in kd_130 (by decide)) (hp_at kd_130) rfl d_Y_first_11 ?_
    show V X 0 0 tm_n (hp σ) 14 [some (.ref 130), some (.int a1)] [.ref 150]
    refine V.blk hC [(.iload_n 1, 1), (.iconst 0, 1)] 14 [some (.ref 130), some (.int a1)] [.ref 150] ⟨d_Y_first_14, d_Y_first_15, trivial⟩ (show tv_run _ _ _ _ = some (16, [some (.ref 130), some (.int a1)], [.int (0 : Int32), .int a1, .ref 150]) from rfl) ?_
    obtain ⟨hb2, hf⟩ := tm_if hf
    obtain ⟨σ3, hσ3, hf⟩ := tm_ww hf
    refine V.seta hC kd_150 (kd_in kd_150 (by decide)) rfl rfl rfl hb2 d_Y_first_16 ?_
    rw [← hσ3]
    refine V.blk hC [(.aload_n 0, 1)] 17 [some (.ref 130), some (.int a1)] [] ⟨d_Y_first_17, trivial⟩ (show tv_run _ _ _ _ = some (18, [some (.ref 130), some (.int a1)], [.ref 130]) from rfl) ?_
    refine V.getf hC tf_Y_71 (kd_in kd_130 (by decide)) (hp_at kd_130) rfl d_Y_first_18 ?_
    show V X 0 0 tm_n (hp σ3) 21 [some (.ref 130), some (.int a1)] [.ref 151]
    refine V.blk hC [(.iload_n 1, 1), (.iconst 0, 1)] 21 [some (.ref 130), some (.int a1)] [.ref 151] ⟨d_Y_first_21, d_Y_first_22, trivial⟩ (show tv_run _ _ _ _ = some (23, [some (.ref 130), some (.int a1)], [.int (0 : Int32), .int a1, .ref 151]) from rfl) ?_
    obtain ⟨hb4, hf⟩ := tm_if hf
    obtain ⟨σ5, hσ5, hf⟩ := tm_ww hf
    refine V.seta hC kd_151 (kd_in kd_151 (by decide)) rfl rfl rfl hb4 d_Y_first_23 ?_
    rw [← hσ5]
    refine V.blk hC [(.aload_n 0, 1)] 24 [some (.ref 130), some (.int a1)] [] ⟨d_Y_first_24, trivial⟩ (show tv_run _ _ _ _ = some (25, [some (.ref 130), some (.int a1)], [.ref 130]) from rfl) ?_
    refine V.getf hC tf_Y_65 (kd_in kd_130 (by decide)) (hp_at kd_130) rfl d_Y_first_25 ?_
    show V X 0 0 tm_n (hp σ5) 28 [some (.ref 130), some (.int a1)] [.ref 149]
    refine V.blk hC [(.iload_n 1, 1), (.aload_n 0, 1), (.iconst 4, 1)] 28 [some (.ref 130), some (.int a1)] [.ref 149] ⟨d_Y_first_28, d_Y_first_29, d_Y_first_30, trivial⟩ (show tv_run _ _ _ _ = some (31, [some (.ref 130), some (.int a1)], [.int (4 : Int32), .ref 130, .int a1, .ref 149]) from rfl) ?_
    obtain ⟨q6, hq6, hf⟩ := tm_bd hf
    refine V.callV hC tm_nest rfl (c_Y_draw σ5 (4 : Int32)  hq6) (tm_gd tc_Y_draw) tg_Y_158 th_Y_draw ⟨tm_le rfl, tm_le rfl, tm_le rfl, tm_le rfl⟩ rfl (kd_in kd_130 (by decide)) (hp_at kd_130) (As := [.int (4 : Int32)]) (st := [.int a1, .ref 149]) rfl (tm_le rfl) d_Y_first_31 ?_
    rintro v n2 h2 ⟨rfl, rfl, rfl⟩
    show V X 0 0 tm_n (hp q6.2) 34 [some (.ref 130), some (.int a1)] [.int q6.1, .int a1, .ref 149]
    obtain ⟨hb7, hf⟩ := tm_if hf
    obtain ⟨σ8, hσ8, hf⟩ := tm_ww hf
    refine V.seta hC kd_149 (kd_in kd_149 (by decide)) rfl rfl rfl hb7 d_Y_first_34 ?_
    rw [← hσ8]
    obtain rfl := Option.some.inj hf
    exact V.vret hC hr hE d_Y_first_35 ⟨rfl, rfl, rfl⟩
  · rw [if_pos hc] at hf
    obtain rfl := Option.some.inj hf
    exact V.vret hC hr hE d_Y_first_9 ⟨rfl, rfl, rfl⟩
set_option maxHeartbeats 4000000 in
set_option maxRecDepth 100000 in
theorem c_Y_queue_L30 {X : tv_X} {r : tm_S} (hC : tv_K X tb_Y_queue 3 "TrickleMeshModel" tm_wg tm_ns tm_cl tm_ty { frames := 2, cells := 0, slots := 0, locals := 42 }) (hr : tv_ret X none) (hE : tv_end X (tm_P none r) 0 0) (σ : tm_S) (l2 : Int32) (s0 : Int32) (s1 : Int32)  (hf : f_Y_queue_L30 σ l2 s0 s1 = some r) : V X 0 0 tm_n (hp σ) 30 [some (.ref 130), none, some (.int l2)] [.int s0, .int s1, .ref 130] := by
  unfold f_Y_queue_L30 at hf
  refine V.blk hC [(.iadd, 1)] 30 [some (.ref 130), none, some (.int l2)] [.int s0, .int s1, .ref 130] ⟨d_Y_queue_30, trivial⟩ (show tv_run _ _ _ _ = some (31, [some (.ref 130), none, some (.int l2)], [.int (s1 + s0), .ref 130]) from rfl) ?_
  obtain ⟨σ11, hσ11, hf⟩ := tm_ww hf
  refine V.seti hC tf_Y_162 tt_Y to_Y tn_Y rfl (by decide +kernel) tm_fi kd_130 (kd_in kd_130 (by decide)) rfl rfl (tm_le rfl) d_Y_queue_31 ?_
  rw [← hσ11]
  refine V.blk hC [(.aload_n 0, 1)] 34 [some (.ref 130), none, some (.int l2)] [] ⟨d_Y_queue_34, trivial⟩ (show tv_run _ _ _ _ = some (35, [some (.ref 130), none, some (.int l2)], [.ref 130]) from rfl) ?_
  refine V.getf hC tf_Y_80 (kd_in kd_130 (by decide)) (hp_at kd_130) rfl d_Y_queue_35 ?_
  show V X 0 0 tm_n (hp σ11) 38 [some (.ref 130), none, some (.int l2)] [.ref 154]
  refine V.blk hC [(.iload_n 2, 1), (.iconst 0, 1)] 38 [some (.ref 130), none, some (.int l2)] [.ref 154] ⟨d_Y_queue_38, d_Y_queue_39, trivial⟩ (show tv_run _ _ _ _ = some (40, [some (.ref 130), none, some (.int l2)], [.int (0 : Int32), .int l2, .ref 154]) from rfl) ?_
  obtain ⟨hb12, hf⟩ := tm_if hf
  obtain ⟨σ13, hσ13, hf⟩ := tm_ww hf
  refine V.setz hC kd_154 (kd_in kd_154 (by decide)) rfl rfl rfl hb12 (by decide) d_Y_queue_40 ?_
  rw [← hσ13]
  obtain rfl := Option.some.inj hf
  exact V.vret hC hr hE d_Y_queue_41 ⟨rfl, rfl, rfl⟩
set_option maxHeartbeats 4000000 in
set_option maxRecDepth 100000 in
theorem c_Y_queue (σ : tm_S) (a1 : Int32) (a2 : Int32)  {r : tm_S} (hf : f_Y_queue σ a1 a2 = some r) : tv_Met ty_Y_queue (Cond.code ty_Y_queue tb_Y_queue 3 none :: tm_wg) tm_ns tm_cl tm_ty 2 42 0 0 [.ref 130, .int a1, .int a2] tm_n (hp σ) (tm_P none r) := by
  refine tv_Met.of (by decide) rfl (tm_le rfl) ?_
  intro X hC hnm hr hE
  have hC : tv_K X tb_Y_queue 3 "TrickleMeshModel" tm_wg tm_ns tm_cl tm_ty { frames := 2, cells := 0, slots := 0, locals := 42 } := hC
  show V X 0 0 tm_n (hp σ) 0 [some (.ref 130), some (.int a1), some (.int a2)] []
  unfold f_Y_queue at hf
  refine V.blk hC [(.aload_n 0, 1)] 0 [some (.ref 130), some (.int a1), some (.int a2)] [] ⟨d_Y_queue_0, trivial⟩ (show tv_run _ _ _ _ = some (1, [some (.ref 130), some (.int a1), some (.int a2)], [.ref 130]) from rfl) ?_
  refine V.getf hC tf_Y_62 (kd_in kd_130 (by decide)) (hp_at kd_130) rfl d_Y_queue_1 ?_
  show V X 0 0 tm_n (hp σ) 4 [some (.ref 130), some (.int a1), some (.int a2)] [.ref 148]
  refine V.blk hC [(.iload_n 1, 1)] 4 [some (.ref 130), some (.int a1), some (.int a2)] [.ref 148] ⟨d_Y_queue_4, trivial⟩ (show tv_run _ _ _ _ = some (5, [some (.ref 130), some (.int a1), some (.int a2)], [.int a1, .ref 148]) from rfl) ?_
  obtain ⟨hb1, hf⟩ := tm_if hf
  refine V.iald hC (kd_in kd_148 (by decide)) (hp_at kd_148) rfl hb1 d_Y_queue_5 ?_
  show V X 0 0 tm_n (hp σ) 6 [some (.ref 130), some (.int a1), some (.int a2)] [.int (σ.1 148 a1.toNatClampNeg)]
  refine V.blk hC [(.iconst 4, 1)] 6 [some (.ref 130), some (.int a1), some (.int a2)] [.int (σ.1 148 a1.toNatClampNeg)] ⟨d_Y_queue_6, trivial⟩ (show tv_run _ _ _ _ = some (7, [some (.ref 130), some (.int a1), some (.int a2)], [.int (4 : Int32), .int (σ.1 148 a1.toNatClampNeg)]) from rfl) ?_
  refine V.icmp_ne hC d_Y_queue_7 (tgt := 42) (by decide) (fun hc => ?_) (fun hc => ?_)
  · rw [if_neg hc] at hf
    refine V.blk hC [(.aload_n 0, 1)] 42 [some (.ref 130), some (.int a1), some (.int a2)] [] ⟨d_Y_queue_42, trivial⟩ (show tv_run _ _ _ _ = some (43, [some (.ref 130), some (.int a1), some (.int a2)], [.ref 130]) from rfl) ?_
    refine V.getf hC tf_Y_59 (kd_in kd_130 (by decide)) (hp_at kd_130) rfl d_Y_queue_43 ?_
    show V X 0 0 tm_n (hp σ) 46 [some (.ref 130), some (.int a1), some (.int a2)] [.ref 147]
    refine V.blk hC [(.iconst 4, 1), (.iload_n 1, 1), (.imul, 1), (.aload_n 0, 1)] 46 [some (.ref 130), some (.int a1), some (.int a2)] [.ref 147] ⟨d_Y_queue_46, d_Y_queue_47, d_Y_queue_48, d_Y_queue_49, trivial⟩ (show tv_run _ _ _ _ = some (50, [some (.ref 130), some (.int a1), some (.int a2)], [.ref 130, .int ((4 : Int32) * a1), .ref 147]) from rfl) ?_
    refine V.getf hC tf_Y_62 (kd_in kd_130 (by decide)) (hp_at kd_130) rfl d_Y_queue_50 ?_
    show V X 0 0 tm_n (hp σ) 53 [some (.ref 130), some (.int a1), some (.int a2)] [.ref 148, .int ((4 : Int32) * a1), .ref 147]
    refine V.blk hC [(.iload_n 1, 1)] 53 [some (.ref 130), some (.int a1), some (.int a2)] [.ref 148, .int ((4 : Int32) * a1), .ref 147] ⟨d_Y_queue_53, trivial⟩ (show tv_run _ _ _ _ = some (54, [some (.ref 130), some (.int a1), some (.int a2)], [.int a1, .ref 148, .int ((4 : Int32) * a1), .ref 147]) from rfl) ?_
    obtain ⟨hb2, hf⟩ := tm_if hf
    refine V.iald hC (kd_in kd_148 (by decide)) (hp_at kd_148) rfl hb2 d_Y_queue_54 ?_
    show V X 0 0 tm_n (hp σ) 55 [some (.ref 130), some (.int a1), some (.int a2)] [.int (σ.1 148 a1.toNatClampNeg), .int ((4 : Int32) * a1), .ref 147]
    refine V.blk hC [(.iadd, 1), (.iload_n 2, 1)] 55 [some (.ref 130), some (.int a1), some (.int a2)] [.int (σ.1 148 a1.toNatClampNeg), .int ((4 : Int32) * a1), .ref 147] ⟨d_Y_queue_55, d_Y_queue_56, trivial⟩ (show tv_run _ _ _ _ = some (57, [some (.ref 130), some (.int a1), some (.int a2)], [.int a2, .int (((4 : Int32) * a1) + (σ.1 148 a1.toNatClampNeg)), .ref 147]) from rfl) ?_
    obtain ⟨hb3, hf⟩ := tm_if hf
    obtain ⟨σ4, hσ4, hf⟩ := tm_ww hf
    refine V.seta hC kd_147 (kd_in kd_147 (by decide)) rfl rfl rfl hb3 d_Y_queue_57 ?_
    rw [← hσ4]
    refine V.blk hC [(.aload_n 0, 1)] 58 [some (.ref 130), some (.int a1), some (.int a2)] [] ⟨d_Y_queue_58, trivial⟩ (show tv_run _ _ _ _ = some (59, [some (.ref 130), some (.int a1), some (.int a2)], [.ref 130]) from rfl) ?_
    refine V.getf hC tf_Y_62 (kd_in kd_130 (by decide)) (hp_at kd_130) rfl d_Y_queue_59 ?_
    show V X 0 0 tm_n (hp σ4) 62 [some (.ref 130), some (.int a1), some (.int a2)] [.ref 148]
    refine V.blk hC [(.iload_n 1, 1), (.dup2, 1)] 62 [some (.ref 130), some (.int a1), some (.int a2)] [.ref 148] ⟨d_Y_queue_62, d_Y_queue_63, trivial⟩ (show tv_run _ _ _ _ = some (64, [some (.ref 130), some (.int a1), some (.int a2)], [.int a1, .ref 148, .int a1, .ref 148]) from rfl) ?_
    obtain ⟨hb5, hf⟩ := tm_if hf
    refine V.iald hC (kd_in kd_148 (by decide)) (hp_at kd_148) rfl hb5 d_Y_queue_64 ?_
    show V X 0 0 tm_n (hp σ4) 65 [some (.ref 130), some (.int a1), some (.int a2)] [.int (σ4.1 148 a1.toNatClampNeg), .int a1, .ref 148]
    refine V.blk hC [(.iconst 1, 1), (.iadd, 1)] 65 [some (.ref 130), some (.int a1), some (.int a2)] [.int (σ4.1 148 a1.toNatClampNeg), .int a1, .ref 148] ⟨d_Y_queue_65, d_Y_queue_66, trivial⟩ (show tv_run _ _ _ _ = some (67, [some (.ref 130), some (.int a1), some (.int a2)], [.int ((σ4.1 148 a1.toNatClampNeg) + (1 : Int32)), .int a1, .ref 148]) from rfl) ?_
    obtain ⟨hb6, hf⟩ := tm_if hf
    obtain ⟨σ7, hσ7, hf⟩ := tm_ww hf
    refine V.seta hC kd_148 (kd_in kd_148 (by decide)) rfl rfl rfl hb6 d_Y_queue_67 ?_
    rw [← hσ7]
    refine V.blk hC [(.aload_n 0, 1)] 68 [some (.ref 130), some (.int a1), some (.int a2)] [] ⟨d_Y_queue_68, trivial⟩ (show tv_run _ _ _ _ = some (69, [some (.ref 130), some (.int a1), some (.int a2)], [.ref 130]) from rfl) ?_
    refine V.getf hC tf_Y_62 (kd_in kd_130 (by decide)) (hp_at kd_130) rfl d_Y_queue_69 ?_
    show V X 0 0 tm_n (hp σ7) 72 [some (.ref 130), some (.int a1), some (.int a2)] [.ref 148]
    refine V.blk hC [(.iload_n 1, 1)] 72 [some (.ref 130), some (.int a1), some (.int a2)] [.ref 148] ⟨d_Y_queue_72, trivial⟩ (show tv_run _ _ _ _ = some (73, [some (.ref 130), some (.int a1), some (.int a2)], [.int a1, .ref 148]) from rfl) ?_
    obtain ⟨hb8, hf⟩ := tm_if hf
    refine V.iald hC (kd_in kd_148 (by decide)) (hp_at kd_148) rfl hb8 d_Y_queue_73 ?_
    show V X 0 0 tm_n (hp σ7) 74 [some (.ref 130), some (.int a1), some (.int a2)] [.int (σ7.1 148 a1.toNatClampNeg)]
    refine V.blk hC [(.iconst 1, 1)] 74 [some (.ref 130), some (.int a1), some (.int a2)] [.int (σ7.1 148 a1.toNatClampNeg)] ⟨d_Y_queue_74, trivial⟩ (show tv_run _ _ _ _ = some (75, [some (.ref 130), some (.int a1), some (.int a2)], [.int (1 : Int32), .int (σ7.1 148 a1.toNatClampNeg)]) from rfl) ?_
    refine V.icmp_ne hC d_Y_queue_75 (tgt := 83) (by decide) (fun hc => ?_) (fun hc => ?_)
    · rw [if_neg hc] at hf
      obtain rfl := Option.some.inj hf
      exact V.vret hC hr hE d_Y_queue_83 ⟨rfl, rfl, rfl⟩
    · rw [if_pos hc] at hf
      refine V.blk hC [(.aload_n 0, 1), (.iload_n 1, 1)] 78 [some (.ref 130), some (.int a1), some (.int a2)] [] ⟨d_Y_queue_78, d_Y_queue_79, trivial⟩ (show tv_run _ _ _ _ = some (80, [some (.ref 130), some (.int a1), some (.int a2)], [.int a1, .ref 130]) from rfl) ?_
      obtain ⟨q9, hq9, hf⟩ := tm_bd hf
      refine V.callV hC tm_nest rfl (c_Y_first σ7 a1  hq9) (tm_gd tc_Y_first) tg_Y_165 th_Y_first ⟨tm_le rfl, tm_le rfl, tm_le rfl, tm_le rfl⟩ rfl (kd_in kd_130 (by decide)) (hp_at kd_130) (As := [.int a1]) (st := []) rfl (tm_le rfl) d_Y_queue_80 ?_
      rintro v n2 h2 ⟨rfl, rfl, rfl⟩
      show V X 0 0 tm_n (hp q9) 83 [some (.ref 130), some (.int a1), some (.int a2)] []
      obtain rfl := Option.some.inj hf
      exact V.vret hC hr hE d_Y_queue_83 ⟨rfl, rfl, rfl⟩
  · rw [if_pos hc] at hf
    refine V.blk hC [(.aload_n 0, 1), (.dup, 1)] 10 [some (.ref 130), some (.int a1), some (.int a2)] [] ⟨d_Y_queue_10, d_Y_queue_11, trivial⟩ (show tv_run _ _ _ _ = some (12, [some (.ref 130), some (.int a1), some (.int a2)], [.ref 130, .ref 130]) from rfl) ?_
    refine V.getf hC tf_Y_162 (kd_in kd_130 (by decide)) (hp_at kd_130) rfl d_Y_queue_12 ?_
    show V X 0 0 tm_n (hp σ) 15 [some (.ref 130), some (.int a1), some (.int a2)] [.int (σ.1 130 47), .ref 130]
    refine V.blk hC [(.aload_n 0, 1)] 15 [some (.ref 130), some (.int a1), some (.int a2)] [.int (σ.1 130 47), .ref 130] ⟨d_Y_queue_15, trivial⟩ (show tv_run _ _ _ _ = some (16, [some (.ref 130), some (.int a1), some (.int a2)], [.ref 130, .int (σ.1 130 47), .ref 130]) from rfl) ?_
    refine V.getf hC tf_Y_86 (kd_in kd_130 (by decide)) (hp_at kd_130) rfl d_Y_queue_16 ?_
    show V X 0 0 tm_n (hp σ) 19 [some (.ref 130), some (.int a1), some (.int a2)] [.ref 156, .int (σ.1 130 47), .ref 130]
    refine V.blk hC [(.iload_n 2, 1)] 19 [some (.ref 130), some (.int a1), some (.int a2)] [.ref 156, .int (σ.1 130 47), .ref 130] ⟨d_Y_queue_19, trivial⟩ (show tv_run _ _ _ _ = some (20, [some (.ref 130), some (.int a1), some (.int a2)], [.int a2, .ref 156, .int (σ.1 130 47), .ref 130]) from rfl) ?_
    obtain ⟨hb10, hf⟩ := tm_if hf
    refine V.iald hC (kd_in kd_156 (by decide)) (hp_at kd_156) rfl hb10 d_Y_queue_20 ?_
    show V X 0 0 tm_n (hp σ) 21 [some (.ref 130), some (.int a1), some (.int a2)] [.int (σ.1 156 a2.toNatClampNeg), .int (σ.1 130 47), .ref 130]
    refine V.blk hC [(.iconst 4, 1)] 21 [some (.ref 130), some (.int a1), some (.int a2)] [.int (σ.1 156 a2.toNatClampNeg), .int (σ.1 130 47), .ref 130] ⟨d_Y_queue_21, trivial⟩ (show tv_run _ _ _ _ = some (22, [some (.ref 130), some (.int a1), some (.int a2)], [.int (4 : Int32), .int (σ.1 156 a2.toNatClampNeg), .int (σ.1 130 47), .ref 130]) from rfl) ?_
    refine V.icmp_ne hC d_Y_queue_22 (tgt := 29) (by decide) (fun hc => ?_) (fun hc => ?_)
    · rw [if_neg hc] at hf
      refine V.blk hC [(.iconst 0, 1)] 29 [some (.ref 130), some (.int a1), some (.int a2)] [.int (σ.1 130 47), .ref 130] ⟨d_Y_queue_29, trivial⟩ (show tv_run _ _ _ _ = some (30, [some (.ref 130), some (.int a1), some (.int a2)], [.int (0 : Int32), .int (σ.1 130 47), .ref 130]) from rfl) ?_
      exact V.less (tv_le_some (tv_le_none (tv_le_some tv_le_nil))) (c_Y_queue_L30 hC hr hE σ a2 (0 : Int32) (σ.1 130 47)  hf)
    · rw [if_pos hc] at hf
      refine V.blk hC [(.iconst 1, 1)] 25 [some (.ref 130), some (.int a1), some (.int a2)] [.int (σ.1 130 47), .ref 130] ⟨d_Y_queue_25, trivial⟩ (show tv_run _ _ _ _ = some (26, [some (.ref 130), some (.int a1), some (.int a2)], [.int (1 : Int32), .int (σ.1 130 47), .ref 130]) from rfl) ?_
      refine V.goto hC d_Y_queue_26 (tgt := 30) (by decide) ?_
      exact V.less (tv_le_some (tv_le_none (tv_le_some tv_le_nil))) (c_Y_queue_L30 hC hr hE σ a2 (1 : Int32) (σ.1 130 47)  hf)
set_option maxHeartbeats 4000000 in
set_option maxRecDepth 100000 in
theorem c_Y_queues_L45 {X : tv_X} {r : Int32 × tm_S} (hC : tv_K X tb_Y_queues 5 "TrickleMeshModel" tm_wg tm_ns tm_cl tm_ty { frames := 0, cells := 0, slots := 0, locals := 0 }) (hr : tv_ret X (some .boolean)) (hE : tv_end X (tm_P (some (.int r.1)) r.2) 0 0) {rc : tm_S → Int32 → Int32 → Int32 → Int32 → Option (Int32 × tm_S)} (hrc : ∀ (σ : tm_S) (l1 : Int32) (l2 : Int32) (l3 : Int32) (l4 : Int32), rc σ l1 l2 l3 l4 = some r → V X 0 0 tm_n (hp σ) 5 [some (.ref 130), some (.int l1), some (.int l2), some (.int l3), some (.int l4)] []) (σ : tm_S) (l1 : Int32) (l2 : Int32) (l4 : Int32) (s0 : Int32)  (hf : f_Y_queues_L45 rc σ l1 l2 l4 s0 = some r) : V X 0 0 tm_n (hp σ) 45 [some (.ref 130), some (.int l1), some (.int l2), none, some (.int l4)] [.int s0] := by
  unfold f_Y_queues_L45 at hf
  refine V.blk hC [(.istore_n 3, 1), (.iinc 4 1, 3)] 45 [some (.ref 130), some (.int l1), some (.int l2), none, some (.int l4)] [.int s0] ⟨d_Y_queues_45, d_Y_queues_46, trivial⟩ (show tv_run _ _ _ _ = some (49, [some (.ref 130), some (.int l1), some (.int l2), some (.int s0), some (.int (l4 + (1 : Int32)))], []) from rfl) ?_
  refine V.goto hC d_Y_queues_49 (tgt := 5) (by decide) ?_
  exact V.less (tv_le_some (tv_le_some (tv_le_some (tv_le_some (tv_le_some tv_le_nil))))) (hrc σ l1 l2 s0 (l4 + (1 : Int32))  hf)
set_option maxHeartbeats 4000000 in
set_option maxRecDepth 100000 in
theorem c_Y_queues_L40 {X : tv_X} {r : Int32 × tm_S} (hC : tv_K X tb_Y_queues 5 "TrickleMeshModel" tm_wg tm_ns tm_cl tm_ty { frames := 0, cells := 0, slots := 0, locals := 0 }) (hr : tv_ret X (some .boolean)) (hE : tv_end X (tm_P (some (.int r.1)) r.2) 0 0) {rc : tm_S → Int32 → Int32 → Int32 → Int32 → Option (Int32 × tm_S)} (hrc : ∀ (σ : tm_S) (l1 : Int32) (l2 : Int32) (l3 : Int32) (l4 : Int32), rc σ l1 l2 l3 l4 = some r → V X 0 0 tm_n (hp σ) 5 [some (.ref 130), some (.int l1), some (.int l2), some (.int l3), some (.int l4)] []) (σ : tm_S) (l1 : Int32) (l2 : Int32) (l4 : Int32)  (hf : f_Y_queues_L40 rc σ l1 l2 l4 = some r) : V X 0 0 tm_n (hp σ) 40 [some (.ref 130), some (.int l1), some (.int l2), none, some (.int l4)] [] := by
  unfold f_Y_queues_L40 at hf
  refine V.blk hC [(.iconst 1, 1)] 40 [some (.ref 130), some (.int l1), some (.int l2), none, some (.int l4)] [] ⟨d_Y_queues_40, trivial⟩ (show tv_run _ _ _ _ = some (41, [some (.ref 130), some (.int l1), some (.int l2), none, some (.int l4)], [.int (1 : Int32)]) from rfl) ?_
  refine V.goto hC d_Y_queues_41 (tgt := 45) (by decide) ?_
  exact V.less (tv_le_some (tv_le_some (tv_le_some (tv_le_none (tv_le_some tv_le_nil))))) (c_Y_queues_L45 hC hr hE hrc σ l1 l2 l4 (1 : Int32)  hf)
set_option maxHeartbeats 4000000 in
set_option maxRecDepth 100000 in
theorem c_Y_queues_L5 {X : tv_X} {r : Int32 × tm_S} (hC : tv_K X tb_Y_queues 5 "TrickleMeshModel" tm_wg tm_ns tm_cl tm_ty { frames := 0, cells := 0, slots := 0, locals := 0 }) (hr : tv_ret X (some .boolean)) (hE : tv_end X (tm_P (some (.int r.1)) r.2) 0 0) : ∀ (k : Nat) (σ : tm_S) (l1 : Int32) (l2 : Int32) (l3 : Int32) (l4 : Int32), f_Y_queues_L5 k σ l1 l2 l3 l4 = some r → V X 0 0 tm_n (hp σ) 5 [some (.ref 130), some (.int l1), some (.int l2), some (.int l3), some (.int l4)] [] := by
  intro k
  induction k with
  | zero => intro σ l1 l2 l3 l4  hf; simp only [f_Y_queues_L5] at hf; cases hf
  | succ k hrc =>
    intro σ l1 l2 l3 l4  hf
    rw [f_Y_queues_L5] at hf
    refine V.blk hC [(.iload 4, 2), (.aload_n 0, 1)] 5 [some (.ref 130), some (.int l1), some (.int l2), some (.int l3), some (.int l4)] [] ⟨d_Y_queues_5, d_Y_queues_7, trivial⟩ (show tv_run _ _ _ _ = some (8, [some (.ref 130), some (.int l1), some (.int l2), some (.int l3), some (.int l4)], [.ref 130, .int l4]) from rfl) ?_
    refine V.getf hC tf_Y_62 (kd_in kd_130 (by decide)) (hp_at kd_130) rfl d_Y_queues_8 ?_
    show V X 0 0 tm_n (hp σ) 11 [some (.ref 130), some (.int l1), some (.int l2), some (.int l3), some (.int l4)] [.ref 148, .int l4]
    refine V.blk hC [(.iload_n 1, 1)] 11 [some (.ref 130), some (.int l1), some (.int l2), some (.int l3), some (.int l4)] [.ref 148, .int l4] ⟨d_Y_queues_11, trivial⟩ (show tv_run _ _ _ _ = some (12, [some (.ref 130), some (.int l1), some (.int l2), some (.int l3), some (.int l4)], [.int l1, .ref 148, .int l4]) from rfl) ?_
    obtain ⟨hb1, hf⟩ := tm_if hf
    refine V.iald hC (kd_in kd_148 (by decide)) (hp_at kd_148) rfl hb1 d_Y_queues_12 ?_
    show V X 0 0 tm_n (hp σ) 13 [some (.ref 130), some (.int l1), some (.int l2), some (.int l3), some (.int l4)] [.int (σ.1 148 l1.toNatClampNeg), .int l4]
    refine V.icmp_ge hC d_Y_queues_13 (tgt := 52) (by decide) (fun hc => ?_) (fun hc => ?_)
    · rw [if_pos hc] at hf
      refine V.blk hC [(.iload_n 3, 1)] 52 [some (.ref 130), some (.int l1), some (.int l2), some (.int l3), some (.int l4)] [] ⟨d_Y_queues_52, trivial⟩ (show tv_run _ _ _ _ = some (53, [some (.ref 130), some (.int l1), some (.int l2), some (.int l3), some (.int l4)], [.int l3]) from rfl) ?_
      obtain ⟨hz2, hf⟩ := tm_if hf
      obtain rfl := Option.some.inj hf
      exact V.zret hC hr hE (tm_nz hz2) d_Y_queues_53 ⟨rfl, rfl, rfl⟩
    · rw [if_neg hc] at hf
      refine V.blk hC [(.iload_n 3, 1)] 16 [some (.ref 130), some (.int l1), some (.int l2), some (.int l3), some (.int l4)] [] ⟨d_Y_queues_16, trivial⟩ (show tv_run _ _ _ _ = some (17, [some (.ref 130), some (.int l1), some (.int l2), some (.int l3), some (.int l4)], [.int l3]) from rfl) ?_
      refine V.if_ne hC d_Y_queues_17 (tgt := 40) (by decide) (fun hc => ?_) (fun hc => ?_)
      · rw [if_neg hc] at hf
        exact V.less (tv_le_some (tv_le_some (tv_le_some (tv_le_none (tv_le_some tv_le_nil))))) (c_Y_queues_L40 hC hr hE hrc σ l1 l2 l4  hf)
      · rw [if_pos hc] at hf
        refine V.blk hC [(.aload_n 0, 1)] 20 [some (.ref 130), some (.int l1), some (.int l2), some (.int l3), some (.int l4)] [] ⟨d_Y_queues_20, trivial⟩ (show tv_run _ _ _ _ = some (21, [some (.ref 130), some (.int l1), some (.int l2), some (.int l3), some (.int l4)], [.ref 130]) from rfl) ?_
        refine V.getf hC tf_Y_86 (kd_in kd_130 (by decide)) (hp_at kd_130) rfl d_Y_queues_21 ?_
        show V X 0 0 tm_n (hp σ) 24 [some (.ref 130), some (.int l1), some (.int l2), some (.int l3), some (.int l4)] [.ref 156]
        refine V.blk hC [(.aload_n 0, 1)] 24 [some (.ref 130), some (.int l1), some (.int l2), some (.int l3), some (.int l4)] [.ref 156] ⟨d_Y_queues_24, trivial⟩ (show tv_run _ _ _ _ = some (25, [some (.ref 130), some (.int l1), some (.int l2), some (.int l3), some (.int l4)], [.ref 130, .ref 156]) from rfl) ?_
        refine V.getf hC tf_Y_59 (kd_in kd_130 (by decide)) (hp_at kd_130) rfl d_Y_queues_25 ?_
        show V X 0 0 tm_n (hp σ) 28 [some (.ref 130), some (.int l1), some (.int l2), some (.int l3), some (.int l4)] [.ref 147, .ref 156]
        refine V.blk hC [(.iconst 4, 1), (.iload_n 1, 1), (.imul, 1), (.iload 4, 2), (.iadd, 1)] 28 [some (.ref 130), some (.int l1), some (.int l2), some (.int l3), some (.int l4)] [.ref 147, .ref 156] ⟨d_Y_queues_28, d_Y_queues_29, d_Y_queues_30, d_Y_queues_31, d_Y_queues_33, trivial⟩ (show tv_run _ _ _ _ = some (34, [some (.ref 130), some (.int l1), some (.int l2), some (.int l3), some (.int l4)], [.int (((4 : Int32) * l1) + l4), .ref 147, .ref 156]) from rfl) ?_
        obtain ⟨hb3, hf⟩ := tm_if hf
        refine V.iald hC (kd_in kd_147 (by decide)) (hp_at kd_147) rfl hb3 d_Y_queues_34 ?_
        show V X 0 0 tm_n (hp σ) 35 [some (.ref 130), some (.int l1), some (.int l2), some (.int l3), some (.int l4)] [.int (σ.1 147 (((4 : Int32) * l1) + l4).toNatClampNeg), .ref 156]
        obtain ⟨hb4, hf⟩ := tm_if hf
        refine V.iald hC (kd_in kd_156 (by decide)) (hp_at kd_156) rfl hb4 d_Y_queues_35 ?_
        show V X 0 0 tm_n (hp σ) 36 [some (.ref 130), some (.int l1), some (.int l2), some (.int l3), some (.int l4)] [.int (σ.1 156 (σ.1 147 (((4 : Int32) * l1) + l4).toNatClampNeg).toNatClampNeg)]
        refine V.blk hC [(.iload_n 2, 1)] 36 [some (.ref 130), some (.int l1), some (.int l2), some (.int l3), some (.int l4)] [.int (σ.1 156 (σ.1 147 (((4 : Int32) * l1) + l4).toNatClampNeg).toNatClampNeg)] ⟨d_Y_queues_36, trivial⟩ (show tv_run _ _ _ _ = some (37, [some (.ref 130), some (.int l1), some (.int l2), some (.int l3), some (.int l4)], [.int l2, .int (σ.1 156 (σ.1 147 (((4 : Int32) * l1) + l4).toNatClampNeg).toNatClampNeg)]) from rfl) ?_
        refine V.icmp_ne hC d_Y_queues_37 (tgt := 44) (by decide) (fun hc => ?_) (fun hc => ?_)
        · rw [if_neg hc] at hf
          refine V.blk hC [(.iconst 0, 1)] 44 [some (.ref 130), some (.int l1), some (.int l2), some (.int l3), some (.int l4)] [] ⟨d_Y_queues_44, trivial⟩ (show tv_run _ _ _ _ = some (45, [some (.ref 130), some (.int l1), some (.int l2), some (.int l3), some (.int l4)], [.int (0 : Int32)]) from rfl) ?_
          exact V.less (tv_le_some (tv_le_some (tv_le_some (tv_le_none (tv_le_some tv_le_nil))))) (c_Y_queues_L45 hC hr hE hrc σ l1 l2 l4 (0 : Int32)  hf)
        · rw [if_pos hc] at hf
          exact V.less (tv_le_some (tv_le_some (tv_le_some (tv_le_none (tv_le_some tv_le_nil))))) (c_Y_queues_L40 hC hr hE hrc σ l1 l2 l4  hf)
set_option maxHeartbeats 4000000 in
set_option maxRecDepth 100000 in
theorem c_Y_queues (σ : tm_S) (a1 : Int32) (a2 : Int32)  {r : Int32 × tm_S} (hf : f_Y_queues σ a1 a2 = some r) : tv_Met ty_Y_queues (Cond.code ty_Y_queues tb_Y_queues 5 (some .boolean) :: tm_wg) tm_ns tm_cl tm_ty 0 0 0 0 [.ref 130, .int a1, .int a2] tm_n (hp σ) (tm_P (some (.int r.1)) r.2) := by
  refine tv_Met.of (by decide) rfl (tm_le rfl) ?_
  intro X hC hnm hr hE
  have hC : tv_K X tb_Y_queues 5 "TrickleMeshModel" tm_wg tm_ns tm_cl tm_ty { frames := 0, cells := 0, slots := 0, locals := 0 } := hC
  show V X 0 0 tm_n (hp σ) 0 [some (.ref 130), some (.int a1), some (.int a2), none, none] []
  unfold f_Y_queues at hf
  refine V.blk hC [(.iconst 0, 1), (.istore_n 3, 1), (.iconst 0, 1), (.istore 4, 2)] 0 [some (.ref 130), some (.int a1), some (.int a2), none, none] [] ⟨d_Y_queues_0, d_Y_queues_1, d_Y_queues_2, d_Y_queues_3, trivial⟩ (show tv_run _ _ _ _ = some (5, [some (.ref 130), some (.int a1), some (.int a2), some (.int (0 : Int32)), some (.int (0 : Int32))], []) from rfl) ?_
  exact V.less (tv_le_some (tv_le_some (tv_le_some (tv_le_some (tv_le_some tv_le_nil))))) (c_Y_queues_L5 hC hr hE tm_fu σ a1 a2 (0 : Int32) (0 : Int32)  hf)
set_option maxHeartbeats 4000000 in
set_option maxRecDepth 100000 in
theorem c_Y_done_L26 {X : tv_X} {r : tm_S} (hC : tv_K X tb_Y_done 3 "TrickleMeshModel" tm_wg tm_ns tm_cl tm_ty { frames := 2, cells := 0, slots := 0, locals := 42 }) (hr : tv_ret X none) (hE : tv_end X (tm_P none r) 0 0) : ∀ (k : Nat) (σ : tm_S) (l1 : Int32) (l2 : Int32), f_Y_done_L26 k σ l1 l2 = some r → V X 0 0 tm_n (hp σ) 26 [some (.ref 130), some (.int l1), some (.int l2)] [] := by
  intro k
  induction k with
  | zero => intro σ l1 l2  hf; simp only [f_Y_done_L26] at hf; cases hf
  | succ k hrc =>
    intro σ l1 l2  hf
    rw [f_Y_done_L26] at hf
    refine V.blk hC [(.iload_n 2, 1), (.aload_n 0, 1)] 26 [some (.ref 130), some (.int l1), some (.int l2)] [] ⟨d_Y_done_26, d_Y_done_27, trivial⟩ (show tv_run _ _ _ _ = some (28, [some (.ref 130), some (.int l1), some (.int l2)], [.ref 130, .int l2]) from rfl) ?_
    refine V.getf hC tf_Y_62 (kd_in kd_130 (by decide)) (hp_at kd_130) rfl d_Y_done_28 ?_
    show V X 0 0 tm_n (hp σ) 31 [some (.ref 130), some (.int l1), some (.int l2)] [.ref 148, .int l2]
    refine V.blk hC [(.iload_n 1, 1)] 31 [some (.ref 130), some (.int l1), some (.int l2)] [.ref 148, .int l2] ⟨d_Y_done_31, trivial⟩ (show tv_run _ _ _ _ = some (32, [some (.ref 130), some (.int l1), some (.int l2)], [.int l1, .ref 148, .int l2]) from rfl) ?_
    obtain ⟨hb7, hf⟩ := tm_if hf
    refine V.iald hC (kd_in kd_148 (by decide)) (hp_at kd_148) rfl hb7 d_Y_done_32 ?_
    show V X 0 0 tm_n (hp σ) 33 [some (.ref 130), some (.int l1), some (.int l2)] [.int (σ.1 148 l1.toNatClampNeg), .int l2]
    refine V.icmp_ge hC d_Y_done_33 (tgt := 64) (by decide) (fun hc => ?_) (fun hc => ?_)
    · rw [if_pos hc] at hf
      refine V.blk hC [(.aload_n 0, 1), (.iload_n 1, 1)] 64 [some (.ref 130), some (.int l1), some (.int l2)] [] ⟨d_Y_done_64, d_Y_done_65, trivial⟩ (show tv_run _ _ _ _ = some (66, [some (.ref 130), some (.int l1), some (.int l2)], [.int l1, .ref 130]) from rfl) ?_
      obtain ⟨q8, hq8, hf⟩ := tm_bd hf
      refine V.callV hC tm_nest rfl (c_Y_first σ l1  hq8) (tm_gd tc_Y_first) tg_Y_165 th_Y_first ⟨tm_le rfl, tm_le rfl, tm_le rfl, tm_le rfl⟩ rfl (kd_in kd_130 (by decide)) (hp_at kd_130) (As := [.int l1]) (st := []) rfl (tm_le rfl) d_Y_done_66 ?_
      rintro v n2 h2 ⟨rfl, rfl, rfl⟩
      show V X 0 0 tm_n (hp q8) 69 [some (.ref 130), some (.int l1), some (.int l2)] []
      obtain rfl := Option.some.inj hf
      exact V.vret hC hr hE d_Y_done_69 ⟨rfl, rfl, rfl⟩
    · rw [if_neg hc] at hf
      refine V.blk hC [(.aload_n 0, 1)] 36 [some (.ref 130), some (.int l1), some (.int l2)] [] ⟨d_Y_done_36, trivial⟩ (show tv_run _ _ _ _ = some (37, [some (.ref 130), some (.int l1), some (.int l2)], [.ref 130]) from rfl) ?_
      refine V.getf hC tf_Y_59 (kd_in kd_130 (by decide)) (hp_at kd_130) rfl d_Y_done_37 ?_
      show V X 0 0 tm_n (hp σ) 40 [some (.ref 130), some (.int l1), some (.int l2)] [.ref 147]
      refine V.blk hC [(.iconst 4, 1), (.iload_n 1, 1), (.imul, 1), (.iload_n 2, 1), (.iadd, 1), (.aload_n 0, 1)] 40 [some (.ref 130), some (.int l1), some (.int l2)] [.ref 147] ⟨d_Y_done_40, d_Y_done_41, d_Y_done_42, d_Y_done_43, d_Y_done_44, d_Y_done_45, trivial⟩ (show tv_run _ _ _ _ = some (46, [some (.ref 130), some (.int l1), some (.int l2)], [.ref 130, .int (((4 : Int32) * l1) + l2), .ref 147]) from rfl) ?_
      refine V.getf hC tf_Y_59 (kd_in kd_130 (by decide)) (hp_at kd_130) rfl d_Y_done_46 ?_
      show V X 0 0 tm_n (hp σ) 49 [some (.ref 130), some (.int l1), some (.int l2)] [.ref 147, .int (((4 : Int32) * l1) + l2), .ref 147]
      refine V.blk hC [(.iconst 4, 1), (.iload_n 1, 1), (.imul, 1), (.iload_n 2, 1), (.iadd, 1), (.iconst 1, 1), (.iadd, 1)] 49 [some (.ref 130), some (.int l1), some (.int l2)] [.ref 147, .int (((4 : Int32) * l1) + l2), .ref 147] ⟨d_Y_done_49, d_Y_done_50, d_Y_done_51, d_Y_done_52, d_Y_done_53, d_Y_done_54, d_Y_done_55, trivial⟩ (show tv_run _ _ _ _ = some (56, [some (.ref 130), some (.int l1), some (.int l2)], [.int ((((4 : Int32) * l1) + l2) + (1 : Int32)), .ref 147, .int (((4 : Int32) * l1) + l2), .ref 147]) from rfl) ?_
      obtain ⟨hb9, hf⟩ := tm_if hf
      refine V.iald hC (kd_in kd_147 (by decide)) (hp_at kd_147) rfl hb9 d_Y_done_56 ?_
      show V X 0 0 tm_n (hp σ) 57 [some (.ref 130), some (.int l1), some (.int l2)] [.int (σ.1 147 ((((4 : Int32) * l1) + l2) + (1 : Int32)).toNatClampNeg), .int (((4 : Int32) * l1) + l2), .ref 147]
      obtain ⟨hb10, hf⟩ := tm_if hf
      obtain ⟨σ11, hσ11, hf⟩ := tm_ww hf
      refine V.seta hC kd_147 (kd_in kd_147 (by decide)) rfl rfl rfl hb10 d_Y_done_57 ?_
      rw [← hσ11]
      refine V.blk hC [(.iinc 2 1, 3)] 58 [some (.ref 130), some (.int l1), some (.int l2)] [] ⟨d_Y_done_58, trivial⟩ (show tv_run _ _ _ _ = some (61, [some (.ref 130), some (.int l1), some (.int (l2 + (1 : Int32)))], []) from rfl) ?_
      refine V.goto hC d_Y_done_61 (tgt := 26) (by decide) ?_
      exact V.less (tv_le_some (tv_le_some (tv_le_some tv_le_nil))) (hrc σ11 l1 (l2 + (1 : Int32))  hf)
set_option maxHeartbeats 4000000 in
set_option maxRecDepth 100000 in
theorem c_Y_done (σ : tm_S) (a1 : Int32)  {r : tm_S} (hf : f_Y_done σ a1 = some r) : tv_Met ty_Y_done (Cond.code ty_Y_done tb_Y_done 3 none :: tm_wg) tm_ns tm_cl tm_ty 2 42 0 0 [.ref 130, .int a1] tm_n (hp σ) (tm_P none r) := by
  refine tv_Met.of (by decide) rfl (tm_le rfl) ?_
  intro X hC hnm hr hE
  have hC : tv_K X tb_Y_done 3 "TrickleMeshModel" tm_wg tm_ns tm_cl tm_ty { frames := 2, cells := 0, slots := 0, locals := 42 } := hC
  show V X 0 0 tm_n (hp σ) 0 [some (.ref 130), some (.int a1), none] []
  unfold f_Y_done at hf
  refine V.blk hC [(.aload_n 0, 1)] 0 [some (.ref 130), some (.int a1), none] [] ⟨d_Y_done_0, trivial⟩ (show tv_run _ _ _ _ = some (1, [some (.ref 130), some (.int a1), none], [.ref 130]) from rfl) ?_
  refine V.getf hC tf_Y_80 (kd_in kd_130 (by decide)) (hp_at kd_130) rfl d_Y_done_1 ?_
  show V X 0 0 tm_n (hp σ) 4 [some (.ref 130), some (.int a1), none] [.ref 154]
  refine V.blk hC [(.aload_n 0, 1)] 4 [some (.ref 130), some (.int a1), none] [.ref 154] ⟨d_Y_done_4, trivial⟩ (show tv_run _ _ _ _ = some (5, [some (.ref 130), some (.int a1), none], [.ref 130, .ref 154]) from rfl) ?_
  refine V.getf hC tf_Y_59 (kd_in kd_130 (by decide)) (hp_at kd_130) rfl d_Y_done_5 ?_
  show V X 0 0 tm_n (hp σ) 8 [some (.ref 130), some (.int a1), none] [.ref 147, .ref 154]
  refine V.blk hC [(.iconst 4, 1), (.iload_n 1, 1), (.imul, 1)] 8 [some (.ref 130), some (.int a1), none] [.ref 147, .ref 154] ⟨d_Y_done_8, d_Y_done_9, d_Y_done_10, trivial⟩ (show tv_run _ _ _ _ = some (11, [some (.ref 130), some (.int a1), none], [.int ((4 : Int32) * a1), .ref 147, .ref 154]) from rfl) ?_
  obtain ⟨hb1, hf⟩ := tm_if hf
  refine V.iald hC (kd_in kd_147 (by decide)) (hp_at kd_147) rfl hb1 d_Y_done_11 ?_
  show V X 0 0 tm_n (hp σ) 12 [some (.ref 130), some (.int a1), none] [.int (σ.1 147 ((4 : Int32) * a1).toNatClampNeg), .ref 154]
  refine V.blk hC [(.iconst 0, 1)] 12 [some (.ref 130), some (.int a1), none] [.int (σ.1 147 ((4 : Int32) * a1).toNatClampNeg), .ref 154] ⟨d_Y_done_12, trivial⟩ (show tv_run _ _ _ _ = some (13, [some (.ref 130), some (.int a1), none], [.int (0 : Int32), .int (σ.1 147 ((4 : Int32) * a1).toNatClampNeg), .ref 154]) from rfl) ?_
  obtain ⟨hb2, hf⟩ := tm_if hf
  obtain ⟨σ3, hσ3, hf⟩ := tm_ww hf
  refine V.setz hC kd_154 (kd_in kd_154 (by decide)) rfl rfl rfl hb2 (by decide) d_Y_done_13 ?_
  rw [← hσ3]
  refine V.blk hC [(.aload_n 0, 1)] 14 [some (.ref 130), some (.int a1), none] [] ⟨d_Y_done_14, trivial⟩ (show tv_run _ _ _ _ = some (15, [some (.ref 130), some (.int a1), none], [.ref 130]) from rfl) ?_
  refine V.getf hC tf_Y_62 (kd_in kd_130 (by decide)) (hp_at kd_130) rfl d_Y_done_15 ?_
  show V X 0 0 tm_n (hp σ3) 18 [some (.ref 130), some (.int a1), none] [.ref 148]
  refine V.blk hC [(.iload_n 1, 1), (.dup2, 1)] 18 [some (.ref 130), some (.int a1), none] [.ref 148] ⟨d_Y_done_18, d_Y_done_19, trivial⟩ (show tv_run _ _ _ _ = some (20, [some (.ref 130), some (.int a1), none], [.int a1, .ref 148, .int a1, .ref 148]) from rfl) ?_
  obtain ⟨hb4, hf⟩ := tm_if hf
  refine V.iald hC (kd_in kd_148 (by decide)) (hp_at kd_148) rfl hb4 d_Y_done_20 ?_
  show V X 0 0 tm_n (hp σ3) 21 [some (.ref 130), some (.int a1), none] [.int (σ3.1 148 a1.toNatClampNeg), .int a1, .ref 148]
  refine V.blk hC [(.iconst 1, 1), (.isub, 1)] 21 [some (.ref 130), some (.int a1), none] [.int (σ3.1 148 a1.toNatClampNeg), .int a1, .ref 148] ⟨d_Y_done_21, d_Y_done_22, trivial⟩ (show tv_run _ _ _ _ = some (23, [some (.ref 130), some (.int a1), none], [.int ((σ3.1 148 a1.toNatClampNeg) - (1 : Int32)), .int a1, .ref 148]) from rfl) ?_
  obtain ⟨hb5, hf⟩ := tm_if hf
  obtain ⟨σ6, hσ6, hf⟩ := tm_ww hf
  refine V.seta hC kd_148 (kd_in kd_148 (by decide)) rfl rfl rfl hb5 d_Y_done_23 ?_
  rw [← hσ6]
  refine V.blk hC [(.iconst 0, 1), (.istore_n 2, 1)] 24 [some (.ref 130), some (.int a1), none] [] ⟨d_Y_done_24, d_Y_done_25, trivial⟩ (show tv_run _ _ _ _ = some (26, [some (.ref 130), some (.int a1), some (.int (0 : Int32))], []) from rfl) ?_
  exact V.less (tv_le_some (tv_le_some (tv_le_some tv_le_nil))) (c_Y_done_L26 hC hr hE tm_fu σ6 a1 (0 : Int32)  hf)
set_option maxHeartbeats 4000000 in
set_option maxRecDepth 100000 in
theorem c_Y_begin (σ : tm_S) (a1 : Int32)  {r : tm_S} (hf : f_Y_begin σ a1 = some r) : tv_Met ty_Y_begin (Cond.code ty_Y_begin tb_Y_begin 2 none :: tm_wg) tm_ns tm_cl tm_ty 1 21 0 0 [.ref 130, .int a1] tm_n (hp σ) (tm_P none r) := by
  refine tv_Met.of (by decide) rfl (tm_le rfl) ?_
  intro X hC hnm hr hE
  have hC : tv_K X tb_Y_begin 2 "TrickleMeshModel" tm_wg tm_ns tm_cl tm_ty { frames := 1, cells := 0, slots := 0, locals := 21 } := hC
  show V X 0 0 tm_n (hp σ) 0 [some (.ref 130), some (.int a1)] []
  unfold f_Y_begin at hf
  refine V.blk hC [(.aload_n 0, 1)] 0 [some (.ref 130), some (.int a1)] [] ⟨d_Y_begin_0, trivial⟩ (show tv_run _ _ _ _ = some (1, [some (.ref 130), some (.int a1)], [.ref 130]) from rfl) ?_
  refine V.getf hC tf_Y_50 (kd_in kd_130 (by decide)) (hp_at kd_130) rfl d_Y_begin_1 ?_
  show V X 0 0 tm_n (hp σ) 4 [some (.ref 130), some (.int a1)] [.ref 144]
  refine V.blk hC [(.iload_n 1, 1), (.iconst 0, 1)] 4 [some (.ref 130), some (.int a1)] [.ref 144] ⟨d_Y_begin_4, d_Y_begin_5, trivial⟩ (show tv_run _ _ _ _ = some (6, [some (.ref 130), some (.int a1)], [.int (0 : Int32), .int a1, .ref 144]) from rfl) ?_
  obtain ⟨hb1, hf⟩ := tm_if hf
  obtain ⟨σ2, hσ2, hf⟩ := tm_ww hf
  refine V.seta hC kd_144 (kd_in kd_144 (by decide)) rfl rfl rfl hb1 d_Y_begin_6 ?_
  rw [← hσ2]
  refine V.blk hC [(.aload_n 0, 1)] 7 [some (.ref 130), some (.int a1)] [] ⟨d_Y_begin_7, trivial⟩ (show tv_run _ _ _ _ = some (8, [some (.ref 130), some (.int a1)], [.ref 130]) from rfl) ?_
  refine V.getf hC tf_Y_56 (kd_in kd_130 (by decide)) (hp_at kd_130) rfl d_Y_begin_8 ?_
  show V X 0 0 tm_n (hp σ2) 11 [some (.ref 130), some (.int a1)] [.ref 146]
  refine V.blk hC [(.iload_n 1, 1), (.iconst 0, 1)] 11 [some (.ref 130), some (.int a1)] [.ref 146] ⟨d_Y_begin_11, d_Y_begin_12, trivial⟩ (show tv_run _ _ _ _ = some (13, [some (.ref 130), some (.int a1)], [.int (0 : Int32), .int a1, .ref 146]) from rfl) ?_
  obtain ⟨hb3, hf⟩ := tm_if hf
  obtain ⟨σ4, hσ4, hf⟩ := tm_ww hf
  refine V.seta hC kd_146 (kd_in kd_146 (by decide)) rfl rfl rfl hb3 d_Y_begin_13 ?_
  rw [← hσ4]
  refine V.blk hC [(.aload_n 0, 1)] 14 [some (.ref 130), some (.int a1)] [] ⟨d_Y_begin_14, trivial⟩ (show tv_run _ _ _ _ = some (15, [some (.ref 130), some (.int a1)], [.ref 130]) from rfl) ?_
  refine V.getf hC tf_Y_53 (kd_in kd_130 (by decide)) (hp_at kd_130) rfl d_Y_begin_15 ?_
  show V X 0 0 tm_n (hp σ4) 18 [some (.ref 130), some (.int a1)] [.ref 145]
  refine V.blk hC [(.iload_n 1, 1), (.aload_n 0, 1)] 18 [some (.ref 130), some (.int a1)] [.ref 145] ⟨d_Y_begin_18, d_Y_begin_19, trivial⟩ (show tv_run _ _ _ _ = some (20, [some (.ref 130), some (.int a1)], [.ref 130, .int a1, .ref 145]) from rfl) ?_
  refine V.getf hC tf_Y_47 (kd_in kd_130 (by decide)) (hp_at kd_130) rfl d_Y_begin_20 ?_
  show V X 0 0 tm_n (hp σ4) 23 [some (.ref 130), some (.int a1)] [.ref 143, .int a1, .ref 145]
  refine V.blk hC [(.iload_n 1, 1)] 23 [some (.ref 130), some (.int a1)] [.ref 143, .int a1, .ref 145] ⟨d_Y_begin_23, trivial⟩ (show tv_run _ _ _ _ = some (24, [some (.ref 130), some (.int a1)], [.int a1, .ref 143, .int a1, .ref 145]) from rfl) ?_
  obtain ⟨hb5, hf⟩ := tm_if hf
  refine V.iald hC (kd_in kd_143 (by decide)) (hp_at kd_143) rfl hb5 d_Y_begin_24 ?_
  show V X 0 0 tm_n (hp σ4) 25 [some (.ref 130), some (.int a1)] [.int (σ4.1 143 a1.toNatClampNeg), .int a1, .ref 145]
  refine V.blk hC [(.iconst 2, 1)] 25 [some (.ref 130), some (.int a1)] [.int (σ4.1 143 a1.toNatClampNeg), .int a1, .ref 145] ⟨d_Y_begin_25, trivial⟩ (show tv_run _ _ _ _ = some (26, [some (.ref 130), some (.int a1)], [.int (2 : Int32), .int (σ4.1 143 a1.toNatClampNeg), .int a1, .ref 145]) from rfl) ?_
  refine V.idiv hC d_Y_begin_26 (by decide) ?_
  refine V.blk hC [(.aload_n 0, 1), (.aload_n 0, 1)] 27 [some (.ref 130), some (.int a1)] [.int ((σ4.1 143 a1.toNatClampNeg) / (2 : Int32)), .int a1, .ref 145] ⟨d_Y_begin_27, d_Y_begin_28, trivial⟩ (show tv_run _ _ _ _ = some (29, [some (.ref 130), some (.int a1)], [.ref 130, .ref 130, .int ((σ4.1 143 a1.toNatClampNeg) / (2 : Int32)), .int a1, .ref 145]) from rfl) ?_
  refine V.getf hC tf_Y_47 (kd_in kd_130 (by decide)) (hp_at kd_130) rfl d_Y_begin_29 ?_
  show V X 0 0 tm_n (hp σ4) 32 [some (.ref 130), some (.int a1)] [.ref 143, .ref 130, .int ((σ4.1 143 a1.toNatClampNeg) / (2 : Int32)), .int a1, .ref 145]
  refine V.blk hC [(.iload_n 1, 1)] 32 [some (.ref 130), some (.int a1)] [.ref 143, .ref 130, .int ((σ4.1 143 a1.toNatClampNeg) / (2 : Int32)), .int a1, .ref 145] ⟨d_Y_begin_32, trivial⟩ (show tv_run _ _ _ _ = some (33, [some (.ref 130), some (.int a1)], [.int a1, .ref 143, .ref 130, .int ((σ4.1 143 a1.toNatClampNeg) / (2 : Int32)), .int a1, .ref 145]) from rfl) ?_
  obtain ⟨hb6, hf⟩ := tm_if hf
  refine V.iald hC (kd_in kd_143 (by decide)) (hp_at kd_143) rfl hb6 d_Y_begin_33 ?_
  show V X 0 0 tm_n (hp σ4) 34 [some (.ref 130), some (.int a1)] [.int (σ4.1 143 a1.toNatClampNeg), .ref 130, .int ((σ4.1 143 a1.toNatClampNeg) / (2 : Int32)), .int a1, .ref 145]
  refine V.blk hC [(.iconst 2, 1)] 34 [some (.ref 130), some (.int a1)] [.int (σ4.1 143 a1.toNatClampNeg), .ref 130, .int ((σ4.1 143 a1.toNatClampNeg) / (2 : Int32)), .int a1, .ref 145] ⟨d_Y_begin_34, trivial⟩ (show tv_run _ _ _ _ = some (35, [some (.ref 130), some (.int a1)], [.int (2 : Int32), .int (σ4.1 143 a1.toNatClampNeg), .ref 130, .int ((σ4.1 143 a1.toNatClampNeg) / (2 : Int32)), .int a1, .ref 145]) from rfl) ?_
  refine V.idiv hC d_Y_begin_35 (by decide) ?_
  obtain ⟨q7, hq7, hf⟩ := tm_bd hf
  refine V.callV hC tm_nest rfl (c_Y_draw σ4 ((σ4.1 143 a1.toNatClampNeg) / (2 : Int32))  hq7) (tm_gd tc_Y_draw) tg_Y_158 th_Y_draw ⟨tm_le rfl, tm_le rfl, tm_le rfl, tm_le rfl⟩ rfl (kd_in kd_130 (by decide)) (hp_at kd_130) (As := [.int ((σ4.1 143 a1.toNatClampNeg) / (2 : Int32))]) (st := [.int ((σ4.1 143 a1.toNatClampNeg) / (2 : Int32)), .int a1, .ref 145]) rfl (tm_le rfl) d_Y_begin_36 ?_
  rintro v n2 h2 ⟨rfl, rfl, rfl⟩
  show V X 0 0 tm_n (hp q7.2) 39 [some (.ref 130), some (.int a1)] [.int q7.1, .int ((σ4.1 143 a1.toNatClampNeg) / (2 : Int32)), .int a1, .ref 145]
  refine V.blk hC [(.iadd, 1)] 39 [some (.ref 130), some (.int a1)] [.int q7.1, .int ((σ4.1 143 a1.toNatClampNeg) / (2 : Int32)), .int a1, .ref 145] ⟨d_Y_begin_39, trivial⟩ (show tv_run _ _ _ _ = some (40, [some (.ref 130), some (.int a1)], [.int (((σ4.1 143 a1.toNatClampNeg) / (2 : Int32)) + q7.1), .int a1, .ref 145]) from rfl) ?_
  obtain ⟨hb8, hf⟩ := tm_if hf
  obtain ⟨σ9, hσ9, hf⟩ := tm_ww hf
  refine V.seta hC kd_145 (kd_in kd_145 (by decide)) rfl rfl rfl hb8 d_Y_begin_40 ?_
  rw [← hσ9]
  obtain rfl := Option.some.inj hf
  exact V.vret hC hr hE d_Y_begin_41 ⟨rfl, rfl, rfl⟩
set_option maxHeartbeats 4000000 in
set_option maxRecDepth 100000 in
theorem c_Y_reset (σ : tm_S) (a1 : Int32)  {r : tm_S} (hf : f_Y_reset σ a1 = some r) : tv_Met ty_Y_reset (Cond.code ty_Y_reset tb_Y_reset 2 none :: tm_wg) tm_ns tm_cl tm_ty 2 42 0 0 [.ref 130, .int a1] tm_n (hp σ) (tm_P none r) := by
  refine tv_Met.of (by decide) rfl (tm_le rfl) ?_
  intro X hC hnm hr hE
  have hC : tv_K X tb_Y_reset 2 "TrickleMeshModel" tm_wg tm_ns tm_cl tm_ty { frames := 2, cells := 0, slots := 0, locals := 42 } := hC
  show V X 0 0 tm_n (hp σ) 0 [some (.ref 130), some (.int a1)] []
  unfold f_Y_reset at hf
  refine V.blk hC [(.aload_n 0, 1)] 0 [some (.ref 130), some (.int a1)] [] ⟨d_Y_reset_0, trivial⟩ (show tv_run _ _ _ _ = some (1, [some (.ref 130), some (.int a1)], [.ref 130]) from rfl) ?_
  refine V.getf hC tf_Y_44 (kd_in kd_130 (by decide)) (hp_at kd_130) rfl d_Y_reset_1 ?_
  show V X 0 0 tm_n (hp σ) 4 [some (.ref 130), some (.int a1)] [.ref 142]
  refine V.blk hC [(.iload_n 1, 1)] 4 [some (.ref 130), some (.int a1)] [.ref 142] ⟨d_Y_reset_4, trivial⟩ (show tv_run _ _ _ _ = some (5, [some (.ref 130), some (.int a1)], [.int a1, .ref 142]) from rfl) ?_
  obtain ⟨hb1, hf⟩ := tm_if hf
  refine V.zald hC (kd_in kd_142 (by decide)) (hp_at kd_142) rfl hb1 d_Y_reset_5 ?_
  show V X 0 0 tm_n (hp σ) 6 [some (.ref 130), some (.int a1)] [.int (σ.1 142 a1.toNatClampNeg)]
  refine V.if_eq hC d_Y_reset_6 (tgt := 19) (by decide) (fun hc => ?_) (fun hc => ?_)
  · rw [if_pos hc] at hf
    obtain rfl := Option.some.inj hf
    exact V.vret hC hr hE d_Y_reset_19 ⟨rfl, rfl, rfl⟩
  · rw [if_neg hc] at hf
    refine V.blk hC [(.aload_n 0, 1)] 9 [some (.ref 130), some (.int a1)] [] ⟨d_Y_reset_9, trivial⟩ (show tv_run _ _ _ _ = some (10, [some (.ref 130), some (.int a1)], [.ref 130]) from rfl) ?_
    refine V.getf hC tf_Y_47 (kd_in kd_130 (by decide)) (hp_at kd_130) rfl d_Y_reset_10 ?_
    show V X 0 0 tm_n (hp σ) 13 [some (.ref 130), some (.int a1)] [.ref 143]
    refine V.blk hC [(.iload_n 1, 1)] 13 [some (.ref 130), some (.int a1)] [.ref 143] ⟨d_Y_reset_13, trivial⟩ (show tv_run _ _ _ _ = some (14, [some (.ref 130), some (.int a1)], [.int a1, .ref 143]) from rfl) ?_
    obtain ⟨hb2, hf⟩ := tm_if hf
    refine V.iald hC (kd_in kd_143 (by decide)) (hp_at kd_143) rfl hb2 d_Y_reset_14 ?_
    show V X 0 0 tm_n (hp σ) 15 [some (.ref 130), some (.int a1)] [.int (σ.1 143 a1.toNatClampNeg)]
    refine V.blk hC [(.iconst 4, 1)] 15 [some (.ref 130), some (.int a1)] [.int (σ.1 143 a1.toNatClampNeg)] ⟨d_Y_reset_15, trivial⟩ (show tv_run _ _ _ _ = some (16, [some (.ref 130), some (.int a1)], [.int (4 : Int32), .int (σ.1 143 a1.toNatClampNeg)]) from rfl) ?_
    refine V.icmp_ne hC d_Y_reset_16 (tgt := 20) (by decide) (fun hc => ?_) (fun hc => ?_)
    · rw [if_neg hc] at hf
      refine V.blk hC [(.aload_n 0, 1)] 20 [some (.ref 130), some (.int a1)] [] ⟨d_Y_reset_20, trivial⟩ (show tv_run _ _ _ _ = some (21, [some (.ref 130), some (.int a1)], [.ref 130]) from rfl) ?_
      refine V.getf hC tf_Y_47 (kd_in kd_130 (by decide)) (hp_at kd_130) rfl d_Y_reset_21 ?_
      show V X 0 0 tm_n (hp σ) 24 [some (.ref 130), some (.int a1)] [.ref 143]
      refine V.blk hC [(.iload_n 1, 1), (.iconst 4, 1)] 24 [some (.ref 130), some (.int a1)] [.ref 143] ⟨d_Y_reset_24, d_Y_reset_25, trivial⟩ (show tv_run _ _ _ _ = some (26, [some (.ref 130), some (.int a1)], [.int (4 : Int32), .int a1, .ref 143]) from rfl) ?_
      obtain ⟨hb3, hf⟩ := tm_if hf
      obtain ⟨σ4, hσ4, hf⟩ := tm_ww hf
      refine V.seta hC kd_143 (kd_in kd_143 (by decide)) rfl rfl rfl hb3 d_Y_reset_26 ?_
      rw [← hσ4]
      refine V.blk hC [(.aload_n 0, 1), (.iload_n 1, 1)] 27 [some (.ref 130), some (.int a1)] [] ⟨d_Y_reset_27, d_Y_reset_28, trivial⟩ (show tv_run _ _ _ _ = some (29, [some (.ref 130), some (.int a1)], [.int a1, .ref 130]) from rfl) ?_
      obtain ⟨q5, hq5, hf⟩ := tm_bd hf
      refine V.callV hC tm_nest rfl (c_Y_begin σ4 a1  hq5) (tm_gd tc_Y_begin) tg_Y_175 th_Y_begin ⟨tm_le rfl, tm_le rfl, tm_le rfl, tm_le rfl⟩ rfl (kd_in kd_130 (by decide)) (hp_at kd_130) (As := [.int a1]) (st := []) rfl (tm_le rfl) d_Y_reset_29 ?_
      rintro v n2 h2 ⟨rfl, rfl, rfl⟩
      show V X 0 0 tm_n (hp q5) 32 [some (.ref 130), some (.int a1)] []
      obtain rfl := Option.some.inj hf
      exact V.vret hC hr hE d_Y_reset_32 ⟨rfl, rfl, rfl⟩
    · rw [if_pos hc] at hf
      obtain rfl := Option.some.inj hf
      exact V.vret hC hr hE d_Y_reset_19 ⟨rfl, rfl, rfl⟩
set_option maxHeartbeats 4000000 in
set_option maxRecDepth 100000 in
theorem c_Y_allGoals_L35 {X : tv_X} {r : Int32 × tm_S} (hC : tv_K X tb_Y_allGoals 4 "TrickleMeshModel" tm_wg tm_ns tm_cl tm_ty { frames := 0, cells := 0, slots := 0, locals := 0 }) (hr : tv_ret X (some .int)) (hE : tv_end X (tm_P (some (.int r.1)) r.2) 0 0) {rc : tm_S → Int32 → Int32 → Int32 → Option (Int32 × tm_S)} (hrc : ∀ (σ : tm_S) (l1 : Int32) (l2 : Int32) (l3 : Int32), rc σ l1 l2 l3 = some r → V X 0 0 tm_n (hp σ) 6 [some (.ref 130), some (.int l1), some (.int l2), some (.int l3)] []) (σ : tm_S) (l1 : Int32) (l3 : Int32) (s0 : Int32)  (hf : f_Y_allGoals_L35 rc σ l1 l3 s0 = some r) : V X 0 0 tm_n (hp σ) 35 [some (.ref 130), some (.int l1), none, some (.int l3)] [.int s0] := by
  unfold f_Y_allGoals_L35 at hf
  refine V.blk hC [(.istore_n 2, 1), (.iinc 3 1, 3)] 35 [some (.ref 130), some (.int l1), none, some (.int l3)] [.int s0] ⟨d_Y_allGoals_35, d_Y_allGoals_36, trivial⟩ (show tv_run _ _ _ _ = some (39, [some (.ref 130), some (.int l1), some (.int s0), some (.int (l3 + (1 : Int32)))], []) from rfl) ?_
  refine V.goto hC d_Y_allGoals_39 (tgt := 6) (by decide) ?_
  exact V.less (tv_le_some (tv_le_some (tv_le_some (tv_le_some tv_le_nil)))) (hrc σ l1 s0 (l3 + (1 : Int32))  hf)
