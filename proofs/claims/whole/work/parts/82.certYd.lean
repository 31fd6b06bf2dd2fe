set_option maxHeartbeats 4000000 in
set_option maxRecDepth 100000 in
theorem c_Y_advert_L195 {X : tv_X} {r : tm_S} (hC : tv_K X tb_Y_advert 4 "TrickleMeshModel" tm_wg tm_ns tm_cl tm_ty { frames := 5, cells := 0, slots := 0, locals := 118 }) (hr : tv_ret X none) (hE : tv_end X (tm_P none r) 0 0) (σ : tm_S) (s0 : Int32) (s1 : Int32) (s2 : Int32)  (hf : f_Y_advert_L195 σ s0 s1 s2 = some r) : V X 0 0 tm_n (hp σ) 195 [some (.ref 130), none, none, none] [.int s0, .int s1, .int s2, .ref 146] := by
  unfold f_Y_advert_L195 at hf
  refine V.blk hC [(.iadd, 1)] 195 [some (.ref 130), none, none, none] [.int s0, .int s1, .int s2, .ref 146] ⟨d_Y_advert_195, trivial⟩ (show tv_run _ _ _ _ = some (196, [some (.ref 130), none, none, none], [.int (s1 + s0), .int s2, .ref 146]) from rfl) ?_
  obtain ⟨hb27, hf⟩ := tm_if hf
  obtain ⟨σ28, hσ28, hf⟩ := tm_ww hf
  refine V.seta hC kd_146 (kd_in kd_146 (by decide)) rfl rfl rfl hb27 d_Y_advert_196 ?_
  rw [← hσ28]
  obtain rfl := Option.some.inj hf
  exact V.vret hC hr hE d_Y_advert_197 ⟨rfl, rfl, rfl⟩
set_option maxHeartbeats 4000000 in
set_option maxRecDepth 100000 in
theorem c_Y_advert_L178 {X : tv_X} {r : tm_S} (hC : tv_K X tb_Y_advert 4 "TrickleMeshModel" tm_wg tm_ns tm_cl tm_ty { frames := 5, cells := 0, slots := 0, locals := 118 }) (hr : tv_ret X none) (hE : tv_end X (tm_P none r) 0 0) (σ : tm_S) (l1 : Int32) (s0 : Int32)  (hf : f_Y_advert_L178 σ l1 s0 = some r) : V X 0 0 tm_n (hp σ) 178 [some (.ref 130), some (.int l1), none, none] [.int s0] := by
  unfold f_Y_advert_L178 at hf
  refine V.blk hC [(.istore_n 3, 1), (.aload_n 0, 1)] 178 [some (.ref 130), some (.int l1), none, none] [.int s0] ⟨d_Y_advert_178, d_Y_advert_179, trivial⟩ (show tv_run _ _ _ _ = some (180, [some (.ref 130), some (.int l1), none, some (.int s0)], [.ref 130]) from rfl) ?_
  refine V.getf hC tf_Y_56 (kd_in kd_130 (by decide)) (hp_at kd_130) rfl d_Y_advert_180 ?_
  show V X 0 0 tm_n (hp σ) 183 [some (.ref 130), some (.int l1), none, some (.int s0)] [.ref 146]
  refine V.blk hC [(.iload_n 1, 1), (.dup2, 1)] 183 [some (.ref 130), some (.int l1), none, some (.int s0)] [.ref 146] ⟨d_Y_advert_183, d_Y_advert_184, trivial⟩ (show tv_run _ _ _ _ = some (185, [some (.ref 130), some (.int l1), none, some (.int s0)], [.int l1, .ref 146, .int l1, .ref 146]) from rfl) ?_
  obtain ⟨hb26, hf⟩ := tm_if hf
  refine V.iald hC (kd_in kd_146 (by decide)) (hp_at kd_146) rfl hb26 d_Y_advert_185 ?_
  show V X 0 0 tm_n (hp σ) 186 [some (.ref 130), some (.int l1), none, some (.int s0)] [.int (σ.1 146 l1.toNatClampNeg), .int l1, .ref 146]
  refine V.blk hC [(.iload_n 3, 1)] 186 [some (.ref 130), some (.int l1), none, some (.int s0)] [.int (σ.1 146 l1.toNatClampNeg), .int l1, .ref 146] ⟨d_Y_advert_186, trivial⟩ (show tv_run _ _ _ _ = some (187, [some (.ref 130), some (.int l1), none, some (.int s0)], [.int s0, .int (σ.1 146 l1.toNatClampNeg), .int l1, .ref 146]) from rfl) ?_
  refine V.if_eq hC d_Y_advert_187 (tgt := 194) (by decide) (fun hc => ?_) (fun hc => ?_)
  · rw [if_pos hc] at hf
    refine V.blk hC [(.iconst 1, 1)] 194 [some (.ref 130), some (.int l1), none, some (.int s0)] [.int (σ.1 146 l1.toNatClampNeg), .int l1, .ref 146] ⟨d_Y_advert_194, trivial⟩ (show tv_run _ _ _ _ = some (195, [some (.ref 130), some (.int l1), none, some (.int s0)], [.int (1 : Int32), .int (σ.1 146 l1.toNatClampNeg), .int l1, .ref 146]) from rfl) ?_
    exact V.less (tv_le_some (tv_le_none (tv_le_none (tv_le_none tv_le_nil)))) (c_Y_advert_L195 hC hr hE σ (1 : Int32) (σ.1 146 l1.toNatClampNeg) l1  hf)
  · rw [if_neg hc] at hf
    refine V.blk hC [(.iconst 0, 1)] 190 [some (.ref 130), some (.int l1), none, some (.int s0)] [.int (σ.1 146 l1.toNatClampNeg), .int l1, .ref 146] ⟨d_Y_advert_190, trivial⟩ (show tv_run _ _ _ _ = some (191, [some (.ref 130), some (.int l1), none, some (.int s0)], [.int (0 : Int32), .int (σ.1 146 l1.toNatClampNeg), .int l1, .ref 146]) from rfl) ?_
    refine V.goto hC d_Y_advert_191 (tgt := 195) (by decide) ?_
    exact V.less (tv_le_some (tv_le_none (tv_le_none (tv_le_none tv_le_nil)))) (c_Y_advert_L195 hC hr hE σ (0 : Int32) (σ.1 146 l1.toNatClampNeg) l1  hf)
set_option maxHeartbeats 4000000 in
set_option maxRecDepth 100000 in
theorem c_Y_advert_L177 {X : tv_X} {r : tm_S} (hC : tv_K X tb_Y_advert 4 "TrickleMeshModel" tm_wg tm_ns tm_cl tm_ty { frames := 5, cells := 0, slots := 0, locals := 118 }) (hr : tv_ret X none) (hE : tv_end X (tm_P none r) 0 0) (σ : tm_S) (l1 : Int32)  (hf : f_Y_advert_L177 σ l1 = some r) : V X 0 0 tm_n (hp σ) 177 [some (.ref 130), some (.int l1), none, none] [] := by
  unfold f_Y_advert_L177 at hf
  refine V.blk hC [(.iconst 0, 1)] 177 [some (.ref 130), some (.int l1), none, none] [] ⟨d_Y_advert_177, trivial⟩ (show tv_run _ _ _ _ = some (178, [some (.ref 130), some (.int l1), none, none], [.int (0 : Int32)]) from rfl) ?_
  exact V.less (tv_le_some (tv_le_some (tv_le_none (tv_le_none tv_le_nil)))) (c_Y_advert_L178 hC hr hE σ l1 (0 : Int32)  hf)
set_option maxHeartbeats 4000000 in
set_option maxRecDepth 100000 in
theorem c_Y_advert_L132 {X : tv_X} {r : tm_S} (hC : tv_K X tb_Y_advert 4 "TrickleMeshModel" tm_wg tm_ns tm_cl tm_ty { frames := 5, cells := 0, slots := 0, locals := 118 }) (hr : tv_ret X none) (hE : tv_end X (tm_P none r) 0 0) (σ : tm_S) (l1 : Int32) (l2 : Int32)  (hf : f_Y_advert_L132 σ l1 l2 = some r) : V X 0 0 tm_n (hp σ) 132 [some (.ref 130), some (.int l1), some (.int l2), none] [] := by
  unfold f_Y_advert_L132 at hf
  refine V.blk hC [(.aload_n 0, 1)] 132 [some (.ref 130), some (.int l1), some (.int l2), none] [] ⟨d_Y_advert_132, trivial⟩ (show tv_run _ _ _ _ = some (133, [some (.ref 130), some (.int l1), some (.int l2), none], [.ref 130]) from rfl) ?_
  refine V.getf hC tf_Y_13 (kd_in kd_130 (by decide)) (hp_at kd_130) rfl d_Y_advert_133 ?_
  show V X 0 0 tm_n (hp σ) 136 [some (.ref 130), some (.int l1), some (.int l2), none] [.ref 132]
  refine V.blk hC [(.bipush 7, 2), (.iload_n 1, 1), (.imul, 1), (.iload_n 2, 1), (.iadd, 1), (.aload_n 0, 1)] 136 [some (.ref 130), some (.int l1), some (.int l2), none] [.ref 132] ⟨d_Y_advert_136, d_Y_advert_138, d_Y_advert_139, d_Y_advert_140, d_Y_advert_141, d_Y_advert_142, trivial⟩ (show tv_run _ _ _ _ = some (143, [some (.ref 130), some (.int l1), some (.int l2), none], [.ref 130, .int (((7 : Int32) * l1) + l2), .ref 132]) from rfl) ?_
  refine V.getf hC tf_Y_35 (kd_in kd_130 (by decide)) (hp_at kd_130) rfl d_Y_advert_143 ?_
  show V X 0 0 tm_n (hp σ) 146 [some (.ref 130), some (.int l1), some (.int l2), none] [.ref 139, .int (((7 : Int32) * l1) + l2), .ref 132]
  refine V.blk hC [(.iload_n 2, 1)] 146 [some (.ref 130), some (.int l1), some (.int l2), none] [.ref 139, .int (((7 : Int32) * l1) + l2), .ref 132] ⟨d_Y_advert_146, trivial⟩ (show tv_run _ _ _ _ = some (147, [some (.ref 130), some (.int l1), some (.int l2), none], [.int l2, .ref 139, .int (((7 : Int32) * l1) + l2), .ref 132]) from rfl) ?_
  obtain ⟨hb15, hf⟩ := tm_if hf
  refine V.iald hC (kd_in kd_139 (by decide)) (hp_at kd_139) rfl hb15 d_Y_advert_147 ?_
  show V X 0 0 tm_n (hp σ) 148 [some (.ref 130), some (.int l1), some (.int l2), none] [.int (σ.1 139 l2.toNatClampNeg), .int (((7 : Int32) * l1) + l2), .ref 132]
  obtain ⟨hb16, hf⟩ := tm_if hf
  obtain ⟨σ17, hσ17, hf⟩ := tm_ww hf
  refine V.seta hC kd_132 (kd_in kd_132 (by decide)) rfl rfl rfl hb16 d_Y_advert_148 ?_
  rw [← hσ17]
  refine V.blk hC [(.aload_n 0, 1)] 149 [some (.ref 130), some (.int l1), some (.int l2), none] [] ⟨d_Y_advert_149, trivial⟩ (show tv_run _ _ _ _ = some (150, [some (.ref 130), some (.int l1), some (.int l2), none], [.ref 130]) from rfl) ?_
  refine V.getf hC tf_Y_16 (kd_in kd_130 (by decide)) (hp_at kd_130) rfl d_Y_advert_150 ?_
  show V X 0 0 tm_n (hp σ17) 153 [some (.ref 130), some (.int l1), some (.int l2), none] [.ref 133]
  refine V.blk hC [(.bipush 7, 2), (.iload_n 1, 1), (.imul, 1), (.iload_n 2, 1), (.iadd, 1), (.iconst 1, 1)] 153 [some (.ref 130), some (.int l1), some (.int l2), none] [.ref 133] ⟨d_Y_advert_153, d_Y_advert_155, d_Y_advert_156, d_Y_advert_157, d_Y_advert_158, d_Y_advert_159, trivial⟩ (show tv_run _ _ _ _ = some (160, [some (.ref 130), some (.int l1), some (.int l2), none], [.int (1 : Int32), .int (((7 : Int32) * l1) + l2), .ref 133]) from rfl) ?_
  obtain ⟨hb18, hf⟩ := tm_if hf
  obtain ⟨σ19, hσ19, hf⟩ := tm_ww hf
  refine V.setz hC kd_133 (kd_in kd_133 (by decide)) rfl rfl rfl hb18 (by decide) d_Y_advert_160 ?_
  rw [← hσ19]
  refine V.blk hC [(.iload_n 1, 1)] 161 [some (.ref 130), some (.int l1), some (.int l2), none] [] ⟨d_Y_advert_161, trivial⟩ (show tv_run _ _ _ _ = some (162, [some (.ref 130), some (.int l1), some (.int l2), none], [.int l1]) from rfl) ?_
  refine V.if_eq hC d_Y_advert_162 (tgt := 177) (by decide) (fun hc => ?_) (fun hc => ?_)
  · rw [if_pos hc] at hf
    exact V.less (tv_le_some (tv_le_some (tv_le_none (tv_le_none tv_le_nil)))) (c_Y_advert_L177 hC hr hE σ19 l1  hf)
  · rw [if_neg hc] at hf
    refine V.blk hC [(.aload_n 0, 1), (.iload_n 1, 1)] 165 [some (.ref 130), some (.int l1), some (.int l2), none] [] ⟨d_Y_advert_165, d_Y_advert_166, trivial⟩ (show tv_run _ _ _ _ = some (167, [some (.ref 130), some (.int l1), some (.int l2), none], [.int l1, .ref 130]) from rfl) ?_
    obtain ⟨q20, hq20, hf⟩ := tm_bd hf
    refine V.callV hC tm_nest rfl (c_Y_choose σ19 l1  hq20) (tm_gd tc_Y_choose) tg_Y_171 th_Y_choose ⟨tm_le rfl, tm_le rfl, tm_le rfl, tm_le rfl⟩ rfl (kd_in kd_130 (by decide)) (hp_at kd_130) (As := [.int l1]) (st := []) rfl (tm_le rfl) d_Y_advert_167 ?_
    rintro v n2 h2 ⟨rfl, rfl, rfl⟩
    show V X 0 0 tm_n (hp q20.2) 170 [some (.ref 130), some (.int l1), some (.int l2), none] [.int q20.1]
    refine V.if_eq hC d_Y_advert_170 (tgt := 177) (by decide) (fun hc => ?_) (fun hc => ?_)
    · rw [if_pos hc] at hf
      exact V.less (tv_le_some (tv_le_some (tv_le_none (tv_le_none tv_le_nil)))) (c_Y_advert_L177 hC hr hE q20.2 l1  hf)
    · rw [if_neg hc] at hf
      refine V.blk hC [(.iconst 1, 1)] 173 [some (.ref 130), some (.int l1), some (.int l2), none] [] ⟨d_Y_advert_173, trivial⟩ (show tv_run _ _ _ _ = some (174, [some (.ref 130), some (.int l1), some (.int l2), none], [.int (1 : Int32)]) from rfl) ?_
      refine V.goto hC d_Y_advert_174 (tgt := 178) (by decide) ?_
      exact V.less (tv_le_some (tv_le_some (tv_le_none (tv_le_none tv_le_nil)))) (c_Y_advert_L178 hC hr hE q20.2 l1 (1 : Int32)  hf)
set_option maxHeartbeats 4000000 in
set_option maxRecDepth 100000 in
theorem c_Y_advert_L87 {X : tv_X} {r : tm_S} (hC : tv_K X tb_Y_advert 4 "TrickleMeshModel" tm_wg tm_ns tm_cl tm_ty { frames := 5, cells := 0, slots := 0, locals := 118 }) (hr : tv_ret X none) (hE : tv_end X (tm_P none r) 0 0) (σ : tm_S) (l1 : Int32) (l2 : Int32)  (hf : f_Y_advert_L87 σ l1 l2 = some r) : V X 0 0 tm_n (hp σ) 87 [some (.ref 130), some (.int l1), some (.int l2), none] [] := by
  unfold f_Y_advert_L87 at hf
  refine V.blk hC [(.aload_n 0, 1)] 87 [some (.ref 130), some (.int l1), some (.int l2), none] [] ⟨d_Y_advert_87, trivial⟩ (show tv_run _ _ _ _ = some (88, [some (.ref 130), some (.int l1), some (.int l2), none], [.ref 130]) from rfl) ?_
  refine V.getf hC tf_Y_35 (kd_in kd_130 (by decide)) (hp_at kd_130) rfl d_Y_advert_88 ?_
  show V X 0 0 tm_n (hp σ) 91 [some (.ref 130), some (.int l1), some (.int l2), none] [.ref 139]
  refine V.blk hC [(.iload_n 1, 1), (.sipush 255, 3)] 91 [some (.ref 130), some (.int l1), some (.int l2), none] [.ref 139] ⟨d_Y_advert_91, d_Y_advert_92, trivial⟩ (show tv_run _ _ _ _ = some (95, [some (.ref 130), some (.int l1), some (.int l2), none], [.int (255 : Int32), .int l1, .ref 139]) from rfl) ?_
  obtain ⟨hb21, hf⟩ := tm_if hf
  obtain ⟨σ22, hσ22, hf⟩ := tm_ww hf
  refine V.seta hC kd_139 (kd_in kd_139 (by decide)) rfl rfl rfl hb21 d_Y_advert_95 ?_
  rw [← hσ22]
  refine V.blk hC [(.aload_n 0, 1)] 96 [some (.ref 130), some (.int l1), some (.int l2), none] [] ⟨d_Y_advert_96, trivial⟩ (show tv_run _ _ _ _ = some (97, [some (.ref 130), some (.int l1), some (.int l2), none], [.ref 130]) from rfl) ?_
  refine V.getf hC tf_Y_38 (kd_in kd_130 (by decide)) (hp_at kd_130) rfl d_Y_advert_97 ?_
  show V X 0 0 tm_n (hp σ22) 100 [some (.ref 130), some (.int l1), some (.int l2), none] [.ref 140]
  refine V.blk hC [(.iload_n 1, 1), (.iconst (-1), 1)] 100 [some (.ref 130), some (.int l1), some (.int l2), none] [.ref 140] ⟨d_Y_advert_100, d_Y_advert_101, trivial⟩ (show tv_run _ _ _ _ = some (102, [some (.ref 130), some (.int l1), some (.int l2), none], [.int (-1 : Int32), .int l1, .ref 140]) from rfl) ?_
  obtain ⟨hb23, hf⟩ := tm_if hf
  obtain ⟨σ24, hσ24, hf⟩ := tm_ww hf
  refine V.seta hC kd_140 (kd_in kd_140 (by decide)) rfl rfl rfl hb23 d_Y_advert_102 ?_
  rw [← hσ24]
  refine V.blk hC [(.aload_n 0, 1), (.iload_n 1, 1)] 103 [some (.ref 130), some (.int l1), some (.int l2), none] [] ⟨d_Y_advert_103, d_Y_advert_104, trivial⟩ (show tv_run _ _ _ _ = some (105, [some (.ref 130), some (.int l1), some (.int l2), none], [.int l1, .ref 130]) from rfl) ?_
  obtain ⟨q25, hq25, hf⟩ := tm_bd hf
  refine V.callV hC tm_nest rfl (c_Y_reset σ24 l1  hq25) (tm_gd tc_Y_reset) tg_Y_150 th_Y_reset ⟨tm_le rfl, tm_le rfl, tm_le rfl, tm_le rfl⟩ rfl (kd_in kd_130 (by decide)) (hp_at kd_130) (As := [.int l1]) (st := []) rfl (tm_le rfl) d_Y_advert_105 ?_
  rintro v n2 h2 ⟨rfl, rfl, rfl⟩
  show V X 0 0 tm_n (hp q25) 108 [some (.ref 130), some (.int l1), some (.int l2), none] []
  refine V.goto hC d_Y_advert_108 (tgt := 132) (by decide) ?_
  exact V.less (tv_le_some (tv_le_some (tv_le_some (tv_le_none tv_le_nil)))) (c_Y_advert_L132 hC hr hE q25 l1 l2  hf)
set_option maxHeartbeats 4000000 in
set_option maxRecDepth 100000 in
theorem c_Y_advert_L33 {X : tv_X} {r : tm_S} (hC : tv_K X tb_Y_advert 4 "TrickleMeshModel" tm_wg tm_ns tm_cl tm_ty { frames := 5, cells := 0, slots := 0, locals := 118 }) (hr : tv_ret X none) (hE : tv_end X (tm_P none r) 0 0) : ∀ (k : Nat) (σ : tm_S) (l1 : Int32) (l2 : Int32) (l3 : Int32), f_Y_advert_L33 k σ l1 l2 l3 = some r → V X 0 0 tm_n (hp σ) 33 [some (.ref 130), some (.int l1), some (.int l2), some (.int l3)] [] := by
  intro k
  induction k with
  | zero => intro σ l1 l2 l3  hf; simp only [f_Y_advert_L33] at hf; cases hf
  | succ k hrc =>
    intro σ l1 l2 l3  hf
    rw [f_Y_advert_L33] at hf
    refine V.blk hC [(.iload_n 3, 1), (.bipush 7, 2)] 33 [some (.ref 130), some (.int l1), some (.int l2), some (.int l3)] [] ⟨d_Y_advert_33, d_Y_advert_34, trivial⟩ (show tv_run _ _ _ _ = some (36, [some (.ref 130), some (.int l1), some (.int l2), some (.int l3)], [.int (7 : Int32), .int l3]) from rfl) ?_
    refine V.icmp_ge hC d_Y_advert_36 (tgt := 57) (by decide) (fun hc => ?_) (fun hc => ?_)
    · rw [if_pos hc] at hf
      refine V.blk hC [(.aload_n 0, 1)] 57 [some (.ref 130), some (.int l1), some (.int l2), some (.int l3)] [] ⟨d_Y_advert_57, trivial⟩ (show tv_run _ _ _ _ = some (58, [some (.ref 130), some (.int l1), some (.int l2), some (.int l3)], [.ref 130]) from rfl) ?_
      refine V.getf hC tf_Y_41 (kd_in kd_130 (by decide)) (hp_at kd_130) rfl d_Y_advert_58 ?_
      show V X 0 0 tm_n (hp σ) 61 [some (.ref 130), some (.int l1), some (.int l2), some (.int l3)] [.ref 141]
      refine V.blk hC [(.iload_n 1, 1), (.sipush 255, 3)] 61 [some (.ref 130), some (.int l1), some (.int l2), some (.int l3)] [.ref 141] ⟨d_Y_advert_61, d_Y_advert_62, trivial⟩ (show tv_run _ _ _ _ = some (65, [some (.ref 130), some (.int l1), some (.int l2), some (.int l3)], [.int (255 : Int32), .int l1, .ref 141]) from rfl) ?_
      obtain ⟨hb9, hf⟩ := tm_if hf
      obtain ⟨σ10, hσ10, hf⟩ := tm_ww hf
      refine V.seta hC kd_141 (kd_in kd_141 (by decide)) rfl rfl rfl hb9 d_Y_advert_65 ?_
      rw [← hσ10]
      refine V.blk hC [(.aload_n 0, 1)] 66 [some (.ref 130), some (.int l1), some (.int l2), some (.int l3)] [] ⟨d_Y_advert_66, trivial⟩ (show tv_run _ _ _ _ = some (67, [some (.ref 130), some (.int l1), some (.int l2), some (.int l3)], [.ref 130]) from rfl) ?_
      refine V.getf hC tf_Y_38 (kd_in kd_130 (by decide)) (hp_at kd_130) rfl d_Y_advert_67 ?_
      show V X 0 0 tm_n (hp σ10) 70 [some (.ref 130), some (.int l1), some (.int l2), some (.int l3)] [.ref 140]
      refine V.blk hC [(.iload_n 1, 1)] 70 [some (.ref 130), some (.int l1), some (.int l2), some (.int l3)] [.ref 140] ⟨d_Y_advert_70, trivial⟩ (show tv_run _ _ _ _ = some (71, [some (.ref 130), some (.int l1), some (.int l2), some (.int l3)], [.int l1, .ref 140]) from rfl) ?_
      obtain ⟨hb11, hf⟩ := tm_if hf
      refine V.iald hC (kd_in kd_140 (by decide)) (hp_at kd_140) rfl hb11 d_Y_advert_71 ?_
      show V X 0 0 tm_n (hp σ10) 72 [some (.ref 130), some (.int l1), some (.int l2), some (.int l3)] [.int (σ10.1 140 l1.toNatClampNeg)]
      refine V.if_ge hC d_Y_advert_72 (tgt := 87) (by decide) (fun hc => ?_) (fun hc => ?_)
      · rw [if_pos hc] at hf
        exact V.less (tv_le_some (tv_le_some (tv_le_some (tv_le_none tv_le_nil)))) (c_Y_advert_L87 hC hr hE σ10 l1 l2  hf)
      · rw [if_neg hc] at hf
        refine V.blk hC [(.aload_n 0, 1)] 75 [some (.ref 130), some (.int l1), some (.int l2), some (.int l3)] [] ⟨d_Y_advert_75, trivial⟩ (show tv_run _ _ _ _ = some (76, [some (.ref 130), some (.int l1), some (.int l2), some (.int l3)], [.ref 130]) from rfl) ?_
        refine V.getf hC tf_Y_35 (kd_in kd_130 (by decide)) (hp_at kd_130) rfl d_Y_advert_76 ?_
        show V X 0 0 tm_n (hp σ10) 79 [some (.ref 130), some (.int l1), some (.int l2), some (.int l3)] [.ref 139]
        refine V.blk hC [(.iload_n 1, 1)] 79 [some (.ref 130), some (.int l1), some (.int l2), some (.int l3)] [.ref 139] ⟨d_Y_advert_79, trivial⟩ (show tv_run _ _ _ _ = some (80, [some (.ref 130), some (.int l1), some (.int l2), some (.int l3)], [.int l1, .ref 139]) from rfl) ?_
        obtain ⟨hb12, hf⟩ := tm_if hf
        refine V.iald hC (kd_in kd_139 (by decide)) (hp_at kd_139) rfl hb12 d_Y_advert_80 ?_
        show V X 0 0 tm_n (hp σ10) 81 [some (.ref 130), some (.int l1), some (.int l2), some (.int l3)] [.int (σ10.1 139 l1.toNatClampNeg)]
        refine V.blk hC [(.sipush 255, 3)] 81 [some (.ref 130), some (.int l1), some (.int l2), some (.int l3)] [.int (σ10.1 139 l1.toNatClampNeg)] ⟨d_Y_advert_81, trivial⟩ (show tv_run _ _ _ _ = some (84, [some (.ref 130), some (.int l1), some (.int l2), some (.int l3)], [.int (255 : Int32), .int (σ10.1 139 l1.toNatClampNeg)]) from rfl) ?_
        refine V.icmp_eq hC d_Y_advert_84 (tgt := 132) (by decide) (fun hc => ?_) (fun hc => ?_)
        · rw [if_pos hc] at hf
          exact V.less (tv_le_some (tv_le_some (tv_le_some (tv_le_none tv_le_nil)))) (c_Y_advert_L132 hC hr hE σ10 l1 l2  hf)
        · rw [if_neg hc] at hf
          exact V.less (tv_le_some (tv_le_some (tv_le_some (tv_le_none tv_le_nil)))) (c_Y_advert_L87 hC hr hE σ10 l1 l2  hf)
    · rw [if_neg hc] at hf
      refine V.blk hC [(.aload_n 0, 1)] 39 [some (.ref 130), some (.int l1), some (.int l2), some (.int l3)] [] ⟨d_Y_advert_39, trivial⟩ (show tv_run _ _ _ _ = some (40, [some (.ref 130), some (.int l1), some (.int l2), some (.int l3)], [.ref 130]) from rfl) ?_
      refine V.getf hC tf_Y_16 (kd_in kd_130 (by decide)) (hp_at kd_130) rfl d_Y_advert_40 ?_
      show V X 0 0 tm_n (hp σ) 43 [some (.ref 130), some (.int l1), some (.int l2), some (.int l3)] [.ref 133]
      refine V.blk hC [(.bipush 7, 2), (.iload_n 1, 1), (.imul, 1), (.iload_n 3, 1), (.iadd, 1), (.iconst 0, 1)] 43 [some (.ref 130), some (.int l1), some (.int l2), some (.int l3)] [.ref 133] ⟨d_Y_advert_43, d_Y_advert_45, d_Y_advert_46, d_Y_advert_47, d_Y_advert_48, d_Y_advert_49, trivial⟩ (show tv_run _ _ _ _ = some (50, [some (.ref 130), some (.int l1), some (.int l2), some (.int l3)], [.int (0 : Int32), .int (((7 : Int32) * l1) + l3), .ref 133]) from rfl) ?_
      obtain ⟨hb13, hf⟩ := tm_if hf
      obtain ⟨σ14, hσ14, hf⟩ := tm_ww hf
      refine V.setz hC kd_133 (kd_in kd_133 (by decide)) rfl rfl rfl hb13 (by decide) d_Y_advert_50 ?_
      rw [← hσ14]
      refine V.blk hC [(.iinc 3 1, 3)] 51 [some (.ref 130), some (.int l1), some (.int l2), some (.int l3)] [] ⟨d_Y_advert_51, trivial⟩ (show tv_run _ _ _ _ = some (54, [some (.ref 130), some (.int l1), some (.int l2), some (.int (l3 + (1 : Int32)))], []) from rfl) ?_
      refine V.goto hC d_Y_advert_54 (tgt := 33) (by decide) ?_
      exact V.less (tv_le_some (tv_le_some (tv_le_some (tv_le_some tv_le_nil)))) (hrc σ14 l1 l2 (l3 + (1 : Int32))  hf)
set_option maxHeartbeats 4000000 in
set_option maxRecDepth 100000 in
theorem c_Y_advert_L111 {X : tv_X} {r : tm_S} (hC : tv_K X tb_Y_advert 4 "TrickleMeshModel" tm_wg tm_ns tm_cl tm_ty { frames := 5, cells := 0, slots := 0, locals := 118 }) (hr : tv_ret X none) (hE : tv_end X (tm_P none r) 0 0) (σ : tm_S) (l1 : Int32) (l2 : Int32)  (hf : f_Y_advert_L111 σ l1 l2 = some r) : V X 0 0 tm_n (hp σ) 111 [some (.ref 130), some (.int l1), some (.int l2), none] [] := by
  unfold f_Y_advert_L111 at hf
  refine V.blk hC [(.aload_n 0, 1)] 111 [some (.ref 130), some (.int l1), some (.int l2), none] [] ⟨d_Y_advert_111, trivial⟩ (show tv_run _ _ _ _ = some (112, [some (.ref 130), some (.int l1), some (.int l2), none], [.ref 130]) from rfl) ?_
  refine V.getf hC tf_Y_32 (kd_in kd_130 (by decide)) (hp_at kd_130) rfl d_Y_advert_112 ?_
  show V X 0 0 tm_n (hp σ) 115 [some (.ref 130), some (.int l1), some (.int l2), none] [.ref 138]
  refine V.blk hC [(.iload_n 2, 1)] 115 [some (.ref 130), some (.int l1), some (.int l2), none] [.ref 138] ⟨d_Y_advert_115, trivial⟩ (show tv_run _ _ _ _ = some (116, [some (.ref 130), some (.int l1), some (.int l2), none], [.int l2, .ref 138]) from rfl) ?_
  obtain ⟨hb6, hf⟩ := tm_if hf
  refine V.iald hC (kd_in kd_138 (by decide)) (hp_at kd_138) rfl hb6 d_Y_advert_116 ?_
  show V X 0 0 tm_n (hp σ) 117 [some (.ref 130), some (.int l1), some (.int l2), none] [.int (σ.1 138 l2.toNatClampNeg)]
  refine V.blk hC [(.aload_n 0, 1)] 117 [some (.ref 130), some (.int l1), some (.int l2), none] [.int (σ.1 138 l2.toNatClampNeg)] ⟨d_Y_advert_117, trivial⟩ (show tv_run _ _ _ _ = some (118, [some (.ref 130), some (.int l1), some (.int l2), none], [.ref 130, .int (σ.1 138 l2.toNatClampNeg)]) from rfl) ?_
  refine V.getf hC tf_Y_32 (kd_in kd_130 (by decide)) (hp_at kd_130) rfl d_Y_advert_118 ?_
  show V X 0 0 tm_n (hp σ) 121 [some (.ref 130), some (.int l1), some (.int l2), none] [.ref 138, .int (σ.1 138 l2.toNatClampNeg)]
  refine V.blk hC [(.iload_n 1, 1)] 121 [some (.ref 130), some (.int l1), some (.int l2), none] [.ref 138, .int (σ.1 138 l2.toNatClampNeg)] ⟨d_Y_advert_121, trivial⟩ (show tv_run _ _ _ _ = some (122, [some (.ref 130), some (.int l1), some (.int l2), none], [.int l1, .ref 138, .int (σ.1 138 l2.toNatClampNeg)]) from rfl) ?_
  obtain ⟨hb7, hf⟩ := tm_if hf
  refine V.iald hC (kd_in kd_138 (by decide)) (hp_at kd_138) rfl hb7 d_Y_advert_122 ?_
  show V X 0 0 tm_n (hp σ) 123 [some (.ref 130), some (.int l1), some (.int l2), none] [.int (σ.1 138 l1.toNatClampNeg), .int (σ.1 138 l2.toNatClampNeg)]
  refine V.icmp_ge hC d_Y_advert_123 (tgt := 132) (by decide) (fun hc => ?_) (fun hc => ?_)
  · rw [if_pos hc] at hf
    exact V.less (tv_le_some (tv_le_some (tv_le_some (tv_le_none tv_le_nil)))) (c_Y_advert_L132 hC hr hE σ l1 l2  hf)
  · rw [if_neg hc] at hf
    refine V.blk hC [(.aload_n 0, 1), (.iload_n 1, 1)] 126 [some (.ref 130), some (.int l1), some (.int l2), none] [] ⟨d_Y_advert_126, d_Y_advert_127, trivial⟩ (show tv_run _ _ _ _ = some (128, [some (.ref 130), some (.int l1), some (.int l2), none], [.int l1, .ref 130]) from rfl) ?_
    obtain ⟨q8, hq8, hf⟩ := tm_bd hf
    refine V.callV hC tm_nest rfl (c_Y_reset σ l1  hq8) (tm_gd tc_Y_reset) tg_Y_150 th_Y_reset ⟨tm_le rfl, tm_le rfl, tm_le rfl, tm_le rfl⟩ rfl (kd_in kd_130 (by decide)) (hp_at kd_130) (As := [.int l1]) (st := []) rfl (tm_le rfl) d_Y_advert_128 ?_
    rintro v n2 h2 ⟨rfl, rfl, rfl⟩
    show V X 0 0 tm_n (hp q8) 131 [some (.ref 130), some (.int l1), some (.int l2), none] []
    obtain rfl := Option.some.inj hf
    exact V.vret hC hr hE d_Y_advert_131 ⟨rfl, rfl, rfl⟩
set_option maxHeartbeats 4000000 in
set_option maxRecDepth 100000 in
theorem c_Y_advert (σ : tm_S) (a1 : Int32) (a2 : Int32)  {r : tm_S} (hf : f_Y_advert σ a1 a2 = some r) : tv_Met ty_Y_advert (Cond.code ty_Y_advert tb_Y_advert 4 none :: tm_wg) tm_ns tm_cl tm_ty 5 118 0 0 [.ref 130, .int a1, .int a2] tm_n (hp σ) (tm_P none r) := by
  refine tv_Met.of (by decide) rfl (tm_le rfl) ?_
  intro X hC hnm hr hE
  have hC : tv_K X tb_Y_advert 4 "TrickleMeshModel" tm_wg tm_ns tm_cl tm_ty { frames := 5, cells := 0, slots := 0, locals := 118 } := hC
  show V X 0 0 tm_n (hp σ) 0 [some (.ref 130), some (.int a1), some (.int a2), none] []
  unfold f_Y_advert at hf
  refine V.blk hC [(.aload_n 0, 1)] 0 [some (.ref 130), some (.int a1), some (.int a2), none] [] ⟨d_Y_advert_0, trivial⟩ (show tv_run _ _ _ _ = some (1, [some (.ref 130), some (.int a1), some (.int a2), none], [.ref 130]) from rfl) ?_
  refine V.getf hC tf_Y_32 (kd_in kd_130 (by decide)) (hp_at kd_130) rfl d_Y_advert_1 ?_
  show V X 0 0 tm_n (hp σ) 4 [some (.ref 130), some (.int a1), some (.int a2), none] [.ref 138]
  refine V.blk hC [(.iload_n 2, 1)] 4 [some (.ref 130), some (.int a1), some (.int a2), none] [.ref 138] ⟨d_Y_advert_4, trivial⟩ (show tv_run _ _ _ _ = some (5, [some (.ref 130), some (.int a1), some (.int a2), none], [.int a2, .ref 138]) from rfl) ?_
  obtain ⟨hb1, hf⟩ := tm_if hf
  refine V.iald hC (kd_in kd_138 (by decide)) (hp_at kd_138) rfl hb1 d_Y_advert_5 ?_
  show V X 0 0 tm_n (hp σ) 6 [some (.ref 130), some (.int a1), some (.int a2), none] [.int (σ.1 138 a2.toNatClampNeg)]
  refine V.blk hC [(.aload_n 0, 1)] 6 [some (.ref 130), some (.int a1), some (.int a2), none] [.int (σ.1 138 a2.toNatClampNeg)] ⟨d_Y_advert_6, trivial⟩ (show tv_run _ _ _ _ = some (7, [some (.ref 130), some (.int a1), some (.int a2), none], [.ref 130, .int (σ.1 138 a2.toNatClampNeg)]) from rfl) ?_
  refine V.getf hC tf_Y_32 (kd_in kd_130 (by decide)) (hp_at kd_130) rfl d_Y_advert_7 ?_
  show V X 0 0 tm_n (hp σ) 10 [some (.ref 130), some (.int a1), some (.int a2), none] [.ref 138, .int (σ.1 138 a2.toNatClampNeg)]
  refine V.blk hC [(.iload_n 1, 1)] 10 [some (.ref 130), some (.int a1), some (.int a2), none] [.ref 138, .int (σ.1 138 a2.toNatClampNeg)] ⟨d_Y_advert_10, trivial⟩ (show tv_run _ _ _ _ = some (11, [some (.ref 130), some (.int a1), some (.int a2), none], [.int a1, .ref 138, .int (σ.1 138 a2.toNatClampNeg)]) from rfl) ?_
  obtain ⟨hb2, hf⟩ := tm_if hf
  refine V.iald hC (kd_in kd_138 (by decide)) (hp_at kd_138) rfl hb2 d_Y_advert_11 ?_
  show V X 0 0 tm_n (hp σ) 12 [some (.ref 130), some (.int a1), some (.int a2), none] [.int (σ.1 138 a1.toNatClampNeg), .int (σ.1 138 a2.toNatClampNeg)]
  refine V.icmp_le hC d_Y_advert_12 (tgt := 111) (by decide) (fun hc => ?_) (fun hc => ?_)
  · rw [if_pos hc] at hf
    exact V.less (tv_le_some (tv_le_some (tv_le_some (tv_le_none tv_le_nil)))) (c_Y_advert_L111 hC hr hE σ a1 a2  hf)
  · rw [if_neg hc] at hf
    refine V.blk hC [(.iload_n 1, 1)] 15 [some (.ref 130), some (.int a1), some (.int a2), none] [] ⟨d_Y_advert_15, trivial⟩ (show tv_run _ _ _ _ = some (16, [some (.ref 130), some (.int a1), some (.int a2), none], [.int a1]) from rfl) ?_
    refine V.if_eq hC d_Y_advert_16 (tgt := 111) (by decide) (fun hc => ?_) (fun hc => ?_)
    · rw [if_pos hc] at hf
      exact V.less (tv_le_some (tv_le_some (tv_le_some (tv_le_none tv_le_nil)))) (c_Y_advert_L111 hC hr hE σ a1 a2  hf)
    · rw [if_neg hc] at hf
      refine V.blk hC [(.aload_n 0, 1)] 19 [some (.ref 130), some (.int a1), some (.int a2), none] [] ⟨d_Y_advert_19, trivial⟩ (show tv_run _ _ _ _ = some (20, [some (.ref 130), some (.int a1), some (.int a2), none], [.ref 130]) from rfl) ?_
      refine V.getf hC tf_Y_32 (kd_in kd_130 (by decide)) (hp_at kd_130) rfl d_Y_advert_20 ?_
      show V X 0 0 tm_n (hp σ) 23 [some (.ref 130), some (.int a1), some (.int a2), none] [.ref 138]
      refine V.blk hC [(.iload_n 1, 1), (.aload_n 0, 1)] 23 [some (.ref 130), some (.int a1), some (.int a2), none] [.ref 138] ⟨d_Y_advert_23, d_Y_advert_24, trivial⟩ (show tv_run _ _ _ _ = some (25, [some (.ref 130), some (.int a1), some (.int a2), none], [.ref 130, .int a1, .ref 138]) from rfl) ?_
      refine V.getf hC tf_Y_32 (kd_in kd_130 (by decide)) (hp_at kd_130) rfl d_Y_advert_25 ?_
      show V X 0 0 tm_n (hp σ) 28 [some (.ref 130), some (.int a1), some (.int a2), none] [.ref 138, .int a1, .ref 138]
      refine V.blk hC [(.iload_n 2, 1)] 28 [some (.ref 130), some (.int a1), some (.int a2), none] [.ref 138, .int a1, .ref 138] ⟨d_Y_advert_28, trivial⟩ (show tv_run _ _ _ _ = some (29, [some (.ref 130), some (.int a1), some (.int a2), none], [.int a2, .ref 138, .int a1, .ref 138]) from rfl) ?_
      obtain ⟨hb3, hf⟩ := tm_if hf
      refine V.iald hC (kd_in kd_138 (by decide)) (hp_at kd_138) rfl hb3 d_Y_advert_29 ?_
      show V X 0 0 tm_n (hp σ) 30 [some (.ref 130), some (.int a1), some (.int a2), none] [.int (σ.1 138 a2.toNatClampNeg), .int a1, .ref 138]
      obtain ⟨hb4, hf⟩ := tm_if hf
      obtain ⟨σ5, hσ5, hf⟩ := tm_ww hf
      refine V.seta hC kd_138 (kd_in kd_138 (by decide)) rfl rfl rfl hb4 d_Y_advert_30 ?_
      rw [← hσ5]
      refine V.blk hC [(.iconst 0, 1), (.istore_n 3, 1)] 31 [some (.ref 130), some (.int a1), some (.int a2), none] [] ⟨d_Y_advert_31, d_Y_advert_32, trivial⟩ (show tv_run _ _ _ _ = some (33, [some (.ref 130), some (.int a1), some (.int a2), some (.int (0 : Int32))], []) from rfl) ?_
      exact V.less (tv_le_some (tv_le_some (tv_le_some (tv_le_some tv_le_nil)))) (c_Y_advert_L33 hC hr hE tm_fu σ5 a1 a2 (0 : Int32)  hf)
set_option maxHeartbeats 4000000 in
set_option maxRecDepth 100000 in
theorem c_Y_announced_L201 {X : tv_X} {r : tm_S} (hC : tv_K X tb_Y_announced 10 "TrickleMeshModel" tm_wg tm_ns tm_cl tm_ty { frames := 4, cells := 0, slots := 0, locals := 90 }) (hr : tv_ret X none) (hE : tv_end X (tm_P none r) 0 0) {rc : tm_S → Int32 → Int32 → Int32 → Int32 → Int32 → Option (tm_S)} (hrc : ∀ (σ : tm_S) (l1 : Int32) (l2 : Int32) (l3 : Int32) (l4 : Int32) (l5 : Int32), rc σ l1 l2 l3 l4 l5 = some r → V X 0 0 tm_n (hp σ) 6 [some (.ref 130), some (.int l1), some (.int l2), some (.int l3), some (.int l4), some (.int l5), none, none, none, none] []) (σ : tm_S) (l1 : Int32) (l2 : Int32) (l3 : Int32) (l4 : Int32) (l5 : Int32)  (hf : f_Y_announced_L201 rc σ l1 l2 l3 l4 l5 = some r) : V X 0 0 tm_n (hp σ) 201 [some (.ref 130), some (.int l1), some (.int l2), some (.int l3), some (.int l4), some (.int l5), none, none, none, none] [] := by
  unfold f_Y_announced_L201 at hf
  refine V.blk hC [(.iinc 5 1, 3)] 201 [some (.ref 130), some (.int l1), some (.int l2), some (.int l3), some (.int l4), some (.int l5), none, none, none, none] [] ⟨d_Y_announced_201, trivial⟩ (show tv_run _ _ _ _ = some (204, [some (.ref 130), some (.int l1), some (.int l2), some (.int l3), some (.int l4), some (.int (l5 + (1 : Int32))), none, none, none, none], []) from rfl) ?_
  refine V.goto hC d_Y_announced_204 (tgt := 6) (by decide) ?_
  exact V.less (tv_le_some (tv_le_some (tv_le_some (tv_le_some (tv_le_some (tv_le_some (tv_le_none (tv_le_none (tv_le_none (tv_le_none tv_le_nil)))))))))) (hrc σ l1 l2 l3 l4 (l5 + (1 : Int32))  hf)
set_option maxHeartbeats 4000000 in
set_option maxRecDepth 100000 in
theorem c_Y_announced_L171 {X : tv_X} {r : tm_S} (hC : tv_K X tb_Y_announced 10 "TrickleMeshModel" tm_wg tm_ns tm_cl tm_ty { frames := 4, cells := 0, slots := 0, locals := 90 }) (hr : tv_ret X none) (hE : tv_end X (tm_P none r) 0 0) {rc : tm_S → Int32 → Int32 → Int32 → Int32 → Int32 → Option (tm_S)} (hrc : ∀ (σ : tm_S) (l1 : Int32) (l2 : Int32) (l3 : Int32) (l4 : Int32) (l5 : Int32), rc σ l1 l2 l3 l4 l5 = some r → V X 0 0 tm_n (hp σ) 6 [some (.ref 130), some (.int l1), some (.int l2), some (.int l3), some (.int l4), some (.int l5), none, none, none, none] []) (σ : tm_S) (l1 : Int32) (l2 : Int32) (l3 : Int32) (l5 : Int32) (l6 : Int32) (l9 : Int32) (s0 : Int32)  (hf : f_Y_announced_L171 rc σ l1 l2 l3 l5 l6 l9 s0 = some r) : V X 0 0 tm_n (hp σ) 171 [some (.ref 130), some (.int l1), some (.int l2), some (.int l3), none, some (.int l5), some (.int l6), none, none, some (.int l9)] [.int s0] := by
  unfold f_Y_announced_L171 at hf
  refine V.blk hC [(.istore 4, 2), (.aload_n 0, 1)] 171 [some (.ref 130), some (.int l1), some (.int l2), some (.int l3), none, some (.int l5), some (.int l6), none, none, some (.int l9)] [.int s0] ⟨d_Y_announced_171, d_Y_announced_173, trivial⟩ (show tv_run _ _ _ _ = some (174, [some (.ref 130), some (.int l1), some (.int l2), some (.int l3), some (.int s0), some (.int l5), some (.int l6), none, none, some (.int l9)], [.ref 130]) from rfl) ?_
  refine V.getf hC tf_Y_20 (kd_in kd_130 (by decide)) (hp_at kd_130) rfl d_Y_announced_174 ?_
  show V X 0 0 tm_n (hp σ) 177 [some (.ref 130), some (.int l1), some (.int l2), some (.int l3), some (.int s0), some (.int l5), some (.int l6), none, none, some (.int l9)] [.ref 134]
  refine V.blk hC [(.iload 6, 2), (.iload 9, 2)] 177 [some (.ref 130), some (.int l1), some (.int l2), some (.int l3), some (.int s0), some (.int l5), some (.int l6), none, none, some (.int l9)] [.ref 134] ⟨d_Y_announced_177, d_Y_announced_179, trivial⟩ (show tv_run _ _ _ _ = some (181, [some (.ref 130), some (.int l1), some (.int l2), some (.int l3), some (.int s0), some (.int l5), some (.int l6), none, none, some (.int l9)], [.int l9, .int l6, .ref 134]) from rfl) ?_
  obtain ⟨hb14, hf⟩ := tm_if hf
  obtain ⟨σ15, hσ15, hf⟩ := tm_ww hf
  refine V.seta hC kd_134 (kd_in kd_134 (by decide)) rfl rfl rfl hb14 d_Y_announced_181 ?_
  rw [← hσ15]
  refine V.blk hC [(.aload_n 0, 1)] 182 [some (.ref 130), some (.int l1), some (.int l2), some (.int l3), some (.int s0), some (.int l5), some (.int l6), none, none, some (.int l9)] [] ⟨d_Y_announced_182, trivial⟩ (show tv_run _ _ _ _ = some (183, [some (.ref 130), some (.int l1), some (.int l2), some (.int l3), some (.int s0), some (.int l5), some (.int l6), none, none, some (.int l9)], [.ref 130]) from rfl) ?_
  refine V.getf hC tf_Y_23 (kd_in kd_130 (by decide)) (hp_at kd_130) rfl d_Y_announced_183 ?_
  show V X 0 0 tm_n (hp σ15) 186 [some (.ref 130), some (.int l1), some (.int l2), some (.int l3), some (.int s0), some (.int l5), some (.int l6), none, none, some (.int l9)] [.ref 135]
  refine V.blk hC [(.iload 6, 2), (.aload_n 0, 1)] 186 [some (.ref 130), some (.int l1), some (.int l2), some (.int l3), some (.int s0), some (.int l5), some (.int l6), none, none, some (.int l9)] [.ref 135] ⟨d_Y_announced_186, d_Y_announced_188, trivial⟩ (show tv_run _ _ _ _ = some (189, [some (.ref 130), some (.int l1), some (.int l2), some (.int l3), some (.int s0), some (.int l5), some (.int l6), none, none, some (.int l9)], [.ref 130, .int l6, .ref 135]) from rfl) ?_
  refine V.getf hC tf_Y_95 (kd_in kd_130 (by decide)) (hp_at kd_130) rfl d_Y_announced_189 ?_
  show V X 0 0 tm_n (hp σ15) 192 [some (.ref 130), some (.int l1), some (.int l2), some (.int l3), some (.int s0), some (.int l5), some (.int l6), none, none, some (.int l9)] [.ref 159, .int l6, .ref 135]
  refine V.blk hC [(.bipush 7, 2), (.iload_n 3, 1), (.imul, 1), (.iload 5, 2), (.iadd, 1)] 192 [some (.ref 130), some (.int l1), some (.int l2), some (.int l3), some (.int s0), some (.int l5), some (.int l6), none, none, some (.int l9)] [.ref 159, .int l6, .ref 135] ⟨d_Y_announced_192, d_Y_announced_194, d_Y_announced_195, d_Y_announced_196, d_Y_announced_198, trivial⟩ (show tv_run _ _ _ _ = some (199, [some (.ref 130), some (.int l1), some (.int l2), some (.int l3), some (.int s0), some (.int l5), some (.int l6), none, none, some (.int l9)], [.int (((7 : Int32) * l3) + l5), .ref 159, .int l6, .ref 135]) from rfl) ?_
  obtain ⟨hb16, hf⟩ := tm_if hf
  refine V.iald hC (kd_in kd_159 (by decide)) (hp_at kd_159) rfl hb16 d_Y_announced_199 ?_
  show V X 0 0 tm_n (hp σ15) 200 [some (.ref 130), some (.int l1), some (.int l2), some (.int l3), some (.int s0), some (.int l5), some (.int l6), none, none, some (.int l9)] [.int (σ15.1 159 (((7 : Int32) * l3) + l5).toNatClampNeg), .int l6, .ref 135]
  obtain ⟨hb17, hf⟩ := tm_if hf
  obtain ⟨σ18, hσ18, hf⟩ := tm_ww hf
  refine V.seta hC kd_135 (kd_in kd_135 (by decide)) rfl rfl rfl hb17 d_Y_announced_200 ?_
  rw [← hσ18]
  exact V.less (tv_le_some (tv_le_some (tv_le_some (tv_le_some (tv_le_some (tv_le_some (tv_le_none (tv_le_none (tv_le_none (tv_le_none tv_le_nil)))))))))) (c_Y_announced_L201 hC hr hE hrc σ18 l1 l2 l3 s0 l5  hf)
set_option maxHeartbeats 4000000 in
set_option maxRecDepth 100000 in
theorem c_Y_announced_L159 {X : tv_X} {r : tm_S} (hC : tv_K X tb_Y_announced 10 "TrickleMeshModel" tm_wg tm_ns tm_cl tm_ty { frames := 4, cells := 0, slots := 0, locals := 90 }) (hr : tv_ret X none) (hE : tv_end X (tm_P none r) 0 0) {rc : tm_S → Int32 → Int32 → Int32 → Int32 → Int32 → Option (tm_S)} (hrc : ∀ (σ : tm_S) (l1 : Int32) (l2 : Int32) (l3 : Int32) (l4 : Int32) (l5 : Int32), rc σ l1 l2 l3 l4 l5 = some r → V X 0 0 tm_n (hp σ) 6 [some (.ref 130), some (.int l1), some (.int l2), some (.int l3), some (.int l4), some (.int l5), none, none, none, none] []) (σ : tm_S) (l1 : Int32) (l2 : Int32) (l3 : Int32) (l4 : Int32) (l5 : Int32) (l6 : Int32) (l9 : Int32)  (hf : f_Y_announced_L159 rc σ l1 l2 l3 l4 l5 l6 l9 = some r) : V X 0 0 tm_n (hp σ) 159 [some (.ref 130), some (.int l1), some (.int l2), some (.int l3), some (.int l4), some (.int l5), some (.int l6), none, none, some (.int l9)] [] := by
  unfold f_Y_announced_L159 at hf
  refine V.blk hC [(.iload 4, 2), (.iconst 1, 1), (.iload 5, 2), (.ishl, 1), (.ior, 1)] 159 [some (.ref 130), some (.int l1), some (.int l2), some (.int l3), some (.int l4), some (.int l5), some (.int l6), none, none, some (.int l9)] [] ⟨d_Y_announced_159, d_Y_announced_161, d_Y_announced_162, d_Y_announced_164, d_Y_announced_165, trivial⟩ (show tv_run _ _ _ _ = some (166, [some (.ref 130), some (.int l1), some (.int l2), some (.int l3), some (.int l4), some (.int l5), some (.int l6), none, none, some (.int l9)], [.int (l4 ||| ((1 : Int32) <<< (l5 &&& 31)))]) from rfl) ?_
  refine V.goto hC d_Y_announced_166 (tgt := 171) (by decide) ?_
  exact V.less (tv_le_some (tv_le_some (tv_le_some (tv_le_some (tv_le_none (tv_le_some (tv_le_some (tv_le_none (tv_le_none (tv_le_some tv_le_nil)))))))))) (c_Y_announced_L171 hC hr hE hrc σ l1 l2 l3 l5 l6 l9 (l4 ||| ((1 : Int32) <<< (l5 &&& 31)))  hf)
set_option maxHeartbeats 4000000 in
set_option maxRecDepth 100000 in
theorem c_Y_announced_L118 {X : tv_X} {r : tm_S} (hC : tv_K X tb_Y_announced 10 "TrickleMeshModel" tm_wg tm_ns tm_cl tm_ty { frames := 4, cells := 0, slots := 0, locals := 90 }) (hr : tv_ret X none) (hE : tv_end X (tm_P none r) 0 0) {rc : tm_S → Int32 → Int32 → Int32 → Int32 → Int32 → Option (tm_S)} (hrc : ∀ (σ : tm_S) (l1 : Int32) (l2 : Int32) (l3 : Int32) (l4 : Int32) (l5 : Int32), rc σ l1 l2 l3 l4 l5 = some r → V X 0 0 tm_n (hp σ) 6 [some (.ref 130), some (.int l1), some (.int l2), some (.int l3), some (.int l4), some (.int l5), none, none, none, none] []) (σ : tm_S) (l1 : Int32) (l2 : Int32) (l3 : Int32) (l4 : Int32) (l5 : Int32) (l6 : Int32) (l8 : Int32) (s0 : Int32)  (hf : f_Y_announced_L118 rc σ l1 l2 l3 l4 l5 l6 l8 s0 = some r) : V X 0 0 tm_n (hp σ) 118 [some (.ref 130), some (.int l1), some (.int l2), some (.int l3), some (.int l4), some (.int l5), some (.int l6), none, some (.int l8), none] [.int s0] := by
  unfold f_Y_announced_L118 at hf
  refine V.blk hC [(.istore 9, 2), (.iload 8, 2)] 118 [some (.ref 130), some (.int l1), some (.int l2), some (.int l3), some (.int l4), some (.int l5), some (.int l6), none, some (.int l8), none] [.int s0] ⟨d_Y_announced_118, d_Y_announced_120, trivial⟩ (show tv_run _ _ _ _ = some (122, [some (.ref 130), some (.int l1), some (.int l2), some (.int l3), some (.int l4), some (.int l5), some (.int l6), none, some (.int l8), some (.int s0)], [.int l8]) from rfl) ?_
  refine V.if_eq hC d_Y_announced_122 (tgt := 201) (by decide) (fun hc => ?_) (fun hc => ?_)
  · rw [if_pos hc] at hf
    exact V.less (tv_le_some (tv_le_some (tv_le_some (tv_le_some (tv_le_some (tv_le_some (tv_le_none (tv_le_none (tv_le_none (tv_le_none tv_le_nil)))))))))) (c_Y_announced_L201 hC hr hE hrc σ l1 l2 l3 l4 l5  hf)
  · rw [if_neg hc] at hf
    refine V.blk hC [(.aload_n 0, 1)] 125 [some (.ref 130), some (.int l1), some (.int l2), some (.int l3), some (.int l4), some (.int l5), some (.int l6), none, some (.int l8), some (.int s0)] [] ⟨d_Y_announced_125, trivial⟩ (show tv_run _ _ _ _ = some (126, [some (.ref 130), some (.int l1), some (.int l2), some (.int l3), some (.int l4), some (.int l5), some (.int l6), none, some (.int l8), some (.int s0)], [.ref 130]) from rfl) ?_
    refine V.getf hC tf_Y_20 (kd_in kd_130 (by decide)) (hp_at kd_130) rfl d_Y_announced_126 ?_
    show V X 0 0 tm_n (hp σ) 129 [some (.ref 130), some (.int l1), some (.int l2), some (.int l3), some (.int l4), some (.int l5), some (.int l6), none, some (.int l8), some (.int s0)] [.ref 134]
    refine V.blk hC [(.iload 6, 2)] 129 [some (.ref 130), some (.int l1), some (.int l2), some (.int l3), some (.int l4), some (.int l5), some (.int l6), none, some (.int l8), some (.int s0)] [.ref 134] ⟨d_Y_announced_129, trivial⟩ (show tv_run _ _ _ _ = some (131, [some (.ref 130), some (.int l1), some (.int l2), some (.int l3), some (.int l4), some (.int l5), some (.int l6), none, some (.int l8), some (.int s0)], [.int l6, .ref 134]) from rfl) ?_
    obtain ⟨hb11, hf⟩ := tm_if hf
    refine V.iald hC (kd_in kd_134 (by decide)) (hp_at kd_134) rfl hb11 d_Y_announced_131 ?_
    show V X 0 0 tm_n (hp σ) 132 [some (.ref 130), some (.int l1), some (.int l2), some (.int l3), some (.int l4), some (.int l5), some (.int l6), none, some (.int l8), some (.int s0)] [.int (σ.1 134 l6.toNatClampNeg)]
    refine V.blk hC [(.iload 9, 2)] 132 [some (.ref 130), some (.int l1), some (.int l2), some (.int l3), some (.int l4), some (.int l5), some (.int l6), none, some (.int l8), some (.int s0)] [.int (σ.1 134 l6.toNatClampNeg)] ⟨d_Y_announced_132, trivial⟩ (show tv_run _ _ _ _ = some (134, [some (.ref 130), some (.int l1), some (.int l2), some (.int l3), some (.int l4), some (.int l5), some (.int l6), none, some (.int l8), some (.int s0)], [.int s0, .int (σ.1 134 l6.toNatClampNeg)]) from rfl) ?_
    refine V.icmp_ne hC d_Y_announced_134 (tgt := 159) (by decide) (fun hc => ?_) (fun hc => ?_)
    · rw [if_neg hc] at hf
      exact V.less (tv_le_some (tv_le_some (tv_le_some (tv_le_some (tv_le_some (tv_le_some (tv_le_some (tv_le_none (tv_le_none (tv_le_some tv_le_nil)))))))))) (c_Y_announced_L159 hC hr hE hrc σ l1 l2 l3 l4 l5 l6 s0  hf)
    · rw [if_pos hc] at hf
      refine V.blk hC [(.aload_n 0, 1)] 137 [some (.ref 130), some (.int l1), some (.int l2), some (.int l3), some (.int l4), some (.int l5), some (.int l6), none, some (.int l8), some (.int s0)] [] ⟨d_Y_announced_137, trivial⟩ (show tv_run _ _ _ _ = some (138, [some (.ref 130), some (.int l1), some (.int l2), some (.int l3), some (.int l4), some (.int l5), some (.int l6), none, some (.int l8), some (.int s0)], [.ref 130]) from rfl) ?_
      refine V.getf hC tf_Y_23 (kd_in kd_130 (by decide)) (hp_at kd_130) rfl d_Y_announced_138 ?_
      show V X 0 0 tm_n (hp σ) 141 [some (.ref 130), some (.int l1), some (.int l2), some (.int l3), some (.int l4), some (.int l5), some (.int l6), none, some (.int l8), some (.int s0)] [.ref 135]
      refine V.blk hC [(.iload 6, 2)] 141 [some (.ref 130), some (.int l1), some (.int l2), some (.int l3), some (.int l4), some (.int l5), some (.int l6), none, some (.int l8), some (.int s0)] [.ref 135] ⟨d_Y_announced_141, trivial⟩ (show tv_run _ _ _ _ = some (143, [some (.ref 130), some (.int l1), some (.int l2), some (.int l3), some (.int l4), some (.int l5), some (.int l6), none, some (.int l8), some (.int s0)], [.int l6, .ref 135]) from rfl) ?_
      obtain ⟨hb12, hf⟩ := tm_if hf
      refine V.iald hC (kd_in kd_135 (by decide)) (hp_at kd_135) rfl hb12 d_Y_announced_143 ?_
      show V X 0 0 tm_n (hp σ) 144 [some (.ref 130), some (.int l1), some (.int l2), some (.int l3), some (.int l4), some (.int l5), some (.int l6), none, some (.int l8), some (.int s0)] [.int (σ.1 135 l6.toNatClampNeg)]
      refine V.blk hC [(.aload_n 0, 1)] 144 [some (.ref 130), some (.int l1), some (.int l2), some (.int l3), some (.int l4), some (.int l5), some (.int l6), none, some (.int l8), some (.int s0)] [.int (σ.1 135 l6.toNatClampNeg)] ⟨d_Y_announced_144, trivial⟩ (show tv_run _ _ _ _ = some (145, [some (.ref 130), some (.int l1), some (.int l2), some (.int l3), some (.int l4), some (.int l5), some (.int l6), none, some (.int l8), some (.int s0)], [.ref 130, .int (σ.1 135 l6.toNatClampNeg)]) from rfl) ?_
      refine V.getf hC tf_Y_95 (kd_in kd_130 (by decide)) (hp_at kd_130) rfl d_Y_announced_145 ?_
      show V X 0 0 tm_n (hp σ) 148 [some (.ref 130), some (.int l1), some (.int l2), some (.int l3), some (.int l4), some (.int l5), some (.int l6), none, some (.int l8), some (.int s0)] [.ref 159, .int (σ.1 135 l6.toNatClampNeg)]
      refine V.blk hC [(.bipush 7, 2), (.iload_n 3, 1), (.imul, 1), (.iload 5, 2), (.iadd, 1)] 148 [some (.ref 130), some (.int l1), some (.int l2), some (.int l3), some (.int l4), some (.int l5), some (.int l6), none, some (.int l8), some (.int s0)] [.ref 159, .int (σ.1 135 l6.toNatClampNeg)] ⟨d_Y_announced_148, d_Y_announced_150, d_Y_announced_151, d_Y_announced_152, d_Y_announced_154, trivial⟩ (show tv_run _ _ _ _ = some (155, [some (.ref 130), some (.int l1), some (.int l2), some (.int l3), some (.int l4), some (.int l5), some (.int l6), none, some (.int l8), some (.int s0)], [.int (((7 : Int32) * l3) + l5), .ref 159, .int (σ.1 135 l6.toNatClampNeg)]) from rfl) ?_
      obtain ⟨hb13, hf⟩ := tm_if hf
      refine V.iald hC (kd_in kd_159 (by decide)) (hp_at kd_159) rfl hb13 d_Y_announced_155 ?_
      show V X 0 0 tm_n (hp σ) 156 [some (.ref 130), some (.int l1), some (.int l2), some (.int l3), some (.int l4), some (.int l5), some (.int l6), none, some (.int l8), some (.int s0)] [.int (σ.1 159 (((7 : Int32) * l3) + l5).toNatClampNeg), .int (σ.1 135 l6.toNatClampNeg)]
      refine V.icmp_eq hC d_Y_announced_156 (tgt := 169) (by decide) (fun hc => ?_) (fun hc => ?_)
      · rw [if_pos hc] at hf
        refine V.blk hC [(.iload 4, 2)] 169 [some (.ref 130), some (.int l1), some (.int l2), some (.int l3), some (.int l4), some (.int l5), some (.int l6), none, some (.int l8), some (.int s0)] [] ⟨d_Y_announced_169, trivial⟩ (show tv_run _ _ _ _ = some (171, [some (.ref 130), some (.int l1), some (.int l2), some (.int l3), some (.int l4), some (.int l5), some (.int l6), none, some (.int l8), some (.int s0)], [.int l4]) from rfl) ?_
        exact V.less (tv_le_some (tv_le_some (tv_le_some (tv_le_some (tv_le_none (tv_le_some (tv_le_some (tv_le_none (tv_le_none (tv_le_some tv_le_nil)))))))))) (c_Y_announced_L171 hC hr hE hrc σ l1 l2 l3 l5 l6 s0 l4  hf)
      · rw [if_neg hc] at hf
        exact V.less (tv_le_some (tv_le_some (tv_le_some (tv_le_some (tv_le_some (tv_le_some (tv_le_some (tv_le_none (tv_le_none (tv_le_some tv_le_nil)))))))))) (c_Y_announced_L159 hC hr hE hrc σ l1 l2 l3 l4 l5 l6 s0  hf)
set_option maxHeartbeats 4000000 in
set_option maxRecDepth 100000 in
theorem c_Y_announced_L102 {X : tv_X} {r : tm_S} (hC : tv_K X tb_Y_announced 10 "TrickleMeshModel" tm_wg tm_ns tm_cl tm_ty { frames := 4, cells := 0, slots := 0, locals := 90 }) (hr : tv_ret X none) (hE : tv_end X (tm_P none r) 0 0) {rc : tm_S → Int32 → Int32 → Int32 → Int32 → Int32 → Option (tm_S)} (hrc : ∀ (σ : tm_S) (l1 : Int32) (l2 : Int32) (l3 : Int32) (l4 : Int32) (l5 : Int32), rc σ l1 l2 l3 l4 l5 = some r → V X 0 0 tm_n (hp σ) 6 [some (.ref 130), some (.int l1), some (.int l2), some (.int l3), some (.int l4), some (.int l5), none, none, none, none] []) (σ : tm_S) (l1 : Int32) (l2 : Int32) (l3 : Int32) (l4 : Int32) (l5 : Int32) (l6 : Int32) (s0 : Int32)  (hf : f_Y_announced_L102 rc σ l1 l2 l3 l4 l5 l6 s0 = some r) : V X 0 0 tm_n (hp σ) 102 [some (.ref 130), some (.int l1), some (.int l2), some (.int l3), some (.int l4), some (.int l5), some (.int l6), none, none, none] [.int s0] := by
  unfold f_Y_announced_L102 at hf
  refine V.blk hC [(.istore 8, 2), (.aload_n 0, 1)] 102 [some (.ref 130), some (.int l1), some (.int l2), some (.int l3), some (.int l4), some (.int l5), some (.int l6), none, none, none] [.int s0] ⟨d_Y_announced_102, d_Y_announced_104, trivial⟩ (show tv_run _ _ _ _ = some (105, [some (.ref 130), some (.int l1), some (.int l2), some (.int l3), some (.int l4), some (.int l5), some (.int l6), none, some (.int s0), none], [.ref 130]) from rfl) ?_
  refine V.getf hC tf_Y_98 (kd_in kd_130 (by decide)) (hp_at kd_130) rfl d_Y_announced_105 ?_
  show V X 0 0 tm_n (hp σ) 108 [some (.ref 130), some (.int l1), some (.int l2), some (.int l3), some (.int l4), some (.int l5), some (.int l6), none, some (.int s0), none] [.ref 160]
  refine V.blk hC [(.iload_n 3, 1)] 108 [some (.ref 130), some (.int l1), some (.int l2), some (.int l3), some (.int l4), some (.int l5), some (.int l6), none, some (.int s0), none] [.ref 160] ⟨d_Y_announced_108, trivial⟩ (show tv_run _ _ _ _ = some (109, [some (.ref 130), some (.int l1), some (.int l2), some (.int l3), some (.int l4), some (.int l5), some (.int l6), none, some (.int s0), none], [.int l3, .ref 160]) from rfl) ?_
  obtain ⟨hb10, hf⟩ := tm_if hf
  refine V.zald hC (kd_in kd_160 (by decide)) (hp_at kd_160) rfl hb10 d_Y_announced_109 ?_
  show V X 0 0 tm_n (hp σ) 110 [some (.ref 130), some (.int l1), some (.int l2), some (.int l3), some (.int l4), some (.int l5), some (.int l6), none, some (.int s0), none] [.int (σ.1 160 l3.toNatClampNeg)]
  refine V.if_eq hC d_Y_announced_110 (tgt := 117) (by decide) (fun hc => ?_) (fun hc => ?_)
  · rw [if_pos hc] at hf
    refine V.blk hC [(.iload_n 2, 1)] 117 [some (.ref 130), some (.int l1), some (.int l2), some (.int l3), some (.int l4), some (.int l5), some (.int l6), none, some (.int s0), none] [] ⟨d_Y_announced_117, trivial⟩ (show tv_run _ _ _ _ = some (118, [some (.ref 130), some (.int l1), some (.int l2), some (.int l3), some (.int l4), some (.int l5), some (.int l6), none, some (.int s0), none], [.int l2]) from rfl) ?_
    exact V.less (tv_le_some (tv_le_some (tv_le_some (tv_le_some (tv_le_some (tv_le_some (tv_le_some (tv_le_none (tv_le_some (tv_le_none tv_le_nil)))))))))) (c_Y_announced_L118 hC hr hE hrc σ l1 l2 l3 l4 l5 l6 s0 l2  hf)
  · rw [if_neg hc] at hf
    refine V.blk hC [(.iconst (-1), 1)] 113 [some (.ref 130), some (.int l1), some (.int l2), some (.int l3), some (.int l4), some (.int l5), some (.int l6), none, some (.int s0), none] [] ⟨d_Y_announced_113, trivial⟩ (show tv_run _ _ _ _ = some (114, [some (.ref 130), some (.int l1), some (.int l2), some (.int l3), some (.int l4), some (.int l5), some (.int l6), none, some (.int s0), none], [.int (-1 : Int32)]) from rfl) ?_
    refine V.goto hC d_Y_announced_114 (tgt := 118) (by decide) ?_
    exact V.less (tv_le_some (tv_le_some (tv_le_some (tv_le_some (tv_le_some (tv_le_some (tv_le_some (tv_le_none (tv_le_some (tv_le_none tv_le_nil)))))))))) (c_Y_announced_L118 hC hr hE hrc σ l1 l2 l3 l4 l5 l6 s0 (-1 : Int32)  hf)
set_option maxHeartbeats 4000000 in
set_option maxRecDepth 100000 in
theorem c_Y_announced_L97 {X : tv_X} {r : tm_S} (hC : tv_K X tb_Y_announced 10 "TrickleMeshModel" tm_wg tm_ns tm_cl tm_ty { frames := 4, cells := 0, slots := 0, locals := 90 }) (hr : tv_ret X none) (hE : tv_end X (tm_P none r) 0 0) {rc : tm_S → Int32 → Int32 → Int32 → Int32 → Int32 → Option (tm_S)} (hrc : ∀ (σ : tm_S) (l1 : Int32) (l2 : Int32) (l3 : Int32) (l4 : Int32) (l5 : Int32), rc σ l1 l2 l3 l4 l5 = some r → V X 0 0 tm_n (hp σ) 6 [some (.ref 130), some (.int l1), some (.int l2), some (.int l3), some (.int l4), some (.int l5), none, none, none, none] []) (σ : tm_S) (l1 : Int32) (l2 : Int32) (l3 : Int32) (l4 : Int32) (l5 : Int32) (l6 : Int32)  (hf : f_Y_announced_L97 rc σ l1 l2 l3 l4 l5 l6 = some r) : V X 0 0 tm_n (hp σ) 97 [some (.ref 130), some (.int l1), some (.int l2), some (.int l3), some (.int l4), some (.int l5), some (.int l6), none, none, none] [] := by
  unfold f_Y_announced_L97 at hf
  refine V.blk hC [(.iconst 1, 1)] 97 [some (.ref 130), some (.int l1), some (.int l2), some (.int l3), some (.int l4), some (.int l5), some (.int l6), none, none, none] [] ⟨d_Y_announced_97, trivial⟩ (show tv_run _ _ _ _ = some (98, [some (.ref 130), some (.int l1), some (.int l2), some (.int l3), some (.int l4), some (.int l5), some (.int l6), none, none, none], [.int (1 : Int32)]) from rfl) ?_
  refine V.goto hC d_Y_announced_98 (tgt := 102) (by decide) ?_
  exact V.less (tv_le_some (tv_le_some (tv_le_some (tv_le_some (tv_le_some (tv_le_some (tv_le_some (tv_le_none (tv_le_none (tv_le_none tv_le_nil)))))))))) (c_Y_announced_L102 hC hr hE hrc σ l1 l2 l3 l4 l5 l6 (1 : Int32)  hf)
set_option maxHeartbeats 4000000 in
set_option maxRecDepth 100000 in
theorem c_Y_announced_L101 {X : tv_X} {r : tm_S} (hC : tv_K X tb_Y_announced 10 "TrickleMeshModel" tm_wg tm_ns tm_cl tm_ty { frames := 4, cells := 0, slots := 0, locals := 90 }) (hr : tv_ret X none) (hE : tv_end X (tm_P none r) 0 0) {rc : tm_S → Int32 → Int32 → Int32 → Int32 → Int32 → Option (tm_S)} (hrc : ∀ (σ : tm_S) (l1 : Int32) (l2 : Int32) (l3 : Int32) (l4 : Int32) (l5 : Int32), rc σ l1 l2 l3 l4 l5 = some r → V X 0 0 tm_n (hp σ) 6 [some (.ref 130), some (.int l1), some (.int l2), some (.int l3), some (.int l4), some (.int l5), none, none, none, none] []) (σ : tm_S) (l1 : Int32) (l2 : Int32) (l3 : Int32) (l4 : Int32) (l5 : Int32) (l6 : Int32)  (hf : f_Y_announced_L101 rc σ l1 l2 l3 l4 l5 l6 = some r) : V X 0 0 tm_n (hp σ) 101 [some (.ref 130), some (.int l1), some (.int l2), some (.int l3), some (.int l4), some (.int l5), some (.int l6), none, none, none] [] := by
  unfold f_Y_announced_L101 at hf
  refine V.blk hC [(.iconst 0, 1)] 101 [some (.ref 130), some (.int l1), some (.int l2), some (.int l3), some (.int l4), some (.int l5), some (.int l6), none, none, none] [] ⟨d_Y_announced_101, trivial⟩ (show tv_run _ _ _ _ = some (102, [some (.ref 130), some (.int l1), some (.int l2), some (.int l3), some (.int l4), some (.int l5), some (.int l6), none, none, none], [.int (0 : Int32)]) from rfl) ?_
  exact V.less (tv_le_some (tv_le_some (tv_le_some (tv_le_some (tv_le_some (tv_le_some (tv_le_some (tv_le_none (tv_le_none (tv_le_none tv_le_nil)))))))))) (c_Y_announced_L102 hC hr hE hrc σ l1 l2 l3 l4 l5 l6 (0 : Int32)  hf)
set_option maxHeartbeats 4000000 in
set_option maxRecDepth 100000 in
theorem c_Y_announced_L70 {X : tv_X} {r : tm_S} (hC : tv_K X tb_Y_announced 10 "TrickleMeshModel" tm_wg tm_ns tm_cl tm_ty { frames := 4, cells := 0, slots := 0, locals := 90 }) (hr : tv_ret X none) (hE : tv_end X (tm_P none r) 0 0) {rc : tm_S → Int32 → Int32 → Int32 → Int32 → Int32 → Option (tm_S)} (hrc : ∀ (σ : tm_S) (l1 : Int32) (l2 : Int32) (l3 : Int32) (l4 : Int32) (l5 : Int32), rc σ l1 l2 l3 l4 l5 = some r → V X 0 0 tm_n (hp σ) 6 [some (.ref 130), some (.int l1), some (.int l2), some (.int l3), some (.int l4), some (.int l5), none, none, none, none] []) (σ : tm_S) (l1 : Int32) (l2 : Int32) (l3 : Int32) (l4 : Int32) (l5 : Int32) (l6 : Int32) (s0 : Int32)  (hf : f_Y_announced_L70 rc σ l1 l2 l3 l4 l5 l6 s0 = some r) : V X 0 0 tm_n (hp σ) 70 [some (.ref 130), some (.int l1), some (.int l2), some (.int l3), some (.int l4), some (.int l5), some (.int l6), none, none, none] [.int s0] := by
  unfold f_Y_announced_L70 at hf
  refine V.blk hC [(.istore 7, 2), (.iload 7, 2)] 70 [some (.ref 130), some (.int l1), some (.int l2), some (.int l3), some (.int l4), some (.int l5), some (.int l6), none, none, none] [.int s0] ⟨d_Y_announced_70, d_Y_announced_72, trivial⟩ (show tv_run _ _ _ _ = some (74, [some (.ref 130), some (.int l1), some (.int l2), some (.int l3), some (.int l4), some (.int l5), some (.int l6), some (.int s0), none, none], [.int s0]) from rfl) ?_
  refine V.if_eq hC d_Y_announced_74 (tgt := 101) (by decide) (fun hc => ?_) (fun hc => ?_)
  · rw [if_pos hc] at hf
    exact V.less (tv_le_some (tv_le_some (tv_le_some (tv_le_some (tv_le_some (tv_le_some (tv_le_some (tv_le_none (tv_le_none (tv_le_none tv_le_nil)))))))))) (c_Y_announced_L101 hC hr hE hrc σ l1 l2 l3 l4 l5 l6  hf)
  · rw [if_neg hc] at hf
    refine V.blk hC [(.aload_n 0, 1)] 77 [some (.ref 130), some (.int l1), some (.int l2), some (.int l3), some (.int l4), some (.int l5), some (.int l6), some (.int s0), none, none] [] ⟨d_Y_announced_77, trivial⟩ (show tv_run _ _ _ _ = some (78, [some (.ref 130), some (.int l1), some (.int l2), some (.int l3), some (.int l4), some (.int l5), some (.int l6), some (.int s0), none, none], [.ref 130]) from rfl) ?_
    refine V.getf hC tf_Y_98 (kd_in kd_130 (by decide)) (hp_at kd_130) rfl d_Y_announced_78 ?_
    show V X 0 0 tm_n (hp σ) 81 [some (.ref 130), some (.int l1), some (.int l2), some (.int l3), some (.int l4), some (.int l5), some (.int l6), some (.int s0), none, none] [.ref 160]
    refine V.blk hC [(.iload_n 3, 1)] 81 [some (.ref 130), some (.int l1), some (.int l2), some (.int l3), some (.int l4), some (.int l5), some (.int l6), some (.int s0), none, none] [.ref 160] ⟨d_Y_announced_81, trivial⟩ (show tv_run _ _ _ _ = some (82, [some (.ref 130), some (.int l1), some (.int l2), some (.int l3), some (.int l4), some (.int l5), some (.int l6), some (.int s0), none, none], [.int l3, .ref 160]) from rfl) ?_
    obtain ⟨hb8, hf⟩ := tm_if hf
    refine V.zald hC (kd_in kd_160 (by decide)) (hp_at kd_160) rfl hb8 d_Y_announced_82 ?_
    show V X 0 0 tm_n (hp σ) 83 [some (.ref 130), some (.int l1), some (.int l2), some (.int l3), some (.int l4), some (.int l5), some (.int l6), some (.int s0), none, none] [.int (σ.1 160 l3.toNatClampNeg)]
    refine V.if_eq hC d_Y_announced_83 (tgt := 97) (by decide) (fun hc => ?_) (fun hc => ?_)
    · rw [if_pos hc] at hf
      exact V.less (tv_le_some (tv_le_some (tv_le_some (tv_le_some (tv_le_some (tv_le_some (tv_le_some (tv_le_none (tv_le_none (tv_le_none tv_le_nil)))))))))) (c_Y_announced_L97 hC hr hE hrc σ l1 l2 l3 l4 l5 l6  hf)
    · rw [if_neg hc] at hf
      refine V.blk hC [(.aload_n 0, 1)] 86 [some (.ref 130), some (.int l1), some (.int l2), some (.int l3), some (.int l4), some (.int l5), some (.int l6), some (.int s0), none, none] [] ⟨d_Y_announced_86, trivial⟩ (show tv_run _ _ _ _ = some (87, [some (.ref 130), some (.int l1), some (.int l2), some (.int l3), some (.int l4), some (.int l5), some (.int l6), some (.int s0), none, none], [.ref 130]) from rfl) ?_
      refine V.getf hC tf_Y_20 (kd_in kd_130 (by decide)) (hp_at kd_130) rfl d_Y_announced_87 ?_
      show V X 0 0 tm_n (hp σ) 90 [some (.ref 130), some (.int l1), some (.int l2), some (.int l3), some (.int l4), some (.int l5), some (.int l6), some (.int s0), none, none] [.ref 134]
      refine V.blk hC [(.iload 6, 2)] 90 [some (.ref 130), some (.int l1), some (.int l2), some (.int l3), some (.int l4), some (.int l5), some (.int l6), some (.int s0), none, none] [.ref 134] ⟨d_Y_announced_90, trivial⟩ (show tv_run _ _ _ _ = some (92, [some (.ref 130), some (.int l1), some (.int l2), some (.int l3), some (.int l4), some (.int l5), some (.int l6), some (.int s0), none, none], [.int l6, .ref 134]) from rfl) ?_
      obtain ⟨hb9, hf⟩ := tm_if hf
      refine V.iald hC (kd_in kd_134 (by decide)) (hp_at kd_134) rfl hb9 d_Y_announced_92 ?_
      show V X 0 0 tm_n (hp σ) 93 [some (.ref 130), some (.int l1), some (.int l2), some (.int l3), some (.int l4), some (.int l5), some (.int l6), some (.int s0), none, none] [.int (σ.1 134 l6.toNatClampNeg)]
      refine V.blk hC [(.iload_n 2, 1)] 93 [some (.ref 130), some (.int l1), some (.int l2), some (.int l3), some (.int l4), some (.int l5), some (.int l6), some (.int s0), none, none] [.int (σ.1 134 l6.toNatClampNeg)] ⟨d_Y_announced_93, trivial⟩ (show tv_run _ _ _ _ = some (94, [some (.ref 130), some (.int l1), some (.int l2), some (.int l3), some (.int l4), some (.int l5), some (.int l6), some (.int s0), none, none], [.int l2, .int (σ.1 134 l6.toNatClampNeg)]) from rfl) ?_
      refine V.icmp_ne hC d_Y_announced_94 (tgt := 101) (by decide) (fun hc => ?_) (fun hc => ?_)
      · rw [if_neg hc] at hf
        exact V.less (tv_le_some (tv_le_some (tv_le_some (tv_le_some (tv_le_some (tv_le_some (tv_le_some (tv_le_none (tv_le_none (tv_le_none tv_le_nil)))))))))) (c_Y_announced_L101 hC hr hE hrc σ l1 l2 l3 l4 l5 l6  hf)
      · rw [if_pos hc] at hf
        exact V.less (tv_le_some (tv_le_some (tv_le_some (tv_le_some (tv_le_some (tv_le_some (tv_le_some (tv_le_none (tv_le_none (tv_le_none tv_le_nil)))))))))) (c_Y_announced_L97 hC hr hE hrc σ l1 l2 l3 l4 l5 l6  hf)
