set_option maxHeartbeats 4000000 in
set_option maxRecDepth 100000 in
theorem c_Y_choose_L196 {X : tv_X} {r : Int32 × tm_S} (hC : tv_K X tb_Y_choose 9 "TrickleMeshModel" tm_wg tm_ns tm_cl tm_ty { frames := 4, cells := 0, slots := 0, locals := 90 }) (hr : tv_ret X (some .boolean)) (hE : tv_end X (tm_P (some (.int r.1)) r.2) 0 0) (σ : tm_S) (l1 : Int32) (l2 : Int32) (l3 : Int32) (l4 : Int32) (l5 : Int32) (l6 : Int32) (s0 : Int32) (s1 : Int32)  (hf : f_Y_choose_L196 σ l1 l2 l3 l4 l5 l6 s0 s1 = some r) : V X 0 0 tm_n (hp σ) 196 [some (.ref 130), some (.int l1), some (.int l2), some (.int l3), some (.int l4), some (.int l5), some (.int l6), none, none] [.int s0, .int s1, .ref 139] := by
  unfold f_Y_choose_L196 at hf
  obtain ⟨hb10, hf⟩ := tm_if hf
  obtain ⟨σ11, hσ11, hf⟩ := tm_ww hf
  refine V.seta hC kd_139 (kd_in kd_139 (by decide)) rfl rfl rfl hb10 d_Y_choose_196 ?_
  rw [← hσ11]
  refine V.blk hC [(.aload_n 0, 1)] 197 [some (.ref 130), some (.int l1), some (.int l2), some (.int l3), some (.int l4), some (.int l5), some (.int l6), none, none] [] ⟨d_Y_choose_197, trivial⟩ (show tv_run _ _ _ _ = some (198, [some (.ref 130), some (.int l1), some (.int l2), some (.int l3), some (.int l4), some (.int l5), some (.int l6), none, none], [.ref 130]) from rfl) ?_
  refine V.getf hC tf_Y_38 (kd_in kd_130 (by decide)) (hp_at kd_130) rfl d_Y_choose_198 ?_
  show V X 0 0 tm_n (hp σ11) 201 [some (.ref 130), some (.int l1), some (.int l2), some (.int l3), some (.int l4), some (.int l5), some (.int l6), none, none] [.ref 140]
  refine V.blk hC [(.iload_n 1, 1), (.iload 6, 2)] 201 [some (.ref 130), some (.int l1), some (.int l2), some (.int l3), some (.int l4), some (.int l5), some (.int l6), none, none] [.ref 140] ⟨d_Y_choose_201, d_Y_choose_202, trivial⟩ (show tv_run _ _ _ _ = some (204, [some (.ref 130), some (.int l1), some (.int l2), some (.int l3), some (.int l4), some (.int l5), some (.int l6), none, none], [.int l6, .int l1, .ref 140]) from rfl) ?_
  refine V.if_eq hC d_Y_choose_204 (tgt := 211) (by decide) (fun hc => ?_) (fun hc => ?_)
  · rw [if_pos hc] at hf
    refine V.blk hC [(.iload_n 2, 1)] 211 [some (.ref 130), some (.int l1), some (.int l2), some (.int l3), some (.int l4), some (.int l5), some (.int l6), none, none] [.int l1, .ref 140] ⟨d_Y_choose_211, trivial⟩ (show tv_run _ _ _ _ = some (212, [some (.ref 130), some (.int l1), some (.int l2), some (.int l3), some (.int l4), some (.int l5), some (.int l6), none, none], [.int l2, .int l1, .ref 140]) from rfl) ?_
    exact V.less (tv_le_some (tv_le_some (tv_le_none (tv_le_some (tv_le_some (tv_le_some (tv_le_some (tv_le_none (tv_le_none tv_le_nil))))))))) (c_Y_choose_L212 hC hr hE σ11 l1 l3 l4 l5 l6 l2 l1  hf)
  · rw [if_neg hc] at hf
    refine V.blk hC [(.iconst (-1), 1)] 207 [some (.ref 130), some (.int l1), some (.int l2), some (.int l3), some (.int l4), some (.int l5), some (.int l6), none, none] [.int l1, .ref 140] ⟨d_Y_choose_207, trivial⟩ (show tv_run _ _ _ _ = some (208, [some (.ref 130), some (.int l1), some (.int l2), some (.int l3), some (.int l4), some (.int l5), some (.int l6), none, none], [.int (-1 : Int32), .int l1, .ref 140]) from rfl) ?_
    refine V.goto hC d_Y_choose_208 (tgt := 212) (by decide) ?_
    exact V.less (tv_le_some (tv_le_some (tv_le_none (tv_le_some (tv_le_some (tv_le_some (tv_le_some (tv_le_none (tv_le_none tv_le_nil))))))))) (c_Y_choose_L212 hC hr hE σ11 l1 l3 l4 l5 l6 (-1 : Int32) l1  hf)
set_option maxHeartbeats 4000000 in
set_option maxRecDepth 100000 in
theorem c_Y_choose_L177 {X : tv_X} {r : Int32 × tm_S} (hC : tv_K X tb_Y_choose 9 "TrickleMeshModel" tm_wg tm_ns tm_cl tm_ty { frames := 4, cells := 0, slots := 0, locals := 90 }) (hr : tv_ret X (some .boolean)) (hE : tv_end X (tm_P (some (.int r.1)) r.2) 0 0) (σ : tm_S) (l1 : Int32) (l2 : Int32) (l3 : Int32) (l4 : Int32) (l5 : Int32) (s0 : Int32)  (hf : f_Y_choose_L177 σ l1 l2 l3 l4 l5 s0 = some r) : V X 0 0 tm_n (hp σ) 177 [some (.ref 130), some (.int l1), some (.int l2), some (.int l3), some (.int l4), some (.int l5), none, none, none] [.int s0] := by
  unfold f_Y_choose_L177 at hf
  refine V.blk hC [(.istore 6, 2), (.aload_n 0, 1)] 177 [some (.ref 130), some (.int l1), some (.int l2), some (.int l3), some (.int l4), some (.int l5), none, none, none] [.int s0] ⟨d_Y_choose_177, d_Y_choose_179, trivial⟩ (show tv_run _ _ _ _ = some (180, [some (.ref 130), some (.int l1), some (.int l2), some (.int l3), some (.int l4), some (.int l5), some (.int s0), none, none], [.ref 130]) from rfl) ?_
  refine V.getf hC tf_Y_35 (kd_in kd_130 (by decide)) (hp_at kd_130) rfl d_Y_choose_180 ?_
  show V X 0 0 tm_n (hp σ) 183 [some (.ref 130), some (.int l1), some (.int l2), some (.int l3), some (.int l4), some (.int l5), some (.int s0), none, none] [.ref 139]
  refine V.blk hC [(.iload_n 1, 1), (.iload 6, 2)] 183 [some (.ref 130), some (.int l1), some (.int l2), some (.int l3), some (.int l4), some (.int l5), some (.int s0), none, none] [.ref 139] ⟨d_Y_choose_183, d_Y_choose_184, trivial⟩ (show tv_run _ _ _ _ = some (186, [some (.ref 130), some (.int l1), some (.int l2), some (.int l3), some (.int l4), some (.int l5), some (.int s0), none, none], [.int s0, .int l1, .ref 139]) from rfl) ?_
  refine V.if_eq hC d_Y_choose_186 (tgt := 195) (by decide) (fun hc => ?_) (fun hc => ?_)
  · rw [if_pos hc] at hf
    refine V.blk hC [(.iload_n 3, 1)] 195 [some (.ref 130), some (.int l1), some (.int l2), some (.int l3), some (.int l4), some (.int l5), some (.int s0), none, none] [.int l1, .ref 139] ⟨d_Y_choose_195, trivial⟩ (show tv_run _ _ _ _ = some (196, [some (.ref 130), some (.int l1), some (.int l2), some (.int l3), some (.int l4), some (.int l5), some (.int s0), none, none], [.int l3, .int l1, .ref 139]) from rfl) ?_
    exact V.less (tv_le_some (tv_le_some (tv_le_some (tv_le_some (tv_le_some (tv_le_some (tv_le_some (tv_le_none (tv_le_none tv_le_nil))))))))) (c_Y_choose_L196 hC hr hE σ l1 l2 l3 l4 l5 s0 l3 l1  hf)
  · rw [if_neg hc] at hf
    refine V.blk hC [(.sipush 255, 3)] 189 [some (.ref 130), some (.int l1), some (.int l2), some (.int l3), some (.int l4), some (.int l5), some (.int s0), none, none] [.int l1, .ref 139] ⟨d_Y_choose_189, trivial⟩ (show tv_run _ _ _ _ = some (192, [some (.ref 130), some (.int l1), some (.int l2), some (.int l3), some (.int l4), some (.int l5), some (.int s0), none, none], [.int (255 : Int32), .int l1, .ref 139]) from rfl) ?_
    refine V.goto hC d_Y_choose_192 (tgt := 196) (by decide) ?_
    exact V.less (tv_le_some (tv_le_some (tv_le_some (tv_le_some (tv_le_some (tv_le_some (tv_le_some (tv_le_none (tv_le_none tv_le_nil))))))))) (c_Y_choose_L196 hC hr hE σ l1 l2 l3 l4 l5 s0 (255 : Int32) l1  hf)
set_option maxHeartbeats 4000000 in
set_option maxRecDepth 100000 in
theorem c_Y_choose_L172 {X : tv_X} {r : Int32 × tm_S} (hC : tv_K X tb_Y_choose 9 "TrickleMeshModel" tm_wg tm_ns tm_cl tm_ty { frames := 4, cells := 0, slots := 0, locals := 90 }) (hr : tv_ret X (some .boolean)) (hE : tv_end X (tm_P (some (.int r.1)) r.2) 0 0) (σ : tm_S) (l1 : Int32) (l2 : Int32) (l3 : Int32) (l4 : Int32) (l5 : Int32)  (hf : f_Y_choose_L172 σ l1 l2 l3 l4 l5 = some r) : V X 0 0 tm_n (hp σ) 172 [some (.ref 130), some (.int l1), some (.int l2), some (.int l3), some (.int l4), some (.int l5), none, none, none] [] := by
  unfold f_Y_choose_L172 at hf
  refine V.blk hC [(.iconst 1, 1)] 172 [some (.ref 130), some (.int l1), some (.int l2), some (.int l3), some (.int l4), some (.int l5), none, none, none] [] ⟨d_Y_choose_172, trivial⟩ (show tv_run _ _ _ _ = some (173, [some (.ref 130), some (.int l1), some (.int l2), some (.int l3), some (.int l4), some (.int l5), none, none, none], [.int (1 : Int32)]) from rfl) ?_
  refine V.goto hC d_Y_choose_173 (tgt := 177) (by decide) ?_
  exact V.less (tv_le_some (tv_le_some (tv_le_some (tv_le_some (tv_le_some (tv_le_some (tv_le_none (tv_le_none (tv_le_none tv_le_nil))))))))) (c_Y_choose_L177 hC hr hE σ l1 l2 l3 l4 l5 (1 : Int32)  hf)
set_option maxHeartbeats 4000000 in
set_option maxRecDepth 100000 in
theorem c_Y_choose_L7 {X : tv_X} {r : Int32 × tm_S} (hC : tv_K X tb_Y_choose 9 "TrickleMeshModel" tm_wg tm_ns tm_cl tm_ty { frames := 4, cells := 0, slots := 0, locals := 90 }) (hr : tv_ret X (some .boolean)) (hE : tv_end X (tm_P (some (.int r.1)) r.2) 0 0) : ∀ (k : Nat) (σ : tm_S) (l1 : Int32) (l2 : Int32) (l3 : Int32) (l4 : Int32), f_Y_choose_L7 k σ l1 l2 l3 l4 = some r → V X 0 0 tm_n (hp σ) 7 [some (.ref 130), some (.int l1), some (.int l2), some (.int l3), some (.int l4), none, none, none, none] [] := by
  intro k
  induction k with
  | zero => intro σ l1 l2 l3 l4  hf; simp only [f_Y_choose_L7] at hf; cases hf
  | succ k hrc =>
    intro σ l1 l2 l3 l4  hf
    rw [f_Y_choose_L7] at hf
    refine V.blk hC [(.iload 4, 2), (.bipush 7, 2)] 7 [some (.ref 130), some (.int l1), some (.int l2), some (.int l3), some (.int l4), none, none, none, none] [] ⟨d_Y_choose_7, d_Y_choose_9, trivial⟩ (show tv_run _ _ _ _ = some (11, [some (.ref 130), some (.int l1), some (.int l2), some (.int l3), some (.int l4), none, none, none, none], [.int (7 : Int32), .int l4]) from rfl) ?_
    refine V.icmp_ge hC d_Y_choose_11 (tgt := 130) (by decide) (fun hc => ?_) (fun hc => ?_)
    · rw [if_pos hc] at hf
      refine V.blk hC [(.aload_n 0, 1)] 130 [some (.ref 130), some (.int l1), some (.int l2), some (.int l3), some (.int l4), none, none, none, none] [] ⟨d_Y_choose_130, trivial⟩ (show tv_run _ _ _ _ = some (131, [some (.ref 130), some (.int l1), some (.int l2), some (.int l3), some (.int l4), none, none, none, none], [.ref 130]) from rfl) ?_
      refine V.getf hC tf_Y_35 (kd_in kd_130 (by decide)) (hp_at kd_130) rfl d_Y_choose_131 ?_
      show V X 0 0 tm_n (hp σ) 134 [some (.ref 130), some (.int l1), some (.int l2), some (.int l3), some (.int l4), none, none, none, none] [.ref 139]
      refine V.blk hC [(.iload_n 1, 1)] 134 [some (.ref 130), some (.int l1), some (.int l2), some (.int l3), some (.int l4), none, none, none, none] [.ref 139] ⟨d_Y_choose_134, trivial⟩ (show tv_run _ _ _ _ = some (135, [some (.ref 130), some (.int l1), some (.int l2), some (.int l3), some (.int l4), none, none, none, none], [.int l1, .ref 139]) from rfl) ?_
      obtain ⟨hb1, hf⟩ := tm_if hf
      refine V.iald hC (kd_in kd_139 (by decide)) (hp_at kd_139) rfl hb1 d_Y_choose_135 ?_
      show V X 0 0 tm_n (hp σ) 136 [some (.ref 130), some (.int l1), some (.int l2), some (.int l3), some (.int l4), none, none, none, none] [.int (σ.1 139 l1.toNatClampNeg)]
      refine V.blk hC [(.istore 4, 2), (.aload_n 0, 1)] 136 [some (.ref 130), some (.int l1), some (.int l2), some (.int l3), some (.int l4), none, none, none, none] [.int (σ.1 139 l1.toNatClampNeg)] ⟨d_Y_choose_136, d_Y_choose_138, trivial⟩ (show tv_run _ _ _ _ = some (139, [some (.ref 130), some (.int l1), some (.int l2), some (.int l3), some (.int (σ.1 139 l1.toNatClampNeg)), none, none, none, none], [.ref 130]) from rfl) ?_
      refine V.getf hC tf_Y_38 (kd_in kd_130 (by decide)) (hp_at kd_130) rfl d_Y_choose_139 ?_
      show V X 0 0 tm_n (hp σ) 142 [some (.ref 130), some (.int l1), some (.int l2), some (.int l3), some (.int (σ.1 139 l1.toNatClampNeg)), none, none, none, none] [.ref 140]
      refine V.blk hC [(.iload_n 1, 1)] 142 [some (.ref 130), some (.int l1), some (.int l2), some (.int l3), some (.int (σ.1 139 l1.toNatClampNeg)), none, none, none, none] [.ref 140] ⟨d_Y_choose_142, trivial⟩ (show tv_run _ _ _ _ = some (143, [some (.ref 130), some (.int l1), some (.int l2), some (.int l3), some (.int (σ.1 139 l1.toNatClampNeg)), none, none, none, none], [.int l1, .ref 140]) from rfl) ?_
      obtain ⟨hb2, hf⟩ := tm_if hf
      refine V.iald hC (kd_in kd_140 (by decide)) (hp_at kd_140) rfl hb2 d_Y_choose_143 ?_
      show V X 0 0 tm_n (hp σ) 144 [some (.ref 130), some (.int l1), some (.int l2), some (.int l3), some (.int (σ.1 139 l1.toNatClampNeg)), none, none, none, none] [.int (σ.1 140 l1.toNatClampNeg)]
      refine V.blk hC [(.istore 5, 2), (.iload_n 2, 1)] 144 [some (.ref 130), some (.int l1), some (.int l2), some (.int l3), some (.int (σ.1 139 l1.toNatClampNeg)), none, none, none, none] [.int (σ.1 140 l1.toNatClampNeg)] ⟨d_Y_choose_144, d_Y_choose_146, trivial⟩ (show tv_run _ _ _ _ = some (147, [some (.ref 130), some (.int l1), some (.int l2), some (.int l3), some (.int (σ.1 139 l1.toNatClampNeg)), some (.int (σ.1 140 l1.toNatClampNeg)), none, none, none], [.int l2]) from rfl) ?_
      refine V.if_lt hC d_Y_choose_147 (tgt := 172) (by decide) (fun hc => ?_) (fun hc => ?_)
      · rw [if_pos hc] at hf
        exact V.less (tv_le_some (tv_le_some (tv_le_some (tv_le_some (tv_le_some (tv_le_some (tv_le_none (tv_le_none (tv_le_none tv_le_nil))))))))) (c_Y_choose_L172 hC hr hE σ l1 l2 l3 (σ.1 139 l1.toNatClampNeg) (σ.1 140 l1.toNatClampNeg)  hf)
      · rw [if_neg hc] at hf
        refine V.blk hC [(.iload_n 3, 1), (.sipush 254, 3)] 150 [some (.ref 130), some (.int l1), some (.int l2), some (.int l3), some (.int (σ.1 139 l1.toNatClampNeg)), some (.int (σ.1 140 l1.toNatClampNeg)), none, none, none] [] ⟨d_Y_choose_150, d_Y_choose_151, trivial⟩ (show tv_run _ _ _ _ = some (154, [some (.ref 130), some (.int l1), some (.int l2), some (.int l3), some (.int (σ.1 139 l1.toNatClampNeg)), some (.int (σ.1 140 l1.toNatClampNeg)), none, none, none], [.int (254 : Int32), .int l3]) from rfl) ?_
        refine V.icmp_gt hC d_Y_choose_154 (tgt := 172) (by decide) (fun hc => ?_) (fun hc => ?_)
        · rw [if_pos hc] at hf
          exact V.less (tv_le_some (tv_le_some (tv_le_some (tv_le_some (tv_le_some (tv_le_some (tv_le_none (tv_le_none (tv_le_none tv_le_nil))))))))) (c_Y_choose_L172 hC hr hE σ l1 l2 l3 (σ.1 139 l1.toNatClampNeg) (σ.1 140 l1.toNatClampNeg)  hf)
        · rw [if_neg hc] at hf
          refine V.blk hC [(.iload_n 3, 1), (.aload_n 0, 1)] 157 [some (.ref 130), some (.int l1), some (.int l2), some (.int l3), some (.int (σ.1 139 l1.toNatClampNeg)), some (.int (σ.1 140 l1.toNatClampNeg)), none, none, none] [] ⟨d_Y_choose_157, d_Y_choose_158, trivial⟩ (show tv_run _ _ _ _ = some (159, [some (.ref 130), some (.int l1), some (.int l2), some (.int l3), some (.int (σ.1 139 l1.toNatClampNeg)), some (.int (σ.1 140 l1.toNatClampNeg)), none, none, none], [.ref 130, .int l3]) from rfl) ?_
          refine V.getf hC tf_Y_41 (kd_in kd_130 (by decide)) (hp_at kd_130) rfl d_Y_choose_159 ?_
          show V X 0 0 tm_n (hp σ) 162 [some (.ref 130), some (.int l1), some (.int l2), some (.int l3), some (.int (σ.1 139 l1.toNatClampNeg)), some (.int (σ.1 140 l1.toNatClampNeg)), none, none, none] [.ref 141, .int l3]
          refine V.blk hC [(.iload_n 1, 1)] 162 [some (.ref 130), some (.int l1), some (.int l2), some (.int l3), some (.int (σ.1 139 l1.toNatClampNeg)), some (.int (σ.1 140 l1.toNatClampNeg)), none, none, none] [.ref 141, .int l3] ⟨d_Y_choose_162, trivial⟩ (show tv_run _ _ _ _ = some (163, [some (.ref 130), some (.int l1), some (.int l2), some (.int l3), some (.int (σ.1 139 l1.toNatClampNeg)), some (.int (σ.1 140 l1.toNatClampNeg)), none, none, none], [.int l1, .ref 141, .int l3]) from rfl) ?_
          obtain ⟨hb3, hf⟩ := tm_if hf
          refine V.iald hC (kd_in kd_141 (by decide)) (hp_at kd_141) rfl hb3 d_Y_choose_163 ?_
          show V X 0 0 tm_n (hp σ) 164 [some (.ref 130), some (.int l1), some (.int l2), some (.int l3), some (.int (σ.1 139 l1.toNatClampNeg)), some (.int (σ.1 140 l1.toNatClampNeg)), none, none, none] [.int (σ.1 141 l1.toNatClampNeg), .int l3]
          refine V.blk hC [(.aload_n 0, 1)] 164 [some (.ref 130), some (.int l1), some (.int l2), some (.int l3), some (.int (σ.1 139 l1.toNatClampNeg)), some (.int (σ.1 140 l1.toNatClampNeg)), none, none, none] [.int (σ.1 141 l1.toNatClampNeg), .int l3] ⟨d_Y_choose_164, trivial⟩ (show tv_run _ _ _ _ = some (165, [some (.ref 130), some (.int l1), some (.int l2), some (.int l3), some (.int (σ.1 139 l1.toNatClampNeg)), some (.int (σ.1 140 l1.toNatClampNeg)), none, none, none], [.ref 130, .int (σ.1 141 l1.toNatClampNeg), .int l3]) from rfl) ?_
          refine V.getf hC tf_Y_144 (kd_in kd_130 (by decide)) (hp_at kd_130) rfl d_Y_choose_165 ?_
          show V X 0 0 tm_n (hp σ) 168 [some (.ref 130), some (.int l1), some (.int l2), some (.int l3), some (.int (σ.1 139 l1.toNatClampNeg)), some (.int (σ.1 140 l1.toNatClampNeg)), none, none, none] [.int (σ.1 130 1), .int (σ.1 141 l1.toNatClampNeg), .int l3]
          refine V.blk hC [(.iadd, 1)] 168 [some (.ref 130), some (.int l1), some (.int l2), some (.int l3), some (.int (σ.1 139 l1.toNatClampNeg)), some (.int (σ.1 140 l1.toNatClampNeg)), none, none, none] [.int (σ.1 130 1), .int (σ.1 141 l1.toNatClampNeg), .int l3] ⟨d_Y_choose_168, trivial⟩ (show tv_run _ _ _ _ = some (169, [some (.ref 130), some (.int l1), some (.int l2), some (.int l3), some (.int (σ.1 139 l1.toNatClampNeg)), some (.int (σ.1 140 l1.toNatClampNeg)), none, none, none], [.int ((σ.1 141 l1.toNatClampNeg) + (σ.1 130 1)), .int l3]) from rfl) ?_
          refine V.icmp_le hC d_Y_choose_169 (tgt := 176) (by decide) (fun hc => ?_) (fun hc => ?_)
          · rw [if_pos hc] at hf
            refine V.blk hC [(.iconst 0, 1)] 176 [some (.ref 130), some (.int l1), some (.int l2), some (.int l3), some (.int (σ.1 139 l1.toNatClampNeg)), some (.int (σ.1 140 l1.toNatClampNeg)), none, none, none] [] ⟨d_Y_choose_176, trivial⟩ (show tv_run _ _ _ _ = some (177, [some (.ref 130), some (.int l1), some (.int l2), some (.int l3), some (.int (σ.1 139 l1.toNatClampNeg)), some (.int (σ.1 140 l1.toNatClampNeg)), none, none, none], [.int (0 : Int32)]) from rfl) ?_
            exact V.less (tv_le_some (tv_le_some (tv_le_some (tv_le_some (tv_le_some (tv_le_some (tv_le_none (tv_le_none (tv_le_none tv_le_nil))))))))) (c_Y_choose_L177 hC hr hE σ l1 l2 l3 (σ.1 139 l1.toNatClampNeg) (σ.1 140 l1.toNatClampNeg) (0 : Int32)  hf)
          · rw [if_neg hc] at hf
            exact V.less (tv_le_some (tv_le_some (tv_le_some (tv_le_some (tv_le_some (tv_le_some (tv_le_none (tv_le_none (tv_le_none tv_le_nil))))))))) (c_Y_choose_L172 hC hr hE σ l1 l2 l3 (σ.1 139 l1.toNatClampNeg) (σ.1 140 l1.toNatClampNeg)  hf)
    · rw [if_neg hc] at hf
      refine V.blk hC [(.bipush 7, 2), (.iload_n 1, 1), (.imul, 1), (.iload 4, 2), (.iadd, 1), (.istore 5, 2), (.iload 4, 2), (.iload_n 1, 1)] 14 [some (.ref 130), some (.int l1), some (.int l2), some (.int l3), some (.int l4), none, none, none, none] [] ⟨d_Y_choose_14, d_Y_choose_16, d_Y_choose_17, d_Y_choose_18, d_Y_choose_20, d_Y_choose_21, d_Y_choose_23, d_Y_choose_25, trivial⟩ (show tv_run _ _ _ _ = some (26, [some (.ref 130), some (.int l1), some (.int l2), some (.int l3), some (.int l4), some (.int (((7 : Int32) * l1) + l4)), none, none, none], [.int l1, .int l4]) from rfl) ?_
      refine V.icmp_eq hC d_Y_choose_26 (tgt := 66) (by decide) (fun hc => ?_) (fun hc => ?_)
      · rw [if_pos hc] at hf
        exact V.less (tv_le_some (tv_le_some (tv_le_some (tv_le_some (tv_le_some (tv_le_some (tv_le_none (tv_le_none (tv_le_none tv_le_nil))))))))) (c_Y_choose_L66 hC hr hE hrc σ l1 l2 l3 l4 (((7 : Int32) * l1) + l4)  hf)
      · rw [if_neg hc] at hf
        refine V.blk hC [(.aload_n 0, 1)] 29 [some (.ref 130), some (.int l1), some (.int l2), some (.int l3), some (.int l4), some (.int (((7 : Int32) * l1) + l4)), none, none, none] [] ⟨d_Y_choose_29, trivial⟩ (show tv_run _ _ _ _ = some (30, [some (.ref 130), some (.int l1), some (.int l2), some (.int l3), some (.int l4), some (.int (((7 : Int32) * l1) + l4)), none, none, none], [.ref 130]) from rfl) ?_
        refine V.getf hC tf_Y_7 (kd_in kd_130 (by decide)) (hp_at kd_130) rfl d_Y_choose_30 ?_
        show V X 0 0 tm_n (hp σ) 33 [some (.ref 130), some (.int l1), some (.int l2), some (.int l3), some (.int l4), some (.int (((7 : Int32) * l1) + l4)), none, none, none] [.ref 131]
        refine V.blk hC [(.iload 5, 2)] 33 [some (.ref 130), some (.int l1), some (.int l2), some (.int l3), some (.int l4), some (.int (((7 : Int32) * l1) + l4)), none, none, none] [.ref 131] ⟨d_Y_choose_33, trivial⟩ (show tv_run _ _ _ _ = some (35, [some (.ref 130), some (.int l1), some (.int l2), some (.int l3), some (.int l4), some (.int (((7 : Int32) * l1) + l4)), none, none, none], [.int (((7 : Int32) * l1) + l4), .ref 131]) from rfl) ?_
        obtain ⟨hb4, hf⟩ := tm_if hf
        refine V.iald hC (kd_in kd_131 (by decide)) (hp_at kd_131) rfl hb4 d_Y_choose_35 ?_
        show V X 0 0 tm_n (hp σ) 36 [some (.ref 130), some (.int l1), some (.int l2), some (.int l3), some (.int l4), some (.int (((7 : Int32) * l1) + l4)), none, none, none] [.int (σ.1 131 (((7 : Int32) * l1) + l4).toNatClampNeg)]
        refine V.if_le hC d_Y_choose_36 (tgt := 66) (by decide) (fun hc => ?_) (fun hc => ?_)
        · rw [if_pos hc] at hf
          exact V.less (tv_le_some (tv_le_some (tv_le_some (tv_le_some (tv_le_some (tv_le_some (tv_le_none (tv_le_none (tv_le_none tv_le_nil))))))))) (c_Y_choose_L66 hC hr hE hrc σ l1 l2 l3 l4 (((7 : Int32) * l1) + l4)  hf)
        · rw [if_neg hc] at hf
          refine V.blk hC [(.aload_n 0, 1)] 39 [some (.ref 130), some (.int l1), some (.int l2), some (.int l3), some (.int l4), some (.int (((7 : Int32) * l1) + l4)), none, none, none] [] ⟨d_Y_choose_39, trivial⟩ (show tv_run _ _ _ _ = some (40, [some (.ref 130), some (.int l1), some (.int l2), some (.int l3), some (.int l4), some (.int (((7 : Int32) * l1) + l4)), none, none, none], [.ref 130]) from rfl) ?_
          refine V.getf hC tf_Y_16 (kd_in kd_130 (by decide)) (hp_at kd_130) rfl d_Y_choose_40 ?_
          show V X 0 0 tm_n (hp σ) 43 [some (.ref 130), some (.int l1), some (.int l2), some (.int l3), some (.int l4), some (.int (((7 : Int32) * l1) + l4)), none, none, none] [.ref 133]
          refine V.blk hC [(.iload 5, 2)] 43 [some (.ref 130), some (.int l1), some (.int l2), some (.int l3), some (.int l4), some (.int (((7 : Int32) * l1) + l4)), none, none, none] [.ref 133] ⟨d_Y_choose_43, trivial⟩ (show tv_run _ _ _ _ = some (45, [some (.ref 130), some (.int l1), some (.int l2), some (.int l3), some (.int l4), some (.int (((7 : Int32) * l1) + l4)), none, none, none], [.int (((7 : Int32) * l1) + l4), .ref 133]) from rfl) ?_
          obtain ⟨hb5, hf⟩ := tm_if hf
          refine V.zald hC (kd_in kd_133 (by decide)) (hp_at kd_133) rfl hb5 d_Y_choose_45 ?_
          show V X 0 0 tm_n (hp σ) 46 [some (.ref 130), some (.int l1), some (.int l2), some (.int l3), some (.int l4), some (.int (((7 : Int32) * l1) + l4)), none, none, none] [.int (σ.1 133 (((7 : Int32) * l1) + l4).toNatClampNeg)]
          refine V.if_eq hC d_Y_choose_46 (tgt := 66) (by decide) (fun hc => ?_) (fun hc => ?_)
          · rw [if_pos hc] at hf
            exact V.less (tv_le_some (tv_le_some (tv_le_some (tv_le_some (tv_le_some (tv_le_some (tv_le_none (tv_le_none (tv_le_none tv_le_nil))))))))) (c_Y_choose_L66 hC hr hE hrc σ l1 l2 l3 l4 (((7 : Int32) * l1) + l4)  hf)
          · rw [if_neg hc] at hf
            refine V.blk hC [(.aload_n 0, 1)] 49 [some (.ref 130), some (.int l1), some (.int l2), some (.int l3), some (.int l4), some (.int (((7 : Int32) * l1) + l4)), none, none, none] [] ⟨d_Y_choose_49, trivial⟩ (show tv_run _ _ _ _ = some (50, [some (.ref 130), some (.int l1), some (.int l2), some (.int l3), some (.int l4), some (.int (((7 : Int32) * l1) + l4)), none, none, none], [.ref 130]) from rfl) ?_
            refine V.getf hC tf_Y_13 (kd_in kd_130 (by decide)) (hp_at kd_130) rfl d_Y_choose_50 ?_
            show V X 0 0 tm_n (hp σ) 53 [some (.ref 130), some (.int l1), some (.int l2), some (.int l3), some (.int l4), some (.int (((7 : Int32) * l1) + l4)), none, none, none] [.ref 132]
            refine V.blk hC [(.iload 5, 2)] 53 [some (.ref 130), some (.int l1), some (.int l2), some (.int l3), some (.int l4), some (.int (((7 : Int32) * l1) + l4)), none, none, none] [.ref 132] ⟨d_Y_choose_53, trivial⟩ (show tv_run _ _ _ _ = some (55, [some (.ref 130), some (.int l1), some (.int l2), some (.int l3), some (.int l4), some (.int (((7 : Int32) * l1) + l4)), none, none, none], [.int (((7 : Int32) * l1) + l4), .ref 132]) from rfl) ?_
            obtain ⟨hb6, hf⟩ := tm_if hf
            refine V.iald hC (kd_in kd_132 (by decide)) (hp_at kd_132) rfl hb6 d_Y_choose_55 ?_
            show V X 0 0 tm_n (hp σ) 56 [some (.ref 130), some (.int l1), some (.int l2), some (.int l3), some (.int l4), some (.int (((7 : Int32) * l1) + l4)), none, none, none] [.int (σ.1 132 (((7 : Int32) * l1) + l4).toNatClampNeg)]
            refine V.blk hC [(.sipush 255, 3)] 56 [some (.ref 130), some (.int l1), some (.int l2), some (.int l3), some (.int l4), some (.int (((7 : Int32) * l1) + l4)), none, none, none] [.int (σ.1 132 (((7 : Int32) * l1) + l4).toNatClampNeg)] ⟨d_Y_choose_56, trivial⟩ (show tv_run _ _ _ _ = some (59, [some (.ref 130), some (.int l1), some (.int l2), some (.int l3), some (.int l4), some (.int (((7 : Int32) * l1) + l4)), none, none, none], [.int (255 : Int32), .int (σ.1 132 (((7 : Int32) * l1) + l4).toNatClampNeg)]) from rfl) ?_
            refine V.icmp_eq hC d_Y_choose_59 (tgt := 66) (by decide) (fun hc => ?_) (fun hc => ?_)
            · rw [if_pos hc] at hf
              exact V.less (tv_le_some (tv_le_some (tv_le_some (tv_le_some (tv_le_some (tv_le_some (tv_le_none (tv_le_none (tv_le_none tv_le_nil))))))))) (c_Y_choose_L66 hC hr hE hrc σ l1 l2 l3 l4 (((7 : Int32) * l1) + l4)  hf)
            · rw [if_neg hc] at hf
              refine V.blk hC [(.iconst 1, 1)] 62 [some (.ref 130), some (.int l1), some (.int l2), some (.int l3), some (.int l4), some (.int (((7 : Int32) * l1) + l4)), none, none, none] [] ⟨d_Y_choose_62, trivial⟩ (show tv_run _ _ _ _ = some (63, [some (.ref 130), some (.int l1), some (.int l2), some (.int l3), some (.int l4), some (.int (((7 : Int32) * l1) + l4)), none, none, none], [.int (1 : Int32)]) from rfl) ?_
              refine V.goto hC d_Y_choose_63 (tgt := 67) (by decide) ?_
              exact V.less (tv_le_some (tv_le_some (tv_le_some (tv_le_some (tv_le_some (tv_le_some (tv_le_none (tv_le_none (tv_le_none tv_le_nil))))))))) (c_Y_choose_L67 hC hr hE hrc σ l1 l2 l3 l4 (((7 : Int32) * l1) + l4) (1 : Int32)  hf)
set_option maxHeartbeats 4000000 in
set_option maxRecDepth 100000 in
theorem c_Y_choose (σ : tm_S) (a1 : Int32)  {r : Int32 × tm_S} (hf : f_Y_choose σ a1 = some r) : tv_Met ty_Y_choose (Cond.code ty_Y_choose tb_Y_choose 9 (some .boolean) :: tm_wg) tm_ns tm_cl tm_ty 4 90 0 0 [.ref 130, .int a1] tm_n (hp σ) (tm_P (some (.int r.1)) r.2) := by
  refine tv_Met.of (by decide) rfl (tm_le rfl) ?_
  intro X hC hnm hr hE
  have hC : tv_K X tb_Y_choose 9 "TrickleMeshModel" tm_wg tm_ns tm_cl tm_ty { frames := 4, cells := 0, slots := 0, locals := 90 } := hC
  show V X 0 0 tm_n (hp σ) 0 [some (.ref 130), some (.int a1), none, none, none, none, none, none, none] []
  unfold f_Y_choose at hf
  refine V.blk hC [(.iconst (-1), 1), (.istore_n 2, 1), (.iconst 0, 1), (.istore_n 3, 1), (.iconst 0, 1), (.istore 4, 2)] 0 [some (.ref 130), some (.int a1), none, none, none, none, none, none, none] [] ⟨d_Y_choose_0, d_Y_choose_1, d_Y_choose_2, d_Y_choose_3, d_Y_choose_4, d_Y_choose_5, trivial⟩ (show tv_run _ _ _ _ = some (7, [some (.ref 130), some (.int a1), some (.int (-1 : Int32)), some (.int (0 : Int32)), some (.int (0 : Int32)), none, none, none, none], []) from rfl) ?_
  exact V.less (tv_le_some (tv_le_some (tv_le_some (tv_le_some (tv_le_some (tv_le_none (tv_le_none (tv_le_none (tv_le_none tv_le_nil))))))))) (c_Y_choose_L7 hC hr hE tm_fu σ a1 (-1 : Int32) (0 : Int32) (0 : Int32)  hf)
set_option maxHeartbeats 4000000 in
set_option maxRecDepth 100000 in
theorem c_Y_fails_L103 {X : tv_X} {r : tm_S} (hC : tv_K X tb_Y_fails 5 "TrickleMeshModel" tm_wg tm_ns tm_cl tm_ty { frames := 5, cells := 0, slots := 0, locals := 118 }) (hr : tv_ret X none) (hE : tv_end X (tm_P none r) 0 0) {rc : tm_S → Int32 → Int32 → Int32 → Option (tm_S)} (hrc : ∀ (σ : tm_S) (l1 : Int32) (l3 : Int32) (l4 : Int32), rc σ l1 l3 l4 = some r → V X 0 0 tm_n (hp σ) 53 [some (.ref 130), some (.int l1), none, some (.int l3), some (.int l4)] []) (σ : tm_S) (l1 : Int32) (l3 : Int32) (l4 : Int32) (s0 : Int32) (s1 : Int32)  (hf : f_Y_fails_L103 rc σ l1 l3 l4 s0 s1 = some r) : V X 0 0 tm_n (hp σ) 103 [some (.ref 130), some (.int l1), none, some (.int l3), some (.int l4)] [.int s0, .int s1, .ref 134] := by
  unfold f_Y_fails_L103 at hf
  obtain ⟨hb12, hf⟩ := tm_if hf
  obtain ⟨σ13, hσ13, hf⟩ := tm_ww hf
  refine V.seta hC kd_134 (kd_in kd_134 (by decide)) rfl rfl rfl hb12 d_Y_fails_103 ?_
  rw [← hσ13]
  refine V.blk hC [(.iinc 4 1, 3)] 104 [some (.ref 130), some (.int l1), none, some (.int l3), some (.int l4)] [] ⟨d_Y_fails_104, trivial⟩ (show tv_run _ _ _ _ = some (107, [some (.ref 130), some (.int l1), none, some (.int l3), some (.int (l4 + (1 : Int32)))], []) from rfl) ?_
  refine V.goto hC d_Y_fails_107 (tgt := 53) (by decide) ?_
  exact V.less (tv_le_some (tv_le_some (tv_le_none (tv_le_some (tv_le_some tv_le_nil))))) (hrc σ13 l1 l3 (l4 + (1 : Int32))  hf)
set_option maxHeartbeats 4000000 in
set_option maxRecDepth 100000 in
theorem c_Y_fails_L53 {X : tv_X} {r : tm_S} (hC : tv_K X tb_Y_fails 5 "TrickleMeshModel" tm_wg tm_ns tm_cl tm_ty { frames := 5, cells := 0, slots := 0, locals := 118 }) (hr : tv_ret X none) (hE : tv_end X (tm_P none r) 0 0) : ∀ (k : Nat) (σ : tm_S) (l1 : Int32) (l3 : Int32) (l4 : Int32), f_Y_fails_L53 k σ l1 l3 l4 = some r → V X 0 0 tm_n (hp σ) 53 [some (.ref 130), some (.int l1), none, some (.int l3), some (.int l4)] [] := by
  intro k
  induction k with
  | zero => intro σ l1 l3 l4  hf; simp only [f_Y_fails_L53] at hf; cases hf
  | succ k hrc =>
    intro σ l1 l3 l4  hf
    rw [f_Y_fails_L53] at hf
    refine V.blk hC [(.iload 4, 2), (.bipush 7, 2)] 53 [some (.ref 130), some (.int l1), none, some (.int l3), some (.int l4)] [] ⟨d_Y_fails_53, d_Y_fails_55, trivial⟩ (show tv_run _ _ _ _ = some (57, [some (.ref 130), some (.int l1), none, some (.int l3), some (.int l4)], [.int (7 : Int32), .int l4]) from rfl) ?_
    refine V.icmp_ge hC d_Y_fails_57 (tgt := 110) (by decide) (fun hc => ?_) (fun hc => ?_)
    · rw [if_pos hc] at hf
      refine V.blk hC [(.aload_n 0, 1)] 110 [some (.ref 130), some (.int l1), none, some (.int l3), some (.int l4)] [] ⟨d_Y_fails_110, trivial⟩ (show tv_run _ _ _ _ = some (111, [some (.ref 130), some (.int l1), none, some (.int l3), some (.int l4)], [.ref 130]) from rfl) ?_
      refine V.getf hC tf_Y_38 (kd_in kd_130 (by decide)) (hp_at kd_130) rfl d_Y_fails_111 ?_
      show V X 0 0 tm_n (hp σ) 114 [some (.ref 130), some (.int l1), none, some (.int l3), some (.int l4)] [.ref 140]
      refine V.blk hC [(.iload_n 1, 1)] 114 [some (.ref 130), some (.int l1), none, some (.int l3), some (.int l4)] [.ref 140] ⟨d_Y_fails_114, trivial⟩ (show tv_run _ _ _ _ = some (115, [some (.ref 130), some (.int l1), none, some (.int l3), some (.int l4)], [.int l1, .ref 140]) from rfl) ?_
      obtain ⟨hb6, hf⟩ := tm_if hf
      refine V.iald hC (kd_in kd_140 (by decide)) (hp_at kd_140) rfl hb6 d_Y_fails_115 ?_
      show V X 0 0 tm_n (hp σ) 116 [some (.ref 130), some (.int l1), none, some (.int l3), some (.int l4)] [.int (σ.1 140 l1.toNatClampNeg)]
      refine V.blk hC [(.iload_n 3, 1)] 116 [some (.ref 130), some (.int l1), none, some (.int l3), some (.int l4)] [.int (σ.1 140 l1.toNatClampNeg)] ⟨d_Y_fails_116, trivial⟩ (show tv_run _ _ _ _ = some (117, [some (.ref 130), some (.int l1), none, some (.int l3), some (.int l4)], [.int l3, .int (σ.1 140 l1.toNatClampNeg)]) from rfl) ?_
      refine V.icmp_ne hC d_Y_fails_117 (tgt := 138) (by decide) (fun hc => ?_) (fun hc => ?_)
      · rw [if_neg hc] at hf
        obtain rfl := Option.some.inj hf
        exact V.vret hC hr hE d_Y_fails_138 ⟨rfl, rfl, rfl⟩
      · rw [if_pos hc] at hf
        refine V.blk hC [(.aload_n 0, 1)] 120 [some (.ref 130), some (.int l1), none, some (.int l3), some (.int l4)] [] ⟨d_Y_fails_120, trivial⟩ (show tv_run _ _ _ _ = some (121, [some (.ref 130), some (.int l1), none, some (.int l3), some (.int l4)], [.ref 130]) from rfl) ?_
        refine V.getf hC tf_Y_16 (kd_in kd_130 (by decide)) (hp_at kd_130) rfl d_Y_fails_121 ?_
        show V X 0 0 tm_n (hp σ) 124 [some (.ref 130), some (.int l1), none, some (.int l3), some (.int l4)] [.ref 133]
        refine V.blk hC [(.bipush 7, 2), (.iload_n 1, 1), (.imul, 1), (.iload_n 3, 1), (.iadd, 1), (.iconst 0, 1)] 124 [some (.ref 130), some (.int l1), none, some (.int l3), some (.int l4)] [.ref 133] ⟨d_Y_fails_124, d_Y_fails_126, d_Y_fails_127, d_Y_fails_128, d_Y_fails_129, d_Y_fails_130, trivial⟩ (show tv_run _ _ _ _ = some (131, [some (.ref 130), some (.int l1), none, some (.int l3), some (.int l4)], [.int (0 : Int32), .int (((7 : Int32) * l1) + l3), .ref 133]) from rfl) ?_
        obtain ⟨hb7, hf⟩ := tm_if hf
        obtain ⟨σ8, hσ8, hf⟩ := tm_ww hf
        refine V.setz hC kd_133 (kd_in kd_133 (by decide)) rfl rfl rfl hb7 (by decide) d_Y_fails_131 ?_
        rw [← hσ8]
        refine V.blk hC [(.aload_n 0, 1), (.iload_n 1, 1)] 132 [some (.ref 130), some (.int l1), none, some (.int l3), some (.int l4)] [] ⟨d_Y_fails_132, d_Y_fails_133, trivial⟩ (show tv_run _ _ _ _ = some (134, [some (.ref 130), some (.int l1), none, some (.int l3), some (.int l4)], [.int l1, .ref 130]) from rfl) ?_
        obtain ⟨q9, hq9, hf⟩ := tm_bd hf
        refine V.callV hC tm_nest rfl (c_Y_choose σ8 l1  hq9) (tm_gd tc_Y_choose) tg_Y_171 th_Y_choose ⟨tm_le rfl, tm_le rfl, tm_le rfl, tm_le rfl⟩ rfl (kd_in kd_130 (by decide)) (hp_at kd_130) (As := [.int l1]) (st := []) rfl (tm_le rfl) d_Y_fails_134 ?_
        rintro v n2 h2 ⟨rfl, rfl, rfl⟩
        show V X 0 0 tm_n (hp q9.2) 137 [some (.ref 130), some (.int l1), none, some (.int l3), some (.int l4)] [.int q9.1]
        refine V.blk hC [(.pop, 1)] 137 [some (.ref 130), some (.int l1), none, some (.int l3), some (.int l4)] [.int q9.1] ⟨d_Y_fails_137, trivial⟩ (show tv_run _ _ _ _ = some (138, [some (.ref 130), some (.int l1), none, some (.int l3), some (.int l4)], []) from rfl) ?_
        obtain rfl := Option.some.inj hf
        exact V.vret hC hr hE d_Y_fails_138 ⟨rfl, rfl, rfl⟩
    · rw [if_neg hc] at hf
      refine V.blk hC [(.aload_n 0, 1)] 60 [some (.ref 130), some (.int l1), none, some (.int l3), some (.int l4)] [] ⟨d_Y_fails_60, trivial⟩ (show tv_run _ _ _ _ = some (61, [some (.ref 130), some (.int l1), none, some (.int l3), some (.int l4)], [.ref 130]) from rfl) ?_
      refine V.getf hC tf_Y_20 (kd_in kd_130 (by decide)) (hp_at kd_130) rfl d_Y_fails_61 ?_
      show V X 0 0 tm_n (hp σ) 64 [some (.ref 130), some (.int l1), none, some (.int l3), some (.int l4)] [.ref 134]
      refine V.blk hC [(.bipush 7, 2), (.iload_n 1, 1), (.imul, 1), (.iload 4, 2), (.iadd, 1), (.aload_n 0, 1)] 64 [some (.ref 130), some (.int l1), none, some (.int l3), some (.int l4)] [.ref 134] ⟨d_Y_fails_64, d_Y_fails_66, d_Y_fails_67, d_Y_fails_68, d_Y_fails_70, d_Y_fails_71, trivial⟩ (show tv_run _ _ _ _ = some (72, [some (.ref 130), some (.int l1), none, some (.int l3), some (.int l4)], [.ref 130, .int (((7 : Int32) * l1) + l4), .ref 134]) from rfl) ?_
      refine V.getf hC tf_Y_20 (kd_in kd_130 (by decide)) (hp_at kd_130) rfl d_Y_fails_72 ?_
      show V X 0 0 tm_n (hp σ) 75 [some (.ref 130), some (.int l1), none, some (.int l3), some (.int l4)] [.ref 134, .int (((7 : Int32) * l1) + l4), .ref 134]
      refine V.blk hC [(.bipush 7, 2), (.iload_n 1, 1), (.imul, 1), (.iload 4, 2), (.iadd, 1)] 75 [some (.ref 130), some (.int l1), none, some (.int l3), some (.int l4)] [.ref 134, .int (((7 : Int32) * l1) + l4), .ref 134] ⟨d_Y_fails_75, d_Y_fails_77, d_Y_fails_78, d_Y_fails_79, d_Y_fails_81, trivial⟩ (show tv_run _ _ _ _ = some (82, [some (.ref 130), some (.int l1), none, some (.int l3), some (.int l4)], [.int (((7 : Int32) * l1) + l4), .ref 134, .int (((7 : Int32) * l1) + l4), .ref 134]) from rfl) ?_
      obtain ⟨hb10, hf⟩ := tm_if hf
      refine V.iald hC (kd_in kd_134 (by decide)) (hp_at kd_134) rfl hb10 d_Y_fails_82 ?_
      show V X 0 0 tm_n (hp σ) 83 [some (.ref 130), some (.int l1), none, some (.int l3), some (.int l4)] [.int (σ.1 134 (((7 : Int32) * l1) + l4).toNatClampNeg), .int (((7 : Int32) * l1) + l4), .ref 134]
      refine V.blk hC [(.iload_n 3, 1)] 83 [some (.ref 130), some (.int l1), none, some (.int l3), some (.int l4)] [.int (σ.1 134 (((7 : Int32) * l1) + l4).toNatClampNeg), .int (((7 : Int32) * l1) + l4), .ref 134] ⟨d_Y_fails_83, trivial⟩ (show tv_run _ _ _ _ = some (84, [some (.ref 130), some (.int l1), none, some (.int l3), some (.int l4)], [.int l3, .int (σ.1 134 (((7 : Int32) * l1) + l4).toNatClampNeg), .int (((7 : Int32) * l1) + l4), .ref 134]) from rfl) ?_
      refine V.icmp_ne hC d_Y_fails_84 (tgt := 91) (by decide) (fun hc => ?_) (fun hc => ?_)
      · rw [if_neg hc] at hf
        refine V.blk hC [(.aload_n 0, 1)] 91 [some (.ref 130), some (.int l1), none, some (.int l3), some (.int l4)] [.int (((7 : Int32) * l1) + l4), .ref 134] ⟨d_Y_fails_91, trivial⟩ (show tv_run _ _ _ _ = some (92, [some (.ref 130), some (.int l1), none, some (.int l3), some (.int l4)], [.ref 130, .int (((7 : Int32) * l1) + l4), .ref 134]) from rfl) ?_
        refine V.getf hC tf_Y_20 (kd_in kd_130 (by decide)) (hp_at kd_130) rfl d_Y_fails_92 ?_
        show V X 0 0 tm_n (hp σ) 95 [some (.ref 130), some (.int l1), none, some (.int l3), some (.int l4)] [.ref 134, .int (((7 : Int32) * l1) + l4), .ref 134]
        refine V.blk hC [(.bipush 7, 2), (.iload_n 1, 1), (.imul, 1), (.iload 4, 2), (.iadd, 1)] 95 [some (.ref 130), some (.int l1), none, some (.int l3), some (.int l4)] [.ref 134, .int (((7 : Int32) * l1) + l4), .ref 134] ⟨d_Y_fails_95, d_Y_fails_97, d_Y_fails_98, d_Y_fails_99, d_Y_fails_101, trivial⟩ (show tv_run _ _ _ _ = some (102, [some (.ref 130), some (.int l1), none, some (.int l3), some (.int l4)], [.int (((7 : Int32) * l1) + l4), .ref 134, .int (((7 : Int32) * l1) + l4), .ref 134]) from rfl) ?_
        obtain ⟨hb11, hf⟩ := tm_if hf
        refine V.iald hC (kd_in kd_134 (by decide)) (hp_at kd_134) rfl hb11 d_Y_fails_102 ?_
        show V X 0 0 tm_n (hp σ) 103 [some (.ref 130), some (.int l1), none, some (.int l3), some (.int l4)] [.int (σ.1 134 (((7 : Int32) * l1) + l4).toNatClampNeg), .int (((7 : Int32) * l1) + l4), .ref 134]
        exact V.less (tv_le_some (tv_le_some (tv_le_none (tv_le_some (tv_le_some tv_le_nil))))) (c_Y_fails_L103 hC hr hE hrc σ l1 l3 l4 (σ.1 134 (((7 : Int32) * l1) + l4).toNatClampNeg) (((7 : Int32) * l1) + l4)  hf)
      · rw [if_pos hc] at hf
        refine V.blk hC [(.iconst (-1), 1)] 87 [some (.ref 130), some (.int l1), none, some (.int l3), some (.int l4)] [.int (((7 : Int32) * l1) + l4), .ref 134] ⟨d_Y_fails_87, trivial⟩ (show tv_run _ _ _ _ = some (88, [some (.ref 130), some (.int l1), none, some (.int l3), some (.int l4)], [.int (-1 : Int32), .int (((7 : Int32) * l1) + l4), .ref 134]) from rfl) ?_
        refine V.goto hC d_Y_fails_88 (tgt := 103) (by decide) ?_
        exact V.less (tv_le_some (tv_le_some (tv_le_none (tv_le_some (tv_le_some tv_le_nil))))) (c_Y_fails_L103 hC hr hE hrc σ l1 l3 l4 (-1 : Int32) (((7 : Int32) * l1) + l4)  hf)
set_option maxHeartbeats 4000000 in
set_option maxRecDepth 100000 in
theorem c_Y_fails_L36 {X : tv_X} {r : tm_S} (hC : tv_K X tb_Y_fails 5 "TrickleMeshModel" tm_wg tm_ns tm_cl tm_ty { frames := 5, cells := 0, slots := 0, locals := 118 }) (hr : tv_ret X none) (hE : tv_end X (tm_P none r) 0 0) (σ : tm_S) (l1 : Int32) (l3 : Int32) (s0 : Int32) (s1 : Int32)  (hf : f_Y_fails_L36 σ l1 l3 s0 s1 = some r) : V X 0 0 tm_n (hp σ) 36 [some (.ref 130), some (.int l1), none, some (.int l3), none] [.int s0, .int s1, .ref 130] := by
  unfold f_Y_fails_L36 at hf
  refine V.blk hC [(.iadd, 1)] 36 [some (.ref 130), some (.int l1), none, some (.int l3), none] [.int s0, .int s1, .ref 130] ⟨d_Y_fails_36, trivial⟩ (show tv_run _ _ _ _ = some (37, [some (.ref 130), some (.int l1), none, some (.int l3), none], [.int (s1 + s0), .ref 130]) from rfl) ?_
  obtain ⟨σ4, hσ4, hf⟩ := tm_ww hf
  refine V.seti hC tf_Y_162 tt_Y to_Y tn_Y rfl (by decide +kernel) tm_fi kd_130 (kd_in kd_130 (by decide)) rfl rfl (tm_le rfl) d_Y_fails_37 ?_
  rw [← hσ4]
  refine V.blk hC [(.aload_n 0, 1), (.iload_n 1, 1)] 40 [some (.ref 130), some (.int l1), none, some (.int l3), none] [] ⟨d_Y_fails_40, d_Y_fails_41, trivial⟩ (show tv_run _ _ _ _ = some (42, [some (.ref 130), some (.int l1), none, some (.int l3), none], [.int l1, .ref 130]) from rfl) ?_
  obtain ⟨q5, hq5, hf⟩ := tm_bd hf
  refine V.callV hC tm_nest rfl (c_Y_done σ4 l1  hq5) (tm_gd tc_Y_done) tg_Y_168 th_Y_done ⟨tm_le rfl, tm_le rfl, tm_le rfl, tm_le rfl⟩ rfl (kd_in kd_130 (by decide)) (hp_at kd_130) (As := [.int l1]) (st := []) rfl (tm_le rfl) d_Y_fails_42 ?_
  rintro v n2 h2 ⟨rfl, rfl, rfl⟩
  show V X 0 0 tm_n (hp q5) 45 [some (.ref 130), some (.int l1), none, some (.int l3), none] []
  refine V.blk hC [(.iload_n 3, 1)] 45 [some (.ref 130), some (.int l1), none, some (.int l3), none] [] ⟨d_Y_fails_45, trivial⟩ (show tv_run _ _ _ _ = some (46, [some (.ref 130), some (.int l1), none, some (.int l3), none], [.int l3]) from rfl) ?_
  refine V.if_ge hC d_Y_fails_46 (tgt := 50) (by decide) (fun hc => ?_) (fun hc => ?_)
  · rw [if_pos hc] at hf
    refine V.blk hC [(.iconst 0, 1), (.istore 4, 2)] 50 [some (.ref 130), some (.int l1), none, some (.int l3), none] [] ⟨d_Y_fails_50, d_Y_fails_51, trivial⟩ (show tv_run _ _ _ _ = some (53, [some (.ref 130), some (.int l1), none, some (.int l3), some (.int (0 : Int32))], []) from rfl) ?_
    exact V.less (tv_le_some (tv_le_some (tv_le_none (tv_le_some (tv_le_some tv_le_nil))))) (c_Y_fails_L53 hC hr hE tm_fu q5 l1 l3 (0 : Int32)  hf)
  · rw [if_neg hc] at hf
    obtain rfl := Option.some.inj hf
    exact V.vret hC hr hE d_Y_fails_49 ⟨rfl, rfl, rfl⟩
set_option maxHeartbeats 4000000 in
set_option maxRecDepth 100000 in
theorem c_Y_fails (σ : tm_S) (a1 : Int32)  {r : tm_S} (hf : f_Y_fails σ a1 = some r) : tv_Met ty_Y_fails (Cond.code ty_Y_fails tb_Y_fails 5 none :: tm_wg) tm_ns tm_cl tm_ty 5 118 0 0 [.ref 130, .int a1] tm_n (hp σ) (tm_P none r) := by
  refine tv_Met.of (by decide) rfl (tm_le rfl) ?_
  intro X hC hnm hr hE
  have hC : tv_K X tb_Y_fails 5 "TrickleMeshModel" tm_wg tm_ns tm_cl tm_ty { frames := 5, cells := 0, slots := 0, locals := 118 } := hC
  show V X 0 0 tm_n (hp σ) 0 [some (.ref 130), some (.int a1), none, none, none] []
  unfold f_Y_fails at hf
  refine V.blk hC [(.aload_n 0, 1)] 0 [some (.ref 130), some (.int a1), none, none, none] [] ⟨d_Y_fails_0, trivial⟩ (show tv_run _ _ _ _ = some (1, [some (.ref 130), some (.int a1), none, none, none], [.ref 130]) from rfl) ?_
  refine V.getf hC tf_Y_59 (kd_in kd_130 (by decide)) (hp_at kd_130) rfl d_Y_fails_1 ?_
  show V X 0 0 tm_n (hp σ) 4 [some (.ref 130), some (.int a1), none, none, none] [.ref 147]
  refine V.blk hC [(.iconst 4, 1), (.iload_n 1, 1), (.imul, 1)] 4 [some (.ref 130), some (.int a1), none, none, none] [.ref 147] ⟨d_Y_fails_4, d_Y_fails_5, d_Y_fails_6, trivial⟩ (show tv_run _ _ _ _ = some (7, [some (.ref 130), some (.int a1), none, none, none], [.int ((4 : Int32) * a1), .ref 147]) from rfl) ?_
  obtain ⟨hb1, hf⟩ := tm_if hf
  refine V.iald hC (kd_in kd_147 (by decide)) (hp_at kd_147) rfl hb1 d_Y_fails_7 ?_
  show V X 0 0 tm_n (hp σ) 8 [some (.ref 130), some (.int a1), none, none, none] [.int (σ.1 147 ((4 : Int32) * a1).toNatClampNeg)]
  refine V.blk hC [(.istore_n 2, 1), (.aload_n 0, 1)] 8 [some (.ref 130), some (.int a1), none, none, none] [.int (σ.1 147 ((4 : Int32) * a1).toNatClampNeg)] ⟨d_Y_fails_8, d_Y_fails_9, trivial⟩ (show tv_run _ _ _ _ = some (10, [some (.ref 130), some (.int a1), some (.int (σ.1 147 ((4 : Int32) * a1).toNatClampNeg)), none, none], [.ref 130]) from rfl) ?_
  refine V.getf hC tf_Y_89 (kd_in kd_130 (by decide)) (hp_at kd_130) rfl d_Y_fails_10 ?_
  show V X 0 0 tm_n (hp σ) 13 [some (.ref 130), some (.int a1), some (.int (σ.1 147 ((4 : Int32) * a1).toNatClampNeg)), none, none] [.ref 157]
  refine V.blk hC [(.iload_n 2, 1)] 13 [some (.ref 130), some (.int a1), some (.int (σ.1 147 ((4 : Int32) * a1).toNatClampNeg)), none, none] [.ref 157] ⟨d_Y_fails_13, trivial⟩ (show tv_run _ _ _ _ = some (14, [some (.ref 130), some (.int a1), some (.int (σ.1 147 ((4 : Int32) * a1).toNatClampNeg)), none, none], [.int (σ.1 147 ((4 : Int32) * a1).toNatClampNeg), .ref 157]) from rfl) ?_
  obtain ⟨hb2, hf⟩ := tm_if hf
  refine V.iald hC (kd_in kd_157 (by decide)) (hp_at kd_157) rfl hb2 d_Y_fails_14 ?_
  show V X 0 0 tm_n (hp σ) 15 [some (.ref 130), some (.int a1), some (.int (σ.1 147 ((4 : Int32) * a1).toNatClampNeg)), none, none] [.int (σ.1 157 (σ.1 147 ((4 : Int32) * a1).toNatClampNeg).toNatClampNeg)]
  refine V.blk hC [(.istore_n 3, 1), (.aload_n 0, 1), (.dup, 1)] 15 [some (.ref 130), some (.int a1), some (.int (σ.1 147 ((4 : Int32) * a1).toNatClampNeg)), none, none] [.int (σ.1 157 (σ.1 147 ((4 : Int32) * a1).toNatClampNeg).toNatClampNeg)] ⟨d_Y_fails_15, d_Y_fails_16, d_Y_fails_17, trivial⟩ (show tv_run _ _ _ _ = some (18, [some (.ref 130), some (.int a1), some (.int (σ.1 147 ((4 : Int32) * a1).toNatClampNeg)), some (.int (σ.1 157 (σ.1 147 ((4 : Int32) * a1).toNatClampNeg).toNatClampNeg)), none], [.ref 130, .ref 130]) from rfl) ?_
  refine V.getf hC tf_Y_162 (kd_in kd_130 (by decide)) (hp_at kd_130) rfl d_Y_fails_18 ?_
  show V X 0 0 tm_n (hp σ) 21 [some (.ref 130), some (.int a1), some (.int (σ.1 147 ((4 : Int32) * a1).toNatClampNeg)), some (.int (σ.1 157 (σ.1 147 ((4 : Int32) * a1).toNatClampNeg).toNatClampNeg)), none] [.int (σ.1 130 47), .ref 130]
  refine V.blk hC [(.aload_n 0, 1)] 21 [some (.ref 130), some (.int a1), some (.int (σ.1 147 ((4 : Int32) * a1).toNatClampNeg)), some (.int (σ.1 157 (σ.1 147 ((4 : Int32) * a1).toNatClampNeg).toNatClampNeg)), none] [.int (σ.1 130 47), .ref 130] ⟨d_Y_fails_21, trivial⟩ (show tv_run _ _ _ _ = some (22, [some (.ref 130), some (.int a1), some (.int (σ.1 147 ((4 : Int32) * a1).toNatClampNeg)), some (.int (σ.1 157 (σ.1 147 ((4 : Int32) * a1).toNatClampNeg).toNatClampNeg)), none], [.ref 130, .int (σ.1 130 47), .ref 130]) from rfl) ?_
  refine V.getf hC tf_Y_86 (kd_in kd_130 (by decide)) (hp_at kd_130) rfl d_Y_fails_22 ?_
  show V X 0 0 tm_n (hp σ) 25 [some (.ref 130), some (.int a1), some (.int (σ.1 147 ((4 : Int32) * a1).toNatClampNeg)), some (.int (σ.1 157 (σ.1 147 ((4 : Int32) * a1).toNatClampNeg).toNatClampNeg)), none] [.ref 156, .int (σ.1 130 47), .ref 130]
  refine V.blk hC [(.iload_n 2, 1)] 25 [some (.ref 130), some (.int a1), some (.int (σ.1 147 ((4 : Int32) * a1).toNatClampNeg)), some (.int (σ.1 157 (σ.1 147 ((4 : Int32) * a1).toNatClampNeg).toNatClampNeg)), none] [.ref 156, .int (σ.1 130 47), .ref 130] ⟨d_Y_fails_25, trivial⟩ (show tv_run _ _ _ _ = some (26, [some (.ref 130), some (.int a1), some (.int (σ.1 147 ((4 : Int32) * a1).toNatClampNeg)), some (.int (σ.1 157 (σ.1 147 ((4 : Int32) * a1).toNatClampNeg).toNatClampNeg)), none], [.int (σ.1 147 ((4 : Int32) * a1).toNatClampNeg), .ref 156, .int (σ.1 130 47), .ref 130]) from rfl) ?_
  obtain ⟨hb3, hf⟩ := tm_if hf
  refine V.iald hC (kd_in kd_156 (by decide)) (hp_at kd_156) rfl hb3 d_Y_fails_26 ?_
  show V X 0 0 tm_n (hp σ) 27 [some (.ref 130), some (.int a1), some (.int (σ.1 147 ((4 : Int32) * a1).toNatClampNeg)), some (.int (σ.1 157 (σ.1 147 ((4 : Int32) * a1).toNatClampNeg).toNatClampNeg)), none] [.int (σ.1 156 (σ.1 147 ((4 : Int32) * a1).toNatClampNeg).toNatClampNeg), .int (σ.1 130 47), .ref 130]
  refine V.blk hC [(.iconst 4, 1)] 27 [some (.ref 130), some (.int a1), some (.int (σ.1 147 ((4 : Int32) * a1).toNatClampNeg)), some (.int (σ.1 157 (σ.1 147 ((4 : Int32) * a1).toNatClampNeg).toNatClampNeg)), none] [.int (σ.1 156 (σ.1 147 ((4 : Int32) * a1).toNatClampNeg).toNatClampNeg), .int (σ.1 130 47), .ref 130] ⟨d_Y_fails_27, trivial⟩ (show tv_run _ _ _ _ = some (28, [some (.ref 130), some (.int a1), some (.int (σ.1 147 ((4 : Int32) * a1).toNatClampNeg)), some (.int (σ.1 157 (σ.1 147 ((4 : Int32) * a1).toNatClampNeg).toNatClampNeg)), none], [.int (4 : Int32), .int (σ.1 156 (σ.1 147 ((4 : Int32) * a1).toNatClampNeg).toNatClampNeg), .int (σ.1 130 47), .ref 130]) from rfl) ?_
  refine V.icmp_ne hC d_Y_fails_28 (tgt := 35) (by decide) (fun hc => ?_) (fun hc => ?_)
  · rw [if_neg hc] at hf
    refine V.blk hC [(.iconst 0, 1)] 35 [some (.ref 130), some (.int a1), some (.int (σ.1 147 ((4 : Int32) * a1).toNatClampNeg)), some (.int (σ.1 157 (σ.1 147 ((4 : Int32) * a1).toNatClampNeg).toNatClampNeg)), none] [.int (σ.1 130 47), .ref 130] ⟨d_Y_fails_35, trivial⟩ (show tv_run _ _ _ _ = some (36, [some (.ref 130), some (.int a1), some (.int (σ.1 147 ((4 : Int32) * a1).toNatClampNeg)), some (.int (σ.1 157 (σ.1 147 ((4 : Int32) * a1).toNatClampNeg).toNatClampNeg)), none], [.int (0 : Int32), .int (σ.1 130 47), .ref 130]) from rfl) ?_
    exact V.less (tv_le_some (tv_le_some (tv_le_none (tv_le_some (tv_le_none tv_le_nil))))) (c_Y_fails_L36 hC hr hE σ a1 (σ.1 157 (σ.1 147 ((4 : Int32) * a1).toNatClampNeg).toNatClampNeg) (0 : Int32) (σ.1 130 47)  hf)
  · rw [if_pos hc] at hf
    refine V.blk hC [(.iconst 1, 1)] 31 [some (.ref 130), some (.int a1), some (.int (σ.1 147 ((4 : Int32) * a1).toNatClampNeg)), some (.int (σ.1 157 (σ.1 147 ((4 : Int32) * a1).toNatClampNeg).toNatClampNeg)), none] [.int (σ.1 130 47), .ref 130] ⟨d_Y_fails_31, trivial⟩ (show tv_run _ _ _ _ = some (32, [some (.ref 130), some (.int a1), some (.int (σ.1 147 ((4 : Int32) * a1).toNatClampNeg)), some (.int (σ.1 157 (σ.1 147 ((4 : Int32) * a1).toNatClampNeg).toNatClampNeg)), none], [.int (1 : Int32), .int (σ.1 130 47), .ref 130]) from rfl) ?_
    refine V.goto hC d_Y_fails_32 (tgt := 36) (by decide) ?_
    exact V.less (tv_le_some (tv_le_some (tv_le_none (tv_le_some (tv_le_none tv_le_nil))))) (c_Y_fails_L36 hC hr hE σ a1 (σ.1 157 (σ.1 147 ((4 : Int32) * a1).toNatClampNeg).toNatClampNeg) (1 : Int32) (σ.1 130 47)  hf)
set_option maxHeartbeats 4000000 in
set_option maxRecDepth 100000 in
theorem c_Y_timer_L116 {X : tv_X} {r : tm_S} (hC : tv_K X tb_Y_timer 3 "TrickleMeshModel" tm_wg tm_ns tm_cl tm_ty { frames := 3, cells := 0, slots := 0, locals := 64 }) (hr : tv_ret X none) (hE : tv_end X (tm_P none r) 0 0) (σ : tm_S) (l1 : Int32) (s0 : Int32) (s1 : Int32)  (hf : f_Y_timer_L116 σ l1 s0 s1 = some r) : V X 0 0 tm_n (hp σ) 116 [some (.ref 130), some (.int l1), none] [.int s0, .int s1, .ref 143] := by
  unfold f_Y_timer_L116 at hf
  obtain ⟨hb15, hf⟩ := tm_if hf
  obtain ⟨σ16, hσ16, hf⟩ := tm_ww hf
  refine V.seta hC kd_143 (kd_in kd_143 (by decide)) rfl rfl rfl hb15 d_Y_timer_116 ?_
  rw [← hσ16]
  refine V.blk hC [(.aload_n 0, 1), (.iload_n 1, 1)] 117 [some (.ref 130), some (.int l1), none] [] ⟨d_Y_timer_117, d_Y_timer_118, trivial⟩ (show tv_run _ _ _ _ = some (119, [some (.ref 130), some (.int l1), none], [.int l1, .ref 130]) from rfl) ?_
  obtain ⟨q17, hq17, hf⟩ := tm_bd hf
  refine V.callV hC tm_nest rfl (c_Y_begin σ16 l1  hq17) (tm_gd tc_Y_begin) tg_Y_175 th_Y_begin ⟨tm_le rfl, tm_le rfl, tm_le rfl, tm_le rfl⟩ rfl (kd_in kd_130 (by decide)) (hp_at kd_130) (As := [.int l1]) (st := []) rfl (tm_le rfl) d_Y_timer_119 ?_
  rintro v n2 h2 ⟨rfl, rfl, rfl⟩
  show V X 0 0 tm_n (hp q17) 122 [some (.ref 130), some (.int l1), none] []
  obtain rfl := Option.some.inj hf
  exact V.vret hC hr hE d_Y_timer_122 ⟨rfl, rfl, rfl⟩
set_option maxHeartbeats 4000000 in
set_option maxRecDepth 100000 in
theorem c_Y_timer_L70 {X : tv_X} {r : tm_S} (hC : tv_K X tb_Y_timer 3 "TrickleMeshModel" tm_wg tm_ns tm_cl tm_ty { frames := 3, cells := 0, slots := 0, locals := 64 }) (hr : tv_ret X none) (hE : tv_end X (tm_P none r) 0 0) (σ : tm_S) (l1 : Int32)  (hf : f_Y_timer_L70 σ l1 = some r) : V X 0 0 tm_n (hp σ) 70 [some (.ref 130), some (.int l1), none] [] := by
  unfold f_Y_timer_L70 at hf
  refine V.blk hC [(.aload_n 0, 1)] 70 [some (.ref 130), some (.int l1), none] [] ⟨d_Y_timer_70, trivial⟩ (show tv_run _ _ _ _ = some (71, [some (.ref 130), some (.int l1), none], [.ref 130]) from rfl) ?_
  refine V.getf hC tf_Y_50 (kd_in kd_130 (by decide)) (hp_at kd_130) rfl d_Y_timer_71 ?_
  show V X 0 0 tm_n (hp σ) 74 [some (.ref 130), some (.int l1), none] [.ref 144]
  refine V.blk hC [(.iload_n 1, 1)] 74 [some (.ref 130), some (.int l1), none] [.ref 144] ⟨d_Y_timer_74, trivial⟩ (show tv_run _ _ _ _ = some (75, [some (.ref 130), some (.int l1), none], [.int l1, .ref 144]) from rfl) ?_
  obtain ⟨hb11, hf⟩ := tm_if hf
  refine V.iald hC (kd_in kd_144 (by decide)) (hp_at kd_144) rfl hb11 d_Y_timer_75 ?_
  show V X 0 0 tm_n (hp σ) 76 [some (.ref 130), some (.int l1), none] [.int (σ.1 144 l1.toNatClampNeg)]
  refine V.blk hC [(.aload_n 0, 1)] 76 [some (.ref 130), some (.int l1), none] [.int (σ.1 144 l1.toNatClampNeg)] ⟨d_Y_timer_76, trivial⟩ (show tv_run _ _ _ _ = some (77, [some (.ref 130), some (.int l1), none], [.ref 130, .int (σ.1 144 l1.toNatClampNeg)]) from rfl) ?_
  refine V.getf hC tf_Y_47 (kd_in kd_130 (by decide)) (hp_at kd_130) rfl d_Y_timer_77 ?_
  show V X 0 0 tm_n (hp σ) 80 [some (.ref 130), some (.int l1), none] [.ref 143, .int (σ.1 144 l1.toNatClampNeg)]
  refine V.blk hC [(.iload_n 1, 1)] 80 [some (.ref 130), some (.int l1), none] [.ref 143, .int (σ.1 144 l1.toNatClampNeg)] ⟨d_Y_timer_80, trivial⟩ (show tv_run _ _ _ _ = some (81, [some (.ref 130), some (.int l1), none], [.int l1, .ref 143, .int (σ.1 144 l1.toNatClampNeg)]) from rfl) ?_
  obtain ⟨hb12, hf⟩ := tm_if hf
  refine V.iald hC (kd_in kd_143 (by decide)) (hp_at kd_143) rfl hb12 d_Y_timer_81 ?_
  show V X 0 0 tm_n (hp σ) 82 [some (.ref 130), some (.int l1), none] [.int (σ.1 143 l1.toNatClampNeg), .int (σ.1 144 l1.toNatClampNeg)]
  refine V.icmp_ne hC d_Y_timer_82 (tgt := 122) (by decide) (fun hc => ?_) (fun hc => ?_)
  · rw [if_neg hc] at hf
    obtain rfl := Option.some.inj hf
    exact V.vret hC hr hE d_Y_timer_122 ⟨rfl, rfl, rfl⟩
  · rw [if_pos hc] at hf
    refine V.blk hC [(.aload_n 0, 1)] 85 [some (.ref 130), some (.int l1), none] [] ⟨d_Y_timer_85, trivial⟩ (show tv_run _ _ _ _ = some (86, [some (.ref 130), some (.int l1), none], [.ref 130]) from rfl) ?_
    refine V.getf hC tf_Y_47 (kd_in kd_130 (by decide)) (hp_at kd_130) rfl d_Y_timer_86 ?_
    show V X 0 0 tm_n (hp σ) 89 [some (.ref 130), some (.int l1), none] [.ref 143]
    refine V.blk hC [(.iload_n 1, 1), (.iconst 2, 1), (.aload_n 0, 1)] 89 [some (.ref 130), some (.int l1), none] [.ref 143] ⟨d_Y_timer_89, d_Y_timer_90, d_Y_timer_91, trivial⟩ (show tv_run _ _ _ _ = some (92, [some (.ref 130), some (.int l1), none], [.ref 130, .int (2 : Int32), .int l1, .ref 143]) from rfl) ?_
    refine V.getf hC tf_Y_47 (kd_in kd_130 (by decide)) (hp_at kd_130) rfl d_Y_timer_92 ?_
    show V X 0 0 tm_n (hp σ) 95 [some (.ref 130), some (.int l1), none] [.ref 143, .int (2 : Int32), .int l1, .ref 143]
    refine V.blk hC [(.iload_n 1, 1)] 95 [some (.ref 130), some (.int l1), none] [.ref 143, .int (2 : Int32), .int l1, .ref 143] ⟨d_Y_timer_95, trivial⟩ (show tv_run _ _ _ _ = some (96, [some (.ref 130), some (.int l1), none], [.int l1, .ref 143, .int (2 : Int32), .int l1, .ref 143]) from rfl) ?_
    obtain ⟨hb13, hf⟩ := tm_if hf
    refine V.iald hC (kd_in kd_143 (by decide)) (hp_at kd_143) rfl hb13 d_Y_timer_96 ?_
    show V X 0 0 tm_n (hp σ) 97 [some (.ref 130), some (.int l1), none] [.int (σ.1 143 l1.toNatClampNeg), .int (2 : Int32), .int l1, .ref 143]
    refine V.blk hC [(.imul, 1), (.bipush 64, 2)] 97 [some (.ref 130), some (.int l1), none] [.int (σ.1 143 l1.toNatClampNeg), .int (2 : Int32), .int l1, .ref 143] ⟨d_Y_timer_97, d_Y_timer_98, trivial⟩ (show tv_run _ _ _ _ = some (100, [some (.ref 130), some (.int l1), none], [.int (64 : Int32), .int ((2 : Int32) * (σ.1 143 l1.toNatClampNeg)), .int l1, .ref 143]) from rfl) ?_
    refine V.icmp_le hC d_Y_timer_100 (tgt := 108) (by decide) (fun hc => ?_) (fun hc => ?_)
    · rw [if_pos hc] at hf
      refine V.blk hC [(.iconst 2, 1), (.aload_n 0, 1)] 108 [some (.ref 130), some (.int l1), none] [.int l1, .ref 143] ⟨d_Y_timer_108, d_Y_timer_109, trivial⟩ (show tv_run _ _ _ _ = some (110, [some (.ref 130), some (.int l1), none], [.ref 130, .int (2 : Int32), .int l1, .ref 143]) from rfl) ?_
      refine V.getf hC tf_Y_47 (kd_in kd_130 (by decide)) (hp_at kd_130) rfl d_Y_timer_110 ?_
      show V X 0 0 tm_n (hp σ) 113 [some (.ref 130), some (.int l1), none] [.ref 143, .int (2 : Int32), .int l1, .ref 143]
      refine V.blk hC [(.iload_n 1, 1)] 113 [some (.ref 130), some (.int l1), none] [.ref 143, .int (2 : Int32), .int l1, .ref 143] ⟨d_Y_timer_113, trivial⟩ (show tv_run _ _ _ _ = some (114, [some (.ref 130), some (.int l1), none], [.int l1, .ref 143, .int (2 : Int32), .int l1, .ref 143]) from rfl) ?_
      obtain ⟨hb14, hf⟩ := tm_if hf
      refine V.iald hC (kd_in kd_143 (by decide)) (hp_at kd_143) rfl hb14 d_Y_timer_114 ?_
      show V X 0 0 tm_n (hp σ) 115 [some (.ref 130), some (.int l1), none] [.int (σ.1 143 l1.toNatClampNeg), .int (2 : Int32), .int l1, .ref 143]
      refine V.blk hC [(.imul, 1)] 115 [some (.ref 130), some (.int l1), none] [.int (σ.1 143 l1.toNatClampNeg), .int (2 : Int32), .int l1, .ref 143] ⟨d_Y_timer_115, trivial⟩ (show tv_run _ _ _ _ = some (116, [some (.ref 130), some (.int l1), none], [.int ((2 : Int32) * (σ.1 143 l1.toNatClampNeg)), .int l1, .ref 143]) from rfl) ?_
      exact V.less (tv_le_some (tv_le_some (tv_le_none tv_le_nil))) (c_Y_timer_L116 hC hr hE σ l1 ((2 : Int32) * (σ.1 143 l1.toNatClampNeg)) l1  hf)
    · rw [if_neg hc] at hf
      refine V.blk hC [(.bipush 64, 2)] 103 [some (.ref 130), some (.int l1), none] [.int l1, .ref 143] ⟨d_Y_timer_103, trivial⟩ (show tv_run _ _ _ _ = some (105, [some (.ref 130), some (.int l1), none], [.int (64 : Int32), .int l1, .ref 143]) from rfl) ?_
      refine V.goto hC d_Y_timer_105 (tgt := 116) (by decide) ?_
      exact V.less (tv_le_some (tv_le_some (tv_le_none tv_le_nil))) (c_Y_timer_L116 hC hr hE σ l1 (64 : Int32) l1  hf)
set_option maxHeartbeats 4000000 in
set_option maxRecDepth 100000 in
theorem c_Y_timer (σ : tm_S) (a1 : Int32)  {r : tm_S} (hf : f_Y_timer σ a1 = some r) : tv_Met ty_Y_timer (Cond.code ty_Y_timer tb_Y_timer 3 none :: tm_wg) tm_ns tm_cl tm_ty 3 64 0 0 [.ref 130, .int a1] tm_n (hp σ) (tm_P none r) := by
  refine tv_Met.of (by decide) rfl (tm_le rfl) ?_
  intro X hC hnm hr hE
  have hC : tv_K X tb_Y_timer 3 "TrickleMeshModel" tm_wg tm_ns tm_cl tm_ty { frames := 3, cells := 0, slots := 0, locals := 64 } := hC
  show V X 0 0 tm_n (hp σ) 0 [some (.ref 130), some (.int a1), none] []
  unfold f_Y_timer at hf
  refine V.blk hC [(.aload_n 0, 1)] 0 [some (.ref 130), some (.int a1), none] [] ⟨d_Y_timer_0, trivial⟩ (show tv_run _ _ _ _ = some (1, [some (.ref 130), some (.int a1), none], [.ref 130]) from rfl) ?_
  refine V.getf hC tf_Y_44 (kd_in kd_130 (by decide)) (hp_at kd_130) rfl d_Y_timer_1 ?_
  show V X 0 0 tm_n (hp σ) 4 [some (.ref 130), some (.int a1), none] [.ref 142]
  refine V.blk hC [(.iload_n 1, 1)] 4 [some (.ref 130), some (.int a1), none] [.ref 142] ⟨d_Y_timer_4, trivial⟩ (show tv_run _ _ _ _ = some (5, [some (.ref 130), some (.int a1), none], [.int a1, .ref 142]) from rfl) ?_
  obtain ⟨hb1, hf⟩ := tm_if hf
  refine V.zald hC (kd_in kd_142 (by decide)) (hp_at kd_142) rfl hb1 d_Y_timer_5 ?_
  show V X 0 0 tm_n (hp σ) 6 [some (.ref 130), some (.int a1), none] [.int (σ.1 142 a1.toNatClampNeg)]
  refine V.if_ne hC d_Y_timer_6 (tgt := 10) (by decide) (fun hc => ?_) (fun hc => ?_)
  · rw [if_neg hc] at hf
    refine V.blk hC [(.aload_n 0, 1)] 10 [some (.ref 130), some (.int a1), none] [] ⟨d_Y_timer_10, trivial⟩ (show tv_run _ _ _ _ = some (11, [some (.ref 130), some (.int a1), none], [.ref 130]) from rfl) ?_
    refine V.getf hC tf_Y_50 (kd_in kd_130 (by decide)) (hp_at kd_130) rfl d_Y_timer_11 ?_
    show V X 0 0 tm_n (hp σ) 14 [some (.ref 130), some (.int a1), none] [.ref 144]
    refine V.blk hC [(.iload_n 1, 1), (.dup2, 1)] 14 [some (.ref 130), some (.int a1), none] [.ref 144] ⟨d_Y_timer_14, d_Y_timer_15, trivial⟩ (show tv_run _ _ _ _ = some (16, [some (.ref 130), some (.int a1), none], [.int a1, .ref 144, .int a1, .ref 144]) from rfl) ?_
    obtain ⟨hb2, hf⟩ := tm_if hf
    refine V.iald hC (kd_in kd_144 (by decide)) (hp_at kd_144) rfl hb2 d_Y_timer_16 ?_
    show V X 0 0 tm_n (hp σ) 17 [some (.ref 130), some (.int a1), none] [.int (σ.1 144 a1.toNatClampNeg), .int a1, .ref 144]
    refine V.blk hC [(.iconst 1, 1), (.iadd, 1)] 17 [some (.ref 130), some (.int a1), none] [.int (σ.1 144 a1.toNatClampNeg), .int a1, .ref 144] ⟨d_Y_timer_17, d_Y_timer_18, trivial⟩ (show tv_run _ _ _ _ = some (19, [some (.ref 130), some (.int a1), none], [.int ((σ.1 144 a1.toNatClampNeg) + (1 : Int32)), .int a1, .ref 144]) from rfl) ?_
    obtain ⟨hb3, hf⟩ := tm_if hf
    obtain ⟨σ4, hσ4, hf⟩ := tm_ww hf
    refine V.seta hC kd_144 (kd_in kd_144 (by decide)) rfl rfl rfl hb3 d_Y_timer_19 ?_
    rw [← hσ4]
    refine V.blk hC [(.aload_n 0, 1)] 20 [some (.ref 130), some (.int a1), none] [] ⟨d_Y_timer_20, trivial⟩ (show tv_run _ _ _ _ = some (21, [some (.ref 130), some (.int a1), none], [.ref 130]) from rfl) ?_
    refine V.getf hC tf_Y_50 (kd_in kd_130 (by decide)) (hp_at kd_130) rfl d_Y_timer_21 ?_
    show V X 0 0 tm_n (hp σ4) 24 [some (.ref 130), some (.int a1), none] [.ref 144]
    refine V.blk hC [(.iload_n 1, 1)] 24 [some (.ref 130), some (.int a1), none] [.ref 144] ⟨d_Y_timer_24, trivial⟩ (show tv_run _ _ _ _ = some (25, [some (.ref 130), some (.int a1), none], [.int a1, .ref 144]) from rfl) ?_
    obtain ⟨hb5, hf⟩ := tm_if hf
    refine V.iald hC (kd_in kd_144 (by decide)) (hp_at kd_144) rfl hb5 d_Y_timer_25 ?_
    show V X 0 0 tm_n (hp σ4) 26 [some (.ref 130), some (.int a1), none] [.int (σ4.1 144 a1.toNatClampNeg)]
    refine V.blk hC [(.aload_n 0, 1)] 26 [some (.ref 130), some (.int a1), none] [.int (σ4.1 144 a1.toNatClampNeg)] ⟨d_Y_timer_26, trivial⟩ (show tv_run _ _ _ _ = some (27, [some (.ref 130), some (.int a1), none], [.ref 130, .int (σ4.1 144 a1.toNatClampNeg)]) from rfl) ?_
    refine V.getf hC tf_Y_53 (kd_in kd_130 (by decide)) (hp_at kd_130) rfl d_Y_timer_27 ?_
    show V X 0 0 tm_n (hp σ4) 30 [some (.ref 130), some (.int a1), none] [.ref 145, .int (σ4.1 144 a1.toNatClampNeg)]
    refine V.blk hC [(.iload_n 1, 1)] 30 [some (.ref 130), some (.int a1), none] [.ref 145, .int (σ4.1 144 a1.toNatClampNeg)] ⟨d_Y_timer_30, trivial⟩ (show tv_run _ _ _ _ = some (31, [some (.ref 130), some (.int a1), none], [.int a1, .ref 145, .int (σ4.1 144 a1.toNatClampNeg)]) from rfl) ?_
    obtain ⟨hb6, hf⟩ := tm_if hf
    refine V.iald hC (kd_in kd_145 (by decide)) (hp_at kd_145) rfl hb6 d_Y_timer_31 ?_
    show V X 0 0 tm_n (hp σ4) 32 [some (.ref 130), some (.int a1), none] [.int (σ4.1 145 a1.toNatClampNeg), .int (σ4.1 144 a1.toNatClampNeg)]
    refine V.icmp_ne hC d_Y_timer_32 (tgt := 70) (by decide) (fun hc => ?_) (fun hc => ?_)
    · rw [if_neg hc] at hf
      exact V.less (tv_le_some (tv_le_some (tv_le_none tv_le_nil))) (c_Y_timer_L70 hC hr hE σ4 a1  hf)
    · rw [if_pos hc] at hf
      refine V.blk hC [(.aload_n 0, 1)] 35 [some (.ref 130), some (.int a1), none] [] ⟨d_Y_timer_35, trivial⟩ (show tv_run _ _ _ _ = some (36, [some (.ref 130), some (.int a1), none], [.ref 130]) from rfl) ?_
      refine V.getf hC tf_Y_56 (kd_in kd_130 (by decide)) (hp_at kd_130) rfl d_Y_timer_36 ?_
      show V X 0 0 tm_n (hp σ4) 39 [some (.ref 130), some (.int a1), none] [.ref 146]
      refine V.blk hC [(.iload_n 1, 1)] 39 [some (.ref 130), some (.int a1), none] [.ref 146] ⟨d_Y_timer_39, trivial⟩ (show tv_run _ _ _ _ = some (40, [some (.ref 130), some (.int a1), none], [.int a1, .ref 146]) from rfl) ?_
      obtain ⟨hb7, hf⟩ := tm_if hf
      refine V.iald hC (kd_in kd_146 (by decide)) (hp_at kd_146) rfl hb7 d_Y_timer_40 ?_
      show V X 0 0 tm_n (hp σ4) 41 [some (.ref 130), some (.int a1), none] [.int (σ4.1 146 a1.toNatClampNeg)]
      refine V.blk hC [(.aload_n 0, 1)] 41 [some (.ref 130), some (.int a1), none] [.int (σ4.1 146 a1.toNatClampNeg)] ⟨d_Y_timer_41, trivial⟩ (show tv_run _ _ _ _ = some (42, [some (.ref 130), some (.int a1), none], [.ref 130, .int (σ4.1 146 a1.toNatClampNeg)]) from rfl) ?_
      refine V.getf hC tf_Y_147 (kd_in kd_130 (by decide)) (hp_at kd_130) rfl d_Y_timer_42 ?_
      show V X 0 0 tm_n (hp σ4) 45 [some (.ref 130), some (.int a1), none] [.int (σ4.1 130 2), .int (σ4.1 146 a1.toNatClampNeg)]
      refine V.icmp_ge hC d_Y_timer_45 (tgt := 70) (by decide) (fun hc => ?_) (fun hc => ?_)
      · rw [if_pos hc] at hf
        exact V.less (tv_le_some (tv_le_some (tv_le_none tv_le_nil))) (c_Y_timer_L70 hC hr hE σ4 a1  hf)
      · rw [if_neg hc] at hf
        refine V.blk hC [(.aload_n 0, 1), (.iload_n 1, 1), (.iconst 2, 1)] 48 [some (.ref 130), some (.int a1), none] [] ⟨d_Y_timer_48, d_Y_timer_49, d_Y_timer_50, trivial⟩ (show tv_run _ _ _ _ = some (51, [some (.ref 130), some (.int a1), none], [.int (2 : Int32), .int a1, .ref 130]) from rfl) ?_
        obtain ⟨q8, hq8, hf⟩ := tm_bd hf
        refine V.callV hC tm_nest rfl (c_Y_queues σ4 a1 (2 : Int32)  hq8) (tm_gd tc_Y_queues) tg_Y_178 th_Y_queues ⟨tm_le rfl, tm_le rfl, tm_le rfl, tm_le rfl⟩ rfl (kd_in kd_130 (by decide)) (hp_at kd_130) (As := [.int a1, .int (2 : Int32)]) (st := []) rfl (tm_le rfl) d_Y_timer_51 ?_
        rintro v n2 h2 ⟨rfl, rfl, rfl⟩
        show V X 0 0 tm_n (hp q8.2) 54 [some (.ref 130), some (.int a1), none] [.int q8.1]
        refine V.if_ne hC d_Y_timer_54 (tgt := 70) (by decide) (fun hc => ?_) (fun hc => ?_)
        · rw [if_neg hc] at hf
          exact V.less (tv_le_some (tv_le_some (tv_le_none tv_le_nil))) (c_Y_timer_L70 hC hr hE q8.2 a1  hf)
        · rw [if_pos hc] at hf
          refine V.blk hC [(.aload_n 0, 1), (.iconst 2, 1), (.iconst (-1), 1)] 57 [some (.ref 130), some (.int a1), none] [] ⟨d_Y_timer_57, d_Y_timer_58, d_Y_timer_59, trivial⟩ (show tv_run _ _ _ _ = some (60, [some (.ref 130), some (.int a1), none], [.int (-1 : Int32), .int (2 : Int32), .ref 130]) from rfl) ?_
          obtain ⟨q9, hq9, hf⟩ := tm_bd hf
          refine V.callV hC tm_nest rfl (c_Y_makeFrame q8.2 (2 : Int32) (-1 : Int32)  hq9) (tm_gd tc_Y_makeFrame) tg_Y_182 th_Y_makeFrame ⟨tm_le rfl, tm_le rfl, tm_le rfl, tm_le rfl⟩ rfl (kd_in kd_130 (by decide)) (hp_at kd_130) (As := [.int (2 : Int32), .int (-1 : Int32)]) (st := []) rfl (tm_le rfl) d_Y_timer_60 ?_
          rintro v n2 h2 ⟨rfl, rfl, rfl⟩
          show V X 0 0 tm_n (hp q9.2) 63 [some (.ref 130), some (.int a1), none] [.int q9.1]
          refine V.blk hC [(.istore_n 2, 1), (.aload_n 0, 1), (.iload_n 1, 1), (.iload_n 2, 1)] 63 [some (.ref 130), some (.int a1), none] [.int q9.1] ⟨d_Y_timer_63, d_Y_timer_64, d_Y_timer_65, d_Y_timer_66, trivial⟩ (show tv_run _ _ _ _ = some (67, [some (.ref 130), some (.int a1), some (.int q9.1)], [.int q9.1, .int a1, .ref 130]) from rfl) ?_
          obtain ⟨q10, hq10, hf⟩ := tm_bd hf
          refine V.callV hC tm_nest rfl (c_Y_queue q9.2 a1 q9.1  hq10) (tm_gd tc_Y_queue) tg_Y_186 th_Y_queue ⟨tm_le rfl, tm_le rfl, tm_le rfl, tm_le rfl⟩ rfl (kd_in kd_130 (by decide)) (hp_at kd_130) (As := [.int a1, .int q9.1]) (st := []) rfl (tm_le rfl) d_Y_timer_67 ?_
          rintro v n2 h2 ⟨rfl, rfl, rfl⟩
          show V X 0 0 tm_n (hp q10) 70 [some (.ref 130), some (.int a1), some (.int q9.1)] []
          exact V.less (tv_le_some (tv_le_some (tv_le_none tv_le_nil))) (c_Y_timer_L70 hC hr hE q10 a1  hf)
  · rw [if_pos hc] at hf
    obtain rfl := Option.some.inj hf
    exact V.vret hC hr hE d_Y_timer_9 ⟨rfl, rfl, rfl⟩
