set_option maxHeartbeats 4000000 in
set_option maxRecDepth 100000 in
theorem c_Y_announced_L69 {X : tv_X} {r : tm_S} (hC : tv_K X tb_Y_announced 10 "TrickleMeshModel" tm_wg tm_ns tm_cl tm_ty { frames := 4, cells := 0, slots := 0, locals := 90 }) (hr : tv_ret X none) (hE : tv_end X (tm_P none r) 0 0) {rc : tm_S → Int32 → Int32 → Int32 → Int32 → Int32 → Option (tm_S)} (hrc : ∀ (σ : tm_S) (l1 : Int32) (l2 : Int32) (l3 : Int32) (l4 : Int32) (l5 : Int32), rc σ l1 l2 l3 l4 l5 = some r → V X 0 0 tm_n (hp σ) 6 [some (.ref 130), some (.int l1), some (.int l2), some (.int l3), some (.int l4), some (.int l5), none, none, none, none] []) (σ : tm_S) (l1 : Int32) (l2 : Int32) (l3 : Int32) (l4 : Int32) (l5 : Int32) (l6 : Int32)  (hf : f_Y_announced_L69 rc σ l1 l2 l3 l4 l5 l6 = some r) : V X 0 0 tm_n (hp σ) 69 [some (.ref 130), some (.int l1), some (.int l2), some (.int l3), some (.int l4), some (.int l5), some (.int l6), none, none, none] [] := by
  unfold f_Y_announced_L69 at hf
  refine V.blk hC [(.iconst 0, 1)] 69 [some (.ref 130), some (.int l1), some (.int l2), some (.int l3), some (.int l4), some (.int l5), some (.int l6), none, none, none] [] ⟨d_Y_announced_69, trivial⟩ (show tv_run _ _ _ _ = some (70, [some (.ref 130), some (.int l1), some (.int l2), some (.int l3), some (.int l4), some (.int l5), some (.int l6), none, none, none], [.int (0 : Int32)]) from rfl) ?_
  exact V.less (tv_le_some (tv_le_some (tv_le_some (tv_le_some (tv_le_some (tv_le_some (tv_le_some (tv_le_none (tv_le_none (tv_le_none tv_le_nil)))))))))) (c_Y_announced_L70 hC hr hE hrc σ l1 l2 l3 l4 l5 l6 (0 : Int32)  hf)
set_option maxHeartbeats 4000000 in
set_option maxRecDepth 100000 in
theorem c_Y_announced_L6 {X : tv_X} {r : tm_S} (hC : tv_K X tb_Y_announced 10 "TrickleMeshModel" tm_wg tm_ns tm_cl tm_ty { frames := 4, cells := 0, slots := 0, locals := 90 }) (hr : tv_ret X none) (hE : tv_end X (tm_P none r) 0 0) : ∀ (k : Nat) (σ : tm_S) (l1 : Int32) (l2 : Int32) (l3 : Int32) (l4 : Int32) (l5 : Int32), f_Y_announced_L6 k σ l1 l2 l3 l4 l5 = some r → V X 0 0 tm_n (hp σ) 6 [some (.ref 130), some (.int l1), some (.int l2), some (.int l3), some (.int l4), some (.int l5), none, none, none, none] [] := by
  intro k
  induction k with
  | zero => intro σ l1 l2 l3 l4 l5  hf; simp only [f_Y_announced_L6] at hf; cases hf
  | succ k hrc =>
    intro σ l1 l2 l3 l4 l5  hf
    rw [f_Y_announced_L6] at hf
    refine V.blk hC [(.iload 5, 2), (.bipush 7, 2)] 6 [some (.ref 130), some (.int l1), some (.int l2), some (.int l3), some (.int l4), some (.int l5), none, none, none, none] [] ⟨d_Y_announced_6, d_Y_announced_8, trivial⟩ (show tv_run _ _ _ _ = some (10, [some (.ref 130), some (.int l1), some (.int l2), some (.int l3), some (.int l4), some (.int l5), none, none, none, none], [.int (7 : Int32), .int l5]) from rfl) ?_
    refine V.icmp_ge hC d_Y_announced_10 (tgt := 207) (by decide) (fun hc => ?_) (fun hc => ?_)
    · rw [if_pos hc] at hf
      refine V.blk hC [(.iload 4, 2)] 207 [some (.ref 130), some (.int l1), some (.int l2), some (.int l3), some (.int l4), some (.int l5), none, none, none, none] [] ⟨d_Y_announced_207, trivial⟩ (show tv_run _ _ _ _ = some (209, [some (.ref 130), some (.int l1), some (.int l2), some (.int l3), some (.int l4), some (.int l5), none, none, none, none], [.int l4]) from rfl) ?_
      refine V.if_eq hC d_Y_announced_209 (tgt := 240) (by decide) (fun hc => ?_) (fun hc => ?_)
      · rw [if_pos hc] at hf
        obtain rfl := Option.some.inj hf
        exact V.vret hC hr hE d_Y_announced_240 ⟨rfl, rfl, rfl⟩
      · rw [if_neg hc] at hf
        refine V.blk hC [(.aload_n 0, 1)] 212 [some (.ref 130), some (.int l1), some (.int l2), some (.int l3), some (.int l4), some (.int l5), none, none, none, none] [] ⟨d_Y_announced_212, trivial⟩ (show tv_run _ _ _ _ = some (213, [some (.ref 130), some (.int l1), some (.int l2), some (.int l3), some (.int l4), some (.int l5), none, none, none, none], [.ref 130]) from rfl) ?_
        refine V.getf hC tf_Y_38 (kd_in kd_130 (by decide)) (hp_at kd_130) rfl d_Y_announced_213 ?_
        show V X 0 0 tm_n (hp σ) 216 [some (.ref 130), some (.int l1), some (.int l2), some (.int l3), some (.int l4), some (.int l5), none, none, none, none] [.ref 140]
        refine V.blk hC [(.iload_n 1, 1)] 216 [some (.ref 130), some (.int l1), some (.int l2), some (.int l3), some (.int l4), some (.int l5), none, none, none, none] [.ref 140] ⟨d_Y_announced_216, trivial⟩ (show tv_run _ _ _ _ = some (217, [some (.ref 130), some (.int l1), some (.int l2), some (.int l3), some (.int l4), some (.int l5), none, none, none, none], [.int l1, .ref 140]) from rfl) ?_
        obtain ⟨hb1, hf⟩ := tm_if hf
        refine V.iald hC (kd_in kd_140 (by decide)) (hp_at kd_140) rfl hb1 d_Y_announced_217 ?_
        show V X 0 0 tm_n (hp σ) 218 [some (.ref 130), some (.int l1), some (.int l2), some (.int l3), some (.int l4), some (.int l5), none, none, none, none] [.int (σ.1 140 l1.toNatClampNeg)]
        refine V.if_lt hC d_Y_announced_218 (tgt := 240) (by decide) (fun hc => ?_) (fun hc => ?_)
        · rw [if_pos hc] at hf
          obtain rfl := Option.some.inj hf
          exact V.vret hC hr hE d_Y_announced_240 ⟨rfl, rfl, rfl⟩
        · rw [if_neg hc] at hf
          refine V.blk hC [(.aload_n 0, 1), (.iload_n 1, 1), (.aload_n 0, 1)] 221 [some (.ref 130), some (.int l1), some (.int l2), some (.int l3), some (.int l4), some (.int l5), none, none, none, none] [] ⟨d_Y_announced_221, d_Y_announced_222, d_Y_announced_223, trivial⟩ (show tv_run _ _ _ _ = some (224, [some (.ref 130), some (.int l1), some (.int l2), some (.int l3), some (.int l4), some (.int l5), none, none, none, none], [.ref 130, .int l1, .ref 130]) from rfl) ?_
          refine V.getf hC tf_Y_38 (kd_in kd_130 (by decide)) (hp_at kd_130) rfl d_Y_announced_224 ?_
          show V X 0 0 tm_n (hp σ) 227 [some (.ref 130), some (.int l1), some (.int l2), some (.int l3), some (.int l4), some (.int l5), none, none, none, none] [.ref 140, .int l1, .ref 130]
          refine V.blk hC [(.iload_n 1, 1)] 227 [some (.ref 130), some (.int l1), some (.int l2), some (.int l3), some (.int l4), some (.int l5), none, none, none, none] [.ref 140, .int l1, .ref 130] ⟨d_Y_announced_227, trivial⟩ (show tv_run _ _ _ _ = some (228, [some (.ref 130), some (.int l1), some (.int l2), some (.int l3), some (.int l4), some (.int l5), none, none, none, none], [.int l1, .ref 140, .int l1, .ref 130]) from rfl) ?_
          obtain ⟨hb2, hf⟩ := tm_if hf
          refine V.iald hC (kd_in kd_140 (by decide)) (hp_at kd_140) rfl hb2 d_Y_announced_228 ?_
          show V X 0 0 tm_n (hp σ) 229 [some (.ref 130), some (.int l1), some (.int l2), some (.int l3), some (.int l4), some (.int l5), none, none, none, none] [.int (σ.1 140 l1.toNatClampNeg), .int l1, .ref 130]
          refine V.blk hC [(.iload 4, 2), (.aload_n 0, 1)] 229 [some (.ref 130), some (.int l1), some (.int l2), some (.int l3), some (.int l4), some (.int l5), none, none, none, none] [.int (σ.1 140 l1.toNatClampNeg), .int l1, .ref 130] ⟨d_Y_announced_229, d_Y_announced_231, trivial⟩ (show tv_run _ _ _ _ = some (232, [some (.ref 130), some (.int l1), some (.int l2), some (.int l3), some (.int l4), some (.int l5), none, none, none, none], [.ref 130, .int l4, .int (σ.1 140 l1.toNatClampNeg), .int l1, .ref 130]) from rfl) ?_
          refine V.getf hC tf_Y_98 (kd_in kd_130 (by decide)) (hp_at kd_130) rfl d_Y_announced_232 ?_
          show V X 0 0 tm_n (hp σ) 235 [some (.ref 130), some (.int l1), some (.int l2), some (.int l3), some (.int l4), some (.int l5), none, none, none, none] [.ref 160, .int l4, .int (σ.1 140 l1.toNatClampNeg), .int l1, .ref 130]
          refine V.blk hC [(.iload_n 3, 1)] 235 [some (.ref 130), some (.int l1), some (.int l2), some (.int l3), some (.int l4), some (.int l5), none, none, none, none] [.ref 160, .int l4, .int (σ.1 140 l1.toNatClampNeg), .int l1, .ref 130] ⟨d_Y_announced_235, trivial⟩ (show tv_run _ _ _ _ = some (236, [some (.ref 130), some (.int l1), some (.int l2), some (.int l3), some (.int l4), some (.int l5), none, none, none, none], [.int l3, .ref 160, .int l4, .int (σ.1 140 l1.toNatClampNeg), .int l1, .ref 130]) from rfl) ?_
          obtain ⟨hb3, hf⟩ := tm_if hf
          refine V.zald hC (kd_in kd_160 (by decide)) (hp_at kd_160) rfl hb3 d_Y_announced_236 ?_
          show V X 0 0 tm_n (hp σ) 237 [some (.ref 130), some (.int l1), some (.int l2), some (.int l3), some (.int l4), some (.int l5), none, none, none, none] [.int (σ.1 160 l3.toNatClampNeg), .int l4, .int (σ.1 140 l1.toNatClampNeg), .int l1, .ref 130]
          obtain ⟨q4, hq4, hf⟩ := tm_bd hf
          refine V.callV hC tm_nest rfl (c_Y_announce σ l1 (σ.1 140 l1.toNatClampNeg) l4 (σ.1 160 l3.toNatClampNeg)  hq4) (tm_gd tc_Y_announce) tg_Y_193 th_Y_announce ⟨tm_le rfl, tm_le rfl, tm_le rfl, tm_le rfl⟩ rfl (kd_in kd_130 (by decide)) (hp_at kd_130) (As := [.int l1, .int (σ.1 140 l1.toNatClampNeg), .int l4, .int (σ.1 160 l3.toNatClampNeg)]) (st := []) rfl (tm_le rfl) d_Y_announced_237 ?_
          rintro v n2 h2 ⟨rfl, rfl, rfl⟩
          show V X 0 0 tm_n (hp q4) 240 [some (.ref 130), some (.int l1), some (.int l2), some (.int l3), some (.int l4), some (.int l5), none, none, none, none] []
          obtain rfl := Option.some.inj hf
          exact V.vret hC hr hE d_Y_announced_240 ⟨rfl, rfl, rfl⟩
    · rw [if_neg hc] at hf
      refine V.blk hC [(.bipush 7, 2), (.iload_n 1, 1), (.imul, 1), (.iload 5, 2), (.iadd, 1), (.istore 6, 2), (.iload 5, 2), (.iload_n 1, 1)] 13 [some (.ref 130), some (.int l1), some (.int l2), some (.int l3), some (.int l4), some (.int l5), none, none, none, none] [] ⟨d_Y_announced_13, d_Y_announced_15, d_Y_announced_16, d_Y_announced_17, d_Y_announced_19, d_Y_announced_20, d_Y_announced_22, d_Y_announced_24, trivial⟩ (show tv_run _ _ _ _ = some (25, [some (.ref 130), some (.int l1), some (.int l2), some (.int l3), some (.int l4), some (.int l5), some (.int (((7 : Int32) * l1) + l5)), none, none, none], [.int l1, .int l5]) from rfl) ?_
      refine V.icmp_eq hC d_Y_announced_25 (tgt := 69) (by decide) (fun hc => ?_) (fun hc => ?_)
      · rw [if_pos hc] at hf
        exact V.less (tv_le_some (tv_le_some (tv_le_some (tv_le_some (tv_le_some (tv_le_some (tv_le_some (tv_le_none (tv_le_none (tv_le_none tv_le_nil)))))))))) (c_Y_announced_L69 hC hr hE hrc σ l1 l2 l3 l4 l5 (((7 : Int32) * l1) + l5)  hf)
      · rw [if_neg hc] at hf
        refine V.blk hC [(.aload_n 0, 1)] 28 [some (.ref 130), some (.int l1), some (.int l2), some (.int l3), some (.int l4), some (.int l5), some (.int (((7 : Int32) * l1) + l5)), none, none, none] [] ⟨d_Y_announced_28, trivial⟩ (show tv_run _ _ _ _ = some (29, [some (.ref 130), some (.int l1), some (.int l2), some (.int l3), some (.int l4), some (.int l5), some (.int (((7 : Int32) * l1) + l5)), none, none, none], [.ref 130]) from rfl) ?_
        refine V.getf hC tf_Y_92 (kd_in kd_130 (by decide)) (hp_at kd_130) rfl d_Y_announced_29 ?_
        show V X 0 0 tm_n (hp σ) 32 [some (.ref 130), some (.int l1), some (.int l2), some (.int l3), some (.int l4), some (.int l5), some (.int (((7 : Int32) * l1) + l5)), none, none, none] [.ref 158]
        refine V.blk hC [(.iload_n 3, 1)] 32 [some (.ref 130), some (.int l1), some (.int l2), some (.int l3), some (.int l4), some (.int l5), some (.int (((7 : Int32) * l1) + l5)), none, none, none] [.ref 158] ⟨d_Y_announced_32, trivial⟩ (show tv_run _ _ _ _ = some (33, [some (.ref 130), some (.int l1), some (.int l2), some (.int l3), some (.int l4), some (.int l5), some (.int (((7 : Int32) * l1) + l5)), none, none, none], [.int l3, .ref 158]) from rfl) ?_
        obtain ⟨hb5, hf⟩ := tm_if hf
        refine V.iald hC (kd_in kd_158 (by decide)) (hp_at kd_158) rfl hb5 d_Y_announced_33 ?_
        show V X 0 0 tm_n (hp σ) 34 [some (.ref 130), some (.int l1), some (.int l2), some (.int l3), some (.int l4), some (.int l5), some (.int (((7 : Int32) * l1) + l5)), none, none, none] [.int (σ.1 158 l3.toNatClampNeg)]
        refine V.blk hC [(.iload 5, 2), (.ishr, 1), (.iconst 1, 1), (.iand, 1), (.iconst 1, 1)] 34 [some (.ref 130), some (.int l1), some (.int l2), some (.int l3), some (.int l4), some (.int l5), some (.int (((7 : Int32) * l1) + l5)), none, none, none] [.int (σ.1 158 l3.toNatClampNeg)] ⟨d_Y_announced_34, d_Y_announced_36, d_Y_announced_37, d_Y_announced_38, d_Y_announced_39, trivial⟩ (show tv_run _ _ _ _ = some (40, [some (.ref 130), some (.int l1), some (.int l2), some (.int l3), some (.int l4), some (.int l5), some (.int (((7 : Int32) * l1) + l5)), none, none, none], [.int (1 : Int32), .int (((σ.1 158 l3.toNatClampNeg) >>> (l5 &&& 31)) &&& (1 : Int32))]) from rfl) ?_
        refine V.icmp_ne hC d_Y_announced_40 (tgt := 69) (by decide) (fun hc => ?_) (fun hc => ?_)
        · rw [if_neg hc] at hf
          exact V.less (tv_le_some (tv_le_some (tv_le_some (tv_le_some (tv_le_some (tv_le_some (tv_le_some (tv_le_none (tv_le_none (tv_le_none tv_le_nil)))))))))) (c_Y_announced_L69 hC hr hE hrc σ l1 l2 l3 l4 l5 (((7 : Int32) * l1) + l5)  hf)
        · rw [if_pos hc] at hf
          refine V.blk hC [(.aload_n 0, 1)] 43 [some (.ref 130), some (.int l1), some (.int l2), some (.int l3), some (.int l4), some (.int l5), some (.int (((7 : Int32) * l1) + l5)), none, none, none] [] ⟨d_Y_announced_43, trivial⟩ (show tv_run _ _ _ _ = some (44, [some (.ref 130), some (.int l1), some (.int l2), some (.int l3), some (.int l4), some (.int l5), some (.int (((7 : Int32) * l1) + l5)), none, none, none], [.ref 130]) from rfl) ?_
          refine V.getf hC tf_Y_95 (kd_in kd_130 (by decide)) (hp_at kd_130) rfl d_Y_announced_44 ?_
          show V X 0 0 tm_n (hp σ) 47 [some (.ref 130), some (.int l1), some (.int l2), some (.int l3), some (.int l4), some (.int l5), some (.int (((7 : Int32) * l1) + l5)), none, none, none] [.ref 159]
          refine V.blk hC [(.bipush 7, 2), (.iload_n 3, 1), (.imul, 1), (.iload 5, 2), (.iadd, 1)] 47 [some (.ref 130), some (.int l1), some (.int l2), some (.int l3), some (.int l4), some (.int l5), some (.int (((7 : Int32) * l1) + l5)), none, none, none] [.ref 159] ⟨d_Y_announced_47, d_Y_announced_49, d_Y_announced_50, d_Y_announced_51, d_Y_announced_53, trivial⟩ (show tv_run _ _ _ _ = some (54, [some (.ref 130), some (.int l1), some (.int l2), some (.int l3), some (.int l4), some (.int l5), some (.int (((7 : Int32) * l1) + l5)), none, none, none], [.int (((7 : Int32) * l3) + l5), .ref 159]) from rfl) ?_
          obtain ⟨hb6, hf⟩ := tm_if hf
          refine V.iald hC (kd_in kd_159 (by decide)) (hp_at kd_159) rfl hb6 d_Y_announced_54 ?_
          show V X 0 0 tm_n (hp σ) 55 [some (.ref 130), some (.int l1), some (.int l2), some (.int l3), some (.int l4), some (.int l5), some (.int (((7 : Int32) * l1) + l5)), none, none, none] [.int (σ.1 159 (((7 : Int32) * l3) + l5).toNatClampNeg)]
          refine V.blk hC [(.aload_n 0, 1)] 55 [some (.ref 130), some (.int l1), some (.int l2), some (.int l3), some (.int l4), some (.int l5), some (.int (((7 : Int32) * l1) + l5)), none, none, none] [.int (σ.1 159 (((7 : Int32) * l3) + l5).toNatClampNeg)] ⟨d_Y_announced_55, trivial⟩ (show tv_run _ _ _ _ = some (56, [some (.ref 130), some (.int l1), some (.int l2), some (.int l3), some (.int l4), some (.int l5), some (.int (((7 : Int32) * l1) + l5)), none, none, none], [.ref 130, .int (σ.1 159 (((7 : Int32) * l3) + l5).toNatClampNeg)]) from rfl) ?_
          refine V.getf hC tf_Y_23 (kd_in kd_130 (by decide)) (hp_at kd_130) rfl d_Y_announced_56 ?_
          show V X 0 0 tm_n (hp σ) 59 [some (.ref 130), some (.int l1), some (.int l2), some (.int l3), some (.int l4), some (.int l5), some (.int (((7 : Int32) * l1) + l5)), none, none, none] [.ref 135, .int (σ.1 159 (((7 : Int32) * l3) + l5).toNatClampNeg)]
          refine V.blk hC [(.iload 6, 2)] 59 [some (.ref 130), some (.int l1), some (.int l2), some (.int l3), some (.int l4), some (.int l5), some (.int (((7 : Int32) * l1) + l5)), none, none, none] [.ref 135, .int (σ.1 159 (((7 : Int32) * l3) + l5).toNatClampNeg)] ⟨d_Y_announced_59, trivial⟩ (show tv_run _ _ _ _ = some (61, [some (.ref 130), some (.int l1), some (.int l2), some (.int l3), some (.int l4), some (.int l5), some (.int (((7 : Int32) * l1) + l5)), none, none, none], [.int (((7 : Int32) * l1) + l5), .ref 135, .int (σ.1 159 (((7 : Int32) * l3) + l5).toNatClampNeg)]) from rfl) ?_
          obtain ⟨hb7, hf⟩ := tm_if hf
          refine V.iald hC (kd_in kd_135 (by decide)) (hp_at kd_135) rfl hb7 d_Y_announced_61 ?_
          show V X 0 0 tm_n (hp σ) 62 [some (.ref 130), some (.int l1), some (.int l2), some (.int l3), some (.int l4), some (.int l5), some (.int (((7 : Int32) * l1) + l5)), none, none, none] [.int (σ.1 135 (((7 : Int32) * l1) + l5).toNatClampNeg), .int (σ.1 159 (((7 : Int32) * l3) + l5).toNatClampNeg)]
          refine V.icmp_lt hC d_Y_announced_62 (tgt := 69) (by decide) (fun hc => ?_) (fun hc => ?_)
          · rw [if_pos hc] at hf
            exact V.less (tv_le_some (tv_le_some (tv_le_some (tv_le_some (tv_le_some (tv_le_some (tv_le_some (tv_le_none (tv_le_none (tv_le_none tv_le_nil)))))))))) (c_Y_announced_L69 hC hr hE hrc σ l1 l2 l3 l4 l5 (((7 : Int32) * l1) + l5)  hf)
          · rw [if_neg hc] at hf
            refine V.blk hC [(.iconst 1, 1)] 65 [some (.ref 130), some (.int l1), some (.int l2), some (.int l3), some (.int l4), some (.int l5), some (.int (((7 : Int32) * l1) + l5)), none, none, none] [] ⟨d_Y_announced_65, trivial⟩ (show tv_run _ _ _ _ = some (66, [some (.ref 130), some (.int l1), some (.int l2), some (.int l3), some (.int l4), some (.int l5), some (.int (((7 : Int32) * l1) + l5)), none, none, none], [.int (1 : Int32)]) from rfl) ?_
            refine V.goto hC d_Y_announced_66 (tgt := 70) (by decide) ?_
            exact V.less (tv_le_some (tv_le_some (tv_le_some (tv_le_some (tv_le_some (tv_le_some (tv_le_some (tv_le_none (tv_le_none (tv_le_none tv_le_nil)))))))))) (c_Y_announced_L70 hC hr hE hrc σ l1 l2 l3 l4 l5 (((7 : Int32) * l1) + l5) (1 : Int32)  hf)
set_option maxHeartbeats 4000000 in
set_option maxRecDepth 100000 in
theorem c_Y_announced (σ : tm_S) (a1 : Int32) (a2 : Int32) (a3 : Int32)  {r : tm_S} (hf : f_Y_announced σ a1 a2 a3 = some r) : tv_Met ty_Y_announced (Cond.code ty_Y_announced tb_Y_announced 10 none :: tm_wg) tm_ns tm_cl tm_ty 4 90 0 0 [.ref 130, .int a1, .int a2, .int a3] tm_n (hp σ) (tm_P none r) := by
  refine tv_Met.of (by decide) rfl (tm_le rfl) ?_
  intro X hC hnm hr hE
  have hC : tv_K X tb_Y_announced 10 "TrickleMeshModel" tm_wg tm_ns tm_cl tm_ty { frames := 4, cells := 0, slots := 0, locals := 90 } := hC
  show V X 0 0 tm_n (hp σ) 0 [some (.ref 130), some (.int a1), some (.int a2), some (.int a3), none, none, none, none, none, none] []
  unfold f_Y_announced at hf
  refine V.blk hC [(.iconst 0, 1), (.istore 4, 2), (.iconst 0, 1), (.istore 5, 2)] 0 [some (.ref 130), some (.int a1), some (.int a2), some (.int a3), none, none, none, none, none, none] [] ⟨d_Y_announced_0, d_Y_announced_1, d_Y_announced_3, d_Y_announced_4, trivial⟩ (show tv_run _ _ _ _ = some (6, [some (.ref 130), some (.int a1), some (.int a2), some (.int a3), some (.int (0 : Int32)), some (.int (0 : Int32)), none, none, none, none], []) from rfl) ?_
  exact V.less (tv_le_some (tv_le_some (tv_le_some (tv_le_some (tv_le_some (tv_le_some (tv_le_none (tv_le_none (tv_le_none (tv_le_none tv_le_nil)))))))))) (c_Y_announced_L6 hC hr hE tm_fu σ a1 a2 a3 (0 : Int32) (0 : Int32)  hf)
set_option maxHeartbeats 4000000 in
set_option maxRecDepth 100000 in
theorem c_Y_sendOn_L106 {X : tv_X} {r : tm_S} (hC : tv_K X tb_Y_sendOn 10 "TrickleMeshModel" tm_wg tm_ns tm_cl tm_ty { frames := 3, cells := 0, slots := 0, locals := 64 }) (hr : tv_ret X none) (hE : tv_end X (tm_P none r) 0 0) (σ : tm_S) (l1 : Int32) (l6 : Int32) (l9 : Int32) (s0 : Int32) (s1 : Int32)  (hf : f_Y_sendOn_L106 σ l1 l6 l9 s0 s1 = some r) : V X 0 0 tm_n (hp σ) 106 [some (.ref 130), some (.int l1), none, none, none, none, some (.int l6), none, none, some (.int l9)] [.int s0, .int s1, .ref 165] := by
  unfold f_Y_sendOn_L106 at hf
  obtain ⟨hb13, hf⟩ := tm_if hf
  obtain ⟨hz15, hf⟩ := tm_if hf
  obtain ⟨σ14, hσ14, hf⟩ := tm_ww hf
  refine V.setz hC kd_165 (kd_in kd_165 (by decide)) rfl rfl rfl hb13 hz15 d_Y_sendOn_106 ?_
  rw [← hσ14]
  refine V.blk hC [(.aload_n 0, 1)] 107 [some (.ref 130), some (.int l1), none, none, none, none, some (.int l6), none, none, some (.int l9)] [] ⟨d_Y_sendOn_107, trivial⟩ (show tv_run _ _ _ _ = some (108, [some (.ref 130), some (.int l1), none, none, none, none, some (.int l6), none, none, some (.int l9)], [.ref 130]) from rfl) ?_
  refine V.getf hC tf_Y_116 (kd_in kd_130 (by decide)) (hp_at kd_130) rfl d_Y_sendOn_108 ?_
  show V X 0 0 tm_n (hp σ14) 111 [some (.ref 130), some (.int l1), none, none, none, none, some (.int l6), none, none, some (.int l9)] [.ref 166]
  refine V.blk hC [(.iload 9, 2), (.iload 6, 2)] 111 [some (.ref 130), some (.int l1), none, none, none, none, some (.int l6), none, none, some (.int l9)] [.ref 166] ⟨d_Y_sendOn_111, d_Y_sendOn_113, trivial⟩ (show tv_run _ _ _ _ = some (115, [some (.ref 130), some (.int l1), none, none, none, none, some (.int l6), none, none, some (.int l9)], [.int l6, .int l9, .ref 166]) from rfl) ?_
  obtain ⟨hb16, hf⟩ := tm_if hf
  obtain ⟨hz18, hf⟩ := tm_if hf
  obtain ⟨σ17, hσ17, hf⟩ := tm_ww hf
  refine V.setz hC kd_166 (kd_in kd_166 (by decide)) rfl rfl rfl hb16 hz18 d_Y_sendOn_115 ?_
  rw [← hσ17]
  refine V.blk hC [(.aload_n 0, 1), (.iload_n 1, 1), (.iload 9, 2)] 116 [some (.ref 130), some (.int l1), none, none, none, none, some (.int l6), none, none, some (.int l9)] [] ⟨d_Y_sendOn_116, d_Y_sendOn_117, d_Y_sendOn_118, trivial⟩ (show tv_run _ _ _ _ = some (120, [some (.ref 130), some (.int l1), none, none, none, none, some (.int l6), none, none, some (.int l9)], [.int l9, .int l1, .ref 130]) from rfl) ?_
  obtain ⟨q19, hq19, hf⟩ := tm_bd hf
  refine V.callV hC tm_nest rfl (c_Y_queue σ17 l1 l9  hq19) (tm_gd tc_Y_queue) tg_Y_186 th_Y_queue ⟨tm_le rfl, tm_le rfl, tm_le rfl, tm_le rfl⟩ rfl (kd_in kd_130 (by decide)) (hp_at kd_130) (As := [.int l1, .int l9]) (st := []) rfl (tm_le rfl) d_Y_sendOn_120 ?_
  rintro v n2 h2 ⟨rfl, rfl, rfl⟩
  show V X 0 0 tm_n (hp q19) 123 [some (.ref 130), some (.int l1), none, none, none, none, some (.int l6), none, none, some (.int l9)] []
  obtain rfl := Option.some.inj hf
  exact V.vret hC hr hE d_Y_sendOn_123 ⟨rfl, rfl, rfl⟩
set_option maxHeartbeats 4000000 in
set_option maxRecDepth 100000 in
theorem c_Y_sendOn_L29 {X : tv_X} {r : tm_S} (hC : tv_K X tb_Y_sendOn 10 "TrickleMeshModel" tm_wg tm_ns tm_cl tm_ty { frames := 3, cells := 0, slots := 0, locals := 64 }) (hr : tv_ret X none) (hE : tv_end X (tm_P none r) 0 0) (σ : tm_S) (l1 : Int32) (l2 : Int32) (l3 : Int32) (l4 : Int32) (l5 : Int32) (l6 : Int32) (l7 : Int32) (s0 : Int32)  (hf : f_Y_sendOn_L29 σ l1 l2 l3 l4 l5 l6 l7 s0 = some r) : V X 0 0 tm_n (hp σ) 29 [some (.ref 130), some (.int l1), some (.int l2), some (.int l3), some (.int l4), some (.int l5), some (.int l6), some (.int l7), none, none] [.int s0] := by
  unfold f_Y_sendOn_L29 at hf
  refine V.blk hC [(.istore 8, 2), (.iload 8, 2)] 29 [some (.ref 130), some (.int l1), some (.int l2), some (.int l3), some (.int l4), some (.int l5), some (.int l6), some (.int l7), none, none] [.int s0] ⟨d_Y_sendOn_29, d_Y_sendOn_31, trivial⟩ (show tv_run _ _ _ _ = some (33, [some (.ref 130), some (.int l1), some (.int l2), some (.int l3), some (.int l4), some (.int l5), some (.int l6), some (.int l7), some (.int s0), none], [.int s0]) from rfl) ?_
  refine V.if_ge hC d_Y_sendOn_33 (tgt := 47) (by decide) (fun hc => ?_) (fun hc => ?_)
  · rw [if_pos hc] at hf
    refine V.blk hC [(.aload_n 0, 1), (.iconst 4, 1), (.iload 8, 2)] 47 [some (.ref 130), some (.int l1), some (.int l2), some (.int l3), some (.int l4), some (.int l5), some (.int l6), some (.int l7), some (.int s0), none] [] ⟨d_Y_sendOn_47, d_Y_sendOn_48, d_Y_sendOn_49, trivial⟩ (show tv_run _ _ _ _ = some (51, [some (.ref 130), some (.int l1), some (.int l2), some (.int l3), some (.int l4), some (.int l5), some (.int l6), some (.int l7), some (.int s0), none], [.int s0, .int (4 : Int32), .ref 130]) from rfl) ?_
    obtain ⟨q3, hq3, hf⟩ := tm_bd hf
    refine V.callV hC tm_nest rfl (c_Y_makeFrame σ (4 : Int32) s0  hq3) (tm_gd tc_Y_makeFrame) tg_Y_182 th_Y_makeFrame ⟨tm_le rfl, tm_le rfl, tm_le rfl, tm_le rfl⟩ rfl (kd_in kd_130 (by decide)) (hp_at kd_130) (As := [.int (4 : Int32), .int s0]) (st := []) rfl (tm_le rfl) d_Y_sendOn_51 ?_
    rintro v n2 h2 ⟨rfl, rfl, rfl⟩
    show V X 0 0 tm_n (hp q3.2) 54 [some (.ref 130), some (.int l1), some (.int l2), some (.int l3), some (.int l4), some (.int l5), some (.int l6), some (.int l7), some (.int s0), none] [.int q3.1]
    refine V.blk hC [(.istore 9, 2), (.aload_n 0, 1)] 54 [some (.ref 130), some (.int l1), some (.int l2), some (.int l3), some (.int l4), some (.int l5), some (.int l6), some (.int l7), some (.int s0), none] [.int q3.1] ⟨d_Y_sendOn_54, d_Y_sendOn_56, trivial⟩ (show tv_run _ _ _ _ = some (57, [some (.ref 130), some (.int l1), some (.int l2), some (.int l3), some (.int l4), some (.int l5), some (.int l6), some (.int l7), some (.int s0), some (.int q3.1)], [.ref 130]) from rfl) ?_
    refine V.getf hC tf_Y_101 (kd_in kd_130 (by decide)) (hp_at kd_130) rfl d_Y_sendOn_57 ?_
    show V X 0 0 tm_n (hp q3.2) 60 [some (.ref 130), some (.int l1), some (.int l2), some (.int l3), some (.int l4), some (.int l5), some (.int l6), some (.int l7), some (.int s0), some (.int q3.1)] [.ref 161]
    refine V.blk hC [(.iload 9, 2), (.iload_n 2, 1)] 60 [some (.ref 130), some (.int l1), some (.int l2), some (.int l3), some (.int l4), some (.int l5), some (.int l6), some (.int l7), some (.int s0), some (.int q3.1)] [.ref 161] ⟨d_Y_sendOn_60, d_Y_sendOn_62, trivial⟩ (show tv_run _ _ _ _ = some (63, [some (.ref 130), some (.int l1), some (.int l2), some (.int l3), some (.int l4), some (.int l5), some (.int l6), some (.int l7), some (.int s0), some (.int q3.1)], [.int l2, .int q3.1, .ref 161]) from rfl) ?_
    obtain ⟨hb4, hf⟩ := tm_if hf
    obtain ⟨σ5, hσ5, hf⟩ := tm_ww hf
    refine V.seta hC kd_161 (kd_in kd_161 (by decide)) rfl rfl rfl hb4 d_Y_sendOn_63 ?_
    rw [← hσ5]
    refine V.blk hC [(.aload_n 0, 1)] 64 [some (.ref 130), some (.int l1), some (.int l2), some (.int l3), some (.int l4), some (.int l5), some (.int l6), some (.int l7), some (.int s0), some (.int q3.1)] [] ⟨d_Y_sendOn_64, trivial⟩ (show tv_run _ _ _ _ = some (65, [some (.ref 130), some (.int l1), some (.int l2), some (.int l3), some (.int l4), some (.int l5), some (.int l6), some (.int l7), some (.int s0), some (.int q3.1)], [.ref 130]) from rfl) ?_
    refine V.getf hC tf_Y_104 (kd_in kd_130 (by decide)) (hp_at kd_130) rfl d_Y_sendOn_65 ?_
    show V X 0 0 tm_n (hp σ5) 68 [some (.ref 130), some (.int l1), some (.int l2), some (.int l3), some (.int l4), some (.int l5), some (.int l6), some (.int l7), some (.int s0), some (.int q3.1)] [.ref 162]
    refine V.blk hC [(.iload 9, 2), (.iload_n 3, 1)] 68 [some (.ref 130), some (.int l1), some (.int l2), some (.int l3), some (.int l4), some (.int l5), some (.int l6), some (.int l7), some (.int s0), some (.int q3.1)] [.ref 162] ⟨d_Y_sendOn_68, d_Y_sendOn_70, trivial⟩ (show tv_run _ _ _ _ = some (71, [some (.ref 130), some (.int l1), some (.int l2), some (.int l3), some (.int l4), some (.int l5), some (.int l6), some (.int l7), some (.int s0), some (.int q3.1)], [.int l3, .int q3.1, .ref 162]) from rfl) ?_
    obtain ⟨hb6, hf⟩ := tm_if hf
    obtain ⟨σ7, hσ7, hf⟩ := tm_ww hf
    refine V.seta hC kd_162 (kd_in kd_162 (by decide)) rfl rfl rfl hb6 d_Y_sendOn_71 ?_
    rw [← hσ7]
    refine V.blk hC [(.aload_n 0, 1)] 72 [some (.ref 130), some (.int l1), some (.int l2), some (.int l3), some (.int l4), some (.int l5), some (.int l6), some (.int l7), some (.int s0), some (.int q3.1)] [] ⟨d_Y_sendOn_72, trivial⟩ (show tv_run _ _ _ _ = some (73, [some (.ref 130), some (.int l1), some (.int l2), some (.int l3), some (.int l4), some (.int l5), some (.int l6), some (.int l7), some (.int s0), some (.int q3.1)], [.ref 130]) from rfl) ?_
    refine V.getf hC tf_Y_107 (kd_in kd_130 (by decide)) (hp_at kd_130) rfl d_Y_sendOn_73 ?_
    show V X 0 0 tm_n (hp σ7) 76 [some (.ref 130), some (.int l1), some (.int l2), some (.int l3), some (.int l4), some (.int l5), some (.int l6), some (.int l7), some (.int s0), some (.int q3.1)] [.ref 163]
    refine V.blk hC [(.iload 9, 2), (.iload 4, 2)] 76 [some (.ref 130), some (.int l1), some (.int l2), some (.int l3), some (.int l4), some (.int l5), some (.int l6), some (.int l7), some (.int s0), some (.int q3.1)] [.ref 163] ⟨d_Y_sendOn_76, d_Y_sendOn_78, trivial⟩ (show tv_run _ _ _ _ = some (80, [some (.ref 130), some (.int l1), some (.int l2), some (.int l3), some (.int l4), some (.int l5), some (.int l6), some (.int l7), some (.int s0), some (.int q3.1)], [.int l4, .int q3.1, .ref 163]) from rfl) ?_
    obtain ⟨hb8, hf⟩ := tm_if hf
    obtain ⟨σ9, hσ9, hf⟩ := tm_ww hf
    refine V.seta hC kd_163 (kd_in kd_163 (by decide)) rfl rfl rfl hb8 d_Y_sendOn_80 ?_
    rw [← hσ9]
    refine V.blk hC [(.aload_n 0, 1)] 81 [some (.ref 130), some (.int l1), some (.int l2), some (.int l3), some (.int l4), some (.int l5), some (.int l6), some (.int l7), some (.int s0), some (.int q3.1)] [] ⟨d_Y_sendOn_81, trivial⟩ (show tv_run _ _ _ _ = some (82, [some (.ref 130), some (.int l1), some (.int l2), some (.int l3), some (.int l4), some (.int l5), some (.int l6), some (.int l7), some (.int s0), some (.int q3.1)], [.ref 130]) from rfl) ?_
    refine V.getf hC tf_Y_110 (kd_in kd_130 (by decide)) (hp_at kd_130) rfl d_Y_sendOn_82 ?_
    show V X 0 0 tm_n (hp σ9) 85 [some (.ref 130), some (.int l1), some (.int l2), some (.int l3), some (.int l4), some (.int l5), some (.int l6), some (.int l7), some (.int s0), some (.int q3.1)] [.ref 164]
    refine V.blk hC [(.iload 9, 2), (.iload 5, 2)] 85 [some (.ref 130), some (.int l1), some (.int l2), some (.int l3), some (.int l4), some (.int l5), some (.int l6), some (.int l7), some (.int s0), some (.int q3.1)] [.ref 164] ⟨d_Y_sendOn_85, d_Y_sendOn_87, trivial⟩ (show tv_run _ _ _ _ = some (89, [some (.ref 130), some (.int l1), some (.int l2), some (.int l3), some (.int l4), some (.int l5), some (.int l6), some (.int l7), some (.int s0), some (.int q3.1)], [.int l5, .int q3.1, .ref 164]) from rfl) ?_
    obtain ⟨hb10, hf⟩ := tm_if hf
    obtain ⟨σ11, hσ11, hf⟩ := tm_ww hf
    refine V.seta hC kd_164 (kd_in kd_164 (by decide)) rfl rfl rfl hb10 d_Y_sendOn_89 ?_
    rw [← hσ11]
    refine V.blk hC [(.aload_n 0, 1)] 90 [some (.ref 130), some (.int l1), some (.int l2), some (.int l3), some (.int l4), some (.int l5), some (.int l6), some (.int l7), some (.int s0), some (.int q3.1)] [] ⟨d_Y_sendOn_90, trivial⟩ (show tv_run _ _ _ _ = some (91, [some (.ref 130), some (.int l1), some (.int l2), some (.int l3), some (.int l4), some (.int l5), some (.int l6), some (.int l7), some (.int s0), some (.int q3.1)], [.ref 130]) from rfl) ?_
    refine V.getf hC tf_Y_113 (kd_in kd_130 (by decide)) (hp_at kd_130) rfl d_Y_sendOn_91 ?_
    show V X 0 0 tm_n (hp σ11) 94 [some (.ref 130), some (.int l1), some (.int l2), some (.int l3), some (.int l4), some (.int l5), some (.int l6), some (.int l7), some (.int s0), some (.int q3.1)] [.ref 165]
    refine V.blk hC [(.iload 9, 2), (.iload 7, 2)] 94 [some (.ref 130), some (.int l1), some (.int l2), some (.int l3), some (.int l4), some (.int l5), some (.int l6), some (.int l7), some (.int s0), some (.int q3.1)] [.ref 165] ⟨d_Y_sendOn_94, d_Y_sendOn_96, trivial⟩ (show tv_run _ _ _ _ = some (98, [some (.ref 130), some (.int l1), some (.int l2), some (.int l3), some (.int l4), some (.int l5), some (.int l6), some (.int l7), some (.int s0), some (.int q3.1)], [.int l7, .int q3.1, .ref 165]) from rfl) ?_
    refine V.if_lt hC d_Y_sendOn_98 (tgt := 105) (by decide) (fun hc => ?_) (fun hc => ?_)
    · rw [if_pos hc] at hf
      refine V.blk hC [(.iconst 0, 1)] 105 [some (.ref 130), some (.int l1), some (.int l2), some (.int l3), some (.int l4), some (.int l5), some (.int l6), some (.int l7), some (.int s0), some (.int q3.1)] [.int q3.1, .ref 165] ⟨d_Y_sendOn_105, trivial⟩ (show tv_run _ _ _ _ = some (106, [some (.ref 130), some (.int l1), some (.int l2), some (.int l3), some (.int l4), some (.int l5), some (.int l6), some (.int l7), some (.int s0), some (.int q3.1)], [.int (0 : Int32), .int q3.1, .ref 165]) from rfl) ?_
      exact V.less (tv_le_some (tv_le_some (tv_le_none (tv_le_none (tv_le_none (tv_le_none (tv_le_some (tv_le_none (tv_le_none (tv_le_some tv_le_nil)))))))))) (c_Y_sendOn_L106 hC hr hE σ11 l1 l6 q3.1 (0 : Int32) q3.1  hf)
    · rw [if_neg hc] at hf
      refine V.blk hC [(.iconst 1, 1)] 101 [some (.ref 130), some (.int l1), some (.int l2), some (.int l3), some (.int l4), some (.int l5), some (.int l6), some (.int l7), some (.int s0), some (.int q3.1)] [.int q3.1, .ref 165] ⟨d_Y_sendOn_101, trivial⟩ (show tv_run _ _ _ _ = some (102, [some (.ref 130), some (.int l1), some (.int l2), some (.int l3), some (.int l4), some (.int l5), some (.int l6), some (.int l7), some (.int s0), some (.int q3.1)], [.int (1 : Int32), .int q3.1, .ref 165]) from rfl) ?_
      refine V.goto hC d_Y_sendOn_102 (tgt := 106) (by decide) ?_
      exact V.less (tv_le_some (tv_le_some (tv_le_none (tv_le_none (tv_le_none (tv_le_none (tv_le_some (tv_le_none (tv_le_none (tv_le_some tv_le_nil)))))))))) (c_Y_sendOn_L106 hC hr hE σ11 l1 l6 q3.1 (1 : Int32) q3.1  hf)
  · rw [if_neg hc] at hf
    refine V.blk hC [(.aload_n 0, 1), (.dup, 1)] 36 [some (.ref 130), some (.int l1), some (.int l2), some (.int l3), some (.int l4), some (.int l5), some (.int l6), some (.int l7), some (.int s0), none] [] ⟨d_Y_sendOn_36, d_Y_sendOn_37, trivial⟩ (show tv_run _ _ _ _ = some (38, [some (.ref 130), some (.int l1), some (.int l2), some (.int l3), some (.int l4), some (.int l5), some (.int l6), some (.int l7), some (.int s0), none], [.ref 130, .ref 130]) from rfl) ?_
    refine V.getf hC tf_Y_162 (kd_in kd_130 (by decide)) (hp_at kd_130) rfl d_Y_sendOn_38 ?_
    show V X 0 0 tm_n (hp σ) 41 [some (.ref 130), some (.int l1), some (.int l2), some (.int l3), some (.int l4), some (.int l5), some (.int l6), some (.int l7), some (.int s0), none] [.int (σ.1 130 47), .ref 130]
    refine V.blk hC [(.iconst 1, 1), (.iadd, 1)] 41 [some (.ref 130), some (.int l1), some (.int l2), some (.int l3), some (.int l4), some (.int l5), some (.int l6), some (.int l7), some (.int s0), none] [.int (σ.1 130 47), .ref 130] ⟨d_Y_sendOn_41, d_Y_sendOn_42, trivial⟩ (show tv_run _ _ _ _ = some (43, [some (.ref 130), some (.int l1), some (.int l2), some (.int l3), some (.int l4), some (.int l5), some (.int l6), some (.int l7), some (.int s0), none], [.int ((σ.1 130 47) + (1 : Int32)), .ref 130]) from rfl) ?_
    obtain ⟨σ12, hσ12, hf⟩ := tm_ww hf
    refine V.seti hC tf_Y_162 tt_Y to_Y tn_Y rfl (by decide +kernel) tm_fi kd_130 (kd_in kd_130 (by decide)) rfl rfl (tm_le rfl) d_Y_sendOn_43 ?_
    rw [← hσ12]
    obtain rfl := Option.some.inj hf
    exact V.vret hC hr hE d_Y_sendOn_46 ⟨rfl, rfl, rfl⟩
set_option maxHeartbeats 4000000 in
set_option maxRecDepth 100000 in
theorem c_Y_sendOn (σ : tm_S) (a1 : Int32) (a2 : Int32) (a3 : Int32) (a4 : Int32) (a5 : Int32) (a6 : Int32)  {r : tm_S} (hf : f_Y_sendOn σ a1 a2 a3 a4 a5 a6 = some r) : tv_Met ty_Y_sendOn (Cond.code ty_Y_sendOn tb_Y_sendOn 10 none :: tm_wg) tm_ns tm_cl tm_ty 3 64 0 0 [.ref 130, .int a1, .int a2, .int a3, .int a4, .int a5, .int a6] tm_n (hp σ) (tm_P none r) := by
  refine tv_Met.of (by decide) rfl (tm_le rfl) ?_
  intro X hC hnm hr hE
  have hC : tv_K X tb_Y_sendOn 10 "TrickleMeshModel" tm_wg tm_ns tm_cl tm_ty { frames := 3, cells := 0, slots := 0, locals := 64 } := hC
  show V X 0 0 tm_n (hp σ) 0 [some (.ref 130), some (.int a1), some (.int a2), some (.int a3), some (.int a4), some (.int a5), some (.int a6), none, none, none] []
  unfold f_Y_sendOn at hf
  refine V.blk hC [(.aload_n 0, 1)] 0 [some (.ref 130), some (.int a1), some (.int a2), some (.int a3), some (.int a4), some (.int a5), some (.int a6), none, none, none] [] ⟨d_Y_sendOn_0, trivial⟩ (show tv_run _ _ _ _ = some (1, [some (.ref 130), some (.int a1), some (.int a2), some (.int a3), some (.int a4), some (.int a5), some (.int a6), none, none, none], [.ref 130]) from rfl) ?_
  refine V.getf hC tf_Y_20 (kd_in kd_130 (by decide)) (hp_at kd_130) rfl d_Y_sendOn_1 ?_
  show V X 0 0 tm_n (hp σ) 4 [some (.ref 130), some (.int a1), some (.int a2), some (.int a3), some (.int a4), some (.int a5), some (.int a6), none, none, none] [.ref 134]
  refine V.blk hC [(.bipush 7, 2), (.iload_n 1, 1), (.imul, 1), (.iload_n 3, 1), (.iadd, 1)] 4 [some (.ref 130), some (.int a1), some (.int a2), some (.int a3), some (.int a4), some (.int a5), some (.int a6), none, none, none] [.ref 134] ⟨d_Y_sendOn_4, d_Y_sendOn_6, d_Y_sendOn_7, d_Y_sendOn_8, d_Y_sendOn_9, trivial⟩ (show tv_run _ _ _ _ = some (10, [some (.ref 130), some (.int a1), some (.int a2), some (.int a3), some (.int a4), some (.int a5), some (.int a6), none, none, none], [.int (((7 : Int32) * a1) + a3), .ref 134]) from rfl) ?_
  obtain ⟨hb1, hf⟩ := tm_if hf
  refine V.iald hC (kd_in kd_134 (by decide)) (hp_at kd_134) rfl hb1 d_Y_sendOn_10 ?_
  show V X 0 0 tm_n (hp σ) 11 [some (.ref 130), some (.int a1), some (.int a2), some (.int a3), some (.int a4), some (.int a5), some (.int a6), none, none, none] [.int (σ.1 134 (((7 : Int32) * a1) + a3).toNatClampNeg)]
  refine V.blk hC [(.istore 7, 2), (.iload 7, 2)] 11 [some (.ref 130), some (.int a1), some (.int a2), some (.int a3), some (.int a4), some (.int a5), some (.int a6), none, none, none] [.int (σ.1 134 (((7 : Int32) * a1) + a3).toNatClampNeg)] ⟨d_Y_sendOn_11, d_Y_sendOn_13, trivial⟩ (show tv_run _ _ _ _ = some (15, [some (.ref 130), some (.int a1), some (.int a2), some (.int a3), some (.int a4), some (.int a5), some (.int a6), some (.int (σ.1 134 (((7 : Int32) * a1) + a3).toNatClampNeg)), none, none], [.int (σ.1 134 (((7 : Int32) * a1) + a3).toNatClampNeg)]) from rfl) ?_
  refine V.if_lt hC d_Y_sendOn_15 (tgt := 23) (by decide) (fun hc => ?_) (fun hc => ?_)
  · rw [if_pos hc] at hf
    refine V.blk hC [(.aload_n 0, 1)] 23 [some (.ref 130), some (.int a1), some (.int a2), some (.int a3), some (.int a4), some (.int a5), some (.int a6), some (.int (σ.1 134 (((7 : Int32) * a1) + a3).toNatClampNeg)), none, none] [] ⟨d_Y_sendOn_23, trivial⟩ (show tv_run _ _ _ _ = some (24, [some (.ref 130), some (.int a1), some (.int a2), some (.int a3), some (.int a4), some (.int a5), some (.int a6), some (.int (σ.1 134 (((7 : Int32) * a1) + a3).toNatClampNeg)), none, none], [.ref 130]) from rfl) ?_
    refine V.getf hC tf_Y_38 (kd_in kd_130 (by decide)) (hp_at kd_130) rfl d_Y_sendOn_24 ?_
    show V X 0 0 tm_n (hp σ) 27 [some (.ref 130), some (.int a1), some (.int a2), some (.int a3), some (.int a4), some (.int a5), some (.int a6), some (.int (σ.1 134 (((7 : Int32) * a1) + a3).toNatClampNeg)), none, none] [.ref 140]
    refine V.blk hC [(.iload_n 1, 1)] 27 [some (.ref 130), some (.int a1), some (.int a2), some (.int a3), some (.int a4), some (.int a5), some (.int a6), some (.int (σ.1 134 (((7 : Int32) * a1) + a3).toNatClampNeg)), none, none] [.ref 140] ⟨d_Y_sendOn_27, trivial⟩ (show tv_run _ _ _ _ = some (28, [some (.ref 130), some (.int a1), some (.int a2), some (.int a3), some (.int a4), some (.int a5), some (.int a6), some (.int (σ.1 134 (((7 : Int32) * a1) + a3).toNatClampNeg)), none, none], [.int a1, .ref 140]) from rfl) ?_
    obtain ⟨hb2, hf⟩ := tm_if hf
    refine V.iald hC (kd_in kd_140 (by decide)) (hp_at kd_140) rfl hb2 d_Y_sendOn_28 ?_
    show V X 0 0 tm_n (hp σ) 29 [some (.ref 130), some (.int a1), some (.int a2), some (.int a3), some (.int a4), some (.int a5), some (.int a6), some (.int (σ.1 134 (((7 : Int32) * a1) + a3).toNatClampNeg)), none, none] [.int (σ.1 140 a1.toNatClampNeg)]
    exact V.less (tv_le_some (tv_le_some (tv_le_some (tv_le_some (tv_le_some (tv_le_some (tv_le_some (tv_le_some (tv_le_none (tv_le_none tv_le_nil)))))))))) (c_Y_sendOn_L29 hC hr hE σ a1 a2 a3 a4 a5 a6 (σ.1 134 (((7 : Int32) * a1) + a3).toNatClampNeg) (σ.1 140 a1.toNatClampNeg)  hf)
  · rw [if_neg hc] at hf
    refine V.blk hC [(.iload 7, 2)] 18 [some (.ref 130), some (.int a1), some (.int a2), some (.int a3), some (.int a4), some (.int a5), some (.int a6), some (.int (σ.1 134 (((7 : Int32) * a1) + a3).toNatClampNeg)), none, none] [] ⟨d_Y_sendOn_18, trivial⟩ (show tv_run _ _ _ _ = some (20, [some (.ref 130), some (.int a1), some (.int a2), some (.int a3), some (.int a4), some (.int a5), some (.int a6), some (.int (σ.1 134 (((7 : Int32) * a1) + a3).toNatClampNeg)), none, none], [.int (σ.1 134 (((7 : Int32) * a1) + a3).toNatClampNeg)]) from rfl) ?_
    refine V.goto hC d_Y_sendOn_20 (tgt := 29) (by decide) ?_
    exact V.less (tv_le_some (tv_le_some (tv_le_some (tv_le_some (tv_le_some (tv_le_some (tv_le_some (tv_le_some (tv_le_none (tv_le_none tv_le_nil)))))))))) (c_Y_sendOn_L29 hC hr hE σ a1 a2 a3 a4 a5 a6 (σ.1 134 (((7 : Int32) * a1) + a3).toNatClampNeg) (σ.1 134 (((7 : Int32) * a1) + a3).toNatClampNeg)  hf)
set_option maxHeartbeats 4000000 in
set_option maxRecDepth 100000 in
theorem c_Y_valued_L98 {X : tv_X} {r : tm_S} (hC : tv_K X tb_Y_valued 6 "TrickleMeshModel" tm_wg tm_ns tm_cl tm_ty { frames := 4, cells := 0, slots := 0, locals := 93 }) (hr : tv_ret X none) (hE : tv_end X (tm_P none r) 0 0) : ∀ (k : Nat) (σ : tm_S) (l1 : Int32) (l3 : Int32) (l5 : Int32), f_Y_valued_L98 k σ l1 l3 l5 = some r → V X 0 0 tm_n (hp σ) 98 [some (.ref 130), some (.int l1), none, some (.int l3), none, some (.int l5)] [] := by
  intro k
  induction k with
  | zero => intro σ l1 l3 l5  hf; simp only [f_Y_valued_L98] at hf; cases hf
  | succ k hrc =>
    intro σ l1 l3 l5  hf
    rw [f_Y_valued_L98] at hf
    refine V.blk hC [(.iload 5, 2)] 98 [some (.ref 130), some (.int l1), none, some (.int l3), none, some (.int l5)] [] ⟨d_Y_valued_98, trivial⟩ (show tv_run _ _ _ _ = some (100, [some (.ref 130), some (.int l1), none, some (.int l3), none, some (.int l5)], [.int l5]) from rfl) ?_
    refine V.if_le hC d_Y_valued_100 (tgt := 135) (by decide) (fun hc => ?_) (fun hc => ?_)
    · rw [if_pos hc] at hf
      refine V.blk hC [(.aload_n 0, 1)] 135 [some (.ref 130), some (.int l1), none, some (.int l3), none, some (.int l5)] [] ⟨d_Y_valued_135, trivial⟩ (show tv_run _ _ _ _ = some (136, [some (.ref 130), some (.int l1), none, some (.int l3), none, some (.int l5)], [.ref 130]) from rfl) ?_
      refine V.getf hC tf_Y_137 (kd_in kd_130 (by decide)) (hp_at kd_130) rfl d_Y_valued_136 ?_
      show V X 0 0 tm_n (hp σ) 139 [some (.ref 130), some (.int l1), none, some (.int l3), none, some (.int l5)] [.ref 173]
      refine V.blk hC [(.bipush 8, 2), (.iload_n 1, 1), (.imul, 1), (.aload_n 0, 1)] 139 [some (.ref 130), some (.int l1), none, some (.int l3), none, some (.int l5)] [.ref 173] ⟨d_Y_valued_139, d_Y_valued_141, d_Y_valued_142, d_Y_valued_143, trivial⟩ (show tv_run _ _ _ _ = some (144, [some (.ref 130), some (.int l1), none, some (.int l3), none, some (.int l5)], [.ref 130, .int ((8 : Int32) * l1), .ref 173]) from rfl) ?_
      refine V.getf hC tf_Y_110 (kd_in kd_130 (by decide)) (hp_at kd_130) rfl d_Y_valued_144 ?_
      show V X 0 0 tm_n (hp σ) 147 [some (.ref 130), some (.int l1), none, some (.int l3), none, some (.int l5)] [.ref 164, .int ((8 : Int32) * l1), .ref 173]
      refine V.blk hC [(.iload_n 3, 1)] 147 [some (.ref 130), some (.int l1), none, some (.int l3), none, some (.int l5)] [.ref 164, .int ((8 : Int32) * l1), .ref 173] ⟨d_Y_valued_147, trivial⟩ (show tv_run _ _ _ _ = some (148, [some (.ref 130), some (.int l1), none, some (.int l3), none, some (.int l5)], [.int l3, .ref 164, .int ((8 : Int32) * l1), .ref 173]) from rfl) ?_
      obtain ⟨hb18, hf⟩ := tm_if hf
      refine V.iald hC (kd_in kd_164 (by decide)) (hp_at kd_164) rfl hb18 d_Y_valued_148 ?_
      show V X 0 0 tm_n (hp σ) 149 [some (.ref 130), some (.int l1), none, some (.int l3), none, some (.int l5)] [.int (σ.1 164 l3.toNatClampNeg), .int ((8 : Int32) * l1), .ref 173]
      refine V.blk hC [(.sipush 1000, 3), (.aload_n 0, 1)] 149 [some (.ref 130), some (.int l1), none, some (.int l3), none, some (.int l5)] [.int (σ.1 164 l3.toNatClampNeg), .int ((8 : Int32) * l1), .ref 173] ⟨d_Y_valued_149, d_Y_valued_152, trivial⟩ (show tv_run _ _ _ _ = some (153, [some (.ref 130), some (.int l1), none, some (.int l3), none, some (.int l5)], [.ref 130, .int (1000 : Int32), .int (σ.1 164 l3.toNatClampNeg), .int ((8 : Int32) * l1), .ref 173]) from rfl) ?_
      refine V.getf hC tf_Y_101 (kd_in kd_130 (by decide)) (hp_at kd_130) rfl d_Y_valued_153 ?_
      show V X 0 0 tm_n (hp σ) 156 [some (.ref 130), some (.int l1), none, some (.int l3), none, some (.int l5)] [.ref 161, .int (1000 : Int32), .int (σ.1 164 l3.toNatClampNeg), .int ((8 : Int32) * l1), .ref 173]
      refine V.blk hC [(.iload_n 3, 1)] 156 [some (.ref 130), some (.int l1), none, some (.int l3), none, some (.int l5)] [.ref 161, .int (1000 : Int32), .int (σ.1 164 l3.toNatClampNeg), .int ((8 : Int32) * l1), .ref 173] ⟨d_Y_valued_156, trivial⟩ (show tv_run _ _ _ _ = some (157, [some (.ref 130), some (.int l1), none, some (.int l3), none, some (.int l5)], [.int l3, .ref 161, .int (1000 : Int32), .int (σ.1 164 l3.toNatClampNeg), .int ((8 : Int32) * l1), .ref 173]) from rfl) ?_
      obtain ⟨hb19, hf⟩ := tm_if hf
      refine V.iald hC (kd_in kd_161 (by decide)) (hp_at kd_161) rfl hb19 d_Y_valued_157 ?_
      show V X 0 0 tm_n (hp σ) 158 [some (.ref 130), some (.int l1), none, some (.int l3), none, some (.int l5)] [.int (σ.1 161 l3.toNatClampNeg), .int (1000 : Int32), .int (σ.1 164 l3.toNatClampNeg), .int ((8 : Int32) * l1), .ref 173]
      refine V.blk hC [(.imul, 1), (.iadd, 1)] 158 [some (.ref 130), some (.int l1), none, some (.int l3), none, some (.int l5)] [.int (σ.1 161 l3.toNatClampNeg), .int (1000 : Int32), .int (σ.1 164 l3.toNatClampNeg), .int ((8 : Int32) * l1), .ref 173] ⟨d_Y_valued_158, d_Y_valued_159, trivial⟩ (show tv_run _ _ _ _ = some (160, [some (.ref 130), some (.int l1), none, some (.int l3), none, some (.int l5)], [.int ((σ.1 164 l3.toNatClampNeg) + ((1000 : Int32) * (σ.1 161 l3.toNatClampNeg))), .int ((8 : Int32) * l1), .ref 173]) from rfl) ?_
      obtain ⟨hb20, hf⟩ := tm_if hf
      obtain ⟨σ21, hσ21, hf⟩ := tm_ww hf
      refine V.seta hC kd_173 (kd_in kd_173 (by decide)) rfl rfl rfl hb20 d_Y_valued_160 ?_
      rw [← hσ21]
      refine V.blk hC [(.aload_n 0, 1)] 161 [some (.ref 130), some (.int l1), none, some (.int l3), none, some (.int l5)] [] ⟨d_Y_valued_161, trivial⟩ (show tv_run _ _ _ _ = some (162, [some (.ref 130), some (.int l1), none, some (.int l3), none, some (.int l5)], [.ref 130]) from rfl) ?_
      refine V.getf hC tf_Y_134 (kd_in kd_130 (by decide)) (hp_at kd_130) rfl d_Y_valued_162 ?_
      show V X 0 0 tm_n (hp σ21) 165 [some (.ref 130), some (.int l1), none, some (.int l3), none, some (.int l5)] [.ref 172]
      refine V.blk hC [(.iload_n 1, 1), (.dup2, 1)] 165 [some (.ref 130), some (.int l1), none, some (.int l3), none, some (.int l5)] [.ref 172] ⟨d_Y_valued_165, d_Y_valued_166, trivial⟩ (show tv_run _ _ _ _ = some (167, [some (.ref 130), some (.int l1), none, some (.int l3), none, some (.int l5)], [.int l1, .ref 172, .int l1, .ref 172]) from rfl) ?_
      obtain ⟨hb22, hf⟩ := tm_if hf
      refine V.iald hC (kd_in kd_172 (by decide)) (hp_at kd_172) rfl hb22 d_Y_valued_167 ?_
      show V X 0 0 tm_n (hp σ21) 168 [some (.ref 130), some (.int l1), none, some (.int l3), none, some (.int l5)] [.int (σ21.1 172 l1.toNatClampNeg), .int l1, .ref 172]
      refine V.blk hC [(.iconst 1, 1), (.iadd, 1)] 168 [some (.ref 130), some (.int l1), none, some (.int l3), none, some (.int l5)] [.int (σ21.1 172 l1.toNatClampNeg), .int l1, .ref 172] ⟨d_Y_valued_168, d_Y_valued_169, trivial⟩ (show tv_run _ _ _ _ = some (170, [some (.ref 130), some (.int l1), none, some (.int l3), none, some (.int l5)], [.int ((σ21.1 172 l1.toNatClampNeg) + (1 : Int32)), .int l1, .ref 172]) from rfl) ?_
      obtain ⟨hb23, hf⟩ := tm_if hf
      obtain ⟨σ24, hσ24, hf⟩ := tm_ww hf
      refine V.seta hC kd_172 (kd_in kd_172 (by decide)) rfl rfl rfl hb23 d_Y_valued_170 ?_
      rw [← hσ24]
      refine V.blk hC [(.aload_n 0, 1), (.dup, 1)] 171 [some (.ref 130), some (.int l1), none, some (.int l3), none, some (.int l5)] [] ⟨d_Y_valued_171, d_Y_valued_172, trivial⟩ (show tv_run _ _ _ _ = some (173, [some (.ref 130), some (.int l1), none, some (.int l3), none, some (.int l5)], [.ref 130, .ref 130]) from rfl) ?_
      refine V.getf hC tf_Y_197 (kd_in kd_130 (by decide)) (hp_at kd_130) rfl d_Y_valued_173 ?_
      show V X 0 0 tm_n (hp σ24) 176 [some (.ref 130), some (.int l1), none, some (.int l3), none, some (.int l5)] [.int (σ24.1 130 48), .ref 130]
      refine V.blk hC [(.iconst 1, 1), (.iadd, 1)] 176 [some (.ref 130), some (.int l1), none, some (.int l3), none, some (.int l5)] [.int (σ24.1 130 48), .ref 130] ⟨d_Y_valued_176, d_Y_valued_177, trivial⟩ (show tv_run _ _ _ _ = some (178, [some (.ref 130), some (.int l1), none, some (.int l3), none, some (.int l5)], [.int ((σ24.1 130 48) + (1 : Int32)), .ref 130]) from rfl) ?_
      obtain ⟨σ25, hσ25, hf⟩ := tm_ww hf
      refine V.seti hC tf_Y_197 tt_Y to_Y tn_Y rfl (by decide +kernel) tm_fi kd_130 (kd_in kd_130 (by decide)) rfl rfl (tm_le rfl) d_Y_valued_178 ?_
      rw [← hσ25]
      refine V.goto hC d_Y_valued_181 (tgt := 257) (by decide) ?_
      obtain rfl := Option.some.inj hf
      exact V.vret hC hr hE d_Y_valued_257 ⟨rfl, rfl, rfl⟩
    · rw [if_neg hc] at hf
      refine V.blk hC [(.aload_n 0, 1)] 103 [some (.ref 130), some (.int l1), none, some (.int l3), none, some (.int l5)] [] ⟨d_Y_valued_103, trivial⟩ (show tv_run _ _ _ _ = some (104, [some (.ref 130), some (.int l1), none, some (.int l3), none, some (.int l5)], [.ref 130]) from rfl) ?_
      refine V.getf hC tf_Y_137 (kd_in kd_130 (by decide)) (hp_at kd_130) rfl d_Y_valued_104 ?_
      show V X 0 0 tm_n (hp σ) 107 [some (.ref 130), some (.int l1), none, some (.int l3), none, some (.int l5)] [.ref 173]
      refine V.blk hC [(.bipush 8, 2), (.iload_n 1, 1), (.imul, 1), (.iload 5, 2), (.iadd, 1), (.aload_n 0, 1)] 107 [some (.ref 130), some (.int l1), none, some (.int l3), none, some (.int l5)] [.ref 173] ⟨d_Y_valued_107, d_Y_valued_109, d_Y_valued_110, d_Y_valued_111, d_Y_valued_113, d_Y_valued_114, trivial⟩ (show tv_run _ _ _ _ = some (115, [some (.ref 130), some (.int l1), none, some (.int l3), none, some (.int l5)], [.ref 130, .int (((8 : Int32) * l1) + l5), .ref 173]) from rfl) ?_
      refine V.getf hC tf_Y_137 (kd_in kd_130 (by decide)) (hp_at kd_130) rfl d_Y_valued_115 ?_
      show V X 0 0 tm_n (hp σ) 118 [some (.ref 130), some (.int l1), none, some (.int l3), none, some (.int l5)] [.ref 173, .int (((8 : Int32) * l1) + l5), .ref 173]
      refine V.blk hC [(.bipush 8, 2), (.iload_n 1, 1), (.imul, 1), (.iload 5, 2), (.iadd, 1), (.iconst 1, 1), (.isub, 1)] 118 [some (.ref 130), some (.int l1), none, some (.int l3), none, some (.int l5)] [.ref 173, .int (((8 : Int32) * l1) + l5), .ref 173] ⟨d_Y_valued_118, d_Y_valued_120, d_Y_valued_121, d_Y_valued_122, d_Y_valued_124, d_Y_valued_125, d_Y_valued_126, trivial⟩ (show tv_run _ _ _ _ = some (127, [some (.ref 130), some (.int l1), none, some (.int l3), none, some (.int l5)], [.int ((((8 : Int32) * l1) + l5) - (1 : Int32)), .ref 173, .int (((8 : Int32) * l1) + l5), .ref 173]) from rfl) ?_
      obtain ⟨hb26, hf⟩ := tm_if hf
      refine V.iald hC (kd_in kd_173 (by decide)) (hp_at kd_173) rfl hb26 d_Y_valued_127 ?_
      show V X 0 0 tm_n (hp σ) 128 [some (.ref 130), some (.int l1), none, some (.int l3), none, some (.int l5)] [.int (σ.1 173 ((((8 : Int32) * l1) + l5) - (1 : Int32)).toNatClampNeg), .int (((8 : Int32) * l1) + l5), .ref 173]
      obtain ⟨hb27, hf⟩ := tm_if hf
      obtain ⟨σ28, hσ28, hf⟩ := tm_ww hf
      refine V.seta hC kd_173 (kd_in kd_173 (by decide)) rfl rfl rfl hb27 d_Y_valued_128 ?_
      rw [← hσ28]
      refine V.blk hC [(.iinc 5 (-1), 3)] 129 [some (.ref 130), some (.int l1), none, some (.int l3), none, some (.int l5)] [] ⟨d_Y_valued_129, trivial⟩ (show tv_run _ _ _ _ = some (132, [some (.ref 130), some (.int l1), none, some (.int l3), none, some (.int (l5 + (-1 : Int32)))], []) from rfl) ?_
      refine V.goto hC d_Y_valued_132 (tgt := 98) (by decide) ?_
      exact V.less (tv_le_some (tv_le_some (tv_le_none (tv_le_some (tv_le_none (tv_le_some tv_le_nil)))))) (hrc σ28 l1 l3 (l5 + (-1 : Int32))  hf)
set_option maxHeartbeats 4000000 in
set_option maxRecDepth 100000 in
theorem c_Y_valued_L254 {X : tv_X} {r : tm_S} (hC : tv_K X tb_Y_valued 6 "TrickleMeshModel" tm_wg tm_ns tm_cl tm_ty { frames := 4, cells := 0, slots := 0, locals := 93 }) (hr : tv_ret X none) (hE : tv_end X (tm_P none r) 0 0) (σ : tm_S) (s0 : Int32) (s1 : Int32) (s2 : Int32) (s3 : Int32) (s4 : Int32) (s5 : Int32)  (hf : f_Y_valued_L254 σ s0 s1 s2 s3 s4 s5 = some r) : V X 0 0 tm_n (hp σ) 254 [some (.ref 130), none, none, none, none, none] [.int s0, .int s1, .int s2, .int s3, .int s4, .int s5, .ref 130] := by
  unfold f_Y_valued_L254 at hf
  obtain ⟨q17, hq17, hf⟩ := tm_bd hf
  refine V.callV hC tm_nest rfl (c_Y_sendOn σ s5 s4 s3 s2 s1 s0  hq17) (tm_gd tc_Y_sendOn) tg_Y_200 th_Y_sendOn ⟨tm_le rfl, tm_le rfl, tm_le rfl, tm_le rfl⟩ rfl (kd_in kd_130 (by decide)) (hp_at kd_130) (As := [.int s5, .int s4, .int s3, .int s2, .int s1, .int s0]) (st := []) rfl (tm_le rfl) d_Y_valued_254 ?_
  rintro v n2 h2 ⟨rfl, rfl, rfl⟩
  show V X 0 0 tm_n (hp q17) 257 [some (.ref 130), none, none, none, none, none] []
  obtain rfl := Option.some.inj hf
  exact V.vret hC hr hE d_Y_valued_257 ⟨rfl, rfl, rfl⟩
set_option maxHeartbeats 4000000 in
set_option maxRecDepth 100000 in
theorem c_Y_valued_L249 {X : tv_X} {r : tm_S} (hC : tv_K X tb_Y_valued 6 "TrickleMeshModel" tm_wg tm_ns tm_cl tm_ty { frames := 4, cells := 0, slots := 0, locals := 93 }) (hr : tv_ret X none) (hE : tv_end X (tm_P none r) 0 0) (σ : tm_S) (s0 : Int32) (s1 : Int32) (s2 : Int32) (s3 : Int32) (s4 : Int32)  (hf : f_Y_valued_L249 σ s0 s1 s2 s3 s4 = some r) : V X 0 0 tm_n (hp σ) 249 [some (.ref 130), none, none, none, none, none] [.int s0, .int s1, .int s2, .int s3, .int s4, .ref 130] := by
  unfold f_Y_valued_L249 at hf
  refine V.blk hC [(.iconst 1, 1)] 249 [some (.ref 130), none, none, none, none, none] [.int s0, .int s1, .int s2, .int s3, .int s4, .ref 130] ⟨d_Y_valued_249, trivial⟩ (show tv_run _ _ _ _ = some (250, [some (.ref 130), none, none, none, none, none], [.int (1 : Int32), .int s0, .int s1, .int s2, .int s3, .int s4, .ref 130]) from rfl) ?_
  refine V.goto hC d_Y_valued_250 (tgt := 254) (by decide) ?_
  exact V.less (tv_le_some (tv_le_none (tv_le_none (tv_le_none (tv_le_none (tv_le_none tv_le_nil)))))) (c_Y_valued_L254 hC hr hE σ (1 : Int32) s0 s1 s2 s3 s4  hf)
set_option maxHeartbeats 4000000 in
set_option maxRecDepth 100000 in
theorem c_Y_valued_L84 {X : tv_X} {r : tm_S} (hC : tv_K X tb_Y_valued 6 "TrickleMeshModel" tm_wg tm_ns tm_cl tm_ty { frames := 4, cells := 0, slots := 0, locals := 93 }) (hr : tv_ret X none) (hE : tv_end X (tm_P none r) 0 0) (σ : tm_S) (l1 : Int32) (l3 : Int32) (l4 : Int32)  (hf : f_Y_valued_L84 σ l1 l3 l4 = some r) : V X 0 0 tm_n (hp σ) 84 [some (.ref 130), some (.int l1), none, some (.int l3), some (.int l4), none] [] := by
  unfold f_Y_valued_L84 at hf
  refine V.blk hC [(.aload_n 0, 1)] 84 [some (.ref 130), some (.int l1), none, some (.int l3), some (.int l4), none] [] ⟨d_Y_valued_84, trivial⟩ (show tv_run _ _ _ _ = some (85, [some (.ref 130), some (.int l1), none, some (.int l3), some (.int l4), none], [.ref 130]) from rfl) ?_
  refine V.getf hC tf_Y_104 (kd_in kd_130 (by decide)) (hp_at kd_130) rfl d_Y_valued_85 ?_
  show V X 0 0 tm_n (hp σ) 88 [some (.ref 130), some (.int l1), none, some (.int l3), some (.int l4), none] [.ref 162]
  refine V.blk hC [(.iload_n 3, 1)] 88 [some (.ref 130), some (.int l1), none, some (.int l3), some (.int l4), none] [.ref 162] ⟨d_Y_valued_88, trivial⟩ (show tv_run _ _ _ _ = some (89, [some (.ref 130), some (.int l1), none, some (.int l3), some (.int l4), none], [.int l3, .ref 162]) from rfl) ?_
  obtain ⟨hb9, hf⟩ := tm_if hf
  refine V.iald hC (kd_in kd_162 (by decide)) (hp_at kd_162) rfl hb9 d_Y_valued_89 ?_
  show V X 0 0 tm_n (hp σ) 90 [some (.ref 130), some (.int l1), none, some (.int l3), some (.int l4), none] [.int (σ.1 162 l3.toNatClampNeg)]
  refine V.blk hC [(.iload_n 1, 1)] 90 [some (.ref 130), some (.int l1), none, some (.int l3), some (.int l4), none] [.int (σ.1 162 l3.toNatClampNeg)] ⟨d_Y_valued_90, trivial⟩ (show tv_run _ _ _ _ = some (91, [some (.ref 130), some (.int l1), none, some (.int l3), some (.int l4), none], [.int l1, .int (σ.1 162 l3.toNatClampNeg)]) from rfl) ?_
  refine V.icmp_ne hC d_Y_valued_91 (tgt := 184) (by decide) (fun hc => ?_) (fun hc => ?_)
  · rw [if_neg hc] at hf
    refine V.blk hC [(.aload_n 0, 1)] 184 [some (.ref 130), some (.int l1), none, some (.int l3), some (.int l4), none] [] ⟨d_Y_valued_184, trivial⟩ (show tv_run _ _ _ _ = some (185, [some (.ref 130), some (.int l1), none, some (.int l3), some (.int l4), none], [.ref 130]) from rfl) ?_
    refine V.getf hC tf_Y_107 (kd_in kd_130 (by decide)) (hp_at kd_130) rfl d_Y_valued_185 ?_
    show V X 0 0 tm_n (hp σ) 188 [some (.ref 130), some (.int l1), none, some (.int l3), some (.int l4), none] [.ref 163]
    refine V.blk hC [(.iload_n 3, 1)] 188 [some (.ref 130), some (.int l1), none, some (.int l3), some (.int l4), none] [.ref 163] ⟨d_Y_valued_188, trivial⟩ (show tv_run _ _ _ _ = some (189, [some (.ref 130), some (.int l1), none, some (.int l3), some (.int l4), none], [.int l3, .ref 163]) from rfl) ?_
    obtain ⟨hb10, hf⟩ := tm_if hf
    refine V.iald hC (kd_in kd_163 (by decide)) (hp_at kd_163) rfl hb10 d_Y_valued_189 ?_
    show V X 0 0 tm_n (hp σ) 190 [some (.ref 130), some (.int l1), none, some (.int l3), some (.int l4), none] [.int (σ.1 163 l3.toNatClampNeg)]
    refine V.blk hC [(.iconst 1, 1)] 190 [some (.ref 130), some (.int l1), none, some (.int l3), some (.int l4), none] [.int (σ.1 163 l3.toNatClampNeg)] ⟨d_Y_valued_190, trivial⟩ (show tv_run _ _ _ _ = some (191, [some (.ref 130), some (.int l1), none, some (.int l3), some (.int l4), none], [.int (1 : Int32), .int (σ.1 163 l3.toNatClampNeg)]) from rfl) ?_
    refine V.icmp_ne hC d_Y_valued_191 (tgt := 207) (by decide) (fun hc => ?_) (fun hc => ?_)
    · rw [if_neg hc] at hf
      refine V.blk hC [(.aload_n 0, 1), (.iload_n 1, 1), (.aload_n 0, 1)] 207 [some (.ref 130), some (.int l1), none, some (.int l3), some (.int l4), none] [] ⟨d_Y_valued_207, d_Y_valued_208, d_Y_valued_209, trivial⟩ (show tv_run _ _ _ _ = some (210, [some (.ref 130), some (.int l1), none, some (.int l3), some (.int l4), none], [.ref 130, .int l1, .ref 130]) from rfl) ?_
      refine V.getf hC tf_Y_101 (kd_in kd_130 (by decide)) (hp_at kd_130) rfl d_Y_valued_210 ?_
      show V X 0 0 tm_n (hp σ) 213 [some (.ref 130), some (.int l1), none, some (.int l3), some (.int l4), none] [.ref 161, .int l1, .ref 130]
      refine V.blk hC [(.iload_n 3, 1)] 213 [some (.ref 130), some (.int l1), none, some (.int l3), some (.int l4), none] [.ref 161, .int l1, .ref 130] ⟨d_Y_valued_213, trivial⟩ (show tv_run _ _ _ _ = some (214, [some (.ref 130), some (.int l1), none, some (.int l3), some (.int l4), none], [.int l3, .ref 161, .int l1, .ref 130]) from rfl) ?_
      obtain ⟨hb11, hf⟩ := tm_if hf
      refine V.iald hC (kd_in kd_161 (by decide)) (hp_at kd_161) rfl hb11 d_Y_valued_214 ?_
      show V X 0 0 tm_n (hp σ) 215 [some (.ref 130), some (.int l1), none, some (.int l3), some (.int l4), none] [.int (σ.1 161 l3.toNatClampNeg), .int l1, .ref 130]
      refine V.blk hC [(.aload_n 0, 1)] 215 [some (.ref 130), some (.int l1), none, some (.int l3), some (.int l4), none] [.int (σ.1 161 l3.toNatClampNeg), .int l1, .ref 130] ⟨d_Y_valued_215, trivial⟩ (show tv_run _ _ _ _ = some (216, [some (.ref 130), some (.int l1), none, some (.int l3), some (.int l4), none], [.ref 130, .int (σ.1 161 l3.toNatClampNeg), .int l1, .ref 130]) from rfl) ?_
      refine V.getf hC tf_Y_104 (kd_in kd_130 (by decide)) (hp_at kd_130) rfl d_Y_valued_216 ?_
      show V X 0 0 tm_n (hp σ) 219 [some (.ref 130), some (.int l1), none, some (.int l3), some (.int l4), none] [.ref 162, .int (σ.1 161 l3.toNatClampNeg), .int l1, .ref 130]
      refine V.blk hC [(.iload_n 3, 1)] 219 [some (.ref 130), some (.int l1), none, some (.int l3), some (.int l4), none] [.ref 162, .int (σ.1 161 l3.toNatClampNeg), .int l1, .ref 130] ⟨d_Y_valued_219, trivial⟩ (show tv_run _ _ _ _ = some (220, [some (.ref 130), some (.int l1), none, some (.int l3), some (.int l4), none], [.int l3, .ref 162, .int (σ.1 161 l3.toNatClampNeg), .int l1, .ref 130]) from rfl) ?_
      obtain ⟨hb12, hf⟩ := tm_if hf
      refine V.iald hC (kd_in kd_162 (by decide)) (hp_at kd_162) rfl hb12 d_Y_valued_220 ?_
      show V X 0 0 tm_n (hp σ) 221 [some (.ref 130), some (.int l1), none, some (.int l3), some (.int l4), none] [.int (σ.1 162 l3.toNatClampNeg), .int (σ.1 161 l3.toNatClampNeg), .int l1, .ref 130]
      refine V.blk hC [(.aload_n 0, 1)] 221 [some (.ref 130), some (.int l1), none, some (.int l3), some (.int l4), none] [.int (σ.1 162 l3.toNatClampNeg), .int (σ.1 161 l3.toNatClampNeg), .int l1, .ref 130] ⟨d_Y_valued_221, trivial⟩ (show tv_run _ _ _ _ = some (222, [some (.ref 130), some (.int l1), none, some (.int l3), some (.int l4), none], [.ref 130, .int (σ.1 162 l3.toNatClampNeg), .int (σ.1 161 l3.toNatClampNeg), .int l1, .ref 130]) from rfl) ?_
      refine V.getf hC tf_Y_107 (kd_in kd_130 (by decide)) (hp_at kd_130) rfl d_Y_valued_222 ?_
      show V X 0 0 tm_n (hp σ) 225 [some (.ref 130), some (.int l1), none, some (.int l3), some (.int l4), none] [.ref 163, .int (σ.1 162 l3.toNatClampNeg), .int (σ.1 161 l3.toNatClampNeg), .int l1, .ref 130]
      refine V.blk hC [(.iload_n 3, 1)] 225 [some (.ref 130), some (.int l1), none, some (.int l3), some (.int l4), none] [.ref 163, .int (σ.1 162 l3.toNatClampNeg), .int (σ.1 161 l3.toNatClampNeg), .int l1, .ref 130] ⟨d_Y_valued_225, trivial⟩ (show tv_run _ _ _ _ = some (226, [some (.ref 130), some (.int l1), none, some (.int l3), some (.int l4), none], [.int l3, .ref 163, .int (σ.1 162 l3.toNatClampNeg), .int (σ.1 161 l3.toNatClampNeg), .int l1, .ref 130]) from rfl) ?_
      obtain ⟨hb13, hf⟩ := tm_if hf
      refine V.iald hC (kd_in kd_163 (by decide)) (hp_at kd_163) rfl hb13 d_Y_valued_226 ?_
      show V X 0 0 tm_n (hp σ) 227 [some (.ref 130), some (.int l1), none, some (.int l3), some (.int l4), none] [.int (σ.1 163 l3.toNatClampNeg), .int (σ.1 162 l3.toNatClampNeg), .int (σ.1 161 l3.toNatClampNeg), .int l1, .ref 130]
      refine V.blk hC [(.iconst 1, 1), (.isub, 1), (.aload_n 0, 1)] 227 [some (.ref 130), some (.int l1), none, some (.int l3), some (.int l4), none] [.int (σ.1 163 l3.toNatClampNeg), .int (σ.1 162 l3.toNatClampNeg), .int (σ.1 161 l3.toNatClampNeg), .int l1, .ref 130] ⟨d_Y_valued_227, d_Y_valued_228, d_Y_valued_229, trivial⟩ (show tv_run _ _ _ _ = some (230, [some (.ref 130), some (.int l1), none, some (.int l3), some (.int l4), none], [.ref 130, .int ((σ.1 163 l3.toNatClampNeg) - (1 : Int32)), .int (σ.1 162 l3.toNatClampNeg), .int (σ.1 161 l3.toNatClampNeg), .int l1, .ref 130]) from rfl) ?_
      refine V.getf hC tf_Y_110 (kd_in kd_130 (by decide)) (hp_at kd_130) rfl d_Y_valued_230 ?_
      show V X 0 0 tm_n (hp σ) 233 [some (.ref 130), some (.int l1), none, some (.int l3), some (.int l4), none] [.ref 164, .int ((σ.1 163 l3.toNatClampNeg) - (1 : Int32)), .int (σ.1 162 l3.toNatClampNeg), .int (σ.1 161 l3.toNatClampNeg), .int l1, .ref 130]
      refine V.blk hC [(.iload_n 3, 1)] 233 [some (.ref 130), some (.int l1), none, some (.int l3), some (.int l4), none] [.ref 164, .int ((σ.1 163 l3.toNatClampNeg) - (1 : Int32)), .int (σ.1 162 l3.toNatClampNeg), .int (σ.1 161 l3.toNatClampNeg), .int l1, .ref 130] ⟨d_Y_valued_233, trivial⟩ (show tv_run _ _ _ _ = some (234, [some (.ref 130), some (.int l1), none, some (.int l3), some (.int l4), none], [.int l3, .ref 164, .int ((σ.1 163 l3.toNatClampNeg) - (1 : Int32)), .int (σ.1 162 l3.toNatClampNeg), .int (σ.1 161 l3.toNatClampNeg), .int l1, .ref 130]) from rfl) ?_
      obtain ⟨hb14, hf⟩ := tm_if hf
      refine V.iald hC (kd_in kd_164 (by decide)) (hp_at kd_164) rfl hb14 d_Y_valued_234 ?_
      show V X 0 0 tm_n (hp σ) 235 [some (.ref 130), some (.int l1), none, some (.int l3), some (.int l4), none] [.int (σ.1 164 l3.toNatClampNeg), .int ((σ.1 163 l3.toNatClampNeg) - (1 : Int32)), .int (σ.1 162 l3.toNatClampNeg), .int (σ.1 161 l3.toNatClampNeg), .int l1, .ref 130]
      refine V.blk hC [(.iload 4, 2)] 235 [some (.ref 130), some (.int l1), none, some (.int l3), some (.int l4), none] [.int (σ.1 164 l3.toNatClampNeg), .int ((σ.1 163 l3.toNatClampNeg) - (1 : Int32)), .int (σ.1 162 l3.toNatClampNeg), .int (σ.1 161 l3.toNatClampNeg), .int l1, .ref 130] ⟨d_Y_valued_235, trivial⟩ (show tv_run _ _ _ _ = some (237, [some (.ref 130), some (.int l1), none, some (.int l3), some (.int l4), none], [.int l4, .int (σ.1 164 l3.toNatClampNeg), .int ((σ.1 163 l3.toNatClampNeg) - (1 : Int32)), .int (σ.1 162 l3.toNatClampNeg), .int (σ.1 161 l3.toNatClampNeg), .int l1, .ref 130]) from rfl) ?_
      refine V.if_ne hC d_Y_valued_237 (tgt := 249) (by decide) (fun hc => ?_) (fun hc => ?_)
      · rw [if_neg hc] at hf
        exact V.less (tv_le_some (tv_le_none (tv_le_none (tv_le_none (tv_le_none (tv_le_none tv_le_nil)))))) (c_Y_valued_L249 hC hr hE σ (σ.1 164 l3.toNatClampNeg) ((σ.1 163 l3.toNatClampNeg) - (1 : Int32)) (σ.1 162 l3.toNatClampNeg) (σ.1 161 l3.toNatClampNeg) l1  hf)
      · rw [if_pos hc] at hf
        refine V.blk hC [(.aload_n 0, 1)] 240 [some (.ref 130), some (.int l1), none, some (.int l3), some (.int l4), none] [.int (σ.1 164 l3.toNatClampNeg), .int ((σ.1 163 l3.toNatClampNeg) - (1 : Int32)), .int (σ.1 162 l3.toNatClampNeg), .int (σ.1 161 l3.toNatClampNeg), .int l1, .ref 130] ⟨d_Y_valued_240, trivial⟩ (show tv_run _ _ _ _ = some (241, [some (.ref 130), some (.int l1), none, some (.int l3), some (.int l4), none], [.ref 130, .int (σ.1 164 l3.toNatClampNeg), .int ((σ.1 163 l3.toNatClampNeg) - (1 : Int32)), .int (σ.1 162 l3.toNatClampNeg), .int (σ.1 161 l3.toNatClampNeg), .int l1, .ref 130]) from rfl) ?_
        refine V.getf hC tf_Y_116 (kd_in kd_130 (by decide)) (hp_at kd_130) rfl d_Y_valued_241 ?_
        show V X 0 0 tm_n (hp σ) 244 [some (.ref 130), some (.int l1), none, some (.int l3), some (.int l4), none] [.ref 166, .int (σ.1 164 l3.toNatClampNeg), .int ((σ.1 163 l3.toNatClampNeg) - (1 : Int32)), .int (σ.1 162 l3.toNatClampNeg), .int (σ.1 161 l3.toNatClampNeg), .int l1, .ref 130]
        refine V.blk hC [(.iload_n 3, 1)] 244 [some (.ref 130), some (.int l1), none, some (.int l3), some (.int l4), none] [.ref 166, .int (σ.1 164 l3.toNatClampNeg), .int ((σ.1 163 l3.toNatClampNeg) - (1 : Int32)), .int (σ.1 162 l3.toNatClampNeg), .int (σ.1 161 l3.toNatClampNeg), .int l1, .ref 130] ⟨d_Y_valued_244, trivial⟩ (show tv_run _ _ _ _ = some (245, [some (.ref 130), some (.int l1), none, some (.int l3), some (.int l4), none], [.int l3, .ref 166, .int (σ.1 164 l3.toNatClampNeg), .int ((σ.1 163 l3.toNatClampNeg) - (1 : Int32)), .int (σ.1 162 l3.toNatClampNeg), .int (σ.1 161 l3.toNatClampNeg), .int l1, .ref 130]) from rfl) ?_
        obtain ⟨hb15, hf⟩ := tm_if hf
        refine V.zald hC (kd_in kd_166 (by decide)) (hp_at kd_166) rfl hb15 d_Y_valued_245 ?_
        show V X 0 0 tm_n (hp σ) 246 [some (.ref 130), some (.int l1), none, some (.int l3), some (.int l4), none] [.int (σ.1 166 l3.toNatClampNeg), .int (σ.1 164 l3.toNatClampNeg), .int ((σ.1 163 l3.toNatClampNeg) - (1 : Int32)), .int (σ.1 162 l3.toNatClampNeg), .int (σ.1 161 l3.toNatClampNeg), .int l1, .ref 130]
        refine V.if_eq hC d_Y_valued_246 (tgt := 253) (by decide) (fun hc => ?_) (fun hc => ?_)
        · rw [if_pos hc] at hf
          refine V.blk hC [(.iconst 0, 1)] 253 [some (.ref 130), some (.int l1), none, some (.int l3), some (.int l4), none] [.int (σ.1 164 l3.toNatClampNeg), .int ((σ.1 163 l3.toNatClampNeg) - (1 : Int32)), .int (σ.1 162 l3.toNatClampNeg), .int (σ.1 161 l3.toNatClampNeg), .int l1, .ref 130] ⟨d_Y_valued_253, trivial⟩ (show tv_run _ _ _ _ = some (254, [some (.ref 130), some (.int l1), none, some (.int l3), some (.int l4), none], [.int (0 : Int32), .int (σ.1 164 l3.toNatClampNeg), .int ((σ.1 163 l3.toNatClampNeg) - (1 : Int32)), .int (σ.1 162 l3.toNatClampNeg), .int (σ.1 161 l3.toNatClampNeg), .int l1, .ref 130]) from rfl) ?_
          exact V.less (tv_le_some (tv_le_none (tv_le_none (tv_le_none (tv_le_none (tv_le_none tv_le_nil)))))) (c_Y_valued_L254 hC hr hE σ (0 : Int32) (σ.1 164 l3.toNatClampNeg) ((σ.1 163 l3.toNatClampNeg) - (1 : Int32)) (σ.1 162 l3.toNatClampNeg) (σ.1 161 l3.toNatClampNeg) l1  hf)
        · rw [if_neg hc] at hf
          exact V.less (tv_le_some (tv_le_none (tv_le_none (tv_le_none (tv_le_none (tv_le_none tv_le_nil)))))) (c_Y_valued_L249 hC hr hE σ (σ.1 164 l3.toNatClampNeg) ((σ.1 163 l3.toNatClampNeg) - (1 : Int32)) (σ.1 162 l3.toNatClampNeg) (σ.1 161 l3.toNatClampNeg) l1  hf)
    · rw [if_pos hc] at hf
      refine V.blk hC [(.aload_n 0, 1), (.dup, 1)] 194 [some (.ref 130), some (.int l1), none, some (.int l3), some (.int l4), none] [] ⟨d_Y_valued_194, d_Y_valued_195, trivial⟩ (show tv_run _ _ _ _ = some (196, [some (.ref 130), some (.int l1), none, some (.int l3), some (.int l4), none], [.ref 130, .ref 130]) from rfl) ?_
      refine V.getf hC tf_Y_162 (kd_in kd_130 (by decide)) (hp_at kd_130) rfl d_Y_valued_196 ?_
      show V X 0 0 tm_n (hp σ) 199 [some (.ref 130), some (.int l1), none, some (.int l3), some (.int l4), none] [.int (σ.1 130 47), .ref 130]
      refine V.blk hC [(.iconst 1, 1), (.iadd, 1)] 199 [some (.ref 130), some (.int l1), none, some (.int l3), some (.int l4), none] [.int (σ.1 130 47), .ref 130] ⟨d_Y_valued_199, d_Y_valued_200, trivial⟩ (show tv_run _ _ _ _ = some (201, [some (.ref 130), some (.int l1), none, some (.int l3), some (.int l4), none], [.int ((σ.1 130 47) + (1 : Int32)), .ref 130]) from rfl) ?_
      obtain ⟨σ16, hσ16, hf⟩ := tm_ww hf
      refine V.seti hC tf_Y_162 tt_Y to_Y tn_Y rfl (by decide +kernel) tm_fi kd_130 (kd_in kd_130 (by decide)) rfl rfl (tm_le rfl) d_Y_valued_201 ?_
      rw [← hσ16]
      refine V.goto hC d_Y_valued_204 (tgt := 257) (by decide) ?_
      obtain rfl := Option.some.inj hf
      exact V.vret hC hr hE d_Y_valued_257 ⟨rfl, rfl, rfl⟩
  · rw [if_pos hc] at hf
    refine V.blk hC [(.bipush 7, 2), (.istore 5, 2)] 94 [some (.ref 130), some (.int l1), none, some (.int l3), some (.int l4), none] [] ⟨d_Y_valued_94, d_Y_valued_96, trivial⟩ (show tv_run _ _ _ _ = some (98, [some (.ref 130), some (.int l1), none, some (.int l3), some (.int l4), some (.int (7 : Int32))], []) from rfl) ?_
    exact V.less (tv_le_some (tv_le_some (tv_le_none (tv_le_some (tv_le_none (tv_le_some tv_le_nil)))))) (c_Y_valued_L98 hC hr hE tm_fu σ l1 l3 (7 : Int32)  hf)
