set_option maxHeartbeats 4000000 in
set_option maxRecDepth 100000 in
theorem c_Y_slot_L123 {X : tv_X} {r : tm_S} (hC : tv_K X tb_Y_slot 3 "TrickleMeshModel" tm_wg tm_ns tm_cl tm_ty { frames := 7, cells := 0, slots := 0, locals := 164 }) (hr : tv_ret X none) (hE : tv_end X (tm_P none r) 0 0) : ∀ (k : Nat) (σ : tm_S) (l1 : Int32), f_Y_slot_L123 k σ l1 = some r → V X 0 0 tm_n (hp σ) 123 [some (.ref 130), some (.int l1), none] [] := by
  intro k
  induction k with
  | zero => intro σ l1  hf; simp only [f_Y_slot_L123] at hf; cases hf
  | succ k hrc =>
    intro σ l1  hf
    rw [f_Y_slot_L123] at hf
    refine V.blk hC [(.iload_n 1, 1), (.bipush 7, 2)] 123 [some (.ref 130), some (.int l1), none] [] ⟨d_Y_slot_123, d_Y_slot_124, trivial⟩ (show tv_run _ _ _ _ = some (126, [some (.ref 130), some (.int l1), none], [.int (7 : Int32), .int l1]) from rfl) ?_
    refine V.icmp_ge hC d_Y_slot_126 (tgt := 186) (by decide) (fun hc => ?_) (fun hc => ?_)
    · rw [if_pos hc] at hf
      refine V.blk hC [(.iconst 0, 1), (.istore_n 1, 1)] 186 [some (.ref 130), some (.int l1), none] [] ⟨d_Y_slot_186, d_Y_slot_187, trivial⟩ (show tv_run _ _ _ _ = some (188, [some (.ref 130), some (.int (0 : Int32)), none], []) from rfl) ?_
      exact V.less (tv_le_some (tv_le_some (tv_le_none tv_le_nil))) (c_Y_slot_L188 hC hr hE tm_fu σ (0 : Int32)  hf)
    · rw [if_neg hc] at hf
      refine V.blk hC [(.aload_n 0, 1)] 129 [some (.ref 130), some (.int l1), none] [] ⟨d_Y_slot_129, trivial⟩ (show tv_run _ _ _ _ = some (130, [some (.ref 130), some (.int l1), none], [.ref 130]) from rfl) ?_
      refine V.getf hC tf_Y_119 (kd_in kd_130 (by decide)) (hp_at kd_130) rfl d_Y_slot_130 ?_
      show V X 0 0 tm_n (hp σ) 133 [some (.ref 130), some (.int l1), none] [.ref 167]
      refine V.blk hC [(.iload_n 1, 1)] 133 [some (.ref 130), some (.int l1), none] [.ref 167] ⟨d_Y_slot_133, trivial⟩ (show tv_run _ _ _ _ = some (134, [some (.ref 130), some (.int l1), none], [.int l1, .ref 167]) from rfl) ?_
      obtain ⟨hb14, hf⟩ := tm_if hf
      refine V.iald hC (kd_in kd_167 (by decide)) (hp_at kd_167) rfl hb14 d_Y_slot_134 ?_
      show V X 0 0 tm_n (hp σ) 135 [some (.ref 130), some (.int l1), none] [.int (σ.1 167 l1.toNatClampNeg)]
      refine V.blk hC [(.iconst 1, 1)] 135 [some (.ref 130), some (.int l1), none] [.int (σ.1 167 l1.toNatClampNeg)] ⟨d_Y_slot_135, trivial⟩ (show tv_run _ _ _ _ = some (136, [some (.ref 130), some (.int l1), none], [.int (1 : Int32), .int (σ.1 167 l1.toNatClampNeg)]) from rfl) ?_
      refine V.icmp_ne hC d_Y_slot_136 (tgt := 163) (by decide) (fun hc => ?_) (fun hc => ?_)
      · rw [if_neg hc] at hf
        exact V.less (tv_le_some (tv_le_some (tv_le_none tv_le_nil))) (c_Y_slot_L163 hC hr hE hrc σ l1  hf)
      · rw [if_pos hc] at hf
        refine V.blk hC [(.aload_n 0, 1)] 139 [some (.ref 130), some (.int l1), none] [] ⟨d_Y_slot_139, trivial⟩ (show tv_run _ _ _ _ = some (140, [some (.ref 130), some (.int l1), none], [.ref 130]) from rfl) ?_
        refine V.getf hC tf_Y_89 (kd_in kd_130 (by decide)) (hp_at kd_130) rfl d_Y_slot_140 ?_
        show V X 0 0 tm_n (hp σ) 143 [some (.ref 130), some (.int l1), none] [.ref 157]
        refine V.blk hC [(.aload_n 0, 1)] 143 [some (.ref 130), some (.int l1), none] [.ref 157] ⟨d_Y_slot_143, trivial⟩ (show tv_run _ _ _ _ = some (144, [some (.ref 130), some (.int l1), none], [.ref 130, .ref 157]) from rfl) ?_
        refine V.getf hC tf_Y_59 (kd_in kd_130 (by decide)) (hp_at kd_130) rfl d_Y_slot_144 ?_
        show V X 0 0 tm_n (hp σ) 147 [some (.ref 130), some (.int l1), none] [.ref 147, .ref 157]
        refine V.blk hC [(.iconst 4, 1), (.iload_n 1, 1), (.imul, 1)] 147 [some (.ref 130), some (.int l1), none] [.ref 147, .ref 157] ⟨d_Y_slot_147, d_Y_slot_148, d_Y_slot_149, trivial⟩ (show tv_run _ _ _ _ = some (150, [some (.ref 130), some (.int l1), none], [.int ((4 : Int32) * l1), .ref 147, .ref 157]) from rfl) ?_
        obtain ⟨hb15, hf⟩ := tm_if hf
        refine V.iald hC (kd_in kd_147 (by decide)) (hp_at kd_147) rfl hb15 d_Y_slot_150 ?_
        show V X 0 0 tm_n (hp σ) 151 [some (.ref 130), some (.int l1), none] [.int (σ.1 147 ((4 : Int32) * l1).toNatClampNeg), .ref 157]
        obtain ⟨hb16, hf⟩ := tm_if hf
        refine V.iald hC (kd_in kd_157 (by decide)) (hp_at kd_157) rfl hb16 d_Y_slot_151 ?_
        show V X 0 0 tm_n (hp σ) 152 [some (.ref 130), some (.int l1), none] [.int (σ.1 157 (σ.1 147 ((4 : Int32) * l1).toNatClampNeg).toNatClampNeg)]
        refine V.if_ge hC d_Y_slot_152 (tgt := 163) (by decide) (fun hc => ?_) (fun hc => ?_)
        · rw [if_pos hc] at hf
          exact V.less (tv_le_some (tv_le_some (tv_le_none tv_le_nil))) (c_Y_slot_L163 hC hr hE hrc σ l1  hf)
        · rw [if_neg hc] at hf
          refine V.blk hC [(.aload_n 0, 1), (.iload_n 1, 1)] 155 [some (.ref 130), some (.int l1), none] [] ⟨d_Y_slot_155, d_Y_slot_156, trivial⟩ (show tv_run _ _ _ _ = some (157, [some (.ref 130), some (.int l1), none], [.int l1, .ref 130]) from rfl) ?_
          obtain ⟨q17, hq17, hf⟩ := tm_bd hf
          refine V.callV hC tm_nest rfl (c_Y_done σ l1  hq17) (tm_gd tc_Y_done) tg_Y_168 th_Y_done ⟨tm_le rfl, tm_le rfl, tm_le rfl, tm_le rfl⟩ rfl (kd_in kd_130 (by decide)) (hp_at kd_130) (As := [.int l1]) (st := []) rfl (tm_le rfl) d_Y_slot_157 ?_
          rintro v n2 h2 ⟨rfl, rfl, rfl⟩
          show V X 0 0 tm_n (hp q17) 160 [some (.ref 130), some (.int l1), none] []
          refine V.goto hC d_Y_slot_160 (tgt := 180) (by decide) ?_
          exact V.less (tv_le_some (tv_le_some (tv_le_none tv_le_nil))) (c_Y_slot_L180 hC hr hE hrc q17 l1  hf)
set_option maxHeartbeats 4000000 in
set_option maxRecDepth 100000 in
theorem c_Y_slot_L80 {X : tv_X} {r : tm_S} (hC : tv_K X tb_Y_slot 3 "TrickleMeshModel" tm_wg tm_ns tm_cl tm_ty { frames := 7, cells := 0, slots := 0, locals := 164 }) (hr : tv_ret X none) (hE : tv_end X (tm_P none r) 0 0) : ∀ (k : Nat) (σ : tm_S) (l1 : Int32), f_Y_slot_L80 k σ l1 = some r → V X 0 0 tm_n (hp σ) 80 [some (.ref 130), some (.int l1), none] [] := by
  intro k
  induction k with
  | zero => intro σ l1  hf; simp only [f_Y_slot_L80] at hf; cases hf
  | succ k hrc =>
    intro σ l1  hf
    rw [f_Y_slot_L80] at hf
    refine V.blk hC [(.iload_n 1, 1), (.bipush 7, 2)] 80 [some (.ref 130), some (.int l1), none] [] ⟨d_Y_slot_80, d_Y_slot_81, trivial⟩ (show tv_run _ _ _ _ = some (83, [some (.ref 130), some (.int l1), none], [.int (7 : Int32), .int l1]) from rfl) ?_
    refine V.icmp_ge hC d_Y_slot_83 (tgt := 121) (by decide) (fun hc => ?_) (fun hc => ?_)
    · rw [if_pos hc] at hf
      refine V.blk hC [(.iconst 0, 1), (.istore_n 1, 1)] 121 [some (.ref 130), some (.int l1), none] [] ⟨d_Y_slot_121, d_Y_slot_122, trivial⟩ (show tv_run _ _ _ _ = some (123, [some (.ref 130), some (.int (0 : Int32)), none], []) from rfl) ?_
      exact V.less (tv_le_some (tv_le_some (tv_le_none tv_le_nil))) (c_Y_slot_L123 hC hr hE tm_fu σ (0 : Int32)  hf)
    · rw [if_neg hc] at hf
      refine V.blk hC [(.aload_n 0, 1)] 86 [some (.ref 130), some (.int l1), none] [] ⟨d_Y_slot_86, trivial⟩ (show tv_run _ _ _ _ = some (87, [some (.ref 130), some (.int l1), none], [.ref 130]) from rfl) ?_
      refine V.getf hC tf_Y_29 (kd_in kd_130 (by decide)) (hp_at kd_130) rfl d_Y_slot_87 ?_
      show V X 0 0 tm_n (hp σ) 90 [some (.ref 130), some (.int l1), none] [.ref 137]
      refine V.blk hC [(.iload_n 1, 1)] 90 [some (.ref 130), some (.int l1), none] [.ref 137] ⟨d_Y_slot_90, trivial⟩ (show tv_run _ _ _ _ = some (91, [some (.ref 130), some (.int l1), none], [.int l1, .ref 137]) from rfl) ?_
      obtain ⟨hb12, hf⟩ := tm_if hf
      refine V.zald hC (kd_in kd_137 (by decide)) (hp_at kd_137) rfl hb12 d_Y_slot_91 ?_
      show V X 0 0 tm_n (hp σ) 92 [some (.ref 130), some (.int l1), none] [.int (σ.1 137 l1.toNatClampNeg)]
      refine V.if_eq hC d_Y_slot_92 (tgt := 99) (by decide) (fun hc => ?_) (fun hc => ?_)
      · rw [if_pos hc] at hf
        refine V.blk hC [(.aload_n 0, 1), (.iload_n 1, 1)] 99 [some (.ref 130), some (.int l1), none] [] ⟨d_Y_slot_99, d_Y_slot_100, trivial⟩ (show tv_run _ _ _ _ = some (101, [some (.ref 130), some (.int l1), none], [.int l1, .ref 130]) from rfl) ?_
        obtain ⟨q13, hq13, hf⟩ := tm_bd hf
        refine V.callV hC tm_nest rfl (c_Y_heardFrom σ l1  hq13) (tm_gd tc_Y_heardFrom) tg_Y_229 th_Y_heardFrom ⟨tm_le rfl, tm_le rfl, tm_le rfl, tm_le rfl⟩ rfl (kd_in kd_130 (by decide)) (hp_at kd_130) (As := [.int l1]) (st := []) rfl (tm_le rfl) d_Y_slot_101 ?_
        rintro v n2 h2 ⟨rfl, rfl, rfl⟩
        show V X 0 0 tm_n (hp q13.2) 104 [some (.ref 130), some (.int l1), none] [.int q13.1]
        exact V.less (tv_le_some (tv_le_some (tv_le_none tv_le_nil))) (c_Y_slot_L104 hC hr hE hrc q13.2 l1 q13.1  hf)
      · rw [if_neg hc] at hf
        refine V.blk hC [(.iconst (-1), 1)] 95 [some (.ref 130), some (.int l1), none] [] ⟨d_Y_slot_95, trivial⟩ (show tv_run _ _ _ _ = some (96, [some (.ref 130), some (.int l1), none], [.int (-1 : Int32)]) from rfl) ?_
        refine V.goto hC d_Y_slot_96 (tgt := 104) (by decide) ?_
        exact V.less (tv_le_some (tv_le_some (tv_le_none tv_le_nil))) (c_Y_slot_L104 hC hr hE hrc σ l1 (-1 : Int32)  hf)
set_option maxHeartbeats 4000000 in
set_option maxRecDepth 100000 in
theorem c_Y_slot_L52 {X : tv_X} {r : tm_S} (hC : tv_K X tb_Y_slot 3 "TrickleMeshModel" tm_wg tm_ns tm_cl tm_ty { frames := 7, cells := 0, slots := 0, locals := 164 }) (hr : tv_ret X none) (hE : tv_end X (tm_P none r) 0 0) : ∀ (k : Nat) (σ : tm_S) (l1 : Int32), f_Y_slot_L52 k σ l1 = some r → V X 0 0 tm_n (hp σ) 52 [some (.ref 130), some (.int l1), none] [] := by
  intro k
  induction k with
  | zero => intro σ l1  hf; simp only [f_Y_slot_L52] at hf; cases hf
  | succ k hrc =>
    intro σ l1  hf
    rw [f_Y_slot_L52] at hf
    refine V.blk hC [(.iload_n 1, 1), (.bipush 7, 2)] 52 [some (.ref 130), some (.int l1), none] [] ⟨d_Y_slot_52, d_Y_slot_53, trivial⟩ (show tv_run _ _ _ _ = some (55, [some (.ref 130), some (.int l1), none], [.int (7 : Int32), .int l1]) from rfl) ?_
    refine V.icmp_ge hC d_Y_slot_55 (tgt := 78) (by decide) (fun hc => ?_) (fun hc => ?_)
    · rw [if_pos hc] at hf
      refine V.blk hC [(.iconst 0, 1), (.istore_n 1, 1)] 78 [some (.ref 130), some (.int l1), none] [] ⟨d_Y_slot_78, d_Y_slot_79, trivial⟩ (show tv_run _ _ _ _ = some (80, [some (.ref 130), some (.int (0 : Int32)), none], []) from rfl) ?_
      exact V.less (tv_le_some (tv_le_some (tv_le_none tv_le_nil))) (c_Y_slot_L80 hC hr hE tm_fu σ (0 : Int32)  hf)
    · rw [if_neg hc] at hf
      refine V.blk hC [(.aload_n 0, 1)] 58 [some (.ref 130), some (.int l1), none] [] ⟨d_Y_slot_58, trivial⟩ (show tv_run _ _ _ _ = some (59, [some (.ref 130), some (.int l1), none], [.ref 130]) from rfl) ?_
      refine V.getf hC tf_Y_29 (kd_in kd_130 (by decide)) (hp_at kd_130) rfl d_Y_slot_59 ?_
      show V X 0 0 tm_n (hp σ) 62 [some (.ref 130), some (.int l1), none] [.ref 137]
      refine V.blk hC [(.iload_n 1, 1)] 62 [some (.ref 130), some (.int l1), none] [.ref 137] ⟨d_Y_slot_62, trivial⟩ (show tv_run _ _ _ _ = some (63, [some (.ref 130), some (.int l1), none], [.int l1, .ref 137]) from rfl) ?_
      obtain ⟨hb10, hf⟩ := tm_if hf
      refine V.zald hC (kd_in kd_137 (by decide)) (hp_at kd_137) rfl hb10 d_Y_slot_63 ?_
      show V X 0 0 tm_n (hp σ) 64 [some (.ref 130), some (.int l1), none] [.int (σ.1 137 l1.toNatClampNeg)]
      refine V.if_ne hC d_Y_slot_64 (tgt := 72) (by decide) (fun hc => ?_) (fun hc => ?_)
      · rw [if_neg hc] at hf
        exact V.less (tv_le_some (tv_le_some (tv_le_none tv_le_nil))) (c_Y_slot_L72 hC hr hE hrc σ l1  hf)
      · rw [if_pos hc] at hf
        refine V.blk hC [(.aload_n 0, 1), (.iload_n 1, 1)] 67 [some (.ref 130), some (.int l1), none] [] ⟨d_Y_slot_67, d_Y_slot_68, trivial⟩ (show tv_run _ _ _ _ = some (69, [some (.ref 130), some (.int l1), none], [.int l1, .ref 130]) from rfl) ?_
        obtain ⟨q11, hq11, hf⟩ := tm_bd hf
        refine V.callV hC tm_nest rfl (c_Y_air σ l1  hq11) (tm_gd tc_Y_air) tg_Y_226 th_Y_air ⟨tm_le rfl, tm_le rfl, tm_le rfl, tm_le rfl⟩ rfl (kd_in kd_130 (by decide)) (hp_at kd_130) (As := [.int l1]) (st := []) rfl (tm_le rfl) d_Y_slot_69 ?_
        rintro v n2 h2 ⟨rfl, rfl, rfl⟩
        show V X 0 0 tm_n (hp q11) 72 [some (.ref 130), some (.int l1), none] []
        exact V.less (tv_le_some (tv_le_some (tv_le_none tv_le_nil))) (c_Y_slot_L72 hC hr hE hrc q11 l1  hf)
set_option maxHeartbeats 4000000 in
set_option maxRecDepth 100000 in
theorem c_Y_slot_L12 {X : tv_X} {r : tm_S} (hC : tv_K X tb_Y_slot 3 "TrickleMeshModel" tm_wg tm_ns tm_cl tm_ty { frames := 7, cells := 0, slots := 0, locals := 164 }) (hr : tv_ret X none) (hE : tv_end X (tm_P none r) 0 0) : ∀ (k : Nat) (σ : tm_S) (l1 : Int32), f_Y_slot_L12 k σ l1 = some r → V X 0 0 tm_n (hp σ) 12 [some (.ref 130), some (.int l1), none] [] := by
  intro k
  induction k with
  | zero => intro σ l1  hf; simp only [f_Y_slot_L12] at hf; cases hf
  | succ k hrc =>
    intro σ l1  hf
    rw [f_Y_slot_L12] at hf
    refine V.blk hC [(.iload_n 1, 1), (.bipush 7, 2)] 12 [some (.ref 130), some (.int l1), none] [] ⟨d_Y_slot_12, d_Y_slot_13, trivial⟩ (show tv_run _ _ _ _ = some (15, [some (.ref 130), some (.int l1), none], [.int (7 : Int32), .int l1]) from rfl) ?_
    refine V.icmp_ge hC d_Y_slot_15 (tgt := 50) (by decide) (fun hc => ?_) (fun hc => ?_)
    · rw [if_pos hc] at hf
      refine V.blk hC [(.iconst 0, 1), (.istore_n 1, 1)] 50 [some (.ref 130), some (.int l1), none] [] ⟨d_Y_slot_50, d_Y_slot_51, trivial⟩ (show tv_run _ _ _ _ = some (52, [some (.ref 130), some (.int (0 : Int32)), none], []) from rfl) ?_
      exact V.less (tv_le_some (tv_le_some (tv_le_none tv_le_nil))) (c_Y_slot_L52 hC hr hE tm_fu σ (0 : Int32)  hf)
    · rw [if_neg hc] at hf
      refine V.blk hC [(.aload_n 0, 1)] 18 [some (.ref 130), some (.int l1), none] [] ⟨d_Y_slot_18, trivial⟩ (show tv_run _ _ _ _ = some (19, [some (.ref 130), some (.int l1), none], [.ref 130]) from rfl) ?_
      refine V.getf hC tf_Y_128 (kd_in kd_130 (by decide)) (hp_at kd_130) rfl d_Y_slot_19 ?_
      show V X 0 0 tm_n (hp σ) 22 [some (.ref 130), some (.int l1), none] [.ref 170]
      refine V.blk hC [(.iload_n 1, 1), (.aload_n 0, 1)] 22 [some (.ref 130), some (.int l1), none] [.ref 170] ⟨d_Y_slot_22, d_Y_slot_23, trivial⟩ (show tv_run _ _ _ _ = some (24, [some (.ref 130), some (.int l1), none], [.ref 130, .int l1, .ref 170]) from rfl) ?_
      refine V.getf hC tf_Y_77 (kd_in kd_130 (by decide)) (hp_at kd_130) rfl d_Y_slot_24 ?_
      show V X 0 0 tm_n (hp σ) 27 [some (.ref 130), some (.int l1), none] [.ref 153, .int l1, .ref 170]
      refine V.blk hC [(.iload_n 1, 1)] 27 [some (.ref 130), some (.int l1), none] [.ref 153, .int l1, .ref 170] ⟨d_Y_slot_27, trivial⟩ (show tv_run _ _ _ _ = some (28, [some (.ref 130), some (.int l1), none], [.int l1, .ref 153, .int l1, .ref 170]) from rfl) ?_
      obtain ⟨hb2, hf⟩ := tm_if hf
      refine V.zald hC (kd_in kd_153 (by decide)) (hp_at kd_153) rfl hb2 d_Y_slot_28 ?_
      show V X 0 0 tm_n (hp σ) 29 [some (.ref 130), some (.int l1), none] [.int (σ.1 153 l1.toNatClampNeg), .int l1, .ref 170]
      obtain ⟨hb3, hf⟩ := tm_if hf
      obtain ⟨hz5, hf⟩ := tm_if hf
      obtain ⟨σ4, hσ4, hf⟩ := tm_ww hf
      refine V.setz hC kd_170 (kd_in kd_170 (by decide)) rfl rfl rfl hb3 hz5 d_Y_slot_29 ?_
      rw [← hσ4]
      refine V.blk hC [(.aload_n 0, 1)] 30 [some (.ref 130), some (.int l1), none] [] ⟨d_Y_slot_30, trivial⟩ (show tv_run _ _ _ _ = some (31, [some (.ref 130), some (.int l1), none], [.ref 130]) from rfl) ?_
      refine V.getf hC tf_Y_131 (kd_in kd_130 (by decide)) (hp_at kd_130) rfl d_Y_slot_31 ?_
      show V X 0 0 tm_n (hp σ4) 34 [some (.ref 130), some (.int l1), none] [.ref 171]
      refine V.blk hC [(.iload_n 1, 1), (.iconst 0, 1)] 34 [some (.ref 130), some (.int l1), none] [.ref 171] ⟨d_Y_slot_34, d_Y_slot_35, trivial⟩ (show tv_run _ _ _ _ = some (36, [some (.ref 130), some (.int l1), none], [.int (0 : Int32), .int l1, .ref 171]) from rfl) ?_
      obtain ⟨hb6, hf⟩ := tm_if hf
      obtain ⟨σ7, hσ7, hf⟩ := tm_ww hf
      refine V.setz hC kd_171 (kd_in kd_171 (by decide)) rfl rfl rfl hb6 (by decide) d_Y_slot_36 ?_
      rw [← hσ7]
      refine V.blk hC [(.aload_n 0, 1)] 37 [some (.ref 130), some (.int l1), none] [] ⟨d_Y_slot_37, trivial⟩ (show tv_run _ _ _ _ = some (38, [some (.ref 130), some (.int l1), none], [.ref 130]) from rfl) ?_
      refine V.getf hC tf_Y_119 (kd_in kd_130 (by decide)) (hp_at kd_130) rfl d_Y_slot_38 ?_
      show V X 0 0 tm_n (hp σ7) 41 [some (.ref 130), some (.int l1), none] [.ref 167]
      refine V.blk hC [(.iload_n 1, 1), (.iconst 0, 1)] 41 [some (.ref 130), some (.int l1), none] [.ref 167] ⟨d_Y_slot_41, d_Y_slot_42, trivial⟩ (show tv_run _ _ _ _ = some (43, [some (.ref 130), some (.int l1), none], [.int (0 : Int32), .int l1, .ref 167]) from rfl) ?_
      obtain ⟨hb8, hf⟩ := tm_if hf
      obtain ⟨σ9, hσ9, hf⟩ := tm_ww hf
      refine V.seta hC kd_167 (kd_in kd_167 (by decide)) rfl rfl rfl hb8 d_Y_slot_43 ?_
      rw [← hσ9]
      refine V.blk hC [(.iinc 1 1, 3)] 44 [some (.ref 130), some (.int l1), none] [] ⟨d_Y_slot_44, trivial⟩ (show tv_run _ _ _ _ = some (47, [some (.ref 130), some (.int (l1 + (1 : Int32))), none], []) from rfl) ?_
      refine V.goto hC d_Y_slot_47 (tgt := 12) (by decide) ?_
      exact V.less (tv_le_some (tv_le_some (tv_le_none tv_le_nil))) (hrc σ9 (l1 + (1 : Int32))  hf)
set_option maxHeartbeats 4000000 in
set_option maxRecDepth 100000 in
theorem c_Y_slot (σ : tm_S)   {r : tm_S} (hf : f_Y_slot σ  = some r) : tv_Met ty_Y_slot (Cond.code ty_Y_slot tb_Y_slot 3 none :: tm_wg) tm_ns tm_cl tm_ty 7 164 0 0 [.ref 130] tm_n (hp σ) (tm_P none r) := by
  refine tv_Met.of (by decide) rfl (tm_le rfl) ?_
  intro X hC hnm hr hE
  have hC : tv_K X tb_Y_slot 3 "TrickleMeshModel" tm_wg tm_ns tm_cl tm_ty { frames := 7, cells := 0, slots := 0, locals := 164 } := hC
  show V X 0 0 tm_n (hp σ) 0 [some (.ref 130), none, none] []
  unfold f_Y_slot at hf
  refine V.blk hC [(.aload_n 0, 1), (.dup, 1)] 0 [some (.ref 130), none, none] [] ⟨d_Y_slot_0, d_Y_slot_1, trivial⟩ (show tv_run _ _ _ _ = some (2, [some (.ref 130), none, none], [.ref 130, .ref 130]) from rfl) ?_
  refine V.getf hC tf_Y_223 (kd_in kd_130 (by decide)) (hp_at kd_130) rfl d_Y_slot_2 ?_
  show V X 0 0 tm_n (hp σ) 5 [some (.ref 130), none, none] [.int (σ.1 130 3), .ref 130]
  refine V.blk hC [(.iconst 1, 1), (.iadd, 1)] 5 [some (.ref 130), none, none] [.int (σ.1 130 3), .ref 130] ⟨d_Y_slot_5, d_Y_slot_6, trivial⟩ (show tv_run _ _ _ _ = some (7, [some (.ref 130), none, none], [.int ((σ.1 130 3) + (1 : Int32)), .ref 130]) from rfl) ?_
  obtain ⟨σ1, hσ1, hf⟩ := tm_ww hf
  refine V.seti hC tf_Y_223 tt_Y to_Y tn_Y rfl (by decide +kernel) tm_fi kd_130 (kd_in kd_130 (by decide)) rfl rfl (tm_le rfl) d_Y_slot_7 ?_
  rw [← hσ1]
  refine V.blk hC [(.iconst 0, 1), (.istore_n 1, 1)] 10 [some (.ref 130), none, none] [] ⟨d_Y_slot_10, d_Y_slot_11, trivial⟩ (show tv_run _ _ _ _ = some (12, [some (.ref 130), some (.int (0 : Int32)), none], []) from rfl) ?_
  exact V.less (tv_le_some (tv_le_some (tv_le_none tv_le_nil))) (c_Y_slot_L12 hC hr hE tm_fu σ1 (0 : Int32)  hf)
set_option maxHeartbeats 4000000 in
set_option maxRecDepth 100000 in
theorem c_Y_isNode_L14 {X : tv_X} {r : Int32 × tm_S} (hC : tv_K X tb_Y_isNode 1 "TrickleMeshModel" tm_wg tm_ns tm_cl tm_ty { frames := 0, cells := 0, slots := 0, locals := 0 }) (hr : tv_ret X (some .boolean)) (hE : tv_end X (tm_P (some (.int r.1)) r.2) 0 0) (σ : tm_S)   (hf : f_Y_isNode_L14 σ  = some r) : V X 0 0 tm_n (hp σ) 14 [none] [] := by
  unfold f_Y_isNode_L14 at hf
  refine V.blk hC [(.iconst 0, 1)] 14 [none] [] ⟨d_Y_isNode_14, trivial⟩ (show tv_run _ _ _ _ = some (15, [none], [.int (0 : Int32)]) from rfl) ?_
  obtain rfl := Option.some.inj hf
  exact V.zret hC hr hE (tm_nz (by decide)) d_Y_isNode_15 ⟨rfl, rfl, rfl⟩
set_option maxHeartbeats 4000000 in
set_option maxRecDepth 100000 in
theorem c_Y_isNode (σ : tm_S) (a0 : Int32)  {r : Int32 × tm_S} (hf : f_Y_isNode σ a0 = some r) : tv_Met ty_Y_isNode (Cond.code ty_Y_isNode tb_Y_isNode 1 (some .boolean) :: tm_wg) tm_ns tm_cl tm_ty 0 0 0 0 [.int a0] tm_n (hp σ) (tm_P (some (.int r.1)) r.2) := by
  refine tv_Met.of (by decide) rfl (tm_le rfl) ?_
  intro X hC hnm hr hE
  have hC : tv_K X tb_Y_isNode 1 "TrickleMeshModel" tm_wg tm_ns tm_cl tm_ty { frames := 0, cells := 0, slots := 0, locals := 0 } := hC
  show V X 0 0 tm_n (hp σ) 0 [some (.int a0)] []
  unfold f_Y_isNode at hf
  refine V.blk hC [(.iload_n 0, 1)] 0 [some (.int a0)] [] ⟨d_Y_isNode_0, trivial⟩ (show tv_run _ _ _ _ = some (1, [some (.int a0)], [.int a0]) from rfl) ?_
  refine V.if_lt hC d_Y_isNode_1 (tgt := 14) (by decide) (fun hc => ?_) (fun hc => ?_)
  · rw [if_pos hc] at hf
    exact V.less (tv_le_none tv_le_nil) (c_Y_isNode_L14 hC hr hE σ   hf)
  · rw [if_neg hc] at hf
    refine V.blk hC [(.iload_n 0, 1), (.bipush 7, 2)] 4 [some (.int a0)] [] ⟨d_Y_isNode_4, d_Y_isNode_5, trivial⟩ (show tv_run _ _ _ _ = some (7, [some (.int a0)], [.int (7 : Int32), .int a0]) from rfl) ?_
    refine V.icmp_ge hC d_Y_isNode_7 (tgt := 14) (by decide) (fun hc => ?_) (fun hc => ?_)
    · rw [if_pos hc] at hf
      exact V.less (tv_le_none tv_le_nil) (c_Y_isNode_L14 hC hr hE σ   hf)
    · rw [if_neg hc] at hf
      refine V.blk hC [(.iconst 1, 1)] 10 [some (.int a0)] [] ⟨d_Y_isNode_10, trivial⟩ (show tv_run _ _ _ _ = some (11, [some (.int a0)], [.int (1 : Int32)]) from rfl) ?_
      refine V.goto hC d_Y_isNode_11 (tgt := 15) (by decide) ?_
      obtain rfl := Option.some.inj hf
      exact V.zret hC hr hE (tm_nz (by decide)) d_Y_isNode_15 ⟨rfl, rfl, rfl⟩
set_option maxHeartbeats 4000000 in
set_option maxRecDepth 100000 in
theorem c_Y_link_L29 {X : tv_X} {r : Int32 × tm_S} (hC : tv_K X tb_Y_link 4 "TrickleMeshModel" tm_wg tm_ns tm_cl tm_ty { frames := 1, cells := 0, slots := 0, locals := 20 }) (hr : tv_ret X (some .boolean)) (hE : tv_end X (tm_P (some (.int r.1)) r.2) 0 0) (σ : tm_S)   (hf : f_Y_link_L29 σ  = some r) : V X 0 0 tm_n (hp σ) 29 [some (.ref 130), none, none, none] [] := by
  unfold f_Y_link_L29 at hf
  refine V.blk hC [(.iconst 0, 1)] 29 [some (.ref 130), none, none, none] [] ⟨d_Y_link_29, trivial⟩ (show tv_run _ _ _ _ = some (30, [some (.ref 130), none, none, none], [.int (0 : Int32)]) from rfl) ?_
  obtain rfl := Option.some.inj hf
  exact V.zret hC hr hE (tm_nz (by decide)) d_Y_link_30 ⟨rfl, rfl, rfl⟩
set_option maxHeartbeats 4000000 in
set_option maxRecDepth 100000 in
theorem c_Y_link (σ : tm_S) (a1 : Int32) (a2 : Int32) (a3 : Int32)  {r : Int32 × tm_S} (hf : f_Y_link σ a1 a2 a3 = some r) : tv_Met ty_Y_link (Cond.code ty_Y_link tb_Y_link 4 (some .boolean) :: tm_wg) tm_ns tm_cl tm_ty 1 20 0 0 [.ref 130, .int a1, .int a2, .int a3] tm_n (hp σ) (tm_P (some (.int r.1)) r.2) := by
  refine tv_Met.of (by decide) rfl (tm_le rfl) ?_
  intro X hC hnm hr hE
  have hC : tv_K X tb_Y_link 4 "TrickleMeshModel" tm_wg tm_ns tm_cl tm_ty { frames := 1, cells := 0, slots := 0, locals := 20 } := hC
  show V X 0 0 tm_n (hp σ) 0 [some (.ref 130), some (.int a1), some (.int a2), some (.int a3)] []
  unfold f_Y_link at hf
  refine V.blk hC [(.iload_n 1, 1)] 0 [some (.ref 130), some (.int a1), some (.int a2), some (.int a3)] [] ⟨d_Y_link_0, trivial⟩ (show tv_run _ _ _ _ = some (1, [some (.ref 130), some (.int a1), some (.int a2), some (.int a3)], [.int a1]) from rfl) ?_
  obtain ⟨q1, hq1, hf⟩ := tm_bd hf
  refine V.callS hC tm_nest rfl (c_Y_isNode σ a1  hq1) (tm_gd tc_Y_isNode) tg_Y_244 th_Y_isNode ⟨tm_le rfl, tm_le rfl, tm_le rfl, tm_le rfl⟩ (As := [.int a1]) (st := []) rfl (tm_le rfl) d_Y_link_1 ?_
  rintro v n2 h2 ⟨rfl, rfl, rfl⟩
  show V X 0 0 tm_n (hp q1.2) 4 [some (.ref 130), some (.int a1), some (.int a2), some (.int a3)] [.int q1.1]
  refine V.if_eq hC d_Y_link_4 (tgt := 29) (by decide) (fun hc => ?_) (fun hc => ?_)
  · rw [if_pos hc] at hf
    exact V.less (tv_le_some (tv_le_none (tv_le_none (tv_le_none tv_le_nil)))) (c_Y_link_L29 hC hr hE q1.2   hf)
  · rw [if_neg hc] at hf
    refine V.blk hC [(.iload_n 2, 1)] 7 [some (.ref 130), some (.int a1), some (.int a2), some (.int a3)] [] ⟨d_Y_link_7, trivial⟩ (show tv_run _ _ _ _ = some (8, [some (.ref 130), some (.int a1), some (.int a2), some (.int a3)], [.int a2]) from rfl) ?_
    obtain ⟨q2, hq2, hf⟩ := tm_bd hf
    refine V.callS hC tm_nest rfl (c_Y_isNode q1.2 a2  hq2) (tm_gd tc_Y_isNode) tg_Y_244 th_Y_isNode ⟨tm_le rfl, tm_le rfl, tm_le rfl, tm_le rfl⟩ (As := [.int a2]) (st := []) rfl (tm_le rfl) d_Y_link_8 ?_
    rintro v n2 h2 ⟨rfl, rfl, rfl⟩
    show V X 0 0 tm_n (hp q2.2) 11 [some (.ref 130), some (.int a1), some (.int a2), some (.int a3)] [.int q2.1]
    refine V.if_eq hC d_Y_link_11 (tgt := 29) (by decide) (fun hc => ?_) (fun hc => ?_)
    · rw [if_pos hc] at hf
      exact V.less (tv_le_some (tv_le_none (tv_le_none (tv_le_none tv_le_nil)))) (c_Y_link_L29 hC hr hE q2.2   hf)
    · rw [if_neg hc] at hf
      refine V.blk hC [(.iload_n 1, 1), (.iload_n 2, 1)] 14 [some (.ref 130), some (.int a1), some (.int a2), some (.int a3)] [] ⟨d_Y_link_14, d_Y_link_15, trivial⟩ (show tv_run _ _ _ _ = some (16, [some (.ref 130), some (.int a1), some (.int a2), some (.int a3)], [.int a2, .int a1]) from rfl) ?_
      refine V.icmp_eq hC d_Y_link_16 (tgt := 29) (by decide) (fun hc => ?_) (fun hc => ?_)
      · rw [if_pos hc] at hf
        exact V.less (tv_le_some (tv_le_none (tv_le_none (tv_le_none tv_le_nil)))) (c_Y_link_L29 hC hr hE q2.2   hf)
      · rw [if_neg hc] at hf
        refine V.blk hC [(.iload_n 3, 1)] 19 [some (.ref 130), some (.int a1), some (.int a2), some (.int a3)] [] ⟨d_Y_link_19, trivial⟩ (show tv_run _ _ _ _ = some (20, [some (.ref 130), some (.int a1), some (.int a2), some (.int a3)], [.int a3]) from rfl) ?_
        refine V.if_lt hC d_Y_link_20 (tgt := 29) (by decide) (fun hc => ?_) (fun hc => ?_)
        · rw [if_pos hc] at hf
          exact V.less (tv_le_some (tv_le_none (tv_le_none (tv_le_none tv_le_nil)))) (c_Y_link_L29 hC hr hE q2.2   hf)
        · rw [if_neg hc] at hf
          refine V.blk hC [(.iload_n 3, 1), (.bipush 9, 2)] 23 [some (.ref 130), some (.int a1), some (.int a2), some (.int a3)] [] ⟨d_Y_link_23, d_Y_link_24, trivial⟩ (show tv_run _ _ _ _ = some (26, [some (.ref 130), some (.int a1), some (.int a2), some (.int a3)], [.int (9 : Int32), .int a3]) from rfl) ?_
          refine V.icmp_le hC d_Y_link_26 (tgt := 31) (by decide) (fun hc => ?_) (fun hc => ?_)
          · rw [if_pos hc] at hf
            refine V.blk hC [(.aload_n 0, 1)] 31 [some (.ref 130), some (.int a1), some (.int a2), some (.int a3)] [] ⟨d_Y_link_31, trivial⟩ (show tv_run _ _ _ _ = some (32, [some (.ref 130), some (.int a1), some (.int a2), some (.int a3)], [.ref 130]) from rfl) ?_
            refine V.getf hC tf_Y_7 (kd_in kd_130 (by decide)) (hp_at kd_130) rfl d_Y_link_32 ?_
            show V X 0 0 tm_n (hp q2.2) 35 [some (.ref 130), some (.int a1), some (.int a2), some (.int a3)] [.ref 131]
            refine V.blk hC [(.bipush 7, 2), (.iload_n 1, 1), (.imul, 1), (.iload_n 2, 1), (.iadd, 1), (.iload_n 3, 1)] 35 [some (.ref 130), some (.int a1), some (.int a2), some (.int a3)] [.ref 131] ⟨d_Y_link_35, d_Y_link_37, d_Y_link_38, d_Y_link_39, d_Y_link_40, d_Y_link_41, trivial⟩ (show tv_run _ _ _ _ = some (42, [some (.ref 130), some (.int a1), some (.int a2), some (.int a3)], [.int a3, .int (((7 : Int32) * a1) + a2), .ref 131]) from rfl) ?_
            obtain ⟨hb3, hf⟩ := tm_if hf
            obtain ⟨σ4, hσ4, hf⟩ := tm_ww hf
            refine V.seta hC kd_131 (kd_in kd_131 (by decide)) rfl rfl rfl hb3 d_Y_link_42 ?_
            rw [← hσ4]
            refine V.blk hC [(.aload_n 0, 1)] 43 [some (.ref 130), some (.int a1), some (.int a2), some (.int a3)] [] ⟨d_Y_link_43, trivial⟩ (show tv_run _ _ _ _ = some (44, [some (.ref 130), some (.int a1), some (.int a2), some (.int a3)], [.ref 130]) from rfl) ?_
            refine V.getf hC tf_Y_7 (kd_in kd_130 (by decide)) (hp_at kd_130) rfl d_Y_link_44 ?_
            show V X 0 0 tm_n (hp σ4) 47 [some (.ref 130), some (.int a1), some (.int a2), some (.int a3)] [.ref 131]
            refine V.blk hC [(.bipush 7, 2), (.iload_n 2, 1), (.imul, 1), (.iload_n 1, 1), (.iadd, 1), (.iload_n 3, 1)] 47 [some (.ref 130), some (.int a1), some (.int a2), some (.int a3)] [.ref 131] ⟨d_Y_link_47, d_Y_link_49, d_Y_link_50, d_Y_link_51, d_Y_link_52, d_Y_link_53, trivial⟩ (show tv_run _ _ _ _ = some (54, [some (.ref 130), some (.int a1), some (.int a2), some (.int a3)], [.int a3, .int (((7 : Int32) * a2) + a1), .ref 131]) from rfl) ?_
            obtain ⟨hb5, hf⟩ := tm_if hf
            obtain ⟨σ6, hσ6, hf⟩ := tm_ww hf
            refine V.seta hC kd_131 (kd_in kd_131 (by decide)) rfl rfl rfl hb5 d_Y_link_54 ?_
            rw [← hσ6]
            refine V.blk hC [(.iconst 1, 1)] 55 [some (.ref 130), some (.int a1), some (.int a2), some (.int a3)] [] ⟨d_Y_link_55, trivial⟩ (show tv_run _ _ _ _ = some (56, [some (.ref 130), some (.int a1), some (.int a2), some (.int a3)], [.int (1 : Int32)]) from rfl) ?_
            obtain rfl := Option.some.inj hf
            exact V.zret hC hr hE (tm_nz (by decide)) d_Y_link_56 ⟨rfl, rfl, rfl⟩
          · rw [if_neg hc] at hf
            exact V.less (tv_le_some (tv_le_none (tv_le_none (tv_le_none tv_le_nil)))) (c_Y_link_L29 hC hr hE q2.2   hf)
set_option maxHeartbeats 4000000 in
set_option maxRecDepth 100000 in
theorem c_Y_kill_L20 {X : tv_X} {r : Int32 × tm_S} (hC : tv_K X tb_Y_kill 3 "TrickleMeshModel" tm_wg tm_ns tm_cl tm_ty { frames := 1, cells := 0, slots := 0, locals := 20 }) (hr : tv_ret X (some .boolean)) (hE : tv_end X (tm_P (some (.int r.1)) r.2) 0 0) (σ : tm_S)   (hf : f_Y_kill_L20 σ  = some r) : V X 0 0 tm_n (hp σ) 20 [some (.ref 130), none, none] [] := by
  unfold f_Y_kill_L20 at hf
  refine V.blk hC [(.iconst 0, 1)] 20 [some (.ref 130), none, none] [] ⟨d_Y_kill_20, trivial⟩ (show tv_run _ _ _ _ = some (21, [some (.ref 130), none, none], [.int (0 : Int32)]) from rfl) ?_
  obtain rfl := Option.some.inj hf
  exact V.zret hC hr hE (tm_nz (by decide)) d_Y_kill_21 ⟨rfl, rfl, rfl⟩
set_option maxHeartbeats 4000000 in
set_option maxRecDepth 100000 in
theorem c_Y_kill_L31 {X : tv_X} {r : Int32 × tm_S} (hC : tv_K X tb_Y_kill 3 "TrickleMeshModel" tm_wg tm_ns tm_cl tm_ty { frames := 1, cells := 0, slots := 0, locals := 20 }) (hr : tv_ret X (some .boolean)) (hE : tv_end X (tm_P (some (.int r.1)) r.2) 0 0) : ∀ (k : Nat) (σ : tm_S) (l1 : Int32) (l2 : Int32), f_Y_kill_L31 k σ l1 l2 = some r → V X 0 0 tm_n (hp σ) 31 [some (.ref 130), some (.int l1), some (.int l2)] [] := by
  intro k
  induction k with
  | zero => intro σ l1 l2  hf; simp only [f_Y_kill_L31] at hf; cases hf
  | succ k hrc =>
    intro σ l1 l2  hf
    rw [f_Y_kill_L31] at hf
    refine V.blk hC [(.iload_n 2, 1), (.aload_n 0, 1)] 31 [some (.ref 130), some (.int l1), some (.int l2)] [] ⟨d_Y_kill_31, d_Y_kill_32, trivial⟩ (show tv_run _ _ _ _ = some (33, [some (.ref 130), some (.int l1), some (.int l2)], [.ref 130, .int l2]) from rfl) ?_
    refine V.getf hC tf_Y_62 (kd_in kd_130 (by decide)) (hp_at kd_130) rfl d_Y_kill_33 ?_
    show V X 0 0 tm_n (hp σ) 36 [some (.ref 130), some (.int l1), some (.int l2)] [.ref 148, .int l2]
    refine V.blk hC [(.iload_n 1, 1)] 36 [some (.ref 130), some (.int l1), some (.int l2)] [.ref 148, .int l2] ⟨d_Y_kill_36, trivial⟩ (show tv_run _ _ _ _ = some (37, [some (.ref 130), some (.int l1), some (.int l2)], [.int l1, .ref 148, .int l2]) from rfl) ?_
    obtain ⟨hb5, hf⟩ := tm_if hf
    refine V.iald hC (kd_in kd_148 (by decide)) (hp_at kd_148) rfl hb5 d_Y_kill_37 ?_
    show V X 0 0 tm_n (hp σ) 38 [some (.ref 130), some (.int l1), some (.int l2)] [.int (σ.1 148 l1.toNatClampNeg), .int l2]
    refine V.icmp_ge hC d_Y_kill_38 (tgt := 63) (by decide) (fun hc => ?_) (fun hc => ?_)
    · rw [if_pos hc] at hf
      refine V.blk hC [(.aload_n 0, 1)] 63 [some (.ref 130), some (.int l1), some (.int l2)] [] ⟨d_Y_kill_63, trivial⟩ (show tv_run _ _ _ _ = some (64, [some (.ref 130), some (.int l1), some (.int l2)], [.ref 130]) from rfl) ?_
      refine V.getf hC tf_Y_62 (kd_in kd_130 (by decide)) (hp_at kd_130) rfl d_Y_kill_64 ?_
      show V X 0 0 tm_n (hp σ) 67 [some (.ref 130), some (.int l1), some (.int l2)] [.ref 148]
      refine V.blk hC [(.iload_n 1, 1), (.iconst 0, 1)] 67 [some (.ref 130), some (.int l1), some (.int l2)] [.ref 148] ⟨d_Y_kill_67, d_Y_kill_68, trivial⟩ (show tv_run _ _ _ _ = some (69, [some (.ref 130), some (.int l1), some (.int l2)], [.int (0 : Int32), .int l1, .ref 148]) from rfl) ?_
      obtain ⟨hb6, hf⟩ := tm_if hf
      obtain ⟨σ7, hσ7, hf⟩ := tm_ww hf
      refine V.seta hC kd_148 (kd_in kd_148 (by decide)) rfl rfl rfl hb6 d_Y_kill_69 ?_
      rw [← hσ7]
      refine V.blk hC [(.aload_n 0, 1)] 70 [some (.ref 130), some (.int l1), some (.int l2)] [] ⟨d_Y_kill_70, trivial⟩ (show tv_run _ _ _ _ = some (71, [some (.ref 130), some (.int l1), some (.int l2)], [.ref 130]) from rfl) ?_
      refine V.getf hC tf_Y_74 (kd_in kd_130 (by decide)) (hp_at kd_130) rfl d_Y_kill_71 ?_
      show V X 0 0 tm_n (hp σ7) 74 [some (.ref 130), some (.int l1), some (.int l2)] [.ref 152]
      refine V.blk hC [(.iload_n 1, 1), (.iconst (-1), 1)] 74 [some (.ref 130), some (.int l1), some (.int l2)] [.ref 152] ⟨d_Y_kill_74, d_Y_kill_75, trivial⟩ (show tv_run _ _ _ _ = some (76, [some (.ref 130), some (.int l1), some (.int l2)], [.int (-1 : Int32), .int l1, .ref 152]) from rfl) ?_
      obtain ⟨hb8, hf⟩ := tm_if hf
      obtain ⟨σ9, hσ9, hf⟩ := tm_ww hf
      refine V.seta hC kd_152 (kd_in kd_152 (by decide)) rfl rfl rfl hb8 d_Y_kill_76 ?_
      rw [← hσ9]
      refine V.blk hC [(.aload_n 0, 1)] 77 [some (.ref 130), some (.int l1), some (.int l2)] [] ⟨d_Y_kill_77, trivial⟩ (show tv_run _ _ _ _ = some (78, [some (.ref 130), some (.int l1), some (.int l2)], [.ref 130]) from rfl) ?_
      refine V.getf hC tf_Y_77 (kd_in kd_130 (by decide)) (hp_at kd_130) rfl d_Y_kill_78 ?_
      show V X 0 0 tm_n (hp σ9) 81 [some (.ref 130), some (.int l1), some (.int l2)] [.ref 153]
      refine V.blk hC [(.iload_n 1, 1), (.iconst 0, 1)] 81 [some (.ref 130), some (.int l1), some (.int l2)] [.ref 153] ⟨d_Y_kill_81, d_Y_kill_82, trivial⟩ (show tv_run _ _ _ _ = some (83, [some (.ref 130), some (.int l1), some (.int l2)], [.int (0 : Int32), .int l1, .ref 153]) from rfl) ?_
      obtain ⟨hb10, hf⟩ := tm_if hf
      obtain ⟨σ11, hσ11, hf⟩ := tm_ww hf
      refine V.setz hC kd_153 (kd_in kd_153 (by decide)) rfl rfl rfl hb10 (by decide) d_Y_kill_83 ?_
      rw [← hσ11]
      refine V.blk hC [(.iconst 1, 1)] 84 [some (.ref 130), some (.int l1), some (.int l2)] [] ⟨d_Y_kill_84, trivial⟩ (show tv_run _ _ _ _ = some (85, [some (.ref 130), some (.int l1), some (.int l2)], [.int (1 : Int32)]) from rfl) ?_
      obtain rfl := Option.some.inj hf
      exact V.zret hC hr hE (tm_nz (by decide)) d_Y_kill_85 ⟨rfl, rfl, rfl⟩
    · rw [if_neg hc] at hf
      refine V.blk hC [(.aload_n 0, 1)] 41 [some (.ref 130), some (.int l1), some (.int l2)] [] ⟨d_Y_kill_41, trivial⟩ (show tv_run _ _ _ _ = some (42, [some (.ref 130), some (.int l1), some (.int l2)], [.ref 130]) from rfl) ?_
      refine V.getf hC tf_Y_80 (kd_in kd_130 (by decide)) (hp_at kd_130) rfl d_Y_kill_42 ?_
      show V X 0 0 tm_n (hp σ) 45 [some (.ref 130), some (.int l1), some (.int l2)] [.ref 154]
      refine V.blk hC [(.aload_n 0, 1)] 45 [some (.ref 130), some (.int l1), some (.int l2)] [.ref 154] ⟨d_Y_kill_45, trivial⟩ (show tv_run _ _ _ _ = some (46, [some (.ref 130), some (.int l1), some (.int l2)], [.ref 130, .ref 154]) from rfl) ?_
      refine V.getf hC tf_Y_59 (kd_in kd_130 (by decide)) (hp_at kd_130) rfl d_Y_kill_46 ?_
      show V X 0 0 tm_n (hp σ) 49 [some (.ref 130), some (.int l1), some (.int l2)] [.ref 147, .ref 154]
      refine V.blk hC [(.iconst 4, 1), (.iload_n 1, 1), (.imul, 1), (.iload_n 2, 1), (.iadd, 1)] 49 [some (.ref 130), some (.int l1), some (.int l2)] [.ref 147, .ref 154] ⟨d_Y_kill_49, d_Y_kill_50, d_Y_kill_51, d_Y_kill_52, d_Y_kill_53, trivial⟩ (show tv_run _ _ _ _ = some (54, [some (.ref 130), some (.int l1), some (.int l2)], [.int (((4 : Int32) * l1) + l2), .ref 147, .ref 154]) from rfl) ?_
      obtain ⟨hb12, hf⟩ := tm_if hf
      refine V.iald hC (kd_in kd_147 (by decide)) (hp_at kd_147) rfl hb12 d_Y_kill_54 ?_
      show V X 0 0 tm_n (hp σ) 55 [some (.ref 130), some (.int l1), some (.int l2)] [.int (σ.1 147 (((4 : Int32) * l1) + l2).toNatClampNeg), .ref 154]
      refine V.blk hC [(.iconst 0, 1)] 55 [some (.ref 130), some (.int l1), some (.int l2)] [.int (σ.1 147 (((4 : Int32) * l1) + l2).toNatClampNeg), .ref 154] ⟨d_Y_kill_55, trivial⟩ (show tv_run _ _ _ _ = some (56, [some (.ref 130), some (.int l1), some (.int l2)], [.int (0 : Int32), .int (σ.1 147 (((4 : Int32) * l1) + l2).toNatClampNeg), .ref 154]) from rfl) ?_
      obtain ⟨hb13, hf⟩ := tm_if hf
      obtain ⟨σ14, hσ14, hf⟩ := tm_ww hf
      refine V.setz hC kd_154 (kd_in kd_154 (by decide)) rfl rfl rfl hb13 (by decide) d_Y_kill_56 ?_
      rw [← hσ14]
      refine V.blk hC [(.iinc 2 1, 3)] 57 [some (.ref 130), some (.int l1), some (.int l2)] [] ⟨d_Y_kill_57, trivial⟩ (show tv_run _ _ _ _ = some (60, [some (.ref 130), some (.int l1), some (.int (l2 + (1 : Int32)))], []) from rfl) ?_
      refine V.goto hC d_Y_kill_60 (tgt := 31) (by decide) ?_
      exact V.less (tv_le_some (tv_le_some (tv_le_some tv_le_nil))) (hrc σ14 l1 (l2 + (1 : Int32))  hf)
set_option maxHeartbeats 4000000 in
set_option maxRecDepth 100000 in
theorem c_Y_kill (σ : tm_S) (a1 : Int32)  {r : Int32 × tm_S} (hf : f_Y_kill σ a1 = some r) : tv_Met ty_Y_kill (Cond.code ty_Y_kill tb_Y_kill 3 (some .boolean) :: tm_wg) tm_ns tm_cl tm_ty 1 20 0 0 [.ref 130, .int a1] tm_n (hp σ) (tm_P (some (.int r.1)) r.2) := by
  refine tv_Met.of (by decide) rfl (tm_le rfl) ?_
  intro X hC hnm hr hE
  have hC : tv_K X tb_Y_kill 3 "TrickleMeshModel" tm_wg tm_ns tm_cl tm_ty { frames := 1, cells := 0, slots := 0, locals := 20 } := hC
  show V X 0 0 tm_n (hp σ) 0 [some (.ref 130), some (.int a1), none] []
  unfold f_Y_kill at hf
  refine V.blk hC [(.iload_n 1, 1)] 0 [some (.ref 130), some (.int a1), none] [] ⟨d_Y_kill_0, trivial⟩ (show tv_run _ _ _ _ = some (1, [some (.ref 130), some (.int a1), none], [.int a1]) from rfl) ?_
  obtain ⟨q1, hq1, hf⟩ := tm_bd hf
  refine V.callS hC tm_nest rfl (c_Y_isNode σ a1  hq1) (tm_gd tc_Y_isNode) tg_Y_244 th_Y_isNode ⟨tm_le rfl, tm_le rfl, tm_le rfl, tm_le rfl⟩ (As := [.int a1]) (st := []) rfl (tm_le rfl) d_Y_kill_1 ?_
  rintro v n2 h2 ⟨rfl, rfl, rfl⟩
  show V X 0 0 tm_n (hp q1.2) 4 [some (.ref 130), some (.int a1), none] [.int q1.1]
  refine V.if_eq hC d_Y_kill_4 (tgt := 20) (by decide) (fun hc => ?_) (fun hc => ?_)
  · rw [if_pos hc] at hf
    exact V.less (tv_le_some (tv_le_none (tv_le_none tv_le_nil))) (c_Y_kill_L20 hC hr hE q1.2   hf)
  · rw [if_neg hc] at hf
    refine V.blk hC [(.iload_n 1, 1)] 7 [some (.ref 130), some (.int a1), none] [] ⟨d_Y_kill_7, trivial⟩ (show tv_run _ _ _ _ = some (8, [some (.ref 130), some (.int a1), none], [.int a1]) from rfl) ?_
    refine V.if_eq hC d_Y_kill_8 (tgt := 20) (by decide) (fun hc => ?_) (fun hc => ?_)
    · rw [if_pos hc] at hf
      exact V.less (tv_le_some (tv_le_none (tv_le_none tv_le_nil))) (c_Y_kill_L20 hC hr hE q1.2   hf)
    · rw [if_neg hc] at hf
      refine V.blk hC [(.aload_n 0, 1)] 11 [some (.ref 130), some (.int a1), none] [] ⟨d_Y_kill_11, trivial⟩ (show tv_run _ _ _ _ = some (12, [some (.ref 130), some (.int a1), none], [.ref 130]) from rfl) ?_
      refine V.getf hC tf_Y_29 (kd_in kd_130 (by decide)) (hp_at kd_130) rfl d_Y_kill_12 ?_
      show V X 0 0 tm_n (hp q1.2) 15 [some (.ref 130), some (.int a1), none] [.ref 137]
      refine V.blk hC [(.iload_n 1, 1)] 15 [some (.ref 130), some (.int a1), none] [.ref 137] ⟨d_Y_kill_15, trivial⟩ (show tv_run _ _ _ _ = some (16, [some (.ref 130), some (.int a1), none], [.int a1, .ref 137]) from rfl) ?_
      obtain ⟨hb2, hf⟩ := tm_if hf
      refine V.zald hC (kd_in kd_137 (by decide)) (hp_at kd_137) rfl hb2 d_Y_kill_16 ?_
      show V X 0 0 tm_n (hp q1.2) 17 [some (.ref 130), some (.int a1), none] [.int (q1.2.1 137 a1.toNatClampNeg)]
      refine V.if_eq hC d_Y_kill_17 (tgt := 22) (by decide) (fun hc => ?_) (fun hc => ?_)
      · rw [if_pos hc] at hf
        refine V.blk hC [(.aload_n 0, 1)] 22 [some (.ref 130), some (.int a1), none] [] ⟨d_Y_kill_22, trivial⟩ (show tv_run _ _ _ _ = some (23, [some (.ref 130), some (.int a1), none], [.ref 130]) from rfl) ?_
        refine V.getf hC tf_Y_29 (kd_in kd_130 (by decide)) (hp_at kd_130) rfl d_Y_kill_23 ?_
        show V X 0 0 tm_n (hp q1.2) 26 [some (.ref 130), some (.int a1), none] [.ref 137]
        refine V.blk hC [(.iload_n 1, 1), (.iconst 1, 1)] 26 [some (.ref 130), some (.int a1), none] [.ref 137] ⟨d_Y_kill_26, d_Y_kill_27, trivial⟩ (show tv_run _ _ _ _ = some (28, [some (.ref 130), some (.int a1), none], [.int (1 : Int32), .int a1, .ref 137]) from rfl) ?_
        obtain ⟨hb3, hf⟩ := tm_if hf
        obtain ⟨σ4, hσ4, hf⟩ := tm_ww hf
        refine V.setz hC kd_137 (kd_in kd_137 (by decide)) rfl rfl rfl hb3 (by decide) d_Y_kill_28 ?_
        rw [← hσ4]
        refine V.blk hC [(.iconst 0, 1), (.istore_n 2, 1)] 29 [some (.ref 130), some (.int a1), none] [] ⟨d_Y_kill_29, d_Y_kill_30, trivial⟩ (show tv_run _ _ _ _ = some (31, [some (.ref 130), some (.int a1), some (.int (0 : Int32))], []) from rfl) ?_
        exact V.less (tv_le_some (tv_le_some (tv_le_some tv_le_nil))) (c_Y_kill_L31 hC hr hE tm_fu σ4 a1 (0 : Int32)  hf)
      · rw [if_neg hc] at hf
        exact V.less (tv_le_some (tv_le_none (tv_le_none tv_le_nil))) (c_Y_kill_L20 hC hr hE q1.2   hf)
set_option maxHeartbeats 4000000 in
set_option maxRecDepth 100000 in
theorem c_Y_repair (σ : tm_S)   {r : Int32 × tm_S} (hf : f_Y_repair σ  = some r) : tv_Met ty_Y_repair (Cond.code ty_Y_repair tb_Y_repair 1 (some .int) :: tm_wg) tm_ns tm_cl tm_ty 3 63 0 0 [.ref 130] tm_n (hp σ) (tm_P (some (.int r.1)) r.2) := by
  refine tv_Met.of (by decide) rfl (tm_le rfl) ?_
  intro X hC hnm hr hE
  have hC : tv_K X tb_Y_repair 1 "TrickleMeshModel" tm_wg tm_ns tm_cl tm_ty { frames := 3, cells := 0, slots := 0, locals := 63 } := hC
  show V X 0 0 tm_n (hp σ) 0 [some (.ref 130)] []
  unfold f_Y_repair at hf
  refine V.blk hC [(.aload_n 0, 1)] 0 [some (.ref 130)] [] ⟨d_Y_repair_0, trivial⟩ (show tv_run _ _ _ _ = some (1, [some (.ref 130)], [.ref 130]) from rfl) ?_
  refine V.getf hC tf_Y_32 (kd_in kd_130 (by decide)) (hp_at kd_130) rfl d_Y_repair_1 ?_
  show V X 0 0 tm_n (hp σ) 4 [some (.ref 130)] [.ref 138]
  refine V.blk hC [(.iconst 0, 1), (.dup2, 1)] 4 [some (.ref 130)] [.ref 138] ⟨d_Y_repair_4, d_Y_repair_5, trivial⟩ (show tv_run _ _ _ _ = some (6, [some (.ref 130)], [.int (0 : Int32), .ref 138, .int (0 : Int32), .ref 138]) from rfl) ?_
  refine V.iald hC (kd_in kd_138 (by decide)) (hp_at kd_138) rfl (show ¬ ((0 : Int32) < 0 ∨ 7 ≤ (0 : Int32).toNatClampNeg) from by decide) d_Y_repair_6 ?_
  show V X 0 0 tm_n (hp σ) 7 [some (.ref 130)] [.int (σ.1 138 (0 : Int32).toNatClampNeg), .int (0 : Int32), .ref 138]
  refine V.blk hC [(.iconst 1, 1), (.iadd, 1)] 7 [some (.ref 130)] [.int (σ.1 138 (0 : Int32).toNatClampNeg), .int (0 : Int32), .ref 138] ⟨d_Y_repair_7, d_Y_repair_8, trivial⟩ (show tv_run _ _ _ _ = some (9, [some (.ref 130)], [.int ((σ.1 138 (0 : Int32).toNatClampNeg) + (1 : Int32)), .int (0 : Int32), .ref 138]) from rfl) ?_
  obtain ⟨σ1, hσ1, hf⟩ := tm_ww hf
  refine V.seta hC kd_138 (kd_in kd_138 (by decide)) rfl rfl rfl (show ¬ ((0 : Int32) < 0 ∨ 7 ≤ (0 : Int32).toNatClampNeg) from by decide) d_Y_repair_9 ?_
  rw [← hσ1]
  refine V.blk hC [(.aload_n 0, 1), (.iconst 0, 1)] 10 [some (.ref 130)] [] ⟨d_Y_repair_10, d_Y_repair_11, trivial⟩ (show tv_run _ _ _ _ = some (12, [some (.ref 130)], [.int (0 : Int32), .ref 130]) from rfl) ?_
  obtain ⟨q2, hq2, hf⟩ := tm_bd hf
  refine V.callV hC tm_nest rfl (c_Y_reset σ1 (0 : Int32)  hq2) (tm_gd tc_Y_reset) tg_Y_150 th_Y_reset ⟨tm_le rfl, tm_le rfl, tm_le rfl, tm_le rfl⟩ rfl (kd_in kd_130 (by decide)) (hp_at kd_130) (As := [.int (0 : Int32)]) (st := []) rfl (tm_le rfl) d_Y_repair_12 ?_
  rintro v n2 h2 ⟨rfl, rfl, rfl⟩
  show V X 0 0 tm_n (hp q2) 15 [some (.ref 130)] []
  refine V.blk hC [(.aload_n 0, 1)] 15 [some (.ref 130)] [] ⟨d_Y_repair_15, trivial⟩ (show tv_run _ _ _ _ = some (16, [some (.ref 130)], [.ref 130]) from rfl) ?_
  refine V.getf hC tf_Y_32 (kd_in kd_130 (by decide)) (hp_at kd_130) rfl d_Y_repair_16 ?_
  show V X 0 0 tm_n (hp q2) 19 [some (.ref 130)] [.ref 138]
  refine V.blk hC [(.iconst 0, 1)] 19 [some (.ref 130)] [.ref 138] ⟨d_Y_repair_19, trivial⟩ (show tv_run _ _ _ _ = some (20, [some (.ref 130)], [.int (0 : Int32), .ref 138]) from rfl) ?_
  refine V.iald hC (kd_in kd_138 (by decide)) (hp_at kd_138) rfl (show ¬ ((0 : Int32) < 0 ∨ 7 ≤ (0 : Int32).toNatClampNeg) from by decide) d_Y_repair_20 ?_
  show V X 0 0 tm_n (hp q2) 21 [some (.ref 130)] [.int (q2.1 138 (0 : Int32).toNatClampNeg)]
  obtain rfl := Option.some.inj hf
  exact V.iret hC hr hE d_Y_repair_21 ⟨rfl, rfl, rfl⟩
set_option maxHeartbeats 4000000 in
set_option maxRecDepth 100000 in
theorem c_Y_send_L52 {X : tv_X} {r : Int32 × tm_S} (hC : tv_K X tb_Y_send 5 "TrickleMeshModel" tm_wg tm_ns tm_cl tm_ty { frames := 4, cells := 0, slots := 0, locals := 93 }) (hr : tv_ret X (some .int)) (hE : tv_end X (tm_P (some (.int r.1)) r.2) 0 0) (σ : tm_S)   (hf : f_Y_send_L52 σ  = some r) : V X 0 0 tm_n (hp σ) 52 [some (.ref 130), none, none, none, none] [] := by
  unfold f_Y_send_L52 at hf
  refine V.blk hC [(.iconst (-1), 1)] 52 [some (.ref 130), none, none, none, none] [] ⟨d_Y_send_52, trivial⟩ (show tv_run _ _ _ _ = some (53, [some (.ref 130), none, none, none, none], [.int (-1 : Int32)]) from rfl) ?_
  obtain rfl := Option.some.inj hf
  exact V.iret hC hr hE d_Y_send_53 ⟨rfl, rfl, rfl⟩
set_option maxHeartbeats 4000000 in
set_option maxRecDepth 100000 in
theorem c_Y_send (σ : tm_S) (a1 : Int32) (a2 : Int32) (a3 : Int32) (a4 : Int32)  {r : Int32 × tm_S} (hf : f_Y_send σ a1 a2 a3 a4 = some r) : tv_Met ty_Y_send (Cond.code ty_Y_send tb_Y_send 5 (some .int) :: tm_wg) tm_ns tm_cl tm_ty 4 93 0 0 [.ref 130, .int a1, .int a2, .int a3, .int a4] tm_n (hp σ) (tm_P (some (.int r.1)) r.2) := by
  refine tv_Met.of (by decide) rfl (tm_le rfl) ?_
  intro X hC hnm hr hE
  have hC : tv_K X tb_Y_send 5 "TrickleMeshModel" tm_wg tm_ns tm_cl tm_ty { frames := 4, cells := 0, slots := 0, locals := 93 } := hC
  show V X 0 0 tm_n (hp σ) 0 [some (.ref 130), some (.int a1), some (.int a2), some (.int a3), some (.int a4)] []
  unfold f_Y_send at hf
  refine V.blk hC [(.iload_n 1, 1)] 0 [some (.ref 130), some (.int a1), some (.int a2), some (.int a3), some (.int a4)] [] ⟨d_Y_send_0, trivial⟩ (show tv_run _ _ _ _ = some (1, [some (.ref 130), some (.int a1), some (.int a2), some (.int a3), some (.int a4)], [.int a1]) from rfl) ?_
  obtain ⟨q1, hq1, hf⟩ := tm_bd hf
  refine V.callS hC tm_nest rfl (c_Y_isNode σ a1  hq1) (tm_gd tc_Y_isNode) tg_Y_244 th_Y_isNode ⟨tm_le rfl, tm_le rfl, tm_le rfl, tm_le rfl⟩ (As := [.int a1]) (st := []) rfl (tm_le rfl) d_Y_send_1 ?_
  rintro v n2 h2 ⟨rfl, rfl, rfl⟩
  show V X 0 0 tm_n (hp q1.2) 4 [some (.ref 130), some (.int a1), some (.int a2), some (.int a3), some (.int a4)] [.int q1.1]
  refine V.if_eq hC d_Y_send_4 (tgt := 52) (by decide) (fun hc => ?_) (fun hc => ?_)
  · rw [if_pos hc] at hf
    exact V.less (tv_le_some (tv_le_none (tv_le_none (tv_le_none (tv_le_none tv_le_nil))))) (c_Y_send_L52 hC hr hE q1.2   hf)
  · rw [if_neg hc] at hf
    refine V.blk hC [(.iload_n 2, 1)] 7 [some (.ref 130), some (.int a1), some (.int a2), some (.int a3), some (.int a4)] [] ⟨d_Y_send_7, trivial⟩ (show tv_run _ _ _ _ = some (8, [some (.ref 130), some (.int a1), some (.int a2), some (.int a3), some (.int a4)], [.int a2]) from rfl) ?_
    obtain ⟨q2, hq2, hf⟩ := tm_bd hf
    refine V.callS hC tm_nest rfl (c_Y_isNode q1.2 a2  hq2) (tm_gd tc_Y_isNode) tg_Y_244 th_Y_isNode ⟨tm_le rfl, tm_le rfl, tm_le rfl, tm_le rfl⟩ (As := [.int a2]) (st := []) rfl (tm_le rfl) d_Y_send_8 ?_
    rintro v n2 h2 ⟨rfl, rfl, rfl⟩
    show V X 0 0 tm_n (hp q2.2) 11 [some (.ref 130), some (.int a1), some (.int a2), some (.int a3), some (.int a4)] [.int q2.1]
    refine V.if_eq hC d_Y_send_11 (tgt := 52) (by decide) (fun hc => ?_) (fun hc => ?_)
    · rw [if_pos hc] at hf
      exact V.less (tv_le_some (tv_le_none (tv_le_none (tv_le_none (tv_le_none tv_le_nil))))) (c_Y_send_L52 hC hr hE q2.2   hf)
    · rw [if_neg hc] at hf
      refine V.blk hC [(.iload_n 1, 1), (.iload_n 2, 1)] 14 [some (.ref 130), some (.int a1), some (.int a2), some (.int a3), some (.int a4)] [] ⟨d_Y_send_14, d_Y_send_15, trivial⟩ (show tv_run _ _ _ _ = some (16, [some (.ref 130), some (.int a1), some (.int a2), some (.int a3), some (.int a4)], [.int a2, .int a1]) from rfl) ?_
      refine V.icmp_eq hC d_Y_send_16 (tgt := 52) (by decide) (fun hc => ?_) (fun hc => ?_)
      · rw [if_pos hc] at hf
        exact V.less (tv_le_some (tv_le_none (tv_le_none (tv_le_none (tv_le_none tv_le_nil))))) (c_Y_send_L52 hC hr hE q2.2   hf)
      · rw [if_neg hc] at hf
        refine V.blk hC [(.iload_n 3, 1), (.iconst 1, 1)] 19 [some (.ref 130), some (.int a1), some (.int a2), some (.int a3), some (.int a4)] [] ⟨d_Y_send_19, d_Y_send_20, trivial⟩ (show tv_run _ _ _ _ = some (21, [some (.ref 130), some (.int a1), some (.int a2), some (.int a3), some (.int a4)], [.int (1 : Int32), .int a3]) from rfl) ?_
        refine V.icmp_lt hC d_Y_send_21 (tgt := 52) (by decide) (fun hc => ?_) (fun hc => ?_)
        · rw [if_pos hc] at hf
          exact V.less (tv_le_some (tv_le_none (tv_le_none (tv_le_none (tv_le_none tv_le_nil))))) (c_Y_send_L52 hC hr hE q2.2   hf)
        · rw [if_neg hc] at hf
          refine V.blk hC [(.iload_n 3, 1), (.bipush 15, 2)] 24 [some (.ref 130), some (.int a1), some (.int a2), some (.int a3), some (.int a4)] [] ⟨d_Y_send_24, d_Y_send_25, trivial⟩ (show tv_run _ _ _ _ = some (27, [some (.ref 130), some (.int a1), some (.int a2), some (.int a3), some (.int a4)], [.int (15 : Int32), .int a3]) from rfl) ?_
          refine V.icmp_gt hC d_Y_send_27 (tgt := 52) (by decide) (fun hc => ?_) (fun hc => ?_)
          · rw [if_pos hc] at hf
            exact V.less (tv_le_some (tv_le_none (tv_le_none (tv_le_none (tv_le_none tv_le_nil))))) (c_Y_send_L52 hC hr hE q2.2   hf)
          · rw [if_neg hc] at hf
            refine V.blk hC [(.iload 4, 2)] 30 [some (.ref 130), some (.int a1), some (.int a2), some (.int a3), some (.int a4)] [] ⟨d_Y_send_30, trivial⟩ (show tv_run _ _ _ _ = some (32, [some (.ref 130), some (.int a1), some (.int a2), some (.int a3), some (.int a4)], [.int a4]) from rfl) ?_
            refine V.if_lt hC d_Y_send_32 (tgt := 52) (by decide) (fun hc => ?_) (fun hc => ?_)
            · rw [if_pos hc] at hf
              exact V.less (tv_le_some (tv_le_none (tv_le_none (tv_le_none (tv_le_none tv_le_nil))))) (c_Y_send_L52 hC hr hE q2.2   hf)
            · rw [if_neg hc] at hf
              refine V.blk hC [(.iload 4, 2), (.sipush 999, 3)] 35 [some (.ref 130), some (.int a1), some (.int a2), some (.int a3), some (.int a4)] [] ⟨d_Y_send_35, d_Y_send_37, trivial⟩ (show tv_run _ _ _ _ = some (40, [some (.ref 130), some (.int a1), some (.int a2), some (.int a3), some (.int a4)], [.int (999 : Int32), .int a4]) from rfl) ?_
              refine V.icmp_gt hC d_Y_send_40 (tgt := 52) (by decide) (fun hc => ?_) (fun hc => ?_)
              · rw [if_pos hc] at hf
                exact V.less (tv_le_some (tv_le_none (tv_le_none (tv_le_none (tv_le_none tv_le_nil))))) (c_Y_send_L52 hC hr hE q2.2   hf)
              · rw [if_neg hc] at hf
                refine V.blk hC [(.aload_n 0, 1)] 43 [some (.ref 130), some (.int a1), some (.int a2), some (.int a3), some (.int a4)] [] ⟨d_Y_send_43, trivial⟩ (show tv_run _ _ _ _ = some (44, [some (.ref 130), some (.int a1), some (.int a2), some (.int a3), some (.int a4)], [.ref 130]) from rfl) ?_
                refine V.getf hC tf_Y_29 (kd_in kd_130 (by decide)) (hp_at kd_130) rfl d_Y_send_44 ?_
                show V X 0 0 tm_n (hp q2.2) 47 [some (.ref 130), some (.int a1), some (.int a2), some (.int a3), some (.int a4)] [.ref 137]
                refine V.blk hC [(.iload_n 1, 1)] 47 [some (.ref 130), some (.int a1), some (.int a2), some (.int a3), some (.int a4)] [.ref 137] ⟨d_Y_send_47, trivial⟩ (show tv_run _ _ _ _ = some (48, [some (.ref 130), some (.int a1), some (.int a2), some (.int a3), some (.int a4)], [.int a1, .ref 137]) from rfl) ?_
                obtain ⟨hb3, hf⟩ := tm_if hf
                refine V.zald hC (kd_in kd_137 (by decide)) (hp_at kd_137) rfl hb3 d_Y_send_48 ?_
                show V X 0 0 tm_n (hp q2.2) 49 [some (.ref 130), some (.int a1), some (.int a2), some (.int a3), some (.int a4)] [.int (q2.2.1 137 a1.toNatClampNeg)]
                refine V.if_eq hC d_Y_send_49 (tgt := 54) (by decide) (fun hc => ?_) (fun hc => ?_)
                · rw [if_pos hc] at hf
                  refine V.blk hC [(.aload_n 0, 1), (.dup, 1)] 54 [some (.ref 130), some (.int a1), some (.int a2), some (.int a3), some (.int a4)] [] ⟨d_Y_send_54, d_Y_send_55, trivial⟩ (show tv_run _ _ _ _ = some (56, [some (.ref 130), some (.int a1), some (.int a2), some (.int a3), some (.int a4)], [.ref 130, .ref 130]) from rfl) ?_
                  refine V.getf hC tf_Y_247 (kd_in kd_130 (by decide)) (hp_at kd_130) rfl d_Y_send_56 ?_
                  show V X 0 0 tm_n (hp q2.2) 59 [some (.ref 130), some (.int a1), some (.int a2), some (.int a3), some (.int a4)] [.int (q2.2.1 130 46), .ref 130]
                  refine V.blk hC [(.iconst 1, 1), (.iadd, 1)] 59 [some (.ref 130), some (.int a1), some (.int a2), some (.int a3), some (.int a4)] [.int (q2.2.1 130 46), .ref 130] ⟨d_Y_send_59, d_Y_send_60, trivial⟩ (show tv_run _ _ _ _ = some (61, [some (.ref 130), some (.int a1), some (.int a2), some (.int a3), some (.int a4)], [.int ((q2.2.1 130 46) + (1 : Int32)), .ref 130]) from rfl) ?_
                  obtain ⟨σ4, hσ4, hf⟩ := tm_ww hf
                  refine V.seti hC tf_Y_247 tt_Y to_Y tn_Y rfl (by decide +kernel) tm_fi kd_130 (kd_in kd_130 (by decide)) rfl rfl (tm_le rfl) d_Y_send_61 ?_
                  rw [← hσ4]
                  refine V.blk hC [(.aload_n 0, 1), (.iload_n 1, 1), (.iload_n 1, 1), (.iload_n 2, 1), (.iload_n 3, 1), (.iload 4, 2), (.iconst 0, 1)] 64 [some (.ref 130), some (.int a1), some (.int a2), some (.int a3), some (.int a4)] [] ⟨d_Y_send_64, d_Y_send_65, d_Y_send_66, d_Y_send_67, d_Y_send_68, d_Y_send_69, d_Y_send_71, trivial⟩ (show tv_run _ _ _ _ = some (72, [some (.ref 130), some (.int a1), some (.int a2), some (.int a3), some (.int a4)], [.int (0 : Int32), .int a4, .int a3, .int a2, .int a1, .int a1, .ref 130]) from rfl) ?_
                  obtain ⟨q5, hq5, hf⟩ := tm_bd hf
                  refine V.callV hC tm_nest rfl (c_Y_sendOn σ4 a1 a1 a2 a3 a4 (0 : Int32)  hq5) (tm_gd tc_Y_sendOn) tg_Y_200 th_Y_sendOn ⟨tm_le rfl, tm_le rfl, tm_le rfl, tm_le rfl⟩ rfl (kd_in kd_130 (by decide)) (hp_at kd_130) (As := [.int a1, .int a1, .int a2, .int a3, .int a4, .int (0 : Int32)]) (st := []) rfl (tm_le rfl) d_Y_send_72 ?_
                  rintro v n2 h2 ⟨rfl, rfl, rfl⟩
                  show V X 0 0 tm_n (hp q5) 75 [some (.ref 130), some (.int a1), some (.int a2), some (.int a3), some (.int a4)] []
                  refine V.blk hC [(.aload_n 0, 1)] 75 [some (.ref 130), some (.int a1), some (.int a2), some (.int a3), some (.int a4)] [] ⟨d_Y_send_75, trivial⟩ (show tv_run _ _ _ _ = some (76, [some (.ref 130), some (.int a1), some (.int a2), some (.int a3), some (.int a4)], [.ref 130]) from rfl) ?_
                  refine V.getf hC tf_Y_247 (kd_in kd_130 (by decide)) (hp_at kd_130) rfl d_Y_send_76 ?_
                  show V X 0 0 tm_n (hp q5) 79 [some (.ref 130), some (.int a1), some (.int a2), some (.int a3), some (.int a4)] [.int (q5.1 130 46)]
                  obtain rfl := Option.some.inj hf
                  exact V.iret hC hr hE d_Y_send_79 ⟨rfl, rfl, rfl⟩
                · rw [if_neg hc] at hf
                  exact V.less (tv_le_some (tv_le_none (tv_le_none (tv_le_none (tv_le_none tv_le_nil))))) (c_Y_send_L52 hC hr hE q2.2   hf)
set_option maxHeartbeats 4000000 in
set_option maxRecDepth 100000 in
theorem c_Y_tick_L10 {X : tv_X} {r : Int32 × tm_S} (hC : tv_K X tb_Y_tick 3 "TrickleMeshModel" tm_wg tm_ns tm_cl tm_ty { frames := 8, cells := 0, slots := 0, locals := 186 }) (hr : tv_ret X (some .int)) (hE : tv_end X (tm_P (some (.int r.1)) r.2) 0 0) (σ : tm_S)   (hf : f_Y_tick_L10 σ  = some r) : V X 0 0 tm_n (hp σ) 10 [some (.ref 130), none, none] [] := by
  unfold f_Y_tick_L10 at hf
  refine V.blk hC [(.iconst (-1), 1)] 10 [some (.ref 130), none, none] [] ⟨d_Y_tick_10, trivial⟩ (show tv_run _ _ _ _ = some (11, [some (.ref 130), none, none], [.int (-1 : Int32)]) from rfl) ?_
  obtain rfl := Option.some.inj hf
  exact V.iret hC hr hE d_Y_tick_11 ⟨rfl, rfl, rfl⟩
set_option maxHeartbeats 4000000 in
set_option maxRecDepth 100000 in
theorem c_Y_tick_L14 {X : tv_X} {r : Int32 × tm_S} (hC : tv_K X tb_Y_tick 3 "TrickleMeshModel" tm_wg tm_ns tm_cl tm_ty { frames := 8, cells := 0, slots := 0, locals := 186 }) (hr : tv_ret X (some .int)) (hE : tv_end X (tm_P (some (.int r.1)) r.2) 0 0) : ∀ (k : Nat) (σ : tm_S) (l1 : Int32) (l2 : Int32), f_Y_tick_L14 k σ l1 l2 = some r → V X 0 0 tm_n (hp σ) 14 [some (.ref 130), some (.int l1), some (.int l2)] [] := by
  intro k
  induction k with
  | zero => intro σ l1 l2  hf; simp only [f_Y_tick_L14] at hf; cases hf
  | succ k hrc =>
    intro σ l1 l2  hf
    rw [f_Y_tick_L14] at hf
    refine V.blk hC [(.iload_n 2, 1), (.iload_n 1, 1)] 14 [some (.ref 130), some (.int l1), some (.int l2)] [] ⟨d_Y_tick_14, d_Y_tick_15, trivial⟩ (show tv_run _ _ _ _ = some (16, [some (.ref 130), some (.int l1), some (.int l2)], [.int l1, .int l2]) from rfl) ?_
    refine V.icmp_ge hC d_Y_tick_16 (tgt := 29) (by decide) (fun hc => ?_) (fun hc => ?_)
    · rw [if_pos hc] at hf
      refine V.blk hC [(.aload_n 0, 1)] 29 [some (.ref 130), some (.int l1), some (.int l2)] [] ⟨d_Y_tick_29, trivial⟩ (show tv_run _ _ _ _ = some (30, [some (.ref 130), some (.int l1), some (.int l2)], [.ref 130]) from rfl) ?_
      refine V.getf hC tf_Y_223 (kd_in kd_130 (by decide)) (hp_at kd_130) rfl d_Y_tick_30 ?_
      show V X 0 0 tm_n (hp σ) 33 [some (.ref 130), some (.int l1), some (.int l2)] [.int (σ.1 130 3)]
      obtain rfl := Option.some.inj hf
      exact V.iret hC hr hE d_Y_tick_33 ⟨rfl, rfl, rfl⟩
    · rw [if_neg hc] at hf
      refine V.blk hC [(.aload_n 0, 1)] 19 [some (.ref 130), some (.int l1), some (.int l2)] [] ⟨d_Y_tick_19, trivial⟩ (show tv_run _ _ _ _ = some (20, [some (.ref 130), some (.int l1), some (.int l2)], [.ref 130]) from rfl) ?_
      obtain ⟨q1, hq1, hf⟩ := tm_bd hf
      refine V.callV hC tm_nest rfl (c_Y_slot σ   hq1) (tm_gd tc_Y_slot) tg_Y_250 th_Y_slot ⟨tm_le rfl, tm_le rfl, tm_le rfl, tm_le rfl⟩ rfl (kd_in kd_130 (by decide)) (hp_at kd_130) (As := []) (st := []) rfl (tm_le rfl) d_Y_tick_20 ?_
      rintro v n2 h2 ⟨rfl, rfl, rfl⟩
      show V X 0 0 tm_n (hp q1) 23 [some (.ref 130), some (.int l1), some (.int l2)] []
      refine V.blk hC [(.iinc 2 1, 3)] 23 [some (.ref 130), some (.int l1), some (.int l2)] [] ⟨d_Y_tick_23, trivial⟩ (show tv_run _ _ _ _ = some (26, [some (.ref 130), some (.int l1), some (.int (l2 + (1 : Int32)))], []) from rfl) ?_
      refine V.goto hC d_Y_tick_26 (tgt := 14) (by decide) ?_
      exact V.less (tv_le_some (tv_le_some (tv_le_some tv_le_nil))) (hrc q1 l1 (l2 + (1 : Int32))  hf)
set_option maxHeartbeats 4000000 in
set_option maxRecDepth 100000 in
theorem c_Y_tick (σ : tm_S) (a1 : Int32)  {r : Int32 × tm_S} (hf : f_Y_tick σ a1 = some r) : tv_Met ty_Y_tick (Cond.code ty_Y_tick tb_Y_tick 3 (some .int) :: tm_wg) tm_ns tm_cl tm_ty 8 186 0 0 [.ref 130, .int a1] tm_n (hp σ) (tm_P (some (.int r.1)) r.2) := by
  refine tv_Met.of (by decide) rfl (tm_le rfl) ?_
  intro X hC hnm hr hE
  have hC : tv_K X tb_Y_tick 3 "TrickleMeshModel" tm_wg tm_ns tm_cl tm_ty { frames := 8, cells := 0, slots := 0, locals := 186 } := hC
  show V X 0 0 tm_n (hp σ) 0 [some (.ref 130), some (.int a1), none] []
  unfold f_Y_tick at hf
  refine V.blk hC [(.iload_n 1, 1)] 0 [some (.ref 130), some (.int a1), none] [] ⟨d_Y_tick_0, trivial⟩ (show tv_run _ _ _ _ = some (1, [some (.ref 130), some (.int a1), none], [.int a1]) from rfl) ?_
  refine V.if_lt hC d_Y_tick_1 (tgt := 10) (by decide) (fun hc => ?_) (fun hc => ?_)
  · rw [if_pos hc] at hf
    exact V.less (tv_le_some (tv_le_none (tv_le_none tv_le_nil))) (c_Y_tick_L10 hC hr hE σ   hf)
  · rw [if_neg hc] at hf
    refine V.blk hC [(.iload_n 1, 1), (.bipush 100, 2)] 4 [some (.ref 130), some (.int a1), none] [] ⟨d_Y_tick_4, d_Y_tick_5, trivial⟩ (show tv_run _ _ _ _ = some (7, [some (.ref 130), some (.int a1), none], [.int (100 : Int32), .int a1]) from rfl) ?_
    refine V.icmp_le hC d_Y_tick_7 (tgt := 12) (by decide) (fun hc => ?_) (fun hc => ?_)
    · rw [if_pos hc] at hf
      refine V.blk hC [(.iconst 0, 1), (.istore_n 2, 1)] 12 [some (.ref 130), some (.int a1), none] [] ⟨d_Y_tick_12, d_Y_tick_13, trivial⟩ (show tv_run _ _ _ _ = some (14, [some (.ref 130), some (.int a1), some (.int (0 : Int32))], []) from rfl) ?_
      exact V.less (tv_le_some (tv_le_some (tv_le_some tv_le_nil))) (c_Y_tick_L14 hC hr hE tm_fu σ a1 (0 : Int32)  hf)
    · rw [if_neg hc] at hf
      exact V.less (tv_le_some (tv_le_none (tv_le_none tv_le_nil))) (c_Y_tick_L10 hC hr hE σ   hf)
