set_option maxHeartbeats 4000000 in
set_option maxRecDepth 100000 in
theorem c_Y_takes (σ : tm_S) (a1 : Int32) (a2 : Int32)  {r : tm_S} (hf : f_Y_takes σ a1 a2 = some r) : tv_Met ty_Y_takes (Cond.code ty_Y_takes tb_Y_takes 4 none :: tm_wg) tm_ns tm_cl tm_ty 6 141 0 0 [.ref 130, .int a1, .int a2] tm_n (hp σ) (tm_P none r) := by
  refine tv_Met.of (by decide) rfl (tm_le rfl) ?_
  intro X hC hnm hr hE
  have hC : tv_K X tb_Y_takes 4 "TrickleMeshModel" tm_wg tm_ns tm_cl tm_ty { frames := 6, cells := 0, slots := 0, locals := 141 } := hC
  show V X 0 0 tm_n (hp σ) 0 [some (.ref 130), some (.int a1), some (.int a2), none] []
  unfold f_Y_takes at hf
  refine V.blk hC [(.aload_n 0, 1)] 0 [some (.ref 130), some (.int a1), some (.int a2), none] [] ⟨d_Y_takes_0, trivial⟩ (show tv_run _ _ _ _ = some (1, [some (.ref 130), some (.int a1), some (.int a2), none], [.ref 130]) from rfl) ?_
  refine V.getf hC tf_Y_119 (kd_in kd_130 (by decide)) (hp_at kd_130) rfl d_Y_takes_1 ?_
  show V X 0 0 tm_n (hp σ) 4 [some (.ref 130), some (.int a1), some (.int a2), none] [.ref 167]
  refine V.blk hC [(.iload_n 2, 1)] 4 [some (.ref 130), some (.int a1), some (.int a2), none] [.ref 167] ⟨d_Y_takes_4, trivial⟩ (show tv_run _ _ _ _ = some (5, [some (.ref 130), some (.int a1), some (.int a2), none], [.int a2, .ref 167]) from rfl) ?_
  obtain ⟨hb1, hf⟩ := tm_if hf
  refine V.iald hC (kd_in kd_167 (by decide)) (hp_at kd_167) rfl hb1 d_Y_takes_5 ?_
  show V X 0 0 tm_n (hp σ) 6 [some (.ref 130), some (.int a1), some (.int a2), none] [.int (σ.1 167 a2.toNatClampNeg)]
  refine V.blk hC [(.iconst 2, 1)] 6 [some (.ref 130), some (.int a1), some (.int a2), none] [.int (σ.1 167 a2.toNatClampNeg)] ⟨d_Y_takes_6, trivial⟩ (show tv_run _ _ _ _ = some (7, [some (.ref 130), some (.int a1), some (.int a2), none], [.int (2 : Int32), .int (σ.1 167 a2.toNatClampNeg)]) from rfl) ?_
  refine V.icmp_ne hC d_Y_takes_7 (tgt := 66) (by decide) (fun hc => ?_) (fun hc => ?_)
  · rw [if_neg hc] at hf
    refine V.blk hC [(.aload_n 0, 1)] 66 [some (.ref 130), some (.int a1), some (.int a2), none] [] ⟨d_Y_takes_66, trivial⟩ (show tv_run _ _ _ _ = some (67, [some (.ref 130), some (.int a1), some (.int a2), none], [.ref 130]) from rfl) ?_
    refine V.getf hC tf_Y_59 (kd_in kd_130 (by decide)) (hp_at kd_130) rfl d_Y_takes_67 ?_
    show V X 0 0 tm_n (hp σ) 70 [some (.ref 130), some (.int a1), some (.int a2), none] [.ref 147]
    refine V.blk hC [(.iconst 4, 1), (.iload_n 2, 1), (.imul, 1)] 70 [some (.ref 130), some (.int a1), some (.int a2), none] [.ref 147] ⟨d_Y_takes_70, d_Y_takes_71, d_Y_takes_72, trivial⟩ (show tv_run _ _ _ _ = some (73, [some (.ref 130), some (.int a1), some (.int a2), none], [.int ((4 : Int32) * a2), .ref 147]) from rfl) ?_
    obtain ⟨hb2, hf⟩ := tm_if hf
    refine V.iald hC (kd_in kd_147 (by decide)) (hp_at kd_147) rfl hb2 d_Y_takes_73 ?_
    show V X 0 0 tm_n (hp σ) 74 [some (.ref 130), some (.int a1), some (.int a2), none] [.int (σ.1 147 ((4 : Int32) * a2).toNatClampNeg)]
    refine V.blk hC [(.istore_n 3, 1), (.aload_n 0, 1)] 74 [some (.ref 130), some (.int a1), some (.int a2), none] [.int (σ.1 147 ((4 : Int32) * a2).toNatClampNeg)] ⟨d_Y_takes_74, d_Y_takes_75, trivial⟩ (show tv_run _ _ _ _ = some (76, [some (.ref 130), some (.int a1), some (.int a2), some (.int (σ.1 147 ((4 : Int32) * a2).toNatClampNeg))], [.ref 130]) from rfl) ?_
    refine V.getf hC tf_Y_86 (kd_in kd_130 (by decide)) (hp_at kd_130) rfl d_Y_takes_76 ?_
    show V X 0 0 tm_n (hp σ) 79 [some (.ref 130), some (.int a1), some (.int a2), some (.int (σ.1 147 ((4 : Int32) * a2).toNatClampNeg))] [.ref 156]
    refine V.blk hC [(.iload_n 3, 1)] 79 [some (.ref 130), some (.int a1), some (.int a2), some (.int (σ.1 147 ((4 : Int32) * a2).toNatClampNeg))] [.ref 156] ⟨d_Y_takes_79, trivial⟩ (show tv_run _ _ _ _ = some (80, [some (.ref 130), some (.int a1), some (.int a2), some (.int (σ.1 147 ((4 : Int32) * a2).toNatClampNeg))], [.int (σ.1 147 ((4 : Int32) * a2).toNatClampNeg), .ref 156]) from rfl) ?_
    obtain ⟨hb3, hf⟩ := tm_if hf
    refine V.iald hC (kd_in kd_156 (by decide)) (hp_at kd_156) rfl hb3 d_Y_takes_80 ?_
    show V X 0 0 tm_n (hp σ) 81 [some (.ref 130), some (.int a1), some (.int a2), some (.int (σ.1 147 ((4 : Int32) * a2).toNatClampNeg))] [.int (σ.1 156 (σ.1 147 ((4 : Int32) * a2).toNatClampNeg).toNatClampNeg)]
    refine V.blk hC [(.iconst 2, 1)] 81 [some (.ref 130), some (.int a1), some (.int a2), some (.int (σ.1 147 ((4 : Int32) * a2).toNatClampNeg))] [.int (σ.1 156 (σ.1 147 ((4 : Int32) * a2).toNatClampNeg).toNatClampNeg)] ⟨d_Y_takes_81, trivial⟩ (show tv_run _ _ _ _ = some (82, [some (.ref 130), some (.int a1), some (.int a2), some (.int (σ.1 147 ((4 : Int32) * a2).toNatClampNeg))], [.int (2 : Int32), .int (σ.1 156 (σ.1 147 ((4 : Int32) * a2).toNatClampNeg).toNatClampNeg)]) from rfl) ?_
    refine V.icmp_ne hC d_Y_takes_82 (tgt := 94) (by decide) (fun hc => ?_) (fun hc => ?_)
    · rw [if_neg hc] at hf
      refine V.blk hC [(.aload_n 0, 1)] 94 [some (.ref 130), some (.int a1), some (.int a2), some (.int (σ.1 147 ((4 : Int32) * a2).toNatClampNeg))] [] ⟨d_Y_takes_94, trivial⟩ (show tv_run _ _ _ _ = some (95, [some (.ref 130), some (.int a1), some (.int a2), some (.int (σ.1 147 ((4 : Int32) * a2).toNatClampNeg))], [.ref 130]) from rfl) ?_
      refine V.getf hC tf_Y_86 (kd_in kd_130 (by decide)) (hp_at kd_130) rfl d_Y_takes_95 ?_
      show V X 0 0 tm_n (hp σ) 98 [some (.ref 130), some (.int a1), some (.int a2), some (.int (σ.1 147 ((4 : Int32) * a2).toNatClampNeg))] [.ref 156]
      refine V.blk hC [(.iload_n 3, 1)] 98 [some (.ref 130), some (.int a1), some (.int a2), some (.int (σ.1 147 ((4 : Int32) * a2).toNatClampNeg))] [.ref 156] ⟨d_Y_takes_98, trivial⟩ (show tv_run _ _ _ _ = some (99, [some (.ref 130), some (.int a1), some (.int a2), some (.int (σ.1 147 ((4 : Int32) * a2).toNatClampNeg))], [.int (σ.1 147 ((4 : Int32) * a2).toNatClampNeg), .ref 156]) from rfl) ?_
      obtain ⟨hb4, hf⟩ := tm_if hf
      refine V.iald hC (kd_in kd_156 (by decide)) (hp_at kd_156) rfl hb4 d_Y_takes_99 ?_
      show V X 0 0 tm_n (hp σ) 100 [some (.ref 130), some (.int a1), some (.int a2), some (.int (σ.1 147 ((4 : Int32) * a2).toNatClampNeg))] [.int (σ.1 156 (σ.1 147 ((4 : Int32) * a2).toNatClampNeg).toNatClampNeg)]
      refine V.blk hC [(.iconst 1, 1)] 100 [some (.ref 130), some (.int a1), some (.int a2), some (.int (σ.1 147 ((4 : Int32) * a2).toNatClampNeg))] [.int (σ.1 156 (σ.1 147 ((4 : Int32) * a2).toNatClampNeg).toNatClampNeg)] ⟨d_Y_takes_100, trivial⟩ (show tv_run _ _ _ _ = some (101, [some (.ref 130), some (.int a1), some (.int a2), some (.int (σ.1 147 ((4 : Int32) * a2).toNatClampNeg))], [.int (1 : Int32), .int (σ.1 156 (σ.1 147 ((4 : Int32) * a2).toNatClampNeg).toNatClampNeg)]) from rfl) ?_
      refine V.icmp_ne hC d_Y_takes_101 (tgt := 124) (by decide) (fun hc => ?_) (fun hc => ?_)
      · rw [if_neg hc] at hf
        exact V.less (tv_le_some (tv_le_some (tv_le_some (tv_le_some tv_le_nil)))) (c_Y_takes_L124 hC hr hE σ a1 a2 (σ.1 147 ((4 : Int32) * a2).toNatClampNeg)  hf)
      · rw [if_pos hc] at hf
        refine V.blk hC [(.aload_n 0, 1)] 104 [some (.ref 130), some (.int a1), some (.int a2), some (.int (σ.1 147 ((4 : Int32) * a2).toNatClampNeg))] [] ⟨d_Y_takes_104, trivial⟩ (show tv_run _ _ _ _ = some (105, [some (.ref 130), some (.int a1), some (.int a2), some (.int (σ.1 147 ((4 : Int32) * a2).toNatClampNeg))], [.ref 130]) from rfl) ?_
        refine V.getf hC tf_Y_35 (kd_in kd_130 (by decide)) (hp_at kd_130) rfl d_Y_takes_105 ?_
        show V X 0 0 tm_n (hp σ) 108 [some (.ref 130), some (.int a1), some (.int a2), some (.int (σ.1 147 ((4 : Int32) * a2).toNatClampNeg))] [.ref 139]
        refine V.blk hC [(.iload_n 1, 1)] 108 [some (.ref 130), some (.int a1), some (.int a2), some (.int (σ.1 147 ((4 : Int32) * a2).toNatClampNeg))] [.ref 139] ⟨d_Y_takes_108, trivial⟩ (show tv_run _ _ _ _ = some (109, [some (.ref 130), some (.int a1), some (.int a2), some (.int (σ.1 147 ((4 : Int32) * a2).toNatClampNeg))], [.int a1, .ref 139]) from rfl) ?_
        obtain ⟨hb5, hf⟩ := tm_if hf
        refine V.iald hC (kd_in kd_139 (by decide)) (hp_at kd_139) rfl hb5 d_Y_takes_109 ?_
        show V X 0 0 tm_n (hp σ) 110 [some (.ref 130), some (.int a1), some (.int a2), some (.int (σ.1 147 ((4 : Int32) * a2).toNatClampNeg))] [.int (σ.1 139 a1.toNatClampNeg)]
        refine V.blk hC [(.sipush 255, 3)] 110 [some (.ref 130), some (.int a1), some (.int a2), some (.int (σ.1 147 ((4 : Int32) * a2).toNatClampNeg))] [.int (σ.1 139 a1.toNatClampNeg)] ⟨d_Y_takes_110, trivial⟩ (show tv_run _ _ _ _ = some (113, [some (.ref 130), some (.int a1), some (.int a2), some (.int (σ.1 147 ((4 : Int32) * a2).toNatClampNeg))], [.int (255 : Int32), .int (σ.1 139 a1.toNatClampNeg)]) from rfl) ?_
        refine V.icmp_eq hC d_Y_takes_113 (tgt := 124) (by decide) (fun hc => ?_) (fun hc => ?_)
        · rw [if_pos hc] at hf
          exact V.less (tv_le_some (tv_le_some (tv_le_some (tv_le_some tv_le_nil)))) (c_Y_takes_L124 hC hr hE σ a1 a2 (σ.1 147 ((4 : Int32) * a2).toNatClampNeg)  hf)
        · rw [if_neg hc] at hf
          refine V.blk hC [(.aload_n 0, 1), (.iload_n 1, 1)] 116 [some (.ref 130), some (.int a1), some (.int a2), some (.int (σ.1 147 ((4 : Int32) * a2).toNatClampNeg))] [] ⟨d_Y_takes_116, d_Y_takes_117, trivial⟩ (show tv_run _ _ _ _ = some (118, [some (.ref 130), some (.int a1), some (.int a2), some (.int (σ.1 147 ((4 : Int32) * a2).toNatClampNeg))], [.int a1, .ref 130]) from rfl) ?_
          obtain ⟨q6, hq6, hf⟩ := tm_bd hf
          refine V.callV hC tm_nest rfl (c_Y_reset σ a1  hq6) (tm_gd tc_Y_reset) tg_Y_150 th_Y_reset ⟨tm_le rfl, tm_le rfl, tm_le rfl, tm_le rfl⟩ rfl (kd_in kd_130 (by decide)) (hp_at kd_130) (As := [.int a1]) (st := []) rfl (tm_le rfl) d_Y_takes_118 ?_
          rintro v n2 h2 ⟨rfl, rfl, rfl⟩
          show V X 0 0 tm_n (hp q6) 121 [some (.ref 130), some (.int a1), some (.int a2), some (.int (σ.1 147 ((4 : Int32) * a2).toNatClampNeg))] []
          refine V.goto hC d_Y_takes_121 (tgt := 206) (by decide) ?_
          obtain rfl := Option.some.inj hf
          exact V.vret hC hr hE d_Y_takes_206 ⟨rfl, rfl, rfl⟩
    · rw [if_pos hc] at hf
      refine V.blk hC [(.aload_n 0, 1), (.iload_n 1, 1), (.iload_n 2, 1)] 85 [some (.ref 130), some (.int a1), some (.int a2), some (.int (σ.1 147 ((4 : Int32) * a2).toNatClampNeg))] [] ⟨d_Y_takes_85, d_Y_takes_86, d_Y_takes_87, trivial⟩ (show tv_run _ _ _ _ = some (88, [some (.ref 130), some (.int a1), some (.int a2), some (.int (σ.1 147 ((4 : Int32) * a2).toNatClampNeg))], [.int a2, .int a1, .ref 130]) from rfl) ?_
      obtain ⟨q7, hq7, hf⟩ := tm_bd hf
      refine V.callV hC tm_nest rfl (c_Y_advert σ a1 a2  hq7) (tm_gd tc_Y_advert) tg_Y_213 th_Y_advert ⟨tm_le rfl, tm_le rfl, tm_le rfl, tm_le rfl⟩ rfl (kd_in kd_130 (by decide)) (hp_at kd_130) (As := [.int a1, .int a2]) (st := []) rfl (tm_le rfl) d_Y_takes_88 ?_
      rintro v n2 h2 ⟨rfl, rfl, rfl⟩
      show V X 0 0 tm_n (hp q7) 91 [some (.ref 130), some (.int a1), some (.int a2), some (.int (σ.1 147 ((4 : Int32) * a2).toNatClampNeg))] []
      refine V.goto hC d_Y_takes_91 (tgt := 206) (by decide) ?_
      obtain rfl := Option.some.inj hf
      exact V.vret hC hr hE d_Y_takes_206 ⟨rfl, rfl, rfl⟩
  · rw [if_pos hc] at hf
    refine V.blk hC [(.aload_n 0, 1)] 10 [some (.ref 130), some (.int a1), some (.int a2), none] [] ⟨d_Y_takes_10, trivial⟩ (show tv_run _ _ _ _ = some (11, [some (.ref 130), some (.int a1), some (.int a2), none], [.ref 130]) from rfl) ?_
    refine V.getf hC tf_Y_122 (kd_in kd_130 (by decide)) (hp_at kd_130) rfl d_Y_takes_11 ?_
    show V X 0 0 tm_n (hp σ) 14 [some (.ref 130), some (.int a1), some (.int a2), none] [.ref 168]
    refine V.blk hC [(.iload_n 2, 1)] 14 [some (.ref 130), some (.int a1), some (.int a2), none] [.ref 168] ⟨d_Y_takes_14, trivial⟩ (show tv_run _ _ _ _ = some (15, [some (.ref 130), some (.int a1), some (.int a2), none], [.int a2, .ref 168]) from rfl) ?_
    obtain ⟨hb8, hf⟩ := tm_if hf
    refine V.iald hC (kd_in kd_168 (by decide)) (hp_at kd_168) rfl hb8 d_Y_takes_15 ?_
    show V X 0 0 tm_n (hp σ) 16 [some (.ref 130), some (.int a1), some (.int a2), none] [.int (σ.1 168 a2.toNatClampNeg)]
    refine V.blk hC [(.iload_n 1, 1)] 16 [some (.ref 130), some (.int a1), some (.int a2), none] [.int (σ.1 168 a2.toNatClampNeg)] ⟨d_Y_takes_16, trivial⟩ (show tv_run _ _ _ _ = some (17, [some (.ref 130), some (.int a1), some (.int a2), none], [.int a1, .int (σ.1 168 a2.toNatClampNeg)]) from rfl) ?_
    refine V.icmp_ne hC d_Y_takes_17 (tgt := 65) (by decide) (fun hc => ?_) (fun hc => ?_)
    · rw [if_neg hc] at hf
      obtain rfl := Option.some.inj hf
      exact V.vret hC hr hE d_Y_takes_65 ⟨rfl, rfl, rfl⟩
    · rw [if_pos hc] at hf
      refine V.blk hC [(.aload_n 0, 1)] 20 [some (.ref 130), some (.int a1), some (.int a2), none] [] ⟨d_Y_takes_20, trivial⟩ (show tv_run _ _ _ _ = some (21, [some (.ref 130), some (.int a1), some (.int a2), none], [.ref 130]) from rfl) ?_
      refine V.getf hC tf_Y_77 (kd_in kd_130 (by decide)) (hp_at kd_130) rfl d_Y_takes_21 ?_
      show V X 0 0 tm_n (hp σ) 24 [some (.ref 130), some (.int a1), some (.int a2), none] [.ref 153]
      refine V.blk hC [(.iload_n 1, 1)] 24 [some (.ref 130), some (.int a1), some (.int a2), none] [.ref 153] ⟨d_Y_takes_24, trivial⟩ (show tv_run _ _ _ _ = some (25, [some (.ref 130), some (.int a1), some (.int a2), none], [.int a1, .ref 153]) from rfl) ?_
      obtain ⟨hb9, hf⟩ := tm_if hf
      refine V.zald hC (kd_in kd_153 (by decide)) (hp_at kd_153) rfl hb9 d_Y_takes_25 ?_
      show V X 0 0 tm_n (hp σ) 26 [some (.ref 130), some (.int a1), some (.int a2), none] [.int (σ.1 153 a1.toNatClampNeg)]
      refine V.if_eq hC d_Y_takes_26 (tgt := 65) (by decide) (fun hc => ?_) (fun hc => ?_)
      · rw [if_pos hc] at hf
        obtain rfl := Option.some.inj hf
        exact V.vret hC hr hE d_Y_takes_65 ⟨rfl, rfl, rfl⟩
      · rw [if_neg hc] at hf
        refine V.blk hC [(.aload_n 0, 1)] 29 [some (.ref 130), some (.int a1), some (.int a2), none] [] ⟨d_Y_takes_29, trivial⟩ (show tv_run _ _ _ _ = some (30, [some (.ref 130), some (.int a1), some (.int a2), none], [.ref 130]) from rfl) ?_
        refine V.getf hC tf_Y_89 (kd_in kd_130 (by decide)) (hp_at kd_130) rfl d_Y_takes_30 ?_
        show V X 0 0 tm_n (hp σ) 33 [some (.ref 130), some (.int a1), some (.int a2), none] [.ref 157]
        refine V.blk hC [(.aload_n 0, 1)] 33 [some (.ref 130), some (.int a1), some (.int a2), none] [.ref 157] ⟨d_Y_takes_33, trivial⟩ (show tv_run _ _ _ _ = some (34, [some (.ref 130), some (.int a1), some (.int a2), none], [.ref 130, .ref 157]) from rfl) ?_
        refine V.getf hC tf_Y_59 (kd_in kd_130 (by decide)) (hp_at kd_130) rfl d_Y_takes_34 ?_
        show V X 0 0 tm_n (hp σ) 37 [some (.ref 130), some (.int a1), some (.int a2), none] [.ref 147, .ref 157]
        refine V.blk hC [(.iconst 4, 1), (.iload_n 1, 1), (.imul, 1)] 37 [some (.ref 130), some (.int a1), some (.int a2), none] [.ref 147, .ref 157] ⟨d_Y_takes_37, d_Y_takes_38, d_Y_takes_39, trivial⟩ (show tv_run _ _ _ _ = some (40, [some (.ref 130), some (.int a1), some (.int a2), none], [.int ((4 : Int32) * a1), .ref 147, .ref 157]) from rfl) ?_
        obtain ⟨hb10, hf⟩ := tm_if hf
        refine V.iald hC (kd_in kd_147 (by decide)) (hp_at kd_147) rfl hb10 d_Y_takes_40 ?_
        show V X 0 0 tm_n (hp σ) 41 [some (.ref 130), some (.int a1), some (.int a2), none] [.int (σ.1 147 ((4 : Int32) * a1).toNatClampNeg), .ref 157]
        obtain ⟨hb11, hf⟩ := tm_if hf
        refine V.iald hC (kd_in kd_157 (by decide)) (hp_at kd_157) rfl hb11 d_Y_takes_41 ?_
        show V X 0 0 tm_n (hp σ) 42 [some (.ref 130), some (.int a1), some (.int a2), none] [.int (σ.1 157 (σ.1 147 ((4 : Int32) * a1).toNatClampNeg).toNatClampNeg)]
        refine V.blk hC [(.iload_n 2, 1)] 42 [some (.ref 130), some (.int a1), some (.int a2), none] [.int (σ.1 157 (σ.1 147 ((4 : Int32) * a1).toNatClampNeg).toNatClampNeg)] ⟨d_Y_takes_42, trivial⟩ (show tv_run _ _ _ _ = some (43, [some (.ref 130), some (.int a1), some (.int a2), none], [.int a2, .int (σ.1 157 (σ.1 147 ((4 : Int32) * a1).toNatClampNeg).toNatClampNeg)]) from rfl) ?_
        refine V.icmp_ne hC d_Y_takes_43 (tgt := 65) (by decide) (fun hc => ?_) (fun hc => ?_)
        · rw [if_neg hc] at hf
          obtain rfl := Option.some.inj hf
          exact V.vret hC hr hE d_Y_takes_65 ⟨rfl, rfl, rfl⟩
        · rw [if_pos hc] at hf
          refine V.blk hC [(.aload_n 0, 1)] 46 [some (.ref 130), some (.int a1), some (.int a2), none] [] ⟨d_Y_takes_46, trivial⟩ (show tv_run _ _ _ _ = some (47, [some (.ref 130), some (.int a1), some (.int a2), none], [.ref 130]) from rfl) ?_
          refine V.getf hC tf_Y_131 (kd_in kd_130 (by decide)) (hp_at kd_130) rfl d_Y_takes_47 ?_
          show V X 0 0 tm_n (hp σ) 50 [some (.ref 130), some (.int a1), some (.int a2), none] [.ref 171]
          refine V.blk hC [(.iload_n 1, 1), (.iconst 1, 1)] 50 [some (.ref 130), some (.int a1), some (.int a2), none] [.ref 171] ⟨d_Y_takes_50, d_Y_takes_51, trivial⟩ (show tv_run _ _ _ _ = some (52, [some (.ref 130), some (.int a1), some (.int a2), none], [.int (1 : Int32), .int a1, .ref 171]) from rfl) ?_
          obtain ⟨hb12, hf⟩ := tm_if hf
          obtain ⟨σ13, hσ13, hf⟩ := tm_ww hf
          refine V.setz hC kd_171 (kd_in kd_171 (by decide)) rfl rfl rfl hb12 (by decide) d_Y_takes_52 ?_
          rw [← hσ13]
          refine V.blk hC [(.aload_n 0, 1)] 53 [some (.ref 130), some (.int a1), some (.int a2), none] [] ⟨d_Y_takes_53, trivial⟩ (show tv_run _ _ _ _ = some (54, [some (.ref 130), some (.int a1), some (.int a2), none], [.ref 130]) from rfl) ?_
          refine V.getf hC tf_Y_77 (kd_in kd_130 (by decide)) (hp_at kd_130) rfl d_Y_takes_54 ?_
          show V X 0 0 tm_n (hp σ13) 57 [some (.ref 130), some (.int a1), some (.int a2), none] [.ref 153]
          refine V.blk hC [(.iload_n 1, 1), (.iconst 0, 1)] 57 [some (.ref 130), some (.int a1), some (.int a2), none] [.ref 153] ⟨d_Y_takes_57, d_Y_takes_58, trivial⟩ (show tv_run _ _ _ _ = some (59, [some (.ref 130), some (.int a1), some (.int a2), none], [.int (0 : Int32), .int a1, .ref 153]) from rfl) ?_
          obtain ⟨hb14, hf⟩ := tm_if hf
          obtain ⟨σ15, hσ15, hf⟩ := tm_ww hf
          refine V.setz hC kd_153 (kd_in kd_153 (by decide)) rfl rfl rfl hb14 (by decide) d_Y_takes_59 ?_
          rw [← hσ15]
          refine V.blk hC [(.aload_n 0, 1), (.iload_n 1, 1)] 60 [some (.ref 130), some (.int a1), some (.int a2), none] [] ⟨d_Y_takes_60, d_Y_takes_61, trivial⟩ (show tv_run _ _ _ _ = some (62, [some (.ref 130), some (.int a1), some (.int a2), none], [.int a1, .ref 130]) from rfl) ?_
          obtain ⟨q16, hq16, hf⟩ := tm_bd hf
          refine V.callV hC tm_nest rfl (c_Y_done σ15 a1  hq16) (tm_gd tc_Y_done) tg_Y_168 th_Y_done ⟨tm_le rfl, tm_le rfl, tm_le rfl, tm_le rfl⟩ rfl (kd_in kd_130 (by decide)) (hp_at kd_130) (As := [.int a1]) (st := []) rfl (tm_le rfl) d_Y_takes_62 ?_
          rintro v n2 h2 ⟨rfl, rfl, rfl⟩
          show V X 0 0 tm_n (hp q16) 65 [some (.ref 130), some (.int a1), some (.int a2), none] []
          obtain rfl := Option.some.inj hf
          exact V.vret hC hr hE d_Y_takes_65 ⟨rfl, rfl, rfl⟩
set_option maxHeartbeats 4000000 in
set_option maxRecDepth 100000 in
theorem c_Y_unheard (σ : tm_S) (a1 : Int32)  {r : tm_S} (hf : f_Y_unheard σ a1 = some r) : tv_Met ty_Y_unheard (Cond.code ty_Y_unheard tb_Y_unheard 2 none :: tm_wg) tm_ns tm_cl tm_ty 6 142 0 0 [.ref 130, .int a1] tm_n (hp σ) (tm_P none r) := by
  refine tv_Met.of (by decide) rfl (tm_le rfl) ?_
  intro X hC hnm hr hE
  have hC : tv_K X tb_Y_unheard 2 "TrickleMeshModel" tm_wg tm_ns tm_cl tm_ty { frames := 6, cells := 0, slots := 0, locals := 142 } := hC
  show V X 0 0 tm_n (hp σ) 0 [some (.ref 130), some (.int a1)] []
  unfold f_Y_unheard at hf
  refine V.blk hC [(.aload_n 0, 1)] 0 [some (.ref 130), some (.int a1)] [] ⟨d_Y_unheard_0, trivial⟩ (show tv_run _ _ _ _ = some (1, [some (.ref 130), some (.int a1)], [.ref 130]) from rfl) ?_
  refine V.getf hC tf_Y_77 (kd_in kd_130 (by decide)) (hp_at kd_130) rfl d_Y_unheard_1 ?_
  show V X 0 0 tm_n (hp σ) 4 [some (.ref 130), some (.int a1)] [.ref 153]
  refine V.blk hC [(.iload_n 1, 1), (.iconst 0, 1)] 4 [some (.ref 130), some (.int a1)] [.ref 153] ⟨d_Y_unheard_4, d_Y_unheard_5, trivial⟩ (show tv_run _ _ _ _ = some (6, [some (.ref 130), some (.int a1)], [.int (0 : Int32), .int a1, .ref 153]) from rfl) ?_
  obtain ⟨hb1, hf⟩ := tm_if hf
  obtain ⟨σ2, hσ2, hf⟩ := tm_ww hf
  refine V.setz hC kd_153 (kd_in kd_153 (by decide)) rfl rfl rfl hb1 (by decide) d_Y_unheard_6 ?_
  rw [← hσ2]
  refine V.blk hC [(.aload_n 0, 1)] 7 [some (.ref 130), some (.int a1)] [] ⟨d_Y_unheard_7, trivial⟩ (show tv_run _ _ _ _ = some (8, [some (.ref 130), some (.int a1)], [.ref 130]) from rfl) ?_
  refine V.getf hC tf_Y_71 (kd_in kd_130 (by decide)) (hp_at kd_130) rfl d_Y_unheard_8 ?_
  show V X 0 0 tm_n (hp σ2) 11 [some (.ref 130), some (.int a1)] [.ref 151]
  refine V.blk hC [(.iload_n 1, 1), (.dup2, 1)] 11 [some (.ref 130), some (.int a1)] [.ref 151] ⟨d_Y_unheard_11, d_Y_unheard_12, trivial⟩ (show tv_run _ _ _ _ = some (13, [some (.ref 130), some (.int a1)], [.int a1, .ref 151, .int a1, .ref 151]) from rfl) ?_
  obtain ⟨hb3, hf⟩ := tm_if hf
  refine V.iald hC (kd_in kd_151 (by decide)) (hp_at kd_151) rfl hb3 d_Y_unheard_13 ?_
  show V X 0 0 tm_n (hp σ2) 14 [some (.ref 130), some (.int a1)] [.int (σ2.1 151 a1.toNatClampNeg), .int a1, .ref 151]
  refine V.blk hC [(.iconst 1, 1), (.iadd, 1)] 14 [some (.ref 130), some (.int a1)] [.int (σ2.1 151 a1.toNatClampNeg), .int a1, .ref 151] ⟨d_Y_unheard_14, d_Y_unheard_15, trivial⟩ (show tv_run _ _ _ _ = some (16, [some (.ref 130), some (.int a1)], [.int ((σ2.1 151 a1.toNatClampNeg) + (1 : Int32)), .int a1, .ref 151]) from rfl) ?_
  obtain ⟨hb4, hf⟩ := tm_if hf
  obtain ⟨σ5, hσ5, hf⟩ := tm_ww hf
  refine V.seta hC kd_151 (kd_in kd_151 (by decide)) rfl rfl rfl hb4 d_Y_unheard_16 ?_
  rw [← hσ5]
  refine V.blk hC [(.aload_n 0, 1)] 17 [some (.ref 130), some (.int a1)] [] ⟨d_Y_unheard_17, trivial⟩ (show tv_run _ _ _ _ = some (18, [some (.ref 130), some (.int a1)], [.ref 130]) from rfl) ?_
  refine V.getf hC tf_Y_71 (kd_in kd_130 (by decide)) (hp_at kd_130) rfl d_Y_unheard_18 ?_
  show V X 0 0 tm_n (hp σ5) 21 [some (.ref 130), some (.int a1)] [.ref 151]
  refine V.blk hC [(.iload_n 1, 1)] 21 [some (.ref 130), some (.int a1)] [.ref 151] ⟨d_Y_unheard_21, trivial⟩ (show tv_run _ _ _ _ = some (22, [some (.ref 130), some (.int a1)], [.int a1, .ref 151]) from rfl) ?_
  obtain ⟨hb6, hf⟩ := tm_if hf
  refine V.iald hC (kd_in kd_151 (by decide)) (hp_at kd_151) rfl hb6 d_Y_unheard_22 ?_
  show V X 0 0 tm_n (hp σ5) 23 [some (.ref 130), some (.int a1)] [.int (σ5.1 151 a1.toNatClampNeg)]
  refine V.blk hC [(.iconst 4, 1)] 23 [some (.ref 130), some (.int a1)] [.int (σ5.1 151 a1.toNatClampNeg)] ⟨d_Y_unheard_23, trivial⟩ (show tv_run _ _ _ _ = some (24, [some (.ref 130), some (.int a1)], [.int (4 : Int32), .int (σ5.1 151 a1.toNatClampNeg)]) from rfl) ?_
  refine V.icmp_ne hC d_Y_unheard_24 (tgt := 33) (by decide) (fun hc => ?_) (fun hc => ?_)
  · rw [if_neg hc] at hf
    refine V.blk hC [(.aload_n 0, 1)] 33 [some (.ref 130), some (.int a1)] [] ⟨d_Y_unheard_33, trivial⟩ (show tv_run _ _ _ _ = some (34, [some (.ref 130), some (.int a1)], [.ref 130]) from rfl) ?_
    refine V.getf hC tf_Y_68 (kd_in kd_130 (by decide)) (hp_at kd_130) rfl d_Y_unheard_34 ?_
    show V X 0 0 tm_n (hp σ5) 37 [some (.ref 130), some (.int a1)] [.ref 150]
    refine V.blk hC [(.iload_n 1, 1), (.iconst 0, 1)] 37 [some (.ref 130), some (.int a1)] [.ref 150] ⟨d_Y_unheard_37, d_Y_unheard_38, trivial⟩ (show tv_run _ _ _ _ = some (39, [some (.ref 130), some (.int a1)], [.int (0 : Int32), .int a1, .ref 150]) from rfl) ?_
    obtain ⟨hb7, hf⟩ := tm_if hf
    obtain ⟨σ8, hσ8, hf⟩ := tm_ww hf
    refine V.seta hC kd_150 (kd_in kd_150 (by decide)) rfl rfl rfl hb7 d_Y_unheard_39 ?_
    rw [← hσ8]
    refine V.blk hC [(.aload_n 0, 1)] 40 [some (.ref 130), some (.int a1)] [] ⟨d_Y_unheard_40, trivial⟩ (show tv_run _ _ _ _ = some (41, [some (.ref 130), some (.int a1)], [.ref 130]) from rfl) ?_
    refine V.getf hC tf_Y_65 (kd_in kd_130 (by decide)) (hp_at kd_130) rfl d_Y_unheard_41 ?_
    show V X 0 0 tm_n (hp σ8) 44 [some (.ref 130), some (.int a1)] [.ref 149]
    refine V.blk hC [(.iload_n 1, 1), (.aload_n 0, 1), (.iconst 4, 1)] 44 [some (.ref 130), some (.int a1)] [.ref 149] ⟨d_Y_unheard_44, d_Y_unheard_45, d_Y_unheard_46, trivial⟩ (show tv_run _ _ _ _ = some (47, [some (.ref 130), some (.int a1)], [.int (4 : Int32), .ref 130, .int a1, .ref 149]) from rfl) ?_
    obtain ⟨q9, hq9, hf⟩ := tm_bd hf
    refine V.callV hC tm_nest rfl (c_Y_draw σ8 (4 : Int32)  hq9) (tm_gd tc_Y_draw) tg_Y_158 th_Y_draw ⟨tm_le rfl, tm_le rfl, tm_le rfl, tm_le rfl⟩ rfl (kd_in kd_130 (by decide)) (hp_at kd_130) (As := [.int (4 : Int32)]) (st := [.int a1, .ref 149]) rfl (tm_le rfl) d_Y_unheard_47 ?_
    rintro v n2 h2 ⟨rfl, rfl, rfl⟩
    show V X 0 0 tm_n (hp q9.2) 50 [some (.ref 130), some (.int a1)] [.int q9.1, .int a1, .ref 149]
    obtain ⟨hb10, hf⟩ := tm_if hf
    obtain ⟨σ11, hσ11, hf⟩ := tm_ww hf
    refine V.seta hC kd_149 (kd_in kd_149 (by decide)) rfl rfl rfl hb10 d_Y_unheard_50 ?_
    rw [← hσ11]
    obtain rfl := Option.some.inj hf
    exact V.vret hC hr hE d_Y_unheard_51 ⟨rfl, rfl, rfl⟩
  · rw [if_pos hc] at hf
    refine V.blk hC [(.aload_n 0, 1), (.iload_n 1, 1)] 27 [some (.ref 130), some (.int a1)] [] ⟨d_Y_unheard_27, d_Y_unheard_28, trivial⟩ (show tv_run _ _ _ _ = some (29, [some (.ref 130), some (.int a1)], [.int a1, .ref 130]) from rfl) ?_
    obtain ⟨q12, hq12, hf⟩ := tm_bd hf
    refine V.callV hC tm_nest rfl (c_Y_fails σ5 a1  hq12) (tm_gd tc_Y_fails) tg_Y_207 th_Y_fails ⟨tm_le rfl, tm_le rfl, tm_le rfl, tm_le rfl⟩ rfl (kd_in kd_130 (by decide)) (hp_at kd_130) (As := [.int a1]) (st := []) rfl (tm_le rfl) d_Y_unheard_29 ?_
    rintro v n2 h2 ⟨rfl, rfl, rfl⟩
    show V X 0 0 tm_n (hp q12) 32 [some (.ref 130), some (.int a1)] []
    obtain rfl := Option.some.inj hf
    exact V.vret hC hr hE d_Y_unheard_32 ⟨rfl, rfl, rfl⟩
set_option maxHeartbeats 4000000 in
set_option maxRecDepth 100000 in
theorem c_Y_later_L53 {X : tv_X} {r : tm_S} (hC : tv_K X tb_Y_later 3 "TrickleMeshModel" tm_wg tm_ns tm_cl tm_ty { frames := 4, cells := 0, slots := 0, locals := 90 }) (hr : tv_ret X none) (hE : tv_end X (tm_P none r) 0 0) (σ : tm_S) (l1 : Int32)  (hf : f_Y_later_L53 σ l1 = some r) : V X 0 0 tm_n (hp σ) 53 [some (.ref 130), some (.int l1), none] [] := by
  unfold f_Y_later_L53 at hf
  refine V.blk hC [(.aload_n 0, 1)] 53 [some (.ref 130), some (.int l1), none] [] ⟨d_Y_later_53, trivial⟩ (show tv_run _ _ _ _ = some (54, [some (.ref 130), some (.int l1), none], [.ref 130]) from rfl) ?_
  refine V.getf hC tf_Y_223 (kd_in kd_130 (by decide)) (hp_at kd_130) rfl d_Y_later_54 ?_
  show V X 0 0 tm_n (hp σ) 57 [some (.ref 130), some (.int l1), none] [.int (σ.1 130 3)]
  refine V.blk hC [(.bipush 64, 2)] 57 [some (.ref 130), some (.int l1), none] [.int (σ.1 130 3)] ⟨d_Y_later_57, trivial⟩ (show tv_run _ _ _ _ = some (59, [some (.ref 130), some (.int l1), none], [.int (64 : Int32), .int (σ.1 130 3)]) from rfl) ?_
  refine V.irem hC d_Y_later_59 (by decide) ?_
  refine V.if_ne hC d_Y_later_60 (tgt := 104) (by decide) (fun hc => ?_) (fun hc => ?_)
  · rw [if_neg hc] at hf
    obtain rfl := Option.some.inj hf
    exact V.vret hC hr hE d_Y_later_104 ⟨rfl, rfl, rfl⟩
  · rw [if_pos hc] at hf
    refine V.blk hC [(.aload_n 0, 1)] 63 [some (.ref 130), some (.int l1), none] [] ⟨d_Y_later_63, trivial⟩ (show tv_run _ _ _ _ = some (64, [some (.ref 130), some (.int l1), none], [.ref 130]) from rfl) ?_
    refine V.getf hC tf_Y_38 (kd_in kd_130 (by decide)) (hp_at kd_130) rfl d_Y_later_64 ?_
    show V X 0 0 tm_n (hp σ) 67 [some (.ref 130), some (.int l1), none] [.ref 140]
    refine V.blk hC [(.iload_n 1, 1)] 67 [some (.ref 130), some (.int l1), none] [.ref 140] ⟨d_Y_later_67, trivial⟩ (show tv_run _ _ _ _ = some (68, [some (.ref 130), some (.int l1), none], [.int l1, .ref 140]) from rfl) ?_
    obtain ⟨hb6, hf⟩ := tm_if hf
    refine V.iald hC (kd_in kd_140 (by decide)) (hp_at kd_140) rfl hb6 d_Y_later_68 ?_
    show V X 0 0 tm_n (hp σ) 69 [some (.ref 130), some (.int l1), none] [.int (σ.1 140 l1.toNatClampNeg)]
    refine V.if_lt hC d_Y_later_69 (tgt := 104) (by decide) (fun hc => ?_) (fun hc => ?_)
    · rw [if_pos hc] at hf
      obtain rfl := Option.some.inj hf
      exact V.vret hC hr hE d_Y_later_104 ⟨rfl, rfl, rfl⟩
    · rw [if_neg hc] at hf
      refine V.blk hC [(.aload_n 0, 1), (.iload_n 1, 1)] 72 [some (.ref 130), some (.int l1), none] [] ⟨d_Y_later_72, d_Y_later_73, trivial⟩ (show tv_run _ _ _ _ = some (74, [some (.ref 130), some (.int l1), none], [.int l1, .ref 130]) from rfl) ?_
      obtain ⟨q7, hq7, hf⟩ := tm_bd hf
      refine V.callV hC tm_nest rfl (c_Y_allGoals σ l1  hq7) (tm_gd tc_Y_allGoals) tg_Y_190 th_Y_allGoals ⟨tm_le rfl, tm_le rfl, tm_le rfl, tm_le rfl⟩ rfl (kd_in kd_130 (by decide)) (hp_at kd_130) (As := [.int l1]) (st := []) rfl (tm_le rfl) d_Y_later_74 ?_
      rintro v n2 h2 ⟨rfl, rfl, rfl⟩
      show V X 0 0 tm_n (hp q7.2) 77 [some (.ref 130), some (.int l1), none] [.int q7.1]
      refine V.blk hC [(.istore_n 2, 1), (.aload_n 0, 1)] 77 [some (.ref 130), some (.int l1), none] [.int q7.1] ⟨d_Y_later_77, d_Y_later_78, trivial⟩ (show tv_run _ _ _ _ = some (79, [some (.ref 130), some (.int l1), some (.int q7.1)], [.ref 130]) from rfl) ?_
      refine V.getf hC tf_Y_23 (kd_in kd_130 (by decide)) (hp_at kd_130) rfl d_Y_later_79 ?_
      show V X 0 0 tm_n (hp q7.2) 82 [some (.ref 130), some (.int l1), some (.int q7.1)] [.ref 135]
      refine V.blk hC [(.bipush 8, 2), (.iload_n 1, 1), (.imul, 1), (.dup2, 1)] 82 [some (.ref 130), some (.int l1), some (.int q7.1)] [.ref 135] ⟨d_Y_later_82, d_Y_later_84, d_Y_later_85, d_Y_later_86, trivial⟩ (show tv_run _ _ _ _ = some (87, [some (.ref 130), some (.int l1), some (.int q7.1)], [.int ((8 : Int32) * l1), .ref 135, .int ((8 : Int32) * l1), .ref 135]) from rfl) ?_
      obtain ⟨hb8, hf⟩ := tm_if hf
      refine V.iald hC (kd_in kd_135 (by decide)) (hp_at kd_135) rfl hb8 d_Y_later_87 ?_
      show V X 0 0 tm_n (hp q7.2) 88 [some (.ref 130), some (.int l1), some (.int q7.1)] [.int (q7.2.1 135 ((8 : Int32) * l1).toNatClampNeg), .int ((8 : Int32) * l1), .ref 135]
      refine V.blk hC [(.iconst 1, 1), (.iadd, 1)] 88 [some (.ref 130), some (.int l1), some (.int q7.1)] [.int (q7.2.1 135 ((8 : Int32) * l1).toNatClampNeg), .int ((8 : Int32) * l1), .ref 135] ⟨d_Y_later_88, d_Y_later_89, trivial⟩ (show tv_run _ _ _ _ = some (90, [some (.ref 130), some (.int l1), some (.int q7.1)], [.int ((q7.2.1 135 ((8 : Int32) * l1).toNatClampNeg) + (1 : Int32)), .int ((8 : Int32) * l1), .ref 135]) from rfl) ?_
      obtain ⟨hb9, hf⟩ := tm_if hf
      obtain ⟨σ10, hσ10, hf⟩ := tm_ww hf
      refine V.seta hC kd_135 (kd_in kd_135 (by decide)) rfl rfl rfl hb9 d_Y_later_90 ?_
      rw [← hσ10]
      refine V.blk hC [(.aload_n 0, 1), (.iload_n 1, 1), (.aload_n 0, 1)] 91 [some (.ref 130), some (.int l1), some (.int q7.1)] [] ⟨d_Y_later_91, d_Y_later_92, d_Y_later_93, trivial⟩ (show tv_run _ _ _ _ = some (94, [some (.ref 130), some (.int l1), some (.int q7.1)], [.ref 130, .int l1, .ref 130]) from rfl) ?_
      refine V.getf hC tf_Y_38 (kd_in kd_130 (by decide)) (hp_at kd_130) rfl d_Y_later_94 ?_
      show V X 0 0 tm_n (hp σ10) 97 [some (.ref 130), some (.int l1), some (.int q7.1)] [.ref 140, .int l1, .ref 130]
      refine V.blk hC [(.iload_n 1, 1)] 97 [some (.ref 130), some (.int l1), some (.int q7.1)] [.ref 140, .int l1, .ref 130] ⟨d_Y_later_97, trivial⟩ (show tv_run _ _ _ _ = some (98, [some (.ref 130), some (.int l1), some (.int q7.1)], [.int l1, .ref 140, .int l1, .ref 130]) from rfl) ?_
      obtain ⟨hb11, hf⟩ := tm_if hf
      refine V.iald hC (kd_in kd_140 (by decide)) (hp_at kd_140) rfl hb11 d_Y_later_98 ?_
      show V X 0 0 tm_n (hp σ10) 99 [some (.ref 130), some (.int l1), some (.int q7.1)] [.int (σ10.1 140 l1.toNatClampNeg), .int l1, .ref 130]
      refine V.blk hC [(.iload_n 2, 1), (.iconst 0, 1)] 99 [some (.ref 130), some (.int l1), some (.int q7.1)] [.int (σ10.1 140 l1.toNatClampNeg), .int l1, .ref 130] ⟨d_Y_later_99, d_Y_later_100, trivial⟩ (show tv_run _ _ _ _ = some (101, [some (.ref 130), some (.int l1), some (.int q7.1)], [.int (0 : Int32), .int q7.1, .int (σ10.1 140 l1.toNatClampNeg), .int l1, .ref 130]) from rfl) ?_
      obtain ⟨q12, hq12, hf⟩ := tm_bd hf
      refine V.callV hC tm_nest rfl (c_Y_announce σ10 l1 (σ10.1 140 l1.toNatClampNeg) q7.1 (0 : Int32)  hq12) (tm_gd tc_Y_announce) tg_Y_193 th_Y_announce ⟨tm_le rfl, tm_le rfl, tm_le rfl, tm_le rfl⟩ rfl (kd_in kd_130 (by decide)) (hp_at kd_130) (As := [.int l1, .int (σ10.1 140 l1.toNatClampNeg), .int q7.1, .int (0 : Int32)]) (st := []) rfl (tm_le rfl) d_Y_later_101 ?_
      rintro v n2 h2 ⟨rfl, rfl, rfl⟩
      show V X 0 0 tm_n (hp q12) 104 [some (.ref 130), some (.int l1), some (.int q7.1)] []
      obtain rfl := Option.some.inj hf
      exact V.vret hC hr hE d_Y_later_104 ⟨rfl, rfl, rfl⟩
set_option maxHeartbeats 4000000 in
set_option maxRecDepth 100000 in
theorem c_Y_later (σ : tm_S) (a1 : Int32)  {r : tm_S} (hf : f_Y_later σ a1 = some r) : tv_Met ty_Y_later (Cond.code ty_Y_later tb_Y_later 3 none :: tm_wg) tm_ns tm_cl tm_ty 4 90 0 0 [.ref 130, .int a1] tm_n (hp σ) (tm_P none r) := by
  refine tv_Met.of (by decide) rfl (tm_le rfl) ?_
  intro X hC hnm hr hE
  have hC : tv_K X tb_Y_later 3 "TrickleMeshModel" tm_wg tm_ns tm_cl tm_ty { frames := 4, cells := 0, slots := 0, locals := 90 } := hC
  show V X 0 0 tm_n (hp σ) 0 [some (.ref 130), some (.int a1), none] []
  unfold f_Y_later at hf
  refine V.blk hC [(.aload_n 0, 1), (.iload_n 1, 1)] 0 [some (.ref 130), some (.int a1), none] [] ⟨d_Y_later_0, d_Y_later_1, trivial⟩ (show tv_run _ _ _ _ = some (2, [some (.ref 130), some (.int a1), none], [.int a1, .ref 130]) from rfl) ?_
  obtain ⟨q1, hq1, hf⟩ := tm_bd hf
  refine V.callV hC tm_nest rfl (c_Y_timer σ a1  hq1) (tm_gd tc_Y_timer) tg_Y_241 th_Y_timer ⟨tm_le rfl, tm_le rfl, tm_le rfl, tm_le rfl⟩ rfl (kd_in kd_130 (by decide)) (hp_at kd_130) (As := [.int a1]) (st := []) rfl (tm_le rfl) d_Y_later_2 ?_
  rintro v n2 h2 ⟨rfl, rfl, rfl⟩
  show V X 0 0 tm_n (hp q1) 5 [some (.ref 130), some (.int a1), none] []
  refine V.blk hC [(.iload_n 1, 1)] 5 [some (.ref 130), some (.int a1), none] [] ⟨d_Y_later_5, trivial⟩ (show tv_run _ _ _ _ = some (6, [some (.ref 130), some (.int a1), none], [.int a1]) from rfl) ?_
  refine V.if_le hC d_Y_later_6 (tgt := 53) (by decide) (fun hc => ?_) (fun hc => ?_)
  · rw [if_pos hc] at hf
    exact V.less (tv_le_some (tv_le_some (tv_le_none tv_le_nil))) (c_Y_later_L53 hC hr hE q1 a1  hf)
  · rw [if_neg hc] at hf
    refine V.blk hC [(.aload_n 0, 1)] 9 [some (.ref 130), some (.int a1), none] [] ⟨d_Y_later_9, trivial⟩ (show tv_run _ _ _ _ = some (10, [some (.ref 130), some (.int a1), none], [.ref 130]) from rfl) ?_
    refine V.getf hC tf_Y_35 (kd_in kd_130 (by decide)) (hp_at kd_130) rfl d_Y_later_10 ?_
    show V X 0 0 tm_n (hp q1) 13 [some (.ref 130), some (.int a1), none] [.ref 139]
    refine V.blk hC [(.iload_n 1, 1)] 13 [some (.ref 130), some (.int a1), none] [.ref 139] ⟨d_Y_later_13, trivial⟩ (show tv_run _ _ _ _ = some (14, [some (.ref 130), some (.int a1), none], [.int a1, .ref 139]) from rfl) ?_
    obtain ⟨hb2, hf⟩ := tm_if hf
    refine V.iald hC (kd_in kd_139 (by decide)) (hp_at kd_139) rfl hb2 d_Y_later_14 ?_
    show V X 0 0 tm_n (hp q1) 15 [some (.ref 130), some (.int a1), none] [.int (q1.1 139 a1.toNatClampNeg)]
    refine V.blk hC [(.sipush 255, 3)] 15 [some (.ref 130), some (.int a1), none] [.int (q1.1 139 a1.toNatClampNeg)] ⟨d_Y_later_15, trivial⟩ (show tv_run _ _ _ _ = some (18, [some (.ref 130), some (.int a1), none], [.int (255 : Int32), .int (q1.1 139 a1.toNatClampNeg)]) from rfl) ?_
    refine V.icmp_ne hC d_Y_later_18 (tgt := 53) (by decide) (fun hc => ?_) (fun hc => ?_)
    · rw [if_neg hc] at hf
      exact V.less (tv_le_some (tv_le_some (tv_le_none tv_le_nil))) (c_Y_later_L53 hC hr hE q1 a1  hf)
    · rw [if_pos hc] at hf
      refine V.blk hC [(.aload_n 0, 1)] 21 [some (.ref 130), some (.int a1), none] [] ⟨d_Y_later_21, trivial⟩ (show tv_run _ _ _ _ = some (22, [some (.ref 130), some (.int a1), none], [.ref 130]) from rfl) ?_
      refine V.getf hC tf_Y_223 (kd_in kd_130 (by decide)) (hp_at kd_130) rfl d_Y_later_22 ?_
      show V X 0 0 tm_n (hp q1) 25 [some (.ref 130), some (.int a1), none] [.int (q1.1 130 3)]
      refine V.blk hC [(.bipush 16, 2)] 25 [some (.ref 130), some (.int a1), none] [.int (q1.1 130 3)] ⟨d_Y_later_25, trivial⟩ (show tv_run _ _ _ _ = some (27, [some (.ref 130), some (.int a1), none], [.int (16 : Int32), .int (q1.1 130 3)]) from rfl) ?_
      refine V.irem hC d_Y_later_27 (by decide) ?_
      refine V.if_ne hC d_Y_later_28 (tgt := 53) (by decide) (fun hc => ?_) (fun hc => ?_)
      · rw [if_neg hc] at hf
        exact V.less (tv_le_some (tv_le_some (tv_le_none tv_le_nil))) (c_Y_later_L53 hC hr hE q1 a1  hf)
      · rw [if_pos hc] at hf
        refine V.blk hC [(.aload_n 0, 1), (.iload_n 1, 1), (.iconst 1, 1)] 31 [some (.ref 130), some (.int a1), none] [] ⟨d_Y_later_31, d_Y_later_32, d_Y_later_33, trivial⟩ (show tv_run _ _ _ _ = some (34, [some (.ref 130), some (.int a1), none], [.int (1 : Int32), .int a1, .ref 130]) from rfl) ?_
        obtain ⟨q3, hq3, hf⟩ := tm_bd hf
        refine V.callV hC tm_nest rfl (c_Y_queues q1 a1 (1 : Int32)  hq3) (tm_gd tc_Y_queues) tg_Y_178 th_Y_queues ⟨tm_le rfl, tm_le rfl, tm_le rfl, tm_le rfl⟩ rfl (kd_in kd_130 (by decide)) (hp_at kd_130) (As := [.int a1, .int (1 : Int32)]) (st := []) rfl (tm_le rfl) d_Y_later_34 ?_
        rintro v n2 h2 ⟨rfl, rfl, rfl⟩
        show V X 0 0 tm_n (hp q3.2) 37 [some (.ref 130), some (.int a1), none] [.int q3.1]
        refine V.if_ne hC d_Y_later_37 (tgt := 53) (by decide) (fun hc => ?_) (fun hc => ?_)
        · rw [if_neg hc] at hf
          exact V.less (tv_le_some (tv_le_some (tv_le_none tv_le_nil))) (c_Y_later_L53 hC hr hE q3.2 a1  hf)
        · rw [if_pos hc] at hf
          refine V.blk hC [(.aload_n 0, 1), (.iconst 1, 1), (.iconst (-1), 1)] 40 [some (.ref 130), some (.int a1), none] [] ⟨d_Y_later_40, d_Y_later_41, d_Y_later_42, trivial⟩ (show tv_run _ _ _ _ = some (43, [some (.ref 130), some (.int a1), none], [.int (-1 : Int32), .int (1 : Int32), .ref 130]) from rfl) ?_
          obtain ⟨q4, hq4, hf⟩ := tm_bd hf
          refine V.callV hC tm_nest rfl (c_Y_makeFrame q3.2 (1 : Int32) (-1 : Int32)  hq4) (tm_gd tc_Y_makeFrame) tg_Y_182 th_Y_makeFrame ⟨tm_le rfl, tm_le rfl, tm_le rfl, tm_le rfl⟩ rfl (kd_in kd_130 (by decide)) (hp_at kd_130) (As := [.int (1 : Int32), .int (-1 : Int32)]) (st := []) rfl (tm_le rfl) d_Y_later_43 ?_
          rintro v n2 h2 ⟨rfl, rfl, rfl⟩
          show V X 0 0 tm_n (hp q4.2) 46 [some (.ref 130), some (.int a1), none] [.int q4.1]
          refine V.blk hC [(.istore_n 2, 1), (.aload_n 0, 1), (.iload_n 1, 1), (.iload_n 2, 1)] 46 [some (.ref 130), some (.int a1), none] [.int q4.1] ⟨d_Y_later_46, d_Y_later_47, d_Y_later_48, d_Y_later_49, trivial⟩ (show tv_run _ _ _ _ = some (50, [some (.ref 130), some (.int a1), some (.int q4.1)], [.int q4.1, .int a1, .ref 130]) from rfl) ?_
          obtain ⟨q5, hq5, hf⟩ := tm_bd hf
          refine V.callV hC tm_nest rfl (c_Y_queue q4.2 a1 q4.1  hq5) (tm_gd tc_Y_queue) tg_Y_186 th_Y_queue ⟨tm_le rfl, tm_le rfl, tm_le rfl, tm_le rfl⟩ rfl (kd_in kd_130 (by decide)) (hp_at kd_130) (As := [.int a1, .int q4.1]) (st := []) rfl (tm_le rfl) d_Y_later_50 ?_
          rintro v n2 h2 ⟨rfl, rfl, rfl⟩
          show V X 0 0 tm_n (hp q5) 53 [some (.ref 130), some (.int a1), some (.int q4.1)] []
          exact V.less (tv_le_some (tv_le_some (tv_le_none tv_le_nil))) (c_Y_later_L53 hC hr hE q5 a1  hf)
set_option maxHeartbeats 4000000 in
set_option maxRecDepth 100000 in
theorem c_Y_slot_L72 {X : tv_X} {r : tm_S} (hC : tv_K X tb_Y_slot 3 "TrickleMeshModel" tm_wg tm_ns tm_cl tm_ty { frames := 7, cells := 0, slots := 0, locals := 164 }) (hr : tv_ret X none) (hE : tv_end X (tm_P none r) 0 0) {rc : tm_S → Int32 → Option (tm_S)} (hrc : ∀ (σ : tm_S) (l1 : Int32), rc σ l1 = some r → V X 0 0 tm_n (hp σ) 52 [some (.ref 130), some (.int l1), none] []) (σ : tm_S) (l1 : Int32)  (hf : f_Y_slot_L72 rc σ l1 = some r) : V X 0 0 tm_n (hp σ) 72 [some (.ref 130), some (.int l1), none] [] := by
  unfold f_Y_slot_L72 at hf
  refine V.blk hC [(.iinc 1 1, 3)] 72 [some (.ref 130), some (.int l1), none] [] ⟨d_Y_slot_72, trivial⟩ (show tv_run _ _ _ _ = some (75, [some (.ref 130), some (.int (l1 + (1 : Int32))), none], []) from rfl) ?_
  refine V.goto hC d_Y_slot_75 (tgt := 52) (by decide) ?_
  exact V.less (tv_le_some (tv_le_some (tv_le_none tv_le_nil))) (hrc σ (l1 + (1 : Int32))  hf)
set_option maxHeartbeats 4000000 in
set_option maxRecDepth 100000 in
theorem c_Y_slot_L115 {X : tv_X} {r : tm_S} (hC : tv_K X tb_Y_slot 3 "TrickleMeshModel" tm_wg tm_ns tm_cl tm_ty { frames := 7, cells := 0, slots := 0, locals := 164 }) (hr : tv_ret X none) (hE : tv_end X (tm_P none r) 0 0) {rc : tm_S → Int32 → Option (tm_S)} (hrc : ∀ (σ : tm_S) (l1 : Int32), rc σ l1 = some r → V X 0 0 tm_n (hp σ) 80 [some (.ref 130), some (.int l1), none] []) (σ : tm_S) (l1 : Int32)  (hf : f_Y_slot_L115 rc σ l1 = some r) : V X 0 0 tm_n (hp σ) 115 [some (.ref 130), some (.int l1), none] [] := by
  unfold f_Y_slot_L115 at hf
  refine V.blk hC [(.iinc 1 1, 3)] 115 [some (.ref 130), some (.int l1), none] [] ⟨d_Y_slot_115, trivial⟩ (show tv_run _ _ _ _ = some (118, [some (.ref 130), some (.int (l1 + (1 : Int32))), none], []) from rfl) ?_
  refine V.goto hC d_Y_slot_118 (tgt := 80) (by decide) ?_
  exact V.less (tv_le_some (tv_le_some (tv_le_none tv_le_nil))) (hrc σ (l1 + (1 : Int32))  hf)
set_option maxHeartbeats 4000000 in
set_option maxRecDepth 100000 in
theorem c_Y_slot_L104 {X : tv_X} {r : tm_S} (hC : tv_K X tb_Y_slot 3 "TrickleMeshModel" tm_wg tm_ns tm_cl tm_ty { frames := 7, cells := 0, slots := 0, locals := 164 }) (hr : tv_ret X none) (hE : tv_end X (tm_P none r) 0 0) {rc : tm_S → Int32 → Option (tm_S)} (hrc : ∀ (σ : tm_S) (l1 : Int32), rc σ l1 = some r → V X 0 0 tm_n (hp σ) 80 [some (.ref 130), some (.int l1), none] []) (σ : tm_S) (l1 : Int32) (s0 : Int32)  (hf : f_Y_slot_L104 rc σ l1 s0 = some r) : V X 0 0 tm_n (hp σ) 104 [some (.ref 130), some (.int l1), none] [.int s0] := by
  unfold f_Y_slot_L104 at hf
  refine V.blk hC [(.istore_n 2, 1), (.iload_n 2, 1)] 104 [some (.ref 130), some (.int l1), none] [.int s0] ⟨d_Y_slot_104, d_Y_slot_105, trivial⟩ (show tv_run _ _ _ _ = some (106, [some (.ref 130), some (.int l1), some (.int s0)], [.int s0]) from rfl) ?_
  refine V.if_lt hC d_Y_slot_106 (tgt := 115) (by decide) (fun hc => ?_) (fun hc => ?_)
  · rw [if_pos hc] at hf
    exact V.less (tv_le_some (tv_le_some (tv_le_none tv_le_nil))) (c_Y_slot_L115 hC hr hE hrc σ l1  hf)
  · rw [if_neg hc] at hf
    refine V.blk hC [(.aload_n 0, 1), (.iload_n 1, 1), (.iload_n 2, 1)] 109 [some (.ref 130), some (.int l1), some (.int s0)] [] ⟨d_Y_slot_109, d_Y_slot_110, d_Y_slot_111, trivial⟩ (show tv_run _ _ _ _ = some (112, [some (.ref 130), some (.int l1), some (.int s0)], [.int s0, .int l1, .ref 130]) from rfl) ?_
    obtain ⟨q18, hq18, hf⟩ := tm_bd hf
    refine V.callV hC tm_nest rfl (c_Y_takes σ l1 s0  hq18) (tm_gd tc_Y_takes) tg_Y_232 th_Y_takes ⟨tm_le rfl, tm_le rfl, tm_le rfl, tm_le rfl⟩ rfl (kd_in kd_130 (by decide)) (hp_at kd_130) (As := [.int l1, .int s0]) (st := []) rfl (tm_le rfl) d_Y_slot_112 ?_
    rintro v n2 h2 ⟨rfl, rfl, rfl⟩
    show V X 0 0 tm_n (hp q18) 115 [some (.ref 130), some (.int l1), some (.int s0)] []
    exact V.less (tv_le_some (tv_le_some (tv_le_none tv_le_nil))) (c_Y_slot_L115 hC hr hE hrc q18 l1  hf)
set_option maxHeartbeats 4000000 in
set_option maxRecDepth 100000 in
theorem c_Y_slot_L180 {X : tv_X} {r : tm_S} (hC : tv_K X tb_Y_slot 3 "TrickleMeshModel" tm_wg tm_ns tm_cl tm_ty { frames := 7, cells := 0, slots := 0, locals := 164 }) (hr : tv_ret X none) (hE : tv_end X (tm_P none r) 0 0) {rc : tm_S → Int32 → Option (tm_S)} (hrc : ∀ (σ : tm_S) (l1 : Int32), rc σ l1 = some r → V X 0 0 tm_n (hp σ) 123 [some (.ref 130), some (.int l1), none] []) (σ : tm_S) (l1 : Int32)  (hf : f_Y_slot_L180 rc σ l1 = some r) : V X 0 0 tm_n (hp σ) 180 [some (.ref 130), some (.int l1), none] [] := by
  unfold f_Y_slot_L180 at hf
  refine V.blk hC [(.iinc 1 1, 3)] 180 [some (.ref 130), some (.int l1), none] [] ⟨d_Y_slot_180, trivial⟩ (show tv_run _ _ _ _ = some (183, [some (.ref 130), some (.int (l1 + (1 : Int32))), none], []) from rfl) ?_
  refine V.goto hC d_Y_slot_183 (tgt := 123) (by decide) ?_
  exact V.less (tv_le_some (tv_le_some (tv_le_none tv_le_nil))) (hrc σ (l1 + (1 : Int32))  hf)
set_option maxHeartbeats 4000000 in
set_option maxRecDepth 100000 in
theorem c_Y_slot_L163 {X : tv_X} {r : tm_S} (hC : tv_K X tb_Y_slot 3 "TrickleMeshModel" tm_wg tm_ns tm_cl tm_ty { frames := 7, cells := 0, slots := 0, locals := 164 }) (hr : tv_ret X none) (hE : tv_end X (tm_P none r) 0 0) {rc : tm_S → Int32 → Option (tm_S)} (hrc : ∀ (σ : tm_S) (l1 : Int32), rc σ l1 = some r → V X 0 0 tm_n (hp σ) 123 [some (.ref 130), some (.int l1), none] []) (σ : tm_S) (l1 : Int32)  (hf : f_Y_slot_L163 rc σ l1 = some r) : V X 0 0 tm_n (hp σ) 163 [some (.ref 130), some (.int l1), none] [] := by
  unfold f_Y_slot_L163 at hf
  refine V.blk hC [(.aload_n 0, 1)] 163 [some (.ref 130), some (.int l1), none] [] ⟨d_Y_slot_163, trivial⟩ (show tv_run _ _ _ _ = some (164, [some (.ref 130), some (.int l1), none], [.ref 130]) from rfl) ?_
  refine V.getf hC tf_Y_119 (kd_in kd_130 (by decide)) (hp_at kd_130) rfl d_Y_slot_164 ?_
  show V X 0 0 tm_n (hp σ) 167 [some (.ref 130), some (.int l1), none] [.ref 167]
  refine V.blk hC [(.iload_n 1, 1)] 167 [some (.ref 130), some (.int l1), none] [.ref 167] ⟨d_Y_slot_167, trivial⟩ (show tv_run _ _ _ _ = some (168, [some (.ref 130), some (.int l1), none], [.int l1, .ref 167]) from rfl) ?_
  obtain ⟨hb23, hf⟩ := tm_if hf
  refine V.iald hC (kd_in kd_167 (by decide)) (hp_at kd_167) rfl hb23 d_Y_slot_168 ?_
  show V X 0 0 tm_n (hp σ) 169 [some (.ref 130), some (.int l1), none] [.int (σ.1 167 l1.toNatClampNeg)]
  refine V.blk hC [(.iconst 1, 1)] 169 [some (.ref 130), some (.int l1), none] [.int (σ.1 167 l1.toNatClampNeg)] ⟨d_Y_slot_169, trivial⟩ (show tv_run _ _ _ _ = some (170, [some (.ref 130), some (.int l1), none], [.int (1 : Int32), .int (σ.1 167 l1.toNatClampNeg)]) from rfl) ?_
  refine V.icmp_ne hC d_Y_slot_170 (tgt := 180) (by decide) (fun hc => ?_) (fun hc => ?_)
  · rw [if_neg hc] at hf
    exact V.less (tv_le_some (tv_le_some (tv_le_none tv_le_nil))) (c_Y_slot_L180 hC hr hE hrc σ l1  hf)
  · rw [if_pos hc] at hf
    refine V.blk hC [(.aload_n 0, 1)] 173 [some (.ref 130), some (.int l1), none] [] ⟨d_Y_slot_173, trivial⟩ (show tv_run _ _ _ _ = some (174, [some (.ref 130), some (.int l1), none], [.ref 130]) from rfl) ?_
    refine V.getf hC tf_Y_77 (kd_in kd_130 (by decide)) (hp_at kd_130) rfl d_Y_slot_174 ?_
    show V X 0 0 tm_n (hp σ) 177 [some (.ref 130), some (.int l1), none] [.ref 153]
    refine V.blk hC [(.iload_n 1, 1), (.iconst 1, 1)] 177 [some (.ref 130), some (.int l1), none] [.ref 153] ⟨d_Y_slot_177, d_Y_slot_178, trivial⟩ (show tv_run _ _ _ _ = some (179, [some (.ref 130), some (.int l1), none], [.int (1 : Int32), .int l1, .ref 153]) from rfl) ?_
    obtain ⟨hb24, hf⟩ := tm_if hf
    obtain ⟨σ25, hσ25, hf⟩ := tm_ww hf
    refine V.setz hC kd_153 (kd_in kd_153 (by decide)) rfl rfl rfl hb24 (by decide) d_Y_slot_179 ?_
    rw [← hσ25]
    exact V.less (tv_le_some (tv_le_some (tv_le_none tv_le_nil))) (c_Y_slot_L180 hC hr hE hrc σ25 l1  hf)
set_option maxHeartbeats 4000000 in
set_option maxRecDepth 100000 in
theorem c_Y_slot_L226 {X : tv_X} {r : tm_S} (hC : tv_K X tb_Y_slot 3 "TrickleMeshModel" tm_wg tm_ns tm_cl tm_ty { frames := 7, cells := 0, slots := 0, locals := 164 }) (hr : tv_ret X none) (hE : tv_end X (tm_P none r) 0 0) {rc : tm_S → Int32 → Option (tm_S)} (hrc : ∀ (σ : tm_S) (l1 : Int32), rc σ l1 = some r → V X 0 0 tm_n (hp σ) 188 [some (.ref 130), some (.int l1), none] []) (σ : tm_S) (l1 : Int32)  (hf : f_Y_slot_L226 rc σ l1 = some r) : V X 0 0 tm_n (hp σ) 226 [some (.ref 130), some (.int l1), none] [] := by
  unfold f_Y_slot_L226 at hf
  refine V.blk hC [(.iinc 1 1, 3)] 226 [some (.ref 130), some (.int l1), none] [] ⟨d_Y_slot_226, trivial⟩ (show tv_run _ _ _ _ = some (229, [some (.ref 130), some (.int (l1 + (1 : Int32))), none], []) from rfl) ?_
  refine V.goto hC d_Y_slot_229 (tgt := 188) (by decide) ?_
  exact V.less (tv_le_some (tv_le_some (tv_le_none tv_le_nil))) (hrc σ (l1 + (1 : Int32))  hf)
set_option maxHeartbeats 4000000 in
set_option maxRecDepth 100000 in
theorem c_Y_slot_L273 {X : tv_X} {r : tm_S} (hC : tv_K X tb_Y_slot 3 "TrickleMeshModel" tm_wg tm_ns tm_cl tm_ty { frames := 7, cells := 0, slots := 0, locals := 164 }) (hr : tv_ret X none) (hE : tv_end X (tm_P none r) 0 0) {rc : tm_S → Int32 → Option (tm_S)} (hrc : ∀ (σ : tm_S) (l1 : Int32), rc σ l1 = some r → V X 0 0 tm_n (hp σ) 234 [some (.ref 130), some (.int l1), none] []) (σ : tm_S) (l1 : Int32) (s0 : Int32) (s1 : Int32)  (hf : f_Y_slot_L273 rc σ l1 s0 s1 = some r) : V X 0 0 tm_n (hp σ) 273 [some (.ref 130), some (.int l1), none] [.int s0, .int s1, .ref 169] := by
  unfold f_Y_slot_L273 at hf
  obtain ⟨hb29, hf⟩ := tm_if hf
  obtain ⟨hz31, hf⟩ := tm_if hf
  obtain ⟨σ30, hσ30, hf⟩ := tm_ww hf
  refine V.setz hC kd_169 (kd_in kd_169 (by decide)) rfl rfl rfl hb29 hz31 d_Y_slot_273 ?_
  rw [← hσ30]
  refine V.blk hC [(.iinc 1 1, 3)] 274 [some (.ref 130), some (.int l1), none] [] ⟨d_Y_slot_274, trivial⟩ (show tv_run _ _ _ _ = some (277, [some (.ref 130), some (.int (l1 + (1 : Int32))), none], []) from rfl) ?_
  refine V.goto hC d_Y_slot_277 (tgt := 234) (by decide) ?_
  exact V.less (tv_le_some (tv_le_some (tv_le_none tv_le_nil))) (hrc σ30 (l1 + (1 : Int32))  hf)
set_option maxHeartbeats 4000000 in
set_option maxRecDepth 100000 in
theorem c_Y_slot_L254 {X : tv_X} {r : tm_S} (hC : tv_K X tb_Y_slot 3 "TrickleMeshModel" tm_wg tm_ns tm_cl tm_ty { frames := 7, cells := 0, slots := 0, locals := 164 }) (hr : tv_ret X none) (hE : tv_end X (tm_P none r) 0 0) {rc : tm_S → Int32 → Option (tm_S)} (hrc : ∀ (σ : tm_S) (l1 : Int32), rc σ l1 = some r → V X 0 0 tm_n (hp σ) 234 [some (.ref 130), some (.int l1), none] []) (σ : tm_S) (l1 : Int32)  (hf : f_Y_slot_L254 rc σ l1 = some r) : V X 0 0 tm_n (hp σ) 254 [some (.ref 130), some (.int l1), none] [] := by
  unfold f_Y_slot_L254 at hf
  refine V.blk hC [(.aload_n 0, 1)] 254 [some (.ref 130), some (.int l1), none] [] ⟨d_Y_slot_254, trivial⟩ (show tv_run _ _ _ _ = some (255, [some (.ref 130), some (.int l1), none], [.ref 130]) from rfl) ?_
  refine V.getf hC tf_Y_125 (kd_in kd_130 (by decide)) (hp_at kd_130) rfl d_Y_slot_255 ?_
  show V X 0 0 tm_n (hp σ) 258 [some (.ref 130), some (.int l1), none] [.ref 169]
  refine V.blk hC [(.iload_n 1, 1), (.aload_n 0, 1)] 258 [some (.ref 130), some (.int l1), none] [.ref 169] ⟨d_Y_slot_258, d_Y_slot_259, trivial⟩ (show tv_run _ _ _ _ = some (260, [some (.ref 130), some (.int l1), none], [.ref 130, .int l1, .ref 169]) from rfl) ?_
  refine V.getf hC tf_Y_119 (kd_in kd_130 (by decide)) (hp_at kd_130) rfl d_Y_slot_260 ?_
  show V X 0 0 tm_n (hp σ) 263 [some (.ref 130), some (.int l1), none] [.ref 167, .int l1, .ref 169]
  refine V.blk hC [(.iload_n 1, 1)] 263 [some (.ref 130), some (.int l1), none] [.ref 167, .int l1, .ref 169] ⟨d_Y_slot_263, trivial⟩ (show tv_run _ _ _ _ = some (264, [some (.ref 130), some (.int l1), none], [.int l1, .ref 167, .int l1, .ref 169]) from rfl) ?_
  obtain ⟨hb28, hf⟩ := tm_if hf
  refine V.iald hC (kd_in kd_167 (by decide)) (hp_at kd_167) rfl hb28 d_Y_slot_264 ?_
  show V X 0 0 tm_n (hp σ) 265 [some (.ref 130), some (.int l1), none] [.int (σ.1 167 l1.toNatClampNeg), .int l1, .ref 169]
  refine V.if_le hC d_Y_slot_265 (tgt := 272) (by decide) (fun hc => ?_) (fun hc => ?_)
  · rw [if_pos hc] at hf
    refine V.blk hC [(.iconst 0, 1)] 272 [some (.ref 130), some (.int l1), none] [.int l1, .ref 169] ⟨d_Y_slot_272, trivial⟩ (show tv_run _ _ _ _ = some (273, [some (.ref 130), some (.int l1), none], [.int (0 : Int32), .int l1, .ref 169]) from rfl) ?_
    exact V.less (tv_le_some (tv_le_some (tv_le_none tv_le_nil))) (c_Y_slot_L273 hC hr hE hrc σ l1 (0 : Int32) l1  hf)
  · rw [if_neg hc] at hf
    refine V.blk hC [(.iconst 1, 1)] 268 [some (.ref 130), some (.int l1), none] [.int l1, .ref 169] ⟨d_Y_slot_268, trivial⟩ (show tv_run _ _ _ _ = some (269, [some (.ref 130), some (.int l1), none], [.int (1 : Int32), .int l1, .ref 169]) from rfl) ?_
    refine V.goto hC d_Y_slot_269 (tgt := 273) (by decide) ?_
    exact V.less (tv_le_some (tv_le_some (tv_le_none tv_le_nil))) (c_Y_slot_L273 hC hr hE hrc σ l1 (1 : Int32) l1  hf)
set_option maxHeartbeats 4000000 in
set_option maxRecDepth 100000 in
theorem c_Y_slot_L234 {X : tv_X} {r : tm_S} (hC : tv_K X tb_Y_slot 3 "TrickleMeshModel" tm_wg tm_ns tm_cl tm_ty { frames := 7, cells := 0, slots := 0, locals := 164 }) (hr : tv_ret X none) (hE : tv_end X (tm_P none r) 0 0) : ∀ (k : Nat) (σ : tm_S) (l1 : Int32), f_Y_slot_L234 k σ l1 = some r → V X 0 0 tm_n (hp σ) 234 [some (.ref 130), some (.int l1), none] [] := by
  intro k
  induction k with
  | zero => intro σ l1  hf; simp only [f_Y_slot_L234] at hf; cases hf
  | succ k hrc =>
    intro σ l1  hf
    rw [f_Y_slot_L234] at hf
    refine V.blk hC [(.iload_n 1, 1), (.bipush 7, 2)] 234 [some (.ref 130), some (.int l1), none] [] ⟨d_Y_slot_234, d_Y_slot_235, trivial⟩ (show tv_run _ _ _ _ = some (237, [some (.ref 130), some (.int l1), none], [.int (7 : Int32), .int l1]) from rfl) ?_
    refine V.icmp_ge hC d_Y_slot_237 (tgt := 280) (by decide) (fun hc => ?_) (fun hc => ?_)
    · rw [if_pos hc] at hf
      obtain rfl := Option.some.inj hf
      exact V.vret hC hr hE d_Y_slot_280 ⟨rfl, rfl, rfl⟩
    · rw [if_neg hc] at hf
      refine V.blk hC [(.aload_n 0, 1)] 240 [some (.ref 130), some (.int l1), none] [] ⟨d_Y_slot_240, trivial⟩ (show tv_run _ _ _ _ = some (241, [some (.ref 130), some (.int l1), none], [.ref 130]) from rfl) ?_
      refine V.getf hC tf_Y_29 (kd_in kd_130 (by decide)) (hp_at kd_130) rfl d_Y_slot_241 ?_
      show V X 0 0 tm_n (hp σ) 244 [some (.ref 130), some (.int l1), none] [.ref 137]
      refine V.blk hC [(.iload_n 1, 1)] 244 [some (.ref 130), some (.int l1), none] [.ref 137] ⟨d_Y_slot_244, trivial⟩ (show tv_run _ _ _ _ = some (245, [some (.ref 130), some (.int l1), none], [.int l1, .ref 137]) from rfl) ?_
      obtain ⟨hb26, hf⟩ := tm_if hf
      refine V.zald hC (kd_in kd_137 (by decide)) (hp_at kd_137) rfl hb26 d_Y_slot_245 ?_
      show V X 0 0 tm_n (hp σ) 246 [some (.ref 130), some (.int l1), none] [.int (σ.1 137 l1.toNatClampNeg)]
      refine V.if_ne hC d_Y_slot_246 (tgt := 254) (by decide) (fun hc => ?_) (fun hc => ?_)
      · rw [if_neg hc] at hf
        exact V.less (tv_le_some (tv_le_some (tv_le_none tv_le_nil))) (c_Y_slot_L254 hC hr hE hrc σ l1  hf)
      · rw [if_pos hc] at hf
        refine V.blk hC [(.aload_n 0, 1), (.iload_n 1, 1)] 249 [some (.ref 130), some (.int l1), none] [] ⟨d_Y_slot_249, d_Y_slot_250, trivial⟩ (show tv_run _ _ _ _ = some (251, [some (.ref 130), some (.int l1), none], [.int l1, .ref 130]) from rfl) ?_
        obtain ⟨q27, hq27, hf⟩ := tm_bd hf
        refine V.callV hC tm_nest rfl (c_Y_later σ l1  hq27) (tm_gd tc_Y_later) tg_Y_238 th_Y_later ⟨tm_le rfl, tm_le rfl, tm_le rfl, tm_le rfl⟩ rfl (kd_in kd_130 (by decide)) (hp_at kd_130) (As := [.int l1]) (st := []) rfl (tm_le rfl) d_Y_slot_251 ?_
        rintro v n2 h2 ⟨rfl, rfl, rfl⟩
        show V X 0 0 tm_n (hp q27) 254 [some (.ref 130), some (.int l1), none] []
        exact V.less (tv_le_some (tv_le_some (tv_le_none tv_le_nil))) (c_Y_slot_L254 hC hr hE hrc q27 l1  hf)
set_option maxHeartbeats 4000000 in
set_option maxRecDepth 100000 in
theorem c_Y_slot_L188 {X : tv_X} {r : tm_S} (hC : tv_K X tb_Y_slot 3 "TrickleMeshModel" tm_wg tm_ns tm_cl tm_ty { frames := 7, cells := 0, slots := 0, locals := 164 }) (hr : tv_ret X none) (hE : tv_end X (tm_P none r) 0 0) : ∀ (k : Nat) (σ : tm_S) (l1 : Int32), f_Y_slot_L188 k σ l1 = some r → V X 0 0 tm_n (hp σ) 188 [some (.ref 130), some (.int l1), none] [] := by
  intro k
  induction k with
  | zero => intro σ l1  hf; simp only [f_Y_slot_L188] at hf; cases hf
  | succ k hrc =>
    intro σ l1  hf
    rw [f_Y_slot_L188] at hf
    refine V.blk hC [(.iload_n 1, 1), (.bipush 7, 2)] 188 [some (.ref 130), some (.int l1), none] [] ⟨d_Y_slot_188, d_Y_slot_189, trivial⟩ (show tv_run _ _ _ _ = some (191, [some (.ref 130), some (.int l1), none], [.int (7 : Int32), .int l1]) from rfl) ?_
    refine V.icmp_ge hC d_Y_slot_191 (tgt := 232) (by decide) (fun hc => ?_) (fun hc => ?_)
    · rw [if_pos hc] at hf
      refine V.blk hC [(.iconst 0, 1), (.istore_n 1, 1)] 232 [some (.ref 130), some (.int l1), none] [] ⟨d_Y_slot_232, d_Y_slot_233, trivial⟩ (show tv_run _ _ _ _ = some (234, [some (.ref 130), some (.int (0 : Int32)), none], []) from rfl) ?_
      exact V.less (tv_le_some (tv_le_some (tv_le_none tv_le_nil))) (c_Y_slot_L234 hC hr hE tm_fu σ (0 : Int32)  hf)
    · rw [if_neg hc] at hf
      refine V.blk hC [(.aload_n 0, 1)] 194 [some (.ref 130), some (.int l1), none] [] ⟨d_Y_slot_194, trivial⟩ (show tv_run _ _ _ _ = some (195, [some (.ref 130), some (.int l1), none], [.ref 130]) from rfl) ?_
      refine V.getf hC tf_Y_29 (kd_in kd_130 (by decide)) (hp_at kd_130) rfl d_Y_slot_195 ?_
      show V X 0 0 tm_n (hp σ) 198 [some (.ref 130), some (.int l1), none] [.ref 137]
      refine V.blk hC [(.iload_n 1, 1)] 198 [some (.ref 130), some (.int l1), none] [.ref 137] ⟨d_Y_slot_198, trivial⟩ (show tv_run _ _ _ _ = some (199, [some (.ref 130), some (.int l1), none], [.int l1, .ref 137]) from rfl) ?_
      obtain ⟨hb19, hf⟩ := tm_if hf
      refine V.zald hC (kd_in kd_137 (by decide)) (hp_at kd_137) rfl hb19 d_Y_slot_199 ?_
      show V X 0 0 tm_n (hp σ) 200 [some (.ref 130), some (.int l1), none] [.int (σ.1 137 l1.toNatClampNeg)]
      refine V.if_ne hC d_Y_slot_200 (tgt := 226) (by decide) (fun hc => ?_) (fun hc => ?_)
      · rw [if_neg hc] at hf
        exact V.less (tv_le_some (tv_le_some (tv_le_none tv_le_nil))) (c_Y_slot_L226 hC hr hE hrc σ l1  hf)
      · rw [if_pos hc] at hf
        refine V.blk hC [(.aload_n 0, 1)] 203 [some (.ref 130), some (.int l1), none] [] ⟨d_Y_slot_203, trivial⟩ (show tv_run _ _ _ _ = some (204, [some (.ref 130), some (.int l1), none], [.ref 130]) from rfl) ?_
        refine V.getf hC tf_Y_128 (kd_in kd_130 (by decide)) (hp_at kd_130) rfl d_Y_slot_204 ?_
        show V X 0 0 tm_n (hp σ) 207 [some (.ref 130), some (.int l1), none] [.ref 170]
        refine V.blk hC [(.iload_n 1, 1)] 207 [some (.ref 130), some (.int l1), none] [.ref 170] ⟨d_Y_slot_207, trivial⟩ (show tv_run _ _ _ _ = some (208, [some (.ref 130), some (.int l1), none], [.int l1, .ref 170]) from rfl) ?_
        obtain ⟨hb20, hf⟩ := tm_if hf
        refine V.zald hC (kd_in kd_170 (by decide)) (hp_at kd_170) rfl hb20 d_Y_slot_208 ?_
        show V X 0 0 tm_n (hp σ) 209 [some (.ref 130), some (.int l1), none] [.int (σ.1 170 l1.toNatClampNeg)]
        refine V.if_eq hC d_Y_slot_209 (tgt := 226) (by decide) (fun hc => ?_) (fun hc => ?_)
        · rw [if_pos hc] at hf
          exact V.less (tv_le_some (tv_le_some (tv_le_none tv_le_nil))) (c_Y_slot_L226 hC hr hE hrc σ l1  hf)
        · rw [if_neg hc] at hf
          refine V.blk hC [(.aload_n 0, 1)] 212 [some (.ref 130), some (.int l1), none] [] ⟨d_Y_slot_212, trivial⟩ (show tv_run _ _ _ _ = some (213, [some (.ref 130), some (.int l1), none], [.ref 130]) from rfl) ?_
          refine V.getf hC tf_Y_131 (kd_in kd_130 (by decide)) (hp_at kd_130) rfl d_Y_slot_213 ?_
          show V X 0 0 tm_n (hp σ) 216 [some (.ref 130), some (.int l1), none] [.ref 171]
          refine V.blk hC [(.iload_n 1, 1)] 216 [some (.ref 130), some (.int l1), none] [.ref 171] ⟨d_Y_slot_216, trivial⟩ (show tv_run _ _ _ _ = some (217, [some (.ref 130), some (.int l1), none], [.int l1, .ref 171]) from rfl) ?_
          obtain ⟨hb21, hf⟩ := tm_if hf
          refine V.zald hC (kd_in kd_171 (by decide)) (hp_at kd_171) rfl hb21 d_Y_slot_217 ?_
          show V X 0 0 tm_n (hp σ) 218 [some (.ref 130), some (.int l1), none] [.int (σ.1 171 l1.toNatClampNeg)]
          refine V.if_ne hC d_Y_slot_218 (tgt := 226) (by decide) (fun hc => ?_) (fun hc => ?_)
          · rw [if_neg hc] at hf
            exact V.less (tv_le_some (tv_le_some (tv_le_none tv_le_nil))) (c_Y_slot_L226 hC hr hE hrc σ l1  hf)
          · rw [if_pos hc] at hf
            refine V.blk hC [(.aload_n 0, 1), (.iload_n 1, 1)] 221 [some (.ref 130), some (.int l1), none] [] ⟨d_Y_slot_221, d_Y_slot_222, trivial⟩ (show tv_run _ _ _ _ = some (223, [some (.ref 130), some (.int l1), none], [.int l1, .ref 130]) from rfl) ?_
            obtain ⟨q22, hq22, hf⟩ := tm_bd hf
            refine V.callV hC tm_nest rfl (c_Y_unheard σ l1  hq22) (tm_gd tc_Y_unheard) tg_Y_235 th_Y_unheard ⟨tm_le rfl, tm_le rfl, tm_le rfl, tm_le rfl⟩ rfl (kd_in kd_130 (by decide)) (hp_at kd_130) (As := [.int l1]) (st := []) rfl (tm_le rfl) d_Y_slot_223 ?_
            rintro v n2 h2 ⟨rfl, rfl, rfl⟩
            show V X 0 0 tm_n (hp q22) 226 [some (.ref 130), some (.int l1), none] []
            exact V.less (tv_le_some (tv_le_some (tv_le_none tv_le_nil))) (c_Y_slot_L226 hC hr hE hrc q22 l1  hf)
