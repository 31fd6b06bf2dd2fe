set_option maxHeartbeats 4000000 in
set_option maxRecDepth 100000 in
theorem c_X_isNode_L14 {X : tv_X} {r : Int32 × tm_S} (hC : tv_K X tb_X_isNode 1 "TrickleMesh" tm_wg tm_ns tm_cl tm_ty { frames := 0, cells := 0, slots := 0, locals := 0 }) (hr : tv_ret X (some .boolean)) (hE : tv_end X (tm_P (some (.int r.1)) r.2) 0 0) (σ : tm_S)   (hf : f_X_isNode_L14 σ  = some r) : V X 0 0 tm_n (hp σ) 14 [none] [] := by
  unfold f_X_isNode_L14 at hf
  refine V.blk hC [(.iconst 0, 1)] 14 [none] [] ⟨d_X_isNode_14, trivial⟩ (show tv_run _ _ _ _ = some (15, [none], [.int (0 : Int32)]) from rfl) ?_
  obtain rfl := Option.some.inj hf
  exact V.zret hC hr hE (tm_nz (by decide)) d_X_isNode_15 ⟨rfl, rfl, rfl⟩
set_option maxHeartbeats 4000000 in
set_option maxRecDepth 100000 in
theorem c_X_isNode (σ : tm_S) (a0 : Int32)  {r : Int32 × tm_S} (hf : f_X_isNode σ a0 = some r) : tv_Met ty_X_isNode (Cond.code ty_X_isNode tb_X_isNode 1 (some .boolean) :: tm_wg) tm_ns tm_cl tm_ty 0 0 0 0 [.int a0] tm_n (hp σ) (tm_P (some (.int r.1)) r.2) := by
  refine tv_Met.of (by decide) rfl (tm_le rfl) ?_
  intro X hC hnm hr hE
  have hC : tv_K X tb_X_isNode 1 "TrickleMesh" tm_wg tm_ns tm_cl tm_ty { frames := 0, cells := 0, slots := 0, locals := 0 } := hC
  show V X 0 0 tm_n (hp σ) 0 [some (.int a0)] []
  unfold f_X_isNode at hf
  refine V.blk hC [(.iload_n 0, 1)] 0 [some (.int a0)] [] ⟨d_X_isNode_0, trivial⟩ (show tv_run _ _ _ _ = some (1, [some (.int a0)], [.int a0]) from rfl) ?_
  refine V.if_lt hC d_X_isNode_1 (tgt := 14) (by decide) (fun hc => ?_) (fun hc => ?_)
  · rw [if_pos hc] at hf
    exact V.less (tv_le_none tv_le_nil) (c_X_isNode_L14 hC hr hE σ   hf)
  · rw [if_neg hc] at hf
    refine V.blk hC [(.iload_n 0, 1), (.bipush 7, 2)] 4 [some (.int a0)] [] ⟨d_X_isNode_4, d_X_isNode_5, trivial⟩ (show tv_run _ _ _ _ = some (7, [some (.int a0)], [.int (7 : Int32), .int a0]) from rfl) ?_
    refine V.icmp_ge hC d_X_isNode_7 (tgt := 14) (by decide) (fun hc => ?_) (fun hc => ?_)
    · rw [if_pos hc] at hf
      exact V.less (tv_le_none tv_le_nil) (c_X_isNode_L14 hC hr hE σ   hf)
    · rw [if_neg hc] at hf
      refine V.blk hC [(.iconst 1, 1)] 10 [some (.int a0)] [] ⟨d_X_isNode_10, trivial⟩ (show tv_run _ _ _ _ = some (11, [some (.int a0)], [.int (1 : Int32)]) from rfl) ?_
      refine V.goto hC d_X_isNode_11 (tgt := 15) (by decide) ?_
      obtain rfl := Option.some.inj hf
      exact V.zret hC hr hE (tm_nz (by decide)) d_X_isNode_15 ⟨rfl, rfl, rfl⟩
set_option maxHeartbeats 4000000 in
set_option maxRecDepth 100000 in
theorem c_X_link_L29 {X : tv_X} {r : Int32 × tm_S} (hC : tv_K X tb_X_link 4 "TrickleMesh" tm_wg tm_ns tm_cl tm_ty { frames := 1, cells := 0, slots := 0, locals := 20 }) (hr : tv_ret X (some .boolean)) (hE : tv_end X (tm_P (some (.int r.1)) r.2) 0 0) (σ : tm_S)   (hf : f_X_link_L29 σ  = some r) : V X 0 0 tm_n (hp σ) 29 [some (.ref 1), none, none, none] [] := by
  unfold f_X_link_L29 at hf
  refine V.blk hC [(.iconst 0, 1)] 29 [some (.ref 1), none, none, none] [] ⟨d_X_link_29, trivial⟩ (show tv_run _ _ _ _ = some (30, [some (.ref 1), none, none, none], [.int (0 : Int32)]) from rfl) ?_
  obtain rfl := Option.some.inj hf
  exact V.zret hC hr hE (tm_nz (by decide)) d_X_link_30 ⟨rfl, rfl, rfl⟩
set_option maxHeartbeats 4000000 in
set_option maxRecDepth 100000 in
theorem c_X_link (σ : tm_S) (a1 : Int32) (a2 : Int32) (a3 : Int32)  {r : Int32 × tm_S} (hf : f_X_link σ a1 a2 a3 = some r) : tv_Met ty_X_link (Cond.code ty_X_link tb_X_link 4 (some .boolean) :: tm_wg) tm_ns tm_cl tm_ty 1 20 0 0 [.ref 1, .int a1, .int a2, .int a3] tm_n (hp σ) (tm_P (some (.int r.1)) r.2) := by
  refine tv_Met.of (by decide) rfl (tm_le rfl) ?_
  intro X hC hnm hr hE
  have hC : tv_K X tb_X_link 4 "TrickleMesh" tm_wg tm_ns tm_cl tm_ty { frames := 1, cells := 0, slots := 0, locals := 20 } := hC
  show V X 0 0 tm_n (hp σ) 0 [some (.ref 1), some (.int a1), some (.int a2), some (.int a3)] []
  unfold f_X_link at hf
  refine V.blk hC [(.iload_n 1, 1)] 0 [some (.ref 1), some (.int a1), some (.int a2), some (.int a3)] [] ⟨d_X_link_0, trivial⟩ (show tv_run _ _ _ _ = some (1, [some (.ref 1), some (.int a1), some (.int a2), some (.int a3)], [.int a1]) from rfl) ?_
  obtain ⟨q1, hq1, hf⟩ := tm_bd hf
  refine V.callS hC tm_nest rfl (c_X_isNode σ a1  hq1) (tm_gd tc_X_isNode) tg_X_62 th_X_isNode ⟨tm_le rfl, tm_le rfl, tm_le rfl, tm_le rfl⟩ (As := [.int a1]) (st := []) rfl (tm_le rfl) d_X_link_1 ?_
  rintro v n2 h2 ⟨rfl, rfl, rfl⟩
  show V X 0 0 tm_n (hp q1.2) 4 [some (.ref 1), some (.int a1), some (.int a2), some (.int a3)] [.int q1.1]
  refine V.if_eq hC d_X_link_4 (tgt := 29) (by decide) (fun hc => ?_) (fun hc => ?_)
  · rw [if_pos hc] at hf
    exact V.less (tv_le_some (tv_le_none (tv_le_none (tv_le_none tv_le_nil)))) (c_X_link_L29 hC hr hE q1.2   hf)
  · rw [if_neg hc] at hf
    refine V.blk hC [(.iload_n 2, 1)] 7 [some (.ref 1), some (.int a1), some (.int a2), some (.int a3)] [] ⟨d_X_link_7, trivial⟩ (show tv_run _ _ _ _ = some (8, [some (.ref 1), some (.int a1), some (.int a2), some (.int a3)], [.int a2]) from rfl) ?_
    obtain ⟨q2, hq2, hf⟩ := tm_bd hf
    refine V.callS hC tm_nest rfl (c_X_isNode q1.2 a2  hq2) (tm_gd tc_X_isNode) tg_X_62 th_X_isNode ⟨tm_le rfl, tm_le rfl, tm_le rfl, tm_le rfl⟩ (As := [.int a2]) (st := []) rfl (tm_le rfl) d_X_link_8 ?_
    rintro v n2 h2 ⟨rfl, rfl, rfl⟩
    show V X 0 0 tm_n (hp q2.2) 11 [some (.ref 1), some (.int a1), some (.int a2), some (.int a3)] [.int q2.1]
    refine V.if_eq hC d_X_link_11 (tgt := 29) (by decide) (fun hc => ?_) (fun hc => ?_)
    · rw [if_pos hc] at hf
      exact V.less (tv_le_some (tv_le_none (tv_le_none (tv_le_none tv_le_nil)))) (c_X_link_L29 hC hr hE q2.2   hf)
    · rw [if_neg hc] at hf
      refine V.blk hC [(.iload_n 1, 1), (.iload_n 2, 1)] 14 [some (.ref 1), some (.int a1), some (.int a2), some (.int a3)] [] ⟨d_X_link_14, d_X_link_15, trivial⟩ (show tv_run _ _ _ _ = some (16, [some (.ref 1), some (.int a1), some (.int a2), some (.int a3)], [.int a2, .int a1]) from rfl) ?_
      refine V.icmp_eq hC d_X_link_16 (tgt := 29) (by decide) (fun hc => ?_) (fun hc => ?_)
      · rw [if_pos hc] at hf
        exact V.less (tv_le_some (tv_le_none (tv_le_none (tv_le_none tv_le_nil)))) (c_X_link_L29 hC hr hE q2.2   hf)
      · rw [if_neg hc] at hf
        refine V.blk hC [(.iload_n 3, 1)] 19 [some (.ref 1), some (.int a1), some (.int a2), some (.int a3)] [] ⟨d_X_link_19, trivial⟩ (show tv_run _ _ _ _ = some (20, [some (.ref 1), some (.int a1), some (.int a2), some (.int a3)], [.int a3]) from rfl) ?_
        refine V.if_lt hC d_X_link_20 (tgt := 29) (by decide) (fun hc => ?_) (fun hc => ?_)
        · rw [if_pos hc] at hf
          exact V.less (tv_le_some (tv_le_none (tv_le_none (tv_le_none tv_le_nil)))) (c_X_link_L29 hC hr hE q2.2   hf)
        · rw [if_neg hc] at hf
          refine V.blk hC [(.iload_n 3, 1), (.bipush 9, 2)] 23 [some (.ref 1), some (.int a1), some (.int a2), some (.int a3)] [] ⟨d_X_link_23, d_X_link_24, trivial⟩ (show tv_run _ _ _ _ = some (26, [some (.ref 1), some (.int a1), some (.int a2), some (.int a3)], [.int (9 : Int32), .int a3]) from rfl) ?_
          refine V.icmp_le hC d_X_link_26 (tgt := 31) (by decide) (fun hc => ?_) (fun hc => ?_)
          · rw [if_pos hc] at hf
            refine V.blk hC [(.aload_n 0, 1)] 31 [some (.ref 1), some (.int a1), some (.int a2), some (.int a3)] [] ⟨d_X_link_31, trivial⟩ (show tv_run _ _ _ _ = some (32, [some (.ref 1), some (.int a1), some (.int a2), some (.int a3)], [.ref 1]) from rfl) ?_
            refine V.getf hC tf_X_17 (kd_in kd_1 (by decide)) (hp_at kd_1) rfl d_X_link_32 ?_
            show V X 0 0 tm_n (hp q2.2) 35 [some (.ref 1), some (.int a1), some (.int a2), some (.int a3)] [.ref 3]
            refine V.blk hC [(.iload_n 1, 1)] 35 [some (.ref 1), some (.int a1), some (.int a2), some (.int a3)] [.ref 3] ⟨d_X_link_35, trivial⟩ (show tv_run _ _ _ _ = some (36, [some (.ref 1), some (.int a1), some (.int a2), some (.int a3)], [.int a1, .ref 3]) from rfl) ?_
            obtain ⟨hb3, hf⟩ := tm_if hf
            refine V.aald hC (kd_in kd_3 (by decide)) (hp_at kd_3) rfl rfl hb3 d_X_link_36 ?_
            show V X 0 0 tm_n (hp q2.2) 37 [some (.ref 1), some (.int a1), some (.int a2), some (.int a3)] [.ref (4 + a1.toNatClampNeg)]
            refine V.blk hC [(.iload_n 2, 1), (.iload_n 3, 1)] 37 [some (.ref 1), some (.int a1), some (.int a2), some (.int a3)] [.ref (4 + a1.toNatClampNeg)] ⟨d_X_link_37, d_X_link_38, trivial⟩ (show tv_run _ _ _ _ = some (39, [some (.ref 1), some (.int a1), some (.int a2), some (.int a3)], [.int a3, .int a2, .ref (4 + a1.toNatClampNeg)]) from rfl) ?_
            obtain ⟨hb4, hf⟩ := tm_if hf
            obtain ⟨σ5, hσ5, hf⟩ := tm_ww hf
            refine V.seta hC (kd_costs hb3) (kd_in (kd_costs hb3) (by decide)) rfl rfl rfl hb4 d_X_link_39 ?_
            rw [← hσ5]
            refine V.blk hC [(.aload_n 0, 1)] 40 [some (.ref 1), some (.int a1), some (.int a2), some (.int a3)] [] ⟨d_X_link_40, trivial⟩ (show tv_run _ _ _ _ = some (41, [some (.ref 1), some (.int a1), some (.int a2), some (.int a3)], [.ref 1]) from rfl) ?_
            refine V.getf hC tf_X_17 (kd_in kd_1 (by decide)) (hp_at kd_1) rfl d_X_link_41 ?_
            show V X 0 0 tm_n (hp σ5) 44 [some (.ref 1), some (.int a1), some (.int a2), some (.int a3)] [.ref 3]
            refine V.blk hC [(.iload_n 2, 1)] 44 [some (.ref 1), some (.int a1), some (.int a2), some (.int a3)] [.ref 3] ⟨d_X_link_44, trivial⟩ (show tv_run _ _ _ _ = some (45, [some (.ref 1), some (.int a1), some (.int a2), some (.int a3)], [.int a2, .ref 3]) from rfl) ?_
            obtain ⟨hb6, hf⟩ := tm_if hf
            refine V.aald hC (kd_in kd_3 (by decide)) (hp_at kd_3) rfl rfl hb6 d_X_link_45 ?_
            show V X 0 0 tm_n (hp σ5) 46 [some (.ref 1), some (.int a1), some (.int a2), some (.int a3)] [.ref (4 + a2.toNatClampNeg)]
            refine V.blk hC [(.iload_n 1, 1), (.iload_n 3, 1)] 46 [some (.ref 1), some (.int a1), some (.int a2), some (.int a3)] [.ref (4 + a2.toNatClampNeg)] ⟨d_X_link_46, d_X_link_47, trivial⟩ (show tv_run _ _ _ _ = some (48, [some (.ref 1), some (.int a1), some (.int a2), some (.int a3)], [.int a3, .int a1, .ref (4 + a2.toNatClampNeg)]) from rfl) ?_
            obtain ⟨hb7, hf⟩ := tm_if hf
            obtain ⟨σ8, hσ8, hf⟩ := tm_ww hf
            refine V.seta hC (kd_costs hb6) (kd_in (kd_costs hb6) (by decide)) rfl rfl rfl hb7 d_X_link_48 ?_
            rw [← hσ8]
            refine V.blk hC [(.iconst 1, 1)] 49 [some (.ref 1), some (.int a1), some (.int a2), some (.int a3)] [] ⟨d_X_link_49, trivial⟩ (show tv_run _ _ _ _ = some (50, [some (.ref 1), some (.int a1), some (.int a2), some (.int a3)], [.int (1 : Int32)]) from rfl) ?_
            obtain rfl := Option.some.inj hf
            exact V.zret hC hr hE (tm_nz (by decide)) d_X_link_50 ⟨rfl, rfl, rfl⟩
          · rw [if_neg hc] at hf
            exact V.less (tv_le_some (tv_le_none (tv_le_none (tv_le_none tv_le_nil)))) (c_X_link_L29 hC hr hE q2.2   hf)
set_option maxHeartbeats 4000000 in
set_option maxRecDepth 100000 in
theorem c_X_kill_L23 {X : tv_X} {r : Int32 × tm_S} (hC : tv_K X tb_X_kill 3 "TrickleMesh" tm_wg tm_ns tm_cl tm_ty { frames := 1, cells := 0, slots := 0, locals := 20 }) (hr : tv_ret X (some .boolean)) (hE : tv_end X (tm_P (some (.int r.1)) r.2) 0 0) (σ : tm_S)   (hf : f_X_kill_L23 σ  = some r) : V X 0 0 tm_n (hp σ) 23 [some (.ref 1), none, none] [] := by
  unfold f_X_kill_L23 at hf
  refine V.blk hC [(.iconst 0, 1)] 23 [some (.ref 1), none, none] [] ⟨d_X_kill_23, trivial⟩ (show tv_run _ _ _ _ = some (24, [some (.ref 1), none, none], [.int (0 : Int32)]) from rfl) ?_
  obtain rfl := Option.some.inj hf
  exact V.zret hC hr hE (tm_nz (by decide)) d_X_kill_24 ⟨rfl, rfl, rfl⟩
set_option maxHeartbeats 4000000 in
set_option maxRecDepth 100000 in
theorem c_X_kill (σ : tm_S) (a1 : Int32)  {r : Int32 × tm_S} (hf : f_X_kill σ a1 = some r) : tv_Met ty_X_kill (Cond.code ty_X_kill tb_X_kill 3 (some .boolean) :: tm_wg) tm_ns tm_cl tm_ty 1 20 0 0 [.ref 1, .int a1] tm_n (hp σ) (tm_P (some (.int r.1)) r.2) := by
  refine tv_Met.of (by decide) rfl (tm_le rfl) ?_
  intro X hC hnm hr hE
  have hC : tv_K X tb_X_kill 3 "TrickleMesh" tm_wg tm_ns tm_cl tm_ty { frames := 1, cells := 0, slots := 0, locals := 20 } := hC
  show V X 0 0 tm_n (hp σ) 0 [some (.ref 1), some (.int a1), none] []
  unfold f_X_kill at hf
  refine V.blk hC [(.iload_n 1, 1)] 0 [some (.ref 1), some (.int a1), none] [] ⟨d_X_kill_0, trivial⟩ (show tv_run _ _ _ _ = some (1, [some (.ref 1), some (.int a1), none], [.int a1]) from rfl) ?_
  obtain ⟨q1, hq1, hf⟩ := tm_bd hf
  refine V.callS hC tm_nest rfl (c_X_isNode σ a1  hq1) (tm_gd tc_X_isNode) tg_X_62 th_X_isNode ⟨tm_le rfl, tm_le rfl, tm_le rfl, tm_le rfl⟩ (As := [.int a1]) (st := []) rfl (tm_le rfl) d_X_kill_1 ?_
  rintro v n2 h2 ⟨rfl, rfl, rfl⟩
  show V X 0 0 tm_n (hp q1.2) 4 [some (.ref 1), some (.int a1), none] [.int q1.1]
  refine V.if_eq hC d_X_kill_4 (tgt := 23) (by decide) (fun hc => ?_) (fun hc => ?_)
  · rw [if_pos hc] at hf
    exact V.less (tv_le_some (tv_le_none (tv_le_none tv_le_nil))) (c_X_kill_L23 hC hr hE q1.2   hf)
  · rw [if_neg hc] at hf
    refine V.blk hC [(.iload_n 1, 1)] 7 [some (.ref 1), some (.int a1), none] [] ⟨d_X_kill_7, trivial⟩ (show tv_run _ _ _ _ = some (8, [some (.ref 1), some (.int a1), none], [.int a1]) from rfl) ?_
    refine V.if_eq hC d_X_kill_8 (tgt := 23) (by decide) (fun hc => ?_) (fun hc => ?_)
    · rw [if_pos hc] at hf
      exact V.less (tv_le_some (tv_le_none (tv_le_none tv_le_nil))) (c_X_kill_L23 hC hr hE q1.2   hf)
    · rw [if_neg hc] at hf
      refine V.blk hC [(.aload_n 0, 1)] 11 [some (.ref 1), some (.int a1), none] [] ⟨d_X_kill_11, trivial⟩ (show tv_run _ _ _ _ = some (12, [some (.ref 1), some (.int a1), none], [.ref 1]) from rfl) ?_
      refine V.getf hC tf_X_11 (kd_in kd_1 (by decide)) (hp_at kd_1) rfl d_X_kill_12 ?_
      show V X 0 0 tm_n (hp q1.2) 15 [some (.ref 1), some (.int a1), none] [.ref 2]
      refine V.blk hC [(.iload_n 1, 1)] 15 [some (.ref 1), some (.int a1), none] [.ref 2] ⟨d_X_kill_15, trivial⟩ (show tv_run _ _ _ _ = some (16, [some (.ref 1), some (.int a1), none], [.int a1, .ref 2]) from rfl) ?_
      obtain ⟨hb2, hf⟩ := tm_if hf
      refine V.aald hC (kd_in kd_2 (by decide)) (hp_at kd_2) rfl rfl hb2 d_X_kill_16 ?_
      show V X 0 0 tm_n (hp q1.2) 17 [some (.ref 1), some (.int a1), none] [.ref (11 + 17 * a1.toNatClampNeg)]
      refine V.getf hC tf_X_66 (kd_in (kd_nodes hb2) (by decide)) (hp_at (kd_nodes hb2)) rfl d_X_kill_17 ?_
      show V X 0 0 tm_n (hp q1.2) 20 [some (.ref 1), some (.int a1), none] [.int (q1.2.1 (11 + 17 * a1.toNatClampNeg) 9)]
      refine V.if_ne hC d_X_kill_20 (tgt := 25) (by decide) (fun hc => ?_) (fun hc => ?_)
      · rw [if_neg hc] at hf
        refine V.blk hC [(.aload_n 0, 1)] 25 [some (.ref 1), some (.int a1), none] [] ⟨d_X_kill_25, trivial⟩ (show tv_run _ _ _ _ = some (26, [some (.ref 1), some (.int a1), none], [.ref 1]) from rfl) ?_
        refine V.getf hC tf_X_11 (kd_in kd_1 (by decide)) (hp_at kd_1) rfl d_X_kill_26 ?_
        show V X 0 0 tm_n (hp q1.2) 29 [some (.ref 1), some (.int a1), none] [.ref 2]
        refine V.blk hC [(.iload_n 1, 1)] 29 [some (.ref 1), some (.int a1), none] [.ref 2] ⟨d_X_kill_29, trivial⟩ (show tv_run _ _ _ _ = some (30, [some (.ref 1), some (.int a1), none], [.int a1, .ref 2]) from rfl) ?_
        obtain ⟨hb3, hf⟩ := tm_if hf
        refine V.aald hC (kd_in kd_2 (by decide)) (hp_at kd_2) rfl rfl hb3 d_X_kill_30 ?_
        show V X 0 0 tm_n (hp q1.2) 31 [some (.ref 1), some (.int a1), none] [.ref (11 + 17 * a1.toNatClampNeg)]
        refine V.blk hC [(.iconst 0, 1)] 31 [some (.ref 1), some (.int a1), none] [.ref (11 + 17 * a1.toNatClampNeg)] ⟨d_X_kill_31, trivial⟩ (show tv_run _ _ _ _ = some (32, [some (.ref 1), some (.int a1), none], [.int (0 : Int32), .ref (11 + 17 * a1.toNatClampNeg)]) from rfl) ?_
        obtain ⟨σ4, hσ4, hf⟩ := tm_ww hf
        refine V.seti hC tf_X_66 tt_N to_N tn_N rfl (by decide +kernel) (tm_fz (by decide)) (kd_nodes hb3) (kd_in (kd_nodes hb3) (by decide)) rfl rfl (tm_le rfl) d_X_kill_32 ?_
        rw [← hσ4]
        refine V.blk hC [(.aload_n 0, 1)] 35 [some (.ref 1), some (.int a1), none] [] ⟨d_X_kill_35, trivial⟩ (show tv_run _ _ _ _ = some (36, [some (.ref 1), some (.int a1), none], [.ref 1]) from rfl) ?_
        refine V.getf hC tf_X_11 (kd_in kd_1 (by decide)) (hp_at kd_1) rfl d_X_kill_36 ?_
        show V X 0 0 tm_n (hp σ4) 39 [some (.ref 1), some (.int a1), none] [.ref 2]
        refine V.blk hC [(.iload_n 1, 1)] 39 [some (.ref 1), some (.int a1), none] [.ref 2] ⟨d_X_kill_39, trivial⟩ (show tv_run _ _ _ _ = some (40, [some (.ref 1), some (.int a1), none], [.int a1, .ref 2]) from rfl) ?_
        obtain ⟨hb5, hf⟩ := tm_if hf
        refine V.aald hC (kd_in kd_2 (by decide)) (hp_at kd_2) rfl rfl hb5 d_X_kill_40 ?_
        show V X 0 0 tm_n (hp σ4) 41 [some (.ref 1), some (.int a1), none] [.ref (11 + 17 * a1.toNatClampNeg)]
        refine V.getf hC tf_X_69 (kd_in (kd_nodes hb5) (by decide)) (hp_at (kd_nodes hb5)) rfl d_X_kill_41 ?_
        show V X 0 0 tm_n (hp σ4) 44 [some (.ref 1), some (.int a1), none] [.ref ((11 + 17 * a1.toNatClampNeg) + 1)]
        refine V.blk hC [(.astore_n 2, 1), (.aload_n 2, 1), (.iconst 0, 1)] 44 [some (.ref 1), some (.int a1), none] [.ref ((11 + 17 * a1.toNatClampNeg) + 1)] ⟨d_X_kill_44, d_X_kill_45, d_X_kill_46, trivial⟩ (show tv_run _ _ _ _ = some (47, [some (.ref 1), some (.int a1), some (.ref ((11 + 17 * a1.toNatClampNeg) + 1))], [.int (0 : Int32), .ref ((11 + 17 * a1.toNatClampNeg) + 1)]) from rfl) ?_
        obtain ⟨σ6, hσ6, hf⟩ := tm_ww hf
        refine V.seti hC tf_X_73 tt_R to_R tn_R rfl (by decide +kernel) tm_fi (kd_5_6 (kd_nodes hb5)) (kd_in (kd_5_6 (kd_nodes hb5)) (by decide)) rfl rfl (tm_le rfl) d_X_kill_47 ?_
        rw [← hσ6]
        refine V.blk hC [(.aload_n 2, 1), (.iconst (-1), 1)] 50 [some (.ref 1), some (.int a1), some (.ref ((11 + 17 * a1.toNatClampNeg) + 1))] [] ⟨d_X_kill_50, d_X_kill_51, trivial⟩ (show tv_run _ _ _ _ = some (52, [some (.ref 1), some (.int a1), some (.ref ((11 + 17 * a1.toNatClampNeg) + 1))], [.int (-1 : Int32), .ref ((11 + 17 * a1.toNatClampNeg) + 1)]) from rfl) ?_
        obtain ⟨σ7, hσ7, hf⟩ := tm_ww hf
        refine V.seti hC tf_X_78 tt_R to_R tn_R rfl (by decide +kernel) tm_fi (kd_5_6 (kd_nodes hb5)) (kd_in (kd_5_6 (kd_nodes hb5)) (by decide)) rfl rfl (tm_le rfl) d_X_kill_52 ?_
        rw [← hσ7]
        refine V.blk hC [(.aload_n 2, 1), (.iconst 0, 1)] 55 [some (.ref 1), some (.int a1), some (.ref ((11 + 17 * a1.toNatClampNeg) + 1))] [] ⟨d_X_kill_55, d_X_kill_56, trivial⟩ (show tv_run _ _ _ _ = some (57, [some (.ref 1), some (.int a1), some (.ref ((11 + 17 * a1.toNatClampNeg) + 1))], [.int (0 : Int32), .ref ((11 + 17 * a1.toNatClampNeg) + 1)]) from rfl) ?_
        obtain ⟨σ8, hσ8, hf⟩ := tm_ww hf
        refine V.seti hC tf_X_81 tt_R to_R tn_R rfl (by decide +kernel) (tm_fz (by decide)) (kd_5_6 (kd_nodes hb5)) (kd_in (kd_5_6 (kd_nodes hb5)) (by decide)) rfl rfl (tm_le rfl) d_X_kill_57 ?_
        rw [← hσ8]
        refine V.blk hC [(.iconst 1, 1)] 60 [some (.ref 1), some (.int a1), some (.ref ((11 + 17 * a1.toNatClampNeg) + 1))] [] ⟨d_X_kill_60, trivial⟩ (show tv_run _ _ _ _ = some (61, [some (.ref 1), some (.int a1), some (.ref ((11 + 17 * a1.toNatClampNeg) + 1))], [.int (1 : Int32)]) from rfl) ?_
        obtain rfl := Option.some.inj hf
        exact V.zret hC hr hE (tm_nz (by decide)) d_X_kill_61 ⟨rfl, rfl, rfl⟩
      · rw [if_pos hc] at hf
        exact V.less (tv_le_some (tv_le_none (tv_le_none tv_le_nil))) (c_X_kill_L23 hC hr hE q1.2   hf)
set_option maxHeartbeats 4000000 in
set_option maxRecDepth 100000 in
theorem c_X_draw (σ : tm_S) (a1 : Int32)  {r : Int32 × tm_S} (hf : f_X_draw σ a1 = some r) : tv_Met ty_X_draw (Cond.code ty_X_draw tb_X_draw 2 (some .int) :: tm_wg) tm_ns tm_cl tm_ty 0 0 0 0 [.ref 1, .int a1] tm_n (hp σ) (tm_P (some (.int r.1)) r.2) := by
  refine tv_Met.of (by decide) rfl (tm_le rfl) ?_
  intro X hC hnm hr hE
  have hC : tv_K X tb_X_draw 2 "TrickleMesh" tm_wg tm_ns tm_cl tm_ty { frames := 0, cells := 0, slots := 0, locals := 0 } := hC
  show V X 0 0 tm_n (hp σ) 0 [some (.ref 1), some (.int a1)] []
  unfold f_X_draw at hf
  refine V.blk hC [(.aload_n 0, 1), (.aload_n 0, 1)] 0 [some (.ref 1), some (.int a1)] [] ⟨d_X_draw_0, d_X_draw_1, trivial⟩ (show tv_run _ _ _ _ = some (2, [some (.ref 1), some (.int a1)], [.ref 1, .ref 1]) from rfl) ?_
  refine V.getf hC tf_X_20 (kd_in kd_1 (by decide)) (hp_at kd_1) rfl d_X_draw_2 ?_
  show V X 0 0 tm_n (hp σ) 5 [some (.ref 1), some (.int a1)] [.int (σ.1 1 4), .ref 1]
  refine V.ldc hC tk_X_168 d_X_draw_5 ?_
  refine V.blk hC [(.imul, 1), (.sipush 12345, 3), (.iadd, 1)] 7 [some (.ref 1), some (.int a1)] [.int (1103515245 : Int32), .int (σ.1 1 4), .ref 1] ⟨d_X_draw_7, d_X_draw_8, d_X_draw_11, trivial⟩ (show tv_run _ _ _ _ = some (12, [some (.ref 1), some (.int a1)], [.int (((σ.1 1 4) * (1103515245 : Int32)) + (12345 : Int32)), .ref 1]) from rfl) ?_
  obtain ⟨σ1, hσ1, hf⟩ := tm_ww hf
  refine V.seti hC tf_X_20 tt_X to_X tn_X rfl (by decide +kernel) tm_fi kd_1 (kd_in kd_1 (by decide)) rfl rfl (tm_le rfl) d_X_draw_12 ?_
  rw [← hσ1]
  refine V.blk hC [(.iload_n 1, 1)] 15 [some (.ref 1), some (.int a1)] [] ⟨d_X_draw_15, trivial⟩ (show tv_run _ _ _ _ = some (16, [some (.ref 1), some (.int a1)], [.int a1]) from rfl) ?_
  refine V.if_le hC d_X_draw_16 (tgt := 31) (by decide) (fun hc => ?_) (fun hc => ?_)
  · rw [if_pos hc] at hf
    refine V.blk hC [(.iconst 0, 1)] 31 [some (.ref 1), some (.int a1)] [] ⟨d_X_draw_31, trivial⟩ (show tv_run _ _ _ _ = some (32, [some (.ref 1), some (.int a1)], [.int (0 : Int32)]) from rfl) ?_
    obtain rfl := Option.some.inj hf
    exact V.iret hC hr hE d_X_draw_32 ⟨rfl, rfl, rfl⟩
  · rw [if_neg hc] at hf
    refine V.blk hC [(.aload_n 0, 1)] 19 [some (.ref 1), some (.int a1)] [] ⟨d_X_draw_19, trivial⟩ (show tv_run _ _ _ _ = some (20, [some (.ref 1), some (.int a1)], [.ref 1]) from rfl) ?_
    refine V.getf hC tf_X_20 (kd_in kd_1 (by decide)) (hp_at kd_1) rfl d_X_draw_20 ?_
    show V X 0 0 tm_n (hp σ1) 23 [some (.ref 1), some (.int a1)] [.int (σ1.1 1 4)]
    refine V.blk hC [(.bipush 16, 2), (.iushr, 1), (.iload_n 1, 1)] 23 [some (.ref 1), some (.int a1)] [.int (σ1.1 1 4)] ⟨d_X_draw_23, d_X_draw_25, d_X_draw_26, trivial⟩ (show tv_run _ _ _ _ = some (27, [some (.ref 1), some (.int a1)], [.int a1, .int (((σ1.1 1 4).toUInt32 >>> ((16 : Int32).toUInt32 &&& Int32.toUInt32 31)).toInt32)]) from rfl) ?_
    obtain ⟨hn2, hf⟩ := tm_if hf
    refine V.irem hC d_X_draw_27 hn2 ?_
    refine V.goto hC d_X_draw_28 (tgt := 32) (by decide) ?_
    obtain rfl := Option.some.inj hf
    exact V.iret hC hr hE d_X_draw_32 ⟨rfl, rfl, rfl⟩
set_option maxHeartbeats 4000000 in
set_option maxRecDepth 100000 in
theorem c_X_beginInterval (σ : tm_S) (a1 : Nat) (a2 : Int32) (k1 : kd a1 = 9) {r : tm_S} (hf : f_X_beginInterval σ a1 a2 = some r) : tv_Met ty_X_beginInterval (Cond.code ty_X_beginInterval tb_X_beginInterval 4 none :: tm_wg) tm_ns tm_cl tm_ty 1 21 0 0 [.ref 1, .ref a1, .int a2] tm_n (hp σ) (tm_P none r) := by
  refine tv_Met.of (by decide) rfl (tm_le rfl) ?_
  intro X hC hnm hr hE
  have hC : tv_K X tb_X_beginInterval 4 "TrickleMesh" tm_wg tm_ns tm_cl tm_ty { frames := 1, cells := 0, slots := 0, locals := 21 } := hC
  show V X 0 0 tm_n (hp σ) 0 [some (.ref 1), some (.ref a1), some (.int a2), none] []
  unfold f_X_beginInterval at hf
  refine V.blk hC [(.iload_n 2, 1), (.iconst 2, 1)] 0 [some (.ref 1), some (.ref a1), some (.int a2), none] [] ⟨d_X_beginInterval_0, d_X_beginInterval_1, trivial⟩ (show tv_run _ _ _ _ = some (2, [some (.ref 1), some (.ref a1), some (.int a2), none], [.int (2 : Int32), .int a2]) from rfl) ?_
  refine V.idiv hC d_X_beginInterval_2 (by decide) ?_
  refine V.blk hC [(.istore_n 3, 1), (.aload_n 1, 1), (.iload_n 2, 1)] 3 [some (.ref 1), some (.ref a1), some (.int a2), none] [.int (a2 / (2 : Int32))] ⟨d_X_beginInterval_3, d_X_beginInterval_4, d_X_beginInterval_5, trivial⟩ (show tv_run _ _ _ _ = some (6, [some (.ref 1), some (.ref a1), some (.int a2), some (.int (a2 / (2 : Int32)))], [.int a2, .ref a1]) from rfl) ?_
  obtain ⟨σ1, hσ1, hf⟩ := tm_ww hf
  refine V.seti hC tf_X_118 tt_T to_T tn_T rfl (by decide +kernel) tm_fi k1 (kd_in k1 (by decide)) rfl rfl (tm_le rfl) d_X_beginInterval_6 ?_
  rw [← hσ1]
  refine V.blk hC [(.aload_n 1, 1), (.iconst 0, 1)] 9 [some (.ref 1), some (.ref a1), some (.int a2), some (.int (a2 / (2 : Int32)))] [] ⟨d_X_beginInterval_9, d_X_beginInterval_10, trivial⟩ (show tv_run _ _ _ _ = some (11, [some (.ref 1), some (.ref a1), some (.int a2), some (.int (a2 / (2 : Int32)))], [.int (0 : Int32), .ref a1]) from rfl) ?_
  obtain ⟨σ2, hσ2, hf⟩ := tm_ww hf
  refine V.seti hC tf_X_121 tt_T to_T tn_T rfl (by decide +kernel) tm_fi k1 (kd_in k1 (by decide)) rfl rfl (tm_le rfl) d_X_beginInterval_11 ?_
  rw [← hσ2]
  refine V.blk hC [(.aload_n 1, 1), (.iconst 0, 1)] 14 [some (.ref 1), some (.ref a1), some (.int a2), some (.int (a2 / (2 : Int32)))] [] ⟨d_X_beginInterval_14, d_X_beginInterval_15, trivial⟩ (show tv_run _ _ _ _ = some (16, [some (.ref 1), some (.ref a1), some (.int a2), some (.int (a2 / (2 : Int32)))], [.int (0 : Int32), .ref a1]) from rfl) ?_
  obtain ⟨σ3, hσ3, hf⟩ := tm_ww hf
  refine V.seti hC tf_X_124 tt_T to_T tn_T rfl (by decide +kernel) tm_fi k1 (kd_in k1 (by decide)) rfl rfl (tm_le rfl) d_X_beginInterval_16 ?_
  rw [← hσ3]
  refine V.blk hC [(.aload_n 1, 1), (.iload_n 3, 1), (.aload_n 0, 1), (.iload_n 3, 1)] 19 [some (.ref 1), some (.ref a1), some (.int a2), some (.int (a2 / (2 : Int32)))] [] ⟨d_X_beginInterval_19, d_X_beginInterval_20, d_X_beginInterval_21, d_X_beginInterval_22, trivial⟩ (show tv_run _ _ _ _ = some (23, [some (.ref 1), some (.ref a1), some (.int a2), some (.int (a2 / (2 : Int32)))], [.int (a2 / (2 : Int32)), .ref 1, .int (a2 / (2 : Int32)), .ref a1]) from rfl) ?_
  obtain ⟨q4, hq4, hf⟩ := tm_bd hf
  refine V.callV hC tm_nest rfl (c_X_draw σ3 (a2 / (2 : Int32))  hq4) (tm_gd tc_X_draw) tg_X_187 th_X_draw ⟨tm_le rfl, tm_le rfl, tm_le rfl, tm_le rfl⟩ rfl (kd_in kd_1 (by decide)) (hp_at kd_1) (As := [.int (a2 / (2 : Int32))]) (st := [.int (a2 / (2 : Int32)), .ref a1]) rfl (tm_le rfl) d_X_beginInterval_23 ?_
  rintro v n2 h2 ⟨rfl, rfl, rfl⟩
  show V X 0 0 tm_n (hp q4.2) 26 [some (.ref 1), some (.ref a1), some (.int a2), some (.int (a2 / (2 : Int32)))] [.int q4.1, .int (a2 / (2 : Int32)), .ref a1]
  refine V.blk hC [(.iadd, 1)] 26 [some (.ref 1), some (.ref a1), some (.int a2), some (.int (a2 / (2 : Int32)))] [.int q4.1, .int (a2 / (2 : Int32)), .ref a1] ⟨d_X_beginInterval_26, trivial⟩ (show tv_run _ _ _ _ = some (27, [some (.ref 1), some (.ref a1), some (.int a2), some (.int (a2 / (2 : Int32)))], [.int ((a2 / (2 : Int32)) + q4.1), .ref a1]) from rfl) ?_
  obtain ⟨σ5, hσ5, hf⟩ := tm_ww hf
  refine V.seti hC tf_X_258 tt_T to_T tn_T rfl (by decide +kernel) tm_fi k1 (kd_in k1 (by decide)) rfl rfl (tm_le rfl) d_X_beginInterval_27 ?_
  rw [← hσ5]
  obtain rfl := Option.some.inj hf
  exact V.vret hC hr hE d_X_beginInterval_30 ⟨rfl, rfl, rfl⟩
set_option maxHeartbeats 4000000 in
set_option maxRecDepth 100000 in
theorem c_X_resetTimer (σ : tm_S) (a1 : Nat) (k1 : kd a1 = 5) {r : tm_S} (hf : f_X_resetTimer σ a1 = some r) : tv_Met ty_X_resetTimer (Cond.code ty_X_resetTimer tb_X_resetTimer 2 none :: tm_wg) tm_ns tm_cl tm_ty 2 44 0 0 [.ref 1, .ref a1] tm_n (hp σ) (tm_P none r) := by
  refine tv_Met.of (by decide) rfl (tm_le rfl) ?_
  intro X hC hnm hr hE
  have hC : tv_K X tb_X_resetTimer 2 "TrickleMesh" tm_wg tm_ns tm_cl tm_ty { frames := 2, cells := 0, slots := 0, locals := 44 } := hC
  show V X 0 0 tm_n (hp σ) 0 [some (.ref 1), some (.ref a1)] []
  unfold f_X_resetTimer at hf
  refine V.blk hC [(.aload_n 1, 1)] 0 [some (.ref 1), some (.ref a1)] [] ⟨d_X_resetTimer_0, trivial⟩ (show tv_run _ _ _ _ = some (1, [some (.ref 1), some (.ref a1)], [.ref a1]) from rfl) ?_
  refine V.getf hC tf_X_48 (kd_in k1 (by decide)) (hp_at k1) rfl d_X_resetTimer_1 ?_
  show V X 0 0 tm_n (hp σ) 4 [some (.ref 1), some (.ref a1)] [.ref (a1 + 11)]
  refine V.getf hC tf_X_52 (kd_in (kd_5_9 k1) (by decide)) (hp_at (kd_5_9 k1)) rfl d_X_resetTimer_4 ?_
  show V X 0 0 tm_n (hp σ) 7 [some (.ref 1), some (.ref a1)] [.int (σ.1 (a1 + 11) 0)]
  refine V.if_eq hC d_X_resetTimer_7 (tgt := 30) (by decide) (fun hc => ?_) (fun hc => ?_)
  · rw [if_pos hc] at hf
    obtain rfl := Option.some.inj hf
    exact V.vret hC hr hE d_X_resetTimer_30 ⟨rfl, rfl, rfl⟩
  · rw [if_neg hc] at hf
    refine V.blk hC [(.aload_n 1, 1)] 10 [some (.ref 1), some (.ref a1)] [] ⟨d_X_resetTimer_10, trivial⟩ (show tv_run _ _ _ _ = some (11, [some (.ref 1), some (.ref a1)], [.ref a1]) from rfl) ?_
    refine V.getf hC tf_X_48 (kd_in k1 (by decide)) (hp_at k1) rfl d_X_resetTimer_11 ?_
    show V X 0 0 tm_n (hp σ) 14 [some (.ref 1), some (.ref a1)] [.ref (a1 + 11)]
    refine V.getf hC tf_X_118 (kd_in (kd_5_9 k1) (by decide)) (hp_at (kd_5_9 k1)) rfl d_X_resetTimer_14 ?_
    show V X 0 0 tm_n (hp σ) 17 [some (.ref 1), some (.ref a1)] [.int (σ.1 (a1 + 11) 1)]
    refine V.blk hC [(.iconst 4, 1)] 17 [some (.ref 1), some (.ref a1)] [.int (σ.1 (a1 + 11) 1)] ⟨d_X_resetTimer_17, trivial⟩ (show tv_run _ _ _ _ = some (18, [some (.ref 1), some (.ref a1)], [.int (4 : Int32), .int (σ.1 (a1 + 11) 1)]) from rfl) ?_
    refine V.icmp_eq hC d_X_resetTimer_18 (tgt := 30) (by decide) (fun hc => ?_) (fun hc => ?_)
    · rw [if_pos hc] at hf
      obtain rfl := Option.some.inj hf
      exact V.vret hC hr hE d_X_resetTimer_30 ⟨rfl, rfl, rfl⟩
    · rw [if_neg hc] at hf
      refine V.blk hC [(.aload_n 0, 1), (.aload_n 1, 1)] 21 [some (.ref 1), some (.ref a1)] [] ⟨d_X_resetTimer_21, d_X_resetTimer_22, trivial⟩ (show tv_run _ _ _ _ = some (23, [some (.ref 1), some (.ref a1)], [.ref a1, .ref 1]) from rfl) ?_
      refine V.getf hC tf_X_48 (kd_in k1 (by decide)) (hp_at k1) rfl d_X_resetTimer_23 ?_
      show V X 0 0 tm_n (hp σ) 26 [some (.ref 1), some (.ref a1)] [.ref (a1 + 11), .ref 1]
      refine V.blk hC [(.iconst 4, 1)] 26 [some (.ref 1), some (.ref a1)] [.ref (a1 + 11), .ref 1] ⟨d_X_resetTimer_26, trivial⟩ (show tv_run _ _ _ _ = some (27, [some (.ref 1), some (.ref a1)], [.int (4 : Int32), .ref (a1 + 11), .ref 1]) from rfl) ?_
      obtain ⟨q1, hq1, hf⟩ := tm_bd hf
      refine V.callV hC tm_nest rfl (c_X_beginInterval σ (a1 + 11) (4 : Int32) (kd_5_9 k1) hq1) (tm_gd tc_X_beginInterval) tg_X_261 th_X_beginInterval ⟨tm_le rfl, tm_le rfl, tm_le rfl, tm_le rfl⟩ rfl (kd_in kd_1 (by decide)) (hp_at kd_1) (As := [.ref (a1 + 11), .int (4 : Int32)]) (st := []) rfl (tm_le rfl) d_X_resetTimer_27 ?_
      rintro v n2 h2 ⟨rfl, rfl, rfl⟩
      show V X 0 0 tm_n (hp q1) 30 [some (.ref 1), some (.ref a1)] []
      obtain rfl := Option.some.inj hf
      exact V.vret hC hr hE d_X_resetTimer_30 ⟨rfl, rfl, rfl⟩
set_option maxHeartbeats 4000000 in
set_option maxRecDepth 100000 in
theorem c_X_repair (σ : tm_S)   {r : Int32 × tm_S} (hf : f_X_repair σ  = some r) : tv_Met ty_X_repair (Cond.code ty_X_repair tb_X_repair 2 (some .int) :: tm_wg) tm_ns tm_cl tm_ty 3 65 0 0 [.ref 1] tm_n (hp σ) (tm_P (some (.int r.1)) r.2) := by
  refine tv_Met.of (by decide) rfl (tm_le rfl) ?_
  intro X hC hnm hr hE
  have hC : tv_K X tb_X_repair 2 "TrickleMesh" tm_wg tm_ns tm_cl tm_ty { frames := 3, cells := 0, slots := 0, locals := 65 } := hC
  show V X 0 0 tm_n (hp σ) 0 [some (.ref 1), none] []
  unfold f_X_repair at hf
  refine V.blk hC [(.aload_n 0, 1)] 0 [some (.ref 1), none] [] ⟨d_X_repair_0, trivial⟩ (show tv_run _ _ _ _ = some (1, [some (.ref 1), none], [.ref 1]) from rfl) ?_
  refine V.getf hC tf_X_11 (kd_in kd_1 (by decide)) (hp_at kd_1) rfl d_X_repair_1 ?_
  show V X 0 0 tm_n (hp σ) 4 [some (.ref 1), none] [.ref 2]
  refine V.blk hC [(.iconst 0, 1)] 4 [some (.ref 1), none] [.ref 2] ⟨d_X_repair_4, trivial⟩ (show tv_run _ _ _ _ = some (5, [some (.ref 1), none], [.int (0 : Int32), .ref 2]) from rfl) ?_
  refine V.aald hC (kd_in kd_2 (by decide)) (hp_at kd_2) rfl rfl (show ¬ ((0 : Int32) < 0 ∨ 7 ≤ (0 : Int32).toNatClampNeg) from by decide) d_X_repair_5 ?_
  show V X 0 0 tm_n (hp σ) 6 [some (.ref 1), none] [.ref (11 + 17 * (0 : Int32).toNatClampNeg)]
  refine V.blk hC [(.astore_n 1, 1), (.aload_n 1, 1), (.dup, 1)] 6 [some (.ref 1), none] [.ref (11 + 17 * (0 : Int32).toNatClampNeg)] ⟨d_X_repair_6, d_X_repair_7, d_X_repair_8, trivial⟩ (show tv_run _ _ _ _ = some (9, [some (.ref 1), some (.ref (11 + 17 * (0 : Int32).toNatClampNeg))], [.ref (11 + 17 * (0 : Int32).toNatClampNeg), .ref (11 + 17 * (0 : Int32).toNatClampNeg)]) from rfl) ?_
  refine V.getf hC tf_X_42 (kd_in (kd_nodes (show ¬ ((0 : Int32) < 0 ∨ 7 ≤ (0 : Int32).toNatClampNeg) from by decide)) (by decide)) (hp_at (kd_nodes (show ¬ ((0 : Int32) < 0 ∨ 7 ≤ (0 : Int32).toNatClampNeg) from by decide))) rfl d_X_repair_9 ?_
  show V X 0 0 tm_n (hp σ) 12 [some (.ref 1), some (.ref (11 + 17 * (0 : Int32).toNatClampNeg))] [.int (σ.1 (11 + 17 * (0 : Int32).toNatClampNeg) 10), .ref (11 + 17 * (0 : Int32).toNatClampNeg)]
  refine V.blk hC [(.iconst 1, 1), (.iadd, 1)] 12 [some (.ref 1), some (.ref (11 + 17 * (0 : Int32).toNatClampNeg))] [.int (σ.1 (11 + 17 * (0 : Int32).toNatClampNeg) 10), .ref (11 + 17 * (0 : Int32).toNatClampNeg)] ⟨d_X_repair_12, d_X_repair_13, trivial⟩ (show tv_run _ _ _ _ = some (14, [some (.ref 1), some (.ref (11 + 17 * (0 : Int32).toNatClampNeg))], [.int ((σ.1 (11 + 17 * (0 : Int32).toNatClampNeg) 10) + (1 : Int32)), .ref (11 + 17 * (0 : Int32).toNatClampNeg)]) from rfl) ?_
  obtain ⟨σ1, hσ1, hf⟩ := tm_ww hf
  refine V.seti hC tf_X_42 tt_N to_N tn_N rfl (by decide +kernel) tm_fi (kd_nodes (show ¬ ((0 : Int32) < 0 ∨ 7 ≤ (0 : Int32).toNatClampNeg) from by decide)) (kd_in (kd_nodes (show ¬ ((0 : Int32) < 0 ∨ 7 ≤ (0 : Int32).toNatClampNeg) from by decide)) (by decide)) rfl rfl (tm_le rfl) d_X_repair_14 ?_
  rw [← hσ1]
  refine V.blk hC [(.aload_n 0, 1), (.aload_n 1, 1)] 17 [some (.ref 1), some (.ref (11 + 17 * (0 : Int32).toNatClampNeg))] [] ⟨d_X_repair_17, d_X_repair_18, trivial⟩ (show tv_run _ _ _ _ = some (19, [some (.ref 1), some (.ref (11 + 17 * (0 : Int32).toNatClampNeg))], [.ref (11 + 17 * (0 : Int32).toNatClampNeg), .ref 1]) from rfl) ?_
  obtain ⟨q2, hq2, hf⟩ := tm_bd hf
  refine V.callV hC tm_nest rfl (c_X_resetTimer σ1 (11 + 17 * (0 : Int32).toNatClampNeg) (kd_nodes (show ¬ ((0 : Int32) < 0 ∨ 7 ≤ (0 : Int32).toNatClampNeg) from by decide)) hq2) (tm_gd tc_X_resetTimer) tg_X_58 th_X_resetTimer ⟨tm_le rfl, tm_le rfl, tm_le rfl, tm_le rfl⟩ rfl (kd_in kd_1 (by decide)) (hp_at kd_1) (As := [.ref (11 + 17 * (0 : Int32).toNatClampNeg)]) (st := []) rfl (tm_le rfl) d_X_repair_19 ?_
  rintro v n2 h2 ⟨rfl, rfl, rfl⟩
  show V X 0 0 tm_n (hp q2) 22 [some (.ref 1), some (.ref (11 + 17 * (0 : Int32).toNatClampNeg))] []
  refine V.blk hC [(.aload_n 1, 1)] 22 [some (.ref 1), some (.ref (11 + 17 * (0 : Int32).toNatClampNeg))] [] ⟨d_X_repair_22, trivial⟩ (show tv_run _ _ _ _ = some (23, [some (.ref 1), some (.ref (11 + 17 * (0 : Int32).toNatClampNeg))], [.ref (11 + 17 * (0 : Int32).toNatClampNeg)]) from rfl) ?_
  refine V.getf hC tf_X_42 (kd_in (kd_nodes (show ¬ ((0 : Int32) < 0 ∨ 7 ≤ (0 : Int32).toNatClampNeg) from by decide)) (by decide)) (hp_at (kd_nodes (show ¬ ((0 : Int32) < 0 ∨ 7 ≤ (0 : Int32).toNatClampNeg) from by decide))) rfl d_X_repair_23 ?_
  show V X 0 0 tm_n (hp q2) 26 [some (.ref 1), some (.ref (11 + 17 * (0 : Int32).toNatClampNeg))] [.int (q2.1 (11 + 17 * (0 : Int32).toNatClampNeg) 10)]
  obtain rfl := Option.some.inj hf
  exact V.iret hC hr hE d_X_repair_26 ⟨rfl, rfl, rfl⟩
set_option maxHeartbeats 4000000 in
set_option maxRecDepth 100000 in
theorem c_R_beginFirst (σ : tm_S) (a0 : Nat) (a1 : Int32) (k0 : kd a0 = 6) {r : tm_S} (hf : f_R_beginFirst σ a0 a1 = some r) : tv_Met ty_R_beginFirst (Cond.code ty_R_beginFirst tb_R_beginFirst 2 none :: tm_wg) tm_ns tm_cl tm_ty 0 0 0 0 [.ref a0, .int a1] tm_n (hp σ) (tm_P none r) := by
  refine tv_Met.of (by decide) rfl (tm_le rfl) ?_
  intro X hC hnm hr hE
  have hC : tv_K X tb_R_beginFirst 2 "TrickleMesh$Radio" tm_wg tm_ns tm_cl tm_ty { frames := 0, cells := 0, slots := 0, locals := 0 } := hC
  show V X 0 0 tm_n (hp σ) 0 [some (.ref a0), some (.int a1)] []
  unfold f_R_beginFirst at hf
  refine V.blk hC [(.aload_n 0, 1), (.iconst 0, 1)] 0 [some (.ref a0), some (.int a1)] [] ⟨d_R_beginFirst_0, d_R_beginFirst_1, trivial⟩ (show tv_run _ _ _ _ = some (2, [some (.ref a0), some (.int a1)], [.int (0 : Int32), .ref a0]) from rfl) ?_
  obtain ⟨σ1, hσ1, hf⟩ := tm_ww hf
  refine V.seti hC tf_R_31 tt_R to_R tn_R rfl (by decide +kernel) tm_fi k0 (kd_in k0 (by decide)) rfl rfl (tm_le rfl) d_R_beginFirst_2 ?_
  rw [← hσ1]
  refine V.blk hC [(.aload_n 0, 1), (.iconst 0, 1)] 5 [some (.ref a0), some (.int a1)] [] ⟨d_R_beginFirst_5, d_R_beginFirst_6, trivial⟩ (show tv_run _ _ _ _ = some (7, [some (.ref a0), some (.int a1)], [.int (0 : Int32), .ref a0]) from rfl) ?_
  obtain ⟨σ2, hσ2, hf⟩ := tm_ww hf
  refine V.seti hC tf_R_34 tt_R to_R tn_R rfl (by decide +kernel) tm_fi k0 (kd_in k0 (by decide)) rfl rfl (tm_le rfl) d_R_beginFirst_7 ?_
  rw [← hσ2]
  refine V.blk hC [(.aload_n 0, 1), (.iload_n 1, 1)] 10 [some (.ref a0), some (.int a1)] [] ⟨d_R_beginFirst_10, d_R_beginFirst_11, trivial⟩ (show tv_run _ _ _ _ = some (12, [some (.ref a0), some (.int a1)], [.int a1, .ref a0]) from rfl) ?_
  obtain ⟨σ3, hσ3, hf⟩ := tm_ww hf
  refine V.seti hC tf_R_37 tt_R to_R tn_R rfl (by decide +kernel) tm_fi k0 (kd_in k0 (by decide)) rfl rfl (tm_le rfl) d_R_beginFirst_12 ?_
  rw [← hσ3]
  obtain rfl := Option.some.inj hf
  exact V.vret hC hr hE d_R_beginFirst_15 ⟨rfl, rfl, rfl⟩
set_option maxHeartbeats 4000000 in
set_option maxRecDepth 100000 in
theorem c_X_enqueue_L91 {X : tv_X} {r : Option Nat × tm_S} (hC : tv_K X tb_X_enqueue 6 "TrickleMesh" tm_wg tm_ns tm_cl tm_ty { frames := 1, cells := 0, slots := 0, locals := 21 }) (hr : tv_ret X (some (.object "TrickleMesh$Frame"))) (hE : tv_end X (tm_P (some (va_rf r.1)) r.2) 0 0) (σ : tm_S) (l5 : Nat) (kl5 : kd l5 = 8) (hf : f_X_enqueue_L91 σ l5 = some r) : V X 0 0 tm_n (hp σ) 91 [some (.ref 1), none, none, none, none, some (.ref l5)] [] := by
  unfold f_X_enqueue_L91 at hf
  refine V.blk hC [(.aload 5, 2)] 91 [some (.ref 1), none, none, none, none, some (.ref l5)] [] ⟨d_X_enqueue_91, trivial⟩ (show tv_run _ _ _ _ = some (93, [some (.ref 1), none, none, none, none, some (.ref l5)], [.ref l5]) from rfl) ?_
  obtain rfl := Option.some.inj hf
  exact V.aret hC hr (Or.inl ⟨_, rfl⟩) hE (Or.inr ⟨_, rfl⟩) d_X_enqueue_93 ⟨rfl, rfl, rfl⟩
set_option maxHeartbeats 4000000 in
set_option maxRecDepth 100000 in
theorem c_X_enqueue (σ : tm_S) (a1 : Nat) (a2 : Int32) (a3 : Int32) (k1 : kd a1 = 5) {r : Option Nat × tm_S} (hf : f_X_enqueue σ a1 a2 a3 = some r) : tv_Met ty_X_enqueue (Cond.code ty_X_enqueue tb_X_enqueue 6 (some (.object "TrickleMesh$Frame")) :: tm_wg) tm_ns tm_cl tm_ty 1 21 0 0 [.ref 1, .ref a1, .int a2, .int a3] tm_n (hp σ) (tm_P (some (va_rf r.1)) r.2) := by
  refine tv_Met.of (by decide) rfl (tm_le rfl) ?_
  intro X hC hnm hr hE
  have hC : tv_K X tb_X_enqueue 6 "TrickleMesh" tm_wg tm_ns tm_cl tm_ty { frames := 1, cells := 0, slots := 0, locals := 21 } := hC
  show V X 0 0 tm_n (hp σ) 0 [some (.ref 1), some (.ref a1), some (.int a2), some (.int a3), none, none] []
  unfold f_X_enqueue at hf
  refine V.blk hC [(.aload_n 1, 1)] 0 [some (.ref 1), some (.ref a1), some (.int a2), some (.int a3), none, none] [] ⟨d_X_enqueue_0, trivial⟩ (show tv_run _ _ _ _ = some (1, [some (.ref 1), some (.ref a1), some (.int a2), some (.int a3), none, none], [.ref a1]) from rfl) ?_
  refine V.getf hC tf_X_69 (kd_in k1 (by decide)) (hp_at k1) rfl d_X_enqueue_1 ?_
  show V X 0 0 tm_n (hp σ) 4 [some (.ref 1), some (.ref a1), some (.int a2), some (.int a3), none, none] [.ref (a1 + 1)]
  refine V.blk hC [(.astore 4, 2), (.aload 4, 2)] 4 [some (.ref 1), some (.ref a1), some (.int a2), some (.int a3), none, none] [.ref (a1 + 1)] ⟨d_X_enqueue_4, d_X_enqueue_6, trivial⟩ (show tv_run _ _ _ _ = some (8, [some (.ref 1), some (.ref a1), some (.int a2), some (.int a3), some (.ref (a1 + 1)), none], [.ref (a1 + 1)]) from rfl) ?_
  refine V.getf hC tf_X_73 (kd_in (kd_5_6 k1) (by decide)) (hp_at (kd_5_6 k1)) rfl d_X_enqueue_8 ?_
  show V X 0 0 tm_n (hp σ) 11 [some (.ref 1), some (.ref a1), some (.int a2), some (.int a3), some (.ref (a1 + 1)), none] [.int (σ.1 (a1 + 1) 1)]
  refine V.blk hC [(.iconst 4, 1)] 11 [some (.ref 1), some (.ref a1), some (.int a2), some (.int a3), some (.ref (a1 + 1)), none] [.int (σ.1 (a1 + 1) 1)] ⟨d_X_enqueue_11, trivial⟩ (show tv_run _ _ _ _ = some (12, [some (.ref 1), some (.ref a1), some (.int a2), some (.int a3), some (.ref (a1 + 1)), none], [.int (4 : Int32), .int (σ.1 (a1 + 1) 1)]) from rfl) ?_
  refine V.icmp_lt hC d_X_enqueue_12 (tgt := 17) (by decide) (fun hc => ?_) (fun hc => ?_)
  · rw [if_pos hc] at hf
    refine V.blk hC [(.aload 4, 2)] 17 [some (.ref 1), some (.ref a1), some (.int a2), some (.int a3), some (.ref (a1 + 1)), none] [] ⟨d_X_enqueue_17, trivial⟩ (show tv_run _ _ _ _ = some (19, [some (.ref 1), some (.ref a1), some (.int a2), some (.int a3), some (.ref (a1 + 1)), none], [.ref (a1 + 1)]) from rfl) ?_
    refine V.getf hC tf_X_169 (kd_in (kd_5_6 k1) (by decide)) (hp_at (kd_5_6 k1)) rfl d_X_enqueue_19 ?_
    show V X 0 0 tm_n (hp σ) 22 [some (.ref 1), some (.ref a1), some (.int a2), some (.int a3), some (.ref (a1 + 1)), none] [.ref ((a1 + 1) + 1)]
    refine V.blk hC [(.aload 4, 2)] 22 [some (.ref 1), some (.ref a1), some (.int a2), some (.int a3), some (.ref (a1 + 1)), none] [.ref ((a1 + 1) + 1)] ⟨d_X_enqueue_22, trivial⟩ (show tv_run _ _ _ _ = some (24, [some (.ref 1), some (.ref a1), some (.int a2), some (.int a3), some (.ref (a1 + 1)), none], [.ref (a1 + 1), .ref ((a1 + 1) + 1)]) from rfl) ?_
    refine V.getf hC tf_X_73 (kd_in (kd_5_6 k1) (by decide)) (hp_at (kd_5_6 k1)) rfl d_X_enqueue_24 ?_
    show V X 0 0 tm_n (hp σ) 27 [some (.ref 1), some (.ref a1), some (.int a2), some (.int a3), some (.ref (a1 + 1)), none] [.int (σ.1 (a1 + 1) 1), .ref ((a1 + 1) + 1)]
    obtain ⟨hb1, hf⟩ := tm_if hf
    obtain ⟨r3, hr3, hf⟩ := tm_ww hf
    obtain ⟨hk2, hf⟩ := tm_if hf
    refine V.aald hC (kd_in (kd_6_7 (kd_5_6 k1)) (by decide)) (hp_at (kd_6_7 (kd_5_6 k1))) rfl rfl hb1 d_X_enqueue_27 ?_
    show V X 0 0 tm_n (hp σ) 28 [some (.ref 1), some (.ref a1), some (.int a2), some (.int a3), some (.ref (a1 + 1)), none] [.ref (σ.2 ((a1 + 1) + 1) (σ.1 (a1 + 1) 1).toNatClampNeg)]
    rw [← hr3]
    refine V.blk hC [(.astore 5, 2), (.aload 4, 2), (.dup, 1)] 28 [some (.ref 1), some (.ref a1), some (.int a2), some (.int a3), some (.ref (a1 + 1)), none] [.ref r3] ⟨d_X_enqueue_28, d_X_enqueue_30, d_X_enqueue_32, trivial⟩ (show tv_run _ _ _ _ = some (33, [some (.ref 1), some (.ref a1), some (.int a2), some (.int a3), some (.ref (a1 + 1)), some (.ref r3)], [.ref (a1 + 1), .ref (a1 + 1)]) from rfl) ?_
    refine V.getf hC tf_X_73 (kd_in (kd_5_6 k1) (by decide)) (hp_at (kd_5_6 k1)) rfl d_X_enqueue_33 ?_
    show V X 0 0 tm_n (hp σ) 36 [some (.ref 1), some (.ref a1), some (.int a2), some (.int a3), some (.ref (a1 + 1)), some (.ref r3)] [.int (σ.1 (a1 + 1) 1), .ref (a1 + 1)]
    refine V.blk hC [(.iconst 1, 1), (.iadd, 1)] 36 [some (.ref 1), some (.ref a1), some (.int a2), some (.int a3), some (.ref (a1 + 1)), some (.ref r3)] [.int (σ.1 (a1 + 1) 1), .ref (a1 + 1)] ⟨d_X_enqueue_36, d_X_enqueue_37, trivial⟩ (show tv_run _ _ _ _ = some (38, [some (.ref 1), some (.ref a1), some (.int a2), some (.int a3), some (.ref (a1 + 1)), some (.ref r3)], [.int ((σ.1 (a1 + 1) 1) + (1 : Int32)), .ref (a1 + 1)]) from rfl) ?_
    obtain ⟨σ4, hσ4, hf⟩ := tm_ww hf
    refine V.seti hC tf_X_73 tt_R to_R tn_R rfl (by decide +kernel) tm_fi (kd_5_6 k1) (kd_in (kd_5_6 k1) (by decide)) rfl rfl (tm_le rfl) d_X_enqueue_38 ?_
    rw [← hσ4]
    refine V.blk hC [(.aload_n 0, 1), (.dup, 1)] 41 [some (.ref 1), some (.ref a1), some (.int a2), some (.int a3), some (.ref (a1 + 1)), some (.ref r3)] [] ⟨d_X_enqueue_41, d_X_enqueue_42, trivial⟩ (show tv_run _ _ _ _ = some (43, [some (.ref 1), some (.ref a1), some (.int a2), some (.int a3), some (.ref (a1 + 1)), some (.ref r3)], [.ref 1, .ref 1]) from rfl) ?_
    refine V.getf hC tf_X_173 (kd_in kd_1 (by decide)) (hp_at kd_1) rfl d_X_enqueue_43 ?_
    show V X 0 0 tm_n (hp σ4) 46 [some (.ref 1), some (.ref a1), some (.int a2), some (.int a3), some (.ref (a1 + 1)), some (.ref r3)] [.int (σ4.1 1 6), .ref 1]
    refine V.blk hC [(.iconst 1, 1), (.iadd, 1)] 46 [some (.ref 1), some (.ref a1), some (.int a2), some (.int a3), some (.ref (a1 + 1)), some (.ref r3)] [.int (σ4.1 1 6), .ref 1] ⟨d_X_enqueue_46, d_X_enqueue_47, trivial⟩ (show tv_run _ _ _ _ = some (48, [some (.ref 1), some (.ref a1), some (.int a2), some (.int a3), some (.ref (a1 + 1)), some (.ref r3)], [.int ((σ4.1 1 6) + (1 : Int32)), .ref 1]) from rfl) ?_
    obtain ⟨σ5, hσ5, hf⟩ := tm_ww hf
    refine V.seti hC tf_X_173 tt_X to_X tn_X rfl (by decide +kernel) tm_fi kd_1 (kd_in kd_1 (by decide)) rfl rfl (tm_le rfl) d_X_enqueue_48 ?_
    rw [← hσ5]
    refine V.blk hC [(.aload 5, 2), (.aload_n 0, 1)] 51 [some (.ref 1), some (.ref a1), some (.int a2), some (.int a3), some (.ref (a1 + 1)), some (.ref r3)] [] ⟨d_X_enqueue_51, d_X_enqueue_53, trivial⟩ (show tv_run _ _ _ _ = some (54, [some (.ref 1), some (.ref a1), some (.int a2), some (.int a3), some (.ref (a1 + 1)), some (.ref r3)], [.ref 1, .ref r3]) from rfl) ?_
    refine V.getf hC tf_X_173 (kd_in kd_1 (by decide)) (hp_at kd_1) rfl d_X_enqueue_54 ?_
    show V X 0 0 tm_n (hp σ5) 57 [some (.ref 1), some (.ref a1), some (.int a2), some (.int a3), some (.ref (a1 + 1)), some (.ref r3)] [.int (σ5.1 1 6), .ref r3]
    obtain ⟨σ6, hσ6, hf⟩ := tm_ww hf
    refine V.seti hC tf_X_176 tt_F to_F tn_F rfl (by decide +kernel) tm_fi hk2 (kd_in hk2 (by decide)) rfl rfl (tm_le rfl) d_X_enqueue_57 ?_
    rw [← hσ6]
    refine V.blk hC [(.aload 5, 2), (.iload_n 2, 1)] 60 [some (.ref 1), some (.ref a1), some (.int a2), some (.int a3), some (.ref (a1 + 1)), some (.ref r3)] [] ⟨d_X_enqueue_60, d_X_enqueue_62, trivial⟩ (show tv_run _ _ _ _ = some (63, [some (.ref 1), some (.ref a1), some (.int a2), some (.int a3), some (.ref (a1 + 1)), some (.ref r3)], [.int a2, .ref r3]) from rfl) ?_
    obtain ⟨σ7, hσ7, hf⟩ := tm_ww hf
    refine V.seti hC tf_X_181 tt_F to_F tn_F rfl (by decide +kernel) tm_fi hk2 (kd_in hk2 (by decide)) rfl rfl (tm_le rfl) d_X_enqueue_63 ?_
    rw [← hσ7]
    refine V.blk hC [(.aload 5, 2), (.iload_n 3, 1)] 66 [some (.ref 1), some (.ref a1), some (.int a2), some (.int a3), some (.ref (a1 + 1)), some (.ref r3)] [] ⟨d_X_enqueue_66, d_X_enqueue_68, trivial⟩ (show tv_run _ _ _ _ = some (69, [some (.ref 1), some (.ref a1), some (.int a2), some (.int a3), some (.ref (a1 + 1)), some (.ref r3)], [.int a3, .ref r3]) from rfl) ?_
    obtain ⟨σ8, hσ8, hf⟩ := tm_ww hf
    refine V.seti hC tf_X_184 tt_F to_F tn_F rfl (by decide +kernel) tm_fi hk2 (kd_in hk2 (by decide)) rfl rfl (tm_le rfl) d_X_enqueue_69 ?_
    rw [← hσ8]
    refine V.blk hC [(.aload 4, 2)] 72 [some (.ref 1), some (.ref a1), some (.int a2), some (.int a3), some (.ref (a1 + 1)), some (.ref r3)] [] ⟨d_X_enqueue_72, trivial⟩ (show tv_run _ _ _ _ = some (74, [some (.ref 1), some (.ref a1), some (.int a2), some (.int a3), some (.ref (a1 + 1)), some (.ref r3)], [.ref (a1 + 1)]) from rfl) ?_
    refine V.getf hC tf_X_73 (kd_in (kd_5_6 k1) (by decide)) (hp_at (kd_5_6 k1)) rfl d_X_enqueue_74 ?_
    show V X 0 0 tm_n (hp σ8) 77 [some (.ref 1), some (.ref a1), some (.int a2), some (.int a3), some (.ref (a1 + 1)), some (.ref r3)] [.int (σ8.1 (a1 + 1) 1)]
    refine V.blk hC [(.iconst 1, 1)] 77 [some (.ref 1), some (.ref a1), some (.int a2), some (.int a3), some (.ref (a1 + 1)), some (.ref r3)] [.int (σ8.1 (a1 + 1) 1)] ⟨d_X_enqueue_77, trivial⟩ (show tv_run _ _ _ _ = some (78, [some (.ref 1), some (.ref a1), some (.int a2), some (.int a3), some (.ref (a1 + 1)), some (.ref r3)], [.int (1 : Int32), .int (σ8.1 (a1 + 1) 1)]) from rfl) ?_
    refine V.icmp_ne hC d_X_enqueue_78 (tgt := 91) (by decide) (fun hc => ?_) (fun hc => ?_)
    · rw [if_neg hc] at hf
      exact V.less (tv_le_some (tv_le_none (tv_le_none (tv_le_none (tv_le_none (tv_le_some tv_le_nil)))))) (c_X_enqueue_L91 hC hr hE σ8 r3 hk2 hf)
    · rw [if_pos hc] at hf
      refine V.blk hC [(.aload 4, 2), (.aload_n 0, 1), (.iconst 4, 1)] 81 [some (.ref 1), some (.ref a1), some (.int a2), some (.int a3), some (.ref (a1 + 1)), some (.ref r3)] [] ⟨d_X_enqueue_81, d_X_enqueue_83, d_X_enqueue_84, trivial⟩ (show tv_run _ _ _ _ = some (85, [some (.ref 1), some (.ref a1), some (.int a2), some (.int a3), some (.ref (a1 + 1)), some (.ref r3)], [.int (4 : Int32), .ref 1, .ref (a1 + 1)]) from rfl) ?_
      obtain ⟨q9, hq9, hf⟩ := tm_bd hf
      refine V.callV hC tm_nest rfl (c_X_draw σ8 (4 : Int32)  hq9) (tm_gd tc_X_draw) tg_X_187 th_X_draw ⟨tm_le rfl, tm_le rfl, tm_le rfl, tm_le rfl⟩ rfl (kd_in kd_1 (by decide)) (hp_at kd_1) (As := [.int (4 : Int32)]) (st := [.ref (a1 + 1)]) rfl (tm_le rfl) d_X_enqueue_85 ?_
      rintro v n2 h2 ⟨rfl, rfl, rfl⟩
      show V X 0 0 tm_n (hp q9.2) 88 [some (.ref 1), some (.ref a1), some (.int a2), some (.int a3), some (.ref (a1 + 1)), some (.ref r3)] [.int q9.1, .ref (a1 + 1)]
      obtain ⟨q10, hq10, hf⟩ := tm_bd hf
      refine V.callV hC tm_nest rfl (c_R_beginFirst q9.2 (a1 + 1) q9.1 (kd_5_6 k1) hq10) (tm_gd tc_R_beginFirst) tg_X_191 th_R_beginFirst ⟨tm_le rfl, tm_le rfl, tm_le rfl, tm_le rfl⟩ rfl (kd_in (kd_5_6 k1) (by decide)) (hp_at (kd_5_6 k1)) (As := [.int q9.1]) (st := []) rfl (tm_le rfl) d_X_enqueue_88 ?_
      rintro v n2 h2 ⟨rfl, rfl, rfl⟩
      show V X 0 0 tm_n (hp q10) 91 [some (.ref 1), some (.ref a1), some (.int a2), some (.int a3), some (.ref (a1 + 1)), some (.ref r3)] []
      exact V.less (tv_le_some (tv_le_none (tv_le_none (tv_le_none (tv_le_none (tv_le_some tv_le_nil)))))) (c_X_enqueue_L91 hC hr hE q10 r3 hk2 hf)
  · rw [if_neg hc] at hf
    refine V.blk hC [(.aconst_null, 1)] 15 [some (.ref 1), some (.ref a1), some (.int a2), some (.int a3), some (.ref (a1 + 1)), none] [] ⟨d_X_enqueue_15, trivial⟩ (show tv_run _ _ _ _ = some (16, [some (.ref 1), some (.ref a1), some (.int a2), some (.int a3), some (.ref (a1 + 1)), none], [.null]) from rfl) ?_
    obtain rfl := Option.some.inj hf
    exact V.aret hC hr (Or.inl ⟨_, rfl⟩) hE (Or.inl rfl) d_X_enqueue_16 ⟨rfl, rfl, rfl⟩
set_option maxHeartbeats 4000000 in
set_option maxRecDepth 100000 in
theorem c_X_sendOn_L55 {X : tv_X} {r : tm_S} (hC : tv_K X tb_X_sendOn 10 "TrickleMesh" tm_wg tm_ns tm_cl tm_ty { frames := 2, cells := 0, slots := 0, locals := 46 }) (hr : tv_ret X none) (hE : tv_end X (tm_P none r) 0 0) (σ : tm_S) (l2 : Int32) (l3 : Int32) (l4 : Int32) (l5 : Int32) (l6 : Int32) (l7 : Int32) (s0 : Option Nat)  (hf : f_X_sendOn_L55 σ l2 l3 l4 l5 l6 l7 s0 = some r) : V X 0 0 tm_n (hp σ) 55 [some (.ref 1), none, some (.int l2), some (.int l3), some (.int l4), some (.int l5), some (.int l6), some (.int l7), none, none] [va_rf s0] := by
  unfold f_X_sendOn_L55 at hf
  refine V.blk hC [(.astore 9, 2), (.aload 9, 2)] 55 [some (.ref 1), none, some (.int l2), some (.int l3), some (.int l4), some (.int l5), some (.int l6), some (.int l7), none, none] [va_rf s0] ⟨d_X_sendOn_55, d_X_sendOn_57, trivial⟩ (show tv_run _ _ _ _ = some (59, [some (.ref 1), none, some (.int l2), some (.int l3), some (.int l4), some (.int l5), some (.int l6), some (.int l7), none, some (va_rf s0)], [va_rf s0]) from by cases hq_ : s0 <;> rfl) ?_
  rcases ho4 : s0 with _ | o4
  · simp only [ho4] at hf
    simp only [ho4, va_rf]
    refine V.ifnonnullN hC d_X_sendOn_59 ?_
    refine V.blk hC [(.aload_n 0, 1), (.dup, 1)] 62 [some (.ref 1), none, some (.int l2), some (.int l3), some (.int l4), some (.int l5), some (.int l6), some (.int l7), none, some (.null)] [] ⟨d_X_sendOn_62, d_X_sendOn_63, trivial⟩ (show tv_run _ _ _ _ = some (64, [some (.ref 1), none, some (.int l2), some (.int l3), some (.int l4), some (.int l5), some (.int l6), some (.int l7), none, some (.null)], [.ref 1, .ref 1]) from rfl) ?_
    refine V.getf hC tf_X_159 (kd_in kd_1 (by decide)) (hp_at kd_1) rfl d_X_sendOn_64 ?_
    show V X 0 0 tm_n (hp σ) 67 [some (.ref 1), none, some (.int l2), some (.int l3), some (.int l4), some (.int l5), some (.int l6), some (.int l7), none, some (.null)] [.int (σ.1 1 8), .ref 1]
    refine V.blk hC [(.iconst 1, 1), (.iadd, 1)] 67 [some (.ref 1), none, some (.int l2), some (.int l3), some (.int l4), some (.int l5), some (.int l6), some (.int l7), none, some (.null)] [.int (σ.1 1 8), .ref 1] ⟨d_X_sendOn_67, d_X_sendOn_68, trivial⟩ (show tv_run _ _ _ _ = some (69, [some (.ref 1), none, some (.int l2), some (.int l3), some (.int l4), some (.int l5), some (.int l6), some (.int l7), none, some (.null)], [.int ((σ.1 1 8) + (1 : Int32)), .ref 1]) from rfl) ?_
    obtain ⟨σ5, hσ5, hf⟩ := tm_ww hf
    refine V.seti hC tf_X_159 tt_X to_X tn_X rfl (by decide +kernel) tm_fi kd_1 (kd_in kd_1 (by decide)) rfl rfl (tm_le rfl) d_X_sendOn_69 ?_
    rw [← hσ5]
    obtain rfl := Option.some.inj hf
    exact V.vret hC hr hE d_X_sendOn_72 ⟨rfl, rfl, rfl⟩
  · simp only [ho4] at hf
    simp only [ho4, va_rf]
    obtain ⟨ko4, hf⟩ := tm_if hf
    refine V.ifnonnull hC d_X_sendOn_59 (tgt := 73) (by decide) ?_
    refine V.blk hC [(.aload 9, 2), (.iload_n 2, 1)] 73 [some (.ref 1), none, some (.int l2), some (.int l3), some (.int l4), some (.int l5), some (.int l6), some (.int l7), none, some (.ref o4)] [] ⟨d_X_sendOn_73, d_X_sendOn_75, trivial⟩ (show tv_run _ _ _ _ = some (76, [some (.ref 1), none, some (.int l2), some (.int l3), some (.int l4), some (.int l5), some (.int l6), some (.int l7), none, some (.ref o4)], [.int l2, .ref o4]) from rfl) ?_
    obtain ⟨σ6, hσ6, hf⟩ := tm_ww hf
    refine V.seti hC tf_X_312 tt_F to_F tn_F rfl (by decide +kernel) tm_fi ko4 (kd_in ko4 (by decide)) rfl rfl (tm_le rfl) d_X_sendOn_76 ?_
    rw [← hσ6]
    refine V.blk hC [(.aload 9, 2), (.iload_n 3, 1)] 79 [some (.ref 1), none, some (.int l2), some (.int l3), some (.int l4), some (.int l5), some (.int l6), some (.int l7), none, some (.ref o4)] [] ⟨d_X_sendOn_79, d_X_sendOn_81, trivial⟩ (show tv_run _ _ _ _ = some (82, [some (.ref 1), none, some (.int l2), some (.int l3), some (.int l4), some (.int l5), some (.int l6), some (.int l7), none, some (.ref o4)], [.int l3, .ref o4]) from rfl) ?_
    obtain ⟨σ7, hσ7, hf⟩ := tm_ww hf
    refine V.seti hC tf_X_315 tt_F to_F tn_F rfl (by decide +kernel) tm_fi ko4 (kd_in ko4 (by decide)) rfl rfl (tm_le rfl) d_X_sendOn_82 ?_
    rw [← hσ7]
    refine V.blk hC [(.aload 9, 2), (.iload 4, 2)] 85 [some (.ref 1), none, some (.int l2), some (.int l3), some (.int l4), some (.int l5), some (.int l6), some (.int l7), none, some (.ref o4)] [] ⟨d_X_sendOn_85, d_X_sendOn_87, trivial⟩ (show tv_run _ _ _ _ = some (89, [some (.ref 1), none, some (.int l2), some (.int l3), some (.int l4), some (.int l5), some (.int l6), some (.int l7), none, some (.ref o4)], [.int l4, .ref o4]) from rfl) ?_
    obtain ⟨σ8, hσ8, hf⟩ := tm_ww hf
    refine V.seti hC tf_X_318 tt_F to_F tn_F rfl (by decide +kernel) tm_fi ko4 (kd_in ko4 (by decide)) rfl rfl (tm_le rfl) d_X_sendOn_89 ?_
    rw [← hσ8]
    refine V.blk hC [(.aload 9, 2), (.iload 5, 2)] 92 [some (.ref 1), none, some (.int l2), some (.int l3), some (.int l4), some (.int l5), some (.int l6), some (.int l7), none, some (.ref o4)] [] ⟨d_X_sendOn_92, d_X_sendOn_94, trivial⟩ (show tv_run _ _ _ _ = some (96, [some (.ref 1), none, some (.int l2), some (.int l3), some (.int l4), some (.int l5), some (.int l6), some (.int l7), none, some (.ref o4)], [.int l5, .ref o4]) from rfl) ?_
    obtain ⟨σ9, hσ9, hf⟩ := tm_ww hf
    refine V.seti hC tf_X_321 tt_F to_F tn_F rfl (by decide +kernel) tm_fi ko4 (kd_in ko4 (by decide)) rfl rfl (tm_le rfl) d_X_sendOn_96 ?_
    rw [← hσ9]
    refine V.blk hC [(.aload 9, 2), (.iload 7, 2)] 99 [some (.ref 1), none, some (.int l2), some (.int l3), some (.int l4), some (.int l5), some (.int l6), some (.int l7), none, some (.ref o4)] [] ⟨d_X_sendOn_99, d_X_sendOn_101, trivial⟩ (show tv_run _ _ _ _ = some (103, [some (.ref 1), none, some (.int l2), some (.int l3), some (.int l4), some (.int l5), some (.int l6), some (.int l7), none, some (.ref o4)], [.int l7, .ref o4]) from rfl) ?_
    obtain ⟨hz13, hf⟩ := tm_if hf
    obtain ⟨σ10, hσ10, hf⟩ := tm_ww hf
    refine V.seti hC tf_X_324 tt_F to_F tn_F rfl (by decide +kernel) (tm_fz hz13) ko4 (kd_in ko4 (by decide)) rfl rfl (tm_le rfl) d_X_sendOn_103 ?_
    rw [← hσ10]
    refine V.blk hC [(.aload 9, 2), (.iload 6, 2)] 106 [some (.ref 1), none, some (.int l2), some (.int l3), some (.int l4), some (.int l5), some (.int l6), some (.int l7), none, some (.ref o4)] [] ⟨d_X_sendOn_106, d_X_sendOn_108, trivial⟩ (show tv_run _ _ _ _ = some (110, [some (.ref 1), none, some (.int l2), some (.int l3), some (.int l4), some (.int l5), some (.int l6), some (.int l7), none, some (.ref o4)], [.int l6, .ref o4]) from rfl) ?_
    obtain ⟨hz12, hf⟩ := tm_if hf
    obtain ⟨σ11, hσ11, hf⟩ := tm_ww hf
    refine V.seti hC tf_X_327 tt_F to_F tn_F rfl (by decide +kernel) (tm_fz hz12) ko4 (kd_in ko4 (by decide)) rfl rfl (tm_le rfl) d_X_sendOn_110 ?_
    rw [← hσ11]
    obtain rfl := Option.some.inj hf
    exact V.vret hC hr hE d_X_sendOn_113 ⟨rfl, rfl, rfl⟩
set_option maxHeartbeats 4000000 in
set_option maxRecDepth 100000 in
theorem c_X_sendOn_L35 {X : tv_X} {r : tm_S} (hC : tv_K X tb_X_sendOn 10 "TrickleMesh" tm_wg tm_ns tm_cl tm_ty { frames := 2, cells := 0, slots := 0, locals := 46 }) (hr : tv_ret X none) (hE : tv_end X (tm_P none r) 0 0) (σ : tm_S) (l1 : Nat) (l2 : Int32) (l3 : Int32) (l4 : Int32) (l5 : Int32) (l6 : Int32) (l7 : Int32) (s0 : Int32) (kl1 : kd l1 = 5) (hf : f_X_sendOn_L35 σ l1 l2 l3 l4 l5 l6 l7 s0 = some r) : V X 0 0 tm_n (hp σ) 35 [some (.ref 1), some (.ref l1), some (.int l2), some (.int l3), some (.int l4), some (.int l5), some (.int l6), some (.int l7), none, none] [.int s0] := by
  unfold f_X_sendOn_L35 at hf
  refine V.blk hC [(.istore 8, 2), (.iload 8, 2), (.iconst (-1), 1)] 35 [some (.ref 1), some (.ref l1), some (.int l2), some (.int l3), some (.int l4), some (.int l5), some (.int l6), some (.int l7), none, none] [.int s0] ⟨d_X_sendOn_35, d_X_sendOn_37, d_X_sendOn_39, trivial⟩ (show tv_run _ _ _ _ = some (40, [some (.ref 1), some (.ref l1), some (.int l2), some (.int l3), some (.int l4), some (.int l5), some (.int l6), some (.int l7), some (.int s0), none], [.int (-1 : Int32), .int s0]) from rfl) ?_
  refine V.icmp_ne hC d_X_sendOn_40 (tgt := 47) (by decide) (fun hc => ?_) (fun hc => ?_)
  · rw [if_neg hc] at hf
    refine V.blk hC [(.aload_n 0, 1), (.aload_n 1, 1), (.iconst 4, 1), (.iload 8, 2)] 47 [some (.ref 1), some (.ref l1), some (.int l2), some (.int l3), some (.int l4), some (.int l5), some (.int l6), some (.int l7), some (.int s0), none] [] ⟨d_X_sendOn_47, d_X_sendOn_48, d_X_sendOn_49, d_X_sendOn_50, trivial⟩ (show tv_run _ _ _ _ = some (52, [some (.ref 1), some (.ref l1), some (.int l2), some (.int l3), some (.int l4), some (.int l5), some (.int l6), some (.int l7), some (.int s0), none], [.int s0, .int (4 : Int32), .ref l1, .ref 1]) from rfl) ?_
    obtain ⟨q3, hq3, hf⟩ := tm_bd hf
    refine V.callV hC tm_nest rfl (c_X_enqueue σ l1 (4 : Int32) s0 kl1 hq3) (tm_gd tc_X_enqueue) tg_X_194 th_X_enqueue ⟨tm_le rfl, tm_le rfl, tm_le rfl, tm_le rfl⟩ rfl (kd_in kd_1 (by decide)) (hp_at kd_1) (As := [.ref l1, .int (4 : Int32), .int s0]) (st := []) rfl (tm_le rfl) d_X_sendOn_52 ?_
    rintro v n2 h2 ⟨rfl, rfl, rfl⟩
    show V X 0 0 tm_n (hp q3.2) 55 [some (.ref 1), some (.ref l1), some (.int l2), some (.int l3), some (.int l4), some (.int l5), some (.int l6), some (.int l7), some (.int s0), none] [va_rf q3.1]
    exact V.less (tv_le_some (tv_le_none (tv_le_some (tv_le_some (tv_le_some (tv_le_some (tv_le_some (tv_le_some (tv_le_none (tv_le_none tv_le_nil)))))))))) (c_X_sendOn_L55 hC hr hE q3.2 l2 l3 l4 l5 l6 l7 q3.1  hf)
  · rw [if_pos hc] at hf
    refine V.blk hC [(.aconst_null, 1)] 43 [some (.ref 1), some (.ref l1), some (.int l2), some (.int l3), some (.int l4), some (.int l5), some (.int l6), some (.int l7), some (.int s0), none] [] ⟨d_X_sendOn_43, trivial⟩ (show tv_run _ _ _ _ = some (44, [some (.ref 1), some (.ref l1), some (.int l2), some (.int l3), some (.int l4), some (.int l5), some (.int l6), some (.int l7), some (.int s0), none], [.null]) from rfl) ?_
    refine V.goto hC d_X_sendOn_44 (tgt := 55) (by decide) ?_
    exact V.less (tv_le_some (tv_le_none (tv_le_some (tv_le_some (tv_le_some (tv_le_some (tv_le_some (tv_le_some (tv_le_none (tv_le_none tv_le_nil)))))))))) (c_X_sendOn_L55 hC hr hE σ l2 l3 l4 l5 l6 l7 none  hf)
