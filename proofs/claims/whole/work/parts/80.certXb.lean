set_option maxHeartbeats 4000000 in
set_option maxRecDepth 100000 in
theorem c_X_sendOn_L15 {X : tv_X} {r : tm_S} (hC : tv_K X tb_X_sendOn 10 "TrickleMesh" tm_wg tm_ns tm_cl tm_ty { frames := 2, cells := 0, slots := 0, locals := 46 }) (hr : tv_ret X none) (hE : tv_end X (tm_P none r) 0 0) (σ : tm_S) (l1 : Nat) (l2 : Int32) (l3 : Int32) (l4 : Int32) (l5 : Int32) (l6 : Int32) (s0 : Int32) (kl1 : kd l1 = 5) (hf : f_X_sendOn_L15 σ l1 l2 l3 l4 l5 l6 s0 = some r) : V X 0 0 tm_n (hp σ) 15 [some (.ref 1), some (.ref l1), some (.int l2), some (.int l3), some (.int l4), some (.int l5), some (.int l6), none, none, none] [.int s0] := by
  unfold f_X_sendOn_L15 at hf
  refine V.blk hC [(.istore 7, 2), (.iload 7, 2)] 15 [some (.ref 1), some (.ref l1), some (.int l2), some (.int l3), some (.int l4), some (.int l5), some (.int l6), none, none, none] [.int s0] ⟨d_X_sendOn_15, d_X_sendOn_17, trivial⟩ (show tv_run _ _ _ _ = some (19, [some (.ref 1), some (.ref l1), some (.int l2), some (.int l3), some (.int l4), some (.int l5), some (.int l6), some (.int s0), none, none], [.int s0]) from rfl) ?_
  refine V.if_eq hC d_X_sendOn_19 (tgt := 31) (by decide) (fun hc => ?_) (fun hc => ?_)
  · rw [if_pos hc] at hf
    refine V.blk hC [(.aload_n 1, 1)] 31 [some (.ref 1), some (.ref l1), some (.int l2), some (.int l3), some (.int l4), some (.int l5), some (.int l6), some (.int s0), none, none] [] ⟨d_X_sendOn_31, trivial⟩ (show tv_run _ _ _ _ = some (32, [some (.ref 1), some (.ref l1), some (.int l2), some (.int l3), some (.int l4), some (.int l5), some (.int l6), some (.int s0), none, none], [.ref l1]) from rfl) ?_
    refine V.getf hC tf_X_115 (kd_in kl1 (by decide)) (hp_at kl1) rfl d_X_sendOn_32 ?_
    show V X 0 0 tm_n (hp σ) 35 [some (.ref 1), some (.ref l1), some (.int l2), some (.int l3), some (.int l4), some (.int l5), some (.int l6), some (.int s0), none, none] [.int (σ.1 l1 12)]
    exact V.less (tv_le_some (tv_le_some (tv_le_some (tv_le_some (tv_le_some (tv_le_some (tv_le_some (tv_le_some (tv_le_none (tv_le_none tv_le_nil)))))))))) (c_X_sendOn_L35 hC hr hE σ l1 l2 l3 l4 l5 l6 s0 (σ.1 l1 12) kl1 hf)
  · rw [if_neg hc] at hf
    refine V.blk hC [(.aload_n 1, 1)] 22 [some (.ref 1), some (.ref l1), some (.int l2), some (.int l3), some (.int l4), some (.int l5), some (.int l6), some (.int s0), none, none] [] ⟨d_X_sendOn_22, trivial⟩ (show tv_run _ _ _ _ = some (23, [some (.ref 1), some (.ref l1), some (.int l2), some (.int l3), some (.int l4), some (.int l5), some (.int l6), some (.int s0), none, none], [.ref l1]) from rfl) ?_
    refine V.getf hC tf_X_147 (kd_in kl1 (by decide)) (hp_at kl1) rfl d_X_sendOn_23 ?_
    show V X 0 0 tm_n (hp σ) 26 [some (.ref 1), some (.ref l1), some (.int l2), some (.int l3), some (.int l4), some (.int l5), some (.int l6), some (.int s0), none, none] [.ref (l1 + 13)]
    refine V.blk hC [(.iload_n 3, 1)] 26 [some (.ref 1), some (.ref l1), some (.int l2), some (.int l3), some (.int l4), some (.int l5), some (.int l6), some (.int s0), none, none] [.ref (l1 + 13)] ⟨d_X_sendOn_26, trivial⟩ (show tv_run _ _ _ _ = some (27, [some (.ref 1), some (.ref l1), some (.int l2), some (.int l3), some (.int l4), some (.int l5), some (.int l6), some (.int s0), none, none], [.int l3, .ref (l1 + 13)]) from rfl) ?_
    obtain ⟨hb2, hf⟩ := tm_if hf
    refine V.iald hC (kd_in (kd_5_13 kl1) (by decide)) (hp_at (kd_5_13 kl1)) rfl hb2 d_X_sendOn_27 ?_
    show V X 0 0 tm_n (hp σ) 28 [some (.ref 1), some (.ref l1), some (.int l2), some (.int l3), some (.int l4), some (.int l5), some (.int l6), some (.int s0), none, none] [.int (σ.1 (l1 + 13) l3.toNatClampNeg)]
    refine V.goto hC d_X_sendOn_28 (tgt := 35) (by decide) ?_
    exact V.less (tv_le_some (tv_le_some (tv_le_some (tv_le_some (tv_le_some (tv_le_some (tv_le_some (tv_le_some (tv_le_none (tv_le_none tv_le_nil)))))))))) (c_X_sendOn_L35 hC hr hE σ l1 l2 l3 l4 l5 l6 s0 (σ.1 (l1 + 13) l3.toNatClampNeg) kl1 hf)
set_option maxHeartbeats 4000000 in
set_option maxRecDepth 100000 in
theorem c_X_sendOn (σ : tm_S) (a1 : Nat) (a2 : Int32) (a3 : Int32) (a4 : Int32) (a5 : Int32) (a6 : Int32) (k1 : kd a1 = 5) {r : tm_S} (hf : f_X_sendOn σ a1 a2 a3 a4 a5 a6 = some r) : tv_Met ty_X_sendOn (Cond.code ty_X_sendOn tb_X_sendOn 10 none :: tm_wg) tm_ns tm_cl tm_ty 2 46 0 0 [.ref 1, .ref a1, .int a2, .int a3, .int a4, .int a5, .int a6] tm_n (hp σ) (tm_P none r) := by
  refine tv_Met.of (by decide) rfl (tm_le rfl) ?_
  intro X hC hnm hr hE
  have hC : tv_K X tb_X_sendOn 10 "TrickleMesh" tm_wg tm_ns tm_cl tm_ty { frames := 2, cells := 0, slots := 0, locals := 46 } := hC
  show V X 0 0 tm_n (hp σ) 0 [some (.ref 1), some (.ref a1), some (.int a2), some (.int a3), some (.int a4), some (.int a5), some (.int a6), none, none, none] []
  unfold f_X_sendOn at hf
  refine V.blk hC [(.aload_n 1, 1)] 0 [some (.ref 1), some (.ref a1), some (.int a2), some (.int a3), some (.int a4), some (.int a5), some (.int a6), none, none, none] [] ⟨d_X_sendOn_0, trivial⟩ (show tv_run _ _ _ _ = some (1, [some (.ref 1), some (.ref a1), some (.int a2), some (.int a3), some (.int a4), some (.int a5), some (.int a6), none, none, none], [.ref a1]) from rfl) ?_
  refine V.getf hC tf_X_147 (kd_in k1 (by decide)) (hp_at k1) rfl d_X_sendOn_1 ?_
  show V X 0 0 tm_n (hp σ) 4 [some (.ref 1), some (.ref a1), some (.int a2), some (.int a3), some (.int a4), some (.int a5), some (.int a6), none, none, none] [.ref (a1 + 13)]
  refine V.blk hC [(.iload_n 3, 1)] 4 [some (.ref 1), some (.ref a1), some (.int a2), some (.int a3), some (.int a4), some (.int a5), some (.int a6), none, none, none] [.ref (a1 + 13)] ⟨d_X_sendOn_4, trivial⟩ (show tv_run _ _ _ _ = some (5, [some (.ref 1), some (.ref a1), some (.int a2), some (.int a3), some (.int a4), some (.int a5), some (.int a6), none, none, none], [.int a3, .ref (a1 + 13)]) from rfl) ?_
  obtain ⟨hb1, hf⟩ := tm_if hf
  refine V.iald hC (kd_in (kd_5_13 k1) (by decide)) (hp_at (kd_5_13 k1)) rfl hb1 d_X_sendOn_5 ?_
  show V X 0 0 tm_n (hp σ) 6 [some (.ref 1), some (.ref a1), some (.int a2), some (.int a3), some (.int a4), some (.int a5), some (.int a6), none, none, none] [.int (σ.1 (a1 + 13) a3.toNatClampNeg)]
  refine V.blk hC [(.iconst (-1), 1)] 6 [some (.ref 1), some (.ref a1), some (.int a2), some (.int a3), some (.int a4), some (.int a5), some (.int a6), none, none, none] [.int (σ.1 (a1 + 13) a3.toNatClampNeg)] ⟨d_X_sendOn_6, trivial⟩ (show tv_run _ _ _ _ = some (7, [some (.ref 1), some (.ref a1), some (.int a2), some (.int a3), some (.int a4), some (.int a5), some (.int a6), none, none, none], [.int (-1 : Int32), .int (σ.1 (a1 + 13) a3.toNatClampNeg)]) from rfl) ?_
  refine V.icmp_eq hC d_X_sendOn_7 (tgt := 14) (by decide) (fun hc => ?_) (fun hc => ?_)
  · rw [if_pos hc] at hf
    refine V.blk hC [(.iconst 0, 1)] 14 [some (.ref 1), some (.ref a1), some (.int a2), some (.int a3), some (.int a4), some (.int a5), some (.int a6), none, none, none] [] ⟨d_X_sendOn_14, trivial⟩ (show tv_run _ _ _ _ = some (15, [some (.ref 1), some (.ref a1), some (.int a2), some (.int a3), some (.int a4), some (.int a5), some (.int a6), none, none, none], [.int (0 : Int32)]) from rfl) ?_
    exact V.less (tv_le_some (tv_le_some (tv_le_some (tv_le_some (tv_le_some (tv_le_some (tv_le_some (tv_le_none (tv_le_none (tv_le_none tv_le_nil)))))))))) (c_X_sendOn_L15 hC hr hE σ a1 a2 a3 a4 a5 a6 (0 : Int32) k1 hf)
  · rw [if_neg hc] at hf
    refine V.blk hC [(.iconst 1, 1)] 10 [some (.ref 1), some (.ref a1), some (.int a2), some (.int a3), some (.int a4), some (.int a5), some (.int a6), none, none, none] [] ⟨d_X_sendOn_10, trivial⟩ (show tv_run _ _ _ _ = some (11, [some (.ref 1), some (.ref a1), some (.int a2), some (.int a3), some (.int a4), some (.int a5), some (.int a6), none, none, none], [.int (1 : Int32)]) from rfl) ?_
    refine V.goto hC d_X_sendOn_11 (tgt := 15) (by decide) ?_
    exact V.less (tv_le_some (tv_le_some (tv_le_some (tv_le_some (tv_le_some (tv_le_some (tv_le_some (tv_le_none (tv_le_none (tv_le_none tv_le_nil)))))))))) (c_X_sendOn_L15 hC hr hE σ a1 a2 a3 a4 a5 a6 (1 : Int32) k1 hf)
set_option maxHeartbeats 4000000 in
set_option maxRecDepth 100000 in
theorem c_X_send_L31 {X : tv_X} {r : Int32 × tm_S} (hC : tv_K X tb_X_send 5 "TrickleMesh" tm_wg tm_ns tm_cl tm_ty { frames := 3, cells := 0, slots := 0, locals := 75 }) (hr : tv_ret X (some .int)) (hE : tv_end X (tm_P (some (.int r.1)) r.2) 0 0) (σ : tm_S)   (hf : f_X_send_L31 σ  = some r) : V X 0 0 tm_n (hp σ) 31 [some (.ref 1), none, none, none, none] [] := by
  unfold f_X_send_L31 at hf
  refine V.blk hC [(.iconst (-1), 1)] 31 [some (.ref 1), none, none, none, none] [] ⟨d_X_send_31, trivial⟩ (show tv_run _ _ _ _ = some (32, [some (.ref 1), none, none, none, none], [.int (-1 : Int32)]) from rfl) ?_
  obtain rfl := Option.some.inj hf
  exact V.iret hC hr hE d_X_send_32 ⟨rfl, rfl, rfl⟩
set_option maxHeartbeats 4000000 in
set_option maxRecDepth 100000 in
theorem c_X_send_L57 {X : tv_X} {r : Int32 × tm_S} (hC : tv_K X tb_X_send 5 "TrickleMesh" tm_wg tm_ns tm_cl tm_ty { frames := 3, cells := 0, slots := 0, locals := 75 }) (hr : tv_ret X (some .int)) (hE : tv_end X (tm_P (some (.int r.1)) r.2) 0 0) (σ : tm_S)   (hf : f_X_send_L57 σ  = some r) : V X 0 0 tm_n (hp σ) 57 [some (.ref 1), none, none, none, none] [] := by
  unfold f_X_send_L57 at hf
  refine V.blk hC [(.iconst (-1), 1)] 57 [some (.ref 1), none, none, none, none] [] ⟨d_X_send_57, trivial⟩ (show tv_run _ _ _ _ = some (58, [some (.ref 1), none, none, none, none], [.int (-1 : Int32)]) from rfl) ?_
  obtain rfl := Option.some.inj hf
  exact V.iret hC hr hE d_X_send_58 ⟨rfl, rfl, rfl⟩
set_option maxHeartbeats 4000000 in
set_option maxRecDepth 100000 in
theorem c_X_send (σ : tm_S) (a1 : Int32) (a2 : Int32) (a3 : Int32) (a4 : Int32)  {r : Int32 × tm_S} (hf : f_X_send σ a1 a2 a3 a4 = some r) : tv_Met ty_X_send (Cond.code ty_X_send tb_X_send 5 (some .int) :: tm_wg) tm_ns tm_cl tm_ty 3 75 0 0 [.ref 1, .int a1, .int a2, .int a3, .int a4] tm_n (hp σ) (tm_P (some (.int r.1)) r.2) := by
  refine tv_Met.of (by decide) rfl (tm_le rfl) ?_
  intro X hC hnm hr hE
  have hC : tv_K X tb_X_send 5 "TrickleMesh" tm_wg tm_ns tm_cl tm_ty { frames := 3, cells := 0, slots := 0, locals := 75 } := hC
  show V X 0 0 tm_n (hp σ) 0 [some (.ref 1), some (.int a1), some (.int a2), some (.int a3), some (.int a4)] []
  unfold f_X_send at hf
  refine V.blk hC [(.iload_n 1, 1)] 0 [some (.ref 1), some (.int a1), some (.int a2), some (.int a3), some (.int a4)] [] ⟨d_X_send_0, trivial⟩ (show tv_run _ _ _ _ = some (1, [some (.ref 1), some (.int a1), some (.int a2), some (.int a3), some (.int a4)], [.int a1]) from rfl) ?_
  obtain ⟨q1, hq1, hf⟩ := tm_bd hf
  refine V.callS hC tm_nest rfl (c_X_isNode σ a1  hq1) (tm_gd tc_X_isNode) tg_X_62 th_X_isNode ⟨tm_le rfl, tm_le rfl, tm_le rfl, tm_le rfl⟩ (As := [.int a1]) (st := []) rfl (tm_le rfl) d_X_send_1 ?_
  rintro v n2 h2 ⟨rfl, rfl, rfl⟩
  show V X 0 0 tm_n (hp q1.2) 4 [some (.ref 1), some (.int a1), some (.int a2), some (.int a3), some (.int a4)] [.int q1.1]
  refine V.if_eq hC d_X_send_4 (tgt := 31) (by decide) (fun hc => ?_) (fun hc => ?_)
  · rw [if_pos hc] at hf
    exact V.less (tv_le_some (tv_le_none (tv_le_none (tv_le_none (tv_le_none tv_le_nil))))) (c_X_send_L31 hC hr hE q1.2   hf)
  · rw [if_neg hc] at hf
    refine V.blk hC [(.iload_n 2, 1)] 7 [some (.ref 1), some (.int a1), some (.int a2), some (.int a3), some (.int a4)] [] ⟨d_X_send_7, trivial⟩ (show tv_run _ _ _ _ = some (8, [some (.ref 1), some (.int a1), some (.int a2), some (.int a3), some (.int a4)], [.int a2]) from rfl) ?_
    obtain ⟨q2, hq2, hf⟩ := tm_bd hf
    refine V.callS hC tm_nest rfl (c_X_isNode q1.2 a2  hq2) (tm_gd tc_X_isNode) tg_X_62 th_X_isNode ⟨tm_le rfl, tm_le rfl, tm_le rfl, tm_le rfl⟩ (As := [.int a2]) (st := []) rfl (tm_le rfl) d_X_send_8 ?_
    rintro v n2 h2 ⟨rfl, rfl, rfl⟩
    show V X 0 0 tm_n (hp q2.2) 11 [some (.ref 1), some (.int a1), some (.int a2), some (.int a3), some (.int a4)] [.int q2.1]
    refine V.if_eq hC d_X_send_11 (tgt := 31) (by decide) (fun hc => ?_) (fun hc => ?_)
    · rw [if_pos hc] at hf
      exact V.less (tv_le_some (tv_le_none (tv_le_none (tv_le_none (tv_le_none tv_le_nil))))) (c_X_send_L31 hC hr hE q2.2   hf)
    · rw [if_neg hc] at hf
      refine V.blk hC [(.iload_n 1, 1), (.iload_n 2, 1)] 14 [some (.ref 1), some (.int a1), some (.int a2), some (.int a3), some (.int a4)] [] ⟨d_X_send_14, d_X_send_15, trivial⟩ (show tv_run _ _ _ _ = some (16, [some (.ref 1), some (.int a1), some (.int a2), some (.int a3), some (.int a4)], [.int a2, .int a1]) from rfl) ?_
      refine V.icmp_eq hC d_X_send_16 (tgt := 31) (by decide) (fun hc => ?_) (fun hc => ?_)
      · rw [if_pos hc] at hf
        exact V.less (tv_le_some (tv_le_none (tv_le_none (tv_le_none (tv_le_none tv_le_nil))))) (c_X_send_L31 hC hr hE q2.2   hf)
      · rw [if_neg hc] at hf
        refine V.blk hC [(.aload_n 0, 1)] 19 [some (.ref 1), some (.int a1), some (.int a2), some (.int a3), some (.int a4)] [] ⟨d_X_send_19, trivial⟩ (show tv_run _ _ _ _ = some (20, [some (.ref 1), some (.int a1), some (.int a2), some (.int a3), some (.int a4)], [.ref 1]) from rfl) ?_
        refine V.getf hC tf_X_11 (kd_in kd_1 (by decide)) (hp_at kd_1) rfl d_X_send_20 ?_
        show V X 0 0 tm_n (hp q2.2) 23 [some (.ref 1), some (.int a1), some (.int a2), some (.int a3), some (.int a4)] [.ref 2]
        refine V.blk hC [(.iload_n 1, 1)] 23 [some (.ref 1), some (.int a1), some (.int a2), some (.int a3), some (.int a4)] [.ref 2] ⟨d_X_send_23, trivial⟩ (show tv_run _ _ _ _ = some (24, [some (.ref 1), some (.int a1), some (.int a2), some (.int a3), some (.int a4)], [.int a1, .ref 2]) from rfl) ?_
        obtain ⟨hb3, hf⟩ := tm_if hf
        refine V.aald hC (kd_in kd_2 (by decide)) (hp_at kd_2) rfl rfl hb3 d_X_send_24 ?_
        show V X 0 0 tm_n (hp q2.2) 25 [some (.ref 1), some (.int a1), some (.int a2), some (.int a3), some (.int a4)] [.ref (11 + 17 * a1.toNatClampNeg)]
        refine V.getf hC tf_X_66 (kd_in (kd_nodes hb3) (by decide)) (hp_at (kd_nodes hb3)) rfl d_X_send_25 ?_
        show V X 0 0 tm_n (hp q2.2) 28 [some (.ref 1), some (.int a1), some (.int a2), some (.int a3), some (.int a4)] [.int (q2.2.1 (11 + 17 * a1.toNatClampNeg) 9)]
        refine V.if_ne hC d_X_send_28 (tgt := 33) (by decide) (fun hc => ?_) (fun hc => ?_)
        · rw [if_neg hc] at hf
          refine V.blk hC [(.iload_n 3, 1), (.iconst 1, 1)] 33 [some (.ref 1), some (.int a1), some (.int a2), some (.int a3), some (.int a4)] [] ⟨d_X_send_33, d_X_send_34, trivial⟩ (show tv_run _ _ _ _ = some (35, [some (.ref 1), some (.int a1), some (.int a2), some (.int a3), some (.int a4)], [.int (1 : Int32), .int a3]) from rfl) ?_
          refine V.icmp_lt hC d_X_send_35 (tgt := 57) (by decide) (fun hc => ?_) (fun hc => ?_)
          · rw [if_pos hc] at hf
            exact V.less (tv_le_some (tv_le_none (tv_le_none (tv_le_none (tv_le_none tv_le_nil))))) (c_X_send_L57 hC hr hE q2.2   hf)
          · rw [if_neg hc] at hf
            refine V.blk hC [(.iload_n 3, 1), (.bipush 15, 2)] 38 [some (.ref 1), some (.int a1), some (.int a2), some (.int a3), some (.int a4)] [] ⟨d_X_send_38, d_X_send_39, trivial⟩ (show tv_run _ _ _ _ = some (41, [some (.ref 1), some (.int a1), some (.int a2), some (.int a3), some (.int a4)], [.int (15 : Int32), .int a3]) from rfl) ?_
            refine V.icmp_gt hC d_X_send_41 (tgt := 57) (by decide) (fun hc => ?_) (fun hc => ?_)
            · rw [if_pos hc] at hf
              exact V.less (tv_le_some (tv_le_none (tv_le_none (tv_le_none (tv_le_none tv_le_nil))))) (c_X_send_L57 hC hr hE q2.2   hf)
            · rw [if_neg hc] at hf
              refine V.blk hC [(.iload 4, 2)] 44 [some (.ref 1), some (.int a1), some (.int a2), some (.int a3), some (.int a4)] [] ⟨d_X_send_44, trivial⟩ (show tv_run _ _ _ _ = some (46, [some (.ref 1), some (.int a1), some (.int a2), some (.int a3), some (.int a4)], [.int a4]) from rfl) ?_
              refine V.if_lt hC d_X_send_46 (tgt := 57) (by decide) (fun hc => ?_) (fun hc => ?_)
              · rw [if_pos hc] at hf
                exact V.less (tv_le_some (tv_le_none (tv_le_none (tv_le_none (tv_le_none tv_le_nil))))) (c_X_send_L57 hC hr hE q2.2   hf)
              · rw [if_neg hc] at hf
                refine V.blk hC [(.iload 4, 2), (.sipush 999, 3)] 49 [some (.ref 1), some (.int a1), some (.int a2), some (.int a3), some (.int a4)] [] ⟨d_X_send_49, d_X_send_51, trivial⟩ (show tv_run _ _ _ _ = some (54, [some (.ref 1), some (.int a1), some (.int a2), some (.int a3), some (.int a4)], [.int (999 : Int32), .int a4]) from rfl) ?_
                refine V.icmp_le hC d_X_send_54 (tgt := 59) (by decide) (fun hc => ?_) (fun hc => ?_)
                · rw [if_pos hc] at hf
                  refine V.blk hC [(.aload_n 0, 1), (.dup, 1)] 59 [some (.ref 1), some (.int a1), some (.int a2), some (.int a3), some (.int a4)] [] ⟨d_X_send_59, d_X_send_60, trivial⟩ (show tv_run _ _ _ _ = some (61, [some (.ref 1), some (.int a1), some (.int a2), some (.int a3), some (.int a4)], [.ref 1, .ref 1]) from rfl) ?_
                  refine V.getf hC tf_X_84 (kd_in kd_1 (by decide)) (hp_at kd_1) rfl d_X_send_61 ?_
                  show V X 0 0 tm_n (hp q2.2) 64 [some (.ref 1), some (.int a1), some (.int a2), some (.int a3), some (.int a4)] [.int (q2.2.1 1 7), .ref 1]
                  refine V.blk hC [(.iconst 1, 1), (.iadd, 1)] 64 [some (.ref 1), some (.int a1), some (.int a2), some (.int a3), some (.int a4)] [.int (q2.2.1 1 7), .ref 1] ⟨d_X_send_64, d_X_send_65, trivial⟩ (show tv_run _ _ _ _ = some (66, [some (.ref 1), some (.int a1), some (.int a2), some (.int a3), some (.int a4)], [.int ((q2.2.1 1 7) + (1 : Int32)), .ref 1]) from rfl) ?_
                  obtain ⟨σ4, hσ4, hf⟩ := tm_ww hf
                  refine V.seti hC tf_X_84 tt_X to_X tn_X rfl (by decide +kernel) tm_fi kd_1 (kd_in kd_1 (by decide)) rfl rfl (tm_le rfl) d_X_send_66 ?_
                  rw [← hσ4]
                  refine V.blk hC [(.aload_n 0, 1), (.aload_n 0, 1)] 69 [some (.ref 1), some (.int a1), some (.int a2), some (.int a3), some (.int a4)] [] ⟨d_X_send_69, d_X_send_70, trivial⟩ (show tv_run _ _ _ _ = some (71, [some (.ref 1), some (.int a1), some (.int a2), some (.int a3), some (.int a4)], [.ref 1, .ref 1]) from rfl) ?_
                  refine V.getf hC tf_X_11 (kd_in kd_1 (by decide)) (hp_at kd_1) rfl d_X_send_71 ?_
                  show V X 0 0 tm_n (hp σ4) 74 [some (.ref 1), some (.int a1), some (.int a2), some (.int a3), some (.int a4)] [.ref 2, .ref 1]
                  refine V.blk hC [(.iload_n 1, 1)] 74 [some (.ref 1), some (.int a1), some (.int a2), some (.int a3), some (.int a4)] [.ref 2, .ref 1] ⟨d_X_send_74, trivial⟩ (show tv_run _ _ _ _ = some (75, [some (.ref 1), some (.int a1), some (.int a2), some (.int a3), some (.int a4)], [.int a1, .ref 2, .ref 1]) from rfl) ?_
                  obtain ⟨hb5, hf⟩ := tm_if hf
                  refine V.aald hC (kd_in kd_2 (by decide)) (hp_at kd_2) rfl rfl hb5 d_X_send_75 ?_
                  show V X 0 0 tm_n (hp σ4) 76 [some (.ref 1), some (.int a1), some (.int a2), some (.int a3), some (.int a4)] [.ref (11 + 17 * a1.toNatClampNeg), .ref 1]
                  refine V.blk hC [(.iload_n 1, 1), (.iload_n 2, 1), (.iload_n 3, 1), (.iload 4, 2), (.iconst 0, 1)] 76 [some (.ref 1), some (.int a1), some (.int a2), some (.int a3), some (.int a4)] [.ref (11 + 17 * a1.toNatClampNeg), .ref 1] ⟨d_X_send_76, d_X_send_77, d_X_send_78, d_X_send_79, d_X_send_81, trivial⟩ (show tv_run _ _ _ _ = some (82, [some (.ref 1), some (.int a1), some (.int a2), some (.int a3), some (.int a4)], [.int (0 : Int32), .int a4, .int a3, .int a2, .int a1, .ref (11 + 17 * a1.toNatClampNeg), .ref 1]) from rfl) ?_
                  obtain ⟨q6, hq6, hf⟩ := tm_bd hf
                  refine V.callV hC tm_nest rfl (c_X_sendOn σ4 (11 + 17 * a1.toNatClampNeg) a1 a2 a3 a4 (0 : Int32) (kd_nodes hb5) hq6) (tm_gd tc_X_sendOn) tg_X_87 th_X_sendOn ⟨tm_le rfl, tm_le rfl, tm_le rfl, tm_le rfl⟩ rfl (kd_in kd_1 (by decide)) (hp_at kd_1) (As := [.ref (11 + 17 * a1.toNatClampNeg), .int a1, .int a2, .int a3, .int a4, .int (0 : Int32)]) (st := []) rfl (tm_le rfl) d_X_send_82 ?_
                  rintro v n2 h2 ⟨rfl, rfl, rfl⟩
                  show V X 0 0 tm_n (hp q6) 85 [some (.ref 1), some (.int a1), some (.int a2), some (.int a3), some (.int a4)] []
                  refine V.blk hC [(.aload_n 0, 1)] 85 [some (.ref 1), some (.int a1), some (.int a2), some (.int a3), some (.int a4)] [] ⟨d_X_send_85, trivial⟩ (show tv_run _ _ _ _ = some (86, [some (.ref 1), some (.int a1), some (.int a2), some (.int a3), some (.int a4)], [.ref 1]) from rfl) ?_
                  refine V.getf hC tf_X_84 (kd_in kd_1 (by decide)) (hp_at kd_1) rfl d_X_send_86 ?_
                  show V X 0 0 tm_n (hp q6) 89 [some (.ref 1), some (.int a1), some (.int a2), some (.int a3), some (.int a4)] [.int (q6.1 1 7)]
                  obtain rfl := Option.some.inj hf
                  exact V.iret hC hr hE d_X_send_89 ⟨rfl, rfl, rfl⟩
                · rw [if_neg hc] at hf
                  exact V.less (tv_le_some (tv_le_none (tv_le_none (tv_le_none (tv_le_none tv_le_nil))))) (c_X_send_L57 hC hr hE q2.2   hf)
        · rw [if_pos hc] at hf
          exact V.less (tv_le_some (tv_le_none (tv_le_none (tv_le_none (tv_le_none tv_le_nil))))) (c_X_send_L31 hC hr hE q2.2   hf)
set_option maxHeartbeats 4000000 in
set_option maxRecDepth 100000 in
theorem c_X_rememberTheAir_L31 {X : tv_X} {r : tm_S} (hC : tv_K X tb_X_rememberTheAir 3 "TrickleMesh" tm_wg tm_ns tm_cl tm_ty { frames := 0, cells := 0, slots := 0, locals := 0 }) (hr : tv_ret X none) (hE : tv_end X (tm_P none r) 0 0) {rc : tm_S → Int32 → Option (tm_S)} (hrc : ∀ (σ : tm_S) (l1 : Int32), rc σ l1 = some r → V X 0 0 tm_n (hp σ) 2 [some (.ref 1), some (.int l1), none] []) (σ : tm_S) (l1 : Int32) (l2 : Nat) (s0 : Int32) (s1 : Nat) (kl2 : kd l2 = 6) (ks1 : kd s1 = 6) (hf : f_X_rememberTheAir_L31 rc σ l1 l2 s0 s1 = some r) : V X 0 0 tm_n (hp σ) 31 [some (.ref 1), some (.int l1), some (.ref l2)] [.int s0, .ref s1] := by
  unfold f_X_rememberTheAir_L31 at hf
  obtain ⟨hz4, hf⟩ := tm_if hf
  obtain ⟨σ2, hσ2, hf⟩ := tm_ww hf
  refine V.seti hC tf_X_208 tt_R to_R tn_R rfl (by decide +kernel) (tm_fz hz4) ks1 (kd_in ks1 (by decide)) rfl rfl (tm_le rfl) d_X_rememberTheAir_31 ?_
  rw [← hσ2]
  refine V.blk hC [(.aload_n 2, 1), (.iconst 0, 1)] 34 [some (.ref 1), some (.int l1), some (.ref l2)] [] ⟨d_X_rememberTheAir_34, d_X_rememberTheAir_35, trivial⟩ (show tv_run _ _ _ _ = some (36, [some (.ref 1), some (.int l1), some (.ref l2)], [.int (0 : Int32), .ref l2]) from rfl) ?_
  obtain ⟨σ3, hσ3, hf⟩ := tm_ww hf
  refine V.seti hC tf_X_205 tt_R to_R tn_R rfl (by decide +kernel) tm_fi kl2 (kd_in kl2 (by decide)) rfl rfl (tm_le rfl) d_X_rememberTheAir_36 ?_
  rw [← hσ3]
  refine V.blk hC [(.iinc 1 1, 3)] 39 [some (.ref 1), some (.int l1), some (.ref l2)] [] ⟨d_X_rememberTheAir_39, trivial⟩ (show tv_run _ _ _ _ = some (42, [some (.ref 1), some (.int (l1 + (1 : Int32))), some (.ref l2)], []) from rfl) ?_
  refine V.goto hC d_X_rememberTheAir_42 (tgt := 2) (by decide) ?_
  exact V.less (tv_le_some (tv_le_some (tv_le_none tv_le_nil))) (hrc σ3 (l1 + (1 : Int32))  hf)
set_option maxHeartbeats 4000000 in
set_option maxRecDepth 100000 in
theorem c_X_rememberTheAir_L2 {X : tv_X} {r : tm_S} (hC : tv_K X tb_X_rememberTheAir 3 "TrickleMesh" tm_wg tm_ns tm_cl tm_ty { frames := 0, cells := 0, slots := 0, locals := 0 }) (hr : tv_ret X none) (hE : tv_end X (tm_P none r) 0 0) : ∀ (k : Nat) (σ : tm_S) (l1 : Int32), f_X_rememberTheAir_L2 k σ l1 = some r → V X 0 0 tm_n (hp σ) 2 [some (.ref 1), some (.int l1), none] [] := by
  intro k
  induction k with
  | zero => intro σ l1  hf; simp only [f_X_rememberTheAir_L2] at hf; cases hf
  | succ k hrc =>
    intro σ l1  hf
    rw [f_X_rememberTheAir_L2] at hf
    refine V.blk hC [(.iload_n 1, 1), (.bipush 7, 2)] 2 [some (.ref 1), some (.int l1), none] [] ⟨d_X_rememberTheAir_2, d_X_rememberTheAir_3, trivial⟩ (show tv_run _ _ _ _ = some (5, [some (.ref 1), some (.int l1), none], [.int (7 : Int32), .int l1]) from rfl) ?_
    refine V.icmp_ge hC d_X_rememberTheAir_5 (tgt := 45) (by decide) (fun hc => ?_) (fun hc => ?_)
    · rw [if_pos hc] at hf
      obtain rfl := Option.some.inj hf
      exact V.vret hC hr hE d_X_rememberTheAir_45 ⟨rfl, rfl, rfl⟩
    · rw [if_neg hc] at hf
      refine V.blk hC [(.aload_n 0, 1)] 8 [some (.ref 1), some (.int l1), none] [] ⟨d_X_rememberTheAir_8, trivial⟩ (show tv_run _ _ _ _ = some (9, [some (.ref 1), some (.int l1), none], [.ref 1]) from rfl) ?_
      refine V.getf hC tf_X_11 (kd_in kd_1 (by decide)) (hp_at kd_1) rfl d_X_rememberTheAir_9 ?_
      show V X 0 0 tm_n (hp σ) 12 [some (.ref 1), some (.int l1), none] [.ref 2]
      refine V.blk hC [(.iload_n 1, 1)] 12 [some (.ref 1), some (.int l1), none] [.ref 2] ⟨d_X_rememberTheAir_12, trivial⟩ (show tv_run _ _ _ _ = some (13, [some (.ref 1), some (.int l1), none], [.int l1, .ref 2]) from rfl) ?_
      obtain ⟨hb1, hf⟩ := tm_if hf
      refine V.aald hC (kd_in kd_2 (by decide)) (hp_at kd_2) rfl rfl hb1 d_X_rememberTheAir_13 ?_
      show V X 0 0 tm_n (hp σ) 14 [some (.ref 1), some (.int l1), none] [.ref (11 + 17 * l1.toNatClampNeg)]
      refine V.getf hC tf_X_69 (kd_in (kd_nodes hb1) (by decide)) (hp_at (kd_nodes hb1)) rfl d_X_rememberTheAir_14 ?_
      show V X 0 0 tm_n (hp σ) 17 [some (.ref 1), some (.int l1), none] [.ref ((11 + 17 * l1.toNatClampNeg) + 1)]
      refine V.blk hC [(.astore_n 2, 1), (.aload_n 2, 1), (.aload_n 2, 1)] 17 [some (.ref 1), some (.int l1), none] [.ref ((11 + 17 * l1.toNatClampNeg) + 1)] ⟨d_X_rememberTheAir_17, d_X_rememberTheAir_18, d_X_rememberTheAir_19, trivial⟩ (show tv_run _ _ _ _ = some (20, [some (.ref 1), some (.int l1), some (.ref ((11 + 17 * l1.toNatClampNeg) + 1))], [.ref ((11 + 17 * l1.toNatClampNeg) + 1), .ref ((11 + 17 * l1.toNatClampNeg) + 1)]) from rfl) ?_
      refine V.getf hC tf_X_205 (kd_in (kd_5_6 (kd_nodes hb1)) (by decide)) (hp_at (kd_5_6 (kd_nodes hb1))) rfl d_X_rememberTheAir_20 ?_
      show V X 0 0 tm_n (hp σ) 23 [some (.ref 1), some (.int l1), some (.ref ((11 + 17 * l1.toNatClampNeg) + 1))] [.int (σ.1 ((11 + 17 * l1.toNatClampNeg) + 1) 5), .ref ((11 + 17 * l1.toNatClampNeg) + 1)]
      refine V.if_eq hC d_X_rememberTheAir_23 (tgt := 30) (by decide) (fun hc => ?_) (fun hc => ?_)
      · rw [if_pos hc] at hf
        refine V.blk hC [(.iconst 0, 1)] 30 [some (.ref 1), some (.int l1), some (.ref ((11 + 17 * l1.toNatClampNeg) + 1))] [.ref ((11 + 17 * l1.toNatClampNeg) + 1)] ⟨d_X_rememberTheAir_30, trivial⟩ (show tv_run _ _ _ _ = some (31, [some (.ref 1), some (.int l1), some (.ref ((11 + 17 * l1.toNatClampNeg) + 1))], [.int (0 : Int32), .ref ((11 + 17 * l1.toNatClampNeg) + 1)]) from rfl) ?_
        exact V.less (tv_le_some (tv_le_some (tv_le_some tv_le_nil))) (c_X_rememberTheAir_L31 hC hr hE hrc σ l1 ((11 + 17 * l1.toNatClampNeg) + 1) (0 : Int32) ((11 + 17 * l1.toNatClampNeg) + 1) (kd_5_6 (kd_nodes hb1)) (kd_5_6 (kd_nodes hb1)) hf)
      · rw [if_neg hc] at hf
        refine V.blk hC [(.iconst 1, 1)] 26 [some (.ref 1), some (.int l1), some (.ref ((11 + 17 * l1.toNatClampNeg) + 1))] [.ref ((11 + 17 * l1.toNatClampNeg) + 1)] ⟨d_X_rememberTheAir_26, trivial⟩ (show tv_run _ _ _ _ = some (27, [some (.ref 1), some (.int l1), some (.ref ((11 + 17 * l1.toNatClampNeg) + 1))], [.int (1 : Int32), .ref ((11 + 17 * l1.toNatClampNeg) + 1)]) from rfl) ?_
        refine V.goto hC d_X_rememberTheAir_27 (tgt := 31) (by decide) ?_
        exact V.less (tv_le_some (tv_le_some (tv_le_some tv_le_nil))) (c_X_rememberTheAir_L31 hC hr hE hrc σ l1 ((11 + 17 * l1.toNatClampNeg) + 1) (1 : Int32) ((11 + 17 * l1.toNatClampNeg) + 1) (kd_5_6 (kd_nodes hb1)) (kd_5_6 (kd_nodes hb1)) hf)
set_option maxHeartbeats 4000000 in
set_option maxRecDepth 100000 in
theorem c_X_rememberTheAir (σ : tm_S)   {r : tm_S} (hf : f_X_rememberTheAir σ  = some r) : tv_Met ty_X_rememberTheAir (Cond.code ty_X_rememberTheAir tb_X_rememberTheAir 3 none :: tm_wg) tm_ns tm_cl tm_ty 0 0 0 0 [.ref 1] tm_n (hp σ) (tm_P none r) := by
  refine tv_Met.of (by decide) rfl (tm_le rfl) ?_
  intro X hC hnm hr hE
  have hC : tv_K X tb_X_rememberTheAir 3 "TrickleMesh" tm_wg tm_ns tm_cl tm_ty { frames := 0, cells := 0, slots := 0, locals := 0 } := hC
  show V X 0 0 tm_n (hp σ) 0 [some (.ref 1), none, none] []
  unfold f_X_rememberTheAir at hf
  refine V.blk hC [(.iconst 0, 1), (.istore_n 1, 1)] 0 [some (.ref 1), none, none] [] ⟨d_X_rememberTheAir_0, d_X_rememberTheAir_1, trivial⟩ (show tv_run _ _ _ _ = some (2, [some (.ref 1), some (.int (0 : Int32)), none], []) from rfl) ?_
  exact V.less (tv_le_some (tv_le_some (tv_le_none tv_le_nil))) (c_X_rememberTheAir_L2 hC hr hE tm_fu σ (0 : Int32)  hf)
set_option maxHeartbeats 4000000 in
set_option maxRecDepth 100000 in
theorem c_X_seemsBusy_L39 {X : tv_X} {r : Int32 × tm_S} (hC : tv_K X tb_X_seemsBusy 3 "TrickleMesh" tm_wg tm_ns tm_cl tm_ty { frames := 0, cells := 0, slots := 0, locals := 0 }) (hr : tv_ret X (some .boolean)) (hE : tv_end X (tm_P (some (.int r.1)) r.2) 0 0) {rc : tm_S → Nat → Int32 → Option (Int32 × tm_S)} (hrc : ∀ (σ : tm_S) (l1 : Nat) (l2 : Int32) (kl1 : kd l1 = 5), rc σ l1 l2 = some r → V X 0 0 tm_n (hp σ) 2 [some (.ref 1), some (.ref l1), some (.int l2)] []) (σ : tm_S) (l1 : Nat) (l2 : Int32) (kl1 : kd l1 = 5) (hf : f_X_seemsBusy_L39 rc σ l1 l2 = some r) : V X 0 0 tm_n (hp σ) 39 [some (.ref 1), some (.ref l1), some (.int l2)] [] := by
  unfold f_X_seemsBusy_L39 at hf
  refine V.blk hC [(.iinc 2 1, 3)] 39 [some (.ref 1), some (.ref l1), some (.int l2)] [] ⟨d_X_seemsBusy_39, trivial⟩ (show tv_run _ _ _ _ = some (42, [some (.ref 1), some (.ref l1), some (.int (l2 + (1 : Int32)))], []) from rfl) ?_
  refine V.goto hC d_X_seemsBusy_42 (tgt := 2) (by decide) ?_
  exact V.less (tv_le_some (tv_le_some (tv_le_some tv_le_nil))) (hrc σ l1 (l2 + (1 : Int32)) kl1 hf)
set_option maxHeartbeats 4000000 in
set_option maxRecDepth 100000 in
theorem c_X_seemsBusy_L2 {X : tv_X} {r : Int32 × tm_S} (hC : tv_K X tb_X_seemsBusy 3 "TrickleMesh" tm_wg tm_ns tm_cl tm_ty { frames := 0, cells := 0, slots := 0, locals := 0 }) (hr : tv_ret X (some .boolean)) (hE : tv_end X (tm_P (some (.int r.1)) r.2) 0 0) : ∀ (k : Nat) (σ : tm_S) (l1 : Nat) (l2 : Int32) (kl1 : kd l1 = 5), f_X_seemsBusy_L2 k σ l1 l2 = some r → V X 0 0 tm_n (hp σ) 2 [some (.ref 1), some (.ref l1), some (.int l2)] [] := by
  intro k
  induction k with
  | zero => intro σ l1 l2 kl1 hf; simp only [f_X_seemsBusy_L2] at hf; cases hf
  | succ k hrc =>
    intro σ l1 l2 kl1 hf
    rw [f_X_seemsBusy_L2] at hf
    refine V.blk hC [(.iload_n 2, 1), (.bipush 7, 2)] 2 [some (.ref 1), some (.ref l1), some (.int l2)] [] ⟨d_X_seemsBusy_2, d_X_seemsBusy_3, trivial⟩ (show tv_run _ _ _ _ = some (5, [some (.ref 1), some (.ref l1), some (.int l2)], [.int (7 : Int32), .int l2]) from rfl) ?_
    refine V.icmp_ge hC d_X_seemsBusy_5 (tgt := 45) (by decide) (fun hc => ?_) (fun hc => ?_)
    · rw [if_pos hc] at hf
      refine V.blk hC [(.iconst 0, 1)] 45 [some (.ref 1), some (.ref l1), some (.int l2)] [] ⟨d_X_seemsBusy_45, trivial⟩ (show tv_run _ _ _ _ = some (46, [some (.ref 1), some (.ref l1), some (.int l2)], [.int (0 : Int32)]) from rfl) ?_
      obtain rfl := Option.some.inj hf
      exact V.zret hC hr hE (tm_nz (by decide)) d_X_seemsBusy_46 ⟨rfl, rfl, rfl⟩
    · rw [if_neg hc] at hf
      refine V.blk hC [(.aload_n 0, 1)] 8 [some (.ref 1), some (.ref l1), some (.int l2)] [] ⟨d_X_seemsBusy_8, trivial⟩ (show tv_run _ _ _ _ = some (9, [some (.ref 1), some (.ref l1), some (.int l2)], [.ref 1]) from rfl) ?_
      refine V.getf hC tf_X_17 (kd_in kd_1 (by decide)) (hp_at kd_1) rfl d_X_seemsBusy_9 ?_
      show V X 0 0 tm_n (hp σ) 12 [some (.ref 1), some (.ref l1), some (.int l2)] [.ref 3]
      refine V.blk hC [(.aload_n 1, 1)] 12 [some (.ref 1), some (.ref l1), some (.int l2)] [.ref 3] ⟨d_X_seemsBusy_12, trivial⟩ (show tv_run _ _ _ _ = some (13, [some (.ref 1), some (.ref l1), some (.int l2)], [.ref l1, .ref 3]) from rfl) ?_
      refine V.getf hC tf_X_221 (kd_in kl1 (by decide)) (hp_at kl1) rfl d_X_seemsBusy_13 ?_
      show V X 0 0 tm_n (hp σ) 16 [some (.ref 1), some (.ref l1), some (.int l2)] [.int (σ.1 l1 0), .ref 3]
      obtain ⟨hb1, hf⟩ := tm_if hf
      refine V.aald hC (kd_in kd_3 (by decide)) (hp_at kd_3) rfl rfl hb1 d_X_seemsBusy_16 ?_
      show V X 0 0 tm_n (hp σ) 17 [some (.ref 1), some (.ref l1), some (.int l2)] [.ref (4 + (σ.1 l1 0).toNatClampNeg)]
      refine V.blk hC [(.iload_n 2, 1)] 17 [some (.ref 1), some (.ref l1), some (.int l2)] [.ref (4 + (σ.1 l1 0).toNatClampNeg)] ⟨d_X_seemsBusy_17, trivial⟩ (show tv_run _ _ _ _ = some (18, [some (.ref 1), some (.ref l1), some (.int l2)], [.int l2, .ref (4 + (σ.1 l1 0).toNatClampNeg)]) from rfl) ?_
      obtain ⟨hb2, hf⟩ := tm_if hf
      refine V.iald hC (kd_in (kd_costs hb1) (by decide)) (hp_at (kd_costs hb1)) rfl hb2 d_X_seemsBusy_18 ?_
      show V X 0 0 tm_n (hp σ) 19 [some (.ref 1), some (.ref l1), some (.int l2)] [.int (σ.1 (4 + (σ.1 l1 0).toNatClampNeg) l2.toNatClampNeg)]
      refine V.if_le hC d_X_seemsBusy_19 (tgt := 39) (by decide) (fun hc => ?_) (fun hc => ?_)
      · rw [if_pos hc] at hf
        exact V.less (tv_le_some (tv_le_some (tv_le_some tv_le_nil))) (c_X_seemsBusy_L39 hC hr hE hrc σ l1 l2 kl1 hf)
      · rw [if_neg hc] at hf
        refine V.blk hC [(.aload_n 0, 1)] 22 [some (.ref 1), some (.ref l1), some (.int l2)] [] ⟨d_X_seemsBusy_22, trivial⟩ (show tv_run _ _ _ _ = some (23, [some (.ref 1), some (.ref l1), some (.int l2)], [.ref 1]) from rfl) ?_
        refine V.getf hC tf_X_11 (kd_in kd_1 (by decide)) (hp_at kd_1) rfl d_X_seemsBusy_23 ?_
        show V X 0 0 tm_n (hp σ) 26 [some (.ref 1), some (.ref l1), some (.int l2)] [.ref 2]
        refine V.blk hC [(.iload_n 2, 1)] 26 [some (.ref 1), some (.ref l1), some (.int l2)] [.ref 2] ⟨d_X_seemsBusy_26, trivial⟩ (show tv_run _ _ _ _ = some (27, [some (.ref 1), some (.ref l1), some (.int l2)], [.int l2, .ref 2]) from rfl) ?_
        obtain ⟨hb3, hf⟩ := tm_if hf
        refine V.aald hC (kd_in kd_2 (by decide)) (hp_at kd_2) rfl rfl hb3 d_X_seemsBusy_27 ?_
        show V X 0 0 tm_n (hp σ) 28 [some (.ref 1), some (.ref l1), some (.int l2)] [.ref (11 + 17 * l2.toNatClampNeg)]
        refine V.getf hC tf_X_69 (kd_in (kd_nodes hb3) (by decide)) (hp_at (kd_nodes hb3)) rfl d_X_seemsBusy_28 ?_
        show V X 0 0 tm_n (hp σ) 31 [some (.ref 1), some (.ref l1), some (.int l2)] [.ref ((11 + 17 * l2.toNatClampNeg) + 1)]
        refine V.getf hC tf_X_208 (kd_in (kd_5_6 (kd_nodes hb3)) (by decide)) (hp_at (kd_5_6 (kd_nodes hb3))) rfl d_X_seemsBusy_31 ?_
        show V X 0 0 tm_n (hp σ) 34 [some (.ref 1), some (.ref l1), some (.int l2)] [.int (σ.1 ((11 + 17 * l2.toNatClampNeg) + 1) 6)]
        refine V.if_eq hC d_X_seemsBusy_34 (tgt := 39) (by decide) (fun hc => ?_) (fun hc => ?_)
        · rw [if_pos hc] at hf
          exact V.less (tv_le_some (tv_le_some (tv_le_some tv_le_nil))) (c_X_seemsBusy_L39 hC hr hE hrc σ l1 l2 kl1 hf)
        · rw [if_neg hc] at hf
          refine V.blk hC [(.iconst 1, 1)] 37 [some (.ref 1), some (.ref l1), some (.int l2)] [] ⟨d_X_seemsBusy_37, trivial⟩ (show tv_run _ _ _ _ = some (38, [some (.ref 1), some (.ref l1), some (.int l2)], [.int (1 : Int32)]) from rfl) ?_
          obtain rfl := Option.some.inj hf
          exact V.zret hC hr hE (tm_nz (by decide)) d_X_seemsBusy_38 ⟨rfl, rfl, rfl⟩
set_option maxHeartbeats 4000000 in
set_option maxRecDepth 100000 in
theorem c_X_seemsBusy (σ : tm_S) (a1 : Nat) (k1 : kd a1 = 5) {r : Int32 × tm_S} (hf : f_X_seemsBusy σ a1 = some r) : tv_Met ty_X_seemsBusy (Cond.code ty_X_seemsBusy tb_X_seemsBusy 3 (some .boolean) :: tm_wg) tm_ns tm_cl tm_ty 0 0 0 0 [.ref 1, .ref a1] tm_n (hp σ) (tm_P (some (.int r.1)) r.2) := by
  refine tv_Met.of (by decide) rfl (tm_le rfl) ?_
  intro X hC hnm hr hE
  have hC : tv_K X tb_X_seemsBusy 3 "TrickleMesh" tm_wg tm_ns tm_cl tm_ty { frames := 0, cells := 0, slots := 0, locals := 0 } := hC
  show V X 0 0 tm_n (hp σ) 0 [some (.ref 1), some (.ref a1), none] []
  unfold f_X_seemsBusy at hf
  refine V.blk hC [(.iconst 0, 1), (.istore_n 2, 1)] 0 [some (.ref 1), some (.ref a1), none] [] ⟨d_X_seemsBusy_0, d_X_seemsBusy_1, trivial⟩ (show tv_run _ _ _ _ = some (2, [some (.ref 1), some (.ref a1), some (.int (0 : Int32))], []) from rfl) ?_
  exact V.less (tv_le_some (tv_le_some (tv_le_some tv_le_nil))) (c_X_seemsBusy_L2 hC hr hE tm_fu σ a1 (0 : Int32) k1 hf)
set_option maxHeartbeats 4000000 in
set_option maxRecDepth 100000 in
theorem c_X_removeFirst_L9 {X : tv_X} {r : tm_S} (hC : tv_K X tb_X_removeFirst 4 "TrickleMesh" tm_wg tm_ns tm_cl tm_ty { frames := 1, cells := 0, slots := 0, locals := 21 }) (hr : tv_ret X none) (hE : tv_end X (tm_P none r) 0 0) : ∀ (k : Nat) (σ : tm_S) (l1 : Nat) (l2 : Nat) (l3 : Int32) (kl1 : kd l1 = 6) (kl2 : kd l2 = 8), f_X_removeFirst_L9 k σ l1 l2 l3 = some r → V X 0 0 tm_n (hp σ) 9 [some (.ref 1), some (.ref l1), some (.ref l2), some (.int l3)] [] := by
  intro k
  induction k with
  | zero => intro σ l1 l2 l3 kl1 kl2 hf; simp only [f_X_removeFirst_L9] at hf; cases hf
  | succ k hrc =>
    intro σ l1 l2 l3 kl1 kl2 hf
    rw [f_X_removeFirst_L9] at hf
    refine V.blk hC [(.iload_n 3, 1), (.iconst 4, 1)] 9 [some (.ref 1), some (.ref l1), some (.ref l2), some (.int l3)] [] ⟨d_X_removeFirst_9, d_X_removeFirst_10, trivial⟩ (show tv_run _ _ _ _ = some (11, [some (.ref 1), some (.ref l1), some (.ref l2), some (.int l3)], [.int (4 : Int32), .int l3]) from rfl) ?_
    refine V.icmp_ge hC d_X_removeFirst_11 (tgt := 34) (by decide) (fun hc => ?_) (fun hc => ?_)
    · rw [if_pos hc] at hf
      refine V.blk hC [(.aload_n 1, 1)] 34 [some (.ref 1), some (.ref l1), some (.ref l2), some (.int l3)] [] ⟨d_X_removeFirst_34, trivial⟩ (show tv_run _ _ _ _ = some (35, [some (.ref 1), some (.ref l1), some (.ref l2), some (.int l3)], [.ref l1]) from rfl) ?_
      refine V.getf hC tf_X_169 (kd_in kl1 (by decide)) (hp_at kl1) rfl d_X_removeFirst_35 ?_
      show V X 0 0 tm_n (hp σ) 38 [some (.ref 1), some (.ref l1), some (.ref l2), some (.int l3)] [.ref (l1 + 1)]
      refine V.blk hC [(.iconst 3, 1), (.aload_n 2, 1)] 38 [some (.ref 1), some (.ref l1), some (.ref l2), some (.int l3)] [.ref (l1 + 1)] ⟨d_X_removeFirst_38, d_X_removeFirst_39, trivial⟩ (show tv_run _ _ _ _ = some (40, [some (.ref 1), some (.ref l1), some (.ref l2), some (.int l3)], [.ref l2, .int (3 : Int32), .ref (l1 + 1)]) from rfl) ?_
      obtain ⟨σ3, hσ3, hf⟩ := tm_ww hf
      refine V.setp hC (kd_6_7 kl1) kl2 (kd_in (kd_6_7 kl1) (by decide)) (kd_in kl2 (by decide)) (show ¬ ((3 : Int32) < 0 ∨ 4 ≤ (3 : Int32).toNatClampNeg) from by decide) d_X_removeFirst_40 ?_
      rw [← hσ3]
      refine V.blk hC [(.aload_n 1, 1), (.dup, 1)] 41 [some (.ref 1), some (.ref l1), some (.ref l2), some (.int l3)] [] ⟨d_X_removeFirst_41, d_X_removeFirst_42, trivial⟩ (show tv_run _ _ _ _ = some (43, [some (.ref 1), some (.ref l1), some (.ref l2), some (.int l3)], [.ref l1, .ref l1]) from rfl) ?_
      refine V.getf hC tf_X_73 (kd_in kl1 (by decide)) (hp_at kl1) rfl d_X_removeFirst_43 ?_
      show V X 0 0 tm_n (hp σ3) 46 [some (.ref 1), some (.ref l1), some (.ref l2), some (.int l3)] [.int (σ3.1 l1 1), .ref l1]
      refine V.blk hC [(.iconst 1, 1), (.isub, 1)] 46 [some (.ref 1), some (.ref l1), some (.ref l2), some (.int l3)] [.int (σ3.1 l1 1), .ref l1] ⟨d_X_removeFirst_46, d_X_removeFirst_47, trivial⟩ (show tv_run _ _ _ _ = some (48, [some (.ref 1), some (.ref l1), some (.ref l2), some (.int l3)], [.int ((σ3.1 l1 1) - (1 : Int32)), .ref l1]) from rfl) ?_
      obtain ⟨σ4, hσ4, hf⟩ := tm_ww hf
      refine V.seti hC tf_X_73 tt_R to_R tn_R rfl (by decide +kernel) tm_fi kl1 (kd_in kl1 (by decide)) rfl rfl (tm_le rfl) d_X_removeFirst_48 ?_
      rw [← hσ4]
      refine V.blk hC [(.aload_n 1, 1)] 51 [some (.ref 1), some (.ref l1), some (.ref l2), some (.int l3)] [] ⟨d_X_removeFirst_51, trivial⟩ (show tv_run _ _ _ _ = some (52, [some (.ref 1), some (.ref l1), some (.ref l2), some (.int l3)], [.ref l1]) from rfl) ?_
      refine V.getf hC tf_X_73 (kd_in kl1 (by decide)) (hp_at kl1) rfl d_X_removeFirst_52 ?_
      show V X 0 0 tm_n (hp σ4) 55 [some (.ref 1), some (.ref l1), some (.ref l2), some (.int l3)] [.int (σ4.1 l1 1)]
      refine V.if_le hC d_X_removeFirst_55 (tgt := 67) (by decide) (fun hc => ?_) (fun hc => ?_)
      · rw [if_pos hc] at hf
        obtain rfl := Option.some.inj hf
        exact V.vret hC hr hE d_X_removeFirst_67 ⟨rfl, rfl, rfl⟩
      · rw [if_neg hc] at hf
        refine V.blk hC [(.aload_n 1, 1), (.aload_n 0, 1), (.iconst 4, 1)] 58 [some (.ref 1), some (.ref l1), some (.ref l2), some (.int l3)] [] ⟨d_X_removeFirst_58, d_X_removeFirst_59, d_X_removeFirst_60, trivial⟩ (show tv_run _ _ _ _ = some (61, [some (.ref 1), some (.ref l1), some (.ref l2), some (.int l3)], [.int (4 : Int32), .ref 1, .ref l1]) from rfl) ?_
        obtain ⟨q5, hq5, hf⟩ := tm_bd hf
        refine V.callV hC tm_nest rfl (c_X_draw σ4 (4 : Int32)  hq5) (tm_gd tc_X_draw) tg_X_187 th_X_draw ⟨tm_le rfl, tm_le rfl, tm_le rfl, tm_le rfl⟩ rfl (kd_in kd_1 (by decide)) (hp_at kd_1) (As := [.int (4 : Int32)]) (st := [.ref l1]) rfl (tm_le rfl) d_X_removeFirst_61 ?_
        rintro v n2 h2 ⟨rfl, rfl, rfl⟩
        show V X 0 0 tm_n (hp q5.2) 64 [some (.ref 1), some (.ref l1), some (.ref l2), some (.int l3)] [.int q5.1, .ref l1]
        obtain ⟨q6, hq6, hf⟩ := tm_bd hf
        refine V.callV hC tm_nest rfl (c_R_beginFirst q5.2 l1 q5.1 kl1 hq6) (tm_gd tc_R_beginFirst) tg_X_191 th_R_beginFirst ⟨tm_le rfl, tm_le rfl, tm_le rfl, tm_le rfl⟩ rfl (kd_in kl1 (by decide)) (hp_at kl1) (As := [.int q5.1]) (st := []) rfl (tm_le rfl) d_X_removeFirst_64 ?_
        rintro v n2 h2 ⟨rfl, rfl, rfl⟩
        show V X 0 0 tm_n (hp q6) 67 [some (.ref 1), some (.ref l1), some (.ref l2), some (.int l3)] []
        obtain rfl := Option.some.inj hf
        exact V.vret hC hr hE d_X_removeFirst_67 ⟨rfl, rfl, rfl⟩
    · rw [if_neg hc] at hf
      refine V.blk hC [(.aload_n 1, 1)] 14 [some (.ref 1), some (.ref l1), some (.ref l2), some (.int l3)] [] ⟨d_X_removeFirst_14, trivial⟩ (show tv_run _ _ _ _ = some (15, [some (.ref 1), some (.ref l1), some (.ref l2), some (.int l3)], [.ref l1]) from rfl) ?_
      refine V.getf hC tf_X_169 (kd_in kl1 (by decide)) (hp_at kl1) rfl d_X_removeFirst_15 ?_
      show V X 0 0 tm_n (hp σ) 18 [some (.ref 1), some (.ref l1), some (.ref l2), some (.int l3)] [.ref (l1 + 1)]
      refine V.blk hC [(.iload_n 3, 1), (.iconst 1, 1), (.isub, 1), (.aload_n 1, 1)] 18 [some (.ref 1), some (.ref l1), some (.ref l2), some (.int l3)] [.ref (l1 + 1)] ⟨d_X_removeFirst_18, d_X_removeFirst_19, d_X_removeFirst_20, d_X_removeFirst_21, trivial⟩ (show tv_run _ _ _ _ = some (22, [some (.ref 1), some (.ref l1), some (.ref l2), some (.int l3)], [.ref l1, .int (l3 - (1 : Int32)), .ref (l1 + 1)]) from rfl) ?_
      refine V.getf hC tf_X_169 (kd_in kl1 (by decide)) (hp_at kl1) rfl d_X_removeFirst_22 ?_
      show V X 0 0 tm_n (hp σ) 25 [some (.ref 1), some (.ref l1), some (.ref l2), some (.int l3)] [.ref (l1 + 1), .int (l3 - (1 : Int32)), .ref (l1 + 1)]
      refine V.blk hC [(.iload_n 3, 1)] 25 [some (.ref 1), some (.ref l1), some (.ref l2), some (.int l3)] [.ref (l1 + 1), .int (l3 - (1 : Int32)), .ref (l1 + 1)] ⟨d_X_removeFirst_25, trivial⟩ (show tv_run _ _ _ _ = some (26, [some (.ref 1), some (.ref l1), some (.ref l2), some (.int l3)], [.int l3, .ref (l1 + 1), .int (l3 - (1 : Int32)), .ref (l1 + 1)]) from rfl) ?_
      obtain ⟨hb7, hf⟩ := tm_if hf
      obtain ⟨r9, hr9, hf⟩ := tm_ww hf
      obtain ⟨hk8, hf⟩ := tm_if hf
      refine V.aald hC (kd_in (kd_6_7 kl1) (by decide)) (hp_at (kd_6_7 kl1)) rfl rfl hb7 d_X_removeFirst_26 ?_
      show V X 0 0 tm_n (hp σ) 27 [some (.ref 1), some (.ref l1), some (.ref l2), some (.int l3)] [.ref (σ.2 (l1 + 1) l3.toNatClampNeg), .int (l3 - (1 : Int32)), .ref (l1 + 1)]
      rw [← hr9]
      obtain ⟨hb10, hf⟩ := tm_if hf
      obtain ⟨σ11, hσ11, hf⟩ := tm_ww hf
      refine V.setp hC (kd_6_7 kl1) hk8 (kd_in (kd_6_7 kl1) (by decide)) (kd_in hk8 (by decide)) hb10 d_X_removeFirst_27 ?_
      rw [← hσ11]
      refine V.blk hC [(.iinc 3 1, 3)] 28 [some (.ref 1), some (.ref l1), some (.ref l2), some (.int l3)] [] ⟨d_X_removeFirst_28, trivial⟩ (show tv_run _ _ _ _ = some (31, [some (.ref 1), some (.ref l1), some (.ref l2), some (.int (l3 + (1 : Int32)))], []) from rfl) ?_
      refine V.goto hC d_X_removeFirst_31 (tgt := 9) (by decide) ?_
      exact V.less (tv_le_some (tv_le_some (tv_le_some (tv_le_some tv_le_nil)))) (hrc σ11 l1 l2 (l3 + (1 : Int32)) kl1 kl2 hf)
set_option maxHeartbeats 4000000 in
set_option maxRecDepth 100000 in
theorem c_X_removeFirst (σ : tm_S) (a1 : Nat) (k1 : kd a1 = 6) {r : tm_S} (hf : f_X_removeFirst σ a1 = some r) : tv_Met ty_X_removeFirst (Cond.code ty_X_removeFirst tb_X_removeFirst 4 none :: tm_wg) tm_ns tm_cl tm_ty 1 21 0 0 [.ref 1, .ref a1] tm_n (hp σ) (tm_P none r) := by
  refine tv_Met.of (by decide) rfl (tm_le rfl) ?_
  intro X hC hnm hr hE
  have hC : tv_K X tb_X_removeFirst 4 "TrickleMesh" tm_wg tm_ns tm_cl tm_ty { frames := 1, cells := 0, slots := 0, locals := 21 } := hC
  show V X 0 0 tm_n (hp σ) 0 [some (.ref 1), some (.ref a1), none, none] []
  unfold f_X_removeFirst at hf
  refine V.blk hC [(.aload_n 1, 1)] 0 [some (.ref 1), some (.ref a1), none, none] [] ⟨d_X_removeFirst_0, trivial⟩ (show tv_run _ _ _ _ = some (1, [some (.ref 1), some (.ref a1), none, none], [.ref a1]) from rfl) ?_
  refine V.getf hC tf_X_169 (kd_in k1 (by decide)) (hp_at k1) rfl d_X_removeFirst_1 ?_
  show V X 0 0 tm_n (hp σ) 4 [some (.ref 1), some (.ref a1), none, none] [.ref (a1 + 1)]
  refine V.blk hC [(.iconst 0, 1)] 4 [some (.ref 1), some (.ref a1), none, none] [.ref (a1 + 1)] ⟨d_X_removeFirst_4, trivial⟩ (show tv_run _ _ _ _ = some (5, [some (.ref 1), some (.ref a1), none, none], [.int (0 : Int32), .ref (a1 + 1)]) from rfl) ?_
  obtain ⟨r2, hr2, hf⟩ := tm_ww hf
  obtain ⟨hk1, hf⟩ := tm_if hf
  refine V.aald hC (kd_in (kd_6_7 k1) (by decide)) (hp_at (kd_6_7 k1)) rfl rfl (show ¬ ((0 : Int32) < 0 ∨ 4 ≤ (0 : Int32).toNatClampNeg) from by decide) d_X_removeFirst_5 ?_
  show V X 0 0 tm_n (hp σ) 6 [some (.ref 1), some (.ref a1), none, none] [.ref (σ.2 (a1 + 1) (0 : Int32).toNatClampNeg)]
  rw [← hr2]
  refine V.blk hC [(.astore_n 2, 1), (.iconst 1, 1), (.istore_n 3, 1)] 6 [some (.ref 1), some (.ref a1), none, none] [.ref r2] ⟨d_X_removeFirst_6, d_X_removeFirst_7, d_X_removeFirst_8, trivial⟩ (show tv_run _ _ _ _ = some (9, [some (.ref 1), some (.ref a1), some (.ref r2), some (.int (1 : Int32))], []) from rfl) ?_
  exact V.less (tv_le_some (tv_le_some (tv_le_some (tv_le_some tv_le_nil)))) (c_X_removeFirst_L9 hC hr hE tm_fu σ a1 r2 (1 : Int32) k1 hk1 hf)
set_option maxHeartbeats 4000000 in
set_option maxRecDepth 100000 in
theorem c_X_rankBelow (σ : tm_S) (a1 : Nat) (a2 : Int32) (k1 : kd a1 = 5) {r : Int32 × tm_S} (hf : f_X_rankBelow σ a1 a2 = some r) : tv_Met ty_X_rankBelow (Cond.code ty_X_rankBelow tb_X_rankBelow 3 (some .int) :: tm_wg) tm_ns tm_cl tm_ty 0 0 0 0 [.ref 1, .ref a1, .int a2] tm_n (hp σ) (tm_P (some (.int r.1)) r.2) := by
  refine tv_Met.of (by decide) rfl (tm_le rfl) ?_
  intro X hC hnm hr hE
  have hC : tv_K X tb_X_rankBelow 3 "TrickleMesh" tm_wg tm_ns tm_cl tm_ty { frames := 0, cells := 0, slots := 0, locals := 0 } := hC
  show V X 0 0 tm_n (hp σ) 0 [some (.ref 1), some (.ref a1), some (.int a2)] []
  unfold f_X_rankBelow at hf
  refine V.blk hC [(.aload_n 1, 1)] 0 [some (.ref 1), some (.ref a1), some (.int a2)] [] ⟨d_X_rankBelow_0, trivial⟩ (show tv_run _ _ _ _ = some (1, [some (.ref 1), some (.ref a1), some (.int a2)], [.ref a1]) from rfl) ?_
  refine V.getf hC tf_X_150 (kd_in k1 (by decide)) (hp_at k1) rfl d_X_rankBelow_1 ?_
  show V X 0 0 tm_n (hp σ) 4 [some (.ref 1), some (.ref a1), some (.int a2)] [.ref (a1 + 12)]
  refine V.blk hC [(.iload_n 2, 1)] 4 [some (.ref 1), some (.ref a1), some (.int a2)] [.ref (a1 + 12)] ⟨d_X_rankBelow_4, trivial⟩ (show tv_run _ _ _ _ = some (5, [some (.ref 1), some (.ref a1), some (.int a2)], [.int a2, .ref (a1 + 12)]) from rfl) ?_
  obtain ⟨hb1, hf⟩ := tm_if hf
  refine V.iald hC (kd_in (kd_5_12 k1) (by decide)) (hp_at (kd_5_12 k1)) rfl hb1 d_X_rankBelow_5 ?_
  show V X 0 0 tm_n (hp σ) 6 [some (.ref 1), some (.ref a1), some (.int a2)] [.int (σ.1 (a1 + 12) a2.toNatClampNeg)]
  refine V.blk hC [(.aload_n 0, 1)] 6 [some (.ref 1), some (.ref a1), some (.int a2)] [.int (σ.1 (a1 + 12) a2.toNatClampNeg)] ⟨d_X_rankBelow_6, trivial⟩ (show tv_run _ _ _ _ = some (7, [some (.ref 1), some (.ref a1), some (.int a2)], [.ref 1, .int (σ.1 (a1 + 12) a2.toNatClampNeg)]) from rfl) ?_
  refine V.getf hC tf_X_17 (kd_in kd_1 (by decide)) (hp_at kd_1) rfl d_X_rankBelow_7 ?_
  show V X 0 0 tm_n (hp σ) 10 [some (.ref 1), some (.ref a1), some (.int a2)] [.ref 3, .int (σ.1 (a1 + 12) a2.toNatClampNeg)]
  refine V.blk hC [(.aload_n 1, 1)] 10 [some (.ref 1), some (.ref a1), some (.int a2)] [.ref 3, .int (σ.1 (a1 + 12) a2.toNatClampNeg)] ⟨d_X_rankBelow_10, trivial⟩ (show tv_run _ _ _ _ = some (11, [some (.ref 1), some (.ref a1), some (.int a2)], [.ref a1, .ref 3, .int (σ.1 (a1 + 12) a2.toNatClampNeg)]) from rfl) ?_
  refine V.getf hC tf_X_221 (kd_in k1 (by decide)) (hp_at k1) rfl d_X_rankBelow_11 ?_
  show V X 0 0 tm_n (hp σ) 14 [some (.ref 1), some (.ref a1), some (.int a2)] [.int (σ.1 a1 0), .ref 3, .int (σ.1 (a1 + 12) a2.toNatClampNeg)]
  obtain ⟨hb2, hf⟩ := tm_if hf
  refine V.aald hC (kd_in kd_3 (by decide)) (hp_at kd_3) rfl rfl hb2 d_X_rankBelow_14 ?_
  show V X 0 0 tm_n (hp σ) 15 [some (.ref 1), some (.ref a1), some (.int a2)] [.ref (4 + (σ.1 a1 0).toNatClampNeg), .int (σ.1 (a1 + 12) a2.toNatClampNeg)]
  refine V.blk hC [(.iload_n 2, 1)] 15 [some (.ref 1), some (.ref a1), some (.int a2)] [.ref (4 + (σ.1 a1 0).toNatClampNeg), .int (σ.1 (a1 + 12) a2.toNatClampNeg)] ⟨d_X_rankBelow_15, trivial⟩ (show tv_run _ _ _ _ = some (16, [some (.ref 1), some (.ref a1), some (.int a2)], [.int a2, .ref (4 + (σ.1 a1 0).toNatClampNeg), .int (σ.1 (a1 + 12) a2.toNatClampNeg)]) from rfl) ?_
  obtain ⟨hb3, hf⟩ := tm_if hf
  refine V.iald hC (kd_in (kd_costs hb2) (by decide)) (hp_at (kd_costs hb2)) rfl hb3 d_X_rankBelow_16 ?_
  show V X 0 0 tm_n (hp σ) 17 [some (.ref 1), some (.ref a1), some (.int a2)] [.int (σ.1 (4 + (σ.1 a1 0).toNatClampNeg) a2.toNatClampNeg), .int (σ.1 (a1 + 12) a2.toNatClampNeg)]
  refine V.blk hC [(.iadd, 1)] 17 [some (.ref 1), some (.ref a1), some (.int a2)] [.int (σ.1 (4 + (σ.1 a1 0).toNatClampNeg) a2.toNatClampNeg), .int (σ.1 (a1 + 12) a2.toNatClampNeg)] ⟨d_X_rankBelow_17, trivial⟩ (show tv_run _ _ _ _ = some (18, [some (.ref 1), some (.ref a1), some (.int a2)], [.int ((σ.1 (a1 + 12) a2.toNatClampNeg) + (σ.1 (4 + (σ.1 a1 0).toNatClampNeg) a2.toNatClampNeg))]) from rfl) ?_
  obtain rfl := Option.some.inj hf
  exact V.iret hC hr hE d_X_rankBelow_18 ⟨rfl, rfl, rfl⟩
set_option maxHeartbeats 4000000 in
set_option maxRecDepth 100000 in
theorem c_X_isBetter_L33 {X : tv_X} {r : Int32 × tm_S} (hC : tv_K X tb_X_isBetter 5 "TrickleMesh" tm_wg tm_ns tm_cl tm_ty { frames := 1, cells := 0, slots := 0, locals := 22 }) (hr : tv_ret X (some .boolean)) (hE : tv_end X (tm_P (some (.int r.1)) r.2) 0 0) (σ : tm_S)   (hf : f_X_isBetter_L33 σ  = some r) : V X 0 0 tm_n (hp σ) 33 [some (.ref 1), none, none, none, none] [] := by
  unfold f_X_isBetter_L33 at hf
  refine V.blk hC [(.iconst 1, 1)] 33 [some (.ref 1), none, none, none, none] [] ⟨d_X_isBetter_33, trivial⟩ (show tv_run _ _ _ _ = some (34, [some (.ref 1), none, none, none, none], [.int (1 : Int32)]) from rfl) ?_
  refine V.goto hC d_X_isBetter_34 (tgt := 38) (by decide) ?_
  obtain rfl := Option.some.inj hf
  exact V.zret hC hr hE (tm_nz (by decide)) d_X_isBetter_38 ⟨rfl, rfl, rfl⟩
set_option maxHeartbeats 4000000 in
set_option maxRecDepth 100000 in
theorem c_X_isBetter_L37 {X : tv_X} {r : Int32 × tm_S} (hC : tv_K X tb_X_isBetter 5 "TrickleMesh" tm_wg tm_ns tm_cl tm_ty { frames := 1, cells := 0, slots := 0, locals := 22 }) (hr : tv_ret X (some .boolean)) (hE : tv_end X (tm_P (some (.int r.1)) r.2) 0 0) (σ : tm_S)   (hf : f_X_isBetter_L37 σ  = some r) : V X 0 0 tm_n (hp σ) 37 [some (.ref 1), none, none, none, none] [] := by
  unfold f_X_isBetter_L37 at hf
  refine V.blk hC [(.iconst 0, 1)] 37 [some (.ref 1), none, none, none, none] [] ⟨d_X_isBetter_37, trivial⟩ (show tv_run _ _ _ _ = some (38, [some (.ref 1), none, none, none, none], [.int (0 : Int32)]) from rfl) ?_
  obtain rfl := Option.some.inj hf
  exact V.zret hC hr hE (tm_nz (by decide)) d_X_isBetter_38 ⟨rfl, rfl, rfl⟩
set_option maxHeartbeats 4000000 in
set_option maxRecDepth 100000 in
theorem c_X_isBetter (σ : tm_S) (a1 : Nat) (a2 : Int32) (a3 : Int32) (k1 : kd a1 = 5) {r : Int32 × tm_S} (hf : f_X_isBetter σ a1 a2 a3 = some r) : tv_Met ty_X_isBetter (Cond.code ty_X_isBetter tb_X_isBetter 5 (some .boolean) :: tm_wg) tm_ns tm_cl tm_ty 1 22 0 0 [.ref 1, .ref a1, .int a2, .int a3] tm_n (hp σ) (tm_P (some (.int r.1)) r.2) := by
  refine tv_Met.of (by decide) rfl (tm_le rfl) ?_
  intro X hC hnm hr hE
  have hC : tv_K X tb_X_isBetter 5 "TrickleMesh" tm_wg tm_ns tm_cl tm_ty { frames := 1, cells := 0, slots := 0, locals := 22 } := hC
  show V X 0 0 tm_n (hp σ) 0 [some (.ref 1), some (.ref a1), some (.int a2), some (.int a3), none] []
  unfold f_X_isBetter at hf
  refine V.blk hC [(.aload_n 0, 1), (.aload_n 1, 1), (.iload_n 2, 1)] 0 [some (.ref 1), some (.ref a1), some (.int a2), some (.int a3), none] [] ⟨d_X_isBetter_0, d_X_isBetter_1, d_X_isBetter_2, trivial⟩ (show tv_run _ _ _ _ = some (3, [some (.ref 1), some (.ref a1), some (.int a2), some (.int a3), none], [.int a2, .ref a1, .ref 1]) from rfl) ?_
  obtain ⟨q1, hq1, hf⟩ := tm_bd hf
  refine V.callV hC tm_nest rfl (c_X_rankBelow σ a1 a2 k1 hq1) (tm_gd tc_X_rankBelow) tg_X_287 th_X_rankBelow ⟨tm_le rfl, tm_le rfl, tm_le rfl, tm_le rfl⟩ rfl (kd_in kd_1 (by decide)) (hp_at kd_1) (As := [.ref a1, .int a2]) (st := []) rfl (tm_le rfl) d_X_isBetter_3 ?_
  rintro v n2 h2 ⟨rfl, rfl, rfl⟩
  show V X 0 0 tm_n (hp q1.2) 6 [some (.ref 1), some (.ref a1), some (.int a2), some (.int a3), none] [.int q1.1]
  refine V.blk hC [(.aload_n 0, 1), (.aload_n 1, 1), (.iload_n 3, 1)] 6 [some (.ref 1), some (.ref a1), some (.int a2), some (.int a3), none] [.int q1.1] ⟨d_X_isBetter_6, d_X_isBetter_7, d_X_isBetter_8, trivial⟩ (show tv_run _ _ _ _ = some (9, [some (.ref 1), some (.ref a1), some (.int a2), some (.int a3), none], [.int a3, .ref a1, .ref 1, .int q1.1]) from rfl) ?_
  obtain ⟨q2, hq2, hf⟩ := tm_bd hf
  refine V.callV hC tm_nest rfl (c_X_rankBelow q1.2 a1 a3 k1 hq2) (tm_gd tc_X_rankBelow) tg_X_287 th_X_rankBelow ⟨tm_le rfl, tm_le rfl, tm_le rfl, tm_le rfl⟩ rfl (kd_in kd_1 (by decide)) (hp_at kd_1) (As := [.ref a1, .int a3]) (st := [.int q1.1]) rfl (tm_le rfl) d_X_isBetter_9 ?_
  rintro v n2 h2 ⟨rfl, rfl, rfl⟩
  show V X 0 0 tm_n (hp q2.2) 12 [some (.ref 1), some (.ref a1), some (.int a2), some (.int a3), none] [.int q2.1, .int q1.1]
  refine V.blk hC [(.isub, 1), (.istore 4, 2), (.iload 4, 2)] 12 [some (.ref 1), some (.ref a1), some (.int a2), some (.int a3), none] [.int q2.1, .int q1.1] ⟨d_X_isBetter_12, d_X_isBetter_13, d_X_isBetter_15, trivial⟩ (show tv_run _ _ _ _ = some (17, [some (.ref 1), some (.ref a1), some (.int a2), some (.int a3), some (.int (q1.1 - q2.1))], [.int (q1.1 - q2.1)]) from rfl) ?_
  refine V.if_lt hC d_X_isBetter_17 (tgt := 33) (by decide) (fun hc => ?_) (fun hc => ?_)
  · rw [if_pos hc] at hf
    exact V.less (tv_le_some (tv_le_none (tv_le_none (tv_le_none (tv_le_none tv_le_nil))))) (c_X_isBetter_L33 hC hr hE q2.2   hf)
  · rw [if_neg hc] at hf
    refine V.blk hC [(.iload 4, 2)] 20 [some (.ref 1), some (.ref a1), some (.int a2), some (.int a3), some (.int (q1.1 - q2.1))] [] ⟨d_X_isBetter_20, trivial⟩ (show tv_run _ _ _ _ = some (22, [some (.ref 1), some (.ref a1), some (.int a2), some (.int a3), some (.int (q1.1 - q2.1))], [.int (q1.1 - q2.1)]) from rfl) ?_
    refine V.if_ne hC d_X_isBetter_22 (tgt := 37) (by decide) (fun hc => ?_) (fun hc => ?_)
    · rw [if_neg hc] at hf
      exact V.less (tv_le_some (tv_le_none (tv_le_none (tv_le_none (tv_le_none tv_le_nil))))) (c_X_isBetter_L37 hC hr hE q2.2   hf)
    · rw [if_pos hc] at hf
      refine V.blk hC [(.iload_n 2, 1), (.aload_n 1, 1)] 25 [some (.ref 1), some (.ref a1), some (.int a2), some (.int a3), some (.int (q1.1 - q2.1))] [] ⟨d_X_isBetter_25, d_X_isBetter_26, trivial⟩ (show tv_run _ _ _ _ = some (27, [some (.ref 1), some (.ref a1), some (.int a2), some (.int a3), some (.int (q1.1 - q2.1))], [.ref a1, .int a2]) from rfl) ?_
      refine V.getf hC tf_X_115 (kd_in k1 (by decide)) (hp_at k1) rfl d_X_isBetter_27 ?_
      show V X 0 0 tm_n (hp q2.2) 30 [some (.ref 1), some (.ref a1), some (.int a2), some (.int a3), some (.int (q1.1 - q2.1))] [.int (q2.2.1 a1 12), .int a2]
      refine V.icmp_ne hC d_X_isBetter_30 (tgt := 37) (by decide) (fun hc => ?_) (fun hc => ?_)
      · rw [if_neg hc] at hf
        exact V.less (tv_le_some (tv_le_none (tv_le_none (tv_le_none (tv_le_none tv_le_nil))))) (c_X_isBetter_L37 hC hr hE q2.2   hf)
      · rw [if_pos hc] at hf
        exact V.less (tv_le_some (tv_le_none (tv_le_none (tv_le_none (tv_le_none tv_le_nil))))) (c_X_isBetter_L33 hC hr hE q2.2   hf)
set_option maxHeartbeats 4000000 in
set_option maxRecDepth 100000 in
theorem c_X_bestParent_L74 {X : tv_X} {r : Int32 × tm_S} (hC : tv_K X tb_X_bestParent 5 "TrickleMesh" tm_wg tm_ns tm_cl tm_ty { frames := 2, cells := 0, slots := 0, locals := 46 }) (hr : tv_ret X (some .int)) (hE : tv_end X (tm_P (some (.int r.1)) r.2) 0 0) {rc : tm_S → Nat → Int32 → Int32 → Option (Int32 × tm_S)} (hrc : ∀ (σ : tm_S) (l1 : Nat) (l2 : Int32) (l3 : Int32) (kl1 : kd l1 = 5), rc σ l1 l2 l3 = some r → V X 0 0 tm_n (hp σ) 4 [some (.ref 1), some (.ref l1), some (.int l2), some (.int l3), none] []) (σ : tm_S) (l1 : Nat) (l2 : Int32) (l3 : Int32) (kl1 : kd l1 = 5) (hf : f_X_bestParent_L74 rc σ l1 l2 l3 = some r) : V X 0 0 tm_n (hp σ) 74 [some (.ref 1), some (.ref l1), some (.int l2), some (.int l3), none] [] := by
  unfold f_X_bestParent_L74 at hf
  refine V.blk hC [(.iinc 3 1, 3)] 74 [some (.ref 1), some (.ref l1), some (.int l2), some (.int l3), none] [] ⟨d_X_bestParent_74, trivial⟩ (show tv_run _ _ _ _ = some (77, [some (.ref 1), some (.ref l1), some (.int l2), some (.int (l3 + (1 : Int32))), none], []) from rfl) ?_
  refine V.goto hC d_X_bestParent_77 (tgt := 4) (by decide) ?_
  exact V.less (tv_le_some (tv_le_some (tv_le_some (tv_le_some (tv_le_none tv_le_nil))))) (hrc σ l1 l2 (l3 + (1 : Int32)) kl1 hf)
set_option maxHeartbeats 4000000 in
set_option maxRecDepth 100000 in
theorem c_X_bestParent_L72 {X : tv_X} {r : Int32 × tm_S} (hC : tv_K X tb_X_bestParent 5 "TrickleMesh" tm_wg tm_ns tm_cl tm_ty { frames := 2, cells := 0, slots := 0, locals := 46 }) (hr : tv_ret X (some .int)) (hE : tv_end X (tm_P (some (.int r.1)) r.2) 0 0) {rc : tm_S → Nat → Int32 → Int32 → Option (Int32 × tm_S)} (hrc : ∀ (σ : tm_S) (l1 : Nat) (l2 : Int32) (l3 : Int32) (kl1 : kd l1 = 5), rc σ l1 l2 l3 = some r → V X 0 0 tm_n (hp σ) 4 [some (.ref 1), some (.ref l1), some (.int l2), some (.int l3), none] []) (σ : tm_S) (l1 : Nat) (l3 : Int32) (kl1 : kd l1 = 5) (hf : f_X_bestParent_L72 rc σ l1 l3 = some r) : V X 0 0 tm_n (hp σ) 72 [some (.ref 1), some (.ref l1), none, some (.int l3), none] [] := by
  unfold f_X_bestParent_L72 at hf
  refine V.blk hC [(.iload_n 3, 1), (.istore_n 2, 1)] 72 [some (.ref 1), some (.ref l1), none, some (.int l3), none] [] ⟨d_X_bestParent_72, d_X_bestParent_73, trivial⟩ (show tv_run _ _ _ _ = some (74, [some (.ref 1), some (.ref l1), some (.int l3), some (.int l3), none], []) from rfl) ?_
  exact V.less (tv_le_some (tv_le_some (tv_le_some (tv_le_some (tv_le_none tv_le_nil))))) (c_X_bestParent_L74 hC hr hE hrc σ l1 l3 l3 kl1 hf)
set_option maxHeartbeats 4000000 in
set_option maxRecDepth 100000 in
theorem c_X_bestParent_L50 {X : tv_X} {r : Int32 × tm_S} (hC : tv_K X tb_X_bestParent 5 "TrickleMesh" tm_wg tm_ns tm_cl tm_ty { frames := 2, cells := 0, slots := 0, locals := 46 }) (hr : tv_ret X (some .int)) (hE : tv_end X (tm_P (some (.int r.1)) r.2) 0 0) {rc : tm_S → Nat → Int32 → Int32 → Option (Int32 × tm_S)} (hrc : ∀ (σ : tm_S) (l1 : Nat) (l2 : Int32) (l3 : Int32) (kl1 : kd l1 = 5), rc σ l1 l2 l3 = some r → V X 0 0 tm_n (hp σ) 4 [some (.ref 1), some (.ref l1), some (.int l2), some (.int l3), none] []) (σ : tm_S) (l1 : Nat) (l2 : Int32) (l3 : Int32) (s0 : Int32) (kl1 : kd l1 = 5) (hf : f_X_bestParent_L50 rc σ l1 l2 l3 s0 = some r) : V X 0 0 tm_n (hp σ) 50 [some (.ref 1), some (.ref l1), some (.int l2), some (.int l3), none] [.int s0] := by
  unfold f_X_bestParent_L50 at hf
  refine V.blk hC [(.istore 4, 2), (.iload 4, 2)] 50 [some (.ref 1), some (.ref l1), some (.int l2), some (.int l3), none] [.int s0] ⟨d_X_bestParent_50, d_X_bestParent_52, trivial⟩ (show tv_run _ _ _ _ = some (54, [some (.ref 1), some (.ref l1), some (.int l2), some (.int l3), some (.int s0)], [.int s0]) from rfl) ?_
  refine V.if_eq hC d_X_bestParent_54 (tgt := 74) (by decide) (fun hc => ?_) (fun hc => ?_)
  · rw [if_pos hc] at hf
    exact V.less (tv_le_some (tv_le_some (tv_le_some (tv_le_some (tv_le_none tv_le_nil))))) (c_X_bestParent_L74 hC hr hE hrc σ l1 l2 l3 kl1 hf)
  · rw [if_neg hc] at hf
    refine V.blk hC [(.iload_n 2, 1), (.iconst (-1), 1)] 57 [some (.ref 1), some (.ref l1), some (.int l2), some (.int l3), some (.int s0)] [] ⟨d_X_bestParent_57, d_X_bestParent_58, trivial⟩ (show tv_run _ _ _ _ = some (59, [some (.ref 1), some (.ref l1), some (.int l2), some (.int l3), some (.int s0)], [.int (-1 : Int32), .int l2]) from rfl) ?_
    refine V.icmp_eq hC d_X_bestParent_59 (tgt := 72) (by decide) (fun hc => ?_) (fun hc => ?_)
    · rw [if_pos hc] at hf
      exact V.less (tv_le_some (tv_le_some (tv_le_none (tv_le_some (tv_le_none tv_le_nil))))) (c_X_bestParent_L72 hC hr hE hrc σ l1 l3 kl1 hf)
    · rw [if_neg hc] at hf
      refine V.blk hC [(.aload_n 0, 1), (.aload_n 1, 1), (.iload_n 3, 1), (.iload_n 2, 1)] 62 [some (.ref 1), some (.ref l1), some (.int l2), some (.int l3), some (.int s0)] [] ⟨d_X_bestParent_62, d_X_bestParent_63, d_X_bestParent_64, d_X_bestParent_65, trivial⟩ (show tv_run _ _ _ _ = some (66, [some (.ref 1), some (.ref l1), some (.int l2), some (.int l3), some (.int s0)], [.int l2, .int l3, .ref l1, .ref 1]) from rfl) ?_
      obtain ⟨q5, hq5, hf⟩ := tm_bd hf
      refine V.callV hC tm_nest rfl (c_X_isBetter σ l1 l3 l2 kl1 hq5) (tm_gd tc_X_isBetter) tg_X_291 th_X_isBetter ⟨tm_le rfl, tm_le rfl, tm_le rfl, tm_le rfl⟩ rfl (kd_in kd_1 (by decide)) (hp_at kd_1) (As := [.ref l1, .int l3, .int l2]) (st := []) rfl (tm_le rfl) d_X_bestParent_66 ?_
      rintro v n2 h2 ⟨rfl, rfl, rfl⟩
      show V X 0 0 tm_n (hp q5.2) 69 [some (.ref 1), some (.ref l1), some (.int l2), some (.int l3), some (.int s0)] [.int q5.1]
      refine V.if_eq hC d_X_bestParent_69 (tgt := 74) (by decide) (fun hc => ?_) (fun hc => ?_)
      · rw [if_pos hc] at hf
        exact V.less (tv_le_some (tv_le_some (tv_le_some (tv_le_some (tv_le_none tv_le_nil))))) (c_X_bestParent_L74 hC hr hE hrc q5.2 l1 l2 l3 kl1 hf)
      · rw [if_neg hc] at hf
        exact V.less (tv_le_some (tv_le_some (tv_le_none (tv_le_some (tv_le_none tv_le_nil))))) (c_X_bestParent_L72 hC hr hE hrc q5.2 l1 l3 kl1 hf)
