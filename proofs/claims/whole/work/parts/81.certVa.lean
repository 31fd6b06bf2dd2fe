set_option maxHeartbeats 4000000 in
set_option maxRecDepth 100000 in
theorem c1_X_draw (σ : tm_S) (a1 : Int32)  {r : Int32 × tm_S} (hf : f_X_draw σ a1 = some r) : tv_Met ty_X_draw (Cond.code ty_X_draw tb_X_draw 2 (some .int) :: tm_wg) tm_ns tm_cl tm_ty 0 0 0 0 [.ref 1, .int a1] tm_n1 (hp σ) (tm_P1 (some (.int r.1)) r.2) := by
  refine tv_Met.of (by decide) rfl (tm_le rfl) ?_
  intro X hC hnm hr hE
  have hC : tv_K X tb_X_draw 2 "TrickleMesh" tm_wg tm_ns tm_cl tm_ty { frames := 0, cells := 0, slots := 0, locals := 0 } := hC
  show V X 0 0 tm_n1 (hp σ) 0 [some (.ref 1), some (.int a1)] []
  unfold f_X_draw at hf
  refine V.blk hC [(.aload_n 0, 1), (.aload_n 0, 1)] 0 [some (.ref 1), some (.int a1)] [] ⟨d_X_draw_0, d_X_draw_1, trivial⟩ (show tv_run _ _ _ _ = some (2, [some (.ref 1), some (.int a1)], [.ref 1, .ref 1]) from rfl) ?_
  refine V.getf hC tf_X_20 (kd_i1 kd_1 (by decide)) (hp_at kd_1) rfl d_X_draw_2 ?_
  show V X 0 0 tm_n1 (hp σ) 5 [some (.ref 1), some (.int a1)] [.int (σ.1 1 4), .ref 1]
  refine V.ldc hC tk_X_168 d_X_draw_5 ?_
  refine V.blk hC [(.imul, 1), (.sipush 12345, 3), (.iadd, 1)] 7 [some (.ref 1), some (.int a1)] [.int (1103515245 : Int32), .int (σ.1 1 4), .ref 1] ⟨d_X_draw_7, d_X_draw_8, d_X_draw_11, trivial⟩ (show tv_run _ _ _ _ = some (12, [some (.ref 1), some (.int a1)], [.int (((σ.1 1 4) * (1103515245 : Int32)) + (12345 : Int32)), .ref 1]) from rfl) ?_
  obtain ⟨σ1, hσ1, hf⟩ := tm_ww hf
  refine V.seti hC tf_X_20 tt_X to_X tn_X rfl (by decide +kernel) tm_fi kd_1 (kd_i1 kd_1 (by decide)) rfl rfl (tm_le rfl) d_X_draw_12 ?_
  rw [← hσ1]
  refine V.blk hC [(.iload_n 1, 1)] 15 [some (.ref 1), some (.int a1)] [] ⟨d_X_draw_15, trivial⟩ (show tv_run _ _ _ _ = some (16, [some (.ref 1), some (.int a1)], [.int a1]) from rfl) ?_
  refine V.if_le hC d_X_draw_16 (tgt := 31) (by decide) (fun hc => ?_) (fun hc => ?_)
  · rw [if_pos hc] at hf
    refine V.blk hC [(.iconst 0, 1)] 31 [some (.ref 1), some (.int a1)] [] ⟨d_X_draw_31, trivial⟩ (show tv_run _ _ _ _ = some (32, [some (.ref 1), some (.int a1)], [.int (0 : Int32)]) from rfl) ?_
    obtain rfl := Option.some.inj hf
    exact V.iret hC hr hE d_X_draw_32 ⟨rfl, rfl, rfl⟩
  · rw [if_neg hc] at hf
    refine V.blk hC [(.aload_n 0, 1)] 19 [some (.ref 1), some (.int a1)] [] ⟨d_X_draw_19, trivial⟩ (show tv_run _ _ _ _ = some (20, [some (.ref 1), some (.int a1)], [.ref 1]) from rfl) ?_
    refine V.getf hC tf_X_20 (kd_i1 kd_1 (by decide)) (hp_at kd_1) rfl d_X_draw_20 ?_
    show V X 0 0 tm_n1 (hp σ1) 23 [some (.ref 1), some (.int a1)] [.int (σ1.1 1 4)]
    refine V.blk hC [(.bipush 16, 2), (.iushr, 1), (.iload_n 1, 1)] 23 [some (.ref 1), some (.int a1)] [.int (σ1.1 1 4)] ⟨d_X_draw_23, d_X_draw_25, d_X_draw_26, trivial⟩ (show tv_run _ _ _ _ = some (27, [some (.ref 1), some (.int a1)], [.int a1, .int (((σ1.1 1 4).toUInt32 >>> ((16 : Int32).toUInt32 &&& Int32.toUInt32 31)).toInt32)]) from rfl) ?_
    obtain ⟨hn2, hf⟩ := tm_if hf
    refine V.irem hC d_X_draw_27 hn2 ?_
    refine V.goto hC d_X_draw_28 (tgt := 32) (by decide) ?_
    obtain rfl := Option.some.inj hf
    exact V.iret hC hr hE d_X_draw_32 ⟨rfl, rfl, rfl⟩
set_option maxHeartbeats 4000000 in
set_option maxRecDepth 100000 in
theorem c1_X_beginInterval (σ : tm_S) (a1 : Nat) (a2 : Int32) (k1 : kd a1 = 9) {r : tm_S} (hf : f_X_beginInterval σ a1 a2 = some r) : tv_Met ty_X_beginInterval (Cond.code ty_X_beginInterval tb_X_beginInterval 4 none :: tm_wg) tm_ns tm_cl tm_ty 1 21 0 0 [.ref 1, .ref a1, .int a2] tm_n1 (hp σ) (tm_P1 none r) := by
  refine tv_Met.of (by decide) rfl (tm_le rfl) ?_
  intro X hC hnm hr hE
  have hC : tv_K X tb_X_beginInterval 4 "TrickleMesh" tm_wg tm_ns tm_cl tm_ty { frames := 1, cells := 0, slots := 0, locals := 21 } := hC
  show V X 0 0 tm_n1 (hp σ) 0 [some (.ref 1), some (.ref a1), some (.int a2), none] []
  unfold f_X_beginInterval at hf
  refine V.blk hC [(.iload_n 2, 1), (.iconst 2, 1)] 0 [some (.ref 1), some (.ref a1), some (.int a2), none] [] ⟨d_X_beginInterval_0, d_X_beginInterval_1, trivial⟩ (show tv_run _ _ _ _ = some (2, [some (.ref 1), some (.ref a1), some (.int a2), none], [.int (2 : Int32), .int a2]) from rfl) ?_
  refine V.idiv hC d_X_beginInterval_2 (by decide) ?_
  refine V.blk hC [(.istore_n 3, 1), (.aload_n 1, 1), (.iload_n 2, 1)] 3 [some (.ref 1), some (.ref a1), some (.int a2), none] [.int (a2 / (2 : Int32))] ⟨d_X_beginInterval_3, d_X_beginInterval_4, d_X_beginInterval_5, trivial⟩ (show tv_run _ _ _ _ = some (6, [some (.ref 1), some (.ref a1), some (.int a2), some (.int (a2 / (2 : Int32)))], [.int a2, .ref a1]) from rfl) ?_
  obtain ⟨σ1, hσ1, hf⟩ := tm_ww hf
  refine V.seti hC tf_X_118 tt_T to_T tn_T rfl (by decide +kernel) tm_fi k1 (kd_i1 k1 (by decide)) rfl rfl (tm_le rfl) d_X_beginInterval_6 ?_
  rw [← hσ1]
  refine V.blk hC [(.aload_n 1, 1), (.iconst 0, 1)] 9 [some (.ref 1), some (.ref a1), some (.int a2), some (.int (a2 / (2 : Int32)))] [] ⟨d_X_beginInterval_9, d_X_beginInterval_10, trivial⟩ (show tv_run _ _ _ _ = some (11, [some (.ref 1), some (.ref a1), some (.int a2), some (.int (a2 / (2 : Int32)))], [.int (0 : Int32), .ref a1]) from rfl) ?_
  obtain ⟨σ2, hσ2, hf⟩ := tm_ww hf
  refine V.seti hC tf_X_121 tt_T to_T tn_T rfl (by decide +kernel) tm_fi k1 (kd_i1 k1 (by decide)) rfl rfl (tm_le rfl) d_X_beginInterval_11 ?_
  rw [← hσ2]
  refine V.blk hC [(.aload_n 1, 1), (.iconst 0, 1)] 14 [some (.ref 1), some (.ref a1), some (.int a2), some (.int (a2 / (2 : Int32)))] [] ⟨d_X_beginInterval_14, d_X_beginInterval_15, trivial⟩ (show tv_run _ _ _ _ = some (16, [some (.ref 1), some (.ref a1), some (.int a2), some (.int (a2 / (2 : Int32)))], [.int (0 : Int32), .ref a1]) from rfl) ?_
  obtain ⟨σ3, hσ3, hf⟩ := tm_ww hf
  refine V.seti hC tf_X_124 tt_T to_T tn_T rfl (by decide +kernel) tm_fi k1 (kd_i1 k1 (by decide)) rfl rfl (tm_le rfl) d_X_beginInterval_16 ?_
  rw [← hσ3]
  refine V.blk hC [(.aload_n 1, 1), (.iload_n 3, 1), (.aload_n 0, 1), (.iload_n 3, 1)] 19 [some (.ref 1), some (.ref a1), some (.int a2), some (.int (a2 / (2 : Int32)))] [] ⟨d_X_beginInterval_19, d_X_beginInterval_20, d_X_beginInterval_21, d_X_beginInterval_22, trivial⟩ (show tv_run _ _ _ _ = some (23, [some (.ref 1), some (.ref a1), some (.int a2), some (.int (a2 / (2 : Int32)))], [.int (a2 / (2 : Int32)), .ref 1, .int (a2 / (2 : Int32)), .ref a1]) from rfl) ?_
  obtain ⟨q4, hq4, hf⟩ := tm_bd hf
  refine V.callV hC tm_nest rfl (c1_X_draw σ3 (a2 / (2 : Int32))  hq4) (tm_gd tc_X_draw) tg_X_187 th_X_draw ⟨tm_le rfl, tm_le rfl, tm_le rfl, tm_le rfl⟩ rfl (kd_i1 kd_1 (by decide)) (hp_at kd_1) (As := [.int (a2 / (2 : Int32))]) (st := [.int (a2 / (2 : Int32)), .ref a1]) rfl (tm_le rfl) d_X_beginInterval_23 ?_
  rintro v n2 h2 ⟨rfl, rfl, rfl⟩
  show V X 0 0 tm_n1 (hp q4.2) 26 [some (.ref 1), some (.ref a1), some (.int a2), some (.int (a2 / (2 : Int32)))] [.int q4.1, .int (a2 / (2 : Int32)), .ref a1]
  refine V.blk hC [(.iadd, 1)] 26 [some (.ref 1), some (.ref a1), some (.int a2), some (.int (a2 / (2 : Int32)))] [.int q4.1, .int (a2 / (2 : Int32)), .ref a1] ⟨d_X_beginInterval_26, trivial⟩ (show tv_run _ _ _ _ = some (27, [some (.ref 1), some (.ref a1), some (.int a2), some (.int (a2 / (2 : Int32)))], [.int ((a2 / (2 : Int32)) + q4.1), .ref a1]) from rfl) ?_
  obtain ⟨σ5, hσ5, hf⟩ := tm_ww hf
  refine V.seti hC tf_X_258 tt_T to_T tn_T rfl (by decide +kernel) tm_fi k1 (kd_i1 k1 (by decide)) rfl rfl (tm_le rfl) d_X_beginInterval_27 ?_
  rw [← hσ5]
  obtain rfl := Option.some.inj hf
  exact V.vret hC hr hE d_X_beginInterval_30 ⟨rfl, rfl, rfl⟩
set_option maxHeartbeats 4000000 in
set_option maxRecDepth 100000 in
theorem c1_X_resetTimer (σ : tm_S) (a1 : Nat) (k1 : kd a1 = 5) {r : tm_S} (hf : f_X_resetTimer σ a1 = some r) : tv_Met ty_X_resetTimer (Cond.code ty_X_resetTimer tb_X_resetTimer 2 none :: tm_wg) tm_ns tm_cl tm_ty 2 44 0 0 [.ref 1, .ref a1] tm_n1 (hp σ) (tm_P1 none r) := by
  refine tv_Met.of (by decide) rfl (tm_le rfl) ?_
  intro X hC hnm hr hE
  have hC : tv_K X tb_X_resetTimer 2 "TrickleMesh" tm_wg tm_ns tm_cl tm_ty { frames := 2, cells := 0, slots := 0, locals := 44 } := hC
  show V X 0 0 tm_n1 (hp σ) 0 [some (.ref 1), some (.ref a1)] []
  unfold f_X_resetTimer at hf
  refine V.blk hC [(.aload_n 1, 1)] 0 [some (.ref 1), some (.ref a1)] [] ⟨d_X_resetTimer_0, trivial⟩ (show tv_run _ _ _ _ = some (1, [some (.ref 1), some (.ref a1)], [.ref a1]) from rfl) ?_
  refine V.getf hC tf_X_48 (kd_i1 k1 (by decide)) (hp_at k1) rfl d_X_resetTimer_1 ?_
  show V X 0 0 tm_n1 (hp σ) 4 [some (.ref 1), some (.ref a1)] [.ref (a1 + 11)]
  refine V.getf hC tf_X_52 (kd_i1 (kd_5_9 k1) (by decide)) (hp_at (kd_5_9 k1)) rfl d_X_resetTimer_4 ?_
  show V X 0 0 tm_n1 (hp σ) 7 [some (.ref 1), some (.ref a1)] [.int (σ.1 (a1 + 11) 0)]
  refine V.if_eq hC d_X_resetTimer_7 (tgt := 30) (by decide) (fun hc => ?_) (fun hc => ?_)
  · rw [if_pos hc] at hf
    obtain rfl := Option.some.inj hf
    exact V.vret hC hr hE d_X_resetTimer_30 ⟨rfl, rfl, rfl⟩
  · rw [if_neg hc] at hf
    refine V.blk hC [(.aload_n 1, 1)] 10 [some (.ref 1), some (.ref a1)] [] ⟨d_X_resetTimer_10, trivial⟩ (show tv_run _ _ _ _ = some (11, [some (.ref 1), some (.ref a1)], [.ref a1]) from rfl) ?_
    refine V.getf hC tf_X_48 (kd_i1 k1 (by decide)) (hp_at k1) rfl d_X_resetTimer_11 ?_
    show V X 0 0 tm_n1 (hp σ) 14 [some (.ref 1), some (.ref a1)] [.ref (a1 + 11)]
    refine V.getf hC tf_X_118 (kd_i1 (kd_5_9 k1) (by decide)) (hp_at (kd_5_9 k1)) rfl d_X_resetTimer_14 ?_
    show V X 0 0 tm_n1 (hp σ) 17 [some (.ref 1), some (.ref a1)] [.int (σ.1 (a1 + 11) 1)]
    refine V.blk hC [(.iconst 4, 1)] 17 [some (.ref 1), some (.ref a1)] [.int (σ.1 (a1 + 11) 1)] ⟨d_X_resetTimer_17, trivial⟩ (show tv_run _ _ _ _ = some (18, [some (.ref 1), some (.ref a1)], [.int (4 : Int32), .int (σ.1 (a1 + 11) 1)]) from rfl) ?_
    refine V.icmp_eq hC d_X_resetTimer_18 (tgt := 30) (by decide) (fun hc => ?_) (fun hc => ?_)
    · rw [if_pos hc] at hf
      obtain rfl := Option.some.inj hf
      exact V.vret hC hr hE d_X_resetTimer_30 ⟨rfl, rfl, rfl⟩
    · rw [if_neg hc] at hf
      refine V.blk hC [(.aload_n 0, 1), (.aload_n 1, 1)] 21 [some (.ref 1), some (.ref a1)] [] ⟨d_X_resetTimer_21, d_X_resetTimer_22, trivial⟩ (show tv_run _ _ _ _ = some (23, [some (.ref 1), some (.ref a1)], [.ref a1, .ref 1]) from rfl) ?_
      refine V.getf hC tf_X_48 (kd_i1 k1 (by decide)) (hp_at k1) rfl d_X_resetTimer_23 ?_
      show V X 0 0 tm_n1 (hp σ) 26 [some (.ref 1), some (.ref a1)] [.ref (a1 + 11), .ref 1]
      refine V.blk hC [(.iconst 4, 1)] 26 [some (.ref 1), some (.ref a1)] [.ref (a1 + 11), .ref 1] ⟨d_X_resetTimer_26, trivial⟩ (show tv_run _ _ _ _ = some (27, [some (.ref 1), some (.ref a1)], [.int (4 : Int32), .ref (a1 + 11), .ref 1]) from rfl) ?_
      obtain ⟨q1, hq1, hf⟩ := tm_bd hf
      refine V.callV hC tm_nest rfl (c1_X_beginInterval σ (a1 + 11) (4 : Int32) (kd_5_9 k1) hq1) (tm_gd tc_X_beginInterval) tg_X_261 th_X_beginInterval ⟨tm_le rfl, tm_le rfl, tm_le rfl, tm_le rfl⟩ rfl (kd_i1 kd_1 (by decide)) (hp_at kd_1) (As := [.ref (a1 + 11), .int (4 : Int32)]) (st := []) rfl (tm_le rfl) d_X_resetTimer_27 ?_
      rintro v n2 h2 ⟨rfl, rfl, rfl⟩
      show V X 0 0 tm_n1 (hp q1) 30 [some (.ref 1), some (.ref a1)] []
      obtain rfl := Option.some.inj hf
      exact V.vret hC hr hE d_X_resetTimer_30 ⟨rfl, rfl, rfl⟩
