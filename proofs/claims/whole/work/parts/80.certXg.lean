set_option maxHeartbeats 4000000 in
set_option maxRecDepth 100000 in
theorem c_X_settleWhatWasOnTheAir (σ : tm_S)   {r : tm_S} (hf : f_X_settleWhatWasOnTheAir σ  = some r) : tv_Met ty_X_settleWhatWasOnTheAir (Cond.code ty_X_settleWhatWasOnTheAir tb_X_settleWhatWasOnTheAir 3 none :: tm_wg) tm_ns tm_cl tm_ty 2 44 0 0 [.ref 1] tm_n (hp σ) (tm_P none r) := by
  refine tv_Met.of (by decide) rfl (tm_le rfl) ?_
  intro X hC hnm hr hE
  have hC : tv_K X tb_X_settleWhatWasOnTheAir 3 "TrickleMesh" tm_wg tm_ns tm_cl tm_ty { frames := 2, cells := 0, slots := 0, locals := 44 } := hC
  show V X 0 0 tm_n (hp σ) 0 [some (.ref 1), none, none] []
  unfold f_X_settleWhatWasOnTheAir at hf
  refine V.blk hC [(.iconst 0, 1), (.istore_n 1, 1)] 0 [some (.ref 1), none, none] [] ⟨d_X_settleWhatWasOnTheAir_0, d_X_settleWhatWasOnTheAir_1, trivial⟩ (show tv_run _ _ _ _ = some (2, [some (.ref 1), some (.int (0 : Int32)), none], []) from rfl) ?_
  exact V.less (tv_le_some (tv_le_some (tv_le_none tv_le_nil))) (c_X_settleWhatWasOnTheAir_L2 hC hr hE tm_fu σ (0 : Int32)  hf)
set_option maxHeartbeats 4000000 in
set_option maxRecDepth 100000 in
theorem c_X_settleWhatWasListenedFor_L85 {X : tv_X} {r : tm_S} (hC : tv_K X tb_X_settleWhatWasListenedFor 3 "TrickleMesh" tm_wg tm_ns tm_cl tm_ty { frames := 5, cells := 0, slots := 0, locals := 120 }) (hr : tv_ret X none) (hE : tv_end X (tm_P none r) 0 0) {rc : tm_S → Int32 → Option (tm_S)} (hrc : ∀ (σ : tm_S) (l1 : Int32), rc σ l1 = some r → V X 0 0 tm_n (hp σ) 2 [some (.ref 1), some (.int l1), none] []) (σ : tm_S) (l1 : Int32)  (hf : f_X_settleWhatWasListenedFor_L85 rc σ l1 = some r) : V X 0 0 tm_n (hp σ) 85 [some (.ref 1), some (.int l1), none] [] := by
  unfold f_X_settleWhatWasListenedFor_L85 at hf
  refine V.blk hC [(.iinc 1 1, 3)] 85 [some (.ref 1), some (.int l1), none] [] ⟨d_X_settleWhatWasListenedFor_85, trivial⟩ (show tv_run _ _ _ _ = some (88, [some (.ref 1), some (.int (l1 + (1 : Int32))), none], []) from rfl) ?_
  refine V.goto hC d_X_settleWhatWasListenedFor_88 (tgt := 2) (by decide) ?_
  exact V.less (tv_le_some (tv_le_some (tv_le_none tv_le_nil))) (hrc σ (l1 + (1 : Int32))  hf)
set_option maxHeartbeats 4000000 in
set_option maxRecDepth 100000 in
theorem c_X_settleWhatWasListenedFor_L2 {X : tv_X} {r : tm_S} (hC : tv_K X tb_X_settleWhatWasListenedFor 3 "TrickleMesh" tm_wg tm_ns tm_cl tm_ty { frames := 5, cells := 0, slots := 0, locals := 120 }) (hr : tv_ret X none) (hE : tv_end X (tm_P none r) 0 0) : ∀ (k : Nat) (σ : tm_S) (l1 : Int32), f_X_settleWhatWasListenedFor_L2 k σ l1 = some r → V X 0 0 tm_n (hp σ) 2 [some (.ref 1), some (.int l1), none] [] := by
  intro k
  induction k with
  | zero => intro σ l1  hf; simp only [f_X_settleWhatWasListenedFor_L2] at hf; cases hf
  | succ k hrc =>
    intro σ l1  hf
    rw [f_X_settleWhatWasListenedFor_L2] at hf
    refine V.blk hC [(.iload_n 1, 1), (.bipush 7, 2)] 2 [some (.ref 1), some (.int l1), none] [] ⟨d_X_settleWhatWasListenedFor_2, d_X_settleWhatWasListenedFor_3, trivial⟩ (show tv_run _ _ _ _ = some (5, [some (.ref 1), some (.int l1), none], [.int (7 : Int32), .int l1]) from rfl) ?_
    refine V.icmp_ge hC d_X_settleWhatWasListenedFor_5 (tgt := 91) (by decide) (fun hc => ?_) (fun hc => ?_)
    · rw [if_pos hc] at hf
      obtain rfl := Option.some.inj hf
      exact V.vret hC hr hE d_X_settleWhatWasListenedFor_91 ⟨rfl, rfl, rfl⟩
    · rw [if_neg hc] at hf
      refine V.blk hC [(.aload_n 0, 1)] 8 [some (.ref 1), some (.int l1), none] [] ⟨d_X_settleWhatWasListenedFor_8, trivial⟩ (show tv_run _ _ _ _ = some (9, [some (.ref 1), some (.int l1), none], [.ref 1]) from rfl) ?_
      refine V.getf hC tf_X_11 (kd_in kd_1 (by decide)) (hp_at kd_1) rfl d_X_settleWhatWasListenedFor_9 ?_
      show V X 0 0 tm_n (hp σ) 12 [some (.ref 1), some (.int l1), none] [.ref 2]
      refine V.blk hC [(.iload_n 1, 1)] 12 [some (.ref 1), some (.int l1), none] [.ref 2] ⟨d_X_settleWhatWasListenedFor_12, trivial⟩ (show tv_run _ _ _ _ = some (13, [some (.ref 1), some (.int l1), none], [.int l1, .ref 2]) from rfl) ?_
      obtain ⟨hb1, hf⟩ := tm_if hf
      refine V.aald hC (kd_in kd_2 (by decide)) (hp_at kd_2) rfl rfl hb1 d_X_settleWhatWasListenedFor_13 ?_
      show V X 0 0 tm_n (hp σ) 14 [some (.ref 1), some (.int l1), none] [.ref (11 + 17 * l1.toNatClampNeg)]
      refine V.getf hC tf_X_69 (kd_in (kd_nodes hb1) (by decide)) (hp_at (kd_nodes hb1)) rfl d_X_settleWhatWasListenedFor_14 ?_
      show V X 0 0 tm_n (hp σ) 17 [some (.ref 1), some (.int l1), none] [.ref ((11 + 17 * l1.toNatClampNeg) + 1)]
      refine V.blk hC [(.astore_n 2, 1), (.aload_n 2, 1)] 17 [some (.ref 1), some (.int l1), none] [.ref ((11 + 17 * l1.toNatClampNeg) + 1)] ⟨d_X_settleWhatWasListenedFor_17, d_X_settleWhatWasListenedFor_18, trivial⟩ (show tv_run _ _ _ _ = some (19, [some (.ref 1), some (.int l1), some (.ref ((11 + 17 * l1.toNatClampNeg) + 1))], [.ref ((11 + 17 * l1.toNatClampNeg) + 1)]) from rfl) ?_
      refine V.getf hC tf_X_81 (kd_in (kd_5_6 (kd_nodes hb1)) (by decide)) (hp_at (kd_5_6 (kd_nodes hb1))) rfl d_X_settleWhatWasListenedFor_19 ?_
      show V X 0 0 tm_n (hp σ) 22 [some (.ref 1), some (.int l1), some (.ref ((11 + 17 * l1.toNatClampNeg) + 1))] [.int (σ.1 ((11 + 17 * l1.toNatClampNeg) + 1) 9)]
      refine V.if_eq hC d_X_settleWhatWasListenedFor_22 (tgt := 85) (by decide) (fun hc => ?_) (fun hc => ?_)
      · rw [if_pos hc] at hf
        exact V.less (tv_le_some (tv_le_some (tv_le_none tv_le_nil))) (c_X_settleWhatWasListenedFor_L85 hC hr hE hrc σ l1  hf)
      · rw [if_neg hc] at hf
        refine V.blk hC [(.aload_n 2, 1)] 25 [some (.ref 1), some (.int l1), some (.ref ((11 + 17 * l1.toNatClampNeg) + 1))] [] ⟨d_X_settleWhatWasListenedFor_25, trivial⟩ (show tv_run _ _ _ _ = some (26, [some (.ref 1), some (.int l1), some (.ref ((11 + 17 * l1.toNatClampNeg) + 1))], [.ref ((11 + 17 * l1.toNatClampNeg) + 1)]) from rfl) ?_
        refine V.getf hC tf_X_205 (kd_in (kd_5_6 (kd_nodes hb1)) (by decide)) (hp_at (kd_5_6 (kd_nodes hb1))) rfl d_X_settleWhatWasListenedFor_26 ?_
        show V X 0 0 tm_n (hp σ) 29 [some (.ref 1), some (.int l1), some (.ref ((11 + 17 * l1.toNatClampNeg) + 1))] [.int (σ.1 ((11 + 17 * l1.toNatClampNeg) + 1) 5)]
        refine V.if_eq hC d_X_settleWhatWasListenedFor_29 (tgt := 35) (by decide) (fun hc => ?_) (fun hc => ?_)
        · rw [if_pos hc] at hf
          refine V.blk hC [(.aload_n 2, 1), (.iconst 0, 1)] 35 [some (.ref 1), some (.int l1), some (.ref ((11 + 17 * l1.toNatClampNeg) + 1))] [] ⟨d_X_settleWhatWasListenedFor_35, d_X_settleWhatWasListenedFor_36, trivial⟩ (show tv_run _ _ _ _ = some (37, [some (.ref 1), some (.int l1), some (.ref ((11 + 17 * l1.toNatClampNeg) + 1))], [.int (0 : Int32), .ref ((11 + 17 * l1.toNatClampNeg) + 1)]) from rfl) ?_
          obtain ⟨σ2, hσ2, hf⟩ := tm_ww hf
          refine V.seti hC tf_X_81 tt_R to_R tn_R rfl (by decide +kernel) (tm_fz (by decide)) (kd_5_6 (kd_nodes hb1)) (kd_in (kd_5_6 (kd_nodes hb1)) (by decide)) rfl rfl (tm_le rfl) d_X_settleWhatWasListenedFor_37 ?_
          rw [← hσ2]
          refine V.blk hC [(.aload_n 2, 1), (.dup, 1)] 40 [some (.ref 1), some (.int l1), some (.ref ((11 + 17 * l1.toNatClampNeg) + 1))] [] ⟨d_X_settleWhatWasListenedFor_40, d_X_settleWhatWasListenedFor_41, trivial⟩ (show tv_run _ _ _ _ = some (42, [some (.ref 1), some (.int l1), some (.ref ((11 + 17 * l1.toNatClampNeg) + 1))], [.ref ((11 + 17 * l1.toNatClampNeg) + 1), .ref ((11 + 17 * l1.toNatClampNeg) + 1)]) from rfl) ?_
          refine V.getf hC tf_X_133 (kd_in (kd_5_6 (kd_nodes hb1)) (by decide)) (hp_at (kd_5_6 (kd_nodes hb1))) rfl d_X_settleWhatWasListenedFor_42 ?_
          show V X 0 0 tm_n (hp σ2) 45 [some (.ref 1), some (.int l1), some (.ref ((11 + 17 * l1.toNatClampNeg) + 1))] [.int (σ2.1 ((11 + 17 * l1.toNatClampNeg) + 1) 4), .ref ((11 + 17 * l1.toNatClampNeg) + 1)]
          refine V.blk hC [(.iconst 1, 1), (.iadd, 1)] 45 [some (.ref 1), some (.int l1), some (.ref ((11 + 17 * l1.toNatClampNeg) + 1))] [.int (σ2.1 ((11 + 17 * l1.toNatClampNeg) + 1) 4), .ref ((11 + 17 * l1.toNatClampNeg) + 1)] ⟨d_X_settleWhatWasListenedFor_45, d_X_settleWhatWasListenedFor_46, trivial⟩ (show tv_run _ _ _ _ = some (47, [some (.ref 1), some (.int l1), some (.ref ((11 + 17 * l1.toNatClampNeg) + 1))], [.int ((σ2.1 ((11 + 17 * l1.toNatClampNeg) + 1) 4) + (1 : Int32)), .ref ((11 + 17 * l1.toNatClampNeg) + 1)]) from rfl) ?_
          obtain ⟨σ3, hσ3, hf⟩ := tm_ww hf
          refine V.seti hC tf_X_133 tt_R to_R tn_R rfl (by decide +kernel) tm_fi (kd_5_6 (kd_nodes hb1)) (kd_in (kd_5_6 (kd_nodes hb1)) (by decide)) rfl rfl (tm_le rfl) d_X_settleWhatWasListenedFor_47 ?_
          rw [← hσ3]
          refine V.blk hC [(.aload_n 2, 1)] 50 [some (.ref 1), some (.int l1), some (.ref ((11 + 17 * l1.toNatClampNeg) + 1))] [] ⟨d_X_settleWhatWasListenedFor_50, trivial⟩ (show tv_run _ _ _ _ = some (51, [some (.ref 1), some (.int l1), some (.ref ((11 + 17 * l1.toNatClampNeg) + 1))], [.ref ((11 + 17 * l1.toNatClampNeg) + 1)]) from rfl) ?_
          refine V.getf hC tf_X_133 (kd_in (kd_5_6 (kd_nodes hb1)) (by decide)) (hp_at (kd_5_6 (kd_nodes hb1))) rfl d_X_settleWhatWasListenedFor_51 ?_
          show V X 0 0 tm_n (hp σ3) 54 [some (.ref 1), some (.int l1), some (.ref ((11 + 17 * l1.toNatClampNeg) + 1))] [.int (σ3.1 ((11 + 17 * l1.toNatClampNeg) + 1) 4)]
          refine V.blk hC [(.iconst 4, 1)] 54 [some (.ref 1), some (.int l1), some (.ref ((11 + 17 * l1.toNatClampNeg) + 1))] [.int (σ3.1 ((11 + 17 * l1.toNatClampNeg) + 1) 4)] ⟨d_X_settleWhatWasListenedFor_54, trivial⟩ (show tv_run _ _ _ _ = some (55, [some (.ref 1), some (.int l1), some (.ref ((11 + 17 * l1.toNatClampNeg) + 1))], [.int (4 : Int32), .int (σ3.1 ((11 + 17 * l1.toNatClampNeg) + 1) 4)]) from rfl) ?_
          refine V.icmp_ne hC d_X_settleWhatWasListenedFor_55 (tgt := 71) (by decide) (fun hc => ?_) (fun hc => ?_)
          · rw [if_neg hc] at hf
            refine V.blk hC [(.aload_n 2, 1), (.iconst 0, 1)] 71 [some (.ref 1), some (.int l1), some (.ref ((11 + 17 * l1.toNatClampNeg) + 1))] [] ⟨d_X_settleWhatWasListenedFor_71, d_X_settleWhatWasListenedFor_72, trivial⟩ (show tv_run _ _ _ _ = some (73, [some (.ref 1), some (.int l1), some (.ref ((11 + 17 * l1.toNatClampNeg) + 1))], [.int (0 : Int32), .ref ((11 + 17 * l1.toNatClampNeg) + 1)]) from rfl) ?_
            obtain ⟨σ4, hσ4, hf⟩ := tm_ww hf
            refine V.seti hC tf_X_130 tt_R to_R tn_R rfl (by decide +kernel) tm_fi (kd_5_6 (kd_nodes hb1)) (kd_in (kd_5_6 (kd_nodes hb1)) (by decide)) rfl rfl (tm_le rfl) d_X_settleWhatWasListenedFor_73 ?_
            rw [← hσ4]
            refine V.blk hC [(.aload_n 2, 1), (.aload_n 0, 1), (.iconst 4, 1)] 76 [some (.ref 1), some (.int l1), some (.ref ((11 + 17 * l1.toNatClampNeg) + 1))] [] ⟨d_X_settleWhatWasListenedFor_76, d_X_settleWhatWasListenedFor_77, d_X_settleWhatWasListenedFor_78, trivial⟩ (show tv_run _ _ _ _ = some (79, [some (.ref 1), some (.int l1), some (.ref ((11 + 17 * l1.toNatClampNeg) + 1))], [.int (4 : Int32), .ref 1, .ref ((11 + 17 * l1.toNatClampNeg) + 1)]) from rfl) ?_
            obtain ⟨q5, hq5, hf⟩ := tm_bd hf
            refine V.callV hC tm_nest rfl (c_X_draw σ4 (4 : Int32)  hq5) (tm_gd tc_X_draw) tg_X_187 th_X_draw ⟨tm_le rfl, tm_le rfl, tm_le rfl, tm_le rfl⟩ rfl (kd_in kd_1 (by decide)) (hp_at kd_1) (As := [.int (4 : Int32)]) (st := [.ref ((11 + 17 * l1.toNatClampNeg) + 1)]) rfl (tm_le rfl) d_X_settleWhatWasListenedFor_79 ?_
            rintro v n2 h2 ⟨rfl, rfl, rfl⟩
            show V X 0 0 tm_n (hp q5.2) 82 [some (.ref 1), some (.int l1), some (.ref ((11 + 17 * l1.toNatClampNeg) + 1))] [.int q5.1, .ref ((11 + 17 * l1.toNatClampNeg) + 1)]
            obtain ⟨σ6, hσ6, hf⟩ := tm_ww hf
            refine V.seti hC tf_X_127 tt_R to_R tn_R rfl (by decide +kernel) tm_fi (kd_5_6 (kd_nodes hb1)) (kd_in (kd_5_6 (kd_nodes hb1)) (by decide)) rfl rfl (tm_le rfl) d_X_settleWhatWasListenedFor_82 ?_
            rw [← hσ6]
            exact V.less (tv_le_some (tv_le_some (tv_le_none tv_le_nil))) (c_X_settleWhatWasListenedFor_L85 hC hr hE hrc σ6 l1  hf)
          · rw [if_pos hc] at hf
            refine V.blk hC [(.aload_n 0, 1), (.aload_n 0, 1)] 58 [some (.ref 1), some (.int l1), some (.ref ((11 + 17 * l1.toNatClampNeg) + 1))] [] ⟨d_X_settleWhatWasListenedFor_58, d_X_settleWhatWasListenedFor_59, trivial⟩ (show tv_run _ _ _ _ = some (60, [some (.ref 1), some (.int l1), some (.ref ((11 + 17 * l1.toNatClampNeg) + 1))], [.ref 1, .ref 1]) from rfl) ?_
            refine V.getf hC tf_X_11 (kd_in kd_1 (by decide)) (hp_at kd_1) rfl d_X_settleWhatWasListenedFor_60 ?_
            show V X 0 0 tm_n (hp σ3) 63 [some (.ref 1), some (.int l1), some (.ref ((11 + 17 * l1.toNatClampNeg) + 1))] [.ref 2, .ref 1]
            refine V.blk hC [(.iload_n 1, 1)] 63 [some (.ref 1), some (.int l1), some (.ref ((11 + 17 * l1.toNatClampNeg) + 1))] [.ref 2, .ref 1] ⟨d_X_settleWhatWasListenedFor_63, trivial⟩ (show tv_run _ _ _ _ = some (64, [some (.ref 1), some (.int l1), some (.ref ((11 + 17 * l1.toNatClampNeg) + 1))], [.int l1, .ref 2, .ref 1]) from rfl) ?_
            obtain ⟨hb7, hf⟩ := tm_if hf
            refine V.aald hC (kd_in kd_2 (by decide)) (hp_at kd_2) rfl rfl hb7 d_X_settleWhatWasListenedFor_64 ?_
            show V X 0 0 tm_n (hp σ3) 65 [some (.ref 1), some (.int l1), some (.ref ((11 + 17 * l1.toNatClampNeg) + 1))] [.ref (11 + 17 * l1.toNatClampNeg), .ref 1]
            obtain ⟨q8, hq8, hf⟩ := tm_bd hf
            refine V.callV hC tm_nest rfl (c_X_failFirst σ3 (11 + 17 * l1.toNatClampNeg) (kd_nodes hb7) hq8) (tm_gd tc_X_failFirst) tg_X_218 th_X_failFirst ⟨tm_le rfl, tm_le rfl, tm_le rfl, tm_le rfl⟩ rfl (kd_in kd_1 (by decide)) (hp_at kd_1) (As := [.ref (11 + 17 * l1.toNatClampNeg)]) (st := []) rfl (tm_le rfl) d_X_settleWhatWasListenedFor_65 ?_
            rintro v n2 h2 ⟨rfl, rfl, rfl⟩
            show V X 0 0 tm_n (hp q8) 68 [some (.ref 1), some (.int l1), some (.ref ((11 + 17 * l1.toNatClampNeg) + 1))] []
            refine V.goto hC d_X_settleWhatWasListenedFor_68 (tgt := 85) (by decide) ?_
            exact V.less (tv_le_some (tv_le_some (tv_le_none tv_le_nil))) (c_X_settleWhatWasListenedFor_L85 hC hr hE hrc q8 l1  hf)
        · rw [if_neg hc] at hf
          refine V.goto hC d_X_settleWhatWasListenedFor_32 (tgt := 85) (by decide) ?_
          exact V.less (tv_le_some (tv_le_some (tv_le_none tv_le_nil))) (c_X_settleWhatWasListenedFor_L85 hC hr hE hrc σ l1  hf)
set_option maxHeartbeats 4000000 in
set_option maxRecDepth 100000 in
theorem c_X_settleWhatWasListenedFor (σ : tm_S)   {r : tm_S} (hf : f_X_settleWhatWasListenedFor σ  = some r) : tv_Met ty_X_settleWhatWasListenedFor (Cond.code ty_X_settleWhatWasListenedFor tb_X_settleWhatWasListenedFor 3 none :: tm_wg) tm_ns tm_cl tm_ty 5 120 0 0 [.ref 1] tm_n (hp σ) (tm_P none r) := by
  refine tv_Met.of (by decide) rfl (tm_le rfl) ?_
  intro X hC hnm hr hE
  have hC : tv_K X tb_X_settleWhatWasListenedFor 3 "TrickleMesh" tm_wg tm_ns tm_cl tm_ty { frames := 5, cells := 0, slots := 0, locals := 120 } := hC
  show V X 0 0 tm_n (hp σ) 0 [some (.ref 1), none, none] []
  unfold f_X_settleWhatWasListenedFor at hf
  refine V.blk hC [(.iconst 0, 1), (.istore_n 1, 1)] 0 [some (.ref 1), none, none] [] ⟨d_X_settleWhatWasListenedFor_0, d_X_settleWhatWasListenedFor_1, trivial⟩ (show tv_run _ _ _ _ = some (2, [some (.ref 1), some (.int (0 : Int32)), none], []) from rfl) ?_
  exact V.less (tv_le_some (tv_le_some (tv_le_none tv_le_nil))) (c_X_settleWhatWasListenedFor_L2 hC hr hE tm_fu σ (0 : Int32)  hf)
set_option maxHeartbeats 4000000 in
set_option maxRecDepth 100000 in
theorem c_X_enqueueOnce_L2 {X : tv_X} {r : tm_S} (hC : tv_K X tb_X_enqueueOnce 4 "TrickleMesh" tm_wg tm_ns tm_cl tm_ty { frames := 2, cells := 0, slots := 0, locals := 46 }) (hr : tv_ret X none) (hE : tv_end X (tm_P none r) 0 0) : ∀ (k : Nat) (σ : tm_S) (l1 : Nat) (l2 : Int32) (l3 : Int32) (kl1 : kd l1 = 5), f_X_enqueueOnce_L2 k σ l1 l2 l3 = some r → V X 0 0 tm_n (hp σ) 2 [some (.ref 1), some (.ref l1), some (.int l2), some (.int l3)] [] := by
  intro k
  induction k with
  | zero => intro σ l1 l2 l3 kl1 hf; simp only [f_X_enqueueOnce_L2] at hf; cases hf
  | succ k hrc =>
    intro σ l1 l2 l3 kl1 hf
    rw [f_X_enqueueOnce_L2] at hf
    refine V.blk hC [(.iload_n 3, 1), (.aload_n 1, 1)] 2 [some (.ref 1), some (.ref l1), some (.int l2), some (.int l3)] [] ⟨d_X_enqueueOnce_2, d_X_enqueueOnce_3, trivial⟩ (show tv_run _ _ _ _ = some (4, [some (.ref 1), some (.ref l1), some (.int l2), some (.int l3)], [.ref l1, .int l3]) from rfl) ?_
    refine V.getf hC tf_X_69 (kd_in kl1 (by decide)) (hp_at kl1) rfl d_X_enqueueOnce_4 ?_
    show V X 0 0 tm_n (hp σ) 7 [some (.ref 1), some (.ref l1), some (.int l2), some (.int l3)] [.ref (l1 + 1), .int l3]
    refine V.getf hC tf_X_73 (kd_in (kd_5_6 kl1) (by decide)) (hp_at (kd_5_6 kl1)) rfl d_X_enqueueOnce_7 ?_
    show V X 0 0 tm_n (hp σ) 10 [some (.ref 1), some (.ref l1), some (.int l2), some (.int l3)] [.int (σ.1 (l1 + 1) 1), .int l3]
    refine V.icmp_ge hC d_X_enqueueOnce_10 (tgt := 36) (by decide) (fun hc => ?_) (fun hc => ?_)
    · rw [if_pos hc] at hf
      refine V.blk hC [(.aload_n 0, 1), (.aload_n 1, 1), (.iload_n 2, 1), (.iconst (-1), 1)] 36 [some (.ref 1), some (.ref l1), some (.int l2), some (.int l3)] [] ⟨d_X_enqueueOnce_36, d_X_enqueueOnce_37, d_X_enqueueOnce_38, d_X_enqueueOnce_39, trivial⟩ (show tv_run _ _ _ _ = some (40, [some (.ref 1), some (.ref l1), some (.int l2), some (.int l3)], [.int (-1 : Int32), .int l2, .ref l1, .ref 1]) from rfl) ?_
      obtain ⟨q1, hq1, hf⟩ := tm_bd hf
      refine V.callV hC tm_nest rfl (c_X_enqueue σ l1 l2 (-1 : Int32) kl1 hq1) (tm_gd tc_X_enqueue) tg_X_194 th_X_enqueue ⟨tm_le rfl, tm_le rfl, tm_le rfl, tm_le rfl⟩ rfl (kd_in kd_1 (by decide)) (hp_at kd_1) (As := [.ref l1, .int l2, .int (-1 : Int32)]) (st := []) rfl (tm_le rfl) d_X_enqueueOnce_40 ?_
      rintro v n2 h2 ⟨rfl, rfl, rfl⟩
      show V X 0 0 tm_n (hp q1.2) 43 [some (.ref 1), some (.ref l1), some (.int l2), some (.int l3)] [va_rf q1.1]
      refine V.blk hC [(.pop, 1)] 43 [some (.ref 1), some (.ref l1), some (.int l2), some (.int l3)] [va_rf q1.1] ⟨d_X_enqueueOnce_43, trivial⟩ (show tv_run _ _ _ _ = some (44, [some (.ref 1), some (.ref l1), some (.int l2), some (.int l3)], []) from by cases hq_ : q1.1 <;> rfl) ?_
      obtain rfl := Option.some.inj hf
      exact V.vret hC hr hE d_X_enqueueOnce_44 ⟨rfl, rfl, rfl⟩
    · rw [if_neg hc] at hf
      refine V.blk hC [(.aload_n 1, 1)] 13 [some (.ref 1), some (.ref l1), some (.int l2), some (.int l3)] [] ⟨d_X_enqueueOnce_13, trivial⟩ (show tv_run _ _ _ _ = some (14, [some (.ref 1), some (.ref l1), some (.int l2), some (.int l3)], [.ref l1]) from rfl) ?_
      refine V.getf hC tf_X_69 (kd_in kl1 (by decide)) (hp_at kl1) rfl d_X_enqueueOnce_14 ?_
      show V X 0 0 tm_n (hp σ) 17 [some (.ref 1), some (.ref l1), some (.int l2), some (.int l3)] [.ref (l1 + 1)]
      refine V.getf hC tf_X_169 (kd_in (kd_5_6 kl1) (by decide)) (hp_at (kd_5_6 kl1)) rfl d_X_enqueueOnce_17 ?_
      show V X 0 0 tm_n (hp σ) 20 [some (.ref 1), some (.ref l1), some (.int l2), some (.int l3)] [.ref ((l1 + 1) + 1)]
      refine V.blk hC [(.iload_n 3, 1)] 20 [some (.ref 1), some (.ref l1), some (.int l2), some (.int l3)] [.ref ((l1 + 1) + 1)] ⟨d_X_enqueueOnce_20, trivial⟩ (show tv_run _ _ _ _ = some (21, [some (.ref 1), some (.ref l1), some (.int l2), some (.int l3)], [.int l3, .ref ((l1 + 1) + 1)]) from rfl) ?_
      obtain ⟨hb2, hf⟩ := tm_if hf
      obtain ⟨r4, hr4, hf⟩ := tm_ww hf
      obtain ⟨hk3, hf⟩ := tm_if hf
      refine V.aald hC (kd_in (kd_6_7 (kd_5_6 kl1)) (by decide)) (hp_at (kd_6_7 (kd_5_6 kl1))) rfl rfl hb2 d_X_enqueueOnce_21 ?_
      show V X 0 0 tm_n (hp σ) 22 [some (.ref 1), some (.ref l1), some (.int l2), some (.int l3)] [.ref (σ.2 ((l1 + 1) + 1) l3.toNatClampNeg)]
      rw [← hr4]
      refine V.getf hC tf_X_181 (kd_in hk3 (by decide)) (hp_at hk3) rfl d_X_enqueueOnce_22 ?_
      show V X 0 0 tm_n (hp σ) 25 [some (.ref 1), some (.ref l1), some (.int l2), some (.int l3)] [.int (σ.1 r4 1)]
      refine V.blk hC [(.iload_n 2, 1)] 25 [some (.ref 1), some (.ref l1), some (.int l2), some (.int l3)] [.int (σ.1 r4 1)] ⟨d_X_enqueueOnce_25, trivial⟩ (show tv_run _ _ _ _ = some (26, [some (.ref 1), some (.ref l1), some (.int l2), some (.int l3)], [.int l2, .int (σ.1 r4 1)]) from rfl) ?_
      refine V.icmp_ne hC d_X_enqueueOnce_26 (tgt := 30) (by decide) (fun hc => ?_) (fun hc => ?_)
      · rw [if_neg hc] at hf
        refine V.blk hC [(.iinc 3 1, 3)] 30 [some (.ref 1), some (.ref l1), some (.int l2), some (.int l3)] [] ⟨d_X_enqueueOnce_30, trivial⟩ (show tv_run _ _ _ _ = some (33, [some (.ref 1), some (.ref l1), some (.int l2), some (.int (l3 + (1 : Int32)))], []) from rfl) ?_
        refine V.goto hC d_X_enqueueOnce_33 (tgt := 2) (by decide) ?_
        exact V.less (tv_le_some (tv_le_some (tv_le_some (tv_le_some tv_le_nil)))) (hrc σ l1 l2 (l3 + (1 : Int32)) kl1 hf)
      · rw [if_pos hc] at hf
        obtain rfl := Option.some.inj hf
        exact V.vret hC hr hE d_X_enqueueOnce_29 ⟨rfl, rfl, rfl⟩
set_option maxHeartbeats 4000000 in
set_option maxRecDepth 100000 in
theorem c_X_enqueueOnce (σ : tm_S) (a1 : Nat) (a2 : Int32) (k1 : kd a1 = 5) {r : tm_S} (hf : f_X_enqueueOnce σ a1 a2 = some r) : tv_Met ty_X_enqueueOnce (Cond.code ty_X_enqueueOnce tb_X_enqueueOnce 4 none :: tm_wg) tm_ns tm_cl tm_ty 2 46 0 0 [.ref 1, .ref a1, .int a2] tm_n (hp σ) (tm_P none r) := by
  refine tv_Met.of (by decide) rfl (tm_le rfl) ?_
  intro X hC hnm hr hE
  have hC : tv_K X tb_X_enqueueOnce 4 "TrickleMesh" tm_wg tm_ns tm_cl tm_ty { frames := 2, cells := 0, slots := 0, locals := 46 } := hC
  show V X 0 0 tm_n (hp σ) 0 [some (.ref 1), some (.ref a1), some (.int a2), none] []
  unfold f_X_enqueueOnce at hf
  refine V.blk hC [(.iconst 0, 1), (.istore_n 3, 1)] 0 [some (.ref 1), some (.ref a1), some (.int a2), none] [] ⟨d_X_enqueueOnce_0, d_X_enqueueOnce_1, trivial⟩ (show tv_run _ _ _ _ = some (2, [some (.ref 1), some (.ref a1), some (.int a2), some (.int (0 : Int32))], []) from rfl) ?_
  exact V.less (tv_le_some (tv_le_some (tv_le_some (tv_le_some tv_le_nil)))) (c_X_enqueueOnce_L2 hC hr hE tm_fu σ a1 a2 (0 : Int32) k1 hf)
set_option maxHeartbeats 4000000 in
set_option maxRecDepth 100000 in
theorem c_X_runTimer_L43 {X : tv_X} {r : tm_S} (hC : tv_K X tb_X_runTimer 3 "TrickleMesh" tm_wg tm_ns tm_cl tm_ty { frames := 3, cells := 0, slots := 0, locals := 69 }) (hr : tv_ret X none) (hE : tv_end X (tm_P none r) 0 0) (σ : tm_S) (l2 : Nat) (kl2 : kd l2 = 9) (hf : f_X_runTimer_L43 σ l2 = some r) : V X 0 0 tm_n (hp σ) 43 [some (.ref 1), none, some (.ref l2)] [] := by
  unfold f_X_runTimer_L43 at hf
  refine V.blk hC [(.aload_n 2, 1)] 43 [some (.ref 1), none, some (.ref l2)] [] ⟨d_X_runTimer_43, trivial⟩ (show tv_run _ _ _ _ = some (44, [some (.ref 1), none, some (.ref l2)], [.ref l2]) from rfl) ?_
  refine V.getf hC tf_X_121 (kd_in kl2 (by decide)) (hp_at kl2) rfl d_X_runTimer_44 ?_
  show V X 0 0 tm_n (hp σ) 47 [some (.ref 1), none, some (.ref l2)] [.int (σ.1 l2 2)]
  refine V.blk hC [(.aload_n 2, 1)] 47 [some (.ref 1), none, some (.ref l2)] [.int (σ.1 l2 2)] ⟨d_X_runTimer_47, trivial⟩ (show tv_run _ _ _ _ = some (48, [some (.ref 1), none, some (.ref l2)], [.ref l2, .int (σ.1 l2 2)]) from rfl) ?_
  refine V.getf hC tf_X_118 (kd_in kl2 (by decide)) (hp_at kl2) rfl d_X_runTimer_48 ?_
  show V X 0 0 tm_n (hp σ) 51 [some (.ref 1), none, some (.ref l2)] [.int (σ.1 l2 1), .int (σ.1 l2 2)]
  refine V.icmp_ne hC d_X_runTimer_51 (tgt := 70) (by decide) (fun hc => ?_) (fun hc => ?_)
  · rw [if_neg hc] at hf
    obtain rfl := Option.some.inj hf
    exact V.vret hC hr hE d_X_runTimer_70 ⟨rfl, rfl, rfl⟩
  · rw [if_pos hc] at hf
    refine V.blk hC [(.aload_n 0, 1), (.aload_n 2, 1), (.bipush 64, 2), (.aload_n 2, 1)] 54 [some (.ref 1), none, some (.ref l2)] [] ⟨d_X_runTimer_54, d_X_runTimer_55, d_X_runTimer_56, d_X_runTimer_58, trivial⟩ (show tv_run _ _ _ _ = some (59, [some (.ref 1), none, some (.ref l2)], [.ref l2, .int (64 : Int32), .ref l2, .ref 1]) from rfl) ?_
    refine V.getf hC tf_X_118 (kd_in kl2 (by decide)) (hp_at kl2) rfl d_X_runTimer_59 ?_
    show V X 0 0 tm_n (hp σ) 62 [some (.ref 1), none, some (.ref l2)] [.int (σ.1 l2 1), .int (64 : Int32), .ref l2, .ref 1]
    refine V.blk hC [(.iconst 2, 1), (.imul, 1)] 62 [some (.ref 1), none, some (.ref l2)] [.int (σ.1 l2 1), .int (64 : Int32), .ref l2, .ref 1] ⟨d_X_runTimer_62, d_X_runTimer_63, trivial⟩ (show tv_run _ _ _ _ = some (64, [some (.ref 1), none, some (.ref l2)], [.int ((σ.1 l2 1) * (2 : Int32)), .int (64 : Int32), .ref l2, .ref 1]) from rfl) ?_
    refine V.mmin hC rfl tg_X_24 ⟨tm_le rfl, tm_le rfl, tm_le rfl, tm_le rfl⟩ d_X_runTimer_64 ?_
    obtain ⟨q3, hq3, hf⟩ := tm_bd hf
    refine V.callV hC tm_nest rfl (c_X_beginInterval σ l2 (if ((σ.1 l2 1) * (2 : Int32)) < (64 : Int32) then ((σ.1 l2 1) * (2 : Int32)) else (64 : Int32)) kl2 hq3) (tm_gd tc_X_beginInterval) tg_X_261 th_X_beginInterval ⟨tm_le rfl, tm_le rfl, tm_le rfl, tm_le rfl⟩ rfl (kd_in kd_1 (by decide)) (hp_at kd_1) (As := [.ref l2, .int (if ((σ.1 l2 1) * (2 : Int32)) < (64 : Int32) then ((σ.1 l2 1) * (2 : Int32)) else (64 : Int32))]) (st := []) rfl (tm_le rfl) d_X_runTimer_67 ?_
    rintro v n2 h2 ⟨rfl, rfl, rfl⟩
    show V X 0 0 tm_n (hp q3) 70 [some (.ref 1), none, some (.ref l2)] []
    obtain rfl := Option.some.inj hf
    exact V.vret hC hr hE d_X_runTimer_70 ⟨rfl, rfl, rfl⟩
set_option maxHeartbeats 4000000 in
set_option maxRecDepth 100000 in
theorem c_X_runTimer (σ : tm_S) (a1 : Nat) (k1 : kd a1 = 5) {r : tm_S} (hf : f_X_runTimer σ a1 = some r) : tv_Met ty_X_runTimer (Cond.code ty_X_runTimer tb_X_runTimer 3 none :: tm_wg) tm_ns tm_cl tm_ty 3 69 0 0 [.ref 1, .ref a1] tm_n (hp σ) (tm_P none r) := by
  refine tv_Met.of (by decide) rfl (tm_le rfl) ?_
  intro X hC hnm hr hE
  have hC : tv_K X tb_X_runTimer 3 "TrickleMesh" tm_wg tm_ns tm_cl tm_ty { frames := 3, cells := 0, slots := 0, locals := 69 } := hC
  show V X 0 0 tm_n (hp σ) 0 [some (.ref 1), some (.ref a1), none] []
  unfold f_X_runTimer at hf
  refine V.blk hC [(.aload_n 1, 1)] 0 [some (.ref 1), some (.ref a1), none] [] ⟨d_X_runTimer_0, trivial⟩ (show tv_run _ _ _ _ = some (1, [some (.ref 1), some (.ref a1), none], [.ref a1]) from rfl) ?_
  refine V.getf hC tf_X_48 (kd_in k1 (by decide)) (hp_at k1) rfl d_X_runTimer_1 ?_
  show V X 0 0 tm_n (hp σ) 4 [some (.ref 1), some (.ref a1), none] [.ref (a1 + 11)]
  refine V.blk hC [(.astore_n 2, 1), (.aload_n 2, 1), (.dup, 1)] 4 [some (.ref 1), some (.ref a1), none] [.ref (a1 + 11)] ⟨d_X_runTimer_4, d_X_runTimer_5, d_X_runTimer_6, trivial⟩ (show tv_run _ _ _ _ = some (7, [some (.ref 1), some (.ref a1), some (.ref (a1 + 11))], [.ref (a1 + 11), .ref (a1 + 11)]) from rfl) ?_
  refine V.getf hC tf_X_121 (kd_in (kd_5_9 k1) (by decide)) (hp_at (kd_5_9 k1)) rfl d_X_runTimer_7 ?_
  show V X 0 0 tm_n (hp σ) 10 [some (.ref 1), some (.ref a1), some (.ref (a1 + 11))] [.int (σ.1 (a1 + 11) 2), .ref (a1 + 11)]
  refine V.blk hC [(.iconst 1, 1), (.iadd, 1)] 10 [some (.ref 1), some (.ref a1), some (.ref (a1 + 11))] [.int (σ.1 (a1 + 11) 2), .ref (a1 + 11)] ⟨d_X_runTimer_10, d_X_runTimer_11, trivial⟩ (show tv_run _ _ _ _ = some (12, [some (.ref 1), some (.ref a1), some (.ref (a1 + 11))], [.int ((σ.1 (a1 + 11) 2) + (1 : Int32)), .ref (a1 + 11)]) from rfl) ?_
  obtain ⟨σ1, hσ1, hf⟩ := tm_ww hf
  refine V.seti hC tf_X_121 tt_T to_T tn_T rfl (by decide +kernel) tm_fi (kd_5_9 k1) (kd_in (kd_5_9 k1) (by decide)) rfl rfl (tm_le rfl) d_X_runTimer_12 ?_
  rw [← hσ1]
  refine V.blk hC [(.aload_n 2, 1)] 15 [some (.ref 1), some (.ref a1), some (.ref (a1 + 11))] [] ⟨d_X_runTimer_15, trivial⟩ (show tv_run _ _ _ _ = some (16, [some (.ref 1), some (.ref a1), some (.ref (a1 + 11))], [.ref (a1 + 11)]) from rfl) ?_
  refine V.getf hC tf_X_121 (kd_in (kd_5_9 k1) (by decide)) (hp_at (kd_5_9 k1)) rfl d_X_runTimer_16 ?_
  show V X 0 0 tm_n (hp σ1) 19 [some (.ref 1), some (.ref a1), some (.ref (a1 + 11))] [.int (σ1.1 (a1 + 11) 2)]
  refine V.blk hC [(.aload_n 2, 1)] 19 [some (.ref 1), some (.ref a1), some (.ref (a1 + 11))] [.int (σ1.1 (a1 + 11) 2)] ⟨d_X_runTimer_19, trivial⟩ (show tv_run _ _ _ _ = some (20, [some (.ref 1), some (.ref a1), some (.ref (a1 + 11))], [.ref (a1 + 11), .int (σ1.1 (a1 + 11) 2)]) from rfl) ?_
  refine V.getf hC tf_X_258 (kd_in (kd_5_9 k1) (by decide)) (hp_at (kd_5_9 k1)) rfl d_X_runTimer_20 ?_
  show V X 0 0 tm_n (hp σ1) 23 [some (.ref 1), some (.ref a1), some (.ref (a1 + 11))] [.int (σ1.1 (a1 + 11) 3), .int (σ1.1 (a1 + 11) 2)]
  refine V.icmp_ne hC d_X_runTimer_23 (tgt := 43) (by decide) (fun hc => ?_) (fun hc => ?_)
  · rw [if_neg hc] at hf
    exact V.less (tv_le_some (tv_le_none (tv_le_some tv_le_nil))) (c_X_runTimer_L43 hC hr hE σ1 (a1 + 11) (kd_5_9 k1) hf)
  · rw [if_pos hc] at hf
    refine V.blk hC [(.aload_n 2, 1)] 26 [some (.ref 1), some (.ref a1), some (.ref (a1 + 11))] [] ⟨d_X_runTimer_26, trivial⟩ (show tv_run _ _ _ _ = some (27, [some (.ref 1), some (.ref a1), some (.ref (a1 + 11))], [.ref (a1 + 11)]) from rfl) ?_
    refine V.getf hC tf_X_124 (kd_in (kd_5_9 k1) (by decide)) (hp_at (kd_5_9 k1)) rfl d_X_runTimer_27 ?_
    show V X 0 0 tm_n (hp σ1) 30 [some (.ref 1), some (.ref a1), some (.ref (a1 + 11))] [.int (σ1.1 (a1 + 11) 4)]
    refine V.blk hC [(.aload_n 0, 1)] 30 [some (.ref 1), some (.ref a1), some (.ref (a1 + 11))] [.int (σ1.1 (a1 + 11) 4)] ⟨d_X_runTimer_30, trivial⟩ (show tv_run _ _ _ _ = some (31, [some (.ref 1), some (.ref a1), some (.ref (a1 + 11))], [.ref 1, .int (σ1.1 (a1 + 11) 4)]) from rfl) ?_
    refine V.getf hC tf_X_36 (kd_in kd_1 (by decide)) (hp_at kd_1) rfl d_X_runTimer_31 ?_
    show V X 0 0 tm_n (hp σ1) 34 [some (.ref 1), some (.ref a1), some (.ref (a1 + 11))] [.int (σ1.1 1 1), .int (σ1.1 (a1 + 11) 4)]
    refine V.icmp_ge hC d_X_runTimer_34 (tgt := 43) (by decide) (fun hc => ?_) (fun hc => ?_)
    · rw [if_pos hc] at hf
      exact V.less (tv_le_some (tv_le_none (tv_le_some tv_le_nil))) (c_X_runTimer_L43 hC hr hE σ1 (a1 + 11) (kd_5_9 k1) hf)
    · rw [if_neg hc] at hf
      refine V.blk hC [(.aload_n 0, 1), (.aload_n 1, 1), (.iconst 2, 1)] 37 [some (.ref 1), some (.ref a1), some (.ref (a1 + 11))] [] ⟨d_X_runTimer_37, d_X_runTimer_38, d_X_runTimer_39, trivial⟩ (show tv_run _ _ _ _ = some (40, [some (.ref 1), some (.ref a1), some (.ref (a1 + 11))], [.int (2 : Int32), .ref a1, .ref 1]) from rfl) ?_
      obtain ⟨q2, hq2, hf⟩ := tm_bd hf
      refine V.callV hC tm_nest rfl (c_X_enqueueOnce σ1 a1 (2 : Int32) k1 hq2) (tm_gd tc_X_enqueueOnce) tg_X_247 th_X_enqueueOnce ⟨tm_le rfl, tm_le rfl, tm_le rfl, tm_le rfl⟩ rfl (kd_in kd_1 (by decide)) (hp_at kd_1) (As := [.ref a1, .int (2 : Int32)]) (st := []) rfl (tm_le rfl) d_X_runTimer_40 ?_
      rintro v n2 h2 ⟨rfl, rfl, rfl⟩
      show V X 0 0 tm_n (hp q2) 43 [some (.ref 1), some (.ref a1), some (.ref (a1 + 11))] []
      exact V.less (tv_le_some (tv_le_none (tv_le_some tv_le_nil))) (c_X_runTimer_L43 hC hr hE q2 (a1 + 11) (kd_5_9 k1) hf)
set_option maxHeartbeats 4000000 in
set_option maxRecDepth 100000 in
theorem c_X_runTimers_L112 {X : tv_X} {r : tm_S} (hC : tv_K X tb_X_runTimers 3 "TrickleMesh" tm_wg tm_ns tm_cl tm_ty { frames := 4, cells := 0, slots := 0, locals := 91 }) (hr : tv_ret X none) (hE : tv_end X (tm_P none r) 0 0) {rc : tm_S → Int32 → Option (tm_S)} (hrc : ∀ (σ : tm_S) (l1 : Int32), rc σ l1 = some r → V X 0 0 tm_n (hp σ) 2 [some (.ref 1), some (.int l1), none] []) (σ : tm_S) (l1 : Int32)  (hf : f_X_runTimers_L112 rc σ l1 = some r) : V X 0 0 tm_n (hp σ) 112 [some (.ref 1), some (.int l1), none] [] := by
  unfold f_X_runTimers_L112 at hf
  refine V.blk hC [(.iinc 1 1, 3)] 112 [some (.ref 1), some (.int l1), none] [] ⟨d_X_runTimers_112, trivial⟩ (show tv_run _ _ _ _ = some (115, [some (.ref 1), some (.int (l1 + (1 : Int32))), none], []) from rfl) ?_
  refine V.goto hC d_X_runTimers_115 (tgt := 2) (by decide) ?_
  exact V.less (tv_le_some (tv_le_some (tv_le_none tv_le_nil))) (hrc σ (l1 + (1 : Int32))  hf)
set_option maxHeartbeats 4000000 in
set_option maxRecDepth 100000 in
theorem c_X_runTimers_L70 {X : tv_X} {r : tm_S} (hC : tv_K X tb_X_runTimers 3 "TrickleMesh" tm_wg tm_ns tm_cl tm_ty { frames := 4, cells := 0, slots := 0, locals := 91 }) (hr : tv_ret X none) (hE : tv_end X (tm_P none r) 0 0) {rc : tm_S → Int32 → Option (tm_S)} (hrc : ∀ (σ : tm_S) (l1 : Int32), rc σ l1 = some r → V X 0 0 tm_n (hp σ) 2 [some (.ref 1), some (.int l1), none] []) (σ : tm_S) (l1 : Int32) (l2 : Nat) (kl2 : kd l2 = 5) (hf : f_X_runTimers_L70 rc σ l1 l2 = some r) : V X 0 0 tm_n (hp σ) 70 [some (.ref 1), some (.int l1), some (.ref l2)] [] := by
  unfold f_X_runTimers_L70 at hf
  refine V.blk hC [(.aload_n 2, 1)] 70 [some (.ref 1), some (.int l1), some (.ref l2)] [] ⟨d_X_runTimers_70, trivial⟩ (show tv_run _ _ _ _ = some (71, [some (.ref 1), some (.int l1), some (.ref l2)], [.ref l2]) from rfl) ?_
  refine V.getf hC tf_X_115 (kd_in kl2 (by decide)) (hp_at kl2) rfl d_X_runTimers_71 ?_
  show V X 0 0 tm_n (hp σ) 74 [some (.ref 1), some (.int l1), some (.ref l2)] [.int (σ.1 l2 12)]
  refine V.blk hC [(.iconst (-1), 1)] 74 [some (.ref 1), some (.int l1), some (.ref l2)] [.int (σ.1 l2 12)] ⟨d_X_runTimers_74, trivial⟩ (show tv_run _ _ _ _ = some (75, [some (.ref 1), some (.int l1), some (.ref l2)], [.int (-1 : Int32), .int (σ.1 l2 12)]) from rfl) ?_
  refine V.icmp_eq hC d_X_runTimers_75 (tgt := 112) (by decide) (fun hc => ?_) (fun hc => ?_)
  · rw [if_pos hc] at hf
    exact V.less (tv_le_some (tv_le_some (tv_le_none tv_le_nil))) (c_X_runTimers_L112 hC hr hE hrc σ l1  hf)
  · rw [if_neg hc] at hf
    refine V.blk hC [(.aload_n 0, 1)] 78 [some (.ref 1), some (.int l1), some (.ref l2)] [] ⟨d_X_runTimers_78, trivial⟩ (show tv_run _ _ _ _ = some (79, [some (.ref 1), some (.int l1), some (.ref l2)], [.ref 1]) from rfl) ?_
    refine V.getf hC tf_X_91 (kd_in kd_1 (by decide)) (hp_at kd_1) rfl d_X_runTimers_79 ?_
    show V X 0 0 tm_n (hp σ) 82 [some (.ref 1), some (.int l1), some (.ref l2)] [.int (σ.1 1 5)]
    refine V.blk hC [(.bipush 64, 2)] 82 [some (.ref 1), some (.int l1), some (.ref l2)] [.int (σ.1 1 5)] ⟨d_X_runTimers_82, trivial⟩ (show tv_run _ _ _ _ = some (84, [some (.ref 1), some (.int l1), some (.ref l2)], [.int (64 : Int32), .int (σ.1 1 5)]) from rfl) ?_
    refine V.irem hC d_X_runTimers_84 (by decide) ?_
    refine V.if_ne hC d_X_runTimers_85 (tgt := 112) (by decide) (fun hc => ?_) (fun hc => ?_)
    · rw [if_neg hc] at hf
      exact V.less (tv_le_some (tv_le_some (tv_le_none tv_le_nil))) (c_X_runTimers_L112 hC hr hE hrc σ l1  hf)
    · rw [if_pos hc] at hf
      refine V.blk hC [(.aload_n 2, 1)] 88 [some (.ref 1), some (.int l1), some (.ref l2)] [] ⟨d_X_runTimers_88, trivial⟩ (show tv_run _ _ _ _ = some (89, [some (.ref 1), some (.int l1), some (.ref l2)], [.ref l2]) from rfl) ?_
      refine V.getf hC tf_X_143 (kd_in kl2 (by decide)) (hp_at kl2) rfl d_X_runTimers_89 ?_
      show V X 0 0 tm_n (hp σ) 92 [some (.ref 1), some (.int l1), some (.ref l2)] [.ref (l2 + 14)]
      refine V.blk hC [(.iload_n 1, 1), (.dup2, 1)] 92 [some (.ref 1), some (.int l1), some (.ref l2)] [.ref (l2 + 14)] ⟨d_X_runTimers_92, d_X_runTimers_93, trivial⟩ (show tv_run _ _ _ _ = some (94, [some (.ref 1), some (.int l1), some (.ref l2)], [.int l1, .ref (l2 + 14), .int l1, .ref (l2 + 14)]) from rfl) ?_
      obtain ⟨hb4, hf⟩ := tm_if hf
      refine V.iald hC (kd_in (kd_5_14 kl2) (by decide)) (hp_at (kd_5_14 kl2)) rfl hb4 d_X_runTimers_94 ?_
      show V X 0 0 tm_n (hp σ) 95 [some (.ref 1), some (.int l1), some (.ref l2)] [.int (σ.1 (l2 + 14) l1.toNatClampNeg), .int l1, .ref (l2 + 14)]
      refine V.blk hC [(.iconst 1, 1), (.iadd, 1)] 95 [some (.ref 1), some (.int l1), some (.ref l2)] [.int (σ.1 (l2 + 14) l1.toNatClampNeg), .int l1, .ref (l2 + 14)] ⟨d_X_runTimers_95, d_X_runTimers_96, trivial⟩ (show tv_run _ _ _ _ = some (97, [some (.ref 1), some (.int l1), some (.ref l2)], [.int ((σ.1 (l2 + 14) l1.toNatClampNeg) + (1 : Int32)), .int l1, .ref (l2 + 14)]) from rfl) ?_
      obtain ⟨hb5, hf⟩ := tm_if hf
      obtain ⟨σ6, hσ6, hf⟩ := tm_ww hf
      refine V.seta hC (kd_5_14 kl2) (kd_in (kd_5_14 kl2) (by decide)) rfl rfl rfl hb5 d_X_runTimers_97 ?_
      rw [← hσ6]
      refine V.blk hC [(.aload_n 0, 1), (.aload_n 2, 1), (.aload_n 2, 1)] 98 [some (.ref 1), some (.int l1), some (.ref l2)] [] ⟨d_X_runTimers_98, d_X_runTimers_99, d_X_runTimers_100, trivial⟩ (show tv_run _ _ _ _ = some (101, [some (.ref 1), some (.int l1), some (.ref l2)], [.ref l2, .ref l2, .ref 1]) from rfl) ?_
      obtain ⟨q7, hq7, hf⟩ := tm_bd hf
      refine V.callS hC tm_nest rfl (c_X_ownGoals σ6 l2 kl2 hq7) (tm_gd tc_X_ownGoals) tg_X_251 th_X_ownGoals ⟨tm_le rfl, tm_le rfl, tm_le rfl, tm_le rfl⟩ (As := [.ref l2]) (st := [.ref l2, .ref 1]) rfl (tm_le rfl) d_X_runTimers_101 ?_
      rintro v n2 h2 ⟨rfl, rfl, rfl⟩
      show V X 0 0 tm_n (hp q7.2) 104 [some (.ref 1), some (.int l1), some (.ref l2)] [.int q7.1, .ref l2, .ref 1]
      refine V.blk hC [(.aload_n 2, 1)] 104 [some (.ref 1), some (.int l1), some (.ref l2)] [.int q7.1, .ref l2, .ref 1] ⟨d_X_runTimers_104, trivial⟩ (show tv_run _ _ _ _ = some (105, [some (.ref 1), some (.int l1), some (.ref l2)], [.ref l2, .int q7.1, .ref l2, .ref 1]) from rfl) ?_
      refine V.getf hC tf_X_115 (kd_in kl2 (by decide)) (hp_at kl2) rfl d_X_runTimers_105 ?_
      show V X 0 0 tm_n (hp q7.2) 108 [some (.ref 1), some (.int l1), some (.ref l2)] [.int (q7.2.1 l2 12), .int q7.1, .ref l2, .ref 1]
      refine V.blk hC [(.iconst 0, 1)] 108 [some (.ref 1), some (.int l1), some (.ref l2)] [.int (q7.2.1 l2 12), .int q7.1, .ref l2, .ref 1] ⟨d_X_runTimers_108, trivial⟩ (show tv_run _ _ _ _ = some (109, [some (.ref 1), some (.int l1), some (.ref l2)], [.int (0 : Int32), .int (q7.2.1 l2 12), .int q7.1, .ref l2, .ref 1]) from rfl) ?_
      obtain ⟨q8, hq8, hf⟩ := tm_bd hf
      refine V.callV hC tm_nest rfl (c_X_announce q7.2 l2 q7.1 (q7.2.1 l2 12) (0 : Int32) kl2 hq8) (tm_gd tc_X_announce) tg_X_254 th_X_announce ⟨tm_le rfl, tm_le rfl, tm_le rfl, tm_le rfl⟩ rfl (kd_in kd_1 (by decide)) (hp_at kd_1) (As := [.ref l2, .int q7.1, .int (q7.2.1 l2 12), .int (0 : Int32)]) (st := []) rfl (tm_le rfl) d_X_runTimers_109 ?_
      rintro v n2 h2 ⟨rfl, rfl, rfl⟩
      show V X 0 0 tm_n (hp q8) 112 [some (.ref 1), some (.int l1), some (.ref l2)] []
      exact V.less (tv_le_some (tv_le_some (tv_le_none tv_le_nil))) (c_X_runTimers_L112 hC hr hE hrc q8 l1  hf)
set_option maxHeartbeats 4000000 in
set_option maxRecDepth 100000 in
theorem c_X_runTimers_L40 {X : tv_X} {r : tm_S} (hC : tv_K X tb_X_runTimers 3 "TrickleMesh" tm_wg tm_ns tm_cl tm_ty { frames := 4, cells := 0, slots := 0, locals := 91 }) (hr : tv_ret X none) (hE : tv_end X (tm_P none r) 0 0) {rc : tm_S → Int32 → Option (tm_S)} (hrc : ∀ (σ : tm_S) (l1 : Int32), rc σ l1 = some r → V X 0 0 tm_n (hp σ) 2 [some (.ref 1), some (.int l1), none] []) (σ : tm_S) (l1 : Int32) (l2 : Nat) (kl2 : kd l2 = 5) (hf : f_X_runTimers_L40 rc σ l1 l2 = some r) : V X 0 0 tm_n (hp σ) 40 [some (.ref 1), some (.int l1), some (.ref l2)] [] := by
  unfold f_X_runTimers_L40 at hf
  refine V.blk hC [(.iload_n 1, 1)] 40 [some (.ref 1), some (.int l1), some (.ref l2)] [] ⟨d_X_runTimers_40, trivial⟩ (show tv_run _ _ _ _ = some (41, [some (.ref 1), some (.int l1), some (.ref l2)], [.int l1]) from rfl) ?_
  refine V.if_eq hC d_X_runTimers_41 (tgt := 70) (by decide) (fun hc => ?_) (fun hc => ?_)
  · rw [if_pos hc] at hf
    exact V.less (tv_le_some (tv_le_some (tv_le_some tv_le_nil))) (c_X_runTimers_L70 hC hr hE hrc σ l1 l2 kl2 hf)
  · rw [if_neg hc] at hf
    refine V.blk hC [(.aload_n 2, 1)] 44 [some (.ref 1), some (.int l1), some (.ref l2)] [] ⟨d_X_runTimers_44, trivial⟩ (show tv_run _ _ _ _ = some (45, [some (.ref 1), some (.int l1), some (.ref l2)], [.ref l2]) from rfl) ?_
    refine V.getf hC tf_X_45 (kd_in kl2 (by decide)) (hp_at kl2) rfl d_X_runTimers_45 ?_
    show V X 0 0 tm_n (hp σ) 48 [some (.ref 1), some (.int l1), some (.ref l2)] [.int (σ.1 l2 11)]
    refine V.blk hC [(.sipush 255, 3)] 48 [some (.ref 1), some (.int l1), some (.ref l2)] [.int (σ.1 l2 11)] ⟨d_X_runTimers_48, trivial⟩ (show tv_run _ _ _ _ = some (51, [some (.ref 1), some (.int l1), some (.ref l2)], [.int (255 : Int32), .int (σ.1 l2 11)]) from rfl) ?_
    refine V.icmp_ne hC d_X_runTimers_51 (tgt := 70) (by decide) (fun hc => ?_) (fun hc => ?_)
    · rw [if_neg hc] at hf
      exact V.less (tv_le_some (tv_le_some (tv_le_some tv_le_nil))) (c_X_runTimers_L70 hC hr hE hrc σ l1 l2 kl2 hf)
    · rw [if_pos hc] at hf
      refine V.blk hC [(.aload_n 0, 1)] 54 [some (.ref 1), some (.int l1), some (.ref l2)] [] ⟨d_X_runTimers_54, trivial⟩ (show tv_run _ _ _ _ = some (55, [some (.ref 1), some (.int l1), some (.ref l2)], [.ref 1]) from rfl) ?_
      refine V.getf hC tf_X_91 (kd_in kd_1 (by decide)) (hp_at kd_1) rfl d_X_runTimers_55 ?_
      show V X 0 0 tm_n (hp σ) 58 [some (.ref 1), some (.int l1), some (.ref l2)] [.int (σ.1 1 5)]
      refine V.blk hC [(.bipush 16, 2)] 58 [some (.ref 1), some (.int l1), some (.ref l2)] [.int (σ.1 1 5)] ⟨d_X_runTimers_58, trivial⟩ (show tv_run _ _ _ _ = some (60, [some (.ref 1), some (.int l1), some (.ref l2)], [.int (16 : Int32), .int (σ.1 1 5)]) from rfl) ?_
      refine V.irem hC d_X_runTimers_60 (by decide) ?_
      refine V.if_ne hC d_X_runTimers_61 (tgt := 70) (by decide) (fun hc => ?_) (fun hc => ?_)
      · rw [if_neg hc] at hf
        exact V.less (tv_le_some (tv_le_some (tv_le_some tv_le_nil))) (c_X_runTimers_L70 hC hr hE hrc σ l1 l2 kl2 hf)
      · rw [if_pos hc] at hf
        refine V.blk hC [(.aload_n 0, 1), (.aload_n 2, 1), (.iconst 1, 1)] 64 [some (.ref 1), some (.int l1), some (.ref l2)] [] ⟨d_X_runTimers_64, d_X_runTimers_65, d_X_runTimers_66, trivial⟩ (show tv_run _ _ _ _ = some (67, [some (.ref 1), some (.int l1), some (.ref l2)], [.int (1 : Int32), .ref l2, .ref 1]) from rfl) ?_
        obtain ⟨q3, hq3, hf⟩ := tm_bd hf
        refine V.callV hC tm_nest rfl (c_X_enqueueOnce σ l2 (1 : Int32) kl2 hq3) (tm_gd tc_X_enqueueOnce) tg_X_247 th_X_enqueueOnce ⟨tm_le rfl, tm_le rfl, tm_le rfl, tm_le rfl⟩ rfl (kd_in kd_1 (by decide)) (hp_at kd_1) (As := [.ref l2, .int (1 : Int32)]) (st := []) rfl (tm_le rfl) d_X_runTimers_67 ?_
        rintro v n2 h2 ⟨rfl, rfl, rfl⟩
        show V X 0 0 tm_n (hp q3) 70 [some (.ref 1), some (.int l1), some (.ref l2)] []
        exact V.less (tv_le_some (tv_le_some (tv_le_some tv_le_nil))) (c_X_runTimers_L70 hC hr hE hrc q3 l1 l2 kl2 hf)
set_option maxHeartbeats 4000000 in
set_option maxRecDepth 100000 in
theorem c_X_runTimers_L2 {X : tv_X} {r : tm_S} (hC : tv_K X tb_X_runTimers 3 "TrickleMesh" tm_wg tm_ns tm_cl tm_ty { frames := 4, cells := 0, slots := 0, locals := 91 }) (hr : tv_ret X none) (hE : tv_end X (tm_P none r) 0 0) : ∀ (k : Nat) (σ : tm_S) (l1 : Int32), f_X_runTimers_L2 k σ l1 = some r → V X 0 0 tm_n (hp σ) 2 [some (.ref 1), some (.int l1), none] [] := by
  intro k
  induction k with
  | zero => intro σ l1  hf; simp only [f_X_runTimers_L2] at hf; cases hf
  | succ k hrc =>
    intro σ l1  hf
    rw [f_X_runTimers_L2] at hf
    refine V.blk hC [(.iload_n 1, 1), (.bipush 7, 2)] 2 [some (.ref 1), some (.int l1), none] [] ⟨d_X_runTimers_2, d_X_runTimers_3, trivial⟩ (show tv_run _ _ _ _ = some (5, [some (.ref 1), some (.int l1), none], [.int (7 : Int32), .int l1]) from rfl) ?_
    refine V.icmp_ge hC d_X_runTimers_5 (tgt := 118) (by decide) (fun hc => ?_) (fun hc => ?_)
    · rw [if_pos hc] at hf
      obtain rfl := Option.some.inj hf
      exact V.vret hC hr hE d_X_runTimers_118 ⟨rfl, rfl, rfl⟩
    · rw [if_neg hc] at hf
      refine V.blk hC [(.aload_n 0, 1)] 8 [some (.ref 1), some (.int l1), none] [] ⟨d_X_runTimers_8, trivial⟩ (show tv_run _ _ _ _ = some (9, [some (.ref 1), some (.int l1), none], [.ref 1]) from rfl) ?_
      refine V.getf hC tf_X_11 (kd_in kd_1 (by decide)) (hp_at kd_1) rfl d_X_runTimers_9 ?_
      show V X 0 0 tm_n (hp σ) 12 [some (.ref 1), some (.int l1), none] [.ref 2]
      refine V.blk hC [(.iload_n 1, 1)] 12 [some (.ref 1), some (.int l1), none] [.ref 2] ⟨d_X_runTimers_12, trivial⟩ (show tv_run _ _ _ _ = some (13, [some (.ref 1), some (.int l1), none], [.int l1, .ref 2]) from rfl) ?_
      obtain ⟨hb1, hf⟩ := tm_if hf
      refine V.aald hC (kd_in kd_2 (by decide)) (hp_at kd_2) rfl rfl hb1 d_X_runTimers_13 ?_
      show V X 0 0 tm_n (hp σ) 14 [some (.ref 1), some (.int l1), none] [.ref (11 + 17 * l1.toNatClampNeg)]
      refine V.blk hC [(.astore_n 2, 1), (.aload_n 2, 1)] 14 [some (.ref 1), some (.int l1), none] [.ref (11 + 17 * l1.toNatClampNeg)] ⟨d_X_runTimers_14, d_X_runTimers_15, trivial⟩ (show tv_run _ _ _ _ = some (16, [some (.ref 1), some (.int l1), some (.ref (11 + 17 * l1.toNatClampNeg))], [.ref (11 + 17 * l1.toNatClampNeg)]) from rfl) ?_
      refine V.getf hC tf_X_66 (kd_in (kd_nodes hb1) (by decide)) (hp_at (kd_nodes hb1)) rfl d_X_runTimers_16 ?_
      show V X 0 0 tm_n (hp σ) 19 [some (.ref 1), some (.int l1), some (.ref (11 + 17 * l1.toNatClampNeg))] [.int (σ.1 (11 + 17 * l1.toNatClampNeg) 9)]
      refine V.if_ne hC d_X_runTimers_19 (tgt := 25) (by decide) (fun hc => ?_) (fun hc => ?_)
      · rw [if_neg hc] at hf
        refine V.blk hC [(.aload_n 2, 1)] 25 [some (.ref 1), some (.int l1), some (.ref (11 + 17 * l1.toNatClampNeg))] [] ⟨d_X_runTimers_25, trivial⟩ (show tv_run _ _ _ _ = some (26, [some (.ref 1), some (.int l1), some (.ref (11 + 17 * l1.toNatClampNeg))], [.ref (11 + 17 * l1.toNatClampNeg)]) from rfl) ?_
        refine V.getf hC tf_X_48 (kd_in (kd_nodes hb1) (by decide)) (hp_at (kd_nodes hb1)) rfl d_X_runTimers_26 ?_
        show V X 0 0 tm_n (hp σ) 29 [some (.ref 1), some (.int l1), some (.ref (11 + 17 * l1.toNatClampNeg))] [.ref ((11 + 17 * l1.toNatClampNeg) + 11)]
        refine V.getf hC tf_X_52 (kd_in (kd_5_9 (kd_nodes hb1)) (by decide)) (hp_at (kd_5_9 (kd_nodes hb1))) rfl d_X_runTimers_29 ?_
        show V X 0 0 tm_n (hp σ) 32 [some (.ref 1), some (.int l1), some (.ref (11 + 17 * l1.toNatClampNeg))] [.int (σ.1 ((11 + 17 * l1.toNatClampNeg) + 11) 0)]
        refine V.if_eq hC d_X_runTimers_32 (tgt := 40) (by decide) (fun hc => ?_) (fun hc => ?_)
        · rw [if_pos hc] at hf
          exact V.less (tv_le_some (tv_le_some (tv_le_some tv_le_nil))) (c_X_runTimers_L40 hC hr hE hrc σ l1 (11 + 17 * l1.toNatClampNeg) (kd_nodes hb1) hf)
        · rw [if_neg hc] at hf
          refine V.blk hC [(.aload_n 0, 1), (.aload_n 2, 1)] 35 [some (.ref 1), some (.int l1), some (.ref (11 + 17 * l1.toNatClampNeg))] [] ⟨d_X_runTimers_35, d_X_runTimers_36, trivial⟩ (show tv_run _ _ _ _ = some (37, [some (.ref 1), some (.int l1), some (.ref (11 + 17 * l1.toNatClampNeg))], [.ref (11 + 17 * l1.toNatClampNeg), .ref 1]) from rfl) ?_
          obtain ⟨q2, hq2, hf⟩ := tm_bd hf
          refine V.callV hC tm_nest rfl (c_X_runTimer σ (11 + 17 * l1.toNatClampNeg) (kd_nodes hb1) hq2) (tm_gd tc_X_runTimer) tg_X_244 th_X_runTimer ⟨tm_le rfl, tm_le rfl, tm_le rfl, tm_le rfl⟩ rfl (kd_in kd_1 (by decide)) (hp_at kd_1) (As := [.ref (11 + 17 * l1.toNatClampNeg)]) (st := []) rfl (tm_le rfl) d_X_runTimers_37 ?_
          rintro v n2 h2 ⟨rfl, rfl, rfl⟩
          show V X 0 0 tm_n (hp q2) 40 [some (.ref 1), some (.int l1), some (.ref (11 + 17 * l1.toNatClampNeg))] []
          exact V.less (tv_le_some (tv_le_some (tv_le_some tv_le_nil))) (c_X_runTimers_L40 hC hr hE hrc q2 l1 (11 + 17 * l1.toNatClampNeg) (kd_nodes hb1) hf)
      · rw [if_pos hc] at hf
        refine V.goto hC d_X_runTimers_22 (tgt := 112) (by decide) ?_
        exact V.less (tv_le_some (tv_le_some (tv_le_none tv_le_nil))) (c_X_runTimers_L112 hC hr hE hrc σ l1  hf)
set_option maxHeartbeats 4000000 in
set_option maxRecDepth 100000 in
theorem c_X_runTimers (σ : tm_S)   {r : tm_S} (hf : f_X_runTimers σ  = some r) : tv_Met ty_X_runTimers (Cond.code ty_X_runTimers tb_X_runTimers 3 none :: tm_wg) tm_ns tm_cl tm_ty 4 91 0 0 [.ref 1] tm_n (hp σ) (tm_P none r) := by
  refine tv_Met.of (by decide) rfl (tm_le rfl) ?_
  intro X hC hnm hr hE
  have hC : tv_K X tb_X_runTimers 3 "TrickleMesh" tm_wg tm_ns tm_cl tm_ty { frames := 4, cells := 0, slots := 0, locals := 91 } := hC
  show V X 0 0 tm_n (hp σ) 0 [some (.ref 1), none, none] []
  unfold f_X_runTimers at hf
  refine V.blk hC [(.iconst 0, 1), (.istore_n 1, 1)] 0 [some (.ref 1), none, none] [] ⟨d_X_runTimers_0, d_X_runTimers_1, trivial⟩ (show tv_run _ _ _ _ = some (2, [some (.ref 1), some (.int (0 : Int32)), none], []) from rfl) ?_
  exact V.less (tv_le_some (tv_le_some (tv_le_none tv_le_nil))) (c_X_runTimers_L2 hC hr hE tm_fu σ (0 : Int32)  hf)
set_option maxHeartbeats 4000000 in
set_option maxRecDepth 100000 in
theorem c_X_tick_L10 {X : tv_X} {r : Int32 × tm_S} (hC : tv_K X tb_X_tick 3 "TrickleMesh" tm_wg tm_ns tm_cl tm_ty { frames := 6, cells := 0, slots := 0, locals := 147 }) (hr : tv_ret X (some .int)) (hE : tv_end X (tm_P (some (.int r.1)) r.2) 0 0) (σ : tm_S)   (hf : f_X_tick_L10 σ  = some r) : V X 0 0 tm_n (hp σ) 10 [some (.ref 1), none, none] [] := by
  unfold f_X_tick_L10 at hf
  refine V.blk hC [(.iconst (-1), 1)] 10 [some (.ref 1), none, none] [] ⟨d_X_tick_10, trivial⟩ (show tv_run _ _ _ _ = some (11, [some (.ref 1), none, none], [.int (-1 : Int32)]) from rfl) ?_
  obtain rfl := Option.some.inj hf
  exact V.iret hC hr hE d_X_tick_11 ⟨rfl, rfl, rfl⟩
set_option maxHeartbeats 4000000 in
set_option maxRecDepth 100000 in
theorem c_X_tick_L14 {X : tv_X} {r : Int32 × tm_S} (hC : tv_K X tb_X_tick 3 "TrickleMesh" tm_wg tm_ns tm_cl tm_ty { frames := 6, cells := 0, slots := 0, locals := 147 }) (hr : tv_ret X (some .int)) (hE : tv_end X (tm_P (some (.int r.1)) r.2) 0 0) : ∀ (k : Nat) (σ : tm_S) (l1 : Int32) (l2 : Int32), f_X_tick_L14 k σ l1 l2 = some r → V X 0 0 tm_n (hp σ) 14 [some (.ref 1), some (.int l1), some (.int l2)] [] := by
  intro k
  induction k with
  | zero => intro σ l1 l2  hf; simp only [f_X_tick_L14] at hf; cases hf
  | succ k hrc =>
    intro σ l1 l2  hf
    rw [f_X_tick_L14] at hf
    refine V.blk hC [(.iload_n 2, 1), (.iload_n 1, 1)] 14 [some (.ref 1), some (.int l1), some (.int l2)] [] ⟨d_X_tick_14, d_X_tick_15, trivial⟩ (show tv_run _ _ _ _ = some (16, [some (.ref 1), some (.int l1), some (.int l2)], [.int l1, .int l2]) from rfl) ?_
    refine V.icmp_ge hC d_X_tick_16 (tgt := 63) (by decide) (fun hc => ?_) (fun hc => ?_)
    · rw [if_pos hc] at hf
      refine V.blk hC [(.aload_n 0, 1)] 63 [some (.ref 1), some (.int l1), some (.int l2)] [] ⟨d_X_tick_63, trivial⟩ (show tv_run _ _ _ _ = some (64, [some (.ref 1), some (.int l1), some (.int l2)], [.ref 1]) from rfl) ?_
      refine V.getf hC tf_X_91 (kd_in kd_1 (by decide)) (hp_at kd_1) rfl d_X_tick_64 ?_
      show V X 0 0 tm_n (hp σ) 67 [some (.ref 1), some (.int l1), some (.int l2)] [.int (σ.1 1 5)]
      obtain rfl := Option.some.inj hf
      exact V.iret hC hr hE d_X_tick_67 ⟨rfl, rfl, rfl⟩
    · rw [if_neg hc] at hf
      refine V.blk hC [(.aload_n 0, 1), (.dup, 1)] 19 [some (.ref 1), some (.int l1), some (.int l2)] [] ⟨d_X_tick_19, d_X_tick_20, trivial⟩ (show tv_run _ _ _ _ = some (21, [some (.ref 1), some (.int l1), some (.int l2)], [.ref 1, .ref 1]) from rfl) ?_
      refine V.getf hC tf_X_91 (kd_in kd_1 (by decide)) (hp_at kd_1) rfl d_X_tick_21 ?_
      show V X 0 0 tm_n (hp σ) 24 [some (.ref 1), some (.int l1), some (.int l2)] [.int (σ.1 1 5), .ref 1]
      refine V.blk hC [(.iconst 1, 1), (.iadd, 1)] 24 [some (.ref 1), some (.int l1), some (.int l2)] [.int (σ.1 1 5), .ref 1] ⟨d_X_tick_24, d_X_tick_25, trivial⟩ (show tv_run _ _ _ _ = some (26, [some (.ref 1), some (.int l1), some (.int l2)], [.int ((σ.1 1 5) + (1 : Int32)), .ref 1]) from rfl) ?_
      obtain ⟨σ1, hσ1, hf⟩ := tm_ww hf
      refine V.seti hC tf_X_91 tt_X to_X tn_X rfl (by decide +kernel) tm_fi kd_1 (kd_in kd_1 (by decide)) rfl rfl (tm_le rfl) d_X_tick_26 ?_
      rw [← hσ1]
      refine V.blk hC [(.aload_n 0, 1)] 29 [some (.ref 1), some (.int l1), some (.int l2)] [] ⟨d_X_tick_29, trivial⟩ (show tv_run _ _ _ _ = some (30, [some (.ref 1), some (.int l1), some (.int l2)], [.ref 1]) from rfl) ?_
      obtain ⟨q2, hq2, hf⟩ := tm_bd hf
      refine V.callV hC tm_nest rfl (c_X_rememberTheAir σ1   hq2) (tm_gd tc_X_rememberTheAir) tg_X_94 th_X_rememberTheAir ⟨tm_le rfl, tm_le rfl, tm_le rfl, tm_le rfl⟩ rfl (kd_in kd_1 (by decide)) (hp_at kd_1) (As := []) (st := []) rfl (tm_le rfl) d_X_tick_30 ?_
      rintro v n2 h2 ⟨rfl, rfl, rfl⟩
      show V X 0 0 tm_n (hp q2) 33 [some (.ref 1), some (.int l1), some (.int l2)] []
      refine V.blk hC [(.aload_n 0, 1)] 33 [some (.ref 1), some (.int l1), some (.int l2)] [] ⟨d_X_tick_33, trivial⟩ (show tv_run _ _ _ _ = some (34, [some (.ref 1), some (.int l1), some (.int l2)], [.ref 1]) from rfl) ?_
      obtain ⟨q3, hq3, hf⟩ := tm_bd hf
      refine V.callV hC tm_nest rfl (c_X_goOnTheAir q2   hq3) (tm_gd tc_X_goOnTheAir) tg_X_97 th_X_goOnTheAir ⟨tm_le rfl, tm_le rfl, tm_le rfl, tm_le rfl⟩ rfl (kd_in kd_1 (by decide)) (hp_at kd_1) (As := []) (st := []) rfl (tm_le rfl) d_X_tick_34 ?_
      rintro v n2 h2 ⟨rfl, rfl, rfl⟩
      show V X 0 0 tm_n (hp q3) 37 [some (.ref 1), some (.int l1), some (.int l2)] []
      refine V.blk hC [(.aload_n 0, 1)] 37 [some (.ref 1), some (.int l1), some (.int l2)] [] ⟨d_X_tick_37, trivial⟩ (show tv_run _ _ _ _ = some (38, [some (.ref 1), some (.int l1), some (.int l2)], [.ref 1]) from rfl) ?_
      obtain ⟨q4, hq4, hf⟩ := tm_bd hf
      refine V.callV hC tm_nest rfl (c_X_hearTheAir q3   hq4) (tm_gd tc_X_hearTheAir) tg_X_100 th_X_hearTheAir ⟨tm_le rfl, tm_le rfl, tm_le rfl, tm_le rfl⟩ rfl (kd_in kd_1 (by decide)) (hp_at kd_1) (As := []) (st := []) rfl (tm_le rfl) d_X_tick_38 ?_
      rintro v n2 h2 ⟨rfl, rfl, rfl⟩
      show V X 0 0 tm_n (hp q4) 41 [some (.ref 1), some (.int l1), some (.int l2)] []
      refine V.blk hC [(.aload_n 0, 1)] 41 [some (.ref 1), some (.int l1), some (.int l2)] [] ⟨d_X_tick_41, trivial⟩ (show tv_run _ _ _ _ = some (42, [some (.ref 1), some (.int l1), some (.int l2)], [.ref 1]) from rfl) ?_
      obtain ⟨q5, hq5, hf⟩ := tm_bd hf
      refine V.callV hC tm_nest rfl (c_X_takeWhatWasHeard q4   hq5) (tm_gd tc_X_takeWhatWasHeard) tg_X_103 th_X_takeWhatWasHeard ⟨tm_le rfl, tm_le rfl, tm_le rfl, tm_le rfl⟩ rfl (kd_in kd_1 (by decide)) (hp_at kd_1) (As := []) (st := []) rfl (tm_le rfl) d_X_tick_42 ?_
      rintro v n2 h2 ⟨rfl, rfl, rfl⟩
      show V X 0 0 tm_n (hp q5) 45 [some (.ref 1), some (.int l1), some (.int l2)] []
      refine V.blk hC [(.aload_n 0, 1)] 45 [some (.ref 1), some (.int l1), some (.int l2)] [] ⟨d_X_tick_45, trivial⟩ (show tv_run _ _ _ _ = some (46, [some (.ref 1), some (.int l1), some (.int l2)], [.ref 1]) from rfl) ?_
      obtain ⟨q6, hq6, hf⟩ := tm_bd hf
      refine V.callV hC tm_nest rfl (c_X_settleWhatWasOnTheAir q5   hq6) (tm_gd tc_X_settleWhatWasOnTheAir) tg_X_106 th_X_settleWhatWasOnTheAir ⟨tm_le rfl, tm_le rfl, tm_le rfl, tm_le rfl⟩ rfl (kd_in kd_1 (by decide)) (hp_at kd_1) (As := []) (st := []) rfl (tm_le rfl) d_X_tick_46 ?_
      rintro v n2 h2 ⟨rfl, rfl, rfl⟩
      show V X 0 0 tm_n (hp q6) 49 [some (.ref 1), some (.int l1), some (.int l2)] []
      refine V.blk hC [(.aload_n 0, 1)] 49 [some (.ref 1), some (.int l1), some (.int l2)] [] ⟨d_X_tick_49, trivial⟩ (show tv_run _ _ _ _ = some (50, [some (.ref 1), some (.int l1), some (.int l2)], [.ref 1]) from rfl) ?_
      obtain ⟨q7, hq7, hf⟩ := tm_bd hf
      refine V.callV hC tm_nest rfl (c_X_settleWhatWasListenedFor q6   hq7) (tm_gd tc_X_settleWhatWasListenedFor) tg_X_109 th_X_settleWhatWasListenedFor ⟨tm_le rfl, tm_le rfl, tm_le rfl, tm_le rfl⟩ rfl (kd_in kd_1 (by decide)) (hp_at kd_1) (As := []) (st := []) rfl (tm_le rfl) d_X_tick_50 ?_
      rintro v n2 h2 ⟨rfl, rfl, rfl⟩
      show V X 0 0 tm_n (hp q7) 53 [some (.ref 1), some (.int l1), some (.int l2)] []
      refine V.blk hC [(.aload_n 0, 1)] 53 [some (.ref 1), some (.int l1), some (.int l2)] [] ⟨d_X_tick_53, trivial⟩ (show tv_run _ _ _ _ = some (54, [some (.ref 1), some (.int l1), some (.int l2)], [.ref 1]) from rfl) ?_
      obtain ⟨q8, hq8, hf⟩ := tm_bd hf
      refine V.callV hC tm_nest rfl (c_X_runTimers q7   hq8) (tm_gd tc_X_runTimers) tg_X_112 th_X_runTimers ⟨tm_le rfl, tm_le rfl, tm_le rfl, tm_le rfl⟩ rfl (kd_in kd_1 (by decide)) (hp_at kd_1) (As := []) (st := []) rfl (tm_le rfl) d_X_tick_54 ?_
      rintro v n2 h2 ⟨rfl, rfl, rfl⟩
      show V X 0 0 tm_n (hp q8) 57 [some (.ref 1), some (.int l1), some (.int l2)] []
      refine V.blk hC [(.iinc 2 1, 3)] 57 [some (.ref 1), some (.int l1), some (.int l2)] [] ⟨d_X_tick_57, trivial⟩ (show tv_run _ _ _ _ = some (60, [some (.ref 1), some (.int l1), some (.int (l2 + (1 : Int32)))], []) from rfl) ?_
      refine V.goto hC d_X_tick_60 (tgt := 14) (by decide) ?_
      exact V.less (tv_le_some (tv_le_some (tv_le_some tv_le_nil))) (hrc q8 l1 (l2 + (1 : Int32))  hf)
set_option maxHeartbeats 4000000 in
set_option maxRecDepth 100000 in
theorem c_X_tick (σ : tm_S) (a1 : Int32)  {r : Int32 × tm_S} (hf : f_X_tick σ a1 = some r) : tv_Met ty_X_tick (Cond.code ty_X_tick tb_X_tick 3 (some .int) :: tm_wg) tm_ns tm_cl tm_ty 6 147 0 0 [.ref 1, .int a1] tm_n (hp σ) (tm_P (some (.int r.1)) r.2) := by
  refine tv_Met.of (by decide) rfl (tm_le rfl) ?_
  intro X hC hnm hr hE
  have hC : tv_K X tb_X_tick 3 "TrickleMesh" tm_wg tm_ns tm_cl tm_ty { frames := 6, cells := 0, slots := 0, locals := 147 } := hC
  show V X 0 0 tm_n (hp σ) 0 [some (.ref 1), some (.int a1), none] []
  unfold f_X_tick at hf
  refine V.blk hC [(.iload_n 1, 1)] 0 [some (.ref 1), some (.int a1), none] [] ⟨d_X_tick_0, trivial⟩ (show tv_run _ _ _ _ = some (1, [some (.ref 1), some (.int a1), none], [.int a1]) from rfl) ?_
  refine V.if_lt hC d_X_tick_1 (tgt := 10) (by decide) (fun hc => ?_) (fun hc => ?_)
  · rw [if_pos hc] at hf
    exact V.less (tv_le_some (tv_le_none (tv_le_none tv_le_nil))) (c_X_tick_L10 hC hr hE σ   hf)
  · rw [if_neg hc] at hf
    refine V.blk hC [(.iload_n 1, 1), (.bipush 100, 2)] 4 [some (.ref 1), some (.int a1), none] [] ⟨d_X_tick_4, d_X_tick_5, trivial⟩ (show tv_run _ _ _ _ = some (7, [some (.ref 1), some (.int a1), none], [.int (100 : Int32), .int a1]) from rfl) ?_
    refine V.icmp_le hC d_X_tick_7 (tgt := 12) (by decide) (fun hc => ?_) (fun hc => ?_)
    · rw [if_pos hc] at hf
      refine V.blk hC [(.iconst 0, 1), (.istore_n 2, 1)] 12 [some (.ref 1), some (.int a1), none] [] ⟨d_X_tick_12, d_X_tick_13, trivial⟩ (show tv_run _ _ _ _ = some (14, [some (.ref 1), some (.int a1), some (.int (0 : Int32))], []) from rfl) ?_
      exact V.less (tv_le_some (tv_le_some (tv_le_some tv_le_nil))) (c_X_tick_L14 hC hr hE tm_fu σ a1 (0 : Int32)  hf)
    · rw [if_neg hc] at hf
      exact V.less (tv_le_some (tv_le_none (tv_le_none tv_le_nil))) (c_X_tick_L10 hC hr hE σ   hf)
set_option maxHeartbeats 4000000 in
set_option maxRecDepth 100000 in
theorem c_X_condition (σ : tm_S) (a0 : Nat) (k0 : kd a0 = 5) {r : Int32 × tm_S} (hf : f_X_condition σ a0 = some r) : tv_Met ty_X_condition (Cond.code ty_X_condition tb_X_condition 1 (some .int) :: tm_wg) tm_ns tm_cl tm_ty 0 0 0 0 [.ref a0] tm_n (hp σ) (tm_P (some (.int r.1)) r.2) := by
  refine tv_Met.of (by decide) rfl (tm_le rfl) ?_
  intro X hC hnm hr hE
  have hC : tv_K X tb_X_condition 1 "TrickleMesh" tm_wg tm_ns tm_cl tm_ty { frames := 0, cells := 0, slots := 0, locals := 0 } := hC
  show V X 0 0 tm_n (hp σ) 0 [some (.ref a0)] []
  unfold f_X_condition at hf
  refine V.blk hC [(.aload_n 0, 1)] 0 [some (.ref a0)] [] ⟨d_X_condition_0, trivial⟩ (show tv_run _ _ _ _ = some (1, [some (.ref a0)], [.ref a0]) from rfl) ?_
  refine V.getf hC tf_X_66 (kd_in k0 (by decide)) (hp_at k0) rfl d_X_condition_1 ?_
  show V X 0 0 tm_n (hp σ) 4 [some (.ref a0)] [.int (σ.1 a0 9)]
  refine V.if_ne hC d_X_condition_4 (tgt := 9) (by decide) (fun hc => ?_) (fun hc => ?_)
  · rw [if_neg hc] at hf
    refine V.blk hC [(.aload_n 0, 1)] 9 [some (.ref a0)] [] ⟨d_X_condition_9, trivial⟩ (show tv_run _ _ _ _ = some (10, [some (.ref a0)], [.ref a0]) from rfl) ?_
    refine V.getf hC tf_X_69 (kd_in k0 (by decide)) (hp_at k0) rfl d_X_condition_10 ?_
    show V X 0 0 tm_n (hp σ) 13 [some (.ref a0)] [.ref (a0 + 1)]
    refine V.getf hC tf_X_81 (kd_in (kd_5_6 k0) (by decide)) (hp_at (kd_5_6 k0)) rfl d_X_condition_13 ?_
    show V X 0 0 tm_n (hp σ) 16 [some (.ref a0)] [.int (σ.1 (a0 + 1) 9)]
    refine V.if_eq hC d_X_condition_16 (tgt := 21) (by decide) (fun hc => ?_) (fun hc => ?_)
    · rw [if_pos hc] at hf
      refine V.blk hC [(.aload_n 0, 1)] 21 [some (.ref a0)] [] ⟨d_X_condition_21, trivial⟩ (show tv_run _ _ _ _ = some (22, [some (.ref a0)], [.ref a0]) from rfl) ?_
      refine V.getf hC tf_X_69 (kd_in k0 (by decide)) (hp_at k0) rfl d_X_condition_22 ?_
      show V X 0 0 tm_n (hp σ) 25 [some (.ref a0)] [.ref (a0 + 1)]
      refine V.getf hC tf_X_78 (kd_in (kd_5_6 k0) (by decide)) (hp_at (kd_5_6 k0)) rfl d_X_condition_25 ?_
      show V X 0 0 tm_n (hp σ) 28 [some (.ref a0)] [.int (σ.1 (a0 + 1) 8)]
      refine V.blk hC [(.iconst (-1), 1)] 28 [some (.ref a0)] [.int (σ.1 (a0 + 1) 8)] ⟨d_X_condition_28, trivial⟩ (show tv_run _ _ _ _ = some (29, [some (.ref a0)], [.int (-1 : Int32), .int (σ.1 (a0 + 1) 8)]) from rfl) ?_
      refine V.icmp_eq hC d_X_condition_29 (tgt := 36) (by decide) (fun hc => ?_) (fun hc => ?_)
      · rw [if_pos hc] at hf
        refine V.blk hC [(.iconst 0, 1)] 36 [some (.ref a0)] [] ⟨d_X_condition_36, trivial⟩ (show tv_run _ _ _ _ = some (37, [some (.ref a0)], [.int (0 : Int32)]) from rfl) ?_
        obtain rfl := Option.some.inj hf
        exact V.iret hC hr hE d_X_condition_37 ⟨rfl, rfl, rfl⟩
      · rw [if_neg hc] at hf
        refine V.blk hC [(.iconst 3, 1)] 32 [some (.ref a0)] [] ⟨d_X_condition_32, trivial⟩ (show tv_run _ _ _ _ = some (33, [some (.ref a0)], [.int (3 : Int32)]) from rfl) ?_
        refine V.goto hC d_X_condition_33 (tgt := 37) (by decide) ?_
        obtain rfl := Option.some.inj hf
        exact V.iret hC hr hE d_X_condition_37 ⟨rfl, rfl, rfl⟩
    · rw [if_neg hc] at hf
      refine V.blk hC [(.iconst 2, 1)] 19 [some (.ref a0)] [] ⟨d_X_condition_19, trivial⟩ (show tv_run _ _ _ _ = some (20, [some (.ref a0)], [.int (2 : Int32)]) from rfl) ?_
      obtain rfl := Option.some.inj hf
      exact V.iret hC hr hE d_X_condition_20 ⟨rfl, rfl, rfl⟩
  · rw [if_pos hc] at hf
    refine V.blk hC [(.iconst 1, 1)] 7 [some (.ref a0)] [] ⟨d_X_condition_7, trivial⟩ (show tv_run _ _ _ _ = some (8, [some (.ref a0)], [.int (1 : Int32)]) from rfl) ?_
    obtain rfl := Option.some.inj hf
    exact V.iret hC hr hE d_X_condition_8 ⟨rfl, rfl, rfl⟩
