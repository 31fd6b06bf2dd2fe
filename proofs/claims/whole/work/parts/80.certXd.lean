set_option maxHeartbeats 4000000 in
set_option maxRecDepth 100000 in
theorem c_X_goOnTheAir_L157 {X : tv_X} {r : tm_S} (hC : tv_K X tb_X_goOnTheAir 4 "TrickleMesh" tm_wg tm_ns tm_cl tm_ty { frames := 5, cells := 0, slots := 0, locals := 120 }) (hr : tv_ret X none) (hE : tv_end X (tm_P none r) 0 0) {rc : tm_S → Int32 → Option (tm_S)} (hrc : ∀ (σ : tm_S) (l1 : Int32), rc σ l1 = some r → V X 0 0 tm_n (hp σ) 2 [some (.ref 1), some (.int l1), none, none] []) (σ : tm_S) (l1 : Int32)  (hf : f_X_goOnTheAir_L157 rc σ l1 = some r) : V X 0 0 tm_n (hp σ) 157 [some (.ref 1), some (.int l1), none, none] [] := by
  unfold f_X_goOnTheAir_L157 at hf
  refine V.blk hC [(.iinc 1 1, 3)] 157 [some (.ref 1), some (.int l1), none, none] [] ⟨d_X_goOnTheAir_157, trivial⟩ (show tv_run _ _ _ _ = some (160, [some (.ref 1), some (.int (l1 + (1 : Int32))), none, none], []) from rfl) ?_
  refine V.goto hC d_X_goOnTheAir_160 (tgt := 2) (by decide) ?_
  exact V.less (tv_le_some (tv_le_some (tv_le_none (tv_le_none tv_le_nil)))) (hrc σ (l1 + (1 : Int32))  hf)
set_option maxHeartbeats 4000000 in
set_option maxRecDepth 100000 in
theorem c_X_goOnTheAir_L2 {X : tv_X} {r : tm_S} (hC : tv_K X tb_X_goOnTheAir 4 "TrickleMesh" tm_wg tm_ns tm_cl tm_ty { frames := 5, cells := 0, slots := 0, locals := 120 }) (hr : tv_ret X none) (hE : tv_end X (tm_P none r) 0 0) : ∀ (k : Nat) (σ : tm_S) (l1 : Int32), f_X_goOnTheAir_L2 k σ l1 = some r → V X 0 0 tm_n (hp σ) 2 [some (.ref 1), some (.int l1), none, none] [] := by
  intro k
  induction k with
  | zero => intro σ l1  hf; simp only [f_X_goOnTheAir_L2] at hf; cases hf
  | succ k hrc =>
    intro σ l1  hf
    rw [f_X_goOnTheAir_L2] at hf
    refine V.blk hC [(.iload_n 1, 1), (.bipush 7, 2)] 2 [some (.ref 1), some (.int l1), none, none] [] ⟨d_X_goOnTheAir_2, d_X_goOnTheAir_3, trivial⟩ (show tv_run _ _ _ _ = some (5, [some (.ref 1), some (.int l1), none, none], [.int (7 : Int32), .int l1]) from rfl) ?_
    refine V.icmp_ge hC d_X_goOnTheAir_5 (tgt := 163) (by decide) (fun hc => ?_) (fun hc => ?_)
    · rw [if_pos hc] at hf
      obtain rfl := Option.some.inj hf
      exact V.vret hC hr hE d_X_goOnTheAir_163 ⟨rfl, rfl, rfl⟩
    · rw [if_neg hc] at hf
      refine V.blk hC [(.aload_n 0, 1)] 8 [some (.ref 1), some (.int l1), none, none] [] ⟨d_X_goOnTheAir_8, trivial⟩ (show tv_run _ _ _ _ = some (9, [some (.ref 1), some (.int l1), none, none], [.ref 1]) from rfl) ?_
      refine V.getf hC tf_X_11 (kd_in kd_1 (by decide)) (hp_at kd_1) rfl d_X_goOnTheAir_9 ?_
      show V X 0 0 tm_n (hp σ) 12 [some (.ref 1), some (.int l1), none, none] [.ref 2]
      refine V.blk hC [(.iload_n 1, 1)] 12 [some (.ref 1), some (.int l1), none, none] [.ref 2] ⟨d_X_goOnTheAir_12, trivial⟩ (show tv_run _ _ _ _ = some (13, [some (.ref 1), some (.int l1), none, none], [.int l1, .ref 2]) from rfl) ?_
      obtain ⟨hb1, hf⟩ := tm_if hf
      refine V.aald hC (kd_in kd_2 (by decide)) (hp_at kd_2) rfl rfl hb1 d_X_goOnTheAir_13 ?_
      show V X 0 0 tm_n (hp σ) 14 [some (.ref 1), some (.int l1), none, none] [.ref (11 + 17 * l1.toNatClampNeg)]
      refine V.blk hC [(.astore_n 2, 1), (.aload_n 2, 1)] 14 [some (.ref 1), some (.int l1), none, none] [.ref (11 + 17 * l1.toNatClampNeg)] ⟨d_X_goOnTheAir_14, d_X_goOnTheAir_15, trivial⟩ (show tv_run _ _ _ _ = some (16, [some (.ref 1), some (.int l1), some (.ref (11 + 17 * l1.toNatClampNeg)), none], [.ref (11 + 17 * l1.toNatClampNeg)]) from rfl) ?_
      refine V.getf hC tf_X_69 (kd_in (kd_nodes hb1) (by decide)) (hp_at (kd_nodes hb1)) rfl d_X_goOnTheAir_16 ?_
      show V X 0 0 tm_n (hp σ) 19 [some (.ref 1), some (.int l1), some (.ref (11 + 17 * l1.toNatClampNeg)), none] [.ref ((11 + 17 * l1.toNatClampNeg) + 1)]
      refine V.blk hC [(.astore_n 3, 1), (.aload_n 3, 1)] 19 [some (.ref 1), some (.int l1), some (.ref (11 + 17 * l1.toNatClampNeg)), none] [.ref ((11 + 17 * l1.toNatClampNeg) + 1)] ⟨d_X_goOnTheAir_19, d_X_goOnTheAir_20, trivial⟩ (show tv_run _ _ _ _ = some (21, [some (.ref 1), some (.int l1), some (.ref (11 + 17 * l1.toNatClampNeg)), some (.ref ((11 + 17 * l1.toNatClampNeg) + 1))], [.ref ((11 + 17 * l1.toNatClampNeg) + 1)]) from rfl) ?_
      refine V.getf hC tf_X_78 (kd_in (kd_5_6 (kd_nodes hb1)) (by decide)) (hp_at (kd_5_6 (kd_nodes hb1))) rfl d_X_goOnTheAir_21 ?_
      show V X 0 0 tm_n (hp σ) 24 [some (.ref 1), some (.int l1), some (.ref (11 + 17 * l1.toNatClampNeg)), some (.ref ((11 + 17 * l1.toNatClampNeg) + 1))] [.int (σ.1 ((11 + 17 * l1.toNatClampNeg) + 1) 8)]
      refine V.blk hC [(.iconst (-1), 1)] 24 [some (.ref 1), some (.int l1), some (.ref (11 + 17 * l1.toNatClampNeg)), some (.ref ((11 + 17 * l1.toNatClampNeg) + 1))] [.int (σ.1 ((11 + 17 * l1.toNatClampNeg) + 1) 8)] ⟨d_X_goOnTheAir_24, trivial⟩ (show tv_run _ _ _ _ = some (25, [some (.ref 1), some (.int l1), some (.ref (11 + 17 * l1.toNatClampNeg)), some (.ref ((11 + 17 * l1.toNatClampNeg) + 1))], [.int (-1 : Int32), .int (σ.1 ((11 + 17 * l1.toNatClampNeg) + 1) 8)]) from rfl) ?_
      refine V.icmp_eq hC d_X_goOnTheAir_25 (tgt := 49) (by decide) (fun hc => ?_) (fun hc => ?_)
      · rw [if_pos hc] at hf
        refine V.blk hC [(.aload_n 3, 1)] 49 [some (.ref 1), some (.int l1), some (.ref (11 + 17 * l1.toNatClampNeg)), some (.ref ((11 + 17 * l1.toNatClampNeg) + 1))] [] ⟨d_X_goOnTheAir_49, trivial⟩ (show tv_run _ _ _ _ = some (50, [some (.ref 1), some (.int l1), some (.ref (11 + 17 * l1.toNatClampNeg)), some (.ref ((11 + 17 * l1.toNatClampNeg) + 1))], [.ref ((11 + 17 * l1.toNatClampNeg) + 1)]) from rfl) ?_
        refine V.getf hC tf_X_81 (kd_in (kd_5_6 (kd_nodes hb1)) (by decide)) (hp_at (kd_5_6 (kd_nodes hb1))) rfl d_X_goOnTheAir_50 ?_
        show V X 0 0 tm_n (hp σ) 53 [some (.ref 1), some (.int l1), some (.ref (11 + 17 * l1.toNatClampNeg)), some (.ref ((11 + 17 * l1.toNatClampNeg) + 1))] [.int (σ.1 ((11 + 17 * l1.toNatClampNeg) + 1) 9)]
        refine V.if_ne hC d_X_goOnTheAir_53 (tgt := 157) (by decide) (fun hc => ?_) (fun hc => ?_)
        · rw [if_neg hc] at hf
          exact V.less (tv_le_some (tv_le_some (tv_le_none (tv_le_none tv_le_nil)))) (c_X_goOnTheAir_L157 hC hr hE hrc σ l1  hf)
        · rw [if_pos hc] at hf
          refine V.blk hC [(.aload_n 3, 1)] 56 [some (.ref 1), some (.int l1), some (.ref (11 + 17 * l1.toNatClampNeg)), some (.ref ((11 + 17 * l1.toNatClampNeg) + 1))] [] ⟨d_X_goOnTheAir_56, trivial⟩ (show tv_run _ _ _ _ = some (57, [some (.ref 1), some (.int l1), some (.ref (11 + 17 * l1.toNatClampNeg)), some (.ref ((11 + 17 * l1.toNatClampNeg) + 1))], [.ref ((11 + 17 * l1.toNatClampNeg) + 1)]) from rfl) ?_
          refine V.getf hC tf_X_73 (kd_in (kd_5_6 (kd_nodes hb1)) (by decide)) (hp_at (kd_5_6 (kd_nodes hb1))) rfl d_X_goOnTheAir_57 ?_
          show V X 0 0 tm_n (hp σ) 60 [some (.ref 1), some (.int l1), some (.ref (11 + 17 * l1.toNatClampNeg)), some (.ref ((11 + 17 * l1.toNatClampNeg) + 1))] [.int (σ.1 ((11 + 17 * l1.toNatClampNeg) + 1) 1)]
          refine V.if_ne hC d_X_goOnTheAir_60 (tgt := 66) (by decide) (fun hc => ?_) (fun hc => ?_)
          · rw [if_neg hc] at hf
            refine V.blk hC [(.aload_n 3, 1)] 66 [some (.ref 1), some (.int l1), some (.ref (11 + 17 * l1.toNatClampNeg)), some (.ref ((11 + 17 * l1.toNatClampNeg) + 1))] [] ⟨d_X_goOnTheAir_66, trivial⟩ (show tv_run _ _ _ _ = some (67, [some (.ref 1), some (.int l1), some (.ref (11 + 17 * l1.toNatClampNeg)), some (.ref ((11 + 17 * l1.toNatClampNeg) + 1))], [.ref ((11 + 17 * l1.toNatClampNeg) + 1)]) from rfl) ?_
            refine V.getf hC tf_X_127 (kd_in (kd_5_6 (kd_nodes hb1)) (by decide)) (hp_at (kd_5_6 (kd_nodes hb1))) rfl d_X_goOnTheAir_67 ?_
            show V X 0 0 tm_n (hp σ) 70 [some (.ref 1), some (.int l1), some (.ref (11 + 17 * l1.toNatClampNeg)), some (.ref ((11 + 17 * l1.toNatClampNeg) + 1))] [.int (σ.1 ((11 + 17 * l1.toNatClampNeg) + 1) 2)]
            refine V.if_le hC d_X_goOnTheAir_70 (tgt := 86) (by decide) (fun hc => ?_) (fun hc => ?_)
            · rw [if_pos hc] at hf
              refine V.blk hC [(.aload_n 0, 1), (.aload_n 2, 1)] 86 [some (.ref 1), some (.int l1), some (.ref (11 + 17 * l1.toNatClampNeg)), some (.ref ((11 + 17 * l1.toNatClampNeg) + 1))] [] ⟨d_X_goOnTheAir_86, d_X_goOnTheAir_87, trivial⟩ (show tv_run _ _ _ _ = some (88, [some (.ref 1), some (.int l1), some (.ref (11 + 17 * l1.toNatClampNeg)), some (.ref ((11 + 17 * l1.toNatClampNeg) + 1))], [.ref (11 + 17 * l1.toNatClampNeg), .ref 1]) from rfl) ?_
              obtain ⟨q2, hq2, hf⟩ := tm_bd hf
              refine V.callV hC tm_nest rfl (c_X_seemsBusy σ (11 + 17 * l1.toNatClampNeg) (kd_nodes hb1) hq2) (tm_gd tc_X_seemsBusy) tg_X_214 th_X_seemsBusy ⟨tm_le rfl, tm_le rfl, tm_le rfl, tm_le rfl⟩ rfl (kd_in kd_1 (by decide)) (hp_at kd_1) (As := [.ref (11 + 17 * l1.toNatClampNeg)]) (st := []) rfl (tm_le rfl) d_X_goOnTheAir_88 ?_
              rintro v n2 h2 ⟨rfl, rfl, rfl⟩
              show V X 0 0 tm_n (hp q2.2) 91 [some (.ref 1), some (.int l1), some (.ref (11 + 17 * l1.toNatClampNeg)), some (.ref ((11 + 17 * l1.toNatClampNeg) + 1))] [.int q2.1]
              refine V.if_ne hC d_X_goOnTheAir_91 (tgt := 112) (by decide) (fun hc => ?_) (fun hc => ?_)
              · rw [if_neg hc] at hf
                refine V.blk hC [(.aload_n 3, 1), (.dup, 1)] 112 [some (.ref 1), some (.int l1), some (.ref (11 + 17 * l1.toNatClampNeg)), some (.ref ((11 + 17 * l1.toNatClampNeg) + 1))] [] ⟨d_X_goOnTheAir_112, d_X_goOnTheAir_113, trivial⟩ (show tv_run _ _ _ _ = some (114, [some (.ref 1), some (.int l1), some (.ref (11 + 17 * l1.toNatClampNeg)), some (.ref ((11 + 17 * l1.toNatClampNeg) + 1))], [.ref ((11 + 17 * l1.toNatClampNeg) + 1), .ref ((11 + 17 * l1.toNatClampNeg) + 1)]) from rfl) ?_
                refine V.getf hC tf_X_130 (kd_in (kd_5_6 (kd_nodes hb1)) (by decide)) (hp_at (kd_5_6 (kd_nodes hb1))) rfl d_X_goOnTheAir_114 ?_
                show V X 0 0 tm_n (hp q2.2) 117 [some (.ref 1), some (.int l1), some (.ref (11 + 17 * l1.toNatClampNeg)), some (.ref ((11 + 17 * l1.toNatClampNeg) + 1))] [.int (q2.2.1 ((11 + 17 * l1.toNatClampNeg) + 1) 3), .ref ((11 + 17 * l1.toNatClampNeg) + 1)]
                refine V.blk hC [(.iconst 1, 1), (.iadd, 1)] 117 [some (.ref 1), some (.int l1), some (.ref (11 + 17 * l1.toNatClampNeg)), some (.ref ((11 + 17 * l1.toNatClampNeg) + 1))] [.int (q2.2.1 ((11 + 17 * l1.toNatClampNeg) + 1) 3), .ref ((11 + 17 * l1.toNatClampNeg) + 1)] ⟨d_X_goOnTheAir_117, d_X_goOnTheAir_118, trivial⟩ (show tv_run _ _ _ _ = some (119, [some (.ref 1), some (.int l1), some (.ref (11 + 17 * l1.toNatClampNeg)), some (.ref ((11 + 17 * l1.toNatClampNeg) + 1))], [.int ((q2.2.1 ((11 + 17 * l1.toNatClampNeg) + 1) 3) + (1 : Int32)), .ref ((11 + 17 * l1.toNatClampNeg) + 1)]) from rfl) ?_
                obtain ⟨σ3, hσ3, hf⟩ := tm_ww hf
                refine V.seti hC tf_X_130 tt_R to_R tn_R rfl (by decide +kernel) tm_fi (kd_5_6 (kd_nodes hb1)) (kd_in (kd_5_6 (kd_nodes hb1)) (by decide)) rfl rfl (tm_le rfl) d_X_goOnTheAir_119 ?_
                rw [← hσ3]
                refine V.blk hC [(.aload_n 3, 1)] 122 [some (.ref 1), some (.int l1), some (.ref (11 + 17 * l1.toNatClampNeg)), some (.ref ((11 + 17 * l1.toNatClampNeg) + 1))] [] ⟨d_X_goOnTheAir_122, trivial⟩ (show tv_run _ _ _ _ = some (123, [some (.ref 1), some (.int l1), some (.ref (11 + 17 * l1.toNatClampNeg)), some (.ref ((11 + 17 * l1.toNatClampNeg) + 1))], [.ref ((11 + 17 * l1.toNatClampNeg) + 1)]) from rfl) ?_
                refine V.getf hC tf_X_130 (kd_in (kd_5_6 (kd_nodes hb1)) (by decide)) (hp_at (kd_5_6 (kd_nodes hb1))) rfl d_X_goOnTheAir_123 ?_
                show V X 0 0 tm_n (hp σ3) 126 [some (.ref 1), some (.int l1), some (.ref (11 + 17 * l1.toNatClampNeg)), some (.ref ((11 + 17 * l1.toNatClampNeg) + 1))] [.int (σ3.1 ((11 + 17 * l1.toNatClampNeg) + 1) 3)]
                refine V.blk hC [(.iconst 5, 1)] 126 [some (.ref 1), some (.int l1), some (.ref (11 + 17 * l1.toNatClampNeg)), some (.ref ((11 + 17 * l1.toNatClampNeg) + 1))] [.int (σ3.1 ((11 + 17 * l1.toNatClampNeg) + 1) 3)] ⟨d_X_goOnTheAir_126, trivial⟩ (show tv_run _ _ _ _ = some (127, [some (.ref 1), some (.int l1), some (.ref (11 + 17 * l1.toNatClampNeg)), some (.ref ((11 + 17 * l1.toNatClampNeg) + 1))], [.int (5 : Int32), .int (σ3.1 ((11 + 17 * l1.toNatClampNeg) + 1) 3)]) from rfl) ?_
                refine V.icmp_ne hC d_X_goOnTheAir_127 (tgt := 138) (by decide) (fun hc => ?_) (fun hc => ?_)
                · rw [if_neg hc] at hf
                  refine V.blk hC [(.aload_n 3, 1), (.aload_n 0, 1), (.bipush 32, 2), (.iconst 4, 1), (.aload_n 3, 1)] 138 [some (.ref 1), some (.int l1), some (.ref (11 + 17 * l1.toNatClampNeg)), some (.ref ((11 + 17 * l1.toNatClampNeg) + 1))] [] ⟨d_X_goOnTheAir_138, d_X_goOnTheAir_139, d_X_goOnTheAir_140, d_X_goOnTheAir_142, d_X_goOnTheAir_143, trivial⟩ (show tv_run _ _ _ _ = some (144, [some (.ref 1), some (.int l1), some (.ref (11 + 17 * l1.toNatClampNeg)), some (.ref ((11 + 17 * l1.toNatClampNeg) + 1))], [.ref ((11 + 17 * l1.toNatClampNeg) + 1), .int (4 : Int32), .int (32 : Int32), .ref 1, .ref ((11 + 17 * l1.toNatClampNeg) + 1)]) from rfl) ?_
                  refine V.getf hC tf_X_130 (kd_in (kd_5_6 (kd_nodes hb1)) (by decide)) (hp_at (kd_5_6 (kd_nodes hb1))) rfl d_X_goOnTheAir_144 ?_
                  show V X 0 0 tm_n (hp σ3) 147 [some (.ref 1), some (.int l1), some (.ref (11 + 17 * l1.toNatClampNeg)), some (.ref ((11 + 17 * l1.toNatClampNeg) + 1))] [.int (σ3.1 ((11 + 17 * l1.toNatClampNeg) + 1) 3), .int (4 : Int32), .int (32 : Int32), .ref 1, .ref ((11 + 17 * l1.toNatClampNeg) + 1)]
                  refine V.blk hC [(.ishl, 1)] 147 [some (.ref 1), some (.int l1), some (.ref (11 + 17 * l1.toNatClampNeg)), some (.ref ((11 + 17 * l1.toNatClampNeg) + 1))] [.int (σ3.1 ((11 + 17 * l1.toNatClampNeg) + 1) 3), .int (4 : Int32), .int (32 : Int32), .ref 1, .ref ((11 + 17 * l1.toNatClampNeg) + 1)] ⟨d_X_goOnTheAir_147, trivial⟩ (show tv_run _ _ _ _ = some (148, [some (.ref 1), some (.int l1), some (.ref (11 + 17 * l1.toNatClampNeg)), some (.ref ((11 + 17 * l1.toNatClampNeg) + 1))], [.int ((4 : Int32) <<< ((σ3.1 ((11 + 17 * l1.toNatClampNeg) + 1) 3) &&& 31)), .int (32 : Int32), .ref 1, .ref ((11 + 17 * l1.toNatClampNeg) + 1)]) from rfl) ?_
                  refine V.mmin hC rfl tg_X_24 ⟨tm_le rfl, tm_le rfl, tm_le rfl, tm_le rfl⟩ d_X_goOnTheAir_148 ?_
                  obtain ⟨q4, hq4, hf⟩ := tm_bd hf
                  refine V.callV hC tm_nest rfl (c_X_draw σ3 (if ((4 : Int32) <<< ((σ3.1 ((11 + 17 * l1.toNatClampNeg) + 1) 3) &&& 31)) < (32 : Int32) then ((4 : Int32) <<< ((σ3.1 ((11 + 17 * l1.toNatClampNeg) + 1) 3) &&& 31)) else (32 : Int32))  hq4) (tm_gd tc_X_draw) tg_X_187 th_X_draw ⟨tm_le rfl, tm_le rfl, tm_le rfl, tm_le rfl⟩ rfl (kd_in kd_1 (by decide)) (hp_at kd_1) (As := [.int (if ((4 : Int32) <<< ((σ3.1 ((11 + 17 * l1.toNatClampNeg) + 1) 3) &&& 31)) < (32 : Int32) then ((4 : Int32) <<< ((σ3.1 ((11 + 17 * l1.toNatClampNeg) + 1) 3) &&& 31)) else (32 : Int32))]) (st := [.ref ((11 + 17 * l1.toNatClampNeg) + 1)]) rfl (tm_le rfl) d_X_goOnTheAir_151 ?_
                  rintro v n2 h2 ⟨rfl, rfl, rfl⟩
                  show V X 0 0 tm_n (hp q4.2) 154 [some (.ref 1), some (.int l1), some (.ref (11 + 17 * l1.toNatClampNeg)), some (.ref ((11 + 17 * l1.toNatClampNeg) + 1))] [.int q4.1, .ref ((11 + 17 * l1.toNatClampNeg) + 1)]
                  obtain ⟨σ5, hσ5, hf⟩ := tm_ww hf
                  refine V.seti hC tf_X_127 tt_R to_R tn_R rfl (by decide +kernel) tm_fi (kd_5_6 (kd_nodes hb1)) (kd_in (kd_5_6 (kd_nodes hb1)) (by decide)) rfl rfl (tm_le rfl) d_X_goOnTheAir_154 ?_
                  rw [← hσ5]
                  exact V.less (tv_le_some (tv_le_some (tv_le_none (tv_le_none tv_le_nil)))) (c_X_goOnTheAir_L157 hC hr hE hrc σ5 l1  hf)
                · rw [if_pos hc] at hf
                  refine V.blk hC [(.aload_n 0, 1), (.aload_n 2, 1)] 130 [some (.ref 1), some (.int l1), some (.ref (11 + 17 * l1.toNatClampNeg)), some (.ref ((11 + 17 * l1.toNatClampNeg) + 1))] [] ⟨d_X_goOnTheAir_130, d_X_goOnTheAir_131, trivial⟩ (show tv_run _ _ _ _ = some (132, [some (.ref 1), some (.int l1), some (.ref (11 + 17 * l1.toNatClampNeg)), some (.ref ((11 + 17 * l1.toNatClampNeg) + 1))], [.ref (11 + 17 * l1.toNatClampNeg), .ref 1]) from rfl) ?_
                  obtain ⟨q6, hq6, hf⟩ := tm_bd hf
                  refine V.callV hC tm_nest rfl (c_X_failFirst σ3 (11 + 17 * l1.toNatClampNeg) (kd_nodes hb1) hq6) (tm_gd tc_X_failFirst) tg_X_218 th_X_failFirst ⟨tm_le rfl, tm_le rfl, tm_le rfl, tm_le rfl⟩ rfl (kd_in kd_1 (by decide)) (hp_at kd_1) (As := [.ref (11 + 17 * l1.toNatClampNeg)]) (st := []) rfl (tm_le rfl) d_X_goOnTheAir_132 ?_
                  rintro v n2 h2 ⟨rfl, rfl, rfl⟩
                  show V X 0 0 tm_n (hp q6) 135 [some (.ref 1), some (.int l1), some (.ref (11 + 17 * l1.toNatClampNeg)), some (.ref ((11 + 17 * l1.toNatClampNeg) + 1))] []
                  refine V.goto hC d_X_goOnTheAir_135 (tgt := 157) (by decide) ?_
                  exact V.less (tv_le_some (tv_le_some (tv_le_none (tv_le_none tv_le_nil)))) (c_X_goOnTheAir_L157 hC hr hE hrc q6 l1  hf)
              · rw [if_pos hc] at hf
                refine V.blk hC [(.aload_n 3, 1), (.iconst 2, 1)] 94 [some (.ref 1), some (.int l1), some (.ref (11 + 17 * l1.toNatClampNeg)), some (.ref ((11 + 17 * l1.toNatClampNeg) + 1))] [] ⟨d_X_goOnTheAir_94, d_X_goOnTheAir_95, trivial⟩ (show tv_run _ _ _ _ = some (96, [some (.ref 1), some (.int l1), some (.ref (11 + 17 * l1.toNatClampNeg)), some (.ref ((11 + 17 * l1.toNatClampNeg) + 1))], [.int (2 : Int32), .ref ((11 + 17 * l1.toNatClampNeg) + 1)]) from rfl) ?_
                obtain ⟨σ7, hσ7, hf⟩ := tm_ww hf
                refine V.seti hC tf_X_205 tt_R to_R tn_R rfl (by decide +kernel) tm_fi (kd_5_6 (kd_nodes hb1)) (kd_in (kd_5_6 (kd_nodes hb1)) (by decide)) rfl rfl (tm_le rfl) d_X_goOnTheAir_96 ?_
                rw [← hσ7]
                refine V.blk hC [(.aload_n 0, 1), (.dup, 1)] 99 [some (.ref 1), some (.int l1), some (.ref (11 + 17 * l1.toNatClampNeg)), some (.ref ((11 + 17 * l1.toNatClampNeg) + 1))] [] ⟨d_X_goOnTheAir_99, d_X_goOnTheAir_100, trivial⟩ (show tv_run _ _ _ _ = some (101, [some (.ref 1), some (.int l1), some (.ref (11 + 17 * l1.toNatClampNeg)), some (.ref ((11 + 17 * l1.toNatClampNeg) + 1))], [.ref 1, .ref 1]) from rfl) ?_
                refine V.getf hC tf_X_165 (kd_in kd_1 (by decide)) (hp_at kd_1) rfl d_X_goOnTheAir_101 ?_
                show V X 0 0 tm_n (hp σ7) 104 [some (.ref 1), some (.int l1), some (.ref (11 + 17 * l1.toNatClampNeg)), some (.ref ((11 + 17 * l1.toNatClampNeg) + 1))] [.int (σ7.1 1 10), .ref 1]
                refine V.blk hC [(.iconst 1, 1), (.iadd, 1)] 104 [some (.ref 1), some (.int l1), some (.ref (11 + 17 * l1.toNatClampNeg)), some (.ref ((11 + 17 * l1.toNatClampNeg) + 1))] [.int (σ7.1 1 10), .ref 1] ⟨d_X_goOnTheAir_104, d_X_goOnTheAir_105, trivial⟩ (show tv_run _ _ _ _ = some (106, [some (.ref 1), some (.int l1), some (.ref (11 + 17 * l1.toNatClampNeg)), some (.ref ((11 + 17 * l1.toNatClampNeg) + 1))], [.int ((σ7.1 1 10) + (1 : Int32)), .ref 1]) from rfl) ?_
                obtain ⟨σ8, hσ8, hf⟩ := tm_ww hf
                refine V.seti hC tf_X_165 tt_X to_X tn_X rfl (by decide +kernel) tm_fi kd_1 (kd_in kd_1 (by decide)) rfl rfl (tm_le rfl) d_X_goOnTheAir_106 ?_
                rw [← hσ8]
                refine V.goto hC d_X_goOnTheAir_109 (tgt := 157) (by decide) ?_
                exact V.less (tv_le_some (tv_le_some (tv_le_none (tv_le_none tv_le_nil)))) (c_X_goOnTheAir_L157 hC hr hE hrc σ8 l1  hf)
            · rw [if_neg hc] at hf
              refine V.blk hC [(.aload_n 3, 1), (.dup, 1)] 73 [some (.ref 1), some (.int l1), some (.ref (11 + 17 * l1.toNatClampNeg)), some (.ref ((11 + 17 * l1.toNatClampNeg) + 1))] [] ⟨d_X_goOnTheAir_73, d_X_goOnTheAir_74, trivial⟩ (show tv_run _ _ _ _ = some (75, [some (.ref 1), some (.int l1), some (.ref (11 + 17 * l1.toNatClampNeg)), some (.ref ((11 + 17 * l1.toNatClampNeg) + 1))], [.ref ((11 + 17 * l1.toNatClampNeg) + 1), .ref ((11 + 17 * l1.toNatClampNeg) + 1)]) from rfl) ?_
              refine V.getf hC tf_X_127 (kd_in (kd_5_6 (kd_nodes hb1)) (by decide)) (hp_at (kd_5_6 (kd_nodes hb1))) rfl d_X_goOnTheAir_75 ?_
              show V X 0 0 tm_n (hp σ) 78 [some (.ref 1), some (.int l1), some (.ref (11 + 17 * l1.toNatClampNeg)), some (.ref ((11 + 17 * l1.toNatClampNeg) + 1))] [.int (σ.1 ((11 + 17 * l1.toNatClampNeg) + 1) 2), .ref ((11 + 17 * l1.toNatClampNeg) + 1)]
              refine V.blk hC [(.iconst 1, 1), (.isub, 1)] 78 [some (.ref 1), some (.int l1), some (.ref (11 + 17 * l1.toNatClampNeg)), some (.ref ((11 + 17 * l1.toNatClampNeg) + 1))] [.int (σ.1 ((11 + 17 * l1.toNatClampNeg) + 1) 2), .ref ((11 + 17 * l1.toNatClampNeg) + 1)] ⟨d_X_goOnTheAir_78, d_X_goOnTheAir_79, trivial⟩ (show tv_run _ _ _ _ = some (80, [some (.ref 1), some (.int l1), some (.ref (11 + 17 * l1.toNatClampNeg)), some (.ref ((11 + 17 * l1.toNatClampNeg) + 1))], [.int ((σ.1 ((11 + 17 * l1.toNatClampNeg) + 1) 2) - (1 : Int32)), .ref ((11 + 17 * l1.toNatClampNeg) + 1)]) from rfl) ?_
              obtain ⟨σ9, hσ9, hf⟩ := tm_ww hf
              refine V.seti hC tf_X_127 tt_R to_R tn_R rfl (by decide +kernel) tm_fi (kd_5_6 (kd_nodes hb1)) (kd_in (kd_5_6 (kd_nodes hb1)) (by decide)) rfl rfl (tm_le rfl) d_X_goOnTheAir_80 ?_
              rw [← hσ9]
              refine V.goto hC d_X_goOnTheAir_83 (tgt := 157) (by decide) ?_
              exact V.less (tv_le_some (tv_le_some (tv_le_none (tv_le_none tv_le_nil)))) (c_X_goOnTheAir_L157 hC hr hE hrc σ9 l1  hf)
          · rw [if_pos hc] at hf
            refine V.goto hC d_X_goOnTheAir_63 (tgt := 157) (by decide) ?_
            exact V.less (tv_le_some (tv_le_some (tv_le_none (tv_le_none tv_le_nil)))) (c_X_goOnTheAir_L157 hC hr hE hrc σ l1  hf)
      · rw [if_neg hc] at hf
        refine V.blk hC [(.aload_n 3, 1), (.iconst 1, 1)] 28 [some (.ref 1), some (.int l1), some (.ref (11 + 17 * l1.toNatClampNeg)), some (.ref ((11 + 17 * l1.toNatClampNeg) + 1))] [] ⟨d_X_goOnTheAir_28, d_X_goOnTheAir_29, trivial⟩ (show tv_run _ _ _ _ = some (30, [some (.ref 1), some (.int l1), some (.ref (11 + 17 * l1.toNatClampNeg)), some (.ref ((11 + 17 * l1.toNatClampNeg) + 1))], [.int (1 : Int32), .ref ((11 + 17 * l1.toNatClampNeg) + 1)]) from rfl) ?_
        obtain ⟨σ10, hσ10, hf⟩ := tm_ww hf
        refine V.seti hC tf_X_205 tt_R to_R tn_R rfl (by decide +kernel) tm_fi (kd_5_6 (kd_nodes hb1)) (kd_in (kd_5_6 (kd_nodes hb1)) (by decide)) rfl rfl (tm_le rfl) d_X_goOnTheAir_30 ?_
        rw [← hσ10]
        refine V.blk hC [(.aload_n 3, 1), (.aload_n 3, 1)] 33 [some (.ref 1), some (.int l1), some (.ref (11 + 17 * l1.toNatClampNeg)), some (.ref ((11 + 17 * l1.toNatClampNeg) + 1))] [] ⟨d_X_goOnTheAir_33, d_X_goOnTheAir_34, trivial⟩ (show tv_run _ _ _ _ = some (35, [some (.ref 1), some (.int l1), some (.ref (11 + 17 * l1.toNatClampNeg)), some (.ref ((11 + 17 * l1.toNatClampNeg) + 1))], [.ref ((11 + 17 * l1.toNatClampNeg) + 1), .ref ((11 + 17 * l1.toNatClampNeg) + 1)]) from rfl) ?_
        refine V.getf hC tf_X_78 (kd_in (kd_5_6 (kd_nodes hb1)) (by decide)) (hp_at (kd_5_6 (kd_nodes hb1))) rfl d_X_goOnTheAir_35 ?_
        show V X 0 0 tm_n (hp σ10) 38 [some (.ref 1), some (.int l1), some (.ref (11 + 17 * l1.toNatClampNeg)), some (.ref ((11 + 17 * l1.toNatClampNeg) + 1))] [.int (σ10.1 ((11 + 17 * l1.toNatClampNeg) + 1) 8), .ref ((11 + 17 * l1.toNatClampNeg) + 1)]
        obtain ⟨σ11, hσ11, hf⟩ := tm_ww hf
        refine V.seti hC tf_X_211 tt_R to_R tn_R rfl (by decide +kernel) tm_fi (kd_5_6 (kd_nodes hb1)) (kd_in (kd_5_6 (kd_nodes hb1)) (by decide)) rfl rfl (tm_le rfl) d_X_goOnTheAir_38 ?_
        rw [← hσ11]
        refine V.blk hC [(.aload_n 3, 1), (.iconst (-1), 1)] 41 [some (.ref 1), some (.int l1), some (.ref (11 + 17 * l1.toNatClampNeg)), some (.ref ((11 + 17 * l1.toNatClampNeg) + 1))] [] ⟨d_X_goOnTheAir_41, d_X_goOnTheAir_42, trivial⟩ (show tv_run _ _ _ _ = some (43, [some (.ref 1), some (.int l1), some (.ref (11 + 17 * l1.toNatClampNeg)), some (.ref ((11 + 17 * l1.toNatClampNeg) + 1))], [.int (-1 : Int32), .ref ((11 + 17 * l1.toNatClampNeg) + 1)]) from rfl) ?_
        obtain ⟨σ12, hσ12, hf⟩ := tm_ww hf
        refine V.seti hC tf_X_78 tt_R to_R tn_R rfl (by decide +kernel) tm_fi (kd_5_6 (kd_nodes hb1)) (kd_in (kd_5_6 (kd_nodes hb1)) (by decide)) rfl rfl (tm_le rfl) d_X_goOnTheAir_43 ?_
        rw [← hσ12]
        refine V.goto hC d_X_goOnTheAir_46 (tgt := 157) (by decide) ?_
        exact V.less (tv_le_some (tv_le_some (tv_le_none (tv_le_none tv_le_nil)))) (c_X_goOnTheAir_L157 hC hr hE hrc σ12 l1  hf)
set_option maxHeartbeats 4000000 in
set_option maxRecDepth 100000 in
theorem c_X_goOnTheAir (σ : tm_S)   {r : tm_S} (hf : f_X_goOnTheAir σ  = some r) : tv_Met ty_X_goOnTheAir (Cond.code ty_X_goOnTheAir tb_X_goOnTheAir 4 none :: tm_wg) tm_ns tm_cl tm_ty 5 120 0 0 [.ref 1] tm_n (hp σ) (tm_P none r) := by
  refine tv_Met.of (by decide) rfl (tm_le rfl) ?_
  intro X hC hnm hr hE
  have hC : tv_K X tb_X_goOnTheAir 4 "TrickleMesh" tm_wg tm_ns tm_cl tm_ty { frames := 5, cells := 0, slots := 0, locals := 120 } := hC
  show V X 0 0 tm_n (hp σ) 0 [some (.ref 1), none, none, none] []
  unfold f_X_goOnTheAir at hf
  refine V.blk hC [(.iconst 0, 1), (.istore_n 1, 1)] 0 [some (.ref 1), none, none, none] [] ⟨d_X_goOnTheAir_0, d_X_goOnTheAir_1, trivial⟩ (show tv_run _ _ _ _ = some (2, [some (.ref 1), some (.int (0 : Int32)), none, none], []) from rfl) ?_
  exact V.less (tv_le_some (tv_le_some (tv_le_none (tv_le_none tv_le_nil)))) (c_X_goOnTheAir_L2 hC hr hE tm_fu σ (0 : Int32)  hf)
set_option maxHeartbeats 4000000 in
set_option maxRecDepth 100000 in
theorem c_X_onlySpeaker_L45 {X : tv_X} {r : Int32 × tm_S} (hC : tv_K X tb_X_onlySpeaker 4 "TrickleMesh" tm_wg tm_ns tm_cl tm_ty { frames := 0, cells := 0, slots := 0, locals := 0 }) (hr : tv_ret X (some .int)) (hE : tv_end X (tm_P (some (.int r.1)) r.2) 0 0) {rc : tm_S → Int32 → Int32 → Int32 → Option (Int32 × tm_S)} (hrc : ∀ (σ : tm_S) (l1 : Int32) (l2 : Int32) (l3 : Int32), rc σ l1 l2 l3 = some r → V X 0 0 tm_n (hp σ) 4 [some (.ref 1), some (.int l1), some (.int l2), some (.int l3)] []) (σ : tm_S) (l1 : Int32) (l2 : Int32) (l3 : Int32)  (hf : f_X_onlySpeaker_L45 rc σ l1 l2 l3 = some r) : V X 0 0 tm_n (hp σ) 45 [some (.ref 1), some (.int l1), some (.int l2), some (.int l3)] [] := by
  unfold f_X_onlySpeaker_L45 at hf
  refine V.blk hC [(.iinc 3 1, 3)] 45 [some (.ref 1), some (.int l1), some (.int l2), some (.int l3)] [] ⟨d_X_onlySpeaker_45, trivial⟩ (show tv_run _ _ _ _ = some (48, [some (.ref 1), some (.int l1), some (.int l2), some (.int (l3 + (1 : Int32)))], []) from rfl) ?_
  refine V.goto hC d_X_onlySpeaker_48 (tgt := 4) (by decide) ?_
  exact V.less (tv_le_some (tv_le_some (tv_le_some (tv_le_some tv_le_nil)))) (hrc σ l1 l2 (l3 + (1 : Int32))  hf)
set_option maxHeartbeats 4000000 in
set_option maxRecDepth 100000 in
theorem c_X_onlySpeaker_L4 {X : tv_X} {r : Int32 × tm_S} (hC : tv_K X tb_X_onlySpeaker 4 "TrickleMesh" tm_wg tm_ns tm_cl tm_ty { frames := 0, cells := 0, slots := 0, locals := 0 }) (hr : tv_ret X (some .int)) (hE : tv_end X (tm_P (some (.int r.1)) r.2) 0 0) : ∀ (k : Nat) (σ : tm_S) (l1 : Int32) (l2 : Int32) (l3 : Int32), f_X_onlySpeaker_L4 k σ l1 l2 l3 = some r → V X 0 0 tm_n (hp σ) 4 [some (.ref 1), some (.int l1), some (.int l2), some (.int l3)] [] := by
  intro k
  induction k with
  | zero => intro σ l1 l2 l3  hf; simp only [f_X_onlySpeaker_L4] at hf; cases hf
  | succ k hrc =>
    intro σ l1 l2 l3  hf
    rw [f_X_onlySpeaker_L4] at hf
    refine V.blk hC [(.iload_n 3, 1), (.bipush 7, 2)] 4 [some (.ref 1), some (.int l1), some (.int l2), some (.int l3)] [] ⟨d_X_onlySpeaker_4, d_X_onlySpeaker_5, trivial⟩ (show tv_run _ _ _ _ = some (7, [some (.ref 1), some (.int l1), some (.int l2), some (.int l3)], [.int (7 : Int32), .int l3]) from rfl) ?_
    refine V.icmp_ge hC d_X_onlySpeaker_7 (tgt := 51) (by decide) (fun hc => ?_) (fun hc => ?_)
    · rw [if_pos hc] at hf
      refine V.blk hC [(.iload_n 2, 1)] 51 [some (.ref 1), some (.int l1), some (.int l2), some (.int l3)] [] ⟨d_X_onlySpeaker_51, trivial⟩ (show tv_run _ _ _ _ = some (52, [some (.ref 1), some (.int l1), some (.int l2), some (.int l3)], [.int l2]) from rfl) ?_
      obtain rfl := Option.some.inj hf
      exact V.iret hC hr hE d_X_onlySpeaker_52 ⟨rfl, rfl, rfl⟩
    · rw [if_neg hc] at hf
      refine V.blk hC [(.aload_n 0, 1)] 10 [some (.ref 1), some (.int l1), some (.int l2), some (.int l3)] [] ⟨d_X_onlySpeaker_10, trivial⟩ (show tv_run _ _ _ _ = some (11, [some (.ref 1), some (.int l1), some (.int l2), some (.int l3)], [.ref 1]) from rfl) ?_
      refine V.getf hC tf_X_17 (kd_in kd_1 (by decide)) (hp_at kd_1) rfl d_X_onlySpeaker_11 ?_
      show V X 0 0 tm_n (hp σ) 14 [some (.ref 1), some (.int l1), some (.int l2), some (.int l3)] [.ref 3]
      refine V.blk hC [(.iload_n 1, 1)] 14 [some (.ref 1), some (.int l1), some (.int l2), some (.int l3)] [.ref 3] ⟨d_X_onlySpeaker_14, trivial⟩ (show tv_run _ _ _ _ = some (15, [some (.ref 1), some (.int l1), some (.int l2), some (.int l3)], [.int l1, .ref 3]) from rfl) ?_
      obtain ⟨hb1, hf⟩ := tm_if hf
      refine V.aald hC (kd_in kd_3 (by decide)) (hp_at kd_3) rfl rfl hb1 d_X_onlySpeaker_15 ?_
      show V X 0 0 tm_n (hp σ) 16 [some (.ref 1), some (.int l1), some (.int l2), some (.int l3)] [.ref (4 + l1.toNatClampNeg)]
      refine V.blk hC [(.iload_n 3, 1)] 16 [some (.ref 1), some (.int l1), some (.int l2), some (.int l3)] [.ref (4 + l1.toNatClampNeg)] ⟨d_X_onlySpeaker_16, trivial⟩ (show tv_run _ _ _ _ = some (17, [some (.ref 1), some (.int l1), some (.int l2), some (.int l3)], [.int l3, .ref (4 + l1.toNatClampNeg)]) from rfl) ?_
      obtain ⟨hb2, hf⟩ := tm_if hf
      refine V.iald hC (kd_in (kd_costs hb1) (by decide)) (hp_at (kd_costs hb1)) rfl hb2 d_X_onlySpeaker_17 ?_
      show V X 0 0 tm_n (hp σ) 18 [some (.ref 1), some (.int l1), some (.int l2), some (.int l3)] [.int (σ.1 (4 + l1.toNatClampNeg) l3.toNatClampNeg)]
      refine V.if_le hC d_X_onlySpeaker_18 (tgt := 45) (by decide) (fun hc => ?_) (fun hc => ?_)
      · rw [if_pos hc] at hf
        exact V.less (tv_le_some (tv_le_some (tv_le_some (tv_le_some tv_le_nil)))) (c_X_onlySpeaker_L45 hC hr hE hrc σ l1 l2 l3  hf)
      · rw [if_neg hc] at hf
        refine V.blk hC [(.aload_n 0, 1)] 21 [some (.ref 1), some (.int l1), some (.int l2), some (.int l3)] [] ⟨d_X_onlySpeaker_21, trivial⟩ (show tv_run _ _ _ _ = some (22, [some (.ref 1), some (.int l1), some (.int l2), some (.int l3)], [.ref 1]) from rfl) ?_
        refine V.getf hC tf_X_11 (kd_in kd_1 (by decide)) (hp_at kd_1) rfl d_X_onlySpeaker_22 ?_
        show V X 0 0 tm_n (hp σ) 25 [some (.ref 1), some (.int l1), some (.int l2), some (.int l3)] [.ref 2]
        refine V.blk hC [(.iload_n 3, 1)] 25 [some (.ref 1), some (.int l1), some (.int l2), some (.int l3)] [.ref 2] ⟨d_X_onlySpeaker_25, trivial⟩ (show tv_run _ _ _ _ = some (26, [some (.ref 1), some (.int l1), some (.int l2), some (.int l3)], [.int l3, .ref 2]) from rfl) ?_
        obtain ⟨hb3, hf⟩ := tm_if hf
        refine V.aald hC (kd_in kd_2 (by decide)) (hp_at kd_2) rfl rfl hb3 d_X_onlySpeaker_26 ?_
        show V X 0 0 tm_n (hp σ) 27 [some (.ref 1), some (.int l1), some (.int l2), some (.int l3)] [.ref (11 + 17 * l3.toNatClampNeg)]
        refine V.getf hC tf_X_69 (kd_in (kd_nodes hb3) (by decide)) (hp_at (kd_nodes hb3)) rfl d_X_onlySpeaker_27 ?_
        show V X 0 0 tm_n (hp σ) 30 [some (.ref 1), some (.int l1), some (.int l2), some (.int l3)] [.ref ((11 + 17 * l3.toNatClampNeg) + 1)]
        refine V.getf hC tf_X_205 (kd_in (kd_5_6 (kd_nodes hb3)) (by decide)) (hp_at (kd_5_6 (kd_nodes hb3))) rfl d_X_onlySpeaker_30 ?_
        show V X 0 0 tm_n (hp σ) 33 [some (.ref 1), some (.int l1), some (.int l2), some (.int l3)] [.int (σ.1 ((11 + 17 * l3.toNatClampNeg) + 1) 5)]
        refine V.if_eq hC d_X_onlySpeaker_33 (tgt := 45) (by decide) (fun hc => ?_) (fun hc => ?_)
        · rw [if_pos hc] at hf
          exact V.less (tv_le_some (tv_le_some (tv_le_some (tv_le_some tv_le_nil)))) (c_X_onlySpeaker_L45 hC hr hE hrc σ l1 l2 l3  hf)
        · rw [if_neg hc] at hf
          refine V.blk hC [(.iload_n 2, 1), (.iconst (-1), 1)] 36 [some (.ref 1), some (.int l1), some (.int l2), some (.int l3)] [] ⟨d_X_onlySpeaker_36, d_X_onlySpeaker_37, trivial⟩ (show tv_run _ _ _ _ = some (38, [some (.ref 1), some (.int l1), some (.int l2), some (.int l3)], [.int (-1 : Int32), .int l2]) from rfl) ?_
          refine V.icmp_eq hC d_X_onlySpeaker_38 (tgt := 43) (by decide) (fun hc => ?_) (fun hc => ?_)
          · rw [if_pos hc] at hf
            refine V.blk hC [(.iload_n 3, 1), (.istore_n 2, 1)] 43 [some (.ref 1), some (.int l1), some (.int l2), some (.int l3)] [] ⟨d_X_onlySpeaker_43, d_X_onlySpeaker_44, trivial⟩ (show tv_run _ _ _ _ = some (45, [some (.ref 1), some (.int l1), some (.int l3), some (.int l3)], []) from rfl) ?_
            exact V.less (tv_le_some (tv_le_some (tv_le_some (tv_le_some tv_le_nil)))) (c_X_onlySpeaker_L45 hC hr hE hrc σ l1 l3 l3  hf)
          · rw [if_neg hc] at hf
            refine V.blk hC [(.iconst (-1), 1)] 41 [some (.ref 1), some (.int l1), some (.int l2), some (.int l3)] [] ⟨d_X_onlySpeaker_41, trivial⟩ (show tv_run _ _ _ _ = some (42, [some (.ref 1), some (.int l1), some (.int l2), some (.int l3)], [.int (-1 : Int32)]) from rfl) ?_
            obtain rfl := Option.some.inj hf
            exact V.iret hC hr hE d_X_onlySpeaker_42 ⟨rfl, rfl, rfl⟩
set_option maxHeartbeats 4000000 in
set_option maxRecDepth 100000 in
theorem c_X_onlySpeaker (σ : tm_S) (a1 : Int32)  {r : Int32 × tm_S} (hf : f_X_onlySpeaker σ a1 = some r) : tv_Met ty_X_onlySpeaker (Cond.code ty_X_onlySpeaker tb_X_onlySpeaker 4 (some .int) :: tm_wg) tm_ns tm_cl tm_ty 0 0 0 0 [.ref 1, .int a1] tm_n (hp σ) (tm_P (some (.int r.1)) r.2) := by
  refine tv_Met.of (by decide) rfl (tm_le rfl) ?_
  intro X hC hnm hr hE
  have hC : tv_K X tb_X_onlySpeaker 4 "TrickleMesh" tm_wg tm_ns tm_cl tm_ty { frames := 0, cells := 0, slots := 0, locals := 0 } := hC
  show V X 0 0 tm_n (hp σ) 0 [some (.ref 1), some (.int a1), none, none] []
  unfold f_X_onlySpeaker at hf
  refine V.blk hC [(.iconst (-1), 1), (.istore_n 2, 1), (.iconst 0, 1), (.istore_n 3, 1)] 0 [some (.ref 1), some (.int a1), none, none] [] ⟨d_X_onlySpeaker_0, d_X_onlySpeaker_1, d_X_onlySpeaker_2, d_X_onlySpeaker_3, trivial⟩ (show tv_run _ _ _ _ = some (4, [some (.ref 1), some (.int a1), some (.int (-1 : Int32)), some (.int (0 : Int32))], []) from rfl) ?_
  exact V.less (tv_le_some (tv_le_some (tv_le_some (tv_le_some tv_le_nil)))) (c_X_onlySpeaker_L4 hC hr hE tm_fu σ a1 (-1 : Int32) (0 : Int32)  hf)
set_option maxHeartbeats 4000000 in
set_option maxRecDepth 100000 in
theorem c_X_hearTheAir_L55 {X : tv_X} {r : tm_S} (hC : tv_K X tb_X_hearTheAir 4 "TrickleMesh" tm_wg tm_ns tm_cl tm_ty { frames := 1, cells := 0, slots := 0, locals := 23 }) (hr : tv_ret X none) (hE : tv_end X (tm_P none r) 0 0) {rc : tm_S → Int32 → Option (tm_S)} (hrc : ∀ (σ : tm_S) (l1 : Int32), rc σ l1 = some r → V X 0 0 tm_n (hp σ) 2 [some (.ref 1), some (.int l1), none, none] []) (σ : tm_S) (l1 : Int32) (s0 : Int32) (s1 : Nat) (ks1 : kd s1 = 6) (hf : f_X_hearTheAir_L55 rc σ l1 s0 s1 = some r) : V X 0 0 tm_n (hp σ) 55 [some (.ref 1), some (.int l1), none, none] [.int s0, .ref s1] := by
  unfold f_X_hearTheAir_L55 at hf
  obtain ⟨σ3, hσ3, hf⟩ := tm_ww hf
  refine V.seti hC tf_X_227 tt_R to_R tn_R rfl (by decide +kernel) tm_fi ks1 (kd_in ks1 (by decide)) rfl rfl (tm_le rfl) d_X_hearTheAir_55 ?_
  rw [← hσ3]
  refine V.blk hC [(.iinc 1 1, 3)] 58 [some (.ref 1), some (.int l1), none, none] [] ⟨d_X_hearTheAir_58, trivial⟩ (show tv_run _ _ _ _ = some (61, [some (.ref 1), some (.int (l1 + (1 : Int32))), none, none], []) from rfl) ?_
  refine V.goto hC d_X_hearTheAir_61 (tgt := 2) (by decide) ?_
  exact V.less (tv_le_some (tv_le_some (tv_le_none (tv_le_none tv_le_nil)))) (hrc σ3 (l1 + (1 : Int32))  hf)
set_option maxHeartbeats 4000000 in
set_option maxRecDepth 100000 in
theorem c_X_hearTheAir_L37 {X : tv_X} {r : tm_S} (hC : tv_K X tb_X_hearTheAir 4 "TrickleMesh" tm_wg tm_ns tm_cl tm_ty { frames := 1, cells := 0, slots := 0, locals := 23 }) (hr : tv_ret X none) (hE : tv_end X (tm_P none r) 0 0) {rc : tm_S → Int32 → Option (tm_S)} (hrc : ∀ (σ : tm_S) (l1 : Int32), rc σ l1 = some r → V X 0 0 tm_n (hp σ) 2 [some (.ref 1), some (.int l1), none, none] []) (σ : tm_S) (l1 : Int32) (l2 : Nat) (s0 : Int32) (kl2 : kd l2 = 5) (hf : f_X_hearTheAir_L37 rc σ l1 l2 s0 = some r) : V X 0 0 tm_n (hp σ) 37 [some (.ref 1), some (.int l1), some (.ref l2), none] [.int s0] := by
  unfold f_X_hearTheAir_L37 at hf
  refine V.blk hC [(.istore_n 3, 1), (.aload_n 2, 1)] 37 [some (.ref 1), some (.int l1), some (.ref l2), none] [.int s0] ⟨d_X_hearTheAir_37, d_X_hearTheAir_38, trivial⟩ (show tv_run _ _ _ _ = some (39, [some (.ref 1), some (.int l1), some (.ref l2), some (.int s0)], [.ref l2]) from rfl) ?_
  refine V.getf hC tf_X_69 (kd_in kl2 (by decide)) (hp_at kl2) rfl d_X_hearTheAir_39 ?_
  show V X 0 0 tm_n (hp σ) 42 [some (.ref 1), some (.int l1), some (.ref l2), some (.int s0)] [.ref (l2 + 1)]
  refine V.blk hC [(.iload_n 3, 1)] 42 [some (.ref 1), some (.int l1), some (.ref l2), some (.int s0)] [.ref (l2 + 1)] ⟨d_X_hearTheAir_42, trivial⟩ (show tv_run _ _ _ _ = some (43, [some (.ref 1), some (.int l1), some (.ref l2), some (.int s0)], [.int s0, .ref (l2 + 1)]) from rfl) ?_
  refine V.if_eq hC d_X_hearTheAir_43 (tgt := 54) (by decide) (fun hc => ?_) (fun hc => ?_)
  · rw [if_pos hc] at hf
    refine V.blk hC [(.iconst (-1), 1)] 54 [some (.ref 1), some (.int l1), some (.ref l2), some (.int s0)] [.ref (l2 + 1)] ⟨d_X_hearTheAir_54, trivial⟩ (show tv_run _ _ _ _ = some (55, [some (.ref 1), some (.int l1), some (.ref l2), some (.int s0)], [.int (-1 : Int32), .ref (l2 + 1)]) from rfl) ?_
    exact V.less (tv_le_some (tv_le_some (tv_le_none (tv_le_none tv_le_nil)))) (c_X_hearTheAir_L55 hC hr hE hrc σ l1 (-1 : Int32) (l2 + 1) (kd_5_6 kl2) hf)
  · rw [if_neg hc] at hf
    refine V.blk hC [(.aload_n 0, 1), (.iload_n 1, 1)] 46 [some (.ref 1), some (.int l1), some (.ref l2), some (.int s0)] [.ref (l2 + 1)] ⟨d_X_hearTheAir_46, d_X_hearTheAir_47, trivial⟩ (show tv_run _ _ _ _ = some (48, [some (.ref 1), some (.int l1), some (.ref l2), some (.int s0)], [.int l1, .ref 1, .ref (l2 + 1)]) from rfl) ?_
    obtain ⟨q2, hq2, hf⟩ := tm_bd hf
    refine V.callV hC tm_nest rfl (c_X_onlySpeaker σ l1  hq2) (tm_gd tc_X_onlySpeaker) tg_X_224 th_X_onlySpeaker ⟨tm_le rfl, tm_le rfl, tm_le rfl, tm_le rfl⟩ rfl (kd_in kd_1 (by decide)) (hp_at kd_1) (As := [.int l1]) (st := [.ref (l2 + 1)]) rfl (tm_le rfl) d_X_hearTheAir_48 ?_
    rintro v n2 h2 ⟨rfl, rfl, rfl⟩
    show V X 0 0 tm_n (hp q2.2) 51 [some (.ref 1), some (.int l1), some (.ref l2), some (.int s0)] [.int q2.1, .ref (l2 + 1)]
    refine V.goto hC d_X_hearTheAir_51 (tgt := 55) (by decide) ?_
    exact V.less (tv_le_some (tv_le_some (tv_le_none (tv_le_none tv_le_nil)))) (c_X_hearTheAir_L55 hC hr hE hrc q2.2 l1 q2.1 (l2 + 1) (kd_5_6 kl2) hf)
set_option maxHeartbeats 4000000 in
set_option maxRecDepth 100000 in
theorem c_X_hearTheAir_L36 {X : tv_X} {r : tm_S} (hC : tv_K X tb_X_hearTheAir 4 "TrickleMesh" tm_wg tm_ns tm_cl tm_ty { frames := 1, cells := 0, slots := 0, locals := 23 }) (hr : tv_ret X none) (hE : tv_end X (tm_P none r) 0 0) {rc : tm_S → Int32 → Option (tm_S)} (hrc : ∀ (σ : tm_S) (l1 : Int32), rc σ l1 = some r → V X 0 0 tm_n (hp σ) 2 [some (.ref 1), some (.int l1), none, none] []) (σ : tm_S) (l1 : Int32) (l2 : Nat) (kl2 : kd l2 = 5) (hf : f_X_hearTheAir_L36 rc σ l1 l2 = some r) : V X 0 0 tm_n (hp σ) 36 [some (.ref 1), some (.int l1), some (.ref l2), none] [] := by
  unfold f_X_hearTheAir_L36 at hf
  refine V.blk hC [(.iconst 0, 1)] 36 [some (.ref 1), some (.int l1), some (.ref l2), none] [] ⟨d_X_hearTheAir_36, trivial⟩ (show tv_run _ _ _ _ = some (37, [some (.ref 1), some (.int l1), some (.ref l2), none], [.int (0 : Int32)]) from rfl) ?_
  exact V.less (tv_le_some (tv_le_some (tv_le_some (tv_le_none tv_le_nil)))) (c_X_hearTheAir_L37 hC hr hE hrc σ l1 l2 (0 : Int32) kl2 hf)
set_option maxHeartbeats 4000000 in
set_option maxRecDepth 100000 in
theorem c_X_hearTheAir_L2 {X : tv_X} {r : tm_S} (hC : tv_K X tb_X_hearTheAir 4 "TrickleMesh" tm_wg tm_ns tm_cl tm_ty { frames := 1, cells := 0, slots := 0, locals := 23 }) (hr : tv_ret X none) (hE : tv_end X (tm_P none r) 0 0) : ∀ (k : Nat) (σ : tm_S) (l1 : Int32), f_X_hearTheAir_L2 k σ l1 = some r → V X 0 0 tm_n (hp σ) 2 [some (.ref 1), some (.int l1), none, none] [] := by
  intro k
  induction k with
  | zero => intro σ l1  hf; simp only [f_X_hearTheAir_L2] at hf; cases hf
  | succ k hrc =>
    intro σ l1  hf
    rw [f_X_hearTheAir_L2] at hf
    refine V.blk hC [(.iload_n 1, 1), (.bipush 7, 2)] 2 [some (.ref 1), some (.int l1), none, none] [] ⟨d_X_hearTheAir_2, d_X_hearTheAir_3, trivial⟩ (show tv_run _ _ _ _ = some (5, [some (.ref 1), some (.int l1), none, none], [.int (7 : Int32), .int l1]) from rfl) ?_
    refine V.icmp_ge hC d_X_hearTheAir_5 (tgt := 64) (by decide) (fun hc => ?_) (fun hc => ?_)
    · rw [if_pos hc] at hf
      obtain rfl := Option.some.inj hf
      exact V.vret hC hr hE d_X_hearTheAir_64 ⟨rfl, rfl, rfl⟩
    · rw [if_neg hc] at hf
      refine V.blk hC [(.aload_n 0, 1)] 8 [some (.ref 1), some (.int l1), none, none] [] ⟨d_X_hearTheAir_8, trivial⟩ (show tv_run _ _ _ _ = some (9, [some (.ref 1), some (.int l1), none, none], [.ref 1]) from rfl) ?_
      refine V.getf hC tf_X_11 (kd_in kd_1 (by decide)) (hp_at kd_1) rfl d_X_hearTheAir_9 ?_
      show V X 0 0 tm_n (hp σ) 12 [some (.ref 1), some (.int l1), none, none] [.ref 2]
      refine V.blk hC [(.iload_n 1, 1)] 12 [some (.ref 1), some (.int l1), none, none] [.ref 2] ⟨d_X_hearTheAir_12, trivial⟩ (show tv_run _ _ _ _ = some (13, [some (.ref 1), some (.int l1), none, none], [.int l1, .ref 2]) from rfl) ?_
      obtain ⟨hb1, hf⟩ := tm_if hf
      refine V.aald hC (kd_in kd_2 (by decide)) (hp_at kd_2) rfl rfl hb1 d_X_hearTheAir_13 ?_
      show V X 0 0 tm_n (hp σ) 14 [some (.ref 1), some (.int l1), none, none] [.ref (11 + 17 * l1.toNatClampNeg)]
      refine V.blk hC [(.astore_n 2, 1), (.aload_n 2, 1)] 14 [some (.ref 1), some (.int l1), none, none] [.ref (11 + 17 * l1.toNatClampNeg)] ⟨d_X_hearTheAir_14, d_X_hearTheAir_15, trivial⟩ (show tv_run _ _ _ _ = some (16, [some (.ref 1), some (.int l1), some (.ref (11 + 17 * l1.toNatClampNeg)), none], [.ref (11 + 17 * l1.toNatClampNeg)]) from rfl) ?_
      refine V.getf hC tf_X_66 (kd_in (kd_nodes hb1) (by decide)) (hp_at (kd_nodes hb1)) rfl d_X_hearTheAir_16 ?_
      show V X 0 0 tm_n (hp σ) 19 [some (.ref 1), some (.int l1), some (.ref (11 + 17 * l1.toNatClampNeg)), none] [.int (σ.1 (11 + 17 * l1.toNatClampNeg) 9)]
      refine V.if_eq hC d_X_hearTheAir_19 (tgt := 36) (by decide) (fun hc => ?_) (fun hc => ?_)
      · rw [if_pos hc] at hf
        exact V.less (tv_le_some (tv_le_some (tv_le_some (tv_le_none tv_le_nil)))) (c_X_hearTheAir_L36 hC hr hE hrc σ l1 (11 + 17 * l1.toNatClampNeg) (kd_nodes hb1) hf)
      · rw [if_neg hc] at hf
        refine V.blk hC [(.aload_n 2, 1)] 22 [some (.ref 1), some (.int l1), some (.ref (11 + 17 * l1.toNatClampNeg)), none] [] ⟨d_X_hearTheAir_22, trivial⟩ (show tv_run _ _ _ _ = some (23, [some (.ref 1), some (.int l1), some (.ref (11 + 17 * l1.toNatClampNeg)), none], [.ref (11 + 17 * l1.toNatClampNeg)]) from rfl) ?_
        refine V.getf hC tf_X_69 (kd_in (kd_nodes hb1) (by decide)) (hp_at (kd_nodes hb1)) rfl d_X_hearTheAir_23 ?_
        show V X 0 0 tm_n (hp σ) 26 [some (.ref 1), some (.int l1), some (.ref (11 + 17 * l1.toNatClampNeg)), none] [.ref ((11 + 17 * l1.toNatClampNeg) + 1)]
        refine V.getf hC tf_X_205 (kd_in (kd_5_6 (kd_nodes hb1)) (by decide)) (hp_at (kd_5_6 (kd_nodes hb1))) rfl d_X_hearTheAir_26 ?_
        show V X 0 0 tm_n (hp σ) 29 [some (.ref 1), some (.int l1), some (.ref (11 + 17 * l1.toNatClampNeg)), none] [.int (σ.1 ((11 + 17 * l1.toNatClampNeg) + 1) 5)]
        refine V.if_ne hC d_X_hearTheAir_29 (tgt := 36) (by decide) (fun hc => ?_) (fun hc => ?_)
        · rw [if_neg hc] at hf
          exact V.less (tv_le_some (tv_le_some (tv_le_some (tv_le_none tv_le_nil)))) (c_X_hearTheAir_L36 hC hr hE hrc σ l1 (11 + 17 * l1.toNatClampNeg) (kd_nodes hb1) hf)
        · rw [if_pos hc] at hf
          refine V.blk hC [(.iconst 1, 1)] 32 [some (.ref 1), some (.int l1), some (.ref (11 + 17 * l1.toNatClampNeg)), none] [] ⟨d_X_hearTheAir_32, trivial⟩ (show tv_run _ _ _ _ = some (33, [some (.ref 1), some (.int l1), some (.ref (11 + 17 * l1.toNatClampNeg)), none], [.int (1 : Int32)]) from rfl) ?_
          refine V.goto hC d_X_hearTheAir_33 (tgt := 37) (by decide) ?_
          exact V.less (tv_le_some (tv_le_some (tv_le_some (tv_le_none tv_le_nil)))) (c_X_hearTheAir_L37 hC hr hE hrc σ l1 (11 + 17 * l1.toNatClampNeg) (1 : Int32) (kd_nodes hb1) hf)
set_option maxHeartbeats 4000000 in
set_option maxRecDepth 100000 in
theorem c_X_hearTheAir (σ : tm_S)   {r : tm_S} (hf : f_X_hearTheAir σ  = some r) : tv_Met ty_X_hearTheAir (Cond.code ty_X_hearTheAir tb_X_hearTheAir 4 none :: tm_wg) tm_ns tm_cl tm_ty 1 23 0 0 [.ref 1] tm_n (hp σ) (tm_P none r) := by
  refine tv_Met.of (by decide) rfl (tm_le rfl) ?_
  intro X hC hnm hr hE
  have hC : tv_K X tb_X_hearTheAir 4 "TrickleMesh" tm_wg tm_ns tm_cl tm_ty { frames := 1, cells := 0, slots := 0, locals := 23 } := hC
  show V X 0 0 tm_n (hp σ) 0 [some (.ref 1), none, none, none] []
  unfold f_X_hearTheAir at hf
  refine V.blk hC [(.iconst 0, 1), (.istore_n 1, 1)] 0 [some (.ref 1), none, none, none] [] ⟨d_X_hearTheAir_0, d_X_hearTheAir_1, trivial⟩ (show tv_run _ _ _ _ = some (2, [some (.ref 1), some (.int (0 : Int32)), none, none], []) from rfl) ?_
  exact V.less (tv_le_some (tv_le_some (tv_le_none (tv_le_none tv_le_nil)))) (c_X_hearTheAir_L2 hC hr hE tm_fu σ (0 : Int32)  hf)
set_option maxHeartbeats 4000000 in
set_option maxRecDepth 100000 in
theorem c_X_takeAck_L24 {X : tv_X} {r : tm_S} (hC : tv_K X tb_X_takeAck 5 "TrickleMesh" tm_wg tm_ns tm_cl tm_ty { frames := 2, cells := 0, slots := 0, locals := 44 }) (hr : tv_ret X none) (hE : tv_end X (tm_P none r) 0 0) (σ : tm_S) (l2 : Nat) (l3 : Nat) (s0 : Int32) (kl2 : kd l2 = 5) (kl3 : kd l3 = 6) (hf : f_X_takeAck_L24 σ l2 l3 s0 = some r) : V X 0 0 tm_n (hp σ) 24 [some (.ref 1), none, some (.ref l2), some (.ref l3), none] [.int s0] := by
  unfold f_X_takeAck_L24 at hf
  refine V.blk hC [(.istore 4, 2), (.iload 4, 2)] 24 [some (.ref 1), none, some (.ref l2), some (.ref l3), none] [.int s0] ⟨d_X_takeAck_24, d_X_takeAck_26, trivial⟩ (show tv_run _ _ _ _ = some (28, [some (.ref 1), none, some (.ref l2), some (.ref l3), some (.int s0)], [.int s0]) from rfl) ?_
  refine V.if_eq hC d_X_takeAck_28 (tgt := 64) (by decide) (fun hc => ?_) (fun hc => ?_)
  · rw [if_pos hc] at hf
    obtain rfl := Option.some.inj hf
    exact V.vret hC hr hE d_X_takeAck_64 ⟨rfl, rfl, rfl⟩
  · rw [if_neg hc] at hf
    refine V.blk hC [(.aload_n 3, 1)] 31 [some (.ref 1), none, some (.ref l2), some (.ref l3), some (.int s0)] [] ⟨d_X_takeAck_31, trivial⟩ (show tv_run _ _ _ _ = some (32, [some (.ref 1), none, some (.ref l2), some (.ref l3), some (.int s0)], [.ref l3]) from rfl) ?_
    refine V.getf hC tf_X_81 (kd_in kl3 (by decide)) (hp_at kl3) rfl d_X_takeAck_32 ?_
    show V X 0 0 tm_n (hp σ) 35 [some (.ref 1), none, some (.ref l2), some (.ref l3), some (.int s0)] [.int (σ.1 l3 9)]
    refine V.if_eq hC d_X_takeAck_35 (tgt := 64) (by decide) (fun hc => ?_) (fun hc => ?_)
    · rw [if_pos hc] at hf
      obtain rfl := Option.some.inj hf
      exact V.vret hC hr hE d_X_takeAck_64 ⟨rfl, rfl, rfl⟩
    · rw [if_neg hc] at hf
      refine V.blk hC [(.aload_n 3, 1)] 38 [some (.ref 1), none, some (.ref l2), some (.ref l3), some (.int s0)] [] ⟨d_X_takeAck_38, trivial⟩ (show tv_run _ _ _ _ = some (39, [some (.ref 1), none, some (.ref l2), some (.ref l3), some (.int s0)], [.ref l3]) from rfl) ?_
      refine V.getf hC tf_X_169 (kd_in kl3 (by decide)) (hp_at kl3) rfl d_X_takeAck_39 ?_
      show V X 0 0 tm_n (hp σ) 42 [some (.ref 1), none, some (.ref l2), some (.ref l3), some (.int s0)] [.ref (l3 + 1)]
      refine V.blk hC [(.iconst 0, 1)] 42 [some (.ref 1), none, some (.ref l2), some (.ref l3), some (.int s0)] [.ref (l3 + 1)] ⟨d_X_takeAck_42, trivial⟩ (show tv_run _ _ _ _ = some (43, [some (.ref 1), none, some (.ref l2), some (.ref l3), some (.int s0)], [.int (0 : Int32), .ref (l3 + 1)]) from rfl) ?_
      obtain ⟨r2, hr2, hf⟩ := tm_ww hf
      obtain ⟨hk1, hf⟩ := tm_if hf
      refine V.aald hC (kd_in (kd_6_7 kl3) (by decide)) (hp_at (kd_6_7 kl3)) rfl rfl (show ¬ ((0 : Int32) < 0 ∨ 4 ≤ (0 : Int32).toNatClampNeg) from by decide) d_X_takeAck_43 ?_
      show V X 0 0 tm_n (hp σ) 44 [some (.ref 1), none, some (.ref l2), some (.ref l3), some (.int s0)] [.ref (σ.2 (l3 + 1) (0 : Int32).toNatClampNeg)]
      rw [← hr2]
      refine V.getf hC tf_X_184 (kd_in hk1 (by decide)) (hp_at hk1) rfl d_X_takeAck_44 ?_
      show V X 0 0 tm_n (hp σ) 47 [some (.ref 1), none, some (.ref l2), some (.ref l3), some (.int s0)] [.int (σ.1 r2 2)]
      refine V.blk hC [(.aload_n 2, 1)] 47 [some (.ref 1), none, some (.ref l2), some (.ref l3), some (.int s0)] [.int (σ.1 r2 2)] ⟨d_X_takeAck_47, trivial⟩ (show tv_run _ _ _ _ = some (48, [some (.ref 1), none, some (.ref l2), some (.ref l3), some (.int s0)], [.ref l2, .int (σ.1 r2 2)]) from rfl) ?_
      refine V.getf hC tf_X_221 (kd_in kl2 (by decide)) (hp_at kl2) rfl d_X_takeAck_48 ?_
      show V X 0 0 tm_n (hp σ) 51 [some (.ref 1), none, some (.ref l2), some (.ref l3), some (.int s0)] [.int (σ.1 l2 0), .int (σ.1 r2 2)]
      refine V.icmp_ne hC d_X_takeAck_51 (tgt := 64) (by decide) (fun hc => ?_) (fun hc => ?_)
      · rw [if_neg hc] at hf
        obtain rfl := Option.some.inj hf
        exact V.vret hC hr hE d_X_takeAck_64 ⟨rfl, rfl, rfl⟩
      · rw [if_pos hc] at hf
        refine V.blk hC [(.aload_n 3, 1), (.iconst 0, 1)] 54 [some (.ref 1), none, some (.ref l2), some (.ref l3), some (.int s0)] [] ⟨d_X_takeAck_54, d_X_takeAck_55, trivial⟩ (show tv_run _ _ _ _ = some (56, [some (.ref 1), none, some (.ref l2), some (.ref l3), some (.int s0)], [.int (0 : Int32), .ref l3]) from rfl) ?_
        obtain ⟨σ3, hσ3, hf⟩ := tm_ww hf
        refine V.seti hC tf_X_81 tt_R to_R tn_R rfl (by decide +kernel) (tm_fz (by decide)) kl3 (kd_in kl3 (by decide)) rfl rfl (tm_le rfl) d_X_takeAck_56 ?_
        rw [← hσ3]
        refine V.blk hC [(.aload_n 0, 1), (.aload_n 3, 1)] 59 [some (.ref 1), none, some (.ref l2), some (.ref l3), some (.int s0)] [] ⟨d_X_takeAck_59, d_X_takeAck_60, trivial⟩ (show tv_run _ _ _ _ = some (61, [some (.ref 1), none, some (.ref l2), some (.ref l3), some (.int s0)], [.ref l3, .ref 1]) from rfl) ?_
        obtain ⟨q4, hq4, hf⟩ := tm_bd hf
        refine V.callV hC tm_nest rfl (c_X_removeFirst σ3 l3 kl3 hq4) (tm_gd tc_X_removeFirst) tg_X_198 th_X_removeFirst ⟨tm_le rfl, tm_le rfl, tm_le rfl, tm_le rfl⟩ rfl (kd_in kd_1 (by decide)) (hp_at kd_1) (As := [.ref l3]) (st := []) rfl (tm_le rfl) d_X_takeAck_61 ?_
        rintro v n2 h2 ⟨rfl, rfl, rfl⟩
        show V X 0 0 tm_n (hp q4) 64 [some (.ref 1), none, some (.ref l2), some (.ref l3), some (.int s0)] []
        obtain rfl := Option.some.inj hf
        exact V.vret hC hr hE d_X_takeAck_64 ⟨rfl, rfl, rfl⟩
set_option maxHeartbeats 4000000 in
set_option maxRecDepth 100000 in
theorem c_X_takeAck (σ : tm_S) (a1 : Nat) (a2 : Nat) (k1 : kd a1 = 5) (k2 : kd a2 = 5) {r : tm_S} (hf : f_X_takeAck σ a1 a2 = some r) : tv_Met ty_X_takeAck (Cond.code ty_X_takeAck tb_X_takeAck 5 none :: tm_wg) tm_ns tm_cl tm_ty 2 44 0 0 [.ref 1, .ref a1, .ref a2] tm_n (hp σ) (tm_P none r) := by
  refine tv_Met.of (by decide) rfl (tm_le rfl) ?_
  intro X hC hnm hr hE
  have hC : tv_K X tb_X_takeAck 5 "TrickleMesh" tm_wg tm_ns tm_cl tm_ty { frames := 2, cells := 0, slots := 0, locals := 44 } := hC
  show V X 0 0 tm_n (hp σ) 0 [some (.ref 1), some (.ref a1), some (.ref a2), none, none] []
  unfold f_X_takeAck at hf
  refine V.blk hC [(.aload_n 1, 1)] 0 [some (.ref 1), some (.ref a1), some (.ref a2), none, none] [] ⟨d_X_takeAck_0, trivial⟩ (show tv_run _ _ _ _ = some (1, [some (.ref 1), some (.ref a1), some (.ref a2), none, none], [.ref a1]) from rfl) ?_
  refine V.getf hC tf_X_69 (kd_in k1 (by decide)) (hp_at k1) rfl d_X_takeAck_1 ?_
  show V X 0 0 tm_n (hp σ) 4 [some (.ref 1), some (.ref a1), some (.ref a2), none, none] [.ref (a1 + 1)]
  refine V.blk hC [(.astore_n 3, 1), (.aload_n 2, 1)] 4 [some (.ref 1), some (.ref a1), some (.ref a2), none, none] [.ref (a1 + 1)] ⟨d_X_takeAck_4, d_X_takeAck_5, trivial⟩ (show tv_run _ _ _ _ = some (6, [some (.ref 1), some (.ref a1), some (.ref a2), some (.ref (a1 + 1)), none], [.ref a2]) from rfl) ?_
  refine V.getf hC tf_X_69 (kd_in k2 (by decide)) (hp_at k2) rfl d_X_takeAck_6 ?_
  show V X 0 0 tm_n (hp σ) 9 [some (.ref 1), some (.ref a1), some (.ref a2), some (.ref (a1 + 1)), none] [.ref (a2 + 1)]
  refine V.getf hC tf_X_211 (kd_in (kd_5_6 k2) (by decide)) (hp_at (kd_5_6 k2)) rfl d_X_takeAck_9 ?_
  show V X 0 0 tm_n (hp σ) 12 [some (.ref 1), some (.ref a1), some (.ref a2), some (.ref (a1 + 1)), none] [.int (σ.1 (a2 + 1) 7)]
  refine V.blk hC [(.aload_n 1, 1)] 12 [some (.ref 1), some (.ref a1), some (.ref a2), some (.ref (a1 + 1)), none] [.int (σ.1 (a2 + 1) 7)] ⟨d_X_takeAck_12, trivial⟩ (show tv_run _ _ _ _ = some (13, [some (.ref 1), some (.ref a1), some (.ref a2), some (.ref (a1 + 1)), none], [.ref a1, .int (σ.1 (a2 + 1) 7)]) from rfl) ?_
  refine V.getf hC tf_X_221 (kd_in k1 (by decide)) (hp_at k1) rfl d_X_takeAck_13 ?_
  show V X 0 0 tm_n (hp σ) 16 [some (.ref 1), some (.ref a1), some (.ref a2), some (.ref (a1 + 1)), none] [.int (σ.1 a1 0), .int (σ.1 (a2 + 1) 7)]
  refine V.icmp_ne hC d_X_takeAck_16 (tgt := 23) (by decide) (fun hc => ?_) (fun hc => ?_)
  · rw [if_neg hc] at hf
    refine V.blk hC [(.iconst 0, 1)] 23 [some (.ref 1), some (.ref a1), some (.ref a2), some (.ref (a1 + 1)), none] [] ⟨d_X_takeAck_23, trivial⟩ (show tv_run _ _ _ _ = some (24, [some (.ref 1), some (.ref a1), some (.ref a2), some (.ref (a1 + 1)), none], [.int (0 : Int32)]) from rfl) ?_
    exact V.less (tv_le_some (tv_le_none (tv_le_some (tv_le_some (tv_le_none tv_le_nil))))) (c_X_takeAck_L24 hC hr hE σ a2 (a1 + 1) (0 : Int32) k2 (kd_5_6 k1) hf)
  · rw [if_pos hc] at hf
    refine V.blk hC [(.iconst 1, 1)] 19 [some (.ref 1), some (.ref a1), some (.ref a2), some (.ref (a1 + 1)), none] [] ⟨d_X_takeAck_19, trivial⟩ (show tv_run _ _ _ _ = some (20, [some (.ref 1), some (.ref a1), some (.ref a2), some (.ref (a1 + 1)), none], [.int (1 : Int32)]) from rfl) ?_
    refine V.goto hC d_X_takeAck_20 (tgt := 24) (by decide) ?_
    exact V.less (tv_le_some (tv_le_none (tv_le_some (tv_le_some (tv_le_none tv_le_nil))))) (c_X_takeAck_L24 hC hr hE σ a2 (a1 + 1) (1 : Int32) k2 (kd_5_6 k1) hf)
set_option maxHeartbeats 4000000 in
set_option maxRecDepth 100000 in
theorem c_X_takeSolicit_L17 {X : tv_X} {r : tm_S} (hC : tv_K X tb_X_takeSolicit 2 "TrickleMesh" tm_wg tm_ns tm_cl tm_ty { frames := 3, cells := 0, slots := 0, locals := 65 }) (hr : tv_ret X none) (hE : tv_end X (tm_P none r) 0 0) (σ : tm_S) (l1 : Nat) (kl1 : kd l1 = 5) (hf : f_X_takeSolicit_L17 σ l1 = some r) : V X 0 0 tm_n (hp σ) 17 [some (.ref 1), some (.ref l1)] [] := by
  unfold f_X_takeSolicit_L17 at hf
  refine V.blk hC [(.aload_n 0, 1), (.aload_n 1, 1)] 17 [some (.ref 1), some (.ref l1)] [] ⟨d_X_takeSolicit_17, d_X_takeSolicit_18, trivial⟩ (show tv_run _ _ _ _ = some (19, [some (.ref 1), some (.ref l1)], [.ref l1, .ref 1]) from rfl) ?_
  obtain ⟨q1, hq1, hf⟩ := tm_bd hf
  refine V.callV hC tm_nest rfl (c_X_resetTimer σ l1 kl1 hq1) (tm_gd tc_X_resetTimer) tg_X_58 th_X_resetTimer ⟨tm_le rfl, tm_le rfl, tm_le rfl, tm_le rfl⟩ rfl (kd_in kd_1 (by decide)) (hp_at kd_1) (As := [.ref l1]) (st := []) rfl (tm_le rfl) d_X_takeSolicit_19 ?_
  rintro v n2 h2 ⟨rfl, rfl, rfl⟩
  show V X 0 0 tm_n (hp q1) 22 [some (.ref 1), some (.ref l1)] []
  obtain rfl := Option.some.inj hf
  exact V.vret hC hr hE d_X_takeSolicit_22 ⟨rfl, rfl, rfl⟩
set_option maxHeartbeats 4000000 in
set_option maxRecDepth 100000 in
theorem c_X_takeSolicit (σ : tm_S) (a1 : Nat) (k1 : kd a1 = 5) {r : tm_S} (hf : f_X_takeSolicit σ a1 = some r) : tv_Met ty_X_takeSolicit (Cond.code ty_X_takeSolicit tb_X_takeSolicit 2 none :: tm_wg) tm_ns tm_cl tm_ty 3 65 0 0 [.ref 1, .ref a1] tm_n (hp σ) (tm_P none r) := by
  refine tv_Met.of (by decide) rfl (tm_le rfl) ?_
  intro X hC hnm hr hE
  have hC : tv_K X tb_X_takeSolicit 2 "TrickleMesh" tm_wg tm_ns tm_cl tm_ty { frames := 3, cells := 0, slots := 0, locals := 65 } := hC
  show V X 0 0 tm_n (hp σ) 0 [some (.ref 1), some (.ref a1)] []
  unfold f_X_takeSolicit at hf
  refine V.blk hC [(.aload_n 1, 1)] 0 [some (.ref 1), some (.ref a1)] [] ⟨d_X_takeSolicit_0, trivial⟩ (show tv_run _ _ _ _ = some (1, [some (.ref 1), some (.ref a1)], [.ref a1]) from rfl) ?_
  refine V.getf hC tf_X_221 (kd_in k1 (by decide)) (hp_at k1) rfl d_X_takeSolicit_1 ?_
  show V X 0 0 tm_n (hp σ) 4 [some (.ref 1), some (.ref a1)] [.int (σ.1 a1 0)]
  refine V.if_eq hC d_X_takeSolicit_4 (tgt := 17) (by decide) (fun hc => ?_) (fun hc => ?_)
  · rw [if_pos hc] at hf
    exact V.less (tv_le_some (tv_le_some tv_le_nil)) (c_X_takeSolicit_L17 hC hr hE σ a1 k1 hf)
  · rw [if_neg hc] at hf
    refine V.blk hC [(.aload_n 1, 1)] 7 [some (.ref 1), some (.ref a1)] [] ⟨d_X_takeSolicit_7, trivial⟩ (show tv_run _ _ _ _ = some (8, [some (.ref 1), some (.ref a1)], [.ref a1]) from rfl) ?_
    refine V.getf hC tf_X_45 (kd_in k1 (by decide)) (hp_at k1) rfl d_X_takeSolicit_8 ?_
    show V X 0 0 tm_n (hp σ) 11 [some (.ref 1), some (.ref a1)] [.int (σ.1 a1 11)]
    refine V.blk hC [(.sipush 255, 3)] 11 [some (.ref 1), some (.ref a1)] [.int (σ.1 a1 11)] ⟨d_X_takeSolicit_11, trivial⟩ (show tv_run _ _ _ _ = some (14, [some (.ref 1), some (.ref a1)], [.int (255 : Int32), .int (σ.1 a1 11)]) from rfl) ?_
    refine V.icmp_eq hC d_X_takeSolicit_14 (tgt := 22) (by decide) (fun hc => ?_) (fun hc => ?_)
    · rw [if_pos hc] at hf
      obtain rfl := Option.some.inj hf
      exact V.vret hC hr hE d_X_takeSolicit_22 ⟨rfl, rfl, rfl⟩
    · rw [if_neg hc] at hf
      exact V.less (tv_le_some (tv_le_some tv_le_nil)) (c_X_takeSolicit_L17 hC hr hE σ a1 k1 hf)
set_option maxHeartbeats 4000000 in
set_option maxRecDepth 100000 in
theorem c_X_takeVersion_L23 {X : tv_X} {r : tm_S} (hC : tv_K X tb_X_takeVersion 4 "TrickleMesh" tm_wg tm_ns tm_cl tm_ty { frames := 3, cells := 0, slots := 0, locals := 65 }) (hr : tv_ret X none) (hE : tv_end X (tm_P none r) 0 0) (σ : tm_S) (l1 : Nat) (l2 : Int32) (s0 : Int32) (kl1 : kd l1 = 5) (hf : f_X_takeVersion_L23 σ l1 l2 s0 = some r) : V X 0 0 tm_n (hp σ) 23 [some (.ref 1), some (.ref l1), some (.int l2), none] [.int s0] := by
  unfold f_X_takeVersion_L23 at hf
  refine V.blk hC [(.istore_n 3, 1), (.aload_n 1, 1), (.iload_n 2, 1)] 23 [some (.ref 1), some (.ref l1), some (.int l2), none] [.int s0] ⟨d_X_takeVersion_23, d_X_takeVersion_24, d_X_takeVersion_25, trivial⟩ (show tv_run _ _ _ _ = some (26, [some (.ref 1), some (.ref l1), some (.int l2), some (.int s0)], [.int l2, .ref l1]) from rfl) ?_
  obtain ⟨σ1, hσ1, hf⟩ := tm_ww hf
  refine V.seti hC tf_X_42 tt_N to_N tn_N rfl (by decide +kernel) tm_fi kl1 (kd_in kl1 (by decide)) rfl rfl (tm_le rfl) d_X_takeVersion_26 ?_
  rw [← hσ1]
  refine V.blk hC [(.aload_n 1, 1)] 29 [some (.ref 1), some (.ref l1), some (.int l2), some (.int s0)] [] ⟨d_X_takeVersion_29, trivial⟩ (show tv_run _ _ _ _ = some (30, [some (.ref 1), some (.ref l1), some (.int l2), some (.int s0)], [.ref l1]) from rfl) ?_
  refine V.getf hC tf_X_150 (kd_in kl1 (by decide)) (hp_at kl1) rfl d_X_takeVersion_30 ?_
  show V X 0 0 tm_n (hp σ1) 33 [some (.ref 1), some (.ref l1), some (.int l2), some (.int s0)] [.ref (l1 + 12)]
  refine V.blk hC [(.iconst 0, 1)] 33 [some (.ref 1), some (.ref l1), some (.int l2), some (.int s0)] [.ref (l1 + 12)] ⟨d_X_takeVersion_33, trivial⟩ (show tv_run _ _ _ _ = some (34, [some (.ref 1), some (.ref l1), some (.int l2), some (.int s0)], [.int (0 : Int32), .ref (l1 + 12)]) from rfl) ?_
  obtain ⟨σ2, hσ2, hf⟩ := tm_ww hf
  refine V.callS hC tm_nest rfl (c_JA_fill σ1 (l1 + 12) (kd_5_12 kl1) (0 : Int32)) (tm_gd tc_JA_fill) tg_X_268 th_JA_fill ⟨tm_le rfl, tm_le rfl, tm_le rfl, tm_le rfl⟩ (As := [.ref (l1 + 12), .int (0 : Int32)]) (st := []) rfl (tm_le rfl) d_X_takeVersion_34 ?_
  rintro v n2 h2 ⟨rfl, rfl, rfl⟩
  rw [← hσ2]
  show V X 0 0 tm_n (hp σ2) 37 [some (.ref 1), some (.ref l1), some (.int l2), some (.int s0)] []
  refine V.blk hC [(.aload_n 1, 1), (.sipush 255, 3)] 37 [some (.ref 1), some (.ref l1), some (.int l2), some (.int s0)] [] ⟨d_X_takeVersion_37, d_X_takeVersion_38, trivial⟩ (show tv_run _ _ _ _ = some (41, [some (.ref 1), some (.ref l1), some (.int l2), some (.int s0)], [.int (255 : Int32), .ref l1]) from rfl) ?_
  obtain ⟨σ3, hσ3, hf⟩ := tm_ww hf
  refine V.seti hC tf_X_136 tt_N to_N tn_N rfl (by decide +kernel) tm_fi kl1 (kd_in kl1 (by decide)) rfl rfl (tm_le rfl) d_X_takeVersion_41 ?_
  rw [← hσ3]
  refine V.blk hC [(.iload_n 3, 1)] 44 [some (.ref 1), some (.ref l1), some (.int l2), some (.int s0)] [] ⟨d_X_takeVersion_44, trivial⟩ (show tv_run _ _ _ _ = some (45, [some (.ref 1), some (.ref l1), some (.int l2), some (.int s0)], [.int s0]) from rfl) ?_
  refine V.if_eq hC d_X_takeVersion_45 (tgt := 65) (by decide) (fun hc => ?_) (fun hc => ?_)
  · rw [if_pos hc] at hf
    obtain rfl := Option.some.inj hf
    exact V.vret hC hr hE d_X_takeVersion_65 ⟨rfl, rfl, rfl⟩
  · rw [if_neg hc] at hf
    refine V.blk hC [(.aload_n 1, 1), (.sipush 255, 3)] 48 [some (.ref 1), some (.ref l1), some (.int l2), some (.int s0)] [] ⟨d_X_takeVersion_48, d_X_takeVersion_49, trivial⟩ (show tv_run _ _ _ _ = some (52, [some (.ref 1), some (.ref l1), some (.int l2), some (.int s0)], [.int (255 : Int32), .ref l1]) from rfl) ?_
    obtain ⟨σ4, hσ4, hf⟩ := tm_ww hf
    refine V.seti hC tf_X_45 tt_N to_N tn_N rfl (by decide +kernel) tm_fi kl1 (kd_in kl1 (by decide)) rfl rfl (tm_le rfl) d_X_takeVersion_52 ?_
    rw [← hσ4]
    refine V.blk hC [(.aload_n 1, 1), (.iconst (-1), 1)] 55 [some (.ref 1), some (.ref l1), some (.int l2), some (.int s0)] [] ⟨d_X_takeVersion_55, d_X_takeVersion_56, trivial⟩ (show tv_run _ _ _ _ = some (57, [some (.ref 1), some (.ref l1), some (.int l2), some (.int s0)], [.int (-1 : Int32), .ref l1]) from rfl) ?_
    obtain ⟨σ5, hσ5, hf⟩ := tm_ww hf
    refine V.seti hC tf_X_115 tt_N to_N tn_N rfl (by decide +kernel) tm_fi kl1 (kd_in kl1 (by decide)) rfl rfl (tm_le rfl) d_X_takeVersion_57 ?_
    rw [← hσ5]
    refine V.blk hC [(.aload_n 0, 1), (.aload_n 1, 1)] 60 [some (.ref 1), some (.ref l1), some (.int l2), some (.int s0)] [] ⟨d_X_takeVersion_60, d_X_takeVersion_61, trivial⟩ (show tv_run _ _ _ _ = some (62, [some (.ref 1), some (.ref l1), some (.int l2), some (.int s0)], [.ref l1, .ref 1]) from rfl) ?_
    obtain ⟨q6, hq6, hf⟩ := tm_bd hf
    refine V.callV hC tm_nest rfl (c_X_resetTimer σ5 l1 kl1 hq6) (tm_gd tc_X_resetTimer) tg_X_58 th_X_resetTimer ⟨tm_le rfl, tm_le rfl, tm_le rfl, tm_le rfl⟩ rfl (kd_in kd_1 (by decide)) (hp_at kd_1) (As := [.ref l1]) (st := []) rfl (tm_le rfl) d_X_takeVersion_62 ?_
    rintro v n2 h2 ⟨rfl, rfl, rfl⟩
    show V X 0 0 tm_n (hp q6) 65 [some (.ref 1), some (.ref l1), some (.int l2), some (.int s0)] []
    obtain rfl := Option.some.inj hf
    exact V.vret hC hr hE d_X_takeVersion_65 ⟨rfl, rfl, rfl⟩
