set_option maxHeartbeats 4000000 in
set_option maxRecDepth 100000 in
theorem c_X_receiveValue_L146 {X : tv_X} {r : tm_S} (hC : tv_K X tb_X_receiveValue 5 "TrickleMesh" tm_wg tm_ns tm_cl tm_ty { frames := 3, cells := 0, slots := 0, locals := 75 }) (hr : tv_ret X none) (hE : tv_end X (tm_P none r) 0 0) (σ : tm_S) (s0 : Int32) (s1 : Int32) (s2 : Int32) (s3 : Int32) (s4 : Int32) (s5 : Nat) (ks5 : kd s5 = 5) (hf : f_X_receiveValue_L146 σ s0 s1 s2 s3 s4 s5 = some r) : V X 0 0 tm_n (hp σ) 146 [some (.ref 1), none, none, none, none] [.int s0, .int s1, .int s2, .int s3, .int s4, .ref s5, .ref 1] := by
  unfold f_X_receiveValue_L146 at hf
  obtain ⟨q5, hq5, hf⟩ := tm_bd hf
  refine V.callV hC tm_nest rfl (c_X_sendOn σ s5 s4 s3 s2 s1 s0 ks5 hq5) (tm_gd tc_X_sendOn) tg_X_87 th_X_sendOn ⟨tm_le rfl, tm_le rfl, tm_le rfl, tm_le rfl⟩ rfl (kd_in kd_1 (by decide)) (hp_at kd_1) (As := [.ref s5, .int s4, .int s3, .int s2, .int s1, .int s0]) (st := []) rfl (tm_le rfl) d_X_receiveValue_146 ?_
  rintro v n2 h2 ⟨rfl, rfl, rfl⟩
  show V X 0 0 tm_n (hp q5) 149 [some (.ref 1), none, none, none, none] []
  obtain rfl := Option.some.inj hf
  exact V.vret hC hr hE d_X_receiveValue_149 ⟨rfl, rfl, rfl⟩
set_option maxHeartbeats 4000000 in
set_option maxRecDepth 100000 in
theorem c_X_receiveValue_L141 {X : tv_X} {r : tm_S} (hC : tv_K X tb_X_receiveValue 5 "TrickleMesh" tm_wg tm_ns tm_cl tm_ty { frames := 3, cells := 0, slots := 0, locals := 75 }) (hr : tv_ret X none) (hE : tv_end X (tm_P none r) 0 0) (σ : tm_S) (s0 : Int32) (s1 : Int32) (s2 : Int32) (s3 : Int32) (s4 : Nat) (ks4 : kd s4 = 5) (hf : f_X_receiveValue_L141 σ s0 s1 s2 s3 s4 = some r) : V X 0 0 tm_n (hp σ) 141 [some (.ref 1), none, none, none, none] [.int s0, .int s1, .int s2, .int s3, .ref s4, .ref 1] := by
  unfold f_X_receiveValue_L141 at hf
  refine V.blk hC [(.iconst 1, 1)] 141 [some (.ref 1), none, none, none, none] [.int s0, .int s1, .int s2, .int s3, .ref s4, .ref 1] ⟨d_X_receiveValue_141, trivial⟩ (show tv_run _ _ _ _ = some (142, [some (.ref 1), none, none, none, none], [.int (1 : Int32), .int s0, .int s1, .int s2, .int s3, .ref s4, .ref 1]) from rfl) ?_
  refine V.goto hC d_X_receiveValue_142 (tgt := 146) (by decide) ?_
  exact V.less (tv_le_some (tv_le_none (tv_le_none (tv_le_none (tv_le_none tv_le_nil))))) (c_X_receiveValue_L146 hC hr hE σ (1 : Int32) s0 s1 s2 s3 s4 ks4 hf)
set_option maxHeartbeats 4000000 in
set_option maxRecDepth 100000 in
theorem c_X_receiveValue_L68 {X : tv_X} {r : tm_S} (hC : tv_K X tb_X_receiveValue 5 "TrickleMesh" tm_wg tm_ns tm_cl tm_ty { frames := 3, cells := 0, slots := 0, locals := 75 }) (hr : tv_ret X none) (hE : tv_end X (tm_P none r) 0 0) (σ : tm_S) (l1 : Nat) (l3 : Nat) (l4 : Int32) (kl1 : kd l1 = 5) (kl3 : kd l3 = 8) (hf : f_X_receiveValue_L68 σ l1 l3 l4 = some r) : V X 0 0 tm_n (hp σ) 68 [some (.ref 1), some (.ref l1), none, some (.ref l3), some (.int l4)] [] := by
  unfold f_X_receiveValue_L68 at hf
  refine V.blk hC [(.aload_n 3, 1)] 68 [some (.ref 1), some (.ref l1), none, some (.ref l3), some (.int l4)] [] ⟨d_X_receiveValue_68, trivial⟩ (show tv_run _ _ _ _ = some (69, [some (.ref 1), some (.ref l1), none, some (.ref l3), some (.int l4)], [.ref l3]) from rfl) ?_
  refine V.getf hC tf_X_315 (kd_in kl3 (by decide)) (hp_at kl3) rfl d_X_receiveValue_69 ?_
  show V X 0 0 tm_n (hp σ) 72 [some (.ref 1), some (.ref l1), none, some (.ref l3), some (.int l4)] [.int (σ.1 l3 7)]
  refine V.blk hC [(.aload_n 1, 1)] 72 [some (.ref 1), some (.ref l1), none, some (.ref l3), some (.int l4)] [.int (σ.1 l3 7)] ⟨d_X_receiveValue_72, trivial⟩ (show tv_run _ _ _ _ = some (73, [some (.ref 1), some (.ref l1), none, some (.ref l3), some (.int l4)], [.ref l1, .int (σ.1 l3 7)]) from rfl) ?_
  refine V.getf hC tf_X_221 (kd_in kl1 (by decide)) (hp_at kl1) rfl d_X_receiveValue_73 ?_
  show V X 0 0 tm_n (hp σ) 76 [some (.ref 1), some (.ref l1), none, some (.ref l3), some (.int l4)] [.int (σ.1 l1 0), .int (σ.1 l3 7)]
  refine V.icmp_ne hC d_X_receiveValue_76 (tgt := 88) (by decide) (fun hc => ?_) (fun hc => ?_)
  · rw [if_neg hc] at hf
    refine V.blk hC [(.aload_n 3, 1)] 88 [some (.ref 1), some (.ref l1), none, some (.ref l3), some (.int l4)] [] ⟨d_X_receiveValue_88, trivial⟩ (show tv_run _ _ _ _ = some (89, [some (.ref 1), some (.ref l1), none, some (.ref l3), some (.int l4)], [.ref l3]) from rfl) ?_
    refine V.getf hC tf_X_318 (kd_in kl3 (by decide)) (hp_at kl3) rfl d_X_receiveValue_89 ?_
    show V X 0 0 tm_n (hp σ) 92 [some (.ref 1), some (.ref l1), none, some (.ref l3), some (.int l4)] [.int (σ.1 l3 8)]
    refine V.blk hC [(.iconst 1, 1)] 92 [some (.ref 1), some (.ref l1), none, some (.ref l3), some (.int l4)] [.int (σ.1 l3 8)] ⟨d_X_receiveValue_92, trivial⟩ (show tv_run _ _ _ _ = some (93, [some (.ref 1), some (.ref l1), none, some (.ref l3), some (.int l4)], [.int (1 : Int32), .int (σ.1 l3 8)]) from rfl) ?_
    refine V.icmp_gt hC d_X_receiveValue_93 (tgt := 109) (by decide) (fun hc => ?_) (fun hc => ?_)
    · rw [if_pos hc] at hf
      refine V.blk hC [(.aload_n 0, 1), (.aload_n 1, 1), (.aload_n 3, 1)] 109 [some (.ref 1), some (.ref l1), none, some (.ref l3), some (.int l4)] [] ⟨d_X_receiveValue_109, d_X_receiveValue_110, d_X_receiveValue_111, trivial⟩ (show tv_run _ _ _ _ = some (112, [some (.ref 1), some (.ref l1), none, some (.ref l3), some (.int l4)], [.ref l3, .ref l1, .ref 1]) from rfl) ?_
      refine V.getf hC tf_X_312 (kd_in kl3 (by decide)) (hp_at kl3) rfl d_X_receiveValue_112 ?_
      show V X 0 0 tm_n (hp σ) 115 [some (.ref 1), some (.ref l1), none, some (.ref l3), some (.int l4)] [.int (σ.1 l3 6), .ref l1, .ref 1]
      refine V.blk hC [(.aload_n 3, 1)] 115 [some (.ref 1), some (.ref l1), none, some (.ref l3), some (.int l4)] [.int (σ.1 l3 6), .ref l1, .ref 1] ⟨d_X_receiveValue_115, trivial⟩ (show tv_run _ _ _ _ = some (116, [some (.ref 1), some (.ref l1), none, some (.ref l3), some (.int l4)], [.ref l3, .int (σ.1 l3 6), .ref l1, .ref 1]) from rfl) ?_
      refine V.getf hC tf_X_315 (kd_in kl3 (by decide)) (hp_at kl3) rfl d_X_receiveValue_116 ?_
      show V X 0 0 tm_n (hp σ) 119 [some (.ref 1), some (.ref l1), none, some (.ref l3), some (.int l4)] [.int (σ.1 l3 7), .int (σ.1 l3 6), .ref l1, .ref 1]
      refine V.blk hC [(.aload_n 3, 1)] 119 [some (.ref 1), some (.ref l1), none, some (.ref l3), some (.int l4)] [.int (σ.1 l3 7), .int (σ.1 l3 6), .ref l1, .ref 1] ⟨d_X_receiveValue_119, trivial⟩ (show tv_run _ _ _ _ = some (120, [some (.ref 1), some (.ref l1), none, some (.ref l3), some (.int l4)], [.ref l3, .int (σ.1 l3 7), .int (σ.1 l3 6), .ref l1, .ref 1]) from rfl) ?_
      refine V.getf hC tf_X_318 (kd_in kl3 (by decide)) (hp_at kl3) rfl d_X_receiveValue_120 ?_
      show V X 0 0 tm_n (hp σ) 123 [some (.ref 1), some (.ref l1), none, some (.ref l3), some (.int l4)] [.int (σ.1 l3 8), .int (σ.1 l3 7), .int (σ.1 l3 6), .ref l1, .ref 1]
      refine V.blk hC [(.iconst 1, 1), (.isub, 1), (.aload_n 3, 1)] 123 [some (.ref 1), some (.ref l1), none, some (.ref l3), some (.int l4)] [.int (σ.1 l3 8), .int (σ.1 l3 7), .int (σ.1 l3 6), .ref l1, .ref 1] ⟨d_X_receiveValue_123, d_X_receiveValue_124, d_X_receiveValue_125, trivial⟩ (show tv_run _ _ _ _ = some (126, [some (.ref 1), some (.ref l1), none, some (.ref l3), some (.int l4)], [.ref l3, .int ((σ.1 l3 8) - (1 : Int32)), .int (σ.1 l3 7), .int (σ.1 l3 6), .ref l1, .ref 1]) from rfl) ?_
      refine V.getf hC tf_X_321 (kd_in kl3 (by decide)) (hp_at kl3) rfl d_X_receiveValue_126 ?_
      show V X 0 0 tm_n (hp σ) 129 [some (.ref 1), some (.ref l1), none, some (.ref l3), some (.int l4)] [.int (σ.1 l3 9), .int ((σ.1 l3 8) - (1 : Int32)), .int (σ.1 l3 7), .int (σ.1 l3 6), .ref l1, .ref 1]
      refine V.blk hC [(.iload 4, 2)] 129 [some (.ref 1), some (.ref l1), none, some (.ref l3), some (.int l4)] [.int (σ.1 l3 9), .int ((σ.1 l3 8) - (1 : Int32)), .int (σ.1 l3 7), .int (σ.1 l3 6), .ref l1, .ref 1] ⟨d_X_receiveValue_129, trivial⟩ (show tv_run _ _ _ _ = some (131, [some (.ref 1), some (.ref l1), none, some (.ref l3), some (.int l4)], [.int l4, .int (σ.1 l3 9), .int ((σ.1 l3 8) - (1 : Int32)), .int (σ.1 l3 7), .int (σ.1 l3 6), .ref l1, .ref 1]) from rfl) ?_
      refine V.if_ne hC d_X_receiveValue_131 (tgt := 141) (by decide) (fun hc => ?_) (fun hc => ?_)
      · rw [if_neg hc] at hf
        exact V.less (tv_le_some (tv_le_none (tv_le_none (tv_le_none (tv_le_none tv_le_nil))))) (c_X_receiveValue_L141 hC hr hE σ (σ.1 l3 9) ((σ.1 l3 8) - (1 : Int32)) (σ.1 l3 7) (σ.1 l3 6) l1 kl1 hf)
      · rw [if_pos hc] at hf
        refine V.blk hC [(.aload_n 3, 1)] 134 [some (.ref 1), some (.ref l1), none, some (.ref l3), some (.int l4)] [.int (σ.1 l3 9), .int ((σ.1 l3 8) - (1 : Int32)), .int (σ.1 l3 7), .int (σ.1 l3 6), .ref l1, .ref 1] ⟨d_X_receiveValue_134, trivial⟩ (show tv_run _ _ _ _ = some (135, [some (.ref 1), some (.ref l1), none, some (.ref l3), some (.int l4)], [.ref l3, .int (σ.1 l3 9), .int ((σ.1 l3 8) - (1 : Int32)), .int (σ.1 l3 7), .int (σ.1 l3 6), .ref l1, .ref 1]) from rfl) ?_
        refine V.getf hC tf_X_327 (kd_in kl3 (by decide)) (hp_at kl3) rfl d_X_receiveValue_135 ?_
        show V X 0 0 tm_n (hp σ) 138 [some (.ref 1), some (.ref l1), none, some (.ref l3), some (.int l4)] [.int (σ.1 l3 11), .int (σ.1 l3 9), .int ((σ.1 l3 8) - (1 : Int32)), .int (σ.1 l3 7), .int (σ.1 l3 6), .ref l1, .ref 1]
        refine V.if_eq hC d_X_receiveValue_138 (tgt := 145) (by decide) (fun hc => ?_) (fun hc => ?_)
        · rw [if_pos hc] at hf
          refine V.blk hC [(.iconst 0, 1)] 145 [some (.ref 1), some (.ref l1), none, some (.ref l3), some (.int l4)] [.int (σ.1 l3 9), .int ((σ.1 l3 8) - (1 : Int32)), .int (σ.1 l3 7), .int (σ.1 l3 6), .ref l1, .ref 1] ⟨d_X_receiveValue_145, trivial⟩ (show tv_run _ _ _ _ = some (146, [some (.ref 1), some (.ref l1), none, some (.ref l3), some (.int l4)], [.int (0 : Int32), .int (σ.1 l3 9), .int ((σ.1 l3 8) - (1 : Int32)), .int (σ.1 l3 7), .int (σ.1 l3 6), .ref l1, .ref 1]) from rfl) ?_
          exact V.less (tv_le_some (tv_le_none (tv_le_none (tv_le_none (tv_le_none tv_le_nil))))) (c_X_receiveValue_L146 hC hr hE σ (0 : Int32) (σ.1 l3 9) ((σ.1 l3 8) - (1 : Int32)) (σ.1 l3 7) (σ.1 l3 6) l1 kl1 hf)
        · rw [if_neg hc] at hf
          exact V.less (tv_le_some (tv_le_none (tv_le_none (tv_le_none (tv_le_none tv_le_nil))))) (c_X_receiveValue_L141 hC hr hE σ (σ.1 l3 9) ((σ.1 l3 8) - (1 : Int32)) (σ.1 l3 7) (σ.1 l3 6) l1 kl1 hf)
    · rw [if_neg hc] at hf
      refine V.blk hC [(.aload_n 0, 1), (.dup, 1)] 96 [some (.ref 1), some (.ref l1), none, some (.ref l3), some (.int l4)] [] ⟨d_X_receiveValue_96, d_X_receiveValue_97, trivial⟩ (show tv_run _ _ _ _ = some (98, [some (.ref 1), some (.ref l1), none, some (.ref l3), some (.int l4)], [.ref 1, .ref 1]) from rfl) ?_
      refine V.getf hC tf_X_159 (kd_in kd_1 (by decide)) (hp_at kd_1) rfl d_X_receiveValue_98 ?_
      show V X 0 0 tm_n (hp σ) 101 [some (.ref 1), some (.ref l1), none, some (.ref l3), some (.int l4)] [.int (σ.1 1 8), .ref 1]
      refine V.blk hC [(.iconst 1, 1), (.iadd, 1)] 101 [some (.ref 1), some (.ref l1), none, some (.ref l3), some (.int l4)] [.int (σ.1 1 8), .ref 1] ⟨d_X_receiveValue_101, d_X_receiveValue_102, trivial⟩ (show tv_run _ _ _ _ = some (103, [some (.ref 1), some (.ref l1), none, some (.ref l3), some (.int l4)], [.int ((σ.1 1 8) + (1 : Int32)), .ref 1]) from rfl) ?_
      obtain ⟨σ3, hσ3, hf⟩ := tm_ww hf
      refine V.seti hC tf_X_159 tt_X to_X tn_X rfl (by decide +kernel) tm_fi kd_1 (kd_in kd_1 (by decide)) rfl rfl (tm_le rfl) d_X_receiveValue_103 ?_
      rw [← hσ3]
      refine V.goto hC d_X_receiveValue_106 (tgt := 149) (by decide) ?_
      obtain rfl := Option.some.inj hf
      exact V.vret hC hr hE d_X_receiveValue_149 ⟨rfl, rfl, rfl⟩
  · rw [if_pos hc] at hf
    refine V.blk hC [(.aload_n 0, 1), (.aload_n 1, 1), (.aload_n 3, 1)] 79 [some (.ref 1), some (.ref l1), none, some (.ref l3), some (.int l4)] [] ⟨d_X_receiveValue_79, d_X_receiveValue_80, d_X_receiveValue_81, trivial⟩ (show tv_run _ _ _ _ = some (82, [some (.ref 1), some (.ref l1), none, some (.ref l3), some (.int l4)], [.ref l3, .ref l1, .ref 1]) from rfl) ?_
    obtain ⟨q4, hq4, hf⟩ := tm_bd hf
    refine V.callV hC tm_nest rfl (c_X_deliver σ l1 l3 kl1 kl3 hq4) (tm_gd tc_X_deliver) tg_X_330 th_X_deliver ⟨tm_le rfl, tm_le rfl, tm_le rfl, tm_le rfl⟩ rfl (kd_in kd_1 (by decide)) (hp_at kd_1) (As := [.ref l1, .ref l3]) (st := []) rfl (tm_le rfl) d_X_receiveValue_82 ?_
    rintro v n2 h2 ⟨rfl, rfl, rfl⟩
    show V X 0 0 tm_n (hp q4) 85 [some (.ref 1), some (.ref l1), none, some (.ref l3), some (.int l4)] []
    refine V.goto hC d_X_receiveValue_85 (tgt := 149) (by decide) ?_
    obtain rfl := Option.some.inj hf
    exact V.vret hC hr hE d_X_receiveValue_149 ⟨rfl, rfl, rfl⟩
set_option maxHeartbeats 4000000 in
set_option maxRecDepth 100000 in
theorem c_X_receiveValue_L36 {X : tv_X} {r : tm_S} (hC : tv_K X tb_X_receiveValue 5 "TrickleMesh" tm_wg tm_ns tm_cl tm_ty { frames := 3, cells := 0, slots := 0, locals := 75 }) (hr : tv_ret X none) (hE : tv_end X (tm_P none r) 0 0) (σ : tm_S) (l1 : Nat) (l3 : Nat) (s0 : Int32) (kl1 : kd l1 = 5) (kl3 : kd l3 = 8) (hf : f_X_receiveValue_L36 σ l1 l3 s0 = some r) : V X 0 0 tm_n (hp σ) 36 [some (.ref 1), some (.ref l1), none, some (.ref l3), none] [.int s0] := by
  unfold f_X_receiveValue_L36 at hf
  refine V.blk hC [(.istore 4, 2), (.iload 4, 2)] 36 [some (.ref 1), some (.ref l1), none, some (.ref l3), none] [.int s0] ⟨d_X_receiveValue_36, d_X_receiveValue_38, trivial⟩ (show tv_run _ _ _ _ = some (40, [some (.ref 1), some (.ref l1), none, some (.ref l3), some (.int s0)], [.int s0]) from rfl) ?_
  refine V.if_eq hC d_X_receiveValue_40 (tgt := 68) (by decide) (fun hc => ?_) (fun hc => ?_)
  · rw [if_pos hc] at hf
    exact V.less (tv_le_some (tv_le_some (tv_le_none (tv_le_some (tv_le_some tv_le_nil))))) (c_X_receiveValue_L68 hC hr hE σ l1 l3 s0 kl1 kl3 hf)
  · rw [if_neg hc] at hf
    refine V.blk hC [(.aload_n 3, 1)] 43 [some (.ref 1), some (.ref l1), none, some (.ref l3), some (.int s0)] [] ⟨d_X_receiveValue_43, trivial⟩ (show tv_run _ _ _ _ = some (44, [some (.ref 1), some (.ref l1), none, some (.ref l3), some (.int s0)], [.ref l3]) from rfl) ?_
    refine V.getf hC tf_X_327 (kd_in kl3 (by decide)) (hp_at kl3) rfl d_X_receiveValue_44 ?_
    show V X 0 0 tm_n (hp σ) 47 [some (.ref 1), some (.ref l1), none, some (.ref l3), some (.int s0)] [.int (σ.1 l3 11)]
    refine V.if_eq hC d_X_receiveValue_47 (tgt := 68) (by decide) (fun hc => ?_) (fun hc => ?_)
    · rw [if_pos hc] at hf
      exact V.less (tv_le_some (tv_le_some (tv_le_none (tv_le_some (tv_le_some tv_le_nil))))) (c_X_receiveValue_L68 hC hr hE σ l1 l3 s0 kl1 kl3 hf)
    · rw [if_neg hc] at hf
      refine V.blk hC [(.aload_n 0, 1), (.dup, 1)] 50 [some (.ref 1), some (.ref l1), none, some (.ref l3), some (.int s0)] [] ⟨d_X_receiveValue_50, d_X_receiveValue_51, trivial⟩ (show tv_run _ _ _ _ = some (52, [some (.ref 1), some (.ref l1), none, some (.ref l3), some (.int s0)], [.ref 1, .ref 1]) from rfl) ?_
      refine V.getf hC tf_X_159 (kd_in kd_1 (by decide)) (hp_at kd_1) rfl d_X_receiveValue_52 ?_
      show V X 0 0 tm_n (hp σ) 55 [some (.ref 1), some (.ref l1), none, some (.ref l3), some (.int s0)] [.int (σ.1 1 8), .ref 1]
      refine V.blk hC [(.iconst 1, 1), (.iadd, 1)] 55 [some (.ref 1), some (.ref l1), none, some (.ref l3), some (.int s0)] [.int (σ.1 1 8), .ref 1] ⟨d_X_receiveValue_55, d_X_receiveValue_56, trivial⟩ (show tv_run _ _ _ _ = some (57, [some (.ref 1), some (.ref l1), none, some (.ref l3), some (.int s0)], [.int ((σ.1 1 8) + (1 : Int32)), .ref 1]) from rfl) ?_
      obtain ⟨σ1, hσ1, hf⟩ := tm_ww hf
      refine V.seti hC tf_X_159 tt_X to_X tn_X rfl (by decide +kernel) tm_fi kd_1 (kd_in kd_1 (by decide)) rfl rfl (tm_le rfl) d_X_receiveValue_57 ?_
      rw [← hσ1]
      refine V.blk hC [(.aload_n 0, 1), (.aload_n 1, 1)] 60 [some (.ref 1), some (.ref l1), none, some (.ref l3), some (.int s0)] [] ⟨d_X_receiveValue_60, d_X_receiveValue_61, trivial⟩ (show tv_run _ _ _ _ = some (62, [some (.ref 1), some (.ref l1), none, some (.ref l3), some (.int s0)], [.ref l1, .ref 1]) from rfl) ?_
      obtain ⟨q2, hq2, hf⟩ := tm_bd hf
      refine V.callV hC tm_nest rfl (c_X_resetTimer σ1 l1 kl1 hq2) (tm_gd tc_X_resetTimer) tg_X_58 th_X_resetTimer ⟨tm_le rfl, tm_le rfl, tm_le rfl, tm_le rfl⟩ rfl (kd_in kd_1 (by decide)) (hp_at kd_1) (As := [.ref l1]) (st := []) rfl (tm_le rfl) d_X_receiveValue_62 ?_
      rintro v n2 h2 ⟨rfl, rfl, rfl⟩
      show V X 0 0 tm_n (hp q2) 65 [some (.ref 1), some (.ref l1), none, some (.ref l3), some (.int s0)] []
      refine V.goto hC d_X_receiveValue_65 (tgt := 149) (by decide) ?_
      obtain rfl := Option.some.inj hf
      exact V.vret hC hr hE d_X_receiveValue_149 ⟨rfl, rfl, rfl⟩
set_option maxHeartbeats 4000000 in
set_option maxRecDepth 100000 in
theorem c_X_receiveValue (σ : tm_S) (a1 : Nat) (a2 : Int32) (a3 : Nat) (k1 : kd a1 = 5) (k3 : kd a3 = 8) {r : tm_S} (hf : f_X_receiveValue σ a1 a2 a3 = some r) : tv_Met ty_X_receiveValue (Cond.code ty_X_receiveValue tb_X_receiveValue 5 none :: tm_wg) tm_ns tm_cl tm_ty 3 75 0 0 [.ref 1, .ref a1, .int a2, .ref a3] tm_n (hp σ) (tm_P none r) := by
  refine tv_Met.of (by decide) rfl (tm_le rfl) ?_
  intro X hC hnm hr hE
  have hC : tv_K X tb_X_receiveValue 5 "TrickleMesh" tm_wg tm_ns tm_cl tm_ty { frames := 3, cells := 0, slots := 0, locals := 75 } := hC
  show V X 0 0 tm_n (hp σ) 0 [some (.ref 1), some (.ref a1), some (.int a2), some (.ref a3), none] []
  unfold f_X_receiveValue at hf
  refine V.blk hC [(.aload_n 3, 1)] 0 [some (.ref 1), some (.ref a1), some (.int a2), some (.ref a3), none] [] ⟨d_X_receiveValue_0, trivial⟩ (show tv_run _ _ _ _ = some (1, [some (.ref 1), some (.ref a1), some (.int a2), some (.ref a3), none], [.ref a3]) from rfl) ?_
  refine V.getf hC tf_X_324 (kd_in k3 (by decide)) (hp_at k3) rfl d_X_receiveValue_1 ?_
  show V X 0 0 tm_n (hp σ) 4 [some (.ref 1), some (.ref a1), some (.int a2), some (.ref a3), none] [.int (σ.1 a3 10)]
  refine V.if_eq hC d_X_receiveValue_4 (tgt := 23) (by decide) (fun hc => ?_) (fun hc => ?_)
  · rw [if_pos hc] at hf
    refine V.blk hC [(.iload_n 2, 1), (.aload_n 1, 1)] 23 [some (.ref 1), some (.ref a1), some (.int a2), some (.ref a3), none] [] ⟨d_X_receiveValue_23, d_X_receiveValue_24, trivial⟩ (show tv_run _ _ _ _ = some (25, [some (.ref 1), some (.ref a1), some (.int a2), some (.ref a3), none], [.ref a1, .int a2]) from rfl) ?_
    refine V.getf hC tf_X_45 (kd_in k1 (by decide)) (hp_at k1) rfl d_X_receiveValue_25 ?_
    show V X 0 0 tm_n (hp σ) 28 [some (.ref 1), some (.ref a1), some (.int a2), some (.ref a3), none] [.int (σ.1 a1 11), .int a2]
    refine V.icmp_gt hC d_X_receiveValue_28 (tgt := 35) (by decide) (fun hc => ?_) (fun hc => ?_)
    · rw [if_pos hc] at hf
      refine V.blk hC [(.iconst 0, 1)] 35 [some (.ref 1), some (.ref a1), some (.int a2), some (.ref a3), none] [] ⟨d_X_receiveValue_35, trivial⟩ (show tv_run _ _ _ _ = some (36, [some (.ref 1), some (.ref a1), some (.int a2), some (.ref a3), none], [.int (0 : Int32)]) from rfl) ?_
      exact V.less (tv_le_some (tv_le_some (tv_le_none (tv_le_some (tv_le_none tv_le_nil))))) (c_X_receiveValue_L36 hC hr hE σ a1 a3 (0 : Int32) k1 k3 hf)
    · rw [if_neg hc] at hf
      refine V.blk hC [(.iconst 1, 1)] 31 [some (.ref 1), some (.ref a1), some (.int a2), some (.ref a3), none] [] ⟨d_X_receiveValue_31, trivial⟩ (show tv_run _ _ _ _ = some (32, [some (.ref 1), some (.ref a1), some (.int a2), some (.ref a3), none], [.int (1 : Int32)]) from rfl) ?_
      refine V.goto hC d_X_receiveValue_32 (tgt := 36) (by decide) ?_
      exact V.less (tv_le_some (tv_le_some (tv_le_none (tv_le_some (tv_le_none tv_le_nil))))) (c_X_receiveValue_L36 hC hr hE σ a1 a3 (1 : Int32) k1 k3 hf)
  · rw [if_neg hc] at hf
    refine V.blk hC [(.iload_n 2, 1), (.aload_n 1, 1)] 7 [some (.ref 1), some (.ref a1), some (.int a2), some (.ref a3), none] [] ⟨d_X_receiveValue_7, d_X_receiveValue_8, trivial⟩ (show tv_run _ _ _ _ = some (9, [some (.ref 1), some (.ref a1), some (.int a2), some (.ref a3), none], [.ref a1, .int a2]) from rfl) ?_
    refine V.getf hC tf_X_45 (kd_in k1 (by decide)) (hp_at k1) rfl d_X_receiveValue_9 ?_
    show V X 0 0 tm_n (hp σ) 12 [some (.ref 1), some (.ref a1), some (.int a2), some (.ref a3), none] [.int (σ.1 a1 11), .int a2]
    refine V.icmp_lt hC d_X_receiveValue_12 (tgt := 19) (by decide) (fun hc => ?_) (fun hc => ?_)
    · rw [if_pos hc] at hf
      refine V.blk hC [(.iconst 0, 1)] 19 [some (.ref 1), some (.ref a1), some (.int a2), some (.ref a3), none] [] ⟨d_X_receiveValue_19, trivial⟩ (show tv_run _ _ _ _ = some (20, [some (.ref 1), some (.ref a1), some (.int a2), some (.ref a3), none], [.int (0 : Int32)]) from rfl) ?_
      refine V.goto hC d_X_receiveValue_20 (tgt := 36) (by decide) ?_
      exact V.less (tv_le_some (tv_le_some (tv_le_none (tv_le_some (tv_le_none tv_le_nil))))) (c_X_receiveValue_L36 hC hr hE σ a1 a3 (0 : Int32) k1 k3 hf)
    · rw [if_neg hc] at hf
      refine V.blk hC [(.iconst 1, 1)] 15 [some (.ref 1), some (.ref a1), some (.int a2), some (.ref a3), none] [] ⟨d_X_receiveValue_15, trivial⟩ (show tv_run _ _ _ _ = some (16, [some (.ref 1), some (.ref a1), some (.int a2), some (.ref a3), none], [.int (1 : Int32)]) from rfl) ?_
      refine V.goto hC d_X_receiveValue_16 (tgt := 36) (by decide) ?_
      exact V.less (tv_le_some (tv_le_some (tv_le_none (tv_le_some (tv_le_none tv_le_nil))))) (c_X_receiveValue_L36 hC hr hE σ a1 a3 (1 : Int32) k1 k3 hf)
set_option maxHeartbeats 4000000 in
set_option maxRecDepth 100000 in
theorem c_X_takeOwn (σ : tm_S) (a1 : Nat) (a2 : Nat) (a3 : Nat) (k1 : kd a1 = 5) (k2 : kd a2 = 5) (k3 : kd a3 = 8) {r : tm_S} (hf : f_X_takeOwn σ a1 a2 a3 = some r) : tv_Met ty_X_takeOwn (Cond.code ty_X_takeOwn tb_X_takeOwn 4 none :: tm_wg) tm_ns tm_cl tm_ty 4 99 0 0 [.ref 1, .ref a1, .ref a2, .ref a3] tm_n (hp σ) (tm_P none r) := by
  refine tv_Met.of (by decide) rfl (tm_le rfl) ?_
  intro X hC hnm hr hE
  have hC : tv_K X tb_X_takeOwn 4 "TrickleMesh" tm_wg tm_ns tm_cl tm_ty { frames := 4, cells := 0, slots := 0, locals := 99 } := hC
  show V X 0 0 tm_n (hp σ) 0 [some (.ref 1), some (.ref a1), some (.ref a2), some (.ref a3)] []
  unfold f_X_takeOwn at hf
  refine V.blk hC [(.aload_n 1, 1)] 0 [some (.ref 1), some (.ref a1), some (.ref a2), some (.ref a3)] [] ⟨d_X_takeOwn_0, trivial⟩ (show tv_run _ _ _ _ = some (1, [some (.ref 1), some (.ref a1), some (.ref a2), some (.ref a3)], [.ref a1]) from rfl) ?_
  refine V.getf hC tf_X_69 (kd_in k1 (by decide)) (hp_at k1) rfl d_X_takeOwn_1 ?_
  show V X 0 0 tm_n (hp σ) 4 [some (.ref 1), some (.ref a1), some (.ref a2), some (.ref a3)] [.ref (a1 + 1)]
  refine V.blk hC [(.aload_n 2, 1)] 4 [some (.ref 1), some (.ref a1), some (.ref a2), some (.ref a3)] [.ref (a1 + 1)] ⟨d_X_takeOwn_4, trivial⟩ (show tv_run _ _ _ _ = some (5, [some (.ref 1), some (.ref a1), some (.ref a2), some (.ref a3)], [.ref a2, .ref (a1 + 1)]) from rfl) ?_
  refine V.getf hC tf_X_221 (kd_in k2 (by decide)) (hp_at k2) rfl d_X_takeOwn_5 ?_
  show V X 0 0 tm_n (hp σ) 8 [some (.ref 1), some (.ref a1), some (.ref a2), some (.ref a3)] [.int (σ.1 a2 0), .ref (a1 + 1)]
  obtain ⟨σ1, hσ1, hf⟩ := tm_ww hf
  refine V.seti hC tf_X_78 tt_R to_R tn_R rfl (by decide +kernel) tm_fi (kd_5_6 k1) (kd_in (kd_5_6 k1) (by decide)) rfl rfl (tm_le rfl) d_X_takeOwn_8 ?_
  rw [← hσ1]
  refine V.blk hC [(.aload_n 1, 1)] 11 [some (.ref 1), some (.ref a1), some (.ref a2), some (.ref a3)] [] ⟨d_X_takeOwn_11, trivial⟩ (show tv_run _ _ _ _ = some (12, [some (.ref 1), some (.ref a1), some (.ref a2), some (.ref a3)], [.ref a1]) from rfl) ?_
  refine V.getf hC tf_X_274 (kd_in k1 (by decide)) (hp_at k1) rfl d_X_takeOwn_12 ?_
  show V X 0 0 tm_n (hp σ1) 15 [some (.ref 1), some (.ref a1), some (.ref a2), some (.ref a3)] [.ref (a1 + 15)]
  refine V.blk hC [(.aload_n 2, 1)] 15 [some (.ref 1), some (.ref a1), some (.ref a2), some (.ref a3)] [.ref (a1 + 15)] ⟨d_X_takeOwn_15, trivial⟩ (show tv_run _ _ _ _ = some (16, [some (.ref 1), some (.ref a1), some (.ref a2), some (.ref a3)], [.ref a2, .ref (a1 + 15)]) from rfl) ?_
  refine V.getf hC tf_X_221 (kd_in k2 (by decide)) (hp_at k2) rfl d_X_takeOwn_16 ?_
  show V X 0 0 tm_n (hp σ1) 19 [some (.ref 1), some (.ref a1), some (.ref a2), some (.ref a3)] [.int (σ1.1 a2 0), .ref (a1 + 15)]
  obtain ⟨hb2, hf⟩ := tm_if hf
  refine V.iald hC (kd_in (kd_5_15 k1) (by decide)) (hp_at (kd_5_15 k1)) rfl hb2 d_X_takeOwn_19 ?_
  show V X 0 0 tm_n (hp σ1) 20 [some (.ref 1), some (.ref a1), some (.ref a2), some (.ref a3)] [.int (σ1.1 (a1 + 15) (σ1.1 a2 0).toNatClampNeg)]
  refine V.blk hC [(.aload_n 3, 1)] 20 [some (.ref 1), some (.ref a1), some (.ref a2), some (.ref a3)] [.int (σ1.1 (a1 + 15) (σ1.1 a2 0).toNatClampNeg)] ⟨d_X_takeOwn_20, trivial⟩ (show tv_run _ _ _ _ = some (21, [some (.ref 1), some (.ref a1), some (.ref a2), some (.ref a3)], [.ref a3, .int (σ1.1 (a1 + 15) (σ1.1 a2 0).toNatClampNeg)]) from rfl) ?_
  refine V.getf hC tf_X_176 (kd_in k3 (by decide)) (hp_at k3) rfl d_X_takeOwn_21 ?_
  show V X 0 0 tm_n (hp σ1) 24 [some (.ref 1), some (.ref a1), some (.ref a2), some (.ref a3)] [.int (σ1.1 a3 0), .int (σ1.1 (a1 + 15) (σ1.1 a2 0).toNatClampNeg)]
  refine V.icmp_ne hC d_X_takeOwn_24 (tgt := 28) (by decide) (fun hc => ?_) (fun hc => ?_)
  · rw [if_neg hc] at hf
    refine V.blk hC [(.aload_n 1, 1)] 28 [some (.ref 1), some (.ref a1), some (.ref a2), some (.ref a3)] [] ⟨d_X_takeOwn_28, trivial⟩ (show tv_run _ _ _ _ = some (29, [some (.ref 1), some (.ref a1), some (.ref a2), some (.ref a3)], [.ref a1]) from rfl) ?_
    refine V.getf hC tf_X_274 (kd_in k1 (by decide)) (hp_at k1) rfl d_X_takeOwn_29 ?_
    show V X 0 0 tm_n (hp σ1) 32 [some (.ref 1), some (.ref a1), some (.ref a2), some (.ref a3)] [.ref (a1 + 15)]
    refine V.blk hC [(.aload_n 2, 1)] 32 [some (.ref 1), some (.ref a1), some (.ref a2), some (.ref a3)] [.ref (a1 + 15)] ⟨d_X_takeOwn_32, trivial⟩ (show tv_run _ _ _ _ = some (33, [some (.ref 1), some (.ref a1), some (.ref a2), some (.ref a3)], [.ref a2, .ref (a1 + 15)]) from rfl) ?_
    refine V.getf hC tf_X_221 (kd_in k2 (by decide)) (hp_at k2) rfl d_X_takeOwn_33 ?_
    show V X 0 0 tm_n (hp σ1) 36 [some (.ref 1), some (.ref a1), some (.ref a2), some (.ref a3)] [.int (σ1.1 a2 0), .ref (a1 + 15)]
    refine V.blk hC [(.aload_n 3, 1)] 36 [some (.ref 1), some (.ref a1), some (.ref a2), some (.ref a3)] [.int (σ1.1 a2 0), .ref (a1 + 15)] ⟨d_X_takeOwn_36, trivial⟩ (show tv_run _ _ _ _ = some (37, [some (.ref 1), some (.ref a1), some (.ref a2), some (.ref a3)], [.ref a3, .int (σ1.1 a2 0), .ref (a1 + 15)]) from rfl) ?_
    refine V.getf hC tf_X_176 (kd_in k3 (by decide)) (hp_at k3) rfl d_X_takeOwn_37 ?_
    show V X 0 0 tm_n (hp σ1) 40 [some (.ref 1), some (.ref a1), some (.ref a2), some (.ref a3)] [.int (σ1.1 a3 0), .int (σ1.1 a2 0), .ref (a1 + 15)]
    obtain ⟨hb3, hf⟩ := tm_if hf
    obtain ⟨σ4, hσ4, hf⟩ := tm_ww hf
    refine V.seta hC (kd_5_15 k1) (kd_in (kd_5_15 k1) (by decide)) rfl rfl rfl hb3 d_X_takeOwn_40 ?_
    rw [← hσ4]
    refine V.blk hC [(.aload_n 3, 1)] 41 [some (.ref 1), some (.ref a1), some (.ref a2), some (.ref a3)] [] ⟨d_X_takeOwn_41, trivial⟩ (show tv_run _ _ _ _ = some (42, [some (.ref 1), some (.ref a1), some (.ref a2), some (.ref a3)], [.ref a3]) from rfl) ?_
    refine V.getf hC tf_X_181 (kd_in k3 (by decide)) (hp_at k3) rfl d_X_takeOwn_42 ?_
    show V X 0 0 tm_n (hp σ4) 45 [some (.ref 1), some (.ref a1), some (.ref a2), some (.ref a3)] [.int (σ4.1 a3 1)]
    refine V.blk hC [(.iconst 3, 1)] 45 [some (.ref 1), some (.ref a1), some (.ref a2), some (.ref a3)] [.int (σ4.1 a3 1)] ⟨d_X_takeOwn_45, trivial⟩ (show tv_run _ _ _ _ = some (46, [some (.ref 1), some (.ref a1), some (.ref a2), some (.ref a3)], [.int (3 : Int32), .int (σ4.1 a3 1)]) from rfl) ?_
    refine V.icmp_ne hC d_X_takeOwn_46 (tgt := 62) (by decide) (fun hc => ?_) (fun hc => ?_)
    · rw [if_neg hc] at hf
      refine V.blk hC [(.aload_n 0, 1), (.aload_n 1, 1), (.aload_n 2, 1)] 62 [some (.ref 1), some (.ref a1), some (.ref a2), some (.ref a3)] [] ⟨d_X_takeOwn_62, d_X_takeOwn_63, d_X_takeOwn_64, trivial⟩ (show tv_run _ _ _ _ = some (65, [some (.ref 1), some (.ref a1), some (.ref a2), some (.ref a3)], [.ref a2, .ref a1, .ref 1]) from rfl) ?_
      refine V.getf hC tf_X_45 (kd_in k2 (by decide)) (hp_at k2) rfl d_X_takeOwn_65 ?_
      show V X 0 0 tm_n (hp σ4) 68 [some (.ref 1), some (.ref a1), some (.ref a2), some (.ref a3)] [.int (σ4.1 a2 11), .ref a1, .ref 1]
      refine V.blk hC [(.aload_n 3, 1)] 68 [some (.ref 1), some (.ref a1), some (.ref a2), some (.ref a3)] [.int (σ4.1 a2 11), .ref a1, .ref 1] ⟨d_X_takeOwn_68, trivial⟩ (show tv_run _ _ _ _ = some (69, [some (.ref 1), some (.ref a1), some (.ref a2), some (.ref a3)], [.ref a3, .int (σ4.1 a2 11), .ref a1, .ref 1]) from rfl) ?_
      obtain ⟨q5, hq5, hf⟩ := tm_bd hf
      refine V.callV hC tm_nest rfl (c_X_receiveValue σ4 a1 (σ4.1 a2 11) a3 k1 k3 hq5) (tm_gd tc_X_receiveValue) tg_X_281 th_X_receiveValue ⟨tm_le rfl, tm_le rfl, tm_le rfl, tm_le rfl⟩ rfl (kd_in kd_1 (by decide)) (hp_at kd_1) (As := [.ref a1, .int (σ4.1 a2 11), .ref a3]) (st := []) rfl (tm_le rfl) d_X_takeOwn_69 ?_
      rintro v n2 h2 ⟨rfl, rfl, rfl⟩
      show V X 0 0 tm_n (hp q5) 72 [some (.ref 1), some (.ref a1), some (.ref a2), some (.ref a3)] []
      obtain rfl := Option.some.inj hf
      exact V.vret hC hr hE d_X_takeOwn_72 ⟨rfl, rfl, rfl⟩
    · rw [if_pos hc] at hf
      refine V.blk hC [(.aload_n 0, 1), (.aload_n 1, 1), (.aload_n 2, 1)] 49 [some (.ref 1), some (.ref a1), some (.ref a2), some (.ref a3)] [] ⟨d_X_takeOwn_49, d_X_takeOwn_50, d_X_takeOwn_51, trivial⟩ (show tv_run _ _ _ _ = some (52, [some (.ref 1), some (.ref a1), some (.ref a2), some (.ref a3)], [.ref a2, .ref a1, .ref 1]) from rfl) ?_
      refine V.getf hC tf_X_221 (kd_in k2 (by decide)) (hp_at k2) rfl d_X_takeOwn_52 ?_
      show V X 0 0 tm_n (hp σ4) 55 [some (.ref 1), some (.ref a1), some (.ref a2), some (.ref a3)] [.int (σ4.1 a2 0), .ref a1, .ref 1]
      refine V.blk hC [(.aload_n 3, 1)] 55 [some (.ref 1), some (.ref a1), some (.ref a2), some (.ref a3)] [.int (σ4.1 a2 0), .ref a1, .ref 1] ⟨d_X_takeOwn_55, trivial⟩ (show tv_run _ _ _ _ = some (56, [some (.ref 1), some (.ref a1), some (.ref a2), some (.ref a3)], [.ref a3, .int (σ4.1 a2 0), .ref a1, .ref 1]) from rfl) ?_
      obtain ⟨q6, hq6, hf⟩ := tm_bd hf
      refine V.callV hC tm_nest rfl (c_X_receiveAnnounce σ4 a1 (σ4.1 a2 0) a3 k1 k3 hq6) (tm_gd tc_X_receiveAnnounce) tg_X_277 th_X_receiveAnnounce ⟨tm_le rfl, tm_le rfl, tm_le rfl, tm_le rfl⟩ rfl (kd_in kd_1 (by decide)) (hp_at kd_1) (As := [.ref a1, .int (σ4.1 a2 0), .ref a3]) (st := []) rfl (tm_le rfl) d_X_takeOwn_56 ?_
      rintro v n2 h2 ⟨rfl, rfl, rfl⟩
      show V X 0 0 tm_n (hp q6) 59 [some (.ref 1), some (.ref a1), some (.ref a2), some (.ref a3)] []
      refine V.goto hC d_X_takeOwn_59 (tgt := 72) (by decide) ?_
      obtain rfl := Option.some.inj hf
      exact V.vret hC hr hE d_X_takeOwn_72 ⟨rfl, rfl, rfl⟩
  · rw [if_pos hc] at hf
    obtain rfl := Option.some.inj hf
    exact V.vret hC hr hE d_X_takeOwn_27 ⟨rfl, rfl, rfl⟩
set_option maxHeartbeats 4000000 in
set_option maxRecDepth 100000 in
theorem c_X_takeWhatWasHeard_L132 {X : tv_X} {r : tm_S} (hC : tv_K X tb_X_takeWhatWasHeard 6 "TrickleMesh" tm_wg tm_ns tm_cl tm_ty { frames := 5, cells := 0, slots := 0, locals := 122 }) (hr : tv_ret X none) (hE : tv_end X (tm_P none r) 0 0) {rc : tm_S → Int32 → Option (tm_S)} (hrc : ∀ (σ : tm_S) (l1 : Int32), rc σ l1 = some r → V X 0 0 tm_n (hp σ) 2 [some (.ref 1), some (.int l1), none, none, none, none] []) (σ : tm_S) (l1 : Int32)  (hf : f_X_takeWhatWasHeard_L132 rc σ l1 = some r) : V X 0 0 tm_n (hp σ) 132 [some (.ref 1), some (.int l1), none, none, none, none] [] := by
  unfold f_X_takeWhatWasHeard_L132 at hf
  refine V.blk hC [(.iinc 1 1, 3)] 132 [some (.ref 1), some (.int l1), none, none, none, none] [] ⟨d_X_takeWhatWasHeard_132, trivial⟩ (show tv_run _ _ _ _ = some (135, [some (.ref 1), some (.int (l1 + (1 : Int32))), none, none, none, none], []) from rfl) ?_
  refine V.goto hC d_X_takeWhatWasHeard_135 (tgt := 2) (by decide) ?_
  exact V.less (tv_le_some (tv_le_some (tv_le_none (tv_le_none (tv_le_none (tv_le_none tv_le_nil)))))) (hrc σ (l1 + (1 : Int32))  hf)
set_option maxHeartbeats 4000000 in
set_option maxRecDepth 100000 in
theorem c_X_takeWhatWasHeard_L2 {X : tv_X} {r : tm_S} (hC : tv_K X tb_X_takeWhatWasHeard 6 "TrickleMesh" tm_wg tm_ns tm_cl tm_ty { frames := 5, cells := 0, slots := 0, locals := 122 }) (hr : tv_ret X none) (hE : tv_end X (tm_P none r) 0 0) : ∀ (k : Nat) (σ : tm_S) (l1 : Int32), f_X_takeWhatWasHeard_L2 k σ l1 = some r → V X 0 0 tm_n (hp σ) 2 [some (.ref 1), some (.int l1), none, none, none, none] [] := by
  intro k
  induction k with
  | zero => intro σ l1  hf; simp only [f_X_takeWhatWasHeard_L2] at hf; cases hf
  | succ k hrc =>
    intro σ l1  hf
    rw [f_X_takeWhatWasHeard_L2] at hf
    refine V.blk hC [(.iload_n 1, 1), (.bipush 7, 2)] 2 [some (.ref 1), some (.int l1), none, none, none, none] [] ⟨d_X_takeWhatWasHeard_2, d_X_takeWhatWasHeard_3, trivial⟩ (show tv_run _ _ _ _ = some (5, [some (.ref 1), some (.int l1), none, none, none, none], [.int (7 : Int32), .int l1]) from rfl) ?_
    refine V.icmp_ge hC d_X_takeWhatWasHeard_5 (tgt := 138) (by decide) (fun hc => ?_) (fun hc => ?_)
    · rw [if_pos hc] at hf
      obtain rfl := Option.some.inj hf
      exact V.vret hC hr hE d_X_takeWhatWasHeard_138 ⟨rfl, rfl, rfl⟩
    · rw [if_neg hc] at hf
      refine V.blk hC [(.aload_n 0, 1)] 8 [some (.ref 1), some (.int l1), none, none, none, none] [] ⟨d_X_takeWhatWasHeard_8, trivial⟩ (show tv_run _ _ _ _ = some (9, [some (.ref 1), some (.int l1), none, none, none, none], [.ref 1]) from rfl) ?_
      refine V.getf hC tf_X_11 (kd_in kd_1 (by decide)) (hp_at kd_1) rfl d_X_takeWhatWasHeard_9 ?_
      show V X 0 0 tm_n (hp σ) 12 [some (.ref 1), some (.int l1), none, none, none, none] [.ref 2]
      refine V.blk hC [(.iload_n 1, 1)] 12 [some (.ref 1), some (.int l1), none, none, none, none] [.ref 2] ⟨d_X_takeWhatWasHeard_12, trivial⟩ (show tv_run _ _ _ _ = some (13, [some (.ref 1), some (.int l1), none, none, none, none], [.int l1, .ref 2]) from rfl) ?_
      obtain ⟨hb1, hf⟩ := tm_if hf
      refine V.aald hC (kd_in kd_2 (by decide)) (hp_at kd_2) rfl rfl hb1 d_X_takeWhatWasHeard_13 ?_
      show V X 0 0 tm_n (hp σ) 14 [some (.ref 1), some (.int l1), none, none, none, none] [.ref (11 + 17 * l1.toNatClampNeg)]
      refine V.getf hC tf_X_69 (kd_in (kd_nodes hb1) (by decide)) (hp_at (kd_nodes hb1)) rfl d_X_takeWhatWasHeard_14 ?_
      show V X 0 0 tm_n (hp σ) 17 [some (.ref 1), some (.int l1), none, none, none, none] [.ref ((11 + 17 * l1.toNatClampNeg) + 1)]
      refine V.getf hC tf_X_227 (kd_in (kd_5_6 (kd_nodes hb1)) (by decide)) (hp_at (kd_5_6 (kd_nodes hb1))) rfl d_X_takeWhatWasHeard_17 ?_
      show V X 0 0 tm_n (hp σ) 20 [some (.ref 1), some (.int l1), none, none, none, none] [.int (σ.1 ((11 + 17 * l1.toNatClampNeg) + 1) 10)]
      refine V.blk hC [(.istore_n 2, 1), (.iload_n 2, 1), (.iconst (-1), 1)] 20 [some (.ref 1), some (.int l1), none, none, none, none] [.int (σ.1 ((11 + 17 * l1.toNatClampNeg) + 1) 10)] ⟨d_X_takeWhatWasHeard_20, d_X_takeWhatWasHeard_21, d_X_takeWhatWasHeard_22, trivial⟩ (show tv_run _ _ _ _ = some (23, [some (.ref 1), some (.int l1), some (.int (σ.1 ((11 + 17 * l1.toNatClampNeg) + 1) 10)), none, none, none], [.int (-1 : Int32), .int (σ.1 ((11 + 17 * l1.toNatClampNeg) + 1) 10)]) from rfl) ?_
      refine V.icmp_ne hC d_X_takeWhatWasHeard_23 (tgt := 29) (by decide) (fun hc => ?_) (fun hc => ?_)
      · rw [if_neg hc] at hf
        refine V.blk hC [(.aload_n 0, 1)] 29 [some (.ref 1), some (.int l1), some (.int (σ.1 ((11 + 17 * l1.toNatClampNeg) + 1) 10)), none, none, none] [] ⟨d_X_takeWhatWasHeard_29, trivial⟩ (show tv_run _ _ _ _ = some (30, [some (.ref 1), some (.int l1), some (.int (σ.1 ((11 + 17 * l1.toNatClampNeg) + 1) 10)), none, none, none], [.ref 1]) from rfl) ?_
        refine V.getf hC tf_X_11 (kd_in kd_1 (by decide)) (hp_at kd_1) rfl d_X_takeWhatWasHeard_30 ?_
        show V X 0 0 tm_n (hp σ) 33 [some (.ref 1), some (.int l1), some (.int (σ.1 ((11 + 17 * l1.toNatClampNeg) + 1) 10)), none, none, none] [.ref 2]
        refine V.blk hC [(.iload_n 1, 1)] 33 [some (.ref 1), some (.int l1), some (.int (σ.1 ((11 + 17 * l1.toNatClampNeg) + 1) 10)), none, none, none] [.ref 2] ⟨d_X_takeWhatWasHeard_33, trivial⟩ (show tv_run _ _ _ _ = some (34, [some (.ref 1), some (.int l1), some (.int (σ.1 ((11 + 17 * l1.toNatClampNeg) + 1) 10)), none, none, none], [.int l1, .ref 2]) from rfl) ?_
        obtain ⟨hb2, hf⟩ := tm_if hf
        refine V.aald hC (kd_in kd_2 (by decide)) (hp_at kd_2) rfl rfl hb2 d_X_takeWhatWasHeard_34 ?_
        show V X 0 0 tm_n (hp σ) 35 [some (.ref 1), some (.int l1), some (.int (σ.1 ((11 + 17 * l1.toNatClampNeg) + 1) 10)), none, none, none] [.ref (11 + 17 * l1.toNatClampNeg)]
        refine V.blk hC [(.astore_n 3, 1), (.aload_n 0, 1)] 35 [some (.ref 1), some (.int l1), some (.int (σ.1 ((11 + 17 * l1.toNatClampNeg) + 1) 10)), none, none, none] [.ref (11 + 17 * l1.toNatClampNeg)] ⟨d_X_takeWhatWasHeard_35, d_X_takeWhatWasHeard_36, trivial⟩ (show tv_run _ _ _ _ = some (37, [some (.ref 1), some (.int l1), some (.int (σ.1 ((11 + 17 * l1.toNatClampNeg) + 1) 10)), some (.ref (11 + 17 * l1.toNatClampNeg)), none, none], [.ref 1]) from rfl) ?_
        refine V.getf hC tf_X_11 (kd_in kd_1 (by decide)) (hp_at kd_1) rfl d_X_takeWhatWasHeard_37 ?_
        show V X 0 0 tm_n (hp σ) 40 [some (.ref 1), some (.int l1), some (.int (σ.1 ((11 + 17 * l1.toNatClampNeg) + 1) 10)), some (.ref (11 + 17 * l1.toNatClampNeg)), none, none] [.ref 2]
        refine V.blk hC [(.iload_n 2, 1)] 40 [some (.ref 1), some (.int l1), some (.int (σ.1 ((11 + 17 * l1.toNatClampNeg) + 1) 10)), some (.ref (11 + 17 * l1.toNatClampNeg)), none, none] [.ref 2] ⟨d_X_takeWhatWasHeard_40, trivial⟩ (show tv_run _ _ _ _ = some (41, [some (.ref 1), some (.int l1), some (.int (σ.1 ((11 + 17 * l1.toNatClampNeg) + 1) 10)), some (.ref (11 + 17 * l1.toNatClampNeg)), none, none], [.int (σ.1 ((11 + 17 * l1.toNatClampNeg) + 1) 10), .ref 2]) from rfl) ?_
        obtain ⟨hb3, hf⟩ := tm_if hf
        refine V.aald hC (kd_in kd_2 (by decide)) (hp_at kd_2) rfl rfl hb3 d_X_takeWhatWasHeard_41 ?_
        show V X 0 0 tm_n (hp σ) 42 [some (.ref 1), some (.int l1), some (.int (σ.1 ((11 + 17 * l1.toNatClampNeg) + 1) 10)), some (.ref (11 + 17 * l1.toNatClampNeg)), none, none] [.ref (11 + 17 * (σ.1 ((11 + 17 * l1.toNatClampNeg) + 1) 10).toNatClampNeg)]
        refine V.blk hC [(.astore 4, 2), (.aload 4, 2)] 42 [some (.ref 1), some (.int l1), some (.int (σ.1 ((11 + 17 * l1.toNatClampNeg) + 1) 10)), some (.ref (11 + 17 * l1.toNatClampNeg)), none, none] [.ref (11 + 17 * (σ.1 ((11 + 17 * l1.toNatClampNeg) + 1) 10).toNatClampNeg)] ⟨d_X_takeWhatWasHeard_42, d_X_takeWhatWasHeard_44, trivial⟩ (show tv_run _ _ _ _ = some (46, [some (.ref 1), some (.int l1), some (.int (σ.1 ((11 + 17 * l1.toNatClampNeg) + 1) 10)), some (.ref (11 + 17 * l1.toNatClampNeg)), some (.ref (11 + 17 * (σ.1 ((11 + 17 * l1.toNatClampNeg) + 1) 10).toNatClampNeg)), none], [.ref (11 + 17 * (σ.1 ((11 + 17 * l1.toNatClampNeg) + 1) 10).toNatClampNeg)]) from rfl) ?_
        refine V.getf hC tf_X_69 (kd_in (kd_nodes hb3) (by decide)) (hp_at (kd_nodes hb3)) rfl d_X_takeWhatWasHeard_46 ?_
        show V X 0 0 tm_n (hp σ) 49 [some (.ref 1), some (.int l1), some (.int (σ.1 ((11 + 17 * l1.toNatClampNeg) + 1) 10)), some (.ref (11 + 17 * l1.toNatClampNeg)), some (.ref (11 + 17 * (σ.1 ((11 + 17 * l1.toNatClampNeg) + 1) 10).toNatClampNeg)), none] [.ref ((11 + 17 * (σ.1 ((11 + 17 * l1.toNatClampNeg) + 1) 10).toNatClampNeg) + 1)]
        refine V.getf hC tf_X_205 (kd_in (kd_5_6 (kd_nodes hb3)) (by decide)) (hp_at (kd_5_6 (kd_nodes hb3))) rfl d_X_takeWhatWasHeard_49 ?_
        show V X 0 0 tm_n (hp σ) 52 [some (.ref 1), some (.int l1), some (.int (σ.1 ((11 + 17 * l1.toNatClampNeg) + 1) 10)), some (.ref (11 + 17 * l1.toNatClampNeg)), some (.ref (11 + 17 * (σ.1 ((11 + 17 * l1.toNatClampNeg) + 1) 10).toNatClampNeg)), none] [.int (σ.1 ((11 + 17 * (σ.1 ((11 + 17 * l1.toNatClampNeg) + 1) 10).toNatClampNeg) + 1) 5)]
        refine V.blk hC [(.iconst 1, 1)] 52 [some (.ref 1), some (.int l1), some (.int (σ.1 ((11 + 17 * l1.toNatClampNeg) + 1) 10)), some (.ref (11 + 17 * l1.toNatClampNeg)), some (.ref (11 + 17 * (σ.1 ((11 + 17 * l1.toNatClampNeg) + 1) 10).toNatClampNeg)), none] [.int (σ.1 ((11 + 17 * (σ.1 ((11 + 17 * l1.toNatClampNeg) + 1) 10).toNatClampNeg) + 1) 5)] ⟨d_X_takeWhatWasHeard_52, trivial⟩ (show tv_run _ _ _ _ = some (53, [some (.ref 1), some (.int l1), some (.int (σ.1 ((11 + 17 * l1.toNatClampNeg) + 1) 10)), some (.ref (11 + 17 * l1.toNatClampNeg)), some (.ref (11 + 17 * (σ.1 ((11 + 17 * l1.toNatClampNeg) + 1) 10).toNatClampNeg)), none], [.int (1 : Int32), .int (σ.1 ((11 + 17 * (σ.1 ((11 + 17 * l1.toNatClampNeg) + 1) 10).toNatClampNeg) + 1) 5)]) from rfl) ?_
        refine V.icmp_ne hC d_X_takeWhatWasHeard_53 (tgt := 66) (by decide) (fun hc => ?_) (fun hc => ?_)
        · rw [if_neg hc] at hf
          refine V.blk hC [(.aload 4, 2)] 66 [some (.ref 1), some (.int l1), some (.int (σ.1 ((11 + 17 * l1.toNatClampNeg) + 1) 10)), some (.ref (11 + 17 * l1.toNatClampNeg)), some (.ref (11 + 17 * (σ.1 ((11 + 17 * l1.toNatClampNeg) + 1) 10).toNatClampNeg)), none] [] ⟨d_X_takeWhatWasHeard_66, trivial⟩ (show tv_run _ _ _ _ = some (68, [some (.ref 1), some (.int l1), some (.int (σ.1 ((11 + 17 * l1.toNatClampNeg) + 1) 10)), some (.ref (11 + 17 * l1.toNatClampNeg)), some (.ref (11 + 17 * (σ.1 ((11 + 17 * l1.toNatClampNeg) + 1) 10).toNatClampNeg)), none], [.ref (11 + 17 * (σ.1 ((11 + 17 * l1.toNatClampNeg) + 1) 10).toNatClampNeg)]) from rfl) ?_
          refine V.getf hC tf_X_69 (kd_in (kd_nodes hb3) (by decide)) (hp_at (kd_nodes hb3)) rfl d_X_takeWhatWasHeard_68 ?_
          show V X 0 0 tm_n (hp σ) 71 [some (.ref 1), some (.int l1), some (.int (σ.1 ((11 + 17 * l1.toNatClampNeg) + 1) 10)), some (.ref (11 + 17 * l1.toNatClampNeg)), some (.ref (11 + 17 * (σ.1 ((11 + 17 * l1.toNatClampNeg) + 1) 10).toNatClampNeg)), none] [.ref ((11 + 17 * (σ.1 ((11 + 17 * l1.toNatClampNeg) + 1) 10).toNatClampNeg) + 1)]
          refine V.getf hC tf_X_169 (kd_in (kd_5_6 (kd_nodes hb3)) (by decide)) (hp_at (kd_5_6 (kd_nodes hb3))) rfl d_X_takeWhatWasHeard_71 ?_
          show V X 0 0 tm_n (hp σ) 74 [some (.ref 1), some (.int l1), some (.int (σ.1 ((11 + 17 * l1.toNatClampNeg) + 1) 10)), some (.ref (11 + 17 * l1.toNatClampNeg)), some (.ref (11 + 17 * (σ.1 ((11 + 17 * l1.toNatClampNeg) + 1) 10).toNatClampNeg)), none] [.ref (((11 + 17 * (σ.1 ((11 + 17 * l1.toNatClampNeg) + 1) 10).toNatClampNeg) + 1) + 1)]
          refine V.blk hC [(.iconst 0, 1)] 74 [some (.ref 1), some (.int l1), some (.int (σ.1 ((11 + 17 * l1.toNatClampNeg) + 1) 10)), some (.ref (11 + 17 * l1.toNatClampNeg)), some (.ref (11 + 17 * (σ.1 ((11 + 17 * l1.toNatClampNeg) + 1) 10).toNatClampNeg)), none] [.ref (((11 + 17 * (σ.1 ((11 + 17 * l1.toNatClampNeg) + 1) 10).toNatClampNeg) + 1) + 1)] ⟨d_X_takeWhatWasHeard_74, trivial⟩ (show tv_run _ _ _ _ = some (75, [some (.ref 1), some (.int l1), some (.int (σ.1 ((11 + 17 * l1.toNatClampNeg) + 1) 10)), some (.ref (11 + 17 * l1.toNatClampNeg)), some (.ref (11 + 17 * (σ.1 ((11 + 17 * l1.toNatClampNeg) + 1) 10).toNatClampNeg)), none], [.int (0 : Int32), .ref (((11 + 17 * (σ.1 ((11 + 17 * l1.toNatClampNeg) + 1) 10).toNatClampNeg) + 1) + 1)]) from rfl) ?_
          obtain ⟨r5, hr5, hf⟩ := tm_ww hf
          obtain ⟨hk4, hf⟩ := tm_if hf
          refine V.aald hC (kd_in (kd_6_7 (kd_5_6 (kd_nodes hb3))) (by decide)) (hp_at (kd_6_7 (kd_5_6 (kd_nodes hb3)))) rfl rfl (show ¬ ((0 : Int32) < 0 ∨ 4 ≤ (0 : Int32).toNatClampNeg) from by decide) d_X_takeWhatWasHeard_75 ?_
          show V X 0 0 tm_n (hp σ) 76 [some (.ref 1), some (.int l1), some (.int (σ.1 ((11 + 17 * l1.toNatClampNeg) + 1) 10)), some (.ref (11 + 17 * l1.toNatClampNeg)), some (.ref (11 + 17 * (σ.1 ((11 + 17 * l1.toNatClampNeg) + 1) 10).toNatClampNeg)), none] [.ref (σ.2 (((11 + 17 * (σ.1 ((11 + 17 * l1.toNatClampNeg) + 1) 10).toNatClampNeg) + 1) + 1) (0 : Int32).toNatClampNeg)]
          rw [← hr5]
          refine V.blk hC [(.astore 5, 2), (.aload 5, 2)] 76 [some (.ref 1), some (.int l1), some (.int (σ.1 ((11 + 17 * l1.toNatClampNeg) + 1) 10)), some (.ref (11 + 17 * l1.toNatClampNeg)), some (.ref (11 + 17 * (σ.1 ((11 + 17 * l1.toNatClampNeg) + 1) 10).toNatClampNeg)), none] [.ref r5] ⟨d_X_takeWhatWasHeard_76, d_X_takeWhatWasHeard_78, trivial⟩ (show tv_run _ _ _ _ = some (80, [some (.ref 1), some (.int l1), some (.int (σ.1 ((11 + 17 * l1.toNatClampNeg) + 1) 10)), some (.ref (11 + 17 * l1.toNatClampNeg)), some (.ref (11 + 17 * (σ.1 ((11 + 17 * l1.toNatClampNeg) + 1) 10).toNatClampNeg)), some (.ref r5)], [.ref r5]) from rfl) ?_
          refine V.getf hC tf_X_181 (kd_in hk4 (by decide)) (hp_at hk4) rfl d_X_takeWhatWasHeard_80 ?_
          show V X 0 0 tm_n (hp σ) 83 [some (.ref 1), some (.int l1), some (.int (σ.1 ((11 + 17 * l1.toNatClampNeg) + 1) 10)), some (.ref (11 + 17 * l1.toNatClampNeg)), some (.ref (11 + 17 * (σ.1 ((11 + 17 * l1.toNatClampNeg) + 1) 10).toNatClampNeg)), some (.ref r5)] [.int (σ.1 r5 1)]
          refine V.blk hC [(.iconst 1, 1)] 83 [some (.ref 1), some (.int l1), some (.int (σ.1 ((11 + 17 * l1.toNatClampNeg) + 1) 10)), some (.ref (11 + 17 * l1.toNatClampNeg)), some (.ref (11 + 17 * (σ.1 ((11 + 17 * l1.toNatClampNeg) + 1) 10).toNatClampNeg)), some (.ref r5)] [.int (σ.1 r5 1)] ⟨d_X_takeWhatWasHeard_83, trivial⟩ (show tv_run _ _ _ _ = some (84, [some (.ref 1), some (.int l1), some (.int (σ.1 ((11 + 17 * l1.toNatClampNeg) + 1) 10)), some (.ref (11 + 17 * l1.toNatClampNeg)), some (.ref (11 + 17 * (σ.1 ((11 + 17 * l1.toNatClampNeg) + 1) 10).toNatClampNeg)), some (.ref r5)], [.int (1 : Int32), .int (σ.1 r5 1)]) from rfl) ?_
          refine V.icmp_ne hC d_X_takeWhatWasHeard_84 (tgt := 95) (by decide) (fun hc => ?_) (fun hc => ?_)
          · rw [if_neg hc] at hf
            refine V.blk hC [(.aload 5, 2)] 95 [some (.ref 1), some (.int l1), some (.int (σ.1 ((11 + 17 * l1.toNatClampNeg) + 1) 10)), some (.ref (11 + 17 * l1.toNatClampNeg)), some (.ref (11 + 17 * (σ.1 ((11 + 17 * l1.toNatClampNeg) + 1) 10).toNatClampNeg)), some (.ref r5)] [] ⟨d_X_takeWhatWasHeard_95, trivial⟩ (show tv_run _ _ _ _ = some (97, [some (.ref 1), some (.int l1), some (.int (σ.1 ((11 + 17 * l1.toNatClampNeg) + 1) 10)), some (.ref (11 + 17 * l1.toNatClampNeg)), some (.ref (11 + 17 * (σ.1 ((11 + 17 * l1.toNatClampNeg) + 1) 10).toNatClampNeg)), some (.ref r5)], [.ref r5]) from rfl) ?_
            refine V.getf hC tf_X_181 (kd_in hk4 (by decide)) (hp_at hk4) rfl d_X_takeWhatWasHeard_97 ?_
            show V X 0 0 tm_n (hp σ) 100 [some (.ref 1), some (.int l1), some (.int (σ.1 ((11 + 17 * l1.toNatClampNeg) + 1) 10)), some (.ref (11 + 17 * l1.toNatClampNeg)), some (.ref (11 + 17 * (σ.1 ((11 + 17 * l1.toNatClampNeg) + 1) 10).toNatClampNeg)), some (.ref r5)] [.int (σ.1 r5 1)]
            refine V.blk hC [(.iconst 2, 1)] 100 [some (.ref 1), some (.int l1), some (.int (σ.1 ((11 + 17 * l1.toNatClampNeg) + 1) 10)), some (.ref (11 + 17 * l1.toNatClampNeg)), some (.ref (11 + 17 * (σ.1 ((11 + 17 * l1.toNatClampNeg) + 1) 10).toNatClampNeg)), some (.ref r5)] [.int (σ.1 r5 1)] ⟨d_X_takeWhatWasHeard_100, trivial⟩ (show tv_run _ _ _ _ = some (101, [some (.ref 1), some (.int l1), some (.int (σ.1 ((11 + 17 * l1.toNatClampNeg) + 1) 10)), some (.ref (11 + 17 * l1.toNatClampNeg)), some (.ref (11 + 17 * (σ.1 ((11 + 17 * l1.toNatClampNeg) + 1) 10).toNatClampNeg)), some (.ref r5)], [.int (2 : Int32), .int (σ.1 r5 1)]) from rfl) ?_
            refine V.icmp_ne hC d_X_takeWhatWasHeard_101 (tgt := 114) (by decide) (fun hc => ?_) (fun hc => ?_)
            · rw [if_neg hc] at hf
              refine V.blk hC [(.aload 5, 2)] 114 [some (.ref 1), some (.int l1), some (.int (σ.1 ((11 + 17 * l1.toNatClampNeg) + 1) 10)), some (.ref (11 + 17 * l1.toNatClampNeg)), some (.ref (11 + 17 * (σ.1 ((11 + 17 * l1.toNatClampNeg) + 1) 10).toNatClampNeg)), some (.ref r5)] [] ⟨d_X_takeWhatWasHeard_114, trivial⟩ (show tv_run _ _ _ _ = some (116, [some (.ref 1), some (.int l1), some (.int (σ.1 ((11 + 17 * l1.toNatClampNeg) + 1) 10)), some (.ref (11 + 17 * l1.toNatClampNeg)), some (.ref (11 + 17 * (σ.1 ((11 + 17 * l1.toNatClampNeg) + 1) 10).toNatClampNeg)), some (.ref r5)], [.ref r5]) from rfl) ?_
              refine V.getf hC tf_X_184 (kd_in hk4 (by decide)) (hp_at hk4) rfl d_X_takeWhatWasHeard_116 ?_
              show V X 0 0 tm_n (hp σ) 119 [some (.ref 1), some (.int l1), some (.int (σ.1 ((11 + 17 * l1.toNatClampNeg) + 1) 10)), some (.ref (11 + 17 * l1.toNatClampNeg)), some (.ref (11 + 17 * (σ.1 ((11 + 17 * l1.toNatClampNeg) + 1) 10).toNatClampNeg)), some (.ref r5)] [.int (σ.1 r5 2)]
              refine V.blk hC [(.iload_n 1, 1)] 119 [some (.ref 1), some (.int l1), some (.int (σ.1 ((11 + 17 * l1.toNatClampNeg) + 1) 10)), some (.ref (11 + 17 * l1.toNatClampNeg)), some (.ref (11 + 17 * (σ.1 ((11 + 17 * l1.toNatClampNeg) + 1) 10).toNatClampNeg)), some (.ref r5)] [.int (σ.1 r5 2)] ⟨d_X_takeWhatWasHeard_119, trivial⟩ (show tv_run _ _ _ _ = some (120, [some (.ref 1), some (.int l1), some (.int (σ.1 ((11 + 17 * l1.toNatClampNeg) + 1) 10)), some (.ref (11 + 17 * l1.toNatClampNeg)), some (.ref (11 + 17 * (σ.1 ((11 + 17 * l1.toNatClampNeg) + 1) 10).toNatClampNeg)), some (.ref r5)], [.int l1, .int (σ.1 r5 2)]) from rfl) ?_
              refine V.icmp_ne hC d_X_takeWhatWasHeard_120 (tgt := 132) (by decide) (fun hc => ?_) (fun hc => ?_)
              · rw [if_neg hc] at hf
                exact V.less (tv_le_some (tv_le_some (tv_le_none (tv_le_none (tv_le_none (tv_le_none tv_le_nil)))))) (c_X_takeWhatWasHeard_L132 hC hr hE hrc σ l1  hf)
              · rw [if_pos hc] at hf
                refine V.blk hC [(.aload_n 0, 1), (.aload_n 3, 1), (.aload 4, 2), (.aload 5, 2)] 123 [some (.ref 1), some (.int l1), some (.int (σ.1 ((11 + 17 * l1.toNatClampNeg) + 1) 10)), some (.ref (11 + 17 * l1.toNatClampNeg)), some (.ref (11 + 17 * (σ.1 ((11 + 17 * l1.toNatClampNeg) + 1) 10).toNatClampNeg)), some (.ref r5)] [] ⟨d_X_takeWhatWasHeard_123, d_X_takeWhatWasHeard_124, d_X_takeWhatWasHeard_125, d_X_takeWhatWasHeard_127, trivial⟩ (show tv_run _ _ _ _ = some (129, [some (.ref 1), some (.int l1), some (.int (σ.1 ((11 + 17 * l1.toNatClampNeg) + 1) 10)), some (.ref (11 + 17 * l1.toNatClampNeg)), some (.ref (11 + 17 * (σ.1 ((11 + 17 * l1.toNatClampNeg) + 1) 10).toNatClampNeg)), some (.ref r5)], [.ref r5, .ref (11 + 17 * (σ.1 ((11 + 17 * l1.toNatClampNeg) + 1) 10).toNatClampNeg), .ref (11 + 17 * l1.toNatClampNeg), .ref 1]) from rfl) ?_
                obtain ⟨q6, hq6, hf⟩ := tm_bd hf
                refine V.callV hC tm_nest rfl (c_X_takeOwn σ (11 + 17 * l1.toNatClampNeg) (11 + 17 * (σ.1 ((11 + 17 * l1.toNatClampNeg) + 1) 10).toNatClampNeg) r5 (kd_nodes hb2) (kd_nodes hb3) hk4 hq6) (tm_gd tc_X_takeOwn) tg_X_240 th_X_takeOwn ⟨tm_le rfl, tm_le rfl, tm_le rfl, tm_le rfl⟩ rfl (kd_in kd_1 (by decide)) (hp_at kd_1) (As := [.ref (11 + 17 * l1.toNatClampNeg), .ref (11 + 17 * (σ.1 ((11 + 17 * l1.toNatClampNeg) + 1) 10).toNatClampNeg), .ref r5]) (st := []) rfl (tm_le rfl) d_X_takeWhatWasHeard_129 ?_
                rintro v n2 h2 ⟨rfl, rfl, rfl⟩
                show V X 0 0 tm_n (hp q6) 132 [some (.ref 1), some (.int l1), some (.int (σ.1 ((11 + 17 * l1.toNatClampNeg) + 1) 10)), some (.ref (11 + 17 * l1.toNatClampNeg)), some (.ref (11 + 17 * (σ.1 ((11 + 17 * l1.toNatClampNeg) + 1) 10).toNatClampNeg)), some (.ref r5)] []
                exact V.less (tv_le_some (tv_le_some (tv_le_none (tv_le_none (tv_le_none (tv_le_none tv_le_nil)))))) (c_X_takeWhatWasHeard_L132 hC hr hE hrc q6 l1  hf)
            · rw [if_pos hc] at hf
              refine V.blk hC [(.aload_n 0, 1), (.aload_n 3, 1), (.aload 4, 2)] 104 [some (.ref 1), some (.int l1), some (.int (σ.1 ((11 + 17 * l1.toNatClampNeg) + 1) 10)), some (.ref (11 + 17 * l1.toNatClampNeg)), some (.ref (11 + 17 * (σ.1 ((11 + 17 * l1.toNatClampNeg) + 1) 10).toNatClampNeg)), some (.ref r5)] [] ⟨d_X_takeWhatWasHeard_104, d_X_takeWhatWasHeard_105, d_X_takeWhatWasHeard_106, trivial⟩ (show tv_run _ _ _ _ = some (108, [some (.ref 1), some (.int l1), some (.int (σ.1 ((11 + 17 * l1.toNatClampNeg) + 1) 10)), some (.ref (11 + 17 * l1.toNatClampNeg)), some (.ref (11 + 17 * (σ.1 ((11 + 17 * l1.toNatClampNeg) + 1) 10).toNatClampNeg)), some (.ref r5)], [.ref (11 + 17 * (σ.1 ((11 + 17 * l1.toNatClampNeg) + 1) 10).toNatClampNeg), .ref (11 + 17 * l1.toNatClampNeg), .ref 1]) from rfl) ?_
              obtain ⟨q7, hq7, hf⟩ := tm_bd hf
              refine V.callV hC tm_nest rfl (c_X_takeAdvert σ (11 + 17 * l1.toNatClampNeg) (11 + 17 * (σ.1 ((11 + 17 * l1.toNatClampNeg) + 1) 10).toNatClampNeg) (kd_nodes hb2) (kd_nodes hb3) hq7) (tm_gd tc_X_takeAdvert) tg_X_237 th_X_takeAdvert ⟨tm_le rfl, tm_le rfl, tm_le rfl, tm_le rfl⟩ rfl (kd_in kd_1 (by decide)) (hp_at kd_1) (As := [.ref (11 + 17 * l1.toNatClampNeg), .ref (11 + 17 * (σ.1 ((11 + 17 * l1.toNatClampNeg) + 1) 10).toNatClampNeg)]) (st := []) rfl (tm_le rfl) d_X_takeWhatWasHeard_108 ?_
              rintro v n2 h2 ⟨rfl, rfl, rfl⟩
              show V X 0 0 tm_n (hp q7) 111 [some (.ref 1), some (.int l1), some (.int (σ.1 ((11 + 17 * l1.toNatClampNeg) + 1) 10)), some (.ref (11 + 17 * l1.toNatClampNeg)), some (.ref (11 + 17 * (σ.1 ((11 + 17 * l1.toNatClampNeg) + 1) 10).toNatClampNeg)), some (.ref r5)] []
              refine V.goto hC d_X_takeWhatWasHeard_111 (tgt := 132) (by decide) ?_
              exact V.less (tv_le_some (tv_le_some (tv_le_none (tv_le_none (tv_le_none (tv_le_none tv_le_nil)))))) (c_X_takeWhatWasHeard_L132 hC hr hE hrc q7 l1  hf)
          · rw [if_pos hc] at hf
            refine V.blk hC [(.aload_n 0, 1), (.aload_n 3, 1)] 87 [some (.ref 1), some (.int l1), some (.int (σ.1 ((11 + 17 * l1.toNatClampNeg) + 1) 10)), some (.ref (11 + 17 * l1.toNatClampNeg)), some (.ref (11 + 17 * (σ.1 ((11 + 17 * l1.toNatClampNeg) + 1) 10).toNatClampNeg)), some (.ref r5)] [] ⟨d_X_takeWhatWasHeard_87, d_X_takeWhatWasHeard_88, trivial⟩ (show tv_run _ _ _ _ = some (89, [some (.ref 1), some (.int l1), some (.int (σ.1 ((11 + 17 * l1.toNatClampNeg) + 1) 10)), some (.ref (11 + 17 * l1.toNatClampNeg)), some (.ref (11 + 17 * (σ.1 ((11 + 17 * l1.toNatClampNeg) + 1) 10).toNatClampNeg)), some (.ref r5)], [.ref (11 + 17 * l1.toNatClampNeg), .ref 1]) from rfl) ?_
            obtain ⟨q8, hq8, hf⟩ := tm_bd hf
            refine V.callV hC tm_nest rfl (c_X_takeSolicit σ (11 + 17 * l1.toNatClampNeg) (kd_nodes hb2) hq8) (tm_gd tc_X_takeSolicit) tg_X_234 th_X_takeSolicit ⟨tm_le rfl, tm_le rfl, tm_le rfl, tm_le rfl⟩ rfl (kd_in kd_1 (by decide)) (hp_at kd_1) (As := [.ref (11 + 17 * l1.toNatClampNeg)]) (st := []) rfl (tm_le rfl) d_X_takeWhatWasHeard_89 ?_
            rintro v n2 h2 ⟨rfl, rfl, rfl⟩
            show V X 0 0 tm_n (hp q8) 92 [some (.ref 1), some (.int l1), some (.int (σ.1 ((11 + 17 * l1.toNatClampNeg) + 1) 10)), some (.ref (11 + 17 * l1.toNatClampNeg)), some (.ref (11 + 17 * (σ.1 ((11 + 17 * l1.toNatClampNeg) + 1) 10).toNatClampNeg)), some (.ref r5)] []
            refine V.goto hC d_X_takeWhatWasHeard_92 (tgt := 132) (by decide) ?_
            exact V.less (tv_le_some (tv_le_some (tv_le_none (tv_le_none (tv_le_none (tv_le_none tv_le_nil)))))) (c_X_takeWhatWasHeard_L132 hC hr hE hrc q8 l1  hf)
        · rw [if_pos hc] at hf
          refine V.blk hC [(.aload_n 0, 1), (.aload_n 3, 1), (.aload 4, 2)] 56 [some (.ref 1), some (.int l1), some (.int (σ.1 ((11 + 17 * l1.toNatClampNeg) + 1) 10)), some (.ref (11 + 17 * l1.toNatClampNeg)), some (.ref (11 + 17 * (σ.1 ((11 + 17 * l1.toNatClampNeg) + 1) 10).toNatClampNeg)), none] [] ⟨d_X_takeWhatWasHeard_56, d_X_takeWhatWasHeard_57, d_X_takeWhatWasHeard_58, trivial⟩ (show tv_run _ _ _ _ = some (60, [some (.ref 1), some (.int l1), some (.int (σ.1 ((11 + 17 * l1.toNatClampNeg) + 1) 10)), some (.ref (11 + 17 * l1.toNatClampNeg)), some (.ref (11 + 17 * (σ.1 ((11 + 17 * l1.toNatClampNeg) + 1) 10).toNatClampNeg)), none], [.ref (11 + 17 * (σ.1 ((11 + 17 * l1.toNatClampNeg) + 1) 10).toNatClampNeg), .ref (11 + 17 * l1.toNatClampNeg), .ref 1]) from rfl) ?_
          obtain ⟨q9, hq9, hf⟩ := tm_bd hf
          refine V.callV hC tm_nest rfl (c_X_takeAck σ (11 + 17 * l1.toNatClampNeg) (11 + 17 * (σ.1 ((11 + 17 * l1.toNatClampNeg) + 1) 10).toNatClampNeg) (kd_nodes hb2) (kd_nodes hb3) hq9) (tm_gd tc_X_takeAck) tg_X_230 th_X_takeAck ⟨tm_le rfl, tm_le rfl, tm_le rfl, tm_le rfl⟩ rfl (kd_in kd_1 (by decide)) (hp_at kd_1) (As := [.ref (11 + 17 * l1.toNatClampNeg), .ref (11 + 17 * (σ.1 ((11 + 17 * l1.toNatClampNeg) + 1) 10).toNatClampNeg)]) (st := []) rfl (tm_le rfl) d_X_takeWhatWasHeard_60 ?_
          rintro v n2 h2 ⟨rfl, rfl, rfl⟩
          show V X 0 0 tm_n (hp q9) 63 [some (.ref 1), some (.int l1), some (.int (σ.1 ((11 + 17 * l1.toNatClampNeg) + 1) 10)), some (.ref (11 + 17 * l1.toNatClampNeg)), some (.ref (11 + 17 * (σ.1 ((11 + 17 * l1.toNatClampNeg) + 1) 10).toNatClampNeg)), none] []
          refine V.goto hC d_X_takeWhatWasHeard_63 (tgt := 132) (by decide) ?_
          exact V.less (tv_le_some (tv_le_some (tv_le_none (tv_le_none (tv_le_none (tv_le_none tv_le_nil)))))) (c_X_takeWhatWasHeard_L132 hC hr hE hrc q9 l1  hf)
      · rw [if_pos hc] at hf
        refine V.goto hC d_X_takeWhatWasHeard_26 (tgt := 132) (by decide) ?_
        exact V.less (tv_le_some (tv_le_some (tv_le_none (tv_le_none (tv_le_none (tv_le_none tv_le_nil)))))) (c_X_takeWhatWasHeard_L132 hC hr hE hrc σ l1  hf)
set_option maxHeartbeats 4000000 in
set_option maxRecDepth 100000 in
theorem c_X_takeWhatWasHeard (σ : tm_S)   {r : tm_S} (hf : f_X_takeWhatWasHeard σ  = some r) : tv_Met ty_X_takeWhatWasHeard (Cond.code ty_X_takeWhatWasHeard tb_X_takeWhatWasHeard 6 none :: tm_wg) tm_ns tm_cl tm_ty 5 122 0 0 [.ref 1] tm_n (hp σ) (tm_P none r) := by
  refine tv_Met.of (by decide) rfl (tm_le rfl) ?_
  intro X hC hnm hr hE
  have hC : tv_K X tb_X_takeWhatWasHeard 6 "TrickleMesh" tm_wg tm_ns tm_cl tm_ty { frames := 5, cells := 0, slots := 0, locals := 122 } := hC
  show V X 0 0 tm_n (hp σ) 0 [some (.ref 1), none, none, none, none, none] []
  unfold f_X_takeWhatWasHeard at hf
  refine V.blk hC [(.iconst 0, 1), (.istore_n 1, 1)] 0 [some (.ref 1), none, none, none, none, none] [] ⟨d_X_takeWhatWasHeard_0, d_X_takeWhatWasHeard_1, trivial⟩ (show tv_run _ _ _ _ = some (2, [some (.ref 1), some (.int (0 : Int32)), none, none, none, none], []) from rfl) ?_
  exact V.less (tv_le_some (tv_le_some (tv_le_none (tv_le_none (tv_le_none (tv_le_none tv_le_nil)))))) (c_X_takeWhatWasHeard_L2 hC hr hE tm_fu σ (0 : Int32)  hf)
set_option maxHeartbeats 4000000 in
set_option maxRecDepth 100000 in
theorem c_X_settleWhatWasOnTheAir_L55 {X : tv_X} {r : tm_S} (hC : tv_K X tb_X_settleWhatWasOnTheAir 3 "TrickleMesh" tm_wg tm_ns tm_cl tm_ty { frames := 2, cells := 0, slots := 0, locals := 44 }) (hr : tv_ret X none) (hE : tv_end X (tm_P none r) 0 0) {rc : tm_S → Int32 → Option (tm_S)} (hrc : ∀ (σ : tm_S) (l1 : Int32), rc σ l1 = some r → V X 0 0 tm_n (hp σ) 2 [some (.ref 1), some (.int l1), none] []) (σ : tm_S) (l1 : Int32)  (hf : f_X_settleWhatWasOnTheAir_L55 rc σ l1 = some r) : V X 0 0 tm_n (hp σ) 55 [some (.ref 1), some (.int l1), none] [] := by
  unfold f_X_settleWhatWasOnTheAir_L55 at hf
  refine V.blk hC [(.iinc 1 1, 3)] 55 [some (.ref 1), some (.int l1), none] [] ⟨d_X_settleWhatWasOnTheAir_55, trivial⟩ (show tv_run _ _ _ _ = some (58, [some (.ref 1), some (.int (l1 + (1 : Int32))), none], []) from rfl) ?_
  refine V.goto hC d_X_settleWhatWasOnTheAir_58 (tgt := 2) (by decide) ?_
  exact V.less (tv_le_some (tv_le_some (tv_le_none tv_le_nil))) (hrc σ (l1 + (1 : Int32))  hf)
set_option maxHeartbeats 4000000 in
set_option maxRecDepth 100000 in
theorem c_X_settleWhatWasOnTheAir_L2 {X : tv_X} {r : tm_S} (hC : tv_K X tb_X_settleWhatWasOnTheAir 3 "TrickleMesh" tm_wg tm_ns tm_cl tm_ty { frames := 2, cells := 0, slots := 0, locals := 44 }) (hr : tv_ret X none) (hE : tv_end X (tm_P none r) 0 0) : ∀ (k : Nat) (σ : tm_S) (l1 : Int32), f_X_settleWhatWasOnTheAir_L2 k σ l1 = some r → V X 0 0 tm_n (hp σ) 2 [some (.ref 1), some (.int l1), none] [] := by
  intro k
  induction k with
  | zero => intro σ l1  hf; simp only [f_X_settleWhatWasOnTheAir_L2] at hf; cases hf
  | succ k hrc =>
    intro σ l1  hf
    rw [f_X_settleWhatWasOnTheAir_L2] at hf
    refine V.blk hC [(.iload_n 1, 1), (.bipush 7, 2)] 2 [some (.ref 1), some (.int l1), none] [] ⟨d_X_settleWhatWasOnTheAir_2, d_X_settleWhatWasOnTheAir_3, trivial⟩ (show tv_run _ _ _ _ = some (5, [some (.ref 1), some (.int l1), none], [.int (7 : Int32), .int l1]) from rfl) ?_
    refine V.icmp_ge hC d_X_settleWhatWasOnTheAir_5 (tgt := 61) (by decide) (fun hc => ?_) (fun hc => ?_)
    · rw [if_pos hc] at hf
      obtain rfl := Option.some.inj hf
      exact V.vret hC hr hE d_X_settleWhatWasOnTheAir_61 ⟨rfl, rfl, rfl⟩
    · rw [if_neg hc] at hf
      refine V.blk hC [(.aload_n 0, 1)] 8 [some (.ref 1), some (.int l1), none] [] ⟨d_X_settleWhatWasOnTheAir_8, trivial⟩ (show tv_run _ _ _ _ = some (9, [some (.ref 1), some (.int l1), none], [.ref 1]) from rfl) ?_
      refine V.getf hC tf_X_11 (kd_in kd_1 (by decide)) (hp_at kd_1) rfl d_X_settleWhatWasOnTheAir_9 ?_
      show V X 0 0 tm_n (hp σ) 12 [some (.ref 1), some (.int l1), none] [.ref 2]
      refine V.blk hC [(.iload_n 1, 1)] 12 [some (.ref 1), some (.int l1), none] [.ref 2] ⟨d_X_settleWhatWasOnTheAir_12, trivial⟩ (show tv_run _ _ _ _ = some (13, [some (.ref 1), some (.int l1), none], [.int l1, .ref 2]) from rfl) ?_
      obtain ⟨hb1, hf⟩ := tm_if hf
      refine V.aald hC (kd_in kd_2 (by decide)) (hp_at kd_2) rfl rfl hb1 d_X_settleWhatWasOnTheAir_13 ?_
      show V X 0 0 tm_n (hp σ) 14 [some (.ref 1), some (.int l1), none] [.ref (11 + 17 * l1.toNatClampNeg)]
      refine V.getf hC tf_X_69 (kd_in (kd_nodes hb1) (by decide)) (hp_at (kd_nodes hb1)) rfl d_X_settleWhatWasOnTheAir_14 ?_
      show V X 0 0 tm_n (hp σ) 17 [some (.ref 1), some (.int l1), none] [.ref ((11 + 17 * l1.toNatClampNeg) + 1)]
      refine V.blk hC [(.astore_n 2, 1), (.aload_n 2, 1)] 17 [some (.ref 1), some (.int l1), none] [.ref ((11 + 17 * l1.toNatClampNeg) + 1)] ⟨d_X_settleWhatWasOnTheAir_17, d_X_settleWhatWasOnTheAir_18, trivial⟩ (show tv_run _ _ _ _ = some (19, [some (.ref 1), some (.int l1), some (.ref ((11 + 17 * l1.toNatClampNeg) + 1))], [.ref ((11 + 17 * l1.toNatClampNeg) + 1)]) from rfl) ?_
      refine V.getf hC tf_X_205 (kd_in (kd_5_6 (kd_nodes hb1)) (by decide)) (hp_at (kd_5_6 (kd_nodes hb1))) rfl d_X_settleWhatWasOnTheAir_19 ?_
      show V X 0 0 tm_n (hp σ) 22 [some (.ref 1), some (.int l1), some (.ref ((11 + 17 * l1.toNatClampNeg) + 1))] [.int (σ.1 ((11 + 17 * l1.toNatClampNeg) + 1) 5)]
      refine V.blk hC [(.iconst 2, 1)] 22 [some (.ref 1), some (.int l1), some (.ref ((11 + 17 * l1.toNatClampNeg) + 1))] [.int (σ.1 ((11 + 17 * l1.toNatClampNeg) + 1) 5)] ⟨d_X_settleWhatWasOnTheAir_22, trivial⟩ (show tv_run _ _ _ _ = some (23, [some (.ref 1), some (.int l1), some (.ref ((11 + 17 * l1.toNatClampNeg) + 1))], [.int (2 : Int32), .int (σ.1 ((11 + 17 * l1.toNatClampNeg) + 1) 5)]) from rfl) ?_
      refine V.icmp_eq hC d_X_settleWhatWasOnTheAir_23 (tgt := 29) (by decide) (fun hc => ?_) (fun hc => ?_)
      · rw [if_pos hc] at hf
        refine V.blk hC [(.aload_n 2, 1)] 29 [some (.ref 1), some (.int l1), some (.ref ((11 + 17 * l1.toNatClampNeg) + 1))] [] ⟨d_X_settleWhatWasOnTheAir_29, trivial⟩ (show tv_run _ _ _ _ = some (30, [some (.ref 1), some (.int l1), some (.ref ((11 + 17 * l1.toNatClampNeg) + 1))], [.ref ((11 + 17 * l1.toNatClampNeg) + 1)]) from rfl) ?_
        refine V.getf hC tf_X_169 (kd_in (kd_5_6 (kd_nodes hb1)) (by decide)) (hp_at (kd_5_6 (kd_nodes hb1))) rfl d_X_settleWhatWasOnTheAir_30 ?_
        show V X 0 0 tm_n (hp σ) 33 [some (.ref 1), some (.int l1), some (.ref ((11 + 17 * l1.toNatClampNeg) + 1))] [.ref (((11 + 17 * l1.toNatClampNeg) + 1) + 1)]
        refine V.blk hC [(.iconst 0, 1)] 33 [some (.ref 1), some (.int l1), some (.ref ((11 + 17 * l1.toNatClampNeg) + 1))] [.ref (((11 + 17 * l1.toNatClampNeg) + 1) + 1)] ⟨d_X_settleWhatWasOnTheAir_33, trivial⟩ (show tv_run _ _ _ _ = some (34, [some (.ref 1), some (.int l1), some (.ref ((11 + 17 * l1.toNatClampNeg) + 1))], [.int (0 : Int32), .ref (((11 + 17 * l1.toNatClampNeg) + 1) + 1)]) from rfl) ?_
        obtain ⟨r3, hr3, hf⟩ := tm_ww hf
        obtain ⟨hk2, hf⟩ := tm_if hf
        refine V.aald hC (kd_in (kd_6_7 (kd_5_6 (kd_nodes hb1))) (by decide)) (hp_at (kd_6_7 (kd_5_6 (kd_nodes hb1)))) rfl rfl (show ¬ ((0 : Int32) < 0 ∨ 4 ≤ (0 : Int32).toNatClampNeg) from by decide) d_X_settleWhatWasOnTheAir_34 ?_
        show V X 0 0 tm_n (hp σ) 35 [some (.ref 1), some (.int l1), some (.ref ((11 + 17 * l1.toNatClampNeg) + 1))] [.ref (σ.2 (((11 + 17 * l1.toNatClampNeg) + 1) + 1) (0 : Int32).toNatClampNeg)]
        rw [← hr3]
        refine V.getf hC tf_X_184 (kd_in hk2 (by decide)) (hp_at hk2) rfl d_X_settleWhatWasOnTheAir_35 ?_
        show V X 0 0 tm_n (hp σ) 38 [some (.ref 1), some (.int l1), some (.ref ((11 + 17 * l1.toNatClampNeg) + 1))] [.int (σ.1 r3 2)]
        refine V.blk hC [(.iconst (-1), 1)] 38 [some (.ref 1), some (.int l1), some (.ref ((11 + 17 * l1.toNatClampNeg) + 1))] [.int (σ.1 r3 2)] ⟨d_X_settleWhatWasOnTheAir_38, trivial⟩ (show tv_run _ _ _ _ = some (39, [some (.ref 1), some (.int l1), some (.ref ((11 + 17 * l1.toNatClampNeg) + 1))], [.int (-1 : Int32), .int (σ.1 r3 2)]) from rfl) ?_
        refine V.icmp_ne hC d_X_settleWhatWasOnTheAir_39 (tgt := 50) (by decide) (fun hc => ?_) (fun hc => ?_)
        · rw [if_neg hc] at hf
          refine V.blk hC [(.aload_n 2, 1), (.iconst 1, 1)] 50 [some (.ref 1), some (.int l1), some (.ref ((11 + 17 * l1.toNatClampNeg) + 1))] [] ⟨d_X_settleWhatWasOnTheAir_50, d_X_settleWhatWasOnTheAir_51, trivial⟩ (show tv_run _ _ _ _ = some (52, [some (.ref 1), some (.int l1), some (.ref ((11 + 17 * l1.toNatClampNeg) + 1))], [.int (1 : Int32), .ref ((11 + 17 * l1.toNatClampNeg) + 1)]) from rfl) ?_
          obtain ⟨σ4, hσ4, hf⟩ := tm_ww hf
          refine V.seti hC tf_X_81 tt_R to_R tn_R rfl (by decide +kernel) (tm_fz (by decide)) (kd_5_6 (kd_nodes hb1)) (kd_in (kd_5_6 (kd_nodes hb1)) (by decide)) rfl rfl (tm_le rfl) d_X_settleWhatWasOnTheAir_52 ?_
          rw [← hσ4]
          exact V.less (tv_le_some (tv_le_some (tv_le_none tv_le_nil))) (c_X_settleWhatWasOnTheAir_L55 hC hr hE hrc σ4 l1  hf)
        · rw [if_pos hc] at hf
          refine V.blk hC [(.aload_n 0, 1), (.aload_n 2, 1)] 42 [some (.ref 1), some (.int l1), some (.ref ((11 + 17 * l1.toNatClampNeg) + 1))] [] ⟨d_X_settleWhatWasOnTheAir_42, d_X_settleWhatWasOnTheAir_43, trivial⟩ (show tv_run _ _ _ _ = some (44, [some (.ref 1), some (.int l1), some (.ref ((11 + 17 * l1.toNatClampNeg) + 1))], [.ref ((11 + 17 * l1.toNatClampNeg) + 1), .ref 1]) from rfl) ?_
          obtain ⟨q5, hq5, hf⟩ := tm_bd hf
          refine V.callV hC tm_nest rfl (c_X_removeFirst σ ((11 + 17 * l1.toNatClampNeg) + 1) (kd_5_6 (kd_nodes hb1)) hq5) (tm_gd tc_X_removeFirst) tg_X_198 th_X_removeFirst ⟨tm_le rfl, tm_le rfl, tm_le rfl, tm_le rfl⟩ rfl (kd_in kd_1 (by decide)) (hp_at kd_1) (As := [.ref ((11 + 17 * l1.toNatClampNeg) + 1)]) (st := []) rfl (tm_le rfl) d_X_settleWhatWasOnTheAir_44 ?_
          rintro v n2 h2 ⟨rfl, rfl, rfl⟩
          show V X 0 0 tm_n (hp q5) 47 [some (.ref 1), some (.int l1), some (.ref ((11 + 17 * l1.toNatClampNeg) + 1))] []
          refine V.goto hC d_X_settleWhatWasOnTheAir_47 (tgt := 55) (by decide) ?_
          exact V.less (tv_le_some (tv_le_some (tv_le_none tv_le_nil))) (c_X_settleWhatWasOnTheAir_L55 hC hr hE hrc q5 l1  hf)
      · rw [if_neg hc] at hf
        refine V.goto hC d_X_settleWhatWasOnTheAir_26 (tgt := 55) (by decide) ?_
        exact V.less (tv_le_some (tv_le_some (tv_le_none tv_le_nil))) (c_X_settleWhatWasOnTheAir_L55 hC hr hE hrc σ l1  hf)
