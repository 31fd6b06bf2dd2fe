set_option maxHeartbeats 4000000 in
set_option maxRecDepth 100000 in
theorem c_X_takeVersion_L18 {X : tv_X} {r : tm_S} (hC : tv_K X tb_X_takeVersion 4 "TrickleMesh" tm_wg tm_ns tm_cl tm_ty { frames := 3, cells := 0, slots := 0, locals := 65 }) (hr : tv_ret X none) (hE : tv_end X (tm_P none r) 0 0) (σ : tm_S) (l1 : Nat) (l2 : Int32) (kl1 : kd l1 = 5) (hf : f_X_takeVersion_L18 σ l1 l2 = some r) : V X 0 0 tm_n (hp σ) 18 [some (.ref 1), some (.ref l1), some (.int l2), none] [] := by
  unfold f_X_takeVersion_L18 at hf
  refine V.blk hC [(.iconst 1, 1)] 18 [some (.ref 1), some (.ref l1), some (.int l2), none] [] ⟨d_X_takeVersion_18, trivial⟩ (show tv_run _ _ _ _ = some (19, [some (.ref 1), some (.ref l1), some (.int l2), none], [.int (1 : Int32)]) from rfl) ?_
  refine V.goto hC d_X_takeVersion_19 (tgt := 23) (by decide) ?_
  exact V.less (tv_le_some (tv_le_some (tv_le_some (tv_le_none tv_le_nil)))) (c_X_takeVersion_L23 hC hr hE σ l1 l2 (1 : Int32) kl1 hf)
set_option maxHeartbeats 4000000 in
set_option maxRecDepth 100000 in
theorem c_X_takeVersion (σ : tm_S) (a1 : Nat) (a2 : Int32) (k1 : kd a1 = 5) {r : tm_S} (hf : f_X_takeVersion σ a1 a2 = some r) : tv_Met ty_X_takeVersion (Cond.code ty_X_takeVersion tb_X_takeVersion 4 none :: tm_wg) tm_ns tm_cl tm_ty 3 65 0 0 [.ref 1, .ref a1, .int a2] tm_n (hp σ) (tm_P none r) := by
  refine tv_Met.of (by decide) rfl (tm_le rfl) ?_
  intro X hC hnm hr hE
  have hC : tv_K X tb_X_takeVersion 4 "TrickleMesh" tm_wg tm_ns tm_cl tm_ty { frames := 3, cells := 0, slots := 0, locals := 65 } := hC
  show V X 0 0 tm_n (hp σ) 0 [some (.ref 1), some (.ref a1), some (.int a2), none] []
  unfold f_X_takeVersion at hf
  refine V.blk hC [(.aload_n 1, 1)] 0 [some (.ref 1), some (.ref a1), some (.int a2), none] [] ⟨d_X_takeVersion_0, trivial⟩ (show tv_run _ _ _ _ = some (1, [some (.ref 1), some (.ref a1), some (.int a2), none], [.ref a1]) from rfl) ?_
  refine V.getf hC tf_X_115 (kd_in k1 (by decide)) (hp_at k1) rfl d_X_takeVersion_1 ?_
  show V X 0 0 tm_n (hp σ) 4 [some (.ref 1), some (.ref a1), some (.int a2), none] [.int (σ.1 a1 12)]
  refine V.blk hC [(.iconst (-1), 1)] 4 [some (.ref 1), some (.ref a1), some (.int a2), none] [.int (σ.1 a1 12)] ⟨d_X_takeVersion_4, trivial⟩ (show tv_run _ _ _ _ = some (5, [some (.ref 1), some (.ref a1), some (.int a2), none], [.int (-1 : Int32), .int (σ.1 a1 12)]) from rfl) ?_
  refine V.icmp_ne hC d_X_takeVersion_5 (tgt := 18) (by decide) (fun hc => ?_) (fun hc => ?_)
  · rw [if_neg hc] at hf
    exact V.less (tv_le_some (tv_le_some (tv_le_some (tv_le_none tv_le_nil)))) (c_X_takeVersion_L18 hC hr hE σ a1 a2 k1 hf)
  · rw [if_pos hc] at hf
    refine V.blk hC [(.aload_n 1, 1)] 8 [some (.ref 1), some (.ref a1), some (.int a2), none] [] ⟨d_X_takeVersion_8, trivial⟩ (show tv_run _ _ _ _ = some (9, [some (.ref 1), some (.ref a1), some (.int a2), none], [.ref a1]) from rfl) ?_
    refine V.getf hC tf_X_45 (kd_in k1 (by decide)) (hp_at k1) rfl d_X_takeVersion_9 ?_
    show V X 0 0 tm_n (hp σ) 12 [some (.ref 1), some (.ref a1), some (.int a2), none] [.int (σ.1 a1 11)]
    refine V.blk hC [(.sipush 255, 3)] 12 [some (.ref 1), some (.ref a1), some (.int a2), none] [.int (σ.1 a1 11)] ⟨d_X_takeVersion_12, trivial⟩ (show tv_run _ _ _ _ = some (15, [some (.ref 1), some (.ref a1), some (.int a2), none], [.int (255 : Int32), .int (σ.1 a1 11)]) from rfl) ?_
    refine V.icmp_eq hC d_X_takeVersion_15 (tgt := 22) (by decide) (fun hc => ?_) (fun hc => ?_)
    · rw [if_pos hc] at hf
      refine V.blk hC [(.iconst 0, 1)] 22 [some (.ref 1), some (.ref a1), some (.int a2), none] [] ⟨d_X_takeVersion_22, trivial⟩ (show tv_run _ _ _ _ = some (23, [some (.ref 1), some (.ref a1), some (.int a2), none], [.int (0 : Int32)]) from rfl) ?_
      exact V.less (tv_le_some (tv_le_some (tv_le_some (tv_le_none tv_le_nil)))) (c_X_takeVersion_L23 hC hr hE σ a1 a2 (0 : Int32) k1 hf)
    · rw [if_neg hc] at hf
      exact V.less (tv_le_some (tv_le_some (tv_le_some (tv_le_none tv_le_nil)))) (c_X_takeVersion_L18 hC hr hE σ a1 a2 k1 hf)
set_option maxHeartbeats 4000000 in
set_option maxRecDepth 100000 in
theorem c_X_takeAdvert_L80 {X : tv_X} {r : tm_S} (hC : tv_K X tb_X_takeAdvert 5 "TrickleMesh" tm_wg tm_ns tm_cl tm_ty { frames := 4, cells := 0, slots := 0, locals := 96 }) (hr : tv_ret X none) (hE : tv_end X (tm_P none r) 0 0) (σ : tm_S) (l1 : Nat) (l3 : Int32) (l4 : Int32) (kl1 : kd l1 = 5) (hf : f_X_takeAdvert_L80 σ l1 l3 l4 = some r) : V X 0 0 tm_n (hp σ) 80 [some (.ref 1), some (.ref l1), none, some (.int l3), some (.int l4)] [] := by
  unfold f_X_takeAdvert_L80 at hf
  refine V.blk hC [(.aload_n 1, 1)] 80 [some (.ref 1), some (.ref l1), none, some (.int l3), some (.int l4)] [] ⟨d_X_takeAdvert_80, trivial⟩ (show tv_run _ _ _ _ = some (81, [some (.ref 1), some (.ref l1), none, some (.int l3), some (.int l4)], [.ref l1]) from rfl) ?_
  refine V.getf hC tf_X_45 (kd_in kl1 (by decide)) (hp_at kl1) rfl d_X_takeAdvert_81 ?_
  show V X 0 0 tm_n (hp σ) 84 [some (.ref 1), some (.ref l1), none, some (.int l3), some (.int l4)] [.int (σ.1 l1 11)]
  refine V.blk hC [(.iload_n 3, 1)] 84 [some (.ref 1), some (.ref l1), none, some (.int l3), some (.int l4)] [.int (σ.1 l1 11)] ⟨d_X_takeAdvert_84, trivial⟩ (show tv_run _ _ _ _ = some (85, [some (.ref 1), some (.ref l1), none, some (.int l3), some (.int l4)], [.int l3, .int (σ.1 l1 11)]) from rfl) ?_
  refine V.icmp_ne hC d_X_takeAdvert_85 (tgt := 110) (by decide) (fun hc => ?_) (fun hc => ?_)
  · rw [if_neg hc] at hf
    obtain rfl := Option.some.inj hf
    exact V.vret hC hr hE d_X_takeAdvert_110 ⟨rfl, rfl, rfl⟩
  · rw [if_pos hc] at hf
    refine V.blk hC [(.aload_n 1, 1)] 88 [some (.ref 1), some (.ref l1), none, some (.int l3), some (.int l4)] [] ⟨d_X_takeAdvert_88, trivial⟩ (show tv_run _ _ _ _ = some (89, [some (.ref 1), some (.ref l1), none, some (.int l3), some (.int l4)], [.ref l1]) from rfl) ?_
    refine V.getf hC tf_X_115 (kd_in kl1 (by decide)) (hp_at kl1) rfl d_X_takeAdvert_89 ?_
    show V X 0 0 tm_n (hp σ) 92 [some (.ref 1), some (.ref l1), none, some (.int l3), some (.int l4)] [.int (σ.1 l1 12)]
    refine V.blk hC [(.iload 4, 2)] 92 [some (.ref 1), some (.ref l1), none, some (.int l3), some (.int l4)] [.int (σ.1 l1 12)] ⟨d_X_takeAdvert_92, trivial⟩ (show tv_run _ _ _ _ = some (94, [some (.ref 1), some (.ref l1), none, some (.int l3), some (.int l4)], [.int l4, .int (σ.1 l1 12)]) from rfl) ?_
    refine V.icmp_ne hC d_X_takeAdvert_94 (tgt := 110) (by decide) (fun hc => ?_) (fun hc => ?_)
    · rw [if_neg hc] at hf
      obtain rfl := Option.some.inj hf
      exact V.vret hC hr hE d_X_takeAdvert_110 ⟨rfl, rfl, rfl⟩
    · rw [if_pos hc] at hf
      refine V.blk hC [(.aload_n 1, 1)] 97 [some (.ref 1), some (.ref l1), none, some (.int l3), some (.int l4)] [] ⟨d_X_takeAdvert_97, trivial⟩ (show tv_run _ _ _ _ = some (98, [some (.ref 1), some (.ref l1), none, some (.int l3), some (.int l4)], [.ref l1]) from rfl) ?_
      refine V.getf hC tf_X_48 (kd_in kl1 (by decide)) (hp_at kl1) rfl d_X_takeAdvert_98 ?_
      show V X 0 0 tm_n (hp σ) 101 [some (.ref 1), some (.ref l1), none, some (.int l3), some (.int l4)] [.ref (l1 + 11)]
      refine V.blk hC [(.dup, 1)] 101 [some (.ref 1), some (.ref l1), none, some (.int l3), some (.int l4)] [.ref (l1 + 11)] ⟨d_X_takeAdvert_101, trivial⟩ (show tv_run _ _ _ _ = some (102, [some (.ref 1), some (.ref l1), none, some (.int l3), some (.int l4)], [.ref (l1 + 11), .ref (l1 + 11)]) from rfl) ?_
      refine V.getf hC tf_X_124 (kd_in (kd_5_9 kl1) (by decide)) (hp_at (kd_5_9 kl1)) rfl d_X_takeAdvert_102 ?_
      show V X 0 0 tm_n (hp σ) 105 [some (.ref 1), some (.ref l1), none, some (.int l3), some (.int l4)] [.int (σ.1 (l1 + 11) 4), .ref (l1 + 11)]
      refine V.blk hC [(.iconst 1, 1), (.iadd, 1)] 105 [some (.ref 1), some (.ref l1), none, some (.int l3), some (.int l4)] [.int (σ.1 (l1 + 11) 4), .ref (l1 + 11)] ⟨d_X_takeAdvert_105, d_X_takeAdvert_106, trivial⟩ (show tv_run _ _ _ _ = some (107, [some (.ref 1), some (.ref l1), none, some (.int l3), some (.int l4)], [.int ((σ.1 (l1 + 11) 4) + (1 : Int32)), .ref (l1 + 11)]) from rfl) ?_
      obtain ⟨σ6, hσ6, hf⟩ := tm_ww hf
      refine V.seti hC tf_X_124 tt_T to_T tn_T rfl (by decide +kernel) tm_fi (kd_5_9 kl1) (kd_in (kd_5_9 kl1) (by decide)) rfl rfl (tm_le rfl) d_X_takeAdvert_107 ?_
      rw [← hσ6]
      obtain rfl := Option.some.inj hf
      exact V.vret hC hr hE d_X_takeAdvert_110 ⟨rfl, rfl, rfl⟩
set_option maxHeartbeats 4000000 in
set_option maxRecDepth 100000 in
theorem c_X_takeAdvert_L44 {X : tv_X} {r : tm_S} (hC : tv_K X tb_X_takeAdvert 5 "TrickleMesh" tm_wg tm_ns tm_cl tm_ty { frames := 4, cells := 0, slots := 0, locals := 96 }) (hr : tv_ret X none) (hE : tv_end X (tm_P none r) 0 0) (σ : tm_S) (l1 : Nat) (l2 : Nat) (kl1 : kd l1 = 5) (kl2 : kd l2 = 5) (hf : f_X_takeAdvert_L44 σ l1 l2 = some r) : V X 0 0 tm_n (hp σ) 44 [some (.ref 1), some (.ref l1), some (.ref l2), none, none] [] := by
  unfold f_X_takeAdvert_L44 at hf
  refine V.blk hC [(.aload_n 1, 1)] 44 [some (.ref 1), some (.ref l1), some (.ref l2), none, none] [] ⟨d_X_takeAdvert_44, trivial⟩ (show tv_run _ _ _ _ = some (45, [some (.ref 1), some (.ref l1), some (.ref l2), none, none], [.ref l1]) from rfl) ?_
  refine V.getf hC tf_X_150 (kd_in kl1 (by decide)) (hp_at kl1) rfl d_X_takeAdvert_45 ?_
  show V X 0 0 tm_n (hp σ) 48 [some (.ref 1), some (.ref l1), some (.ref l2), none, none] [.ref (l1 + 12)]
  refine V.blk hC [(.aload_n 2, 1)] 48 [some (.ref 1), some (.ref l1), some (.ref l2), none, none] [.ref (l1 + 12)] ⟨d_X_takeAdvert_48, trivial⟩ (show tv_run _ _ _ _ = some (49, [some (.ref 1), some (.ref l1), some (.ref l2), none, none], [.ref l2, .ref (l1 + 12)]) from rfl) ?_
  refine V.getf hC tf_X_221 (kd_in kl2 (by decide)) (hp_at kl2) rfl d_X_takeAdvert_49 ?_
  show V X 0 0 tm_n (hp σ) 52 [some (.ref 1), some (.ref l1), some (.ref l2), none, none] [.int (σ.1 l2 0), .ref (l1 + 12)]
  refine V.blk hC [(.aload_n 2, 1)] 52 [some (.ref 1), some (.ref l1), some (.ref l2), none, none] [.int (σ.1 l2 0), .ref (l1 + 12)] ⟨d_X_takeAdvert_52, trivial⟩ (show tv_run _ _ _ _ = some (53, [some (.ref 1), some (.ref l1), some (.ref l2), none, none], [.ref l2, .int (σ.1 l2 0), .ref (l1 + 12)]) from rfl) ?_
  refine V.getf hC tf_X_45 (kd_in kl2 (by decide)) (hp_at kl2) rfl d_X_takeAdvert_53 ?_
  show V X 0 0 tm_n (hp σ) 56 [some (.ref 1), some (.ref l1), some (.ref l2), none, none] [.int (σ.1 l2 11), .int (σ.1 l2 0), .ref (l1 + 12)]
  obtain ⟨hb3, hf⟩ := tm_if hf
  obtain ⟨σ4, hσ4, hf⟩ := tm_ww hf
  refine V.seta hC (kd_5_12 kl1) (kd_in (kd_5_12 kl1) (by decide)) rfl rfl rfl hb3 d_X_takeAdvert_56 ?_
  rw [← hσ4]
  refine V.blk hC [(.aload_n 1, 1)] 57 [some (.ref 1), some (.ref l1), some (.ref l2), none, none] [] ⟨d_X_takeAdvert_57, trivial⟩ (show tv_run _ _ _ _ = some (58, [some (.ref 1), some (.ref l1), some (.ref l2), none, none], [.ref l1]) from rfl) ?_
  refine V.getf hC tf_X_45 (kd_in kl1 (by decide)) (hp_at kl1) rfl d_X_takeAdvert_58 ?_
  show V X 0 0 tm_n (hp σ4) 61 [some (.ref 1), some (.ref l1), some (.ref l2), none, none] [.int (σ4.1 l1 11)]
  refine V.blk hC [(.istore_n 3, 1), (.aload_n 1, 1)] 61 [some (.ref 1), some (.ref l1), some (.ref l2), none, none] [.int (σ4.1 l1 11)] ⟨d_X_takeAdvert_61, d_X_takeAdvert_62, trivial⟩ (show tv_run _ _ _ _ = some (63, [some (.ref 1), some (.ref l1), some (.ref l2), some (.int (σ4.1 l1 11)), none], [.ref l1]) from rfl) ?_
  refine V.getf hC tf_X_115 (kd_in kl1 (by decide)) (hp_at kl1) rfl d_X_takeAdvert_63 ?_
  show V X 0 0 tm_n (hp σ4) 66 [some (.ref 1), some (.ref l1), some (.ref l2), some (.int (σ4.1 l1 11)), none] [.int (σ4.1 l1 12)]
  refine V.blk hC [(.istore 4, 2), (.aload_n 1, 1)] 66 [some (.ref 1), some (.ref l1), some (.ref l2), some (.int (σ4.1 l1 11)), none] [.int (σ4.1 l1 12)] ⟨d_X_takeAdvert_66, d_X_takeAdvert_68, trivial⟩ (show tv_run _ _ _ _ = some (69, [some (.ref 1), some (.ref l1), some (.ref l2), some (.int (σ4.1 l1 11)), some (.int (σ4.1 l1 12))], [.ref l1]) from rfl) ?_
  refine V.getf hC tf_X_221 (kd_in kl1 (by decide)) (hp_at kl1) rfl d_X_takeAdvert_69 ?_
  show V X 0 0 tm_n (hp σ4) 72 [some (.ref 1), some (.ref l1), some (.ref l2), some (.int (σ4.1 l1 11)), some (.int (σ4.1 l1 12))] [.int (σ4.1 l1 0)]
  refine V.if_eq hC d_X_takeAdvert_72 (tgt := 80) (by decide) (fun hc => ?_) (fun hc => ?_)
  · rw [if_pos hc] at hf
    exact V.less (tv_le_some (tv_le_some (tv_le_none (tv_le_some (tv_le_some tv_le_nil))))) (c_X_takeAdvert_L80 hC hr hE σ4 l1 (σ4.1 l1 11) (σ4.1 l1 12) kl1 hf)
  · rw [if_neg hc] at hf
    refine V.blk hC [(.aload_n 0, 1), (.aload_n 1, 1)] 75 [some (.ref 1), some (.ref l1), some (.ref l2), some (.int (σ4.1 l1 11)), some (.int (σ4.1 l1 12))] [] ⟨d_X_takeAdvert_75, d_X_takeAdvert_76, trivial⟩ (show tv_run _ _ _ _ = some (77, [some (.ref 1), some (.ref l1), some (.ref l2), some (.int (σ4.1 l1 11)), some (.int (σ4.1 l1 12))], [.ref l1, .ref 1]) from rfl) ?_
    obtain ⟨q5, hq5, hf⟩ := tm_bd hf
    refine V.callV hC tm_nest rfl (c_X_choose σ4 l1 kl1 hq5) (tm_gd tc_X_choose) tg_X_202 th_X_choose ⟨tm_le rfl, tm_le rfl, tm_le rfl, tm_le rfl⟩ rfl (kd_in kd_1 (by decide)) (hp_at kd_1) (As := [.ref l1]) (st := []) rfl (tm_le rfl) d_X_takeAdvert_77 ?_
    rintro v n2 h2 ⟨rfl, rfl, rfl⟩
    show V X 0 0 tm_n (hp q5) 80 [some (.ref 1), some (.ref l1), some (.ref l2), some (.int (σ4.1 l1 11)), some (.int (σ4.1 l1 12))] []
    exact V.less (tv_le_some (tv_le_some (tv_le_none (tv_le_some (tv_le_some tv_le_nil))))) (c_X_takeAdvert_L80 hC hr hE q5 l1 (σ4.1 l1 11) (σ4.1 l1 12) kl1 hf)
set_option maxHeartbeats 4000000 in
set_option maxRecDepth 100000 in
theorem c_X_takeAdvert (σ : tm_S) (a1 : Nat) (a2 : Nat) (k1 : kd a1 = 5) (k2 : kd a2 = 5) {r : tm_S} (hf : f_X_takeAdvert σ a1 a2 = some r) : tv_Met ty_X_takeAdvert (Cond.code ty_X_takeAdvert tb_X_takeAdvert 5 none :: tm_wg) tm_ns tm_cl tm_ty 4 96 0 0 [.ref 1, .ref a1, .ref a2] tm_n (hp σ) (tm_P none r) := by
  refine tv_Met.of (by decide) rfl (tm_le rfl) ?_
  intro X hC hnm hr hE
  have hC : tv_K X tb_X_takeAdvert 5 "TrickleMesh" tm_wg tm_ns tm_cl tm_ty { frames := 4, cells := 0, slots := 0, locals := 96 } := hC
  show V X 0 0 tm_n (hp σ) 0 [some (.ref 1), some (.ref a1), some (.ref a2), none, none] []
  unfold f_X_takeAdvert at hf
  refine V.blk hC [(.aload_n 2, 1)] 0 [some (.ref 1), some (.ref a1), some (.ref a2), none, none] [] ⟨d_X_takeAdvert_0, trivial⟩ (show tv_run _ _ _ _ = some (1, [some (.ref 1), some (.ref a1), some (.ref a2), none, none], [.ref a2]) from rfl) ?_
  refine V.getf hC tf_X_42 (kd_in k2 (by decide)) (hp_at k2) rfl d_X_takeAdvert_1 ?_
  show V X 0 0 tm_n (hp σ) 4 [some (.ref 1), some (.ref a1), some (.ref a2), none, none] [.int (σ.1 a2 10)]
  refine V.blk hC [(.aload_n 1, 1)] 4 [some (.ref 1), some (.ref a1), some (.ref a2), none, none] [.int (σ.1 a2 10)] ⟨d_X_takeAdvert_4, trivial⟩ (show tv_run _ _ _ _ = some (5, [some (.ref 1), some (.ref a1), some (.ref a2), none, none], [.ref a1, .int (σ.1 a2 10)]) from rfl) ?_
  refine V.getf hC tf_X_42 (kd_in k1 (by decide)) (hp_at k1) rfl d_X_takeAdvert_5 ?_
  show V X 0 0 tm_n (hp σ) 8 [some (.ref 1), some (.ref a1), some (.ref a2), none, none] [.int (σ.1 a1 10), .int (σ.1 a2 10)]
  refine V.icmp_ge hC d_X_takeAdvert_8 (tgt := 17) (by decide) (fun hc => ?_) (fun hc => ?_)
  · rw [if_pos hc] at hf
    refine V.blk hC [(.aload_n 2, 1)] 17 [some (.ref 1), some (.ref a1), some (.ref a2), none, none] [] ⟨d_X_takeAdvert_17, trivial⟩ (show tv_run _ _ _ _ = some (18, [some (.ref 1), some (.ref a1), some (.ref a2), none, none], [.ref a2]) from rfl) ?_
    refine V.getf hC tf_X_42 (kd_in k2 (by decide)) (hp_at k2) rfl d_X_takeAdvert_18 ?_
    show V X 0 0 tm_n (hp σ) 21 [some (.ref 1), some (.ref a1), some (.ref a2), none, none] [.int (σ.1 a2 10)]
    refine V.blk hC [(.aload_n 1, 1)] 21 [some (.ref 1), some (.ref a1), some (.ref a2), none, none] [.int (σ.1 a2 10)] ⟨d_X_takeAdvert_21, trivial⟩ (show tv_run _ _ _ _ = some (22, [some (.ref 1), some (.ref a1), some (.ref a2), none, none], [.ref a1, .int (σ.1 a2 10)]) from rfl) ?_
    refine V.getf hC tf_X_42 (kd_in k1 (by decide)) (hp_at k1) rfl d_X_takeAdvert_22 ?_
    show V X 0 0 tm_n (hp σ) 25 [some (.ref 1), some (.ref a1), some (.ref a2), none, none] [.int (σ.1 a1 10), .int (σ.1 a2 10)]
    refine V.icmp_le hC d_X_takeAdvert_25 (tgt := 44) (by decide) (fun hc => ?_) (fun hc => ?_)
    · rw [if_pos hc] at hf
      exact V.less (tv_le_some (tv_le_some (tv_le_some (tv_le_none (tv_le_none tv_le_nil))))) (c_X_takeAdvert_L44 hC hr hE σ a1 a2 k1 k2 hf)
    · rw [if_neg hc] at hf
      refine V.blk hC [(.aload_n 1, 1)] 28 [some (.ref 1), some (.ref a1), some (.ref a2), none, none] [] ⟨d_X_takeAdvert_28, trivial⟩ (show tv_run _ _ _ _ = some (29, [some (.ref 1), some (.ref a1), some (.ref a2), none, none], [.ref a1]) from rfl) ?_
      refine V.getf hC tf_X_221 (kd_in k1 (by decide)) (hp_at k1) rfl d_X_takeAdvert_29 ?_
      show V X 0 0 tm_n (hp σ) 32 [some (.ref 1), some (.ref a1), some (.ref a2), none, none] [.int (σ.1 a1 0)]
      refine V.if_eq hC d_X_takeAdvert_32 (tgt := 44) (by decide) (fun hc => ?_) (fun hc => ?_)
      · rw [if_pos hc] at hf
        exact V.less (tv_le_some (tv_le_some (tv_le_some (tv_le_none (tv_le_none tv_le_nil))))) (c_X_takeAdvert_L44 hC hr hE σ a1 a2 k1 k2 hf)
      · rw [if_neg hc] at hf
        refine V.blk hC [(.aload_n 0, 1), (.aload_n 1, 1), (.aload_n 2, 1)] 35 [some (.ref 1), some (.ref a1), some (.ref a2), none, none] [] ⟨d_X_takeAdvert_35, d_X_takeAdvert_36, d_X_takeAdvert_37, trivial⟩ (show tv_run _ _ _ _ = some (38, [some (.ref 1), some (.ref a1), some (.ref a2), none, none], [.ref a2, .ref a1, .ref 1]) from rfl) ?_
        refine V.getf hC tf_X_42 (kd_in k2 (by decide)) (hp_at k2) rfl d_X_takeAdvert_38 ?_
        show V X 0 0 tm_n (hp σ) 41 [some (.ref 1), some (.ref a1), some (.ref a2), none, none] [.int (σ.1 a2 10), .ref a1, .ref 1]
        obtain ⟨q1, hq1, hf⟩ := tm_bd hf
        refine V.callV hC tm_nest rfl (c_X_takeVersion σ a1 (σ.1 a2 10) k1 hq1) (tm_gd tc_X_takeVersion) tg_X_265 th_X_takeVersion ⟨tm_le rfl, tm_le rfl, tm_le rfl, tm_le rfl⟩ rfl (kd_in kd_1 (by decide)) (hp_at kd_1) (As := [.ref a1, .int (σ.1 a2 10)]) (st := []) rfl (tm_le rfl) d_X_takeAdvert_41 ?_
        rintro v n2 h2 ⟨rfl, rfl, rfl⟩
        show V X 0 0 tm_n (hp q1) 44 [some (.ref 1), some (.ref a1), some (.ref a2), none, none] []
        exact V.less (tv_le_some (tv_le_some (tv_le_some (tv_le_none (tv_le_none tv_le_nil))))) (c_X_takeAdvert_L44 hC hr hE q1 a1 a2 k1 k2 hf)
  · rw [if_neg hc] at hf
    refine V.blk hC [(.aload_n 0, 1), (.aload_n 1, 1)] 11 [some (.ref 1), some (.ref a1), some (.ref a2), none, none] [] ⟨d_X_takeAdvert_11, d_X_takeAdvert_12, trivial⟩ (show tv_run _ _ _ _ = some (13, [some (.ref 1), some (.ref a1), some (.ref a2), none, none], [.ref a1, .ref 1]) from rfl) ?_
    obtain ⟨q2, hq2, hf⟩ := tm_bd hf
    refine V.callV hC tm_nest rfl (c_X_resetTimer σ a1 k1 hq2) (tm_gd tc_X_resetTimer) tg_X_58 th_X_resetTimer ⟨tm_le rfl, tm_le rfl, tm_le rfl, tm_le rfl⟩ rfl (kd_in kd_1 (by decide)) (hp_at kd_1) (As := [.ref a1]) (st := []) rfl (tm_le rfl) d_X_takeAdvert_13 ?_
    rintro v n2 h2 ⟨rfl, rfl, rfl⟩
    show V X 0 0 tm_n (hp q2) 16 [some (.ref 1), some (.ref a1), some (.ref a2), none, none] []
    obtain rfl := Option.some.inj hf
    exact V.vret hC hr hE d_X_takeAdvert_16 ⟨rfl, rfl, rfl⟩
set_option maxHeartbeats 4000000 in
set_option maxRecDepth 100000 in
theorem c_X_changeRoute_L36 {X : tv_X} {r : Int32 × tm_S} (hC : tv_K X tb_X_changeRoute 7 "TrickleMesh" tm_wg tm_ns tm_cl tm_ty { frames := 0, cells := 0, slots := 0, locals := 0 }) (hr : tv_ret X (some .boolean)) (hE : tv_end X (tm_P (some (.int r.1)) r.2) 0 0) (σ : tm_S)   (hf : f_X_changeRoute_L36 σ  = some r) : V X 0 0 tm_n (hp σ) 36 [none, none, none, none, none, none, none] [] := by
  unfold f_X_changeRoute_L36 at hf
  refine V.blk hC [(.iconst 0, 1)] 36 [none, none, none, none, none, none, none] [] ⟨d_X_changeRoute_36, trivial⟩ (show tv_run _ _ _ _ = some (37, [none, none, none, none, none, none, none], [.int (0 : Int32)]) from rfl) ?_
  obtain rfl := Option.some.inj hf
  exact V.zret hC hr hE (tm_nz (by decide)) d_X_changeRoute_37 ⟨rfl, rfl, rfl⟩
set_option maxHeartbeats 4000000 in
set_option maxRecDepth 100000 in
theorem c_X_changeRoute_L79 {X : tv_X} {r : Int32 × tm_S} (hC : tv_K X tb_X_changeRoute 7 "TrickleMesh" tm_wg tm_ns tm_cl tm_ty { frames := 0, cells := 0, slots := 0, locals := 0 }) (hr : tv_ret X (some .boolean)) (hE : tv_end X (tm_P (some (.int r.1)) r.2) 0 0) (σ : tm_S) (l0 : Nat) (l1 : Int32) (l4 : Int32) (l5 : Int32) (s0 : Int32) (kl0 : kd l0 = 5) (hf : f_X_changeRoute_L79 σ l0 l1 l4 l5 s0 = some r) : V X 0 0 tm_n (hp σ) 79 [some (.ref l0), some (.int l1), none, none, some (.int l4), some (.int l5), none] [.int s0] := by
  unfold f_X_changeRoute_L79 at hf
  refine V.blk hC [(.istore 6, 2), (.aload_n 0, 1)] 79 [some (.ref l0), some (.int l1), none, none, some (.int l4), some (.int l5), none] [.int s0] ⟨d_X_changeRoute_79, d_X_changeRoute_81, trivial⟩ (show tv_run _ _ _ _ = some (82, [some (.ref l0), some (.int l1), none, none, some (.int l4), some (.int l5), some (.int s0)], [.ref l0]) from rfl) ?_
  refine V.getf hC tf_X_143 (kd_in kl0 (by decide)) (hp_at kl0) rfl d_X_changeRoute_82 ?_
  show V X 0 0 tm_n (hp σ) 85 [some (.ref l0), some (.int l1), none, none, some (.int l4), some (.int l5), some (.int s0)] [.ref (l0 + 14)]
  refine V.blk hC [(.iload_n 1, 1), (.iload 4, 2)] 85 [some (.ref l0), some (.int l1), none, none, some (.int l4), some (.int l5), some (.int s0)] [.ref (l0 + 14)] ⟨d_X_changeRoute_85, d_X_changeRoute_86, trivial⟩ (show tv_run _ _ _ _ = some (88, [some (.ref l0), some (.int l1), none, none, some (.int l4), some (.int l5), some (.int s0)], [.int l4, .int l1, .ref (l0 + 14)]) from rfl) ?_
  obtain ⟨hb6, hf⟩ := tm_if hf
  obtain ⟨σ7, hσ7, hf⟩ := tm_ww hf
  refine V.seta hC (kd_5_14 kl0) (kd_in (kd_5_14 kl0) (by decide)) rfl rfl rfl hb6 d_X_changeRoute_88 ?_
  rw [← hσ7]
  refine V.blk hC [(.aload_n 0, 1)] 89 [some (.ref l0), some (.int l1), none, none, some (.int l4), some (.int l5), some (.int s0)] [] ⟨d_X_changeRoute_89, trivial⟩ (show tv_run _ _ _ _ = some (90, [some (.ref l0), some (.int l1), none, none, some (.int l4), some (.int l5), some (.int s0)], [.ref l0]) from rfl) ?_
  refine V.getf hC tf_X_147 (kd_in kl0 (by decide)) (hp_at kl0) rfl d_X_changeRoute_90 ?_
  show V X 0 0 tm_n (hp σ7) 93 [some (.ref l0), some (.int l1), none, none, some (.int l4), some (.int l5), some (.int s0)] [.ref (l0 + 13)]
  refine V.blk hC [(.iload_n 1, 1), (.iload 5, 2)] 93 [some (.ref l0), some (.int l1), none, none, some (.int l4), some (.int l5), some (.int s0)] [.ref (l0 + 13)] ⟨d_X_changeRoute_93, d_X_changeRoute_94, trivial⟩ (show tv_run _ _ _ _ = some (96, [some (.ref l0), some (.int l1), none, none, some (.int l4), some (.int l5), some (.int s0)], [.int l5, .int l1, .ref (l0 + 13)]) from rfl) ?_
  obtain ⟨hb8, hf⟩ := tm_if hf
  obtain ⟨σ9, hσ9, hf⟩ := tm_ww hf
  refine V.seta hC (kd_5_13 kl0) (kd_in (kd_5_13 kl0) (by decide)) rfl rfl rfl hb8 d_X_changeRoute_96 ?_
  rw [← hσ9]
  refine V.blk hC [(.iload 6, 2)] 97 [some (.ref l0), some (.int l1), none, none, some (.int l4), some (.int l5), some (.int s0)] [] ⟨d_X_changeRoute_97, trivial⟩ (show tv_run _ _ _ _ = some (99, [some (.ref l0), some (.int l1), none, none, some (.int l4), some (.int l5), some (.int s0)], [.int s0]) from rfl) ?_
  obtain ⟨hz10, hf⟩ := tm_if hf
  obtain rfl := Option.some.inj hf
  exact V.zret hC hr hE (tm_nz hz10) d_X_changeRoute_99 ⟨rfl, rfl, rfl⟩
set_option maxHeartbeats 4000000 in
set_option maxRecDepth 100000 in
theorem c_X_changeRoute_L74 {X : tv_X} {r : Int32 × tm_S} (hC : tv_K X tb_X_changeRoute 7 "TrickleMesh" tm_wg tm_ns tm_cl tm_ty { frames := 0, cells := 0, slots := 0, locals := 0 }) (hr : tv_ret X (some .boolean)) (hE : tv_end X (tm_P (some (.int r.1)) r.2) 0 0) (σ : tm_S) (l0 : Nat) (l1 : Int32) (l4 : Int32) (l5 : Int32) (kl0 : kd l0 = 5) (hf : f_X_changeRoute_L74 σ l0 l1 l4 l5 = some r) : V X 0 0 tm_n (hp σ) 74 [some (.ref l0), some (.int l1), none, none, some (.int l4), some (.int l5), none] [] := by
  unfold f_X_changeRoute_L74 at hf
  refine V.blk hC [(.iconst 1, 1)] 74 [some (.ref l0), some (.int l1), none, none, some (.int l4), some (.int l5), none] [] ⟨d_X_changeRoute_74, trivial⟩ (show tv_run _ _ _ _ = some (75, [some (.ref l0), some (.int l1), none, none, some (.int l4), some (.int l5), none], [.int (1 : Int32)]) from rfl) ?_
  refine V.goto hC d_X_changeRoute_75 (tgt := 79) (by decide) ?_
  exact V.less (tv_le_some (tv_le_some (tv_le_none (tv_le_none (tv_le_some (tv_le_some (tv_le_none tv_le_nil))))))) (c_X_changeRoute_L79 hC hr hE σ l0 l1 l4 l5 (1 : Int32) kl0 hf)
set_option maxHeartbeats 4000000 in
set_option maxRecDepth 100000 in
theorem c_X_changeRoute_L50 {X : tv_X} {r : Int32 × tm_S} (hC : tv_K X tb_X_changeRoute 7 "TrickleMesh" tm_wg tm_ns tm_cl tm_ty { frames := 0, cells := 0, slots := 0, locals := 0 }) (hr : tv_ret X (some .boolean)) (hE : tv_end X (tm_P (some (.int r.1)) r.2) 0 0) (σ : tm_S) (l0 : Nat) (l1 : Int32) (l4 : Int32) (s0 : Int32) (kl0 : kd l0 = 5) (hf : f_X_changeRoute_L50 σ l0 l1 l4 s0 = some r) : V X 0 0 tm_n (hp σ) 50 [some (.ref l0), some (.int l1), none, none, some (.int l4), none, none] [.int s0] := by
  unfold f_X_changeRoute_L50 at hf
  refine V.blk hC [(.istore 5, 2), (.iload 4, 2), (.aload_n 0, 1)] 50 [some (.ref l0), some (.int l1), none, none, some (.int l4), none, none] [.int s0] ⟨d_X_changeRoute_50, d_X_changeRoute_52, d_X_changeRoute_54, trivial⟩ (show tv_run _ _ _ _ = some (55, [some (.ref l0), some (.int l1), none, none, some (.int l4), some (.int s0), none], [.ref l0, .int l4]) from rfl) ?_
  refine V.getf hC tf_X_143 (kd_in kl0 (by decide)) (hp_at kl0) rfl d_X_changeRoute_55 ?_
  show V X 0 0 tm_n (hp σ) 58 [some (.ref l0), some (.int l1), none, none, some (.int l4), some (.int s0), none] [.ref (l0 + 14), .int l4]
  refine V.blk hC [(.iload_n 1, 1)] 58 [some (.ref l0), some (.int l1), none, none, some (.int l4), some (.int s0), none] [.ref (l0 + 14), .int l4] ⟨d_X_changeRoute_58, trivial⟩ (show tv_run _ _ _ _ = some (59, [some (.ref l0), some (.int l1), none, none, some (.int l4), some (.int s0), none], [.int l1, .ref (l0 + 14), .int l4]) from rfl) ?_
  obtain ⟨hb4, hf⟩ := tm_if hf
  refine V.iald hC (kd_in (kd_5_14 kl0) (by decide)) (hp_at (kd_5_14 kl0)) rfl hb4 d_X_changeRoute_59 ?_
  show V X 0 0 tm_n (hp σ) 60 [some (.ref l0), some (.int l1), none, none, some (.int l4), some (.int s0), none] [.int (σ.1 (l0 + 14) l1.toNatClampNeg), .int l4]
  refine V.icmp_ne hC d_X_changeRoute_60 (tgt := 74) (by decide) (fun hc => ?_) (fun hc => ?_)
  · rw [if_neg hc] at hf
    exact V.less (tv_le_some (tv_le_some (tv_le_none (tv_le_none (tv_le_some (tv_le_some (tv_le_none tv_le_nil))))))) (c_X_changeRoute_L74 hC hr hE σ l0 l1 l4 s0 kl0 hf)
  · rw [if_pos hc] at hf
    refine V.blk hC [(.iload 5, 2), (.aload_n 0, 1)] 63 [some (.ref l0), some (.int l1), none, none, some (.int l4), some (.int s0), none] [] ⟨d_X_changeRoute_63, d_X_changeRoute_65, trivial⟩ (show tv_run _ _ _ _ = some (66, [some (.ref l0), some (.int l1), none, none, some (.int l4), some (.int s0), none], [.ref l0, .int s0]) from rfl) ?_
    refine V.getf hC tf_X_147 (kd_in kl0 (by decide)) (hp_at kl0) rfl d_X_changeRoute_66 ?_
    show V X 0 0 tm_n (hp σ) 69 [some (.ref l0), some (.int l1), none, none, some (.int l4), some (.int s0), none] [.ref (l0 + 13), .int s0]
    refine V.blk hC [(.iload_n 1, 1)] 69 [some (.ref l0), some (.int l1), none, none, some (.int l4), some (.int s0), none] [.ref (l0 + 13), .int s0] ⟨d_X_changeRoute_69, trivial⟩ (show tv_run _ _ _ _ = some (70, [some (.ref l0), some (.int l1), none, none, some (.int l4), some (.int s0), none], [.int l1, .ref (l0 + 13), .int s0]) from rfl) ?_
    obtain ⟨hb5, hf⟩ := tm_if hf
    refine V.iald hC (kd_in (kd_5_13 kl0) (by decide)) (hp_at (kd_5_13 kl0)) rfl hb5 d_X_changeRoute_70 ?_
    show V X 0 0 tm_n (hp σ) 71 [some (.ref l0), some (.int l1), none, none, some (.int l4), some (.int s0), none] [.int (σ.1 (l0 + 13) l1.toNatClampNeg), .int s0]
    refine V.icmp_eq hC d_X_changeRoute_71 (tgt := 78) (by decide) (fun hc => ?_) (fun hc => ?_)
    · rw [if_pos hc] at hf
      refine V.blk hC [(.iconst 0, 1)] 78 [some (.ref l0), some (.int l1), none, none, some (.int l4), some (.int s0), none] [] ⟨d_X_changeRoute_78, trivial⟩ (show tv_run _ _ _ _ = some (79, [some (.ref l0), some (.int l1), none, none, some (.int l4), some (.int s0), none], [.int (0 : Int32)]) from rfl) ?_
      exact V.less (tv_le_some (tv_le_some (tv_le_none (tv_le_none (tv_le_some (tv_le_some (tv_le_none tv_le_nil))))))) (c_X_changeRoute_L79 hC hr hE σ l0 l1 l4 s0 (0 : Int32) kl0 hf)
    · rw [if_neg hc] at hf
      exact V.less (tv_le_some (tv_le_some (tv_le_none (tv_le_none (tv_le_some (tv_le_some (tv_le_none tv_le_nil))))))) (c_X_changeRoute_L74 hC hr hE σ l0 l1 l4 s0 kl0 hf)
set_option maxHeartbeats 4000000 in
set_option maxRecDepth 100000 in
theorem c_X_changeRoute_L38 {X : tv_X} {r : Int32 × tm_S} (hC : tv_K X tb_X_changeRoute 7 "TrickleMesh" tm_wg tm_ns tm_cl tm_ty { frames := 0, cells := 0, slots := 0, locals := 0 }) (hr : tv_ret X (some .boolean)) (hE : tv_end X (tm_P (some (.int r.1)) r.2) 0 0) (σ : tm_S) (l0 : Nat) (l1 : Int32) (l2 : Int32) (l3 : Nat) (l4 : Int32) (kl0 : kd l0 = 5) (kl3 : kd l3 = 8) (hf : f_X_changeRoute_L38 σ l0 l1 l2 l3 l4 = some r) : V X 0 0 tm_n (hp σ) 38 [some (.ref l0), some (.int l1), some (.int l2), some (.ref l3), some (.int l4), none, none] [] := by
  unfold f_X_changeRoute_L38 at hf
  refine V.blk hC [(.aload_n 3, 1)] 38 [some (.ref l0), some (.int l1), some (.int l2), some (.ref l3), some (.int l4), none, none] [] ⟨d_X_changeRoute_38, trivial⟩ (show tv_run _ _ _ _ = some (39, [some (.ref l0), some (.int l1), some (.int l2), some (.ref l3), some (.int l4), none, none], [.ref l3]) from rfl) ?_
  refine V.getf hC tf_X_298 (kd_in kl3 (by decide)) (hp_at kl3) rfl d_X_changeRoute_39 ?_
  show V X 0 0 tm_n (hp σ) 42 [some (.ref l0), some (.int l1), some (.int l2), some (.ref l3), some (.int l4), none, none] [.int (σ.1 l3 4)]
  refine V.if_eq hC d_X_changeRoute_42 (tgt := 49) (by decide) (fun hc => ?_) (fun hc => ?_)
  · rw [if_pos hc] at hf
    refine V.blk hC [(.iload_n 2, 1)] 49 [some (.ref l0), some (.int l1), some (.int l2), some (.ref l3), some (.int l4), none, none] [] ⟨d_X_changeRoute_49, trivial⟩ (show tv_run _ _ _ _ = some (50, [some (.ref l0), some (.int l1), some (.int l2), some (.ref l3), some (.int l4), none, none], [.int l2]) from rfl) ?_
    exact V.less (tv_le_some (tv_le_some (tv_le_none (tv_le_none (tv_le_some (tv_le_none (tv_le_none tv_le_nil))))))) (c_X_changeRoute_L50 hC hr hE σ l0 l1 l4 l2 kl0 hf)
  · rw [if_neg hc] at hf
    refine V.blk hC [(.iconst (-1), 1)] 45 [some (.ref l0), some (.int l1), some (.int l2), some (.ref l3), some (.int l4), none, none] [] ⟨d_X_changeRoute_45, trivial⟩ (show tv_run _ _ _ _ = some (46, [some (.ref l0), some (.int l1), some (.int l2), some (.ref l3), some (.int l4), none, none], [.int (-1 : Int32)]) from rfl) ?_
    refine V.goto hC d_X_changeRoute_46 (tgt := 50) (by decide) ?_
    exact V.less (tv_le_some (tv_le_some (tv_le_none (tv_le_none (tv_le_some (tv_le_none (tv_le_none tv_le_nil))))))) (c_X_changeRoute_L50 hC hr hE σ l0 l1 l4 (-1 : Int32) kl0 hf)
set_option maxHeartbeats 4000000 in
set_option maxRecDepth 100000 in
theorem c_X_changeRoute (σ : tm_S) (a0 : Nat) (a1 : Int32) (a2 : Int32) (a3 : Nat) (k0 : kd a0 = 5) (k3 : kd a3 = 8) {r : Int32 × tm_S} (hf : f_X_changeRoute σ a0 a1 a2 a3 = some r) : tv_Met ty_X_changeRoute (Cond.code ty_X_changeRoute tb_X_changeRoute 7 (some .boolean) :: tm_wg) tm_ns tm_cl tm_ty 0 0 0 0 [.ref a0, .int a1, .int a2, .ref a3] tm_n (hp σ) (tm_P (some (.int r.1)) r.2) := by
  refine tv_Met.of (by decide) rfl (tm_le rfl) ?_
  intro X hC hnm hr hE
  have hC : tv_K X tb_X_changeRoute 7 "TrickleMesh" tm_wg tm_ns tm_cl tm_ty { frames := 0, cells := 0, slots := 0, locals := 0 } := hC
  show V X 0 0 tm_n (hp σ) 0 [some (.ref a0), some (.int a1), some (.int a2), some (.ref a3), none, none, none] []
  unfold f_X_changeRoute at hf
  refine V.blk hC [(.aload_n 3, 1)] 0 [some (.ref a0), some (.int a1), some (.int a2), some (.ref a3), none, none, none] [] ⟨d_X_changeRoute_0, trivial⟩ (show tv_run _ _ _ _ = some (1, [some (.ref a0), some (.int a1), some (.int a2), some (.ref a3), none, none, none], [.ref a3]) from rfl) ?_
  refine V.getf hC tf_X_301 (kd_in k3 (by decide)) (hp_at k3) rfl d_X_changeRoute_1 ?_
  show V X 0 0 tm_n (hp σ) 4 [some (.ref a0), some (.int a1), some (.int a2), some (.ref a3), none, none, none] [.ref (a3 + 1)]
  refine V.blk hC [(.iload_n 1, 1)] 4 [some (.ref a0), some (.int a1), some (.int a2), some (.ref a3), none, none, none] [.ref (a3 + 1)] ⟨d_X_changeRoute_4, trivial⟩ (show tv_run _ _ _ _ = some (5, [some (.ref a0), some (.int a1), some (.int a2), some (.ref a3), none, none, none], [.int a1, .ref (a3 + 1)]) from rfl) ?_
  obtain ⟨hb1, hf⟩ := tm_if hf
  refine V.iald hC (kd_in (kd_8_4 k3) (by decide)) (hp_at (kd_8_4 k3)) rfl hb1 d_X_changeRoute_5 ?_
  show V X 0 0 tm_n (hp σ) 6 [some (.ref a0), some (.int a1), some (.int a2), some (.ref a3), none, none, none] [.int (σ.1 (a3 + 1) a1.toNatClampNeg)]
  refine V.blk hC [(.istore 4, 2), (.iload 4, 2), (.aload_n 0, 1)] 6 [some (.ref a0), some (.int a1), some (.int a2), some (.ref a3), none, none, none] [.int (σ.1 (a3 + 1) a1.toNatClampNeg)] ⟨d_X_changeRoute_6, d_X_changeRoute_8, d_X_changeRoute_10, trivial⟩ (show tv_run _ _ _ _ = some (11, [some (.ref a0), some (.int a1), some (.int a2), some (.ref a3), some (.int (σ.1 (a3 + 1) a1.toNatClampNeg)), none, none], [.ref a0, .int (σ.1 (a3 + 1) a1.toNatClampNeg)]) from rfl) ?_
  refine V.getf hC tf_X_143 (kd_in k0 (by decide)) (hp_at k0) rfl d_X_changeRoute_11 ?_
  show V X 0 0 tm_n (hp σ) 14 [some (.ref a0), some (.int a1), some (.int a2), some (.ref a3), some (.int (σ.1 (a3 + 1) a1.toNatClampNeg)), none, none] [.ref (a0 + 14), .int (σ.1 (a3 + 1) a1.toNatClampNeg)]
  refine V.blk hC [(.iload_n 1, 1)] 14 [some (.ref a0), some (.int a1), some (.int a2), some (.ref a3), some (.int (σ.1 (a3 + 1) a1.toNatClampNeg)), none, none] [.ref (a0 + 14), .int (σ.1 (a3 + 1) a1.toNatClampNeg)] ⟨d_X_changeRoute_14, trivial⟩ (show tv_run _ _ _ _ = some (15, [some (.ref a0), some (.int a1), some (.int a2), some (.ref a3), some (.int (σ.1 (a3 + 1) a1.toNatClampNeg)), none, none], [.int a1, .ref (a0 + 14), .int (σ.1 (a3 + 1) a1.toNatClampNeg)]) from rfl) ?_
  obtain ⟨hb2, hf⟩ := tm_if hf
  refine V.iald hC (kd_in (kd_5_14 k0) (by decide)) (hp_at (kd_5_14 k0)) rfl hb2 d_X_changeRoute_15 ?_
  show V X 0 0 tm_n (hp σ) 16 [some (.ref a0), some (.int a1), some (.int a2), some (.ref a3), some (.int (σ.1 (a3 + 1) a1.toNatClampNeg)), none, none] [.int (σ.1 (a0 + 14) a1.toNatClampNeg), .int (σ.1 (a3 + 1) a1.toNatClampNeg)]
  refine V.icmp_lt hC d_X_changeRoute_16 (tgt := 36) (by decide) (fun hc => ?_) (fun hc => ?_)
  · rw [if_pos hc] at hf
    exact V.less (tv_le_none (tv_le_none (tv_le_none (tv_le_none (tv_le_none (tv_le_none (tv_le_none tv_le_nil))))))) (c_X_changeRoute_L36 hC hr hE σ   hf)
  · rw [if_neg hc] at hf
    refine V.blk hC [(.aload_n 3, 1)] 19 [some (.ref a0), some (.int a1), some (.int a2), some (.ref a3), some (.int (σ.1 (a3 + 1) a1.toNatClampNeg)), none, none] [] ⟨d_X_changeRoute_19, trivial⟩ (show tv_run _ _ _ _ = some (20, [some (.ref a0), some (.int a1), some (.int a2), some (.ref a3), some (.int (σ.1 (a3 + 1) a1.toNatClampNeg)), none, none], [.ref a3]) from rfl) ?_
    refine V.getf hC tf_X_298 (kd_in k3 (by decide)) (hp_at k3) rfl d_X_changeRoute_20 ?_
    show V X 0 0 tm_n (hp σ) 23 [some (.ref a0), some (.int a1), some (.int a2), some (.ref a3), some (.int (σ.1 (a3 + 1) a1.toNatClampNeg)), none, none] [.int (σ.1 a3 4)]
    refine V.if_eq hC d_X_changeRoute_23 (tgt := 38) (by decide) (fun hc => ?_) (fun hc => ?_)
    · rw [if_pos hc] at hf
      exact V.less (tv_le_some (tv_le_some (tv_le_some (tv_le_some (tv_le_some (tv_le_none (tv_le_none tv_le_nil))))))) (c_X_changeRoute_L38 hC hr hE σ a0 a1 a2 a3 (σ.1 (a3 + 1) a1.toNatClampNeg) k0 k3 hf)
    · rw [if_neg hc] at hf
      refine V.blk hC [(.aload_n 0, 1)] 26 [some (.ref a0), some (.int a1), some (.int a2), some (.ref a3), some (.int (σ.1 (a3 + 1) a1.toNatClampNeg)), none, none] [] ⟨d_X_changeRoute_26, trivial⟩ (show tv_run _ _ _ _ = some (27, [some (.ref a0), some (.int a1), some (.int a2), some (.ref a3), some (.int (σ.1 (a3 + 1) a1.toNatClampNeg)), none, none], [.ref a0]) from rfl) ?_
      refine V.getf hC tf_X_147 (kd_in k0 (by decide)) (hp_at k0) rfl d_X_changeRoute_27 ?_
      show V X 0 0 tm_n (hp σ) 30 [some (.ref a0), some (.int a1), some (.int a2), some (.ref a3), some (.int (σ.1 (a3 + 1) a1.toNatClampNeg)), none, none] [.ref (a0 + 13)]
      refine V.blk hC [(.iload_n 1, 1)] 30 [some (.ref a0), some (.int a1), some (.int a2), some (.ref a3), some (.int (σ.1 (a3 + 1) a1.toNatClampNeg)), none, none] [.ref (a0 + 13)] ⟨d_X_changeRoute_30, trivial⟩ (show tv_run _ _ _ _ = some (31, [some (.ref a0), some (.int a1), some (.int a2), some (.ref a3), some (.int (σ.1 (a3 + 1) a1.toNatClampNeg)), none, none], [.int a1, .ref (a0 + 13)]) from rfl) ?_
      obtain ⟨hb3, hf⟩ := tm_if hf
      refine V.iald hC (kd_in (kd_5_13 k0) (by decide)) (hp_at (kd_5_13 k0)) rfl hb3 d_X_changeRoute_31 ?_
      show V X 0 0 tm_n (hp σ) 32 [some (.ref a0), some (.int a1), some (.int a2), some (.ref a3), some (.int (σ.1 (a3 + 1) a1.toNatClampNeg)), none, none] [.int (σ.1 (a0 + 13) a1.toNatClampNeg)]
      refine V.blk hC [(.iload_n 2, 1)] 32 [some (.ref a0), some (.int a1), some (.int a2), some (.ref a3), some (.int (σ.1 (a3 + 1) a1.toNatClampNeg)), none, none] [.int (σ.1 (a0 + 13) a1.toNatClampNeg)] ⟨d_X_changeRoute_32, trivial⟩ (show tv_run _ _ _ _ = some (33, [some (.ref a0), some (.int a1), some (.int a2), some (.ref a3), some (.int (σ.1 (a3 + 1) a1.toNatClampNeg)), none, none], [.int a2, .int (σ.1 (a0 + 13) a1.toNatClampNeg)]) from rfl) ?_
      refine V.icmp_eq hC d_X_changeRoute_33 (tgt := 38) (by decide) (fun hc => ?_) (fun hc => ?_)
      · rw [if_pos hc] at hf
        exact V.less (tv_le_some (tv_le_some (tv_le_some (tv_le_some (tv_le_some (tv_le_none (tv_le_none tv_le_nil))))))) (c_X_changeRoute_L38 hC hr hE σ a0 a1 a2 a3 (σ.1 (a3 + 1) a1.toNatClampNeg) k0 k3 hf)
      · rw [if_neg hc] at hf
        exact V.less (tv_le_none (tv_le_none (tv_le_none (tv_le_none (tv_le_none (tv_le_none (tv_le_none tv_le_nil))))))) (c_X_changeRoute_L36 hC hr hE σ   hf)
set_option maxHeartbeats 4000000 in
set_option maxRecDepth 100000 in
theorem c_X_receiveAnnounce_L67 {X : tv_X} {r : tm_S} (hC : tv_K X tb_X_receiveAnnounce 7 "TrickleMesh" tm_wg tm_ns tm_cl tm_ty { frames := 3, cells := 0, slots := 0, locals := 71 }) (hr : tv_ret X none) (hE : tv_end X (tm_P none r) 0 0) {rc : tm_S → Nat → Int32 → Nat → Int32 → Int32 → Option (tm_S)} (hrc : ∀ (σ : tm_S) (l1 : Nat) (l2 : Int32) (l3 : Nat) (l4 : Int32) (l5 : Int32) (kl1 : kd l1 = 5) (kl3 : kd l3 = 8), rc σ l1 l2 l3 l4 l5 = some r → V X 0 0 tm_n (hp σ) 6 [some (.ref 1), some (.ref l1), some (.int l2), some (.ref l3), some (.int l4), some (.int l5), none] []) (σ : tm_S) (l1 : Nat) (l2 : Int32) (l3 : Nat) (l4 : Int32) (l5 : Int32) (kl1 : kd l1 = 5) (kl3 : kd l3 = 8) (hf : f_X_receiveAnnounce_L67 rc σ l1 l2 l3 l4 l5 = some r) : V X 0 0 tm_n (hp σ) 67 [some (.ref 1), some (.ref l1), some (.int l2), some (.ref l3), some (.int l4), some (.int l5), none] [] := by
  unfold f_X_receiveAnnounce_L67 at hf
  refine V.blk hC [(.iinc 5 1, 3)] 67 [some (.ref 1), some (.ref l1), some (.int l2), some (.ref l3), some (.int l4), some (.int l5), none] [] ⟨d_X_receiveAnnounce_67, trivial⟩ (show tv_run _ _ _ _ = some (70, [some (.ref 1), some (.ref l1), some (.int l2), some (.ref l3), some (.int l4), some (.int (l5 + (1 : Int32))), none], []) from rfl) ?_
  refine V.goto hC d_X_receiveAnnounce_70 (tgt := 6) (by decide) ?_
  exact V.less (tv_le_some (tv_le_some (tv_le_some (tv_le_some (tv_le_some (tv_le_some (tv_le_none tv_le_nil))))))) (hrc σ l1 l2 l3 l4 (l5 + (1 : Int32)) kl1 kl3 hf)
set_option maxHeartbeats 4000000 in
set_option maxRecDepth 100000 in
theorem c_X_receiveAnnounce_L40 {X : tv_X} {r : tm_S} (hC : tv_K X tb_X_receiveAnnounce 7 "TrickleMesh" tm_wg tm_ns tm_cl tm_ty { frames := 3, cells := 0, slots := 0, locals := 71 }) (hr : tv_ret X none) (hE : tv_end X (tm_P none r) 0 0) {rc : tm_S → Nat → Int32 → Nat → Int32 → Int32 → Option (tm_S)} (hrc : ∀ (σ : tm_S) (l1 : Nat) (l2 : Int32) (l3 : Nat) (l4 : Int32) (l5 : Int32) (kl1 : kd l1 = 5) (kl3 : kd l3 = 8), rc σ l1 l2 l3 l4 l5 = some r → V X 0 0 tm_n (hp σ) 6 [some (.ref 1), some (.ref l1), some (.int l2), some (.ref l3), some (.int l4), some (.int l5), none] []) (σ : tm_S) (l1 : Nat) (l2 : Int32) (l3 : Nat) (l4 : Int32) (l5 : Int32) (s0 : Int32) (kl1 : kd l1 = 5) (kl3 : kd l3 = 8) (hf : f_X_receiveAnnounce_L40 rc σ l1 l2 l3 l4 l5 s0 = some r) : V X 0 0 tm_n (hp σ) 40 [some (.ref 1), some (.ref l1), some (.int l2), some (.ref l3), some (.int l4), some (.int l5), none] [.int s0] := by
  unfold f_X_receiveAnnounce_L40 at hf
  refine V.blk hC [(.istore 6, 2), (.iload 6, 2)] 40 [some (.ref 1), some (.ref l1), some (.int l2), some (.ref l3), some (.int l4), some (.int l5), none] [.int s0] ⟨d_X_receiveAnnounce_40, d_X_receiveAnnounce_42, trivial⟩ (show tv_run _ _ _ _ = some (44, [some (.ref 1), some (.ref l1), some (.int l2), some (.ref l3), some (.int l4), some (.int l5), some (.int s0)], [.int s0]) from rfl) ?_
  refine V.if_eq hC d_X_receiveAnnounce_44 (tgt := 67) (by decide) (fun hc => ?_) (fun hc => ?_)
  · rw [if_pos hc] at hf
    exact V.less (tv_le_some (tv_le_some (tv_le_some (tv_le_some (tv_le_some (tv_le_some (tv_le_none tv_le_nil))))))) (c_X_receiveAnnounce_L67 hC hr hE hrc σ l1 l2 l3 l4 l5 kl1 kl3 hf)
  · rw [if_neg hc] at hf
    refine V.blk hC [(.aload_n 1, 1), (.iload 5, 2), (.iload_n 2, 1), (.aload_n 3, 1)] 47 [some (.ref 1), some (.ref l1), some (.int l2), some (.ref l3), some (.int l4), some (.int l5), some (.int s0)] [] ⟨d_X_receiveAnnounce_47, d_X_receiveAnnounce_48, d_X_receiveAnnounce_50, d_X_receiveAnnounce_51, trivial⟩ (show tv_run _ _ _ _ = some (52, [some (.ref 1), some (.ref l1), some (.int l2), some (.ref l3), some (.int l4), some (.int l5), some (.int s0)], [.ref l3, .int l2, .int l5, .ref l1]) from rfl) ?_
    obtain ⟨q2, hq2, hf⟩ := tm_bd hf
    refine V.callS hC tm_nest rfl (c_X_changeRoute σ l1 l5 l2 l3 kl1 kl3 hq2) (tm_gd tc_X_changeRoute) tg_X_308 th_X_changeRoute ⟨tm_le rfl, tm_le rfl, tm_le rfl, tm_le rfl⟩ (As := [.ref l1, .int l5, .int l2, .ref l3]) (st := []) rfl (tm_le rfl) d_X_receiveAnnounce_52 ?_
    rintro v n2 h2 ⟨rfl, rfl, rfl⟩
    show V X 0 0 tm_n (hp q2.2) 55 [some (.ref 1), some (.ref l1), some (.int l2), some (.ref l3), some (.int l4), some (.int l5), some (.int s0)] [.int q2.1]
    refine V.if_eq hC d_X_receiveAnnounce_55 (tgt := 67) (by decide) (fun hc => ?_) (fun hc => ?_)
    · rw [if_pos hc] at hf
      exact V.less (tv_le_some (tv_le_some (tv_le_some (tv_le_some (tv_le_some (tv_le_some (tv_le_none tv_le_nil))))))) (c_X_receiveAnnounce_L67 hC hr hE hrc q2.2 l1 l2 l3 l4 l5 kl1 kl3 hf)
    · rw [if_neg hc] at hf
      refine V.blk hC [(.iload 4, 2), (.iconst 1, 1), (.iload 5, 2), (.ishl, 1), (.ior, 1), (.istore 4, 2)] 58 [some (.ref 1), some (.ref l1), some (.int l2), some (.ref l3), some (.int l4), some (.int l5), some (.int s0)] [] ⟨d_X_receiveAnnounce_58, d_X_receiveAnnounce_60, d_X_receiveAnnounce_61, d_X_receiveAnnounce_63, d_X_receiveAnnounce_64, d_X_receiveAnnounce_65, trivial⟩ (show tv_run _ _ _ _ = some (67, [some (.ref 1), some (.ref l1), some (.int l2), some (.ref l3), some (.int (l4 ||| ((1 : Int32) <<< (l5 &&& 31)))), some (.int l5), some (.int s0)], []) from rfl) ?_
      exact V.less (tv_le_some (tv_le_some (tv_le_some (tv_le_some (tv_le_some (tv_le_some (tv_le_none tv_le_nil))))))) (c_X_receiveAnnounce_L67 hC hr hE hrc q2.2 l1 l2 l3 (l4 ||| ((1 : Int32) <<< (l5 &&& 31))) l5 kl1 kl3 hf)
set_option maxHeartbeats 4000000 in
set_option maxRecDepth 100000 in
theorem c_X_receiveAnnounce_L39 {X : tv_X} {r : tm_S} (hC : tv_K X tb_X_receiveAnnounce 7 "TrickleMesh" tm_wg tm_ns tm_cl tm_ty { frames := 3, cells := 0, slots := 0, locals := 71 }) (hr : tv_ret X none) (hE : tv_end X (tm_P none r) 0 0) {rc : tm_S → Nat → Int32 → Nat → Int32 → Int32 → Option (tm_S)} (hrc : ∀ (σ : tm_S) (l1 : Nat) (l2 : Int32) (l3 : Nat) (l4 : Int32) (l5 : Int32) (kl1 : kd l1 = 5) (kl3 : kd l3 = 8), rc σ l1 l2 l3 l4 l5 = some r → V X 0 0 tm_n (hp σ) 6 [some (.ref 1), some (.ref l1), some (.int l2), some (.ref l3), some (.int l4), some (.int l5), none] []) (σ : tm_S) (l1 : Nat) (l2 : Int32) (l3 : Nat) (l4 : Int32) (l5 : Int32) (kl1 : kd l1 = 5) (kl3 : kd l3 = 8) (hf : f_X_receiveAnnounce_L39 rc σ l1 l2 l3 l4 l5 = some r) : V X 0 0 tm_n (hp σ) 39 [some (.ref 1), some (.ref l1), some (.int l2), some (.ref l3), some (.int l4), some (.int l5), none] [] := by
  unfold f_X_receiveAnnounce_L39 at hf
  refine V.blk hC [(.iconst 0, 1)] 39 [some (.ref 1), some (.ref l1), some (.int l2), some (.ref l3), some (.int l4), some (.int l5), none] [] ⟨d_X_receiveAnnounce_39, trivial⟩ (show tv_run _ _ _ _ = some (40, [some (.ref 1), some (.ref l1), some (.int l2), some (.ref l3), some (.int l4), some (.int l5), none], [.int (0 : Int32)]) from rfl) ?_
  exact V.less (tv_le_some (tv_le_some (tv_le_some (tv_le_some (tv_le_some (tv_le_some (tv_le_none tv_le_nil))))))) (c_X_receiveAnnounce_L40 hC hr hE hrc σ l1 l2 l3 l4 l5 (0 : Int32) kl1 kl3 hf)
set_option maxHeartbeats 4000000 in
set_option maxRecDepth 100000 in
theorem c_X_receiveAnnounce_L6 {X : tv_X} {r : tm_S} (hC : tv_K X tb_X_receiveAnnounce 7 "TrickleMesh" tm_wg tm_ns tm_cl tm_ty { frames := 3, cells := 0, slots := 0, locals := 71 }) (hr : tv_ret X none) (hE : tv_end X (tm_P none r) 0 0) : ∀ (k : Nat) (σ : tm_S) (l1 : Nat) (l2 : Int32) (l3 : Nat) (l4 : Int32) (l5 : Int32) (kl1 : kd l1 = 5) (kl3 : kd l3 = 8), f_X_receiveAnnounce_L6 k σ l1 l2 l3 l4 l5 = some r → V X 0 0 tm_n (hp σ) 6 [some (.ref 1), some (.ref l1), some (.int l2), some (.ref l3), some (.int l4), some (.int l5), none] [] := by
  intro k
  induction k with
  | zero => intro σ l1 l2 l3 l4 l5 kl1 kl3 hf; simp only [f_X_receiveAnnounce_L6] at hf; cases hf
  | succ k hrc =>
    intro σ l1 l2 l3 l4 l5 kl1 kl3 hf
    rw [f_X_receiveAnnounce_L6] at hf
    refine V.blk hC [(.iload 5, 2), (.bipush 7, 2)] 6 [some (.ref 1), some (.ref l1), some (.int l2), some (.ref l3), some (.int l4), some (.int l5), none] [] ⟨d_X_receiveAnnounce_6, d_X_receiveAnnounce_8, trivial⟩ (show tv_run _ _ _ _ = some (10, [some (.ref 1), some (.ref l1), some (.int l2), some (.ref l3), some (.int l4), some (.int l5), none], [.int (7 : Int32), .int l5]) from rfl) ?_
    refine V.icmp_ge hC d_X_receiveAnnounce_10 (tgt := 73) (by decide) (fun hc => ?_) (fun hc => ?_)
    · rw [if_pos hc] at hf
      refine V.blk hC [(.iload 4, 2)] 73 [some (.ref 1), some (.ref l1), some (.int l2), some (.ref l3), some (.int l4), some (.int l5), none] [] ⟨d_X_receiveAnnounce_73, trivial⟩ (show tv_run _ _ _ _ = some (75, [some (.ref 1), some (.ref l1), some (.int l2), some (.ref l3), some (.int l4), some (.int l5), none], [.int l4]) from rfl) ?_
      refine V.if_eq hC d_X_receiveAnnounce_75 (tgt := 101) (by decide) (fun hc => ?_) (fun hc => ?_)
      · rw [if_pos hc] at hf
        obtain rfl := Option.some.inj hf
        exact V.vret hC hr hE d_X_receiveAnnounce_101 ⟨rfl, rfl, rfl⟩
      · rw [if_neg hc] at hf
        refine V.blk hC [(.aload_n 1, 1)] 78 [some (.ref 1), some (.ref l1), some (.int l2), some (.ref l3), some (.int l4), some (.int l5), none] [] ⟨d_X_receiveAnnounce_78, trivial⟩ (show tv_run _ _ _ _ = some (79, [some (.ref 1), some (.ref l1), some (.int l2), some (.ref l3), some (.int l4), some (.int l5), none], [.ref l1]) from rfl) ?_
        refine V.getf hC tf_X_115 (kd_in kl1 (by decide)) (hp_at kl1) rfl d_X_receiveAnnounce_79 ?_
        show V X 0 0 tm_n (hp σ) 82 [some (.ref 1), some (.ref l1), some (.int l2), some (.ref l3), some (.int l4), some (.int l5), none] [.int (σ.1 l1 12)]
        refine V.blk hC [(.iconst (-1), 1)] 82 [some (.ref 1), some (.ref l1), some (.int l2), some (.ref l3), some (.int l4), some (.int l5), none] [.int (σ.1 l1 12)] ⟨d_X_receiveAnnounce_82, trivial⟩ (show tv_run _ _ _ _ = some (83, [some (.ref 1), some (.ref l1), some (.int l2), some (.ref l3), some (.int l4), some (.int l5), none], [.int (-1 : Int32), .int (σ.1 l1 12)]) from rfl) ?_
        refine V.icmp_eq hC d_X_receiveAnnounce_83 (tgt := 101) (by decide) (fun hc => ?_) (fun hc => ?_)
        · rw [if_pos hc] at hf
          obtain rfl := Option.some.inj hf
          exact V.vret hC hr hE d_X_receiveAnnounce_101 ⟨rfl, rfl, rfl⟩
        · rw [if_neg hc] at hf
          refine V.blk hC [(.aload_n 0, 1), (.aload_n 1, 1), (.iload 4, 2), (.aload_n 1, 1)] 86 [some (.ref 1), some (.ref l1), some (.int l2), some (.ref l3), some (.int l4), some (.int l5), none] [] ⟨d_X_receiveAnnounce_86, d_X_receiveAnnounce_87, d_X_receiveAnnounce_88, d_X_receiveAnnounce_90, trivial⟩ (show tv_run _ _ _ _ = some (91, [some (.ref 1), some (.ref l1), some (.int l2), some (.ref l3), some (.int l4), some (.int l5), none], [.ref l1, .int l4, .ref l1, .ref 1]) from rfl) ?_
          refine V.getf hC tf_X_115 (kd_in kl1 (by decide)) (hp_at kl1) rfl d_X_receiveAnnounce_91 ?_
          show V X 0 0 tm_n (hp σ) 94 [some (.ref 1), some (.ref l1), some (.int l2), some (.ref l3), some (.int l4), some (.int l5), none] [.int (σ.1 l1 12), .int l4, .ref l1, .ref 1]
          refine V.blk hC [(.aload_n 3, 1)] 94 [some (.ref 1), some (.ref l1), some (.int l2), some (.ref l3), some (.int l4), some (.int l5), none] [.int (σ.1 l1 12), .int l4, .ref l1, .ref 1] ⟨d_X_receiveAnnounce_94, trivial⟩ (show tv_run _ _ _ _ = some (95, [some (.ref 1), some (.ref l1), some (.int l2), some (.ref l3), some (.int l4), some (.int l5), none], [.ref l3, .int (σ.1 l1 12), .int l4, .ref l1, .ref 1]) from rfl) ?_
          refine V.getf hC tf_X_298 (kd_in kl3 (by decide)) (hp_at kl3) rfl d_X_receiveAnnounce_95 ?_
          show V X 0 0 tm_n (hp σ) 98 [some (.ref 1), some (.ref l1), some (.int l2), some (.ref l3), some (.int l4), some (.int l5), none] [.int (σ.1 l3 4), .int (σ.1 l1 12), .int l4, .ref l1, .ref 1]
          obtain ⟨q1, hq1, hf⟩ := tm_bd hf
          refine V.callV hC tm_nest rfl (c_X_announce σ l1 l4 (σ.1 l1 12) (σ.1 l3 4) kl1 hq1) (tm_gd tc_X_announce) tg_X_254 th_X_announce ⟨tm_le rfl, tm_le rfl, tm_le rfl, tm_le rfl⟩ rfl (kd_in kd_1 (by decide)) (hp_at kd_1) (As := [.ref l1, .int l4, .int (σ.1 l1 12), .int (σ.1 l3 4)]) (st := []) rfl (tm_le rfl) d_X_receiveAnnounce_98 ?_
          rintro v n2 h2 ⟨rfl, rfl, rfl⟩
          show V X 0 0 tm_n (hp q1) 101 [some (.ref 1), some (.ref l1), some (.int l2), some (.ref l3), some (.int l4), some (.int l5), none] []
          obtain rfl := Option.some.inj hf
          exact V.vret hC hr hE d_X_receiveAnnounce_101 ⟨rfl, rfl, rfl⟩
    · rw [if_neg hc] at hf
      refine V.blk hC [(.aload_n 3, 1)] 13 [some (.ref 1), some (.ref l1), some (.int l2), some (.ref l3), some (.int l4), some (.int l5), none] [] ⟨d_X_receiveAnnounce_13, trivial⟩ (show tv_run _ _ _ _ = some (14, [some (.ref 1), some (.ref l1), some (.int l2), some (.ref l3), some (.int l4), some (.int l5), none], [.ref l3]) from rfl) ?_
      refine V.getf hC tf_X_295 (kd_in kl3 (by decide)) (hp_at kl3) rfl d_X_receiveAnnounce_14 ?_
      show V X 0 0 tm_n (hp σ) 17 [some (.ref 1), some (.ref l1), some (.int l2), some (.ref l3), some (.int l4), some (.int l5), none] [.int (σ.1 l3 3)]
      refine V.blk hC [(.iload 5, 2), (.ishr, 1), (.iconst 1, 1), (.iand, 1), (.iconst 1, 1)] 17 [some (.ref 1), some (.ref l1), some (.int l2), some (.ref l3), some (.int l4), some (.int l5), none] [.int (σ.1 l3 3)] ⟨d_X_receiveAnnounce_17, d_X_receiveAnnounce_19, d_X_receiveAnnounce_20, d_X_receiveAnnounce_21, d_X_receiveAnnounce_22, trivial⟩ (show tv_run _ _ _ _ = some (23, [some (.ref 1), some (.ref l1), some (.int l2), some (.ref l3), some (.int l4), some (.int l5), none], [.int (1 : Int32), .int (((σ.1 l3 3) >>> (l5 &&& 31)) &&& (1 : Int32))]) from rfl) ?_
      refine V.icmp_ne hC d_X_receiveAnnounce_23 (tgt := 39) (by decide) (fun hc => ?_) (fun hc => ?_)
      · rw [if_neg hc] at hf
        exact V.less (tv_le_some (tv_le_some (tv_le_some (tv_le_some (tv_le_some (tv_le_some (tv_le_none tv_le_nil))))))) (c_X_receiveAnnounce_L39 hC hr hE hrc σ l1 l2 l3 l4 l5 kl1 kl3 hf)
      · rw [if_pos hc] at hf
        refine V.blk hC [(.iload 5, 2), (.aload_n 1, 1)] 26 [some (.ref 1), some (.ref l1), some (.int l2), some (.ref l3), some (.int l4), some (.int l5), none] [] ⟨d_X_receiveAnnounce_26, d_X_receiveAnnounce_28, trivial⟩ (show tv_run _ _ _ _ = some (29, [some (.ref 1), some (.ref l1), some (.int l2), some (.ref l3), some (.int l4), some (.int l5), none], [.ref l1, .int l5]) from rfl) ?_
        refine V.getf hC tf_X_221 (kd_in kl1 (by decide)) (hp_at kl1) rfl d_X_receiveAnnounce_29 ?_
        show V X 0 0 tm_n (hp σ) 32 [some (.ref 1), some (.ref l1), some (.int l2), some (.ref l3), some (.int l4), some (.int l5), none] [.int (σ.1 l1 0), .int l5]
        refine V.icmp_eq hC d_X_receiveAnnounce_32 (tgt := 39) (by decide) (fun hc => ?_) (fun hc => ?_)
        · rw [if_pos hc] at hf
          exact V.less (tv_le_some (tv_le_some (tv_le_some (tv_le_some (tv_le_some (tv_le_some (tv_le_none tv_le_nil))))))) (c_X_receiveAnnounce_L39 hC hr hE hrc σ l1 l2 l3 l4 l5 kl1 kl3 hf)
        · rw [if_neg hc] at hf
          refine V.blk hC [(.iconst 1, 1)] 35 [some (.ref 1), some (.ref l1), some (.int l2), some (.ref l3), some (.int l4), some (.int l5), none] [] ⟨d_X_receiveAnnounce_35, trivial⟩ (show tv_run _ _ _ _ = some (36, [some (.ref 1), some (.ref l1), some (.int l2), some (.ref l3), some (.int l4), some (.int l5), none], [.int (1 : Int32)]) from rfl) ?_
          refine V.goto hC d_X_receiveAnnounce_36 (tgt := 40) (by decide) ?_
          exact V.less (tv_le_some (tv_le_some (tv_le_some (tv_le_some (tv_le_some (tv_le_some (tv_le_none tv_le_nil))))))) (c_X_receiveAnnounce_L40 hC hr hE hrc σ l1 l2 l3 l4 l5 (1 : Int32) kl1 kl3 hf)
set_option maxHeartbeats 4000000 in
set_option maxRecDepth 100000 in
theorem c_X_receiveAnnounce (σ : tm_S) (a1 : Nat) (a2 : Int32) (a3 : Nat) (k1 : kd a1 = 5) (k3 : kd a3 = 8) {r : tm_S} (hf : f_X_receiveAnnounce σ a1 a2 a3 = some r) : tv_Met ty_X_receiveAnnounce (Cond.code ty_X_receiveAnnounce tb_X_receiveAnnounce 7 none :: tm_wg) tm_ns tm_cl tm_ty 3 71 0 0 [.ref 1, .ref a1, .int a2, .ref a3] tm_n (hp σ) (tm_P none r) := by
  refine tv_Met.of (by decide) rfl (tm_le rfl) ?_
  intro X hC hnm hr hE
  have hC : tv_K X tb_X_receiveAnnounce 7 "TrickleMesh" tm_wg tm_ns tm_cl tm_ty { frames := 3, cells := 0, slots := 0, locals := 71 } := hC
  show V X 0 0 tm_n (hp σ) 0 [some (.ref 1), some (.ref a1), some (.int a2), some (.ref a3), none, none, none] []
  unfold f_X_receiveAnnounce at hf
  refine V.blk hC [(.iconst 0, 1), (.istore 4, 2), (.iconst 0, 1), (.istore 5, 2)] 0 [some (.ref 1), some (.ref a1), some (.int a2), some (.ref a3), none, none, none] [] ⟨d_X_receiveAnnounce_0, d_X_receiveAnnounce_1, d_X_receiveAnnounce_3, d_X_receiveAnnounce_4, trivial⟩ (show tv_run _ _ _ _ = some (6, [some (.ref 1), some (.ref a1), some (.int a2), some (.ref a3), some (.int (0 : Int32)), some (.int (0 : Int32)), none], []) from rfl) ?_
  exact V.less (tv_le_some (tv_le_some (tv_le_some (tv_le_some (tv_le_some (tv_le_some (tv_le_none tv_le_nil))))))) (c_X_receiveAnnounce_L6 hC hr hE tm_fu σ a1 a2 a3 (0 : Int32) (0 : Int32) k1 k3 hf)
set_option maxHeartbeats 4000000 in
set_option maxRecDepth 100000 in
theorem c_X_deliver (σ : tm_S) (a1 : Nat) (a2 : Nat) (k1 : kd a1 = 5) (k2 : kd a2 = 8) {r : tm_S} (hf : f_X_deliver σ a1 a2 = some r) : tv_Met ty_X_deliver (Cond.code ty_X_deliver tb_X_deliver 3 none :: tm_wg) tm_ns tm_cl tm_ty 0 0 0 0 [.ref 1, .ref a1, .ref a2] tm_n (hp σ) (tm_P none r) := by
  refine tv_Met.of (by decide) rfl (tm_le rfl) ?_
  intro X hC hnm hr hE
  have hC : tv_K X tb_X_deliver 3 "TrickleMesh" tm_wg tm_ns tm_cl tm_ty { frames := 0, cells := 0, slots := 0, locals := 0 } := hC
  show V X 0 0 tm_n (hp σ) 0 [some (.ref 1), some (.ref a1), some (.ref a2)] []
  unfold f_X_deliver at hf
  refine V.blk hC [(.aload_n 1, 1)] 0 [some (.ref 1), some (.ref a1), some (.ref a2)] [] ⟨d_X_deliver_0, trivial⟩ (show tv_run _ _ _ _ = some (1, [some (.ref 1), some (.ref a1), some (.ref a2)], [.ref a1]) from rfl) ?_
  refine V.getf hC tf_X_156 (kd_in k1 (by decide)) (hp_at k1) rfl d_X_deliver_1 ?_
  show V X 0 0 tm_n (hp σ) 4 [some (.ref 1), some (.ref a1), some (.ref a2)] [.ref (a1 + 16)]
  refine V.blk hC [(.aload_n 1, 1)] 4 [some (.ref 1), some (.ref a1), some (.ref a2)] [.ref (a1 + 16)] ⟨d_X_deliver_4, trivial⟩ (show tv_run _ _ _ _ = some (5, [some (.ref 1), some (.ref a1), some (.ref a2)], [.ref a1, .ref (a1 + 16)]) from rfl) ?_
  refine V.getf hC tf_X_153 (kd_in k1 (by decide)) (hp_at k1) rfl d_X_deliver_5 ?_
  show V X 0 0 tm_n (hp σ) 8 [some (.ref 1), some (.ref a1), some (.ref a2)] [.int (σ.1 a1 8), .ref (a1 + 16)]
  refine V.blk hC [(.bipush 8, 2)] 8 [some (.ref 1), some (.ref a1), some (.ref a2)] [.int (σ.1 a1 8), .ref (a1 + 16)] ⟨d_X_deliver_8, trivial⟩ (show tv_run _ _ _ _ = some (10, [some (.ref 1), some (.ref a1), some (.ref a2)], [.int (8 : Int32), .int (σ.1 a1 8), .ref (a1 + 16)]) from rfl) ?_
  refine V.irem hC d_X_deliver_10 (by decide) ?_
  refine V.blk hC [(.sipush 1000, 3), (.aload_n 2, 1)] 11 [some (.ref 1), some (.ref a1), some (.ref a2)] [.int ((σ.1 a1 8) - (σ.1 a1 8) / (8 : Int32) * (8 : Int32)), .ref (a1 + 16)] ⟨d_X_deliver_11, d_X_deliver_14, trivial⟩ (show tv_run _ _ _ _ = some (15, [some (.ref 1), some (.ref a1), some (.ref a2)], [.ref a2, .int (1000 : Int32), .int ((σ.1 a1 8) - (σ.1 a1 8) / (8 : Int32) * (8 : Int32)), .ref (a1 + 16)]) from rfl) ?_
  refine V.getf hC tf_X_312 (kd_in k2 (by decide)) (hp_at k2) rfl d_X_deliver_15 ?_
  show V X 0 0 tm_n (hp σ) 18 [some (.ref 1), some (.ref a1), some (.ref a2)] [.int (σ.1 a2 6), .int (1000 : Int32), .int ((σ.1 a1 8) - (σ.1 a1 8) / (8 : Int32) * (8 : Int32)), .ref (a1 + 16)]
  refine V.blk hC [(.imul, 1), (.aload_n 2, 1)] 18 [some (.ref 1), some (.ref a1), some (.ref a2)] [.int (σ.1 a2 6), .int (1000 : Int32), .int ((σ.1 a1 8) - (σ.1 a1 8) / (8 : Int32) * (8 : Int32)), .ref (a1 + 16)] ⟨d_X_deliver_18, d_X_deliver_19, trivial⟩ (show tv_run _ _ _ _ = some (20, [some (.ref 1), some (.ref a1), some (.ref a2)], [.ref a2, .int ((1000 : Int32) * (σ.1 a2 6)), .int ((σ.1 a1 8) - (σ.1 a1 8) / (8 : Int32) * (8 : Int32)), .ref (a1 + 16)]) from rfl) ?_
  refine V.getf hC tf_X_321 (kd_in k2 (by decide)) (hp_at k2) rfl d_X_deliver_20 ?_
  show V X 0 0 tm_n (hp σ) 23 [some (.ref 1), some (.ref a1), some (.ref a2)] [.int (σ.1 a2 9), .int ((1000 : Int32) * (σ.1 a2 6)), .int ((σ.1 a1 8) - (σ.1 a1 8) / (8 : Int32) * (8 : Int32)), .ref (a1 + 16)]
  refine V.blk hC [(.iadd, 1)] 23 [some (.ref 1), some (.ref a1), some (.ref a2)] [.int (σ.1 a2 9), .int ((1000 : Int32) * (σ.1 a2 6)), .int ((σ.1 a1 8) - (σ.1 a1 8) / (8 : Int32) * (8 : Int32)), .ref (a1 + 16)] ⟨d_X_deliver_23, trivial⟩ (show tv_run _ _ _ _ = some (24, [some (.ref 1), some (.ref a1), some (.ref a2)], [.int (((1000 : Int32) * (σ.1 a2 6)) + (σ.1 a2 9)), .int ((σ.1 a1 8) - (σ.1 a1 8) / (8 : Int32) * (8 : Int32)), .ref (a1 + 16)]) from rfl) ?_
  obtain ⟨hb1, hf⟩ := tm_if hf
  obtain ⟨σ2, hσ2, hf⟩ := tm_ww hf
  refine V.seta hC (kd_5_16 k1) (kd_in (kd_5_16 k1) (by decide)) rfl rfl rfl hb1 d_X_deliver_24 ?_
  rw [← hσ2]
  refine V.blk hC [(.aload_n 1, 1), (.dup, 1)] 25 [some (.ref 1), some (.ref a1), some (.ref a2)] [] ⟨d_X_deliver_25, d_X_deliver_26, trivial⟩ (show tv_run _ _ _ _ = some (27, [some (.ref 1), some (.ref a1), some (.ref a2)], [.ref a1, .ref a1]) from rfl) ?_
  refine V.getf hC tf_X_153 (kd_in k1 (by decide)) (hp_at k1) rfl d_X_deliver_27 ?_
  show V X 0 0 tm_n (hp σ2) 30 [some (.ref 1), some (.ref a1), some (.ref a2)] [.int (σ2.1 a1 8), .ref a1]
  refine V.blk hC [(.iconst 1, 1), (.iadd, 1)] 30 [some (.ref 1), some (.ref a1), some (.ref a2)] [.int (σ2.1 a1 8), .ref a1] ⟨d_X_deliver_30, d_X_deliver_31, trivial⟩ (show tv_run _ _ _ _ = some (32, [some (.ref 1), some (.ref a1), some (.ref a2)], [.int ((σ2.1 a1 8) + (1 : Int32)), .ref a1]) from rfl) ?_
  obtain ⟨σ3, hσ3, hf⟩ := tm_ww hf
  refine V.seti hC tf_X_153 tt_N to_N tn_N rfl (by decide +kernel) tm_fi k1 (kd_in k1 (by decide)) rfl rfl (tm_le rfl) d_X_deliver_32 ?_
  rw [← hσ3]
  refine V.blk hC [(.aload_n 0, 1), (.dup, 1)] 35 [some (.ref 1), some (.ref a1), some (.ref a2)] [] ⟨d_X_deliver_35, d_X_deliver_36, trivial⟩ (show tv_run _ _ _ _ = some (37, [some (.ref 1), some (.ref a1), some (.ref a2)], [.ref 1, .ref 1]) from rfl) ?_
  refine V.getf hC tf_X_162 (kd_in kd_1 (by decide)) (hp_at kd_1) rfl d_X_deliver_37 ?_
  show V X 0 0 tm_n (hp σ3) 40 [some (.ref 1), some (.ref a1), some (.ref a2)] [.int (σ3.1 1 9), .ref 1]
  refine V.blk hC [(.iconst 1, 1), (.iadd, 1)] 40 [some (.ref 1), some (.ref a1), some (.ref a2)] [.int (σ3.1 1 9), .ref 1] ⟨d_X_deliver_40, d_X_deliver_41, trivial⟩ (show tv_run _ _ _ _ = some (42, [some (.ref 1), some (.ref a1), some (.ref a2)], [.int ((σ3.1 1 9) + (1 : Int32)), .ref 1]) from rfl) ?_
  obtain ⟨σ4, hσ4, hf⟩ := tm_ww hf
  refine V.seti hC tf_X_162 tt_X to_X tn_X rfl (by decide +kernel) tm_fi kd_1 (kd_in kd_1 (by decide)) rfl rfl (tm_le rfl) d_X_deliver_42 ?_
  rw [← hσ4]
  obtain rfl := Option.some.inj hf
  exact V.vret hC hr hE d_X_deliver_45 ⟨rfl, rfl, rfl⟩
