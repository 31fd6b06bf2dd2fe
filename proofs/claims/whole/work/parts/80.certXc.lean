set_option maxHeartbeats 4000000 in
set_option maxRecDepth 100000 in
theorem c_X_bestParent_L49 {X : tv_X} {r : Int32 × tm_S} (hC : tv_K X tb_X_bestParent 5 "TrickleMesh" tm_wg tm_ns tm_cl tm_ty { frames := 2, cells := 0, slots := 0, locals := 46 }) (hr : tv_ret X (some .int)) (hE : tv_end X (tm_P (some (.int r.1)) r.2) 0 0) {rc : tm_S → Nat → Int32 → Int32 → Option (Int32 × tm_S)} (hrc : ∀ (σ : tm_S) (l1 : Nat) (l2 : Int32) (l3 : Int32) (kl1 : kd l1 = 5), rc σ l1 l2 l3 = some r → V X 0 0 tm_n (hp σ) 4 [some (.ref 1), some (.ref l1), some (.int l2), some (.int l3), none] []) (σ : tm_S) (l1 : Nat) (l2 : Int32) (l3 : Int32) (kl1 : kd l1 = 5) (hf : f_X_bestParent_L49 rc σ l1 l2 l3 = some r) : V X 0 0 tm_n (hp σ) 49 [some (.ref 1), some (.ref l1), some (.int l2), some (.int l3), none] [] := by
  unfold f_X_bestParent_L49 at hf
  refine V.blk hC [(.iconst 0, 1)] 49 [some (.ref 1), some (.ref l1), some (.int l2), some (.int l3), none] [] ⟨d_X_bestParent_49, trivial⟩ (show tv_run _ _ _ _ = some (50, [some (.ref 1), some (.ref l1), some (.int l2), some (.int l3), none], [.int (0 : Int32)]) from rfl) ?_
  exact V.less (tv_le_some (tv_le_some (tv_le_some (tv_le_some (tv_le_none tv_le_nil))))) (c_X_bestParent_L50 hC hr hE hrc σ l1 l2 l3 (0 : Int32) kl1 hf)
set_option maxHeartbeats 4000000 in
set_option maxRecDepth 100000 in
theorem c_X_bestParent_L4 {X : tv_X} {r : Int32 × tm_S} (hC : tv_K X tb_X_bestParent 5 "TrickleMesh" tm_wg tm_ns tm_cl tm_ty { frames := 2, cells := 0, slots := 0, locals := 46 }) (hr : tv_ret X (some .int)) (hE : tv_end X (tm_P (some (.int r.1)) r.2) 0 0) : ∀ (k : Nat) (σ : tm_S) (l1 : Nat) (l2 : Int32) (l3 : Int32) (kl1 : kd l1 = 5), f_X_bestParent_L4 k σ l1 l2 l3 = some r → V X 0 0 tm_n (hp σ) 4 [some (.ref 1), some (.ref l1), some (.int l2), some (.int l3), none] [] := by
  intro k
  induction k with
  | zero => intro σ l1 l2 l3 kl1 hf; simp only [f_X_bestParent_L4] at hf; cases hf
  | succ k hrc =>
    intro σ l1 l2 l3 kl1 hf
    rw [f_X_bestParent_L4] at hf
    refine V.blk hC [(.iload_n 3, 1), (.bipush 7, 2)] 4 [some (.ref 1), some (.ref l1), some (.int l2), some (.int l3), none] [] ⟨d_X_bestParent_4, d_X_bestParent_5, trivial⟩ (show tv_run _ _ _ _ = some (7, [some (.ref 1), some (.ref l1), some (.int l2), some (.int l3), none], [.int (7 : Int32), .int l3]) from rfl) ?_
    refine V.icmp_ge hC d_X_bestParent_7 (tgt := 80) (by decide) (fun hc => ?_) (fun hc => ?_)
    · rw [if_pos hc] at hf
      refine V.blk hC [(.iload_n 2, 1)] 80 [some (.ref 1), some (.ref l1), some (.int l2), some (.int l3), none] [] ⟨d_X_bestParent_80, trivial⟩ (show tv_run _ _ _ _ = some (81, [some (.ref 1), some (.ref l1), some (.int l2), some (.int l3), none], [.int l2]) from rfl) ?_
      obtain rfl := Option.some.inj hf
      exact V.iret hC hr hE d_X_bestParent_81 ⟨rfl, rfl, rfl⟩
    · rw [if_neg hc] at hf
      refine V.blk hC [(.aload_n 0, 1)] 10 [some (.ref 1), some (.ref l1), some (.int l2), some (.int l3), none] [] ⟨d_X_bestParent_10, trivial⟩ (show tv_run _ _ _ _ = some (11, [some (.ref 1), some (.ref l1), some (.int l2), some (.int l3), none], [.ref 1]) from rfl) ?_
      refine V.getf hC tf_X_17 (kd_in kd_1 (by decide)) (hp_at kd_1) rfl d_X_bestParent_11 ?_
      show V X 0 0 tm_n (hp σ) 14 [some (.ref 1), some (.ref l1), some (.int l2), some (.int l3), none] [.ref 3]
      refine V.blk hC [(.aload_n 1, 1)] 14 [some (.ref 1), some (.ref l1), some (.int l2), some (.int l3), none] [.ref 3] ⟨d_X_bestParent_14, trivial⟩ (show tv_run _ _ _ _ = some (15, [some (.ref 1), some (.ref l1), some (.int l2), some (.int l3), none], [.ref l1, .ref 3]) from rfl) ?_
      refine V.getf hC tf_X_221 (kd_in kl1 (by decide)) (hp_at kl1) rfl d_X_bestParent_15 ?_
      show V X 0 0 tm_n (hp σ) 18 [some (.ref 1), some (.ref l1), some (.int l2), some (.int l3), none] [.int (σ.1 l1 0), .ref 3]
      obtain ⟨hb1, hf⟩ := tm_if hf
      refine V.aald hC (kd_in kd_3 (by decide)) (hp_at kd_3) rfl rfl hb1 d_X_bestParent_18 ?_
      show V X 0 0 tm_n (hp σ) 19 [some (.ref 1), some (.ref l1), some (.int l2), some (.int l3), none] [.ref (4 + (σ.1 l1 0).toNatClampNeg)]
      refine V.blk hC [(.iload_n 3, 1)] 19 [some (.ref 1), some (.ref l1), some (.int l2), some (.int l3), none] [.ref (4 + (σ.1 l1 0).toNatClampNeg)] ⟨d_X_bestParent_19, trivial⟩ (show tv_run _ _ _ _ = some (20, [some (.ref 1), some (.ref l1), some (.int l2), some (.int l3), none], [.int l3, .ref (4 + (σ.1 l1 0).toNatClampNeg)]) from rfl) ?_
      obtain ⟨hb2, hf⟩ := tm_if hf
      refine V.iald hC (kd_in (kd_costs hb1) (by decide)) (hp_at (kd_costs hb1)) rfl hb2 d_X_bestParent_20 ?_
      show V X 0 0 tm_n (hp σ) 21 [some (.ref 1), some (.ref l1), some (.int l2), some (.int l3), none] [.int (σ.1 (4 + (σ.1 l1 0).toNatClampNeg) l3.toNatClampNeg)]
      refine V.if_le hC d_X_bestParent_21 (tgt := 49) (by decide) (fun hc => ?_) (fun hc => ?_)
      · rw [if_pos hc] at hf
        exact V.less (tv_le_some (tv_le_some (tv_le_some (tv_le_some (tv_le_none tv_le_nil))))) (c_X_bestParent_L49 hC hr hE hrc σ l1 l2 l3 kl1 hf)
      · rw [if_neg hc] at hf
        refine V.blk hC [(.aload_n 1, 1)] 24 [some (.ref 1), some (.ref l1), some (.int l2), some (.int l3), none] [] ⟨d_X_bestParent_24, trivial⟩ (show tv_run _ _ _ _ = some (25, [some (.ref 1), some (.ref l1), some (.int l2), some (.int l3), none], [.ref l1]) from rfl) ?_
        refine V.getf hC tf_X_150 (kd_in kl1 (by decide)) (hp_at kl1) rfl d_X_bestParent_25 ?_
        show V X 0 0 tm_n (hp σ) 28 [some (.ref 1), some (.ref l1), some (.int l2), some (.int l3), none] [.ref (l1 + 12)]
        refine V.blk hC [(.iload_n 3, 1)] 28 [some (.ref 1), some (.ref l1), some (.int l2), some (.int l3), none] [.ref (l1 + 12)] ⟨d_X_bestParent_28, trivial⟩ (show tv_run _ _ _ _ = some (29, [some (.ref 1), some (.ref l1), some (.int l2), some (.int l3), none], [.int l3, .ref (l1 + 12)]) from rfl) ?_
        obtain ⟨hb3, hf⟩ := tm_if hf
        refine V.iald hC (kd_in (kd_5_12 kl1) (by decide)) (hp_at (kd_5_12 kl1)) rfl hb3 d_X_bestParent_29 ?_
        show V X 0 0 tm_n (hp σ) 30 [some (.ref 1), some (.ref l1), some (.int l2), some (.int l3), none] [.int (σ.1 (l1 + 12) l3.toNatClampNeg)]
        refine V.if_eq hC d_X_bestParent_30 (tgt := 49) (by decide) (fun hc => ?_) (fun hc => ?_)
        · rw [if_pos hc] at hf
          exact V.less (tv_le_some (tv_le_some (tv_le_some (tv_le_some (tv_le_none tv_le_nil))))) (c_X_bestParent_L49 hC hr hE hrc σ l1 l2 l3 kl1 hf)
        · rw [if_neg hc] at hf
          refine V.blk hC [(.aload_n 1, 1)] 33 [some (.ref 1), some (.ref l1), some (.int l2), some (.int l3), none] [] ⟨d_X_bestParent_33, trivial⟩ (show tv_run _ _ _ _ = some (34, [some (.ref 1), some (.ref l1), some (.int l2), some (.int l3), none], [.ref l1]) from rfl) ?_
          refine V.getf hC tf_X_150 (kd_in kl1 (by decide)) (hp_at kl1) rfl d_X_bestParent_34 ?_
          show V X 0 0 tm_n (hp σ) 37 [some (.ref 1), some (.ref l1), some (.int l2), some (.int l3), none] [.ref (l1 + 12)]
          refine V.blk hC [(.iload_n 3, 1)] 37 [some (.ref 1), some (.ref l1), some (.int l2), some (.int l3), none] [.ref (l1 + 12)] ⟨d_X_bestParent_37, trivial⟩ (show tv_run _ _ _ _ = some (38, [some (.ref 1), some (.ref l1), some (.int l2), some (.int l3), none], [.int l3, .ref (l1 + 12)]) from rfl) ?_
          obtain ⟨hb4, hf⟩ := tm_if hf
          refine V.iald hC (kd_in (kd_5_12 kl1) (by decide)) (hp_at (kd_5_12 kl1)) rfl hb4 d_X_bestParent_38 ?_
          show V X 0 0 tm_n (hp σ) 39 [some (.ref 1), some (.ref l1), some (.int l2), some (.int l3), none] [.int (σ.1 (l1 + 12) l3.toNatClampNeg)]
          refine V.blk hC [(.sipush 255, 3)] 39 [some (.ref 1), some (.ref l1), some (.int l2), some (.int l3), none] [.int (σ.1 (l1 + 12) l3.toNatClampNeg)] ⟨d_X_bestParent_39, trivial⟩ (show tv_run _ _ _ _ = some (42, [some (.ref 1), some (.ref l1), some (.int l2), some (.int l3), none], [.int (255 : Int32), .int (σ.1 (l1 + 12) l3.toNatClampNeg)]) from rfl) ?_
          refine V.icmp_eq hC d_X_bestParent_42 (tgt := 49) (by decide) (fun hc => ?_) (fun hc => ?_)
          · rw [if_pos hc] at hf
            exact V.less (tv_le_some (tv_le_some (tv_le_some (tv_le_some (tv_le_none tv_le_nil))))) (c_X_bestParent_L49 hC hr hE hrc σ l1 l2 l3 kl1 hf)
          · rw [if_neg hc] at hf
            refine V.blk hC [(.iconst 1, 1)] 45 [some (.ref 1), some (.ref l1), some (.int l2), some (.int l3), none] [] ⟨d_X_bestParent_45, trivial⟩ (show tv_run _ _ _ _ = some (46, [some (.ref 1), some (.ref l1), some (.int l2), some (.int l3), none], [.int (1 : Int32)]) from rfl) ?_
            refine V.goto hC d_X_bestParent_46 (tgt := 50) (by decide) ?_
            exact V.less (tv_le_some (tv_le_some (tv_le_some (tv_le_some (tv_le_none tv_le_nil))))) (c_X_bestParent_L50 hC hr hE hrc σ l1 l2 l3 (1 : Int32) kl1 hf)
set_option maxHeartbeats 4000000 in
set_option maxRecDepth 100000 in
theorem c_X_bestParent (σ : tm_S) (a1 : Nat) (k1 : kd a1 = 5) {r : Int32 × tm_S} (hf : f_X_bestParent σ a1 = some r) : tv_Met ty_X_bestParent (Cond.code ty_X_bestParent tb_X_bestParent 5 (some .int) :: tm_wg) tm_ns tm_cl tm_ty 2 46 0 0 [.ref 1, .ref a1] tm_n (hp σ) (tm_P (some (.int r.1)) r.2) := by
  refine tv_Met.of (by decide) rfl (tm_le rfl) ?_
  intro X hC hnm hr hE
  have hC : tv_K X tb_X_bestParent 5 "TrickleMesh" tm_wg tm_ns tm_cl tm_ty { frames := 2, cells := 0, slots := 0, locals := 46 } := hC
  show V X 0 0 tm_n (hp σ) 0 [some (.ref 1), some (.ref a1), none, none, none] []
  unfold f_X_bestParent at hf
  refine V.blk hC [(.iconst (-1), 1), (.istore_n 2, 1), (.iconst 0, 1), (.istore_n 3, 1)] 0 [some (.ref 1), some (.ref a1), none, none, none] [] ⟨d_X_bestParent_0, d_X_bestParent_1, d_X_bestParent_2, d_X_bestParent_3, trivial⟩ (show tv_run _ _ _ _ = some (4, [some (.ref 1), some (.ref a1), some (.int (-1 : Int32)), some (.int (0 : Int32)), none], []) from rfl) ?_
  exact V.less (tv_le_some (tv_le_some (tv_le_some (tv_le_some (tv_le_none tv_le_nil))))) (c_X_bestParent_L4 hC hr hE tm_fu σ a1 (-1 : Int32) (0 : Int32) k1 hf)
set_option maxHeartbeats 4000000 in
set_option maxRecDepth 100000 in
theorem c_X_ownGoals_L31 {X : tv_X} {r : Int32 × tm_S} (hC : tv_K X tb_X_ownGoals 3 "TrickleMesh" tm_wg tm_ns tm_cl tm_ty { frames := 0, cells := 0, slots := 0, locals := 0 }) (hr : tv_ret X (some .int)) (hE : tv_end X (tm_P (some (.int r.1)) r.2) 0 0) {rc : tm_S → Nat → Int32 → Int32 → Option (Int32 × tm_S)} (hrc : ∀ (σ : tm_S) (l0 : Nat) (l1 : Int32) (l2 : Int32) (kl0 : kd l0 = 5), rc σ l0 l1 l2 = some r → V X 0 0 tm_n (hp σ) 9 [some (.ref l0), some (.int l1), some (.int l2)] []) (σ : tm_S) (l0 : Nat) (l1 : Int32) (l2 : Int32) (kl0 : kd l0 = 5) (hf : f_X_ownGoals_L31 rc σ l0 l1 l2 = some r) : V X 0 0 tm_n (hp σ) 31 [some (.ref l0), some (.int l1), some (.int l2)] [] := by
  unfold f_X_ownGoals_L31 at hf
  refine V.blk hC [(.iinc 2 1, 3)] 31 [some (.ref l0), some (.int l1), some (.int l2)] [] ⟨d_X_ownGoals_31, trivial⟩ (show tv_run _ _ _ _ = some (34, [some (.ref l0), some (.int l1), some (.int (l2 + (1 : Int32)))], []) from rfl) ?_
  refine V.goto hC d_X_ownGoals_34 (tgt := 9) (by decide) ?_
  exact V.less (tv_le_some (tv_le_some (tv_le_some tv_le_nil))) (hrc σ l0 l1 (l2 + (1 : Int32)) kl0 hf)
set_option maxHeartbeats 4000000 in
set_option maxRecDepth 100000 in
theorem c_X_ownGoals_L9 {X : tv_X} {r : Int32 × tm_S} (hC : tv_K X tb_X_ownGoals 3 "TrickleMesh" tm_wg tm_ns tm_cl tm_ty { frames := 0, cells := 0, slots := 0, locals := 0 }) (hr : tv_ret X (some .int)) (hE : tv_end X (tm_P (some (.int r.1)) r.2) 0 0) : ∀ (k : Nat) (σ : tm_S) (l0 : Nat) (l1 : Int32) (l2 : Int32) (kl0 : kd l0 = 5), f_X_ownGoals_L9 k σ l0 l1 l2 = some r → V X 0 0 tm_n (hp σ) 9 [some (.ref l0), some (.int l1), some (.int l2)] [] := by
  intro k
  induction k with
  | zero => intro σ l0 l1 l2 kl0 hf; simp only [f_X_ownGoals_L9] at hf; cases hf
  | succ k hrc =>
    intro σ l0 l1 l2 kl0 hf
    rw [f_X_ownGoals_L9] at hf
    refine V.blk hC [(.iload_n 2, 1), (.bipush 7, 2)] 9 [some (.ref l0), some (.int l1), some (.int l2)] [] ⟨d_X_ownGoals_9, d_X_ownGoals_10, trivial⟩ (show tv_run _ _ _ _ = some (12, [some (.ref l0), some (.int l1), some (.int l2)], [.int (7 : Int32), .int l2]) from rfl) ?_
    refine V.icmp_ge hC d_X_ownGoals_12 (tgt := 37) (by decide) (fun hc => ?_) (fun hc => ?_)
    · rw [if_pos hc] at hf
      refine V.blk hC [(.iload_n 1, 1)] 37 [some (.ref l0), some (.int l1), some (.int l2)] [] ⟨d_X_ownGoals_37, trivial⟩ (show tv_run _ _ _ _ = some (38, [some (.ref l0), some (.int l1), some (.int l2)], [.int l1]) from rfl) ?_
      obtain rfl := Option.some.inj hf
      exact V.iret hC hr hE d_X_ownGoals_38 ⟨rfl, rfl, rfl⟩
    · rw [if_neg hc] at hf
      refine V.blk hC [(.aload_n 0, 1)] 15 [some (.ref l0), some (.int l1), some (.int l2)] [] ⟨d_X_ownGoals_15, trivial⟩ (show tv_run _ _ _ _ = some (16, [some (.ref l0), some (.int l1), some (.int l2)], [.ref l0]) from rfl) ?_
      refine V.getf hC tf_X_147 (kd_in kl0 (by decide)) (hp_at kl0) rfl d_X_ownGoals_16 ?_
      show V X 0 0 tm_n (hp σ) 19 [some (.ref l0), some (.int l1), some (.int l2)] [.ref (l0 + 13)]
      refine V.blk hC [(.iload_n 2, 1)] 19 [some (.ref l0), some (.int l1), some (.int l2)] [.ref (l0 + 13)] ⟨d_X_ownGoals_19, trivial⟩ (show tv_run _ _ _ _ = some (20, [some (.ref l0), some (.int l1), some (.int l2)], [.int l2, .ref (l0 + 13)]) from rfl) ?_
      obtain ⟨hb1, hf⟩ := tm_if hf
      refine V.iald hC (kd_in (kd_5_13 kl0) (by decide)) (hp_at (kd_5_13 kl0)) rfl hb1 d_X_ownGoals_20 ?_
      show V X 0 0 tm_n (hp σ) 21 [some (.ref l0), some (.int l1), some (.int l2)] [.int (σ.1 (l0 + 13) l2.toNatClampNeg)]
      refine V.blk hC [(.iconst (-1), 1)] 21 [some (.ref l0), some (.int l1), some (.int l2)] [.int (σ.1 (l0 + 13) l2.toNatClampNeg)] ⟨d_X_ownGoals_21, trivial⟩ (show tv_run _ _ _ _ = some (22, [some (.ref l0), some (.int l1), some (.int l2)], [.int (-1 : Int32), .int (σ.1 (l0 + 13) l2.toNatClampNeg)]) from rfl) ?_
      refine V.icmp_eq hC d_X_ownGoals_22 (tgt := 31) (by decide) (fun hc => ?_) (fun hc => ?_)
      · rw [if_pos hc] at hf
        exact V.less (tv_le_some (tv_le_some (tv_le_some tv_le_nil))) (c_X_ownGoals_L31 hC hr hE hrc σ l0 l1 l2 kl0 hf)
      · rw [if_neg hc] at hf
        refine V.blk hC [(.iload_n 1, 1), (.iconst 1, 1), (.iload_n 2, 1), (.ishl, 1), (.ior, 1), (.istore_n 1, 1)] 25 [some (.ref l0), some (.int l1), some (.int l2)] [] ⟨d_X_ownGoals_25, d_X_ownGoals_26, d_X_ownGoals_27, d_X_ownGoals_28, d_X_ownGoals_29, d_X_ownGoals_30, trivial⟩ (show tv_run _ _ _ _ = some (31, [some (.ref l0), some (.int (l1 ||| ((1 : Int32) <<< (l2 &&& 31)))), some (.int l2)], []) from rfl) ?_
        exact V.less (tv_le_some (tv_le_some (tv_le_some tv_le_nil))) (c_X_ownGoals_L31 hC hr hE hrc σ l0 (l1 ||| ((1 : Int32) <<< (l2 &&& 31))) l2 kl0 hf)
set_option maxHeartbeats 4000000 in
set_option maxRecDepth 100000 in
theorem c_X_ownGoals (σ : tm_S) (a0 : Nat) (k0 : kd a0 = 5) {r : Int32 × tm_S} (hf : f_X_ownGoals σ a0 = some r) : tv_Met ty_X_ownGoals (Cond.code ty_X_ownGoals tb_X_ownGoals 3 (some .int) :: tm_wg) tm_ns tm_cl tm_ty 0 0 0 0 [.ref a0] tm_n (hp σ) (tm_P (some (.int r.1)) r.2) := by
  refine tv_Met.of (by decide) rfl (tm_le rfl) ?_
  intro X hC hnm hr hE
  have hC : tv_K X tb_X_ownGoals 3 "TrickleMesh" tm_wg tm_ns tm_cl tm_ty { frames := 0, cells := 0, slots := 0, locals := 0 } := hC
  show V X 0 0 tm_n (hp σ) 0 [some (.ref a0), none, none] []
  unfold f_X_ownGoals at hf
  refine V.blk hC [(.iconst 1, 1), (.aload_n 0, 1)] 0 [some (.ref a0), none, none] [] ⟨d_X_ownGoals_0, d_X_ownGoals_1, trivial⟩ (show tv_run _ _ _ _ = some (2, [some (.ref a0), none, none], [.ref a0, .int (1 : Int32)]) from rfl) ?_
  refine V.getf hC tf_X_221 (kd_in k0 (by decide)) (hp_at k0) rfl d_X_ownGoals_2 ?_
  show V X 0 0 tm_n (hp σ) 5 [some (.ref a0), none, none] [.int (σ.1 a0 0), .int (1 : Int32)]
  refine V.blk hC [(.ishl, 1), (.istore_n 1, 1), (.iconst 0, 1), (.istore_n 2, 1)] 5 [some (.ref a0), none, none] [.int (σ.1 a0 0), .int (1 : Int32)] ⟨d_X_ownGoals_5, d_X_ownGoals_6, d_X_ownGoals_7, d_X_ownGoals_8, trivial⟩ (show tv_run _ _ _ _ = some (9, [some (.ref a0), some (.int ((1 : Int32) <<< ((σ.1 a0 0) &&& 31))), some (.int (0 : Int32))], []) from rfl) ?_
  exact V.less (tv_le_some (tv_le_some (tv_le_some tv_le_nil))) (c_X_ownGoals_L9 hC hr hE tm_fu σ a0 ((1 : Int32) <<< ((σ.1 a0 0) &&& 31)) (0 : Int32) k0 hf)
set_option maxHeartbeats 4000000 in
set_option maxRecDepth 100000 in
theorem c_X_announce (σ : tm_S) (a1 : Nat) (a2 : Int32) (a3 : Int32) (a4 : Int32) (k1 : kd a1 = 5) {r : tm_S} (hf : f_X_announce σ a1 a2 a3 a4 = some r) : tv_Met ty_X_announce (Cond.code ty_X_announce tb_X_announce 6 none :: tm_wg) tm_ns tm_cl tm_ty 2 46 0 0 [.ref 1, .ref a1, .int a2, .int a3, .int a4] tm_n (hp σ) (tm_P none r) := by
  refine tv_Met.of (by decide) rfl (tm_le rfl) ?_
  intro X hC hnm hr hE
  have hC : tv_K X tb_X_announce 6 "TrickleMesh" tm_wg tm_ns tm_cl tm_ty { frames := 2, cells := 0, slots := 0, locals := 46 } := hC
  show V X 0 0 tm_n (hp σ) 0 [some (.ref 1), some (.ref a1), some (.int a2), some (.int a3), some (.int a4), none] []
  unfold f_X_announce at hf
  refine V.blk hC [(.aload_n 0, 1), (.aload_n 1, 1), (.iconst 3, 1), (.iload_n 3, 1)] 0 [some (.ref 1), some (.ref a1), some (.int a2), some (.int a3), some (.int a4), none] [] ⟨d_X_announce_0, d_X_announce_1, d_X_announce_2, d_X_announce_3, trivial⟩ (show tv_run _ _ _ _ = some (4, [some (.ref 1), some (.ref a1), some (.int a2), some (.int a3), some (.int a4), none], [.int a3, .int (3 : Int32), .ref a1, .ref 1]) from rfl) ?_
  obtain ⟨q1, hq1, hf⟩ := tm_bd hf
  refine V.callV hC tm_nest rfl (c_X_enqueue σ a1 (3 : Int32) a3 k1 hq1) (tm_gd tc_X_enqueue) tg_X_194 th_X_enqueue ⟨tm_le rfl, tm_le rfl, tm_le rfl, tm_le rfl⟩ rfl (kd_in kd_1 (by decide)) (hp_at kd_1) (As := [.ref a1, .int (3 : Int32), .int a3]) (st := []) rfl (tm_le rfl) d_X_announce_4 ?_
  rintro v n2 h2 ⟨rfl, rfl, rfl⟩
  show V X 0 0 tm_n (hp q1.2) 7 [some (.ref 1), some (.ref a1), some (.int a2), some (.int a3), some (.int a4), none] [va_rf q1.1]
  refine V.blk hC [(.astore 5, 2), (.aload 5, 2)] 7 [some (.ref 1), some (.ref a1), some (.int a2), some (.int a3), some (.int a4), none] [va_rf q1.1] ⟨d_X_announce_7, d_X_announce_9, trivial⟩ (show tv_run _ _ _ _ = some (11, [some (.ref 1), some (.ref a1), some (.int a2), some (.int a3), some (.int a4), some (va_rf q1.1)], [va_rf q1.1]) from by cases hq_ : q1.1 <;> rfl) ?_
  rcases ho2 : q1.1 with _ | o2
  · simp only [ho2] at hf
    simp only [ho2, va_rf]
    refine V.ifnonnullN hC d_X_announce_11 ?_
    obtain rfl := Option.some.inj hf
    exact V.vret hC hr hE d_X_announce_14 ⟨rfl, rfl, rfl⟩
  · simp only [ho2] at hf
    simp only [ho2, va_rf]
    obtain ⟨ko2, hf⟩ := tm_if hf
    refine V.ifnonnull hC d_X_announce_11 (tgt := 15) (by decide) ?_
    refine V.blk hC [(.aload 5, 2), (.iload_n 2, 1)] 15 [some (.ref 1), some (.ref a1), some (.int a2), some (.int a3), some (.int a4), some (.ref o2)] [] ⟨d_X_announce_15, d_X_announce_17, trivial⟩ (show tv_run _ _ _ _ = some (18, [some (.ref 1), some (.ref a1), some (.int a2), some (.int a3), some (.int a4), some (.ref o2)], [.int a2, .ref o2]) from rfl) ?_
    obtain ⟨σ3, hσ3, hf⟩ := tm_ww hf
    refine V.seti hC tf_X_295 tt_F to_F tn_F rfl (by decide +kernel) tm_fi ko2 (kd_in ko2 (by decide)) rfl rfl (tm_le rfl) d_X_announce_18 ?_
    rw [← hσ3]
    refine V.blk hC [(.aload 5, 2), (.iload 4, 2)] 21 [some (.ref 1), some (.ref a1), some (.int a2), some (.int a3), some (.int a4), some (.ref o2)] [] ⟨d_X_announce_21, d_X_announce_23, trivial⟩ (show tv_run _ _ _ _ = some (25, [some (.ref 1), some (.ref a1), some (.int a2), some (.int a3), some (.int a4), some (.ref o2)], [.int a4, .ref o2]) from rfl) ?_
    obtain ⟨hz6, hf⟩ := tm_if hf
    obtain ⟨σ4, hσ4, hf⟩ := tm_ww hf
    refine V.seti hC tf_X_298 tt_F to_F tn_F rfl (by decide +kernel) (tm_fz hz6) ko2 (kd_in ko2 (by decide)) rfl rfl (tm_le rfl) d_X_announce_25 ?_
    rw [← hσ4]
    refine V.blk hC [(.aload_n 1, 1)] 28 [some (.ref 1), some (.ref a1), some (.int a2), some (.int a3), some (.int a4), some (.ref o2)] [] ⟨d_X_announce_28, trivial⟩ (show tv_run _ _ _ _ = some (29, [some (.ref 1), some (.ref a1), some (.int a2), some (.int a3), some (.int a4), some (.ref o2)], [.ref a1]) from rfl) ?_
    refine V.getf hC tf_X_143 (kd_in k1 (by decide)) (hp_at k1) rfl d_X_announce_29 ?_
    show V X 0 0 tm_n (hp σ4) 32 [some (.ref 1), some (.ref a1), some (.int a2), some (.int a3), some (.int a4), some (.ref o2)] [.ref (a1 + 14)]
    refine V.blk hC [(.iconst 0, 1), (.aload 5, 2)] 32 [some (.ref 1), some (.ref a1), some (.int a2), some (.int a3), some (.int a4), some (.ref o2)] [.ref (a1 + 14)] ⟨d_X_announce_32, d_X_announce_33, trivial⟩ (show tv_run _ _ _ _ = some (35, [some (.ref 1), some (.ref a1), some (.int a2), some (.int a3), some (.int a4), some (.ref o2)], [.ref o2, .int (0 : Int32), .ref (a1 + 14)]) from rfl) ?_
    refine V.getf hC tf_X_301 (kd_in ko2 (by decide)) (hp_at ko2) rfl d_X_announce_35 ?_
    show V X 0 0 tm_n (hp σ4) 38 [some (.ref 1), some (.ref a1), some (.int a2), some (.int a3), some (.int a4), some (.ref o2)] [.ref (o2 + 1), .int (0 : Int32), .ref (a1 + 14)]
    refine V.blk hC [(.iconst 0, 1), (.bipush 7, 2)] 38 [some (.ref 1), some (.ref a1), some (.int a2), some (.int a3), some (.int a4), some (.ref o2)] [.ref (o2 + 1), .int (0 : Int32), .ref (a1 + 14)] ⟨d_X_announce_38, d_X_announce_39, trivial⟩ (show tv_run _ _ _ _ = some (41, [some (.ref 1), some (.ref a1), some (.int a2), some (.int a3), some (.int a4), some (.ref o2)], [.int (7 : Int32), .int (0 : Int32), .ref (o2 + 1), .int (0 : Int32), .ref (a1 + 14)]) from rfl) ?_
    obtain ⟨σ5, hσ5, hf⟩ := tm_ww hf
    refine V.copy hC rfl tg_X_302 (kd_5_14 k1) (kd_8_4 ko2) (kd_in (kd_5_14 k1) (by decide)) (kd_in (kd_8_4 ko2) (by decide)) ⟨tm_le rfl, tm_le rfl⟩ d_X_announce_41 ?_
    rw [← hσ5]
    obtain rfl := Option.some.inj hf
    exact V.vret hC hr hE d_X_announce_44 ⟨rfl, rfl, rfl⟩
set_option maxHeartbeats 4000000 in
set_option maxRecDepth 100000 in
theorem c_X_choose_L148 {X : tv_X} {r : tm_S} (hC : tv_K X tb_X_choose 6 "TrickleMesh" tm_wg tm_ns tm_cl tm_ty { frames := 3, cells := 0, slots := 0, locals := 71 }) (hr : tv_ret X none) (hE : tv_end X (tm_P none r) 0 0) (σ : tm_S) (l1 : Nat) (l3 : Int32) (l4 : Int32) (kl1 : kd l1 = 5) (hf : f_X_choose_L148 σ l1 l3 l4 = some r) : V X 0 0 tm_n (hp σ) 148 [some (.ref 1), some (.ref l1), none, some (.int l3), some (.int l4), none] [] := by
  unfold f_X_choose_L148 at hf
  refine V.blk hC [(.iload 4, 2), (.iload_n 3, 1)] 148 [some (.ref 1), some (.ref l1), none, some (.int l3), some (.int l4), none] [] ⟨d_X_choose_148, d_X_choose_150, trivial⟩ (show tv_run _ _ _ _ = some (151, [some (.ref 1), some (.ref l1), none, some (.int l3), some (.int l4), none], [.int l3, .int l4]) from rfl) ?_
  refine V.icmp_eq hC d_X_choose_151 (tgt := 185) (by decide) (fun hc => ?_) (fun hc => ?_)
  · rw [if_pos hc] at hf
    obtain rfl := Option.some.inj hf
    exact V.vret hC hr hE d_X_choose_185 ⟨rfl, rfl, rfl⟩
  · rw [if_neg hc] at hf
    refine V.blk hC [(.iload 4, 2), (.iconst (-1), 1)] 154 [some (.ref 1), some (.ref l1), none, some (.int l3), some (.int l4), none] [] ⟨d_X_choose_154, d_X_choose_156, trivial⟩ (show tv_run _ _ _ _ = some (157, [some (.ref 1), some (.ref l1), none, some (.int l3), some (.int l4), none], [.int (-1 : Int32), .int l4]) from rfl) ?_
    refine V.icmp_eq hC d_X_choose_157 (tgt := 185) (by decide) (fun hc => ?_) (fun hc => ?_)
    · rw [if_pos hc] at hf
      obtain rfl := Option.some.inj hf
      exact V.vret hC hr hE d_X_choose_185 ⟨rfl, rfl, rfl⟩
    · rw [if_neg hc] at hf
      refine V.blk hC [(.aload_n 1, 1)] 160 [some (.ref 1), some (.ref l1), none, some (.int l3), some (.int l4), none] [] ⟨d_X_choose_160, trivial⟩ (show tv_run _ _ _ _ = some (161, [some (.ref 1), some (.ref l1), none, some (.int l3), some (.int l4), none], [.ref l1]) from rfl) ?_
      refine V.getf hC tf_X_143 (kd_in kl1 (by decide)) (hp_at kl1) rfl d_X_choose_161 ?_
      show V X 0 0 tm_n (hp σ) 164 [some (.ref 1), some (.ref l1), none, some (.int l3), some (.int l4), none] [.ref (l1 + 14)]
      refine V.blk hC [(.aload_n 1, 1)] 164 [some (.ref 1), some (.ref l1), none, some (.int l3), some (.int l4), none] [.ref (l1 + 14)] ⟨d_X_choose_164, trivial⟩ (show tv_run _ _ _ _ = some (165, [some (.ref 1), some (.ref l1), none, some (.int l3), some (.int l4), none], [.ref l1, .ref (l1 + 14)]) from rfl) ?_
      refine V.getf hC tf_X_221 (kd_in kl1 (by decide)) (hp_at kl1) rfl d_X_choose_165 ?_
      show V X 0 0 tm_n (hp σ) 168 [some (.ref 1), some (.ref l1), none, some (.int l3), some (.int l4), none] [.int (σ.1 l1 0), .ref (l1 + 14)]
      refine V.blk hC [(.dup2, 1)] 168 [some (.ref 1), some (.ref l1), none, some (.int l3), some (.int l4), none] [.int (σ.1 l1 0), .ref (l1 + 14)] ⟨d_X_choose_168, trivial⟩ (show tv_run _ _ _ _ = some (169, [some (.ref 1), some (.ref l1), none, some (.int l3), some (.int l4), none], [.int (σ.1 l1 0), .ref (l1 + 14), .int (σ.1 l1 0), .ref (l1 + 14)]) from rfl) ?_
      obtain ⟨hb10, hf⟩ := tm_if hf
      refine V.iald hC (kd_in (kd_5_14 kl1) (by decide)) (hp_at (kd_5_14 kl1)) rfl hb10 d_X_choose_169 ?_
      show V X 0 0 tm_n (hp σ) 170 [some (.ref 1), some (.ref l1), none, some (.int l3), some (.int l4), none] [.int (σ.1 (l1 + 14) (σ.1 l1 0).toNatClampNeg), .int (σ.1 l1 0), .ref (l1 + 14)]
      refine V.blk hC [(.iconst 1, 1), (.iadd, 1)] 170 [some (.ref 1), some (.ref l1), none, some (.int l3), some (.int l4), none] [.int (σ.1 (l1 + 14) (σ.1 l1 0).toNatClampNeg), .int (σ.1 l1 0), .ref (l1 + 14)] ⟨d_X_choose_170, d_X_choose_171, trivial⟩ (show tv_run _ _ _ _ = some (172, [some (.ref 1), some (.ref l1), none, some (.int l3), some (.int l4), none], [.int ((σ.1 (l1 + 14) (σ.1 l1 0).toNatClampNeg) + (1 : Int32)), .int (σ.1 l1 0), .ref (l1 + 14)]) from rfl) ?_
      obtain ⟨hb11, hf⟩ := tm_if hf
      obtain ⟨σ12, hσ12, hf⟩ := tm_ww hf
      refine V.seta hC (kd_5_14 kl1) (kd_in (kd_5_14 kl1) (by decide)) rfl rfl rfl hb11 d_X_choose_172 ?_
      rw [← hσ12]
      refine V.blk hC [(.aload_n 0, 1), (.aload_n 1, 1), (.aload_n 1, 1)] 173 [some (.ref 1), some (.ref l1), none, some (.int l3), some (.int l4), none] [] ⟨d_X_choose_173, d_X_choose_174, d_X_choose_175, trivial⟩ (show tv_run _ _ _ _ = some (176, [some (.ref 1), some (.ref l1), none, some (.int l3), some (.int l4), none], [.ref l1, .ref l1, .ref 1]) from rfl) ?_
      obtain ⟨q13, hq13, hf⟩ := tm_bd hf
      refine V.callS hC tm_nest rfl (c_X_ownGoals σ12 l1 kl1 hq13) (tm_gd tc_X_ownGoals) tg_X_251 th_X_ownGoals ⟨tm_le rfl, tm_le rfl, tm_le rfl, tm_le rfl⟩ (As := [.ref l1]) (st := [.ref l1, .ref 1]) rfl (tm_le rfl) d_X_choose_176 ?_
      rintro v n2 h2 ⟨rfl, rfl, rfl⟩
      show V X 0 0 tm_n (hp q13.2) 179 [some (.ref 1), some (.ref l1), none, some (.int l3), some (.int l4), none] [.int q13.1, .ref l1, .ref 1]
      refine V.blk hC [(.iload 4, 2), (.iconst 0, 1)] 179 [some (.ref 1), some (.ref l1), none, some (.int l3), some (.int l4), none] [.int q13.1, .ref l1, .ref 1] ⟨d_X_choose_179, d_X_choose_181, trivial⟩ (show tv_run _ _ _ _ = some (182, [some (.ref 1), some (.ref l1), none, some (.int l3), some (.int l4), none], [.int (0 : Int32), .int l4, .int q13.1, .ref l1, .ref 1]) from rfl) ?_
      obtain ⟨q14, hq14, hf⟩ := tm_bd hf
      refine V.callV hC tm_nest rfl (c_X_announce q13.2 l1 q13.1 l4 (0 : Int32) kl1 hq14) (tm_gd tc_X_announce) tg_X_254 th_X_announce ⟨tm_le rfl, tm_le rfl, tm_le rfl, tm_le rfl⟩ rfl (kd_in kd_1 (by decide)) (hp_at kd_1) (As := [.ref l1, .int q13.1, .int l4, .int (0 : Int32)]) (st := []) rfl (tm_le rfl) d_X_choose_182 ?_
      rintro v n2 h2 ⟨rfl, rfl, rfl⟩
      show V X 0 0 tm_n (hp q14) 185 [some (.ref 1), some (.ref l1), none, some (.int l3), some (.int l4), none] []
      obtain rfl := Option.some.inj hf
      exact V.vret hC hr hE d_X_choose_185 ⟨rfl, rfl, rfl⟩
set_option maxHeartbeats 4000000 in
set_option maxRecDepth 100000 in
theorem c_X_choose_L126 {X : tv_X} {r : tm_S} (hC : tv_K X tb_X_choose 6 "TrickleMesh" tm_wg tm_ns tm_cl tm_ty { frames := 3, cells := 0, slots := 0, locals := 71 }) (hr : tv_ret X none) (hE : tv_end X (tm_P none r) 0 0) (σ : tm_S) (l1 : Nat) (l3 : Int32) (l4 : Int32) (kl1 : kd l1 = 5) (hf : f_X_choose_L126 σ l1 l3 l4 = some r) : V X 0 0 tm_n (hp σ) 126 [some (.ref 1), some (.ref l1), none, some (.int l3), some (.int l4), none] [] := by
  unfold f_X_choose_L126 at hf
  refine V.blk hC [(.iload 4, 2), (.iload_n 3, 1)] 126 [some (.ref 1), some (.ref l1), none, some (.int l3), some (.int l4), none] [] ⟨d_X_choose_126, d_X_choose_128, trivial⟩ (show tv_run _ _ _ _ = some (129, [some (.ref 1), some (.ref l1), none, some (.int l3), some (.int l4), none], [.int l3, .int l4]) from rfl) ?_
  refine V.icmp_eq hC d_X_choose_129 (tgt := 148) (by decide) (fun hc => ?_) (fun hc => ?_)
  · rw [if_pos hc] at hf
    exact V.less (tv_le_some (tv_le_some (tv_le_none (tv_le_some (tv_le_some (tv_le_none tv_le_nil)))))) (c_X_choose_L148 hC hr hE σ l1 l3 l4 kl1 hf)
  · rw [if_neg hc] at hf
    refine V.blk hC [(.iload_n 3, 1), (.iconst (-1), 1)] 132 [some (.ref 1), some (.ref l1), none, some (.int l3), some (.int l4), none] [] ⟨d_X_choose_132, d_X_choose_133, trivial⟩ (show tv_run _ _ _ _ = some (134, [some (.ref 1), some (.ref l1), none, some (.int l3), some (.int l4), none], [.int (-1 : Int32), .int l3]) from rfl) ?_
    refine V.icmp_eq hC d_X_choose_134 (tgt := 148) (by decide) (fun hc => ?_) (fun hc => ?_)
    · rw [if_pos hc] at hf
      exact V.less (tv_le_some (tv_le_some (tv_le_none (tv_le_some (tv_le_some (tv_le_none tv_le_nil)))))) (c_X_choose_L148 hC hr hE σ l1 l3 l4 kl1 hf)
    · rw [if_neg hc] at hf
      refine V.blk hC [(.aload_n 0, 1), (.aload_n 1, 1), (.aload_n 1, 1)] 137 [some (.ref 1), some (.ref l1), none, some (.int l3), some (.int l4), none] [] ⟨d_X_choose_137, d_X_choose_138, d_X_choose_139, trivial⟩ (show tv_run _ _ _ _ = some (140, [some (.ref 1), some (.ref l1), none, some (.int l3), some (.int l4), none], [.ref l1, .ref l1, .ref 1]) from rfl) ?_
      obtain ⟨q8, hq8, hf⟩ := tm_bd hf
      refine V.callS hC tm_nest rfl (c_X_ownGoals σ l1 kl1 hq8) (tm_gd tc_X_ownGoals) tg_X_251 th_X_ownGoals ⟨tm_le rfl, tm_le rfl, tm_le rfl, tm_le rfl⟩ (As := [.ref l1]) (st := [.ref l1, .ref 1]) rfl (tm_le rfl) d_X_choose_140 ?_
      rintro v n2 h2 ⟨rfl, rfl, rfl⟩
      show V X 0 0 tm_n (hp q8.2) 143 [some (.ref 1), some (.ref l1), none, some (.int l3), some (.int l4), none] [.int q8.1, .ref l1, .ref 1]
      refine V.blk hC [(.iload_n 3, 1), (.iconst 1, 1)] 143 [some (.ref 1), some (.ref l1), none, some (.int l3), some (.int l4), none] [.int q8.1, .ref l1, .ref 1] ⟨d_X_choose_143, d_X_choose_144, trivial⟩ (show tv_run _ _ _ _ = some (145, [some (.ref 1), some (.ref l1), none, some (.int l3), some (.int l4), none], [.int (1 : Int32), .int l3, .int q8.1, .ref l1, .ref 1]) from rfl) ?_
      obtain ⟨q9, hq9, hf⟩ := tm_bd hf
      refine V.callV hC tm_nest rfl (c_X_announce q8.2 l1 q8.1 l3 (1 : Int32) kl1 hq9) (tm_gd tc_X_announce) tg_X_254 th_X_announce ⟨tm_le rfl, tm_le rfl, tm_le rfl, tm_le rfl⟩ rfl (kd_in kd_1 (by decide)) (hp_at kd_1) (As := [.ref l1, .int q8.1, .int l3, .int (1 : Int32)]) (st := []) rfl (tm_le rfl) d_X_choose_145 ?_
      rintro v n2 h2 ⟨rfl, rfl, rfl⟩
      show V X 0 0 tm_n (hp q9) 148 [some (.ref 1), some (.ref l1), none, some (.int l3), some (.int l4), none] []
      exact V.less (tv_le_some (tv_le_some (tv_le_none (tv_le_some (tv_le_some (tv_le_none tv_le_nil)))))) (c_X_choose_L148 hC hr hE q9 l1 l3 l4 kl1 hf)
set_option maxHeartbeats 4000000 in
set_option maxRecDepth 100000 in
theorem c_X_choose_L121 {X : tv_X} {r : tm_S} (hC : tv_K X tb_X_choose 6 "TrickleMesh" tm_wg tm_ns tm_cl tm_ty { frames := 3, cells := 0, slots := 0, locals := 71 }) (hr : tv_ret X none) (hE : tv_end X (tm_P none r) 0 0) (σ : tm_S) (l1 : Nat) (l3 : Int32) (l4 : Int32) (kl1 : kd l1 = 5) (hf : f_X_choose_L121 σ l1 l3 l4 = some r) : V X 0 0 tm_n (hp σ) 121 [some (.ref 1), some (.ref l1), none, some (.int l3), some (.int l4), none] [] := by
  unfold f_X_choose_L121 at hf
  refine V.blk hC [(.aload_n 0, 1), (.aload_n 1, 1)] 121 [some (.ref 1), some (.ref l1), none, some (.int l3), some (.int l4), none] [] ⟨d_X_choose_121, d_X_choose_122, trivial⟩ (show tv_run _ _ _ _ = some (123, [some (.ref 1), some (.ref l1), none, some (.int l3), some (.int l4), none], [.ref l1, .ref 1]) from rfl) ?_
  obtain ⟨q7, hq7, hf⟩ := tm_bd hf
  refine V.callV hC tm_nest rfl (c_X_resetTimer σ l1 kl1 hq7) (tm_gd tc_X_resetTimer) tg_X_58 th_X_resetTimer ⟨tm_le rfl, tm_le rfl, tm_le rfl, tm_le rfl⟩ rfl (kd_in kd_1 (by decide)) (hp_at kd_1) (As := [.ref l1]) (st := []) rfl (tm_le rfl) d_X_choose_123 ?_
  rintro v n2 h2 ⟨rfl, rfl, rfl⟩
  show V X 0 0 tm_n (hp q7) 126 [some (.ref 1), some (.ref l1), none, some (.int l3), some (.int l4), none] []
  exact V.less (tv_le_some (tv_le_some (tv_le_none (tv_le_some (tv_le_some (tv_le_none tv_le_nil)))))) (c_X_choose_L126 hC hr hE q7 l1 l3 l4 kl1 hf)
set_option maxHeartbeats 4000000 in
set_option maxRecDepth 100000 in
theorem c_X_choose_L109 {X : tv_X} {r : tm_S} (hC : tv_K X tb_X_choose 6 "TrickleMesh" tm_wg tm_ns tm_cl tm_ty { frames := 3, cells := 0, slots := 0, locals := 71 }) (hr : tv_ret X none) (hE : tv_end X (tm_P none r) 0 0) (σ : tm_S) (l1 : Nat) (l2 : Int32) (l3 : Int32) (l4 : Int32) (l5 : Int32) (kl1 : kd l1 = 5) (hf : f_X_choose_L109 σ l1 l2 l3 l4 l5 = some r) : V X 0 0 tm_n (hp σ) 109 [some (.ref 1), some (.ref l1), some (.int l2), some (.int l3), some (.int l4), some (.int l5)] [] := by
  unfold f_X_choose_L109 at hf
  refine V.blk hC [(.iload 5, 2), (.iload_n 2, 1)] 109 [some (.ref 1), some (.ref l1), some (.int l2), some (.int l3), some (.int l4), some (.int l5)] [] ⟨d_X_choose_109, d_X_choose_111, trivial⟩ (show tv_run _ _ _ _ = some (112, [some (.ref 1), some (.ref l1), some (.int l2), some (.int l3), some (.int l4), some (.int l5)], [.int l2, .int l5]) from rfl) ?_
  refine V.icmp_ne hC d_X_choose_112 (tgt := 121) (by decide) (fun hc => ?_) (fun hc => ?_)
  · rw [if_neg hc] at hf
    exact V.less (tv_le_some (tv_le_some (tv_le_none (tv_le_some (tv_le_some (tv_le_none tv_le_nil)))))) (c_X_choose_L121 hC hr hE σ l1 l3 l4 kl1 hf)
  · rw [if_pos hc] at hf
    refine V.blk hC [(.iload 4, 2), (.iload_n 3, 1)] 115 [some (.ref 1), some (.ref l1), some (.int l2), some (.int l3), some (.int l4), some (.int l5)] [] ⟨d_X_choose_115, d_X_choose_117, trivial⟩ (show tv_run _ _ _ _ = some (118, [some (.ref 1), some (.ref l1), some (.int l2), some (.int l3), some (.int l4), some (.int l5)], [.int l3, .int l4]) from rfl) ?_
    refine V.icmp_eq hC d_X_choose_118 (tgt := 126) (by decide) (fun hc => ?_) (fun hc => ?_)
    · rw [if_pos hc] at hf
      exact V.less (tv_le_some (tv_le_some (tv_le_none (tv_le_some (tv_le_some (tv_le_none tv_le_nil)))))) (c_X_choose_L126 hC hr hE σ l1 l3 l4 kl1 hf)
    · rw [if_neg hc] at hf
      exact V.less (tv_le_some (tv_le_some (tv_le_none (tv_le_some (tv_le_some (tv_le_none tv_le_nil)))))) (c_X_choose_L121 hC hr hE σ l1 l3 l4 kl1 hf)
set_option maxHeartbeats 4000000 in
set_option maxRecDepth 100000 in
theorem c_X_choose_L68 {X : tv_X} {r : tm_S} (hC : tv_K X tb_X_choose 6 "TrickleMesh" tm_wg tm_ns tm_cl tm_ty { frames := 3, cells := 0, slots := 0, locals := 71 }) (hr : tv_ret X none) (hE : tv_end X (tm_P none r) 0 0) (σ : tm_S) (l1 : Nat) (l2 : Int32) (l3 : Int32) (l4 : Int32) (l5 : Int32) (kl1 : kd l1 = 5) (hf : f_X_choose_L68 σ l1 l2 l3 l4 l5 = some r) : V X 0 0 tm_n (hp σ) 68 [some (.ref 1), some (.ref l1), some (.int l2), some (.int l3), some (.int l4), some (.int l5)] [] := by
  unfold f_X_choose_L68 at hf
  refine V.blk hC [(.aload_n 1, 1), (.iload 5, 2)] 68 [some (.ref 1), some (.ref l1), some (.int l2), some (.int l3), some (.int l4), some (.int l5)] [] ⟨d_X_choose_68, d_X_choose_69, trivial⟩ (show tv_run _ _ _ _ = some (71, [some (.ref 1), some (.ref l1), some (.int l2), some (.int l3), some (.int l4), some (.int l5)], [.int l5, .ref l1]) from rfl) ?_
  obtain ⟨σ3, hσ3, hf⟩ := tm_ww hf
  refine V.seti hC tf_X_45 tt_N to_N tn_N rfl (by decide +kernel) tm_fi kl1 (kd_in kl1 (by decide)) rfl rfl (tm_le rfl) d_X_choose_71 ?_
  rw [← hσ3]
  refine V.blk hC [(.aload_n 1, 1), (.iload 4, 2)] 74 [some (.ref 1), some (.ref l1), some (.int l2), some (.int l3), some (.int l4), some (.int l5)] [] ⟨d_X_choose_74, d_X_choose_75, trivial⟩ (show tv_run _ _ _ _ = some (77, [some (.ref 1), some (.ref l1), some (.int l2), some (.int l3), some (.int l4), some (.int l5)], [.int l4, .ref l1]) from rfl) ?_
  obtain ⟨σ4, hσ4, hf⟩ := tm_ww hf
  refine V.seti hC tf_X_115 tt_N to_N tn_N rfl (by decide +kernel) tm_fi kl1 (kd_in kl1 (by decide)) rfl rfl (tm_le rfl) d_X_choose_77 ?_
  rw [← hσ4]
  refine V.blk hC [(.aload_n 1, 1), (.aload_n 1, 1)] 80 [some (.ref 1), some (.ref l1), some (.int l2), some (.int l3), some (.int l4), some (.int l5)] [] ⟨d_X_choose_80, d_X_choose_81, trivial⟩ (show tv_run _ _ _ _ = some (82, [some (.ref 1), some (.ref l1), some (.int l2), some (.int l3), some (.int l4), some (.int l5)], [.ref l1, .ref l1]) from rfl) ?_
  refine V.getf hC tf_X_136 (kd_in kl1 (by decide)) (hp_at kl1) rfl d_X_choose_82 ?_
  show V X 0 0 tm_n (hp σ4) 85 [some (.ref 1), some (.ref l1), some (.int l2), some (.int l3), some (.int l4), some (.int l5)] [.int (σ4.1 l1 13), .ref l1]
  refine V.blk hC [(.iload 5, 2)] 85 [some (.ref 1), some (.ref l1), some (.int l2), some (.int l3), some (.int l4), some (.int l5)] [.int (σ4.1 l1 13), .ref l1] ⟨d_X_choose_85, trivial⟩ (show tv_run _ _ _ _ = some (87, [some (.ref 1), some (.ref l1), some (.int l2), some (.int l3), some (.int l4), some (.int l5)], [.int l5, .int (σ4.1 l1 13), .ref l1]) from rfl) ?_
  refine V.mmin hC rfl tg_X_24 ⟨tm_le rfl, tm_le rfl, tm_le rfl, tm_le rfl⟩ d_X_choose_87 ?_
  obtain ⟨σ5, hσ5, hf⟩ := tm_ww hf
  refine V.seti hC tf_X_136 tt_N to_N tn_N rfl (by decide +kernel) tm_fi kl1 (kd_in kl1 (by decide)) rfl rfl (tm_le rfl) d_X_choose_90 ?_
  rw [← hσ5]
  refine V.blk hC [(.iload 5, 2), (.sipush 255, 3)] 93 [some (.ref 1), some (.ref l1), some (.int l2), some (.int l3), some (.int l4), some (.int l5)] [] ⟨d_X_choose_93, d_X_choose_95, trivial⟩ (show tv_run _ _ _ _ = some (98, [some (.ref 1), some (.ref l1), some (.int l2), some (.int l3), some (.int l4), some (.int l5)], [.int (255 : Int32), .int l5]) from rfl) ?_
  refine V.icmp_eq hC d_X_choose_98 (tgt := 109) (by decide) (fun hc => ?_) (fun hc => ?_)
  · rw [if_pos hc] at hf
    exact V.less (tv_le_some (tv_le_some (tv_le_some (tv_le_some (tv_le_some (tv_le_some tv_le_nil)))))) (c_X_choose_L109 hC hr hE σ5 l1 l2 l3 l4 l5 kl1 hf)
  · rw [if_neg hc] at hf
    refine V.blk hC [(.aload_n 1, 1)] 101 [some (.ref 1), some (.ref l1), some (.int l2), some (.int l3), some (.int l4), some (.int l5)] [] ⟨d_X_choose_101, trivial⟩ (show tv_run _ _ _ _ = some (102, [some (.ref 1), some (.ref l1), some (.int l2), some (.int l3), some (.int l4), some (.int l5)], [.ref l1]) from rfl) ?_
    refine V.getf hC tf_X_48 (kd_in kl1 (by decide)) (hp_at kl1) rfl d_X_choose_102 ?_
    show V X 0 0 tm_n (hp σ5) 105 [some (.ref 1), some (.ref l1), some (.int l2), some (.int l3), some (.int l4), some (.int l5)] [.ref (l1 + 11)]
    refine V.blk hC [(.iconst 1, 1)] 105 [some (.ref 1), some (.ref l1), some (.int l2), some (.int l3), some (.int l4), some (.int l5)] [.ref (l1 + 11)] ⟨d_X_choose_105, trivial⟩ (show tv_run _ _ _ _ = some (106, [some (.ref 1), some (.ref l1), some (.int l2), some (.int l3), some (.int l4), some (.int l5)], [.int (1 : Int32), .ref (l1 + 11)]) from rfl) ?_
    obtain ⟨σ6, hσ6, hf⟩ := tm_ww hf
    refine V.seti hC tf_X_52 tt_T to_T tn_T rfl (by decide +kernel) (tm_fz (by decide)) (kd_5_9 kl1) (kd_in (kd_5_9 kl1) (by decide)) rfl rfl (tm_le rfl) d_X_choose_106 ?_
    rw [← hσ6]
    exact V.less (tv_le_some (tv_le_some (tv_le_some (tv_le_some (tv_le_some (tv_le_some tv_le_nil)))))) (c_X_choose_L109 hC hr hE σ6 l1 l2 l3 l4 l5 kl1 hf)
set_option maxHeartbeats 4000000 in
set_option maxRecDepth 100000 in
theorem c_X_choose_L60 {X : tv_X} {r : tm_S} (hC : tv_K X tb_X_choose 6 "TrickleMesh" tm_wg tm_ns tm_cl tm_ty { frames := 3, cells := 0, slots := 0, locals := 71 }) (hr : tv_ret X none) (hE : tv_end X (tm_P none r) 0 0) (σ : tm_S) (l1 : Nat) (l2 : Int32) (l3 : Int32) (kl1 : kd l1 = 5) (hf : f_X_choose_L60 σ l1 l2 l3 = some r) : V X 0 0 tm_n (hp σ) 60 [some (.ref 1), some (.ref l1), some (.int l2), some (.int l3), none, none] [] := by
  unfold f_X_choose_L60 at hf
  refine V.blk hC [(.iconst (-1), 1), (.istore 4, 2), (.sipush 255, 3), (.istore 5, 2)] 60 [some (.ref 1), some (.ref l1), some (.int l2), some (.int l3), none, none] [] ⟨d_X_choose_60, d_X_choose_61, d_X_choose_63, d_X_choose_66, trivial⟩ (show tv_run _ _ _ _ = some (68, [some (.ref 1), some (.ref l1), some (.int l2), some (.int l3), some (.int (-1 : Int32)), some (.int (255 : Int32))], []) from rfl) ?_
  exact V.less (tv_le_some (tv_le_some (tv_le_some (tv_le_some (tv_le_some (tv_le_some tv_le_nil)))))) (c_X_choose_L68 hC hr hE σ l1 l2 l3 (-1 : Int32) (255 : Int32) kl1 hf)
set_option maxHeartbeats 4000000 in
set_option maxRecDepth 100000 in
theorem c_X_choose_L36 {X : tv_X} {r : tm_S} (hC : tv_K X tb_X_choose 6 "TrickleMesh" tm_wg tm_ns tm_cl tm_ty { frames := 3, cells := 0, slots := 0, locals := 71 }) (hr : tv_ret X none) (hE : tv_end X (tm_P none r) 0 0) (σ : tm_S) (l1 : Nat) (l2 : Int32) (l3 : Int32) (l4 : Int32) (s0 : Int32) (kl1 : kd l1 = 5) (hf : f_X_choose_L36 σ l1 l2 l3 l4 s0 = some r) : V X 0 0 tm_n (hp σ) 36 [some (.ref 1), some (.ref l1), some (.int l2), some (.int l3), some (.int l4), none] [.int s0] := by
  unfold f_X_choose_L36 at hf
  refine V.blk hC [(.istore 5, 2), (.iload 5, 2), (.sipush 254, 3)] 36 [some (.ref 1), some (.ref l1), some (.int l2), some (.int l3), some (.int l4), none] [.int s0] ⟨d_X_choose_36, d_X_choose_38, d_X_choose_40, trivial⟩ (show tv_run _ _ _ _ = some (43, [some (.ref 1), some (.ref l1), some (.int l2), some (.int l3), some (.int l4), some (.int s0)], [.int (254 : Int32), .int s0]) from rfl) ?_
  refine V.icmp_gt hC d_X_choose_43 (tgt := 60) (by decide) (fun hc => ?_) (fun hc => ?_)
  · rw [if_pos hc] at hf
    exact V.less (tv_le_some (tv_le_some (tv_le_some (tv_le_some (tv_le_none (tv_le_none tv_le_nil)))))) (c_X_choose_L60 hC hr hE σ l1 l2 l3 kl1 hf)
  · rw [if_neg hc] at hf
    refine V.blk hC [(.iload 5, 2), (.aload_n 1, 1)] 46 [some (.ref 1), some (.ref l1), some (.int l2), some (.int l3), some (.int l4), some (.int s0)] [] ⟨d_X_choose_46, d_X_choose_48, trivial⟩ (show tv_run _ _ _ _ = some (49, [some (.ref 1), some (.ref l1), some (.int l2), some (.int l3), some (.int l4), some (.int s0)], [.ref l1, .int s0]) from rfl) ?_
    refine V.getf hC tf_X_136 (kd_in kl1 (by decide)) (hp_at kl1) rfl d_X_choose_49 ?_
    show V X 0 0 tm_n (hp σ) 52 [some (.ref 1), some (.ref l1), some (.int l2), some (.int l3), some (.int l4), some (.int s0)] [.int (σ.1 l1 13), .int s0]
    refine V.blk hC [(.aload_n 0, 1)] 52 [some (.ref 1), some (.ref l1), some (.int l2), some (.int l3), some (.int l4), some (.int s0)] [.int (σ.1 l1 13), .int s0] ⟨d_X_choose_52, trivial⟩ (show tv_run _ _ _ _ = some (53, [some (.ref 1), some (.ref l1), some (.int l2), some (.int l3), some (.int l4), some (.int s0)], [.ref 1, .int (σ.1 l1 13), .int s0]) from rfl) ?_
    refine V.getf hC tf_X_33 (kd_in kd_1 (by decide)) (hp_at kd_1) rfl d_X_choose_53 ?_
    show V X 0 0 tm_n (hp σ) 56 [some (.ref 1), some (.ref l1), some (.int l2), some (.int l3), some (.int l4), some (.int s0)] [.int (σ.1 1 0), .int (σ.1 l1 13), .int s0]
    refine V.blk hC [(.iadd, 1)] 56 [some (.ref 1), some (.ref l1), some (.int l2), some (.int l3), some (.int l4), some (.int s0)] [.int (σ.1 1 0), .int (σ.1 l1 13), .int s0] ⟨d_X_choose_56, trivial⟩ (show tv_run _ _ _ _ = some (57, [some (.ref 1), some (.ref l1), some (.int l2), some (.int l3), some (.int l4), some (.int s0)], [.int ((σ.1 l1 13) + (σ.1 1 0)), .int s0]) from rfl) ?_
    refine V.icmp_le hC d_X_choose_57 (tgt := 68) (by decide) (fun hc => ?_) (fun hc => ?_)
    · rw [if_pos hc] at hf
      exact V.less (tv_le_some (tv_le_some (tv_le_some (tv_le_some (tv_le_some (tv_le_some tv_le_nil)))))) (c_X_choose_L68 hC hr hE σ l1 l2 l3 l4 s0 kl1 hf)
    · rw [if_neg hc] at hf
      exact V.less (tv_le_some (tv_le_some (tv_le_some (tv_le_some (tv_le_none (tv_le_none tv_le_nil)))))) (c_X_choose_L60 hC hr hE σ l1 l2 l3 kl1 hf)
set_option maxHeartbeats 4000000 in
set_option maxRecDepth 100000 in
theorem c_X_choose (σ : tm_S) (a1 : Nat) (k1 : kd a1 = 5) {r : tm_S} (hf : f_X_choose σ a1 = some r) : tv_Met ty_X_choose (Cond.code ty_X_choose tb_X_choose 6 none :: tm_wg) tm_ns tm_cl tm_ty 3 71 0 0 [.ref 1, .ref a1] tm_n (hp σ) (tm_P none r) := by
  refine tv_Met.of (by decide) rfl (tm_le rfl) ?_
  intro X hC hnm hr hE
  have hC : tv_K X tb_X_choose 6 "TrickleMesh" tm_wg tm_ns tm_cl tm_ty { frames := 3, cells := 0, slots := 0, locals := 71 } := hC
  show V X 0 0 tm_n (hp σ) 0 [some (.ref 1), some (.ref a1), none, none, none, none] []
  unfold f_X_choose at hf
  refine V.blk hC [(.aload_n 1, 1)] 0 [some (.ref 1), some (.ref a1), none, none, none, none] [] ⟨d_X_choose_0, trivial⟩ (show tv_run _ _ _ _ = some (1, [some (.ref 1), some (.ref a1), none, none, none, none], [.ref a1]) from rfl) ?_
  refine V.getf hC tf_X_45 (kd_in k1 (by decide)) (hp_at k1) rfl d_X_choose_1 ?_
  show V X 0 0 tm_n (hp σ) 4 [some (.ref 1), some (.ref a1), none, none, none, none] [.int (σ.1 a1 11)]
  refine V.blk hC [(.istore_n 2, 1), (.aload_n 1, 1)] 4 [some (.ref 1), some (.ref a1), none, none, none, none] [.int (σ.1 a1 11)] ⟨d_X_choose_4, d_X_choose_5, trivial⟩ (show tv_run _ _ _ _ = some (6, [some (.ref 1), some (.ref a1), some (.int (σ.1 a1 11)), none, none, none], [.ref a1]) from rfl) ?_
  refine V.getf hC tf_X_115 (kd_in k1 (by decide)) (hp_at k1) rfl d_X_choose_6 ?_
  show V X 0 0 tm_n (hp σ) 9 [some (.ref 1), some (.ref a1), some (.int (σ.1 a1 11)), none, none, none] [.int (σ.1 a1 12)]
  refine V.blk hC [(.istore_n 3, 1), (.aload_n 0, 1), (.aload_n 1, 1)] 9 [some (.ref 1), some (.ref a1), some (.int (σ.1 a1 11)), none, none, none] [.int (σ.1 a1 12)] ⟨d_X_choose_9, d_X_choose_10, d_X_choose_11, trivial⟩ (show tv_run _ _ _ _ = some (12, [some (.ref 1), some (.ref a1), some (.int (σ.1 a1 11)), some (.int (σ.1 a1 12)), none, none], [.ref a1, .ref 1]) from rfl) ?_
  obtain ⟨q1, hq1, hf⟩ := tm_bd hf
  refine V.callV hC tm_nest rfl (c_X_bestParent σ a1 k1 hq1) (tm_gd tc_X_bestParent) tg_X_284 th_X_bestParent ⟨tm_le rfl, tm_le rfl, tm_le rfl, tm_le rfl⟩ rfl (kd_in kd_1 (by decide)) (hp_at kd_1) (As := [.ref a1]) (st := []) rfl (tm_le rfl) d_X_choose_12 ?_
  rintro v n2 h2 ⟨rfl, rfl, rfl⟩
  show V X 0 0 tm_n (hp q1.2) 15 [some (.ref 1), some (.ref a1), some (.int (σ.1 a1 11)), some (.int (σ.1 a1 12)), none, none] [.int q1.1]
  refine V.blk hC [(.istore 4, 2), (.iload 4, 2), (.iconst (-1), 1)] 15 [some (.ref 1), some (.ref a1), some (.int (σ.1 a1 11)), some (.int (σ.1 a1 12)), none, none] [.int q1.1] ⟨d_X_choose_15, d_X_choose_17, d_X_choose_19, trivial⟩ (show tv_run _ _ _ _ = some (20, [some (.ref 1), some (.ref a1), some (.int (σ.1 a1 11)), some (.int (σ.1 a1 12)), some (.int q1.1), none], [.int (-1 : Int32), .int q1.1]) from rfl) ?_
  refine V.icmp_ne hC d_X_choose_20 (tgt := 29) (by decide) (fun hc => ?_) (fun hc => ?_)
  · rw [if_neg hc] at hf
    refine V.blk hC [(.aload_n 0, 1), (.aload_n 1, 1), (.iload 4, 2)] 29 [some (.ref 1), some (.ref a1), some (.int (σ.1 a1 11)), some (.int (σ.1 a1 12)), some (.int q1.1), none] [] ⟨d_X_choose_29, d_X_choose_30, d_X_choose_31, trivial⟩ (show tv_run _ _ _ _ = some (33, [some (.ref 1), some (.ref a1), some (.int (σ.1 a1 11)), some (.int (σ.1 a1 12)), some (.int q1.1), none], [.int q1.1, .ref a1, .ref 1]) from rfl) ?_
    obtain ⟨q2, hq2, hf⟩ := tm_bd hf
    refine V.callV hC tm_nest rfl (c_X_rankBelow q1.2 a1 q1.1 k1 hq2) (tm_gd tc_X_rankBelow) tg_X_287 th_X_rankBelow ⟨tm_le rfl, tm_le rfl, tm_le rfl, tm_le rfl⟩ rfl (kd_in kd_1 (by decide)) (hp_at kd_1) (As := [.ref a1, .int q1.1]) (st := []) rfl (tm_le rfl) d_X_choose_33 ?_
    rintro v n2 h2 ⟨rfl, rfl, rfl⟩
    show V X 0 0 tm_n (hp q2.2) 36 [some (.ref 1), some (.ref a1), some (.int (σ.1 a1 11)), some (.int (σ.1 a1 12)), some (.int q1.1), none] [.int q2.1]
    exact V.less (tv_le_some (tv_le_some (tv_le_some (tv_le_some (tv_le_some (tv_le_none tv_le_nil)))))) (c_X_choose_L36 hC hr hE q2.2 a1 (σ.1 a1 11) (σ.1 a1 12) q1.1 q2.1 k1 hf)
  · rw [if_pos hc] at hf
    refine V.blk hC [(.sipush 255, 3)] 23 [some (.ref 1), some (.ref a1), some (.int (σ.1 a1 11)), some (.int (σ.1 a1 12)), some (.int q1.1), none] [] ⟨d_X_choose_23, trivial⟩ (show tv_run _ _ _ _ = some (26, [some (.ref 1), some (.ref a1), some (.int (σ.1 a1 11)), some (.int (σ.1 a1 12)), some (.int q1.1), none], [.int (255 : Int32)]) from rfl) ?_
    refine V.goto hC d_X_choose_26 (tgt := 36) (by decide) ?_
    exact V.less (tv_le_some (tv_le_some (tv_le_some (tv_le_some (tv_le_some (tv_le_none tv_le_nil)))))) (c_X_choose_L36 hC hr hE q1.2 a1 (σ.1 a1 11) (σ.1 a1 12) q1.1 (255 : Int32) k1 hf)
set_option maxHeartbeats 4000000 in
set_option maxRecDepth 100000 in
theorem c_X_failFirst_L76 {X : tv_X} {r : tm_S} (hC : tv_K X tb_X_failFirst 5 "TrickleMesh" tm_wg tm_ns tm_cl tm_ty { frames := 4, cells := 0, slots := 0, locals := 96 }) (hr : tv_ret X none) (hE : tv_end X (tm_P none r) 0 0) {rc : tm_S → Nat → Int32 → Int32 → Option (tm_S)} (hrc : ∀ (σ : tm_S) (l1 : Nat) (l3 : Int32) (l4 : Int32) (kl1 : kd l1 = 5), rc σ l1 l3 l4 = some r → V X 0 0 tm_n (hp σ) 50 [some (.ref 1), some (.ref l1), none, some (.int l3), some (.int l4)] []) (σ : tm_S) (l1 : Nat) (l3 : Int32) (l4 : Int32) (kl1 : kd l1 = 5) (hf : f_X_failFirst_L76 rc σ l1 l3 l4 = some r) : V X 0 0 tm_n (hp σ) 76 [some (.ref 1), some (.ref l1), none, some (.int l3), some (.int l4)] [] := by
  unfold f_X_failFirst_L76 at hf
  refine V.blk hC [(.iinc 4 1, 3)] 76 [some (.ref 1), some (.ref l1), none, some (.int l3), some (.int l4)] [] ⟨d_X_failFirst_76, trivial⟩ (show tv_run _ _ _ _ = some (79, [some (.ref 1), some (.ref l1), none, some (.int l3), some (.int (l4 + (1 : Int32)))], []) from rfl) ?_
  refine V.goto hC d_X_failFirst_79 (tgt := 50) (by decide) ?_
  exact V.less (tv_le_some (tv_le_some (tv_le_none (tv_le_some (tv_le_some tv_le_nil))))) (hrc σ l1 l3 (l4 + (1 : Int32)) kl1 hf)
set_option maxHeartbeats 4000000 in
set_option maxRecDepth 100000 in
theorem c_X_failFirst_L50 {X : tv_X} {r : tm_S} (hC : tv_K X tb_X_failFirst 5 "TrickleMesh" tm_wg tm_ns tm_cl tm_ty { frames := 4, cells := 0, slots := 0, locals := 96 }) (hr : tv_ret X none) (hE : tv_end X (tm_P none r) 0 0) : ∀ (k : Nat) (σ : tm_S) (l1 : Nat) (l3 : Int32) (l4 : Int32) (kl1 : kd l1 = 5), f_X_failFirst_L50 k σ l1 l3 l4 = some r → V X 0 0 tm_n (hp σ) 50 [some (.ref 1), some (.ref l1), none, some (.int l3), some (.int l4)] [] := by
  intro k
  induction k with
  | zero => intro σ l1 l3 l4 kl1 hf; simp only [f_X_failFirst_L50] at hf; cases hf
  | succ k hrc =>
    intro σ l1 l3 l4 kl1 hf
    rw [f_X_failFirst_L50] at hf
    refine V.blk hC [(.iload 4, 2), (.bipush 7, 2)] 50 [some (.ref 1), some (.ref l1), none, some (.int l3), some (.int l4)] [] ⟨d_X_failFirst_50, d_X_failFirst_52, trivial⟩ (show tv_run _ _ _ _ = some (54, [some (.ref 1), some (.ref l1), none, some (.int l3), some (.int l4)], [.int (7 : Int32), .int l4]) from rfl) ?_
    refine V.icmp_ge hC d_X_failFirst_54 (tgt := 82) (by decide) (fun hc => ?_) (fun hc => ?_)
    · rw [if_pos hc] at hf
      refine V.blk hC [(.aload_n 1, 1)] 82 [some (.ref 1), some (.ref l1), none, some (.int l3), some (.int l4)] [] ⟨d_X_failFirst_82, trivial⟩ (show tv_run _ _ _ _ = some (83, [some (.ref 1), some (.ref l1), none, some (.int l3), some (.int l4)], [.ref l1]) from rfl) ?_
      refine V.getf hC tf_X_115 (kd_in kl1 (by decide)) (hp_at kl1) rfl d_X_failFirst_83 ?_
      show V X 0 0 tm_n (hp σ) 86 [some (.ref 1), some (.ref l1), none, some (.int l3), some (.int l4)] [.int (σ.1 l1 12)]
      refine V.blk hC [(.iload_n 3, 1)] 86 [some (.ref 1), some (.ref l1), none, some (.int l3), some (.int l4)] [.int (σ.1 l1 12)] ⟨d_X_failFirst_86, trivial⟩ (show tv_run _ _ _ _ = some (87, [some (.ref 1), some (.ref l1), none, some (.int l3), some (.int l4)], [.int l3, .int (σ.1 l1 12)]) from rfl) ?_
      refine V.icmp_ne hC d_X_failFirst_87 (tgt := 102) (by decide) (fun hc => ?_) (fun hc => ?_)
      · rw [if_neg hc] at hf
        obtain rfl := Option.some.inj hf
        exact V.vret hC hr hE d_X_failFirst_102 ⟨rfl, rfl, rfl⟩
      · rw [if_pos hc] at hf
        refine V.blk hC [(.aload_n 1, 1)] 90 [some (.ref 1), some (.ref l1), none, some (.int l3), some (.int l4)] [] ⟨d_X_failFirst_90, trivial⟩ (show tv_run _ _ _ _ = some (91, [some (.ref 1), some (.ref l1), none, some (.int l3), some (.int l4)], [.ref l1]) from rfl) ?_
        refine V.getf hC tf_X_150 (kd_in kl1 (by decide)) (hp_at kl1) rfl d_X_failFirst_91 ?_
        show V X 0 0 tm_n (hp σ) 94 [some (.ref 1), some (.ref l1), none, some (.int l3), some (.int l4)] [.ref (l1 + 12)]
        refine V.blk hC [(.iload_n 3, 1), (.iconst 0, 1)] 94 [some (.ref 1), some (.ref l1), none, some (.int l3), some (.int l4)] [.ref (l1 + 12)] ⟨d_X_failFirst_94, d_X_failFirst_95, trivial⟩ (show tv_run _ _ _ _ = some (96, [some (.ref 1), some (.ref l1), none, some (.int l3), some (.int l4)], [.int (0 : Int32), .int l3, .ref (l1 + 12)]) from rfl) ?_
        obtain ⟨hb5, hf⟩ := tm_if hf
        obtain ⟨σ6, hσ6, hf⟩ := tm_ww hf
        refine V.seta hC (kd_5_12 kl1) (kd_in (kd_5_12 kl1) (by decide)) rfl rfl rfl hb5 d_X_failFirst_96 ?_
        rw [← hσ6]
        refine V.blk hC [(.aload_n 0, 1), (.aload_n 1, 1)] 97 [some (.ref 1), some (.ref l1), none, some (.int l3), some (.int l4)] [] ⟨d_X_failFirst_97, d_X_failFirst_98, trivial⟩ (show tv_run _ _ _ _ = some (99, [some (.ref 1), some (.ref l1), none, some (.int l3), some (.int l4)], [.ref l1, .ref 1]) from rfl) ?_
        obtain ⟨q7, hq7, hf⟩ := tm_bd hf
        refine V.callV hC tm_nest rfl (c_X_choose σ6 l1 kl1 hq7) (tm_gd tc_X_choose) tg_X_202 th_X_choose ⟨tm_le rfl, tm_le rfl, tm_le rfl, tm_le rfl⟩ rfl (kd_in kd_1 (by decide)) (hp_at kd_1) (As := [.ref l1]) (st := []) rfl (tm_le rfl) d_X_failFirst_99 ?_
        rintro v n2 h2 ⟨rfl, rfl, rfl⟩
        show V X 0 0 tm_n (hp q7) 102 [some (.ref 1), some (.ref l1), none, some (.int l3), some (.int l4)] []
        obtain rfl := Option.some.inj hf
        exact V.vret hC hr hE d_X_failFirst_102 ⟨rfl, rfl, rfl⟩
    · rw [if_neg hc] at hf
      refine V.blk hC [(.aload_n 1, 1)] 57 [some (.ref 1), some (.ref l1), none, some (.int l3), some (.int l4)] [] ⟨d_X_failFirst_57, trivial⟩ (show tv_run _ _ _ _ = some (58, [some (.ref 1), some (.ref l1), none, some (.int l3), some (.int l4)], [.ref l1]) from rfl) ?_
      refine V.getf hC tf_X_147 (kd_in kl1 (by decide)) (hp_at kl1) rfl d_X_failFirst_58 ?_
      show V X 0 0 tm_n (hp σ) 61 [some (.ref 1), some (.ref l1), none, some (.int l3), some (.int l4)] [.ref (l1 + 13)]
      refine V.blk hC [(.iload 4, 2)] 61 [some (.ref 1), some (.ref l1), none, some (.int l3), some (.int l4)] [.ref (l1 + 13)] ⟨d_X_failFirst_61, trivial⟩ (show tv_run _ _ _ _ = some (63, [some (.ref 1), some (.ref l1), none, some (.int l3), some (.int l4)], [.int l4, .ref (l1 + 13)]) from rfl) ?_
      obtain ⟨hb8, hf⟩ := tm_if hf
      refine V.iald hC (kd_in (kd_5_13 kl1) (by decide)) (hp_at (kd_5_13 kl1)) rfl hb8 d_X_failFirst_63 ?_
      show V X 0 0 tm_n (hp σ) 64 [some (.ref 1), some (.ref l1), none, some (.int l3), some (.int l4)] [.int (σ.1 (l1 + 13) l4.toNatClampNeg)]
      refine V.blk hC [(.iload_n 3, 1)] 64 [some (.ref 1), some (.ref l1), none, some (.int l3), some (.int l4)] [.int (σ.1 (l1 + 13) l4.toNatClampNeg)] ⟨d_X_failFirst_64, trivial⟩ (show tv_run _ _ _ _ = some (65, [some (.ref 1), some (.ref l1), none, some (.int l3), some (.int l4)], [.int l3, .int (σ.1 (l1 + 13) l4.toNatClampNeg)]) from rfl) ?_
      refine V.icmp_ne hC d_X_failFirst_65 (tgt := 76) (by decide) (fun hc => ?_) (fun hc => ?_)
      · rw [if_neg hc] at hf
        exact V.less (tv_le_some (tv_le_some (tv_le_none (tv_le_some (tv_le_some tv_le_nil))))) (c_X_failFirst_L76 hC hr hE hrc σ l1 l3 l4 kl1 hf)
      · rw [if_pos hc] at hf
        refine V.blk hC [(.aload_n 1, 1)] 68 [some (.ref 1), some (.ref l1), none, some (.int l3), some (.int l4)] [] ⟨d_X_failFirst_68, trivial⟩ (show tv_run _ _ _ _ = some (69, [some (.ref 1), some (.ref l1), none, some (.int l3), some (.int l4)], [.ref l1]) from rfl) ?_
        refine V.getf hC tf_X_147 (kd_in kl1 (by decide)) (hp_at kl1) rfl d_X_failFirst_69 ?_
        show V X 0 0 tm_n (hp σ) 72 [some (.ref 1), some (.ref l1), none, some (.int l3), some (.int l4)] [.ref (l1 + 13)]
        refine V.blk hC [(.iload 4, 2), (.iconst (-1), 1)] 72 [some (.ref 1), some (.ref l1), none, some (.int l3), some (.int l4)] [.ref (l1 + 13)] ⟨d_X_failFirst_72, d_X_failFirst_74, trivial⟩ (show tv_run _ _ _ _ = some (75, [some (.ref 1), some (.ref l1), none, some (.int l3), some (.int l4)], [.int (-1 : Int32), .int l4, .ref (l1 + 13)]) from rfl) ?_
        obtain ⟨hb9, hf⟩ := tm_if hf
        obtain ⟨σ10, hσ10, hf⟩ := tm_ww hf
        refine V.seta hC (kd_5_13 kl1) (kd_in (kd_5_13 kl1) (by decide)) rfl rfl rfl hb9 d_X_failFirst_75 ?_
        rw [← hσ10]
        exact V.less (tv_le_some (tv_le_some (tv_le_none (tv_le_some (tv_le_some tv_le_nil))))) (c_X_failFirst_L76 hC hr hE hrc σ10 l1 l3 l4 kl1 hf)
set_option maxHeartbeats 4000000 in
set_option maxRecDepth 100000 in
theorem c_X_failFirst_L33 {X : tv_X} {r : tm_S} (hC : tv_K X tb_X_failFirst 5 "TrickleMesh" tm_wg tm_ns tm_cl tm_ty { frames := 4, cells := 0, slots := 0, locals := 96 }) (hr : tv_ret X none) (hE : tv_end X (tm_P none r) 0 0) (σ : tm_S) (l1 : Nat) (l3 : Int32) (kl1 : kd l1 = 5) (hf : f_X_failFirst_L33 σ l1 l3 = some r) : V X 0 0 tm_n (hp σ) 33 [some (.ref 1), some (.ref l1), none, some (.int l3), none] [] := by
  unfold f_X_failFirst_L33 at hf
  refine V.blk hC [(.aload_n 0, 1), (.aload_n 1, 1)] 33 [some (.ref 1), some (.ref l1), none, some (.int l3), none] [] ⟨d_X_failFirst_33, d_X_failFirst_34, trivial⟩ (show tv_run _ _ _ _ = some (35, [some (.ref 1), some (.ref l1), none, some (.int l3), none], [.ref l1, .ref 1]) from rfl) ?_
  refine V.getf hC tf_X_69 (kd_in kl1 (by decide)) (hp_at kl1) rfl d_X_failFirst_35 ?_
  show V X 0 0 tm_n (hp σ) 38 [some (.ref 1), some (.ref l1), none, some (.int l3), none] [.ref (l1 + 1), .ref 1]
  obtain ⟨q4, hq4, hf⟩ := tm_bd hf
  refine V.callV hC tm_nest rfl (c_X_removeFirst σ (l1 + 1) (kd_5_6 kl1) hq4) (tm_gd tc_X_removeFirst) tg_X_198 th_X_removeFirst ⟨tm_le rfl, tm_le rfl, tm_le rfl, tm_le rfl⟩ rfl (kd_in kd_1 (by decide)) (hp_at kd_1) (As := [.ref (l1 + 1)]) (st := []) rfl (tm_le rfl) d_X_failFirst_38 ?_
  rintro v n2 h2 ⟨rfl, rfl, rfl⟩
  show V X 0 0 tm_n (hp q4) 41 [some (.ref 1), some (.ref l1), none, some (.int l3), none] []
  refine V.blk hC [(.iload_n 3, 1), (.iconst (-1), 1)] 41 [some (.ref 1), some (.ref l1), none, some (.int l3), none] [] ⟨d_X_failFirst_41, d_X_failFirst_42, trivial⟩ (show tv_run _ _ _ _ = some (43, [some (.ref 1), some (.ref l1), none, some (.int l3), none], [.int (-1 : Int32), .int l3]) from rfl) ?_
  refine V.icmp_ne hC d_X_failFirst_43 (tgt := 47) (by decide) (fun hc => ?_) (fun hc => ?_)
  · rw [if_neg hc] at hf
    refine V.blk hC [(.iconst 0, 1), (.istore 4, 2)] 47 [some (.ref 1), some (.ref l1), none, some (.int l3), none] [] ⟨d_X_failFirst_47, d_X_failFirst_48, trivial⟩ (show tv_run _ _ _ _ = some (50, [some (.ref 1), some (.ref l1), none, some (.int l3), some (.int (0 : Int32))], []) from rfl) ?_
    exact V.less (tv_le_some (tv_le_some (tv_le_none (tv_le_some (tv_le_some tv_le_nil))))) (c_X_failFirst_L50 hC hr hE tm_fu q4 l1 l3 (0 : Int32) kl1 hf)
  · rw [if_pos hc] at hf
    obtain rfl := Option.some.inj hf
    exact V.vret hC hr hE d_X_failFirst_46 ⟨rfl, rfl, rfl⟩
set_option maxHeartbeats 4000000 in
set_option maxRecDepth 100000 in
theorem c_X_failFirst (σ : tm_S) (a1 : Nat) (k1 : kd a1 = 5) {r : tm_S} (hf : f_X_failFirst σ a1 = some r) : tv_Met ty_X_failFirst (Cond.code ty_X_failFirst tb_X_failFirst 5 none :: tm_wg) tm_ns tm_cl tm_ty 4 96 0 0 [.ref 1, .ref a1] tm_n (hp σ) (tm_P none r) := by
  refine tv_Met.of (by decide) rfl (tm_le rfl) ?_
  intro X hC hnm hr hE
  have hC : tv_K X tb_X_failFirst 5 "TrickleMesh" tm_wg tm_ns tm_cl tm_ty { frames := 4, cells := 0, slots := 0, locals := 96 } := hC
  show V X 0 0 tm_n (hp σ) 0 [some (.ref 1), some (.ref a1), none, none, none] []
  unfold f_X_failFirst at hf
  refine V.blk hC [(.aload_n 1, 1)] 0 [some (.ref 1), some (.ref a1), none, none, none] [] ⟨d_X_failFirst_0, trivial⟩ (show tv_run _ _ _ _ = some (1, [some (.ref 1), some (.ref a1), none, none, none], [.ref a1]) from rfl) ?_
  refine V.getf hC tf_X_69 (kd_in k1 (by decide)) (hp_at k1) rfl d_X_failFirst_1 ?_
  show V X 0 0 tm_n (hp σ) 4 [some (.ref 1), some (.ref a1), none, none, none] [.ref (a1 + 1)]
  refine V.getf hC tf_X_169 (kd_in (kd_5_6 k1) (by decide)) (hp_at (kd_5_6 k1)) rfl d_X_failFirst_4 ?_
  show V X 0 0 tm_n (hp σ) 7 [some (.ref 1), some (.ref a1), none, none, none] [.ref ((a1 + 1) + 1)]
  refine V.blk hC [(.iconst 0, 1)] 7 [some (.ref 1), some (.ref a1), none, none, none] [.ref ((a1 + 1) + 1)] ⟨d_X_failFirst_7, trivial⟩ (show tv_run _ _ _ _ = some (8, [some (.ref 1), some (.ref a1), none, none, none], [.int (0 : Int32), .ref ((a1 + 1) + 1)]) from rfl) ?_
  obtain ⟨r2, hr2, hf⟩ := tm_ww hf
  obtain ⟨hk1, hf⟩ := tm_if hf
  refine V.aald hC (kd_in (kd_6_7 (kd_5_6 k1)) (by decide)) (hp_at (kd_6_7 (kd_5_6 k1))) rfl rfl (show ¬ ((0 : Int32) < 0 ∨ 4 ≤ (0 : Int32).toNatClampNeg) from by decide) d_X_failFirst_8 ?_
  show V X 0 0 tm_n (hp σ) 9 [some (.ref 1), some (.ref a1), none, none, none] [.ref (σ.2 ((a1 + 1) + 1) (0 : Int32).toNatClampNeg)]
  rw [← hr2]
  refine V.blk hC [(.astore_n 2, 1), (.aload_n 2, 1)] 9 [some (.ref 1), some (.ref a1), none, none, none] [.ref r2] ⟨d_X_failFirst_9, d_X_failFirst_10, trivial⟩ (show tv_run _ _ _ _ = some (11, [some (.ref 1), some (.ref a1), some (.ref r2), none, none], [.ref r2]) from rfl) ?_
  refine V.getf hC tf_X_184 (kd_in hk1 (by decide)) (hp_at hk1) rfl d_X_failFirst_11 ?_
  show V X 0 0 tm_n (hp σ) 14 [some (.ref 1), some (.ref a1), some (.ref r2), none, none] [.int (σ.1 r2 2)]
  refine V.blk hC [(.istore_n 3, 1), (.aload_n 2, 1)] 14 [some (.ref 1), some (.ref a1), some (.ref r2), none, none] [.int (σ.1 r2 2)] ⟨d_X_failFirst_14, d_X_failFirst_15, trivial⟩ (show tv_run _ _ _ _ = some (16, [some (.ref 1), some (.ref a1), some (.ref r2), some (.int (σ.1 r2 2)), none], [.ref r2]) from rfl) ?_
  refine V.getf hC tf_X_181 (kd_in hk1 (by decide)) (hp_at hk1) rfl d_X_failFirst_16 ?_
  show V X 0 0 tm_n (hp σ) 19 [some (.ref 1), some (.ref a1), some (.ref r2), some (.int (σ.1 r2 2)), none] [.int (σ.1 r2 1)]
  refine V.blk hC [(.iconst 4, 1)] 19 [some (.ref 1), some (.ref a1), some (.ref r2), some (.int (σ.1 r2 2)), none] [.int (σ.1 r2 1)] ⟨d_X_failFirst_19, trivial⟩ (show tv_run _ _ _ _ = some (20, [some (.ref 1), some (.ref a1), some (.ref r2), some (.int (σ.1 r2 2)), none], [.int (4 : Int32), .int (σ.1 r2 1)]) from rfl) ?_
  refine V.icmp_ne hC d_X_failFirst_20 (tgt := 33) (by decide) (fun hc => ?_) (fun hc => ?_)
  · rw [if_neg hc] at hf
    exact V.less (tv_le_some (tv_le_some (tv_le_none (tv_le_some (tv_le_none tv_le_nil))))) (c_X_failFirst_L33 hC hr hE σ a1 (σ.1 r2 2) k1 hf)
  · rw [if_pos hc] at hf
    refine V.blk hC [(.aload_n 0, 1), (.dup, 1)] 23 [some (.ref 1), some (.ref a1), some (.ref r2), some (.int (σ.1 r2 2)), none] [] ⟨d_X_failFirst_23, d_X_failFirst_24, trivial⟩ (show tv_run _ _ _ _ = some (25, [some (.ref 1), some (.ref a1), some (.ref r2), some (.int (σ.1 r2 2)), none], [.ref 1, .ref 1]) from rfl) ?_
    refine V.getf hC tf_X_159 (kd_in kd_1 (by decide)) (hp_at kd_1) rfl d_X_failFirst_25 ?_
    show V X 0 0 tm_n (hp σ) 28 [some (.ref 1), some (.ref a1), some (.ref r2), some (.int (σ.1 r2 2)), none] [.int (σ.1 1 8), .ref 1]
    refine V.blk hC [(.iconst 1, 1), (.iadd, 1)] 28 [some (.ref 1), some (.ref a1), some (.ref r2), some (.int (σ.1 r2 2)), none] [.int (σ.1 1 8), .ref 1] ⟨d_X_failFirst_28, d_X_failFirst_29, trivial⟩ (show tv_run _ _ _ _ = some (30, [some (.ref 1), some (.ref a1), some (.ref r2), some (.int (σ.1 r2 2)), none], [.int ((σ.1 1 8) + (1 : Int32)), .ref 1]) from rfl) ?_
    obtain ⟨σ3, hσ3, hf⟩ := tm_ww hf
    refine V.seti hC tf_X_159 tt_X to_X tn_X rfl (by decide +kernel) tm_fi kd_1 (kd_in kd_1 (by decide)) rfl rfl (tm_le rfl) d_X_failFirst_30 ?_
    rw [← hσ3]
    exact V.less (tv_le_some (tv_le_some (tv_le_none (tv_le_some (tv_le_none tv_le_nil))))) (c_X_failFirst_L33 hC hr hE σ3 a1 (σ.1 r2 2) k1 hf)
