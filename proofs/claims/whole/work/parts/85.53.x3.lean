/-! the class does what the mathematics says: choosing, failing -/
section X3
variable {σ0 σ : tm_S} {A : sA} {n m : Nat}
theorem sSum_b (w : wf m A) (hn : n < 7) {b : Nat} (hb : b < 7) : 0 ≤ (sSum A n b).toInt ∧ (sSum A n b).toInt ≤ 264 := by
  have hr : (0 ≤ A.1 30 n b ∧ A.1 30 n b ≤ 255) ∧ _ := w.1 30 n b (xV_a (by decide) hn hb)
  have hc : (0 ≤ A.1 35 n b ∧ A.1 35 n b ≤ 9) ∧ _ := w.1 35 n b (xV_a (by decide) hn hb)
  have z0 : (0 : Int32).toInt = 0 := by decide
  have z9 : (9 : Int32).toInt = 9 := by decide
  have z255 : (255 : Int32).toInt = 255 := by decide
  have r1 := i_le.mp hr.1.1
  have r2 := i_le.mp hr.1.2
  have c1 := i_le.mp hc.1.1
  have c2 := i_le.mp hc.1.2
  unfold sSum
  rw [i_add (by omega) (by omega) (by omega) (by omega)]
  omega
theorem i_cmp {a b : Int32} (h1 : 0 ≤ a.toInt) (h2 : a.toInt ≤ 1000) (h3 : 0 ≤ b.toInt) (h4 : b.toInt ≤ 1000) : (a - b < 0 ↔ a < b) ∧ (a - b = 0 ↔ a = b) := by
  have e : (a - b).toInt = a.toInt - b.toInt := by
    rw [Int32.toInt_sub]
    apply Int.bmod_eq_of_le <;> omega
  have z0 : (0 : Int32).toInt = 0 := by decide
  refine ⟨?_, ?_⟩
  · rw [i_lt, i_lt, e, z0]
    omega
  · rw [← Int32.toInt_inj, ← Int32.toInt_inj, e, z0]
    omega
theorem x_better (h : RX σ0 σ A) (w : wf m A) (hn : n < 7) {b : Nat} (hb : b < 7) {best : Int32} (hbest : nds best) : f_X_isBetter σ (11 + 17 * n) (nX b) best = some (if sBetter A n b best = true then 1 else 0, σ) := by
  have hx := (nds_ix hbest).1
  have b1 := sSum_b w hn hb
  have b2 := sSum_b w hn hx
  have ic := i_cmp b1.1 (by omega) b2.1 (by omega)
  unfold f_X_isBetter f_X_isBetter_L33 f_X_isBetter_L37
  rw [x_sum h (w.id hn) hn ⟨b, hb, rfl⟩, (lp_a b hb).2.2.1]
  simp only [Option.bind_some]
  rw [x_sum h (w.id hn) hn hbest]
  show (if sSum A n b - sSum A n best.toNatClampNeg < 0 then _ else _) = _
  unfold sBetter
  by_cases h1 : sSum A n b < sSum A n best.toNatClampNeg
  · rw [if_pos (ic.1.mpr h1), if_pos]
    rw [decide_eq_true h1]
    rfl
  · rw [if_neg (fun q => h1 (ic.1.mp q)), decide_eq_false h1, Bool.false_or]
    by_cases h2 : sSum A n b = sSum A n best.toNatClampNeg
    · rw [if_pos (ic.2.mpr h2)]
      show (if nX b = σ.1 (11 + 17 * n) 12 then _ else _) = _
      rw [gx_parent h hn, h2, beq_self_eq_true, Bool.true_and]
      by_cases h3 : nX b = A.1 14 n 0
      · rw [if_pos h3, h3, if_pos (beq_self_eq_true _)]
      · rw [if_neg h3, if_neg (fun q => h3 (eq_of_beq q))]
    · rw [if_neg (fun q => h2 (ic.2.mp q)), if_neg]
      intro q
      exact h2 (eq_of_beq (Bool.and_eq_true_iff.mp q).1)
theorem x_best_lp (h : RX σ0 σ A) (w : wf m A) (hn : n < 7) : ∀ (c b k : Nat) (best : Int32), b + c = 7 → c < k → nod best → f_X_bestParent_L4 k σ (11 + 17 * n) best (nX b) = some (mBest A n c b best, σ)
  | 0, b, k + 1, best, hg, _, _ => by
    obtain rfl : b = 7 := by omega
    rw [f_X_bestParent_L4, if_pos (by decide)]
    rfl
  | c + 1, b, k + 1, best, hg, hk, hbest => by
    have hb : b < 7 := by omega
    obtain ⟨a1, a2, a3, a4⟩ := lp_a b hb
    obtain ⟨-, -, b3, b4⟩ := lp_a n hn
    have no := x_best_lp h w hn c (b + 1) k best (by omega) (by omega) hbest
    have yes := x_best_lp h w hn c (b + 1) k (nX b) (by omega) (by omega) (Or.inr ⟨b, hb, rfl⟩)
    rw [f_X_bestParent_L4, if_neg a1, h.id (w.id hn) hn, if_pos b4, if_pos a4, a3, b3, gx_cost h hn hb, gx_ranks h hn hb]
    unfold f_X_bestParent_L49 f_X_bestParent_L50 f_X_bestParent_L72 f_X_bestParent_L74 mBest sOpen
    rw [a2]
    by_cases h1 : A.1 35 n b ≤ 0
    · rw [if_pos h1, if_pos rfl, decide_eq_false (Int32.not_lt.mpr h1)]
      exact no
    · rw [if_neg h1, if_pos (lp_b b hb), decide_eq_true (Int32.not_le.mp h1)]
      by_cases h2 : A.1 30 n b = 0
      · rw [if_pos h2, if_pos rfl, h2]
        exact no
      · rw [if_neg h2, if_pos (lp_b b hb), beq_eq_false_iff_ne.mpr h2]
        by_cases h3 : A.1 30 n b = 255
        · rw [if_pos h3, if_pos rfl, h3]
          exact no
        · rw [if_neg h3, if_neg (by decide), beq_eq_false_iff_ne.mpr h3]
          by_cases h4 : best = -1
          · rw [if_pos h4, h4]
            exact yes
          · rw [if_neg h4, x_better h w hn hb (nod_nds hbest h4), beq_eq_false_iff_ne.mpr h4]
            show (if (if sBetter A n b best = true then (1 : Int32) else 0) = 0 then _ else _) = _
            by_cases h5 : sBetter A n b best = true
            · rw [if_pos h5, if_neg (by decide), h5]
              exact yes
            · rw [if_neg h5, if_pos rfl, eq_false_of_ne_true h5]
              exact no
theorem x_best (h : RX σ0 σ A) (w : wf m A) (hn : n < 7) : f_X_bestParent σ (11 + 17 * n) = some (sBP A n, σ) := x_best_lp h w hn 7 0 200 (-1) (by omega) (by omega) (Or.inl rfl)
theorem x_ch148 (h : RX σ0 σ A) (w : A.1 9 n 0 = nX n) (hn : n < 7) (l3 l4 : Int32) : ∃ σ', f_X_choose_L148 σ (11 + 17 * n) l3 l4 = some σ' ∧ RX σ0 σ' (if l4 = l3 ∨ l4 = -1 then A else mAnnO A n l4) := by
  unfold f_X_choose_L148
  by_cases h1 : l4 = l3
  · rw [if_pos h1, if_pos (Or.inl h1)]
    exact ⟨σ, rfl, h⟩
  · by_cases h2 : l4 = -1
    · rw [if_neg h1, if_pos h2, if_pos (Or.inr h2)]
      exact ⟨σ, rfl, h⟩
    · obtain ⟨-, -, b3, b4⟩ := lp_a n hn
      have hc : ¬ (l4 = l3 ∨ l4 = -1) := fun q => q.elim h1 h2
      rw [if_neg h1, if_neg h2, if_neg hc, h.id w hn, if_pos b4, if_pos b4, b3, gx_numbers h hn hn]
      simp only [tm_w]
      have h3 : RX σ0 (sI σ (11 + 17 * n + 14) n (A.1 32 n n + 1)) (mNum A n) := sx_numbers h hn hn _
      rw [x_goals h3 w hn]
      obtain ⟨σ', e, h'⟩ := x_ann h3 hn (sGoals (mNum A n) n) l4 0 (Or.inl rfl)
      refine ⟨σ', ?_, h'⟩
      simp only [Option.bind_some]
      rw [e]
      rfl
theorem x_ch126 (h : RX σ0 σ A) (w : A.1 9 n 0 = nX n) (hn : n < 7) (l3 l4 : Int32) : ∃ σ', f_X_choose_L126 σ (11 + 17 * n) l3 l4 = some σ' ∧ RX σ0 σ' (if l4 = l3 ∨ l4 = -1 then (if l4 = l3 ∨ l3 = -1 then A else mAnn A n (sGoals A n) l3 1) else mAnnO (if l4 = l3 ∨ l3 = -1 then A else mAnn A n (sGoals A n) l3 1) n l4) := by
  unfold f_X_choose_L126
  by_cases h1 : l4 = l3
  · rw [if_pos h1]
    obtain ⟨σ', e, h'⟩ := x_ch148 h w hn l3 l4
    refine ⟨σ', e, ?_⟩
    rw [if_pos (Or.inl h1)] at h' ⊢
    rw [if_pos (Or.inl h1)]
    exact h'
  · rw [if_neg h1]
    by_cases h2 : l3 = -1
    · rw [if_pos h2]
      obtain ⟨σ', e, h'⟩ := x_ch148 h w hn l3 l4
      refine ⟨σ', e, ?_⟩
      rw [if_pos (Or.inr h2)]
      exact h'
    · have hc : ¬ (l4 = l3 ∨ l3 = -1) := fun q => q.elim h1 h2
      simp only [if_neg hc]
      rw [if_neg h2, x_goals h w hn]
      obtain ⟨σ1, e1, g1⟩ := x_ann h hn (sGoals A n) l3 1 (Or.inr rfl)
      obtain ⟨σ2, e2, g2⟩ := x_ch148 g1 ((Put_1 (by decide)).trans w) hn l3 l4
      refine ⟨σ2, ?_, g2⟩
      simp only [Option.bind_some]
      rw [e1]
      exact e2
theorem mReset_id (n' : Nat) : (mReset A n').1 9 n 0 = A.1 9 n 0 := (k_Reset (o := true) A n').1 9 n 0 (Or.inl (by decide))
theorem mCh2_id : (mCh2 A n).1 9 n 0 = A.1 9 n 0 := (k_Ch2 (o := true) A n).1 9 n 0 (Or.inl (by decide))
theorem x_ch68 (h : RX σ0 σ A) (w : A.1 9 n 0 = nX n) (hn : n < 7) : ∃ σ', f_X_choose_L68 σ (11 + 17 * n) (A.1 13 n 0) (A.1 14 n 0) (sP' A n) (sR A n) = some σ' ∧ RX σ0 σ' (mChoose A n) := by
  have h1 : RX σ0 (sI (sI σ (11 + 17 * n) 11 (sR A n)) (11 + 17 * n) 12 (sP' A n)) (uA (uA A 13 n 0 (sR A n)) 14 n 0 (sP' A n)) := sx_parent (sx_rank h hn _) hn _
  have hl : (sI (sI σ (11 + 17 * n) 11 (sR A n)) (11 + 17 * n) 12 (sP' A n)).1 (11 + 17 * n) 13 = A.1 15 n 0 := by
    rw [gx_least h1 hn, uA_ne (by decide), uA_ne (by decide)]
  have h2 : RX σ0 (sI (sI (sI σ (11 + 17 * n) 11 (sR A n)) (11 + 17 * n) 12 (sP' A n)) (11 + 17 * n) 13 (if sR A n < A.1 15 n 0 then sR A n else A.1 15 n 0)) (mCh1 A n) := sx_least h1 hn _
  have fin : ∀ τ, RX σ0 τ (mCh2 A n) → ∃ σ', f_X_choose_L109 τ (11 + 17 * n) (A.1 13 n 0) (A.1 14 n 0) (sP' A n) (sR A n) = some σ' ∧ RX σ0 σ' (mChoose A n) := by
    intro τ hτ
    have go : ∀ ρ, RX σ0 ρ (mCh3 A n) → ∃ σ', f_X_choose_L126 ρ (11 + 17 * n) (A.1 14 n 0) (sP' A n) = some σ' ∧ RX σ0 σ' (mChoose A n) := by
      intro ρ hρ
      exact x_ch126 hρ (((k_Ch3 (o := true) A n).1 9 n 0 (Or.inl (by decide))).trans w) hn _ _
    unfold f_X_choose_L109 f_X_choose_L121
    by_cases c : sR A n = A.1 13 n 0 ∧ sP' A n = A.1 14 n 0
    · rw [if_pos c.1, if_pos c.2]
      refine go τ ?_
      unfold mCh3
      rw [if_pos c]
      exact hτ
    · obtain ⟨ρ, e, hρ⟩ := x_reset hτ hn
      have hρ : RX σ0 ρ (mCh3 A n) := by
        unfold mCh3
        rw [if_neg c]
        exact hρ
      obtain ⟨σ', e', h'⟩ := go ρ hρ
      refine ⟨σ', ?_, h'⟩
      by_cases c1 : sR A n = A.1 13 n 0
      · rw [if_pos c1, if_neg (fun q => c ⟨c1, q⟩), e]
        exact e'
      · rw [if_neg c1, e]
        exact e'
  unfold f_X_choose_L68
  simp only [tm_w, hl]
  by_cases c : sR A n = 255
  · rw [if_pos c]
    refine fin _ ?_
    unfold mCh2
    rw [if_pos c]
    exact h2
  · rw [if_neg c]
    refine fin _ ?_
    unfold mCh2
    rw [if_neg c]
    exact sx_started h2 hn 1
theorem x_choose (h : RX σ0 σ A) (w : wf m A) (hn : n < 7) : ∃ σ', f_X_choose σ (11 + 17 * n) = some σ' ∧ RX σ0 σ' (mChoose A n) := by
  obtain ⟨σ', e, h'⟩ := x_ch68 h (w.id hn) hn
  refine ⟨σ', ?_, h'⟩
  have e36 : f_X_choose_L36 σ (11 + 17 * n) (A.1 13 n 0) (A.1 14 n 0) (sBP A n) (sSR A n) = some σ' := by
    unfold f_X_choose_L36 f_X_choose_L60
    rw [gx_least h hn, gx_rise h, ← e]
    unfold sP' sR sNone
    by_cases c1 : 254 < sSR A n
    · rw [if_pos c1, decide_eq_true c1]
      rfl
    · rw [if_neg c1, decide_eq_false c1]
      by_cases c2 : sSR A n ≤ A.1 15 n 0 + A.1 0 0 0
      · rw [if_pos c2, decide_eq_false (Int32.not_lt.mpr c2)]
        rfl
      · rw [if_neg c2, decide_eq_true (Int32.not_le.mp c2)]
        rfl
  unfold f_X_choose
  rw [x_best h w hn, gx_rank h hn, gx_parent h hn]
  show (if sBP A n = -1 then _ else _) = _
  unfold sSR at e36
  by_cases c : sBP A n = -1
  · rw [if_pos c] at e36 ⊢
    exact e36
  · rw [if_neg c] at e36 ⊢
    rcases sBP_ok A n with q | q
    · exact absurd q c
    · rw [x_sum h (w.id hn) hn q.1]
      exact e36
/-- the nexts that are z, from the b-th on -/
def mClk (A : sA) (n : Nat) (z : Int32) (b : Nat) : sA := (fun t i j => if t = 31 ∧ i = n ∧ j < b ∧ A.1 31 n j = z then -1 else A.1 t i j, A.2)
theorem mClk_0 (z : Int32) : mClk A n z 0 = A := Prod.ext (by
  funext t i j
  show (if _ then _ else _) = _
  rw [if_neg (by omega)]) rfl
theorem mClk_7 (z : Int32) : mClk A n z 7 = mClr A n z := rfl
theorem mClk_b (z : Int32) (b : Nat) : (mClk A n z b).1 31 n b = A.1 31 n b := by
  show (if _ then _ else _) = _
  rw [if_neg (by omega)]
theorem mClk_y {z : Int32} {b : Nat} (h : A.1 31 n b = z) : uA (mClk A n z b) 31 n b (-1) = mClk A n z (b + 1) := Prod.ext (by
  funext t i j
  show (if _ then _ else if _ then _ else _) = (if _ then _ else _)
  by_cases c : t = 31 ∧ i = n ∧ j = b
  · obtain ⟨rfl, rfl, rfl⟩ := c
    rw [if_pos ⟨rfl, rfl, rfl⟩, if_pos ⟨rfl, rfl, by omega, h⟩]
  · rw [if_neg c]
    by_cases c2 : t = 31 ∧ i = n ∧ j < b ∧ A.1 31 n j = z
    · rw [if_pos c2, if_pos ⟨c2.1, c2.2.1, by omega, c2.2.2.2⟩]
    · rw [if_neg c2, if_neg]
      rintro ⟨q1, q2, q3, q4⟩
      exact c2 ⟨q1, q2, by
        rcases Nat.lt_or_ge j b with q | q
        · exact q
        · exact absurd ⟨q1, q2, by omega⟩ c, q4⟩) rfl
theorem mClk_n {z : Int32} {b : Nat} (h : ¬ A.1 31 n b = z) : mClk A n z b = mClk A n z (b + 1) := Prod.ext (by
  funext t i j
  show (if _ then _ else _) = (if _ then _ else _)
  by_cases c2 : t = 31 ∧ i = n ∧ j < b ∧ A.1 31 n j = z
  · rw [if_pos c2, if_pos ⟨c2.1, c2.2.1, by omega, c2.2.2.2⟩]
  · rw [if_neg c2, if_neg]
    rintro ⟨q1, q2, q3, q4⟩
    exact c2 ⟨q1, q2, by
      rcases Nat.lt_or_ge j b with q | q
      · exact q
      · obtain rfl : j = b := by omega
        exact absurd q4 h, q4⟩) rfl
theorem x_fail_lp {z : Int32} (hz : nds z) (hn : n < 7) (w : wf m (mClr A n z)) : ∀ (c b k : Nat) (τ : tm_S), b + c = 7 → c < k → RX σ0 τ (mClk A n z b) → ∃ σ', f_X_failFirst_L50 k τ (11 + 17 * n) z (nX b) = some σ' ∧ RX σ0 σ' (mFail2 (mClr A n z) n z)
  | 0, b, k + 1, τ, hg, _, h => by
    obtain rfl : b = 7 := by omega
    rw [mClk_7] at h
    rw [f_X_failFirst_L50, if_pos (by decide), gx_parent h hn]
    unfold mFail2
    by_cases c : (mClr A n z).1 14 n 0 = z
    · obtain ⟨zm, hzm, rfl⟩ := hz
      obtain ⟨-, -, b3, b4⟩ := lp_a zm hzm
      rw [if_pos c, if_pos c, if_pos b4, b3]
      simp only [tm_w]
      have h1 := sx_ranks h hn hzm 0
      obtain ⟨σ', e, h'⟩ := x_choose (m := m) h1 (w.s 30 n zm 0 ⟨by decide, fun _ => rfl⟩ (by decide)) hn
      rw [e]
      exact ⟨σ', rfl, h'⟩
    · rw [if_neg c, if_neg c]
      exact ⟨τ, rfl, h⟩
  | c + 1, b, k + 1, τ, hg, hk, h => by
    obtain ⟨a1, a2, a3, a4⟩ := lp_a b (by omega)
    rw [f_X_failFirst_L50, if_neg a1, if_pos a4, a3, gx_nexts h hn (by omega), mClk_b]
    unfold f_X_failFirst_L76
    rw [a2]
    by_cases cz : A.1 31 n b = z
    · rw [if_pos cz, if_pos (lp_b b (by omega))]
      simp only [tm_w]
      have h1 := sx_nexts h hn (j := b) (by omega) (-1)
      rw [mClk_y cz] at h1
      exact x_fail_lp hz hn w c (b + 1) k _ (by omega) (by omega) h1
    · rw [if_neg cz]
      rw [mClk_n cz] at h
      exact x_fail_lp hz hn w c (b + 1) k _ (by omega) (by omega) h
theorem x_fail (h : RX σ0 σ A) (w : wf n A) (hn : n < 7) (hl : A.1 23 n 0 = 0) (hne : A.2 n ≠ []) : ∃ σ', f_X_failFirst σ (11 + 17 * n) = some σ' ∧ RX σ0 σ' (mFail A n) := by
  have hF := h.head hn hne
  have fin : ∀ τ B, RX σ0 τ B → B.2 n ≠ [] → wf 7 (mPop B n) → ∃ σ', f_X_failFirst_L33 τ (11 + 17 * n) (fr0 A n 1) = some σ' ∧ RX σ0 σ' (if fr0 A n 1 = -1 then mPop B n else mFail2 (mClr (mPop B n) n (fr0 A n 1)) n (fr0 A n 1)) := by
    intro τ B hτ hB w1
    obtain ⟨σ1, e1, h1⟩ := x_remove hτ hn hB
    unfold f_X_failFirst_L33
    rw [e1]
    show ∃ σ', (if fr0 A n 1 = -1 then _ else _) = some σ' ∧ _
    by_cases c : fr0 A n 1 = -1
    · rw [if_pos c, if_pos c]
      exact ⟨σ1, rfl, h1⟩
    · rw [if_neg c, if_neg c]
      exact x_fail_lp (nod_nds (wfF_to (fr0_wf w hn hne)) c) hn (w_Clr w1 n _) 7 0 200 σ1 (by omega) (by omega) (by rw [mClk_0]; exact h1)
  unfold f_X_failFirst
  simp only [tm_w]
  rw [z0, if_pos (h.kd hn (by omega)), hF.1, hF.2.1, gx_dropped h]
  unfold mFail mFail1
  by_cases c : fr0 A n 0 = 4
  · rw [if_pos c, if_pos c]
    exact fin _ _ (sx_dropped h _) hne (w_Pop (w_Drop w) hn hl)
  · rw [if_neg c, if_neg c]
    exact fin _ _ h hne (w_Pop w hn hl)
end X3
