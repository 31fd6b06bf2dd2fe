/-! the class does what the mathematics says: frames leave, announcements -/
section X2
variable {σ0 σ : tm_S} {A : sA} {n m : Nat}
theorem sP_2 (σ : tm_S) (a k r q j : Nat) : (sP σ a k r).2 q j = if q = a ∧ j = k then r else σ.2 q j := rfl
theorem z0 : (0 : Int32).toNatClampNeg = 0 := by decide
theorem z3 : (3 : Int32).toNatClampNeg = 3 := by decide
theorem rm_a : ∀ m, m < 3 → (¬ (4 : Int32) ≤ nX (m + 1)) ∧ (¬ (nX (m + 1) < 0 ∨ 4 ≤ (nX (m + 1)).toNatClampNeg)) ∧ (nX (m + 1)).toNatClampNeg = m + 1 ∧ nX (m + 1) - 1 = nX m ∧ (¬ (nX m < 0 ∨ 4 ≤ (nX m).toNatClampNeg)) ∧ (nX m).toNatClampNeg = m ∧ nX (m + 1) + 1 = nX (m + 2) := by decide
theorem x_rm_step {k : Nat} {τ : tm_S} {l1 l2 : Nat} (hm : m < 3) (hkd : kd (τ.2 (l1 + 1) (m + 1)) = 8) : f_X_removeFirst_L9 (k + 1) τ l1 l2 (nX (m + 1)) = f_X_removeFirst_L9 k (sP τ (l1 + 1) m (τ.2 (l1 + 1) (m + 1))) l1 l2 (nX (m + 2)) := by
  obtain ⟨a1, a2, a3, a4, a5, a6, a7⟩ := rm_a m hm
  rw [f_X_removeFirst_L9, if_neg a1, if_pos a2, a3, a4, a7]
  simp only [tm_w]
  rw [if_pos hkd, if_pos a5, a6]
theorem x_remove (h : RX σ0 σ A) (hn : n < 7) (hne : A.2 n ≠ []) : ∃ σ', f_X_removeFirst σ (11 + 17 * n + 1) = some σ' ∧ RX σ0 σ' (mPop A n) := by
  have hlen := h.len hn
  have hpos : 0 < (A.2 n).length := List.length_pos_iff.mpr hne
  generalize hf : 11 + 17 * n + 1 + 1 = f
  have hkd : ∀ k, k < 4 → kd (σ.2 f k) = 8 := fun k hk => by
    rw [← hf]
    exact h.kd hn hk
  generalize hσ3 : sP (sP (sP (sP σ f 0 (σ.2 f 1)) f 1 (σ.2 f 2)) f 2 (σ.2 f 3)) f 3 (σ.2 f 0) = σ3
  have e1 : σ3.1 = σ.1 := by
    rw [← hσ3]
    rfl
  have htl : (A.2 n).tail.length + 1 = (A.2 n).length := by
    rw [List.length_tail]
    omega
  have hs4 : σ.1 (11 + 17 * n + 1) 1 - 1 = nX (A.2 n).tail.length := by
    rw [h.size hn, ← htl]
    exact nI_dec_a _ (by omega)
  have h4 : RX σ0 (sI σ3 (11 + 17 * n + 1) 1 (nX (A.2 n).tail.length)) (uQ A n (A.2 n).tail) := by
    refine h.pop hn hne ?_ sI_eq ?_ ?_ ?_
    · intro a j hj
      rw [sI_no hj, e1]
    · intro a ha
      show σ3.2 a = σ.2 a
      funext j
      have ha : ¬ a = f := by
        rw [← hf]
        exact ha
      rw [← hσ3]
      simp [sP_2, ha]
    · intro k hk
      show σ3.2 (11 + 17 * n + 1 + 1) k = σ.2 (11 + 17 * n + 1 + 1) (k + 1)
      rw [hf, ← hσ3]
      have : k = 0 ∨ k = 1 ∨ k = 2 := by omega
      rcases this with rfl | rfl | rfl <;> simp [sP_2]
    · show σ3.2 (11 + 17 * n + 1 + 1) 3 = σ.2 (11 + 17 * n + 1 + 1) 0
      rw [hf, ← hσ3]
      simp [sP_2]
  have run : f_X_removeFirst σ (11 + 17 * n + 1) = if (sI σ3 (11 + 17 * n + 1) 1 (nX (A.2 n).tail.length)).1 (11 + 17 * n + 1) 1 ≤ 0 then some (sI σ3 (11 + 17 * n + 1) 1 (nX (A.2 n).tail.length)) else (f_X_draw (sI σ3 (11 + 17 * n + 1) 1 (nX (A.2 n).tail.length)) (4 : Int32)).bind fun q5 => (f_R_beginFirst q5.2 (11 + 17 * n + 1) q5.1).bind fun q6 => some q6 := by
    unfold f_X_removeFirst
    simp only [tm_w]
    rw [z0, hf, if_pos (hkd 0 (by omega))]
    show f_X_removeFirst_L9 (196 + 1 + 1 + 1 + 1) σ _ _ (nX (0 + 1)) = _
    rw [x_rm_step (by omega) (by rw [hf]; exact hkd 1 (by omega))]
    rw [hf]
    show f_X_removeFirst_L9 (196 + 1 + 1 + 1) _ _ _ (nX (1 + 1)) = _
    rw [x_rm_step (by omega) (by rw [hf]; simp only [sP_2]; simpa using hkd 2 (by omega))]
    rw [hf]
    show f_X_removeFirst_L9 (196 + 1 + 1) _ _ _ (nX (2 + 1)) = _
    rw [x_rm_step (by omega) (by rw [hf]; simp only [sP_2]; simpa using hkd 3 (by omega))]
    rw [hf, f_X_removeFirst_L9, if_pos (by decide)]
    simp only [tm_w]
    rw [hf, z3]
    have e : sP (sP (sP (sP σ f 0 (σ.2 f (0 + 1))) f 1 ((sP σ f 0 (σ.2 f (0 + 1))).2 f (1 + 1))) f 2 ((sP (sP σ f 0 (σ.2 f (0 + 1))) f 1 ((sP σ f 0 (σ.2 f (0 + 1))).2 f (1 + 1))).2 f (2 + 1))) f 3 (σ.2 f 0) = σ3 := by
      rw [← hσ3]
      simp [sP_2]
    rw [e, e1, hs4]
  unfold mPop
  rw [run, sI_eq]
  have hle := (nI_len_a (A.2 n).tail.length (by omega)).2.2.2.2.2.1
  by_cases h0 : (A.2 n).tail.length = 0
  · rw [if_pos h0, if_pos (hle.mpr h0)]
    exact ⟨_, rfl, h4⟩
  · rw [if_neg h0, if_neg (fun q => h0 (hle.mp q))]
    obtain ⟨σ9, σ10, g1, g2, g3, -⟩ := x_first h4 hn
    refine ⟨σ10, ?_, g3⟩
    rw [g1]
    simp only [Option.bind_some]
    rw [g2]
    rfl
theorem RX.head (h : RX σ0 σ A) (hn : n < 7) (hne : A.2 n ≠ []) : FX σ (σ.2 (11 + 17 * n + 1 + 1) 0) (fr0 A n) := by
  have h5 := (h.2.1 n hn).2.2.2.2
  unfold fr0
  cases hl : A.2 n with
  | nil => exact absurd hl hne
  | cons f t =>
    rw [hl] at h5
    exact h5 0 f rfl
theorem wf.id (w : wf m A) (hn : n < 7) : A.1 9 n 0 = nX n := w.1 9 n 0 (xV_n (by decide) hn)
theorem RX.id (h : RX σ0 σ A) (w : A.1 9 n 0 = nX n) (hn : n < 7) : σ.1 (11 + 17 * n) 0 = nX n := (gx_id h hn).trans w
theorem lp_a : ∀ g, g < 7 → (¬ (7 : Int32) ≤ nX g) ∧ nX g + 1 = nX (g + 1) ∧ (nX g).toNatClampNeg = g ∧ (¬ (nX g < 0 ∨ 7 ≤ (nX g).toNatClampNeg)) := by decide
theorem lp_b : ∀ g, g < 7 → ¬ (nX g < 0 ∨ 7 ≤ g) := by decide
theorem x_goals_lp (h : RX σ0 σ A) (hn : n < 7) : ∀ (c g k : Nat) (bits : Int32), g + c = 7 → c < k → f_X_ownGoals_L9 k σ (11 + 17 * n) bits (nX g) = some (mGoals A n c g bits, σ)
  | 0, g, k + 1, bits, hg, _ => by
    obtain rfl : g = 7 := by omega
    rw [f_X_ownGoals_L9, if_pos (by decide)]
    rfl
  | c + 1, g, k + 1, bits, hg, hk => by
    obtain ⟨a1, a2, a3, a4⟩ := lp_a g (by omega)
    rw [f_X_ownGoals_L9, if_neg a1, if_pos a4, a3, gx_nexts h hn (by omega)]
    unfold f_X_ownGoals_L31 mGoals
    rw [a2]
    by_cases hc : A.1 31 n g = -1
    · rw [if_pos hc, if_pos hc]
      exact x_goals_lp h hn c (g + 1) k bits (by omega) (by omega)
    · rw [if_neg hc, if_neg hc]
      exact x_goals_lp h hn c (g + 1) k _ (by omega) (by omega)
theorem x_goals (h : RX σ0 σ A) (w : A.1 9 n 0 = nX n) (hn : n < 7) : f_X_ownGoals σ (11 + 17 * n) = some (sGoals A n, σ) := by
  unfold f_X_ownGoals
  rw [h.id w hn]
  exact x_goals_lp h hn 7 0 200 _ (by omega) (by omega)
theorem Put_1 {f : sFr} {t i j : Nat} (ht : t ≠ 2 ∧ t ≠ 4 ∧ t ≠ 17 ∧ t ≠ 18 ∧ t ≠ 16) : (mPut A n f).1 t i j = A.1 t i j := by
  unfold mPut
  split
  · rfl
  · split
    · unfold mFirst dA qP
      rw [uA_ne ht.2.2.2.2, uA_ne ht.2.2.2.1, uA_ne ht.2.2.1, uA_ne ht.1, uQ_1, uA_ne ht.2.1]
    · unfold qP
      rw [uQ_1, uA_ne ht.2.1]
theorem Put_2 {f : sFr} (hl : (A.2 n).length < 4) : (mPut A n f).2 n = A.2 n ++ [fSr f (A.1 4 0 0 + 1)] := by
  have e : (qP A n f).2 n = A.2 n ++ [fSr f (A.1 4 0 0 + 1)] := by
    unfold qP
    rw [uQ_2, if_pos rfl]
  unfold mPut
  rw [if_neg (by omega)]
  split
  · exact e
  · exact e
theorem Put_uQ {f g : sFr} (hl : (A.2 n).length < 4) : uQ (mPut A n f) n (A.2 n ++ [fSr g (A.1 4 0 0 + 1)]) = mPut A n g := by
  have e : ∀ i, (if i = n then A.2 n ++ [fSr g (A.1 4 0 0 + 1)] else (qP A n f).2 i) = (qP A n g).2 i := by
    intro i
    unfold qP
    simp only [uQ_2]
    by_cases hi : i = n
    · rw [if_pos hi, if_pos hi]
    · rw [if_neg hi, if_neg hi, if_neg hi]
  have h4 : ¬ 4 ≤ (A.2 n).length := by omega
  unfold mPut
  simp only [if_neg h4]
  by_cases h0 : (A.2 n).length = 0
  · simp only [if_pos h0]
    exact Prod.ext rfl (funext e)
  · simp only [if_neg h0]
    exact Prod.ext rfl (funext e)
theorem sC_1 (σ : tm_S) (s d q j : Nat) : (sC σ s d).1 q j = if q = d ∧ j < 7 then σ.1 s j else σ.1 q j := rfl
theorem x_ann (h : RX σ0 σ A) (hn : n < 7) (goals to wd : Int32) (hw : bl wd) : ∃ σ', f_X_announce σ (11 + 17 * n) goals to wd = some σ' ∧ RX σ0 σ' (mAnn A n goals to wd) := by
  unfold f_X_announce mAnn
  by_cases hl : 4 ≤ (A.2 n).length
  · rw [x_full h hn hl]
    refine ⟨σ, rfl, ?_⟩
    unfold mPut
    rw [if_pos hl]
    exact h
  · have hl : (A.2 n).length < 4 := by omega
    obtain ⟨σ1, q, f, e1, eq, ekd, ek, et, h1⟩ := x_enqueue h hn hl 3 to
    rw [e1]
    show ∃ σ', (if kd q = 8 then _ else none) = some σ' ∧ _
    rw [if_pos ekd]
    simp only [tm_w]
    have hw : wd = 0 ∨ wd = 1 := hw
    rw [if_pos hw]
    refine ⟨_, rfl, ?_⟩
    have hB := Put_2 (f := f) hl
    obtain ⟨m0, hm0, e0⟩ := (h1.2.1 n hn).2.2.1 (A.2 n).length hl
    have hqF : q = 11 + 17 * n + 3 + 2 * m0 := eq.trans e0
    have hF := (h1.2.1 n hn).2.2.2.2 (A.2 n).length (fSr f (A.1 4 0 0 + 1)) (by rw [hB]; simp)
    rw [← eq] at hF
    have key := h1.last hn hB eq (σ' := sC (sI (sI σ1 q 3 goals) q 4 wd) (11 + 17 * n + 14) (q + 1)) (f' := fSr (frA A n goals to wd) (A.1 4 0 0 + 1)) (fun a a1 a2 => ?_) rfl ?_
    · rw [Put_uQ hl] at key
      exact key
    · funext j
      rw [sC_1, if_neg (fun e => a2 e.1), sI_ne1 a1, sI_ne1 a1]
    · have o : ∀ j, j ≠ 3 → j ≠ 4 → (sC (sI (sI σ1 q 3 goals) q 4 wd) (11 + 17 * n + 14) (q + 1)).1 q j = σ1.1 q j := by
        intro j j3 j4
        rw [sC_1, if_neg (by omega), sI_no (by omega), sI_no (by omega)]
      refine ⟨?_, ?_, ?_, fun _ => ⟨?_, ?_, fun g hg => ?_⟩, fun hk => ?_⟩
      · rw [o 1 (by decide) (by decide), hF.1]
        exact ek
      · rw [o 2 (by decide) (by decide), hF.2.1]
        exact et
      · rw [o 0 (by decide) (by decide), hF.2.2.1]
        rfl
      · rw [sC_1, if_neg (by omega), sI_no (by omega), sI_eq]
        rfl
      · rw [sC_1, if_neg (by omega), sI_eq]
        rfl
      · rw [sC_1, if_pos ⟨rfl, hg⟩, sI_ne1 (by omega), sI_ne1 (by omega), gx_numbers h1 hn hg, Put_1 (by decide)]
        show _ = fSr (frA A n goals to wd) _ (10 + g)
        unfold fSr frA
        rw [if_neg (by omega), if_neg (by omega), if_neg (by omega), if_neg (by omega), if_neg (by omega), if_pos (by omega), show 10 + g - 10 = g by omega]
      · exact absurd (show (3 : Int32) = 4 from hk) (by decide)
theorem x_sum (h : RX σ0 σ A) (w : A.1 9 n 0 = nX n) (hn : n < 7) {b : Int32} (hb : nds b) : f_X_rankBelow σ (11 + 17 * n) b = some (sSum A n b.toNatClampNeg, σ) := by
  obtain ⟨k, hk, rfl⟩ := hb
  obtain ⟨-, -, a3, a4⟩ := lp_a k hk
  obtain ⟨-, -, b3, b4⟩ := lp_a n hn
  unfold f_X_rankBelow
  rw [h.id w hn, if_pos a4, if_pos b4, if_pos a4, a3, b3, gx_ranks h hn hk, gx_cost h hn hk]
  rfl
end X2
