/-! the class does what the mathematics says: queues and timers -/
section X1
variable {σ0 σ : tm_S} {A : sA} {n : Nat}
theorem kd_xF_a : ∀ i, i < 7 → ∀ m, m < 4 → kd (11 + 17 * i + 3 + 2 * m) = 8 := by decide +kernel
theorem RX.kd (h : RX σ0 σ A) (hn : n < 7) {k : Nat} (hk : k < 4) : kd (σ.2 (11 + 17 * n + 1 + 1) k) = 8 := by
  obtain ⟨m, hm, e⟩ := (h.2.1 n hn).2.2.1 k hk
  have e : σ.2 (11 + 17 * n + 1 + 1) k = 11 + 17 * n + 3 + 2 * m := e
  rw [e]
  exact kd_xF_a n hn m hm
theorem RX.size (h : RX σ0 σ A) (hn : n < 7) : σ.1 (11 + 17 * n + 1) 1 = nX (A.2 n).length := (h.2.1 n hn).1
theorem RX.len (h : RX σ0 σ A) (hn : n < 7) : (A.2 n).length ≤ 4 := (h.2.1 n hn).2.1
theorem x_isNode (σ : tm_S) (a : Int32) : f_X_isNode σ a = some (if a < 0 ∨ 7 ≤ a then 0 else 1, σ) := by
  unfold f_X_isNode f_X_isNode_L14
  by_cases h1 : a < 0
  · rw [if_pos h1, if_pos (Or.inl h1)]
  · by_cases h2 : (7 : Int32) ≤ a
    · rw [if_neg h1, if_pos h2, if_pos (Or.inr h2)]
    · rw [if_neg h1, if_neg h2, if_neg (fun q => q.elim h1 h2)]
theorem x_draw (h : RX σ0 σ A) {k : Int32} (hk : 0 < k) : ∃ σ', f_X_draw σ k = some (dV A k, σ') ∧ RX σ0 σ' (dA A) ∧ σ'.2 = σ.2 := by
  have h1 : ¬ k ≤ 0 := Int32.not_le.mpr hk
  have h2 : ¬ k = 0 := fun e => by
    rw [e] at hk
    exact absurd hk (by decide)
  refine ⟨sI σ 1 4 (dS A), ?_, sx_seed h _, rfl⟩
  simp only [f_X_draw, tm_w, gx_seed h, if_neg h1, if_pos h2, sI_eq]
  rfl
theorem x_begin (h : RX σ0 σ A) (hn : n < 7) {iv : Int32} (hiv : 0 < iv / 2) : ∃ σ', f_X_beginInterval σ (11 + 17 * n + 11) iv = some σ' ∧ RX σ0 σ' (mBegin A n iv) := by
  have h3 := sx_count (sx_clock (sx_interval h hn iv) hn 0) hn 0
  obtain ⟨σ4, e4, h4, -⟩ := x_draw h3 hiv
  refine ⟨sI σ4 (11 + 17 * n + 11) 3 (iv / 2 + dV A (iv / 2)), ?_, sx_point h4 hn _⟩
  simp only [f_X_beginInterval, tm_w, e4]
  rfl
theorem ivl_half {v : Int32} (h : ivl v) : 0 < v / 2 := by
  rcases h with rfl | rfl | rfl | rfl | rfl <;> decide
theorem x_reset (h : RX σ0 σ A) (hn : n < 7) : ∃ σ', f_X_resetTimer σ (11 + 17 * n) = some σ' ∧ RX σ0 σ' (mReset A n) := by
  unfold f_X_resetTimer mReset
  rw [gx_started h hn, gx_interval h hn]
  by_cases h1 : A.1 25 n 0 = 0
  · rw [if_pos h1, if_pos h1]
    exact ⟨σ, rfl, h⟩
  · rw [if_neg h1, if_neg h1]
    by_cases h2 : A.1 26 n 0 = 4
    · rw [if_pos h2, if_pos h2]
      exact ⟨σ, rfl, h⟩
    · rw [if_neg h2, if_neg h2]
      obtain ⟨σ', e, h'⟩ := x_begin h hn (iv := 4) (by decide)
      rw [e]
      exact ⟨σ', rfl, h'⟩
theorem x_first (h : RX σ0 σ A) (hn : n < 7) : ∃ σ1 σ2, f_X_draw σ 4 = some (dV A 4, σ1) ∧ f_R_beginFirst σ1 (11 + 17 * n + 1) (dV A 4) = some σ2 ∧ RX σ0 σ2 (mFirst A n) ∧ σ2.2 = σ.2 := by
  obtain ⟨σ1, e1, h1, p1⟩ := x_draw h (k := 4) (by decide)
  exact ⟨σ1, sI (sI (sI σ1 (11 + 17 * n + 1) 3 0) (11 + 17 * n + 1) 4 0) (11 + 17 * n + 1) 2 (dV A 4), e1, rfl, sx_wait (sx_tries (sx_busy h1 hn 0) hn 0) hn _, p1⟩
theorem nI_len_a : ∀ m, m < 5 → ((nX m < 4 ↔ m < 4) ∧ (nX m).toNatClampNeg = m ∧ ¬ nX m < 0 ∧ (nX m = 0 ↔ m = 0) ∧ (nX m = 1 ↔ m = 1) ∧ (nX m ≤ 0 ↔ m = 0) ∧ nX m + 1 = nX (m + 1)) := by decide
theorem nI_dec_a : ∀ m, m < 5 → nX (m + 1) - 1 = nX m := by decide
/-- what lies in a frame's cell -/
def rdF (σ : tm_S) (q : Nat) (k t : Int32) : sFr := fun x => if x = 0 then k else if x = 1 then t else if k = 3 then (if x = 3 then σ.1 q 3 else if x = 4 then σ.1 q 4 else σ.1 (q + 1) (x - 10)) else (if x = 3 then σ.1 q 6 else if x = 4 then σ.1 q 7 else if x = 5 then σ.1 q 8 else if x = 6 then σ.1 q 9 else if x = 7 then σ.1 q 10 else σ.1 q 11)
theorem x_full (h : RX σ0 σ A) (hn : n < 7) (hl : 4 ≤ (A.2 n).length) (k t : Int32) : f_X_enqueue σ (11 + 17 * n) k t = some (none, σ) := by
  have := h.len hn
  have e : (A.2 n).length = 4 := by omega
  unfold f_X_enqueue
  rw [h.size hn, e, if_neg (by decide)]
theorem x_enqueue (h : RX σ0 σ A) (hn : n < 7) (hl : (A.2 n).length < 4) (k t : Int32) : ∃ σ' q f, f_X_enqueue σ (11 + 17 * n) k t = some (some q, σ') ∧ q = xp σ' n (A.2 n).length ∧ kd q = 8 ∧ f 0 = k ∧ f 1 = t ∧ RX σ0 σ' (mPut A n f) := by
  obtain ⟨l1, l2, l3, l4, l5, -, l7⟩ := nI_len_a (A.2 n).length (by omega)
  have hkd := h.kd hn hl
  obtain ⟨m0, hm0, e0⟩ := (h.2.1 n hn).2.2.1 (A.2 n).length hl
  have h5 : RX σ0 (sI σ 1 6 (A.1 4 0 0 + 1)) (uA A 4 0 0 (A.1 4 0 0 + 1)) := sx_serials h _
  generalize hq : xp σ n (A.2 n).length = q at e0
  have hq' : σ.2 (11 + 17 * n + 1 + 1) (A.2 n).length = q := hq
  have hqF : q = 11 + 17 * n + 3 + 2 * m0 := e0
  generalize hσ8 : sI (sI (sI (sI (sI σ (11 + 17 * n + 1) 1 (nX ((A.2 n).length + 1))) 1 6 (A.1 4 0 0 + 1)) q 0 (A.1 4 0 0 + 1)) q 1 k) q 2 t = σ8
  have h8 : RX σ0 σ8 (qP A n (rdF σ q k t)) := by
    refine h5.push hn hl (q := q) hq.symm (f := fSr (rdF σ q k t) (A.1 4 0 0 + 1)) ?_ ?_ ?_ ?_
    · intro a j a1 a2 a3
      rw [← hσ8]
      simp only [sI_1]
      rw [if_neg (fun e => a1 e.1), if_neg (fun e => a1 e.1), if_neg (fun e => a1 e.1)]
      by_cases e : a = 1 ∧ j = 6
      · rw [if_pos e, if_pos e]
      · rw [if_neg e, if_neg e, if_neg a3]
    · rw [← hσ8]
      rfl
    · rw [← hσ8]
      rw [sI_no (by omega), sI_no (by omega), sI_no (by omega), sI_no (by omega), sI_eq]
      rfl
    · have e : ∀ j, j ≠ 0 → j ≠ 1 → j ≠ 2 → σ8.1 q j = σ.1 q j := by
        intro j j0 j1 j2
        rw [← hσ8]
        simp only [sI_1]
        rw [if_neg (fun e => j2 e.2), if_neg (fun e => j1 e.2), if_neg (fun e => j0 e.2), if_neg (by omega), if_neg (by omega)]
      have e' : ∀ j, σ8.1 (q + 1) j = σ.1 (q + 1) j := by
        intro j
        rw [← hσ8]
        simp only [sI_1]
        rw [if_neg (by omega), if_neg (by omega), if_neg (by omega), if_neg (by omega), if_neg (by omega)]
      refine ⟨?_, ?_, ?_, fun hk => ?_, fun hk => ?_⟩
      · rw [← hσ8, sI_no (by omega), sI_eq]
        rfl
      · rw [← hσ8, sI_eq]
        rfl
      · rw [← hσ8, sI_no (by omega), sI_no (by omega), sI_eq]
        rfl
      · have hk : k = 3 := hk
        subst hk
        rw [e 3 (by decide) (by decide) (by decide), e 4 (by decide) (by decide) (by decide)]
        refine ⟨rfl, rfl, fun g hg => ?_⟩
        rw [e' g]
        show σ.1 (q + 1) g = fSr (rdF σ q 3 t) _ (10 + g)
        unfold fSr rdF
        rw [if_neg (by omega), if_neg (by omega), if_neg (by omega), if_pos rfl, if_neg (by omega), if_neg (by omega), show 10 + g - 10 = g by omega]
      · have hk : k = 4 := hk
        subst hk
        rw [e 6 (by decide) (by decide) (by decide), e 7 (by decide) (by decide) (by decide), e 8 (by decide) (by decide) (by decide), e 9 (by decide) (by decide) (by decide), e 10 (by decide) (by decide) (by decide), e 11 (by decide) (by decide) (by decide)]
        exact ⟨rfl, rfl, rfl, rfl, rfl, rfl⟩
  have hp8 : σ8.2 = σ.2 := by
    rw [← hσ8]
    rfl
  have hx : xp σ8 n (A.2 n).length = q := by
    unfold xp
    rw [hp8]
    exact hq
  have hs8 : σ8.1 (11 + 17 * n + 1) 1 = nX ((A.2 n).length + 1) := by
    rw [← hσ8]
    rw [sI_no (by omega), sI_no (by omega), sI_no (by omega), sI_no (by omega), sI_eq]
  have run : f_X_enqueue σ (11 + 17 * n) k t = if σ8.1 (11 + 17 * n + 1) 1 = (1 : Int32) then (f_X_draw σ8 (4 : Int32)).bind fun q9 => (f_R_beginFirst q9.2 (11 + 17 * n + 1) q9.1).bind fun q10 => some (some q, q10) else some (some q, σ8) := by
    unfold f_X_enqueue f_X_enqueue_L91
    rw [h.size hn, if_pos (l1.mpr hl), l2, if_pos (fun q => q.elim l3 (by omega))]
    simp only [tm_w, hq', l7]
    rw [if_pos (by rw [← hq']; exact hkd)]
    have e6 : (sI σ (11 + 17 * n + 1) 1 (nX ((A.2 n).length + 1))).1 1 6 = A.1 4 0 0 := by
      rw [sI_no (by omega)]
      exact gx_serials h
    simp only [e6, sI_eq, hσ8]
  by_cases h0 : (A.2 n).length = 0
  · have hf : σ8.1 (11 + 17 * n + 1) 1 = 1 := by
      rw [hs8, h0]
      rfl
    obtain ⟨σ9, σ10, g1, g2, g3, g4⟩ := x_first h8 hn
    refine ⟨σ10, q, rdF σ q k t, ?_, ?_, ?_, rfl, rfl, ?_⟩
    · rw [run, if_pos hf, g1]
      simp only [Option.bind_some]
      have g2' : f_R_beginFirst σ9 (11 + 17 * n + 1) (dV (qP A n (rdF σ q k t)) 4) = some σ10 := g2
      rw [g2']
      rfl
    · unfold xp
      rw [g4, hp8]
      exact hq.symm
    · rw [← hq']
      exact hkd
    · unfold mPut
      rw [if_neg (by omega), if_pos h0]
      exact g3
  · have hf : ¬ σ8.1 (11 + 17 * n + 1) 1 = 1 := by
      rw [hs8]
      intro e
      have := (nI_len_a ((A.2 n).length + 1) (by omega)).2.2.2.2.1.mp e
      omega
    refine ⟨σ8, q, rdF σ q k t, ?_, hx.symm, ?_, rfl, rfl, ?_⟩
    · rw [run, if_neg hf]
    · rw [← hq']
      exact hkd
    · unfold mPut
      rw [if_neg (by omega), if_neg h0]
      exact h8
end X1
