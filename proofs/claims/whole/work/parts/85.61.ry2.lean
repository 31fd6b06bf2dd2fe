/-! the reference's queues -/
theorem RY.mono {σ0 σ : tm_S} {B B' : Nat} {tmp : Option Nat} {A : sA} (h : RY σ0 B tmp σ A) (hB : B ≤ B') : RY σ0 B' tmp σ A := by
  obtain ⟨p1, p2, p3, p4, p5, p6, p7⟩ := h
  refine ⟨p1, p2, p3, fun i hi => ?_, ?_, p6, p7⟩
  · obtain ⟨a, h1, h2⟩ := p4 i hi
    exact ⟨a, by omega, h2⟩
  · obtain ⟨s0, n0, h1, h2⟩ := p5
    exact ⟨s0, n0, by omega, h2⟩
/-- as many places as values -/
theorem pig : ∀ (m n : Nat) (f : Nat → Nat), (∀ s, s < n → ∃ p, p < m ∧ f p = s) → n ≤ m
  | 0, n, f, h => by
    cases n with
    | zero => exact Nat.le_refl _
    | succ n =>
      obtain ⟨p, hp, -⟩ := h 0 (by omega)
      omega
  | m + 1, n, f, h => by
    cases n with
    | zero => omega
    | succ n =>
      have := pig m n (fun p => if f p = n then f m else f p) (fun s hs => by
        obtain ⟨p, hp, e⟩ := h s (by omega)
        by_cases hpm : p = m
        · subst hpm
          obtain ⟨p', hp', e'⟩ := h n (by omega)
          have hne : p' ≠ p := by
            intro q
            subst q
            omega
          refine ⟨p', by omega, ?_⟩
          show (if f p' = n then f p else f p') = s
          rw [if_pos e']
          exact e
        · refine ⟨p, by omega, ?_⟩
          show (if f p = n then f m else f p) = s
          rw [if_neg (by omega)]
          exact e)
      omega
theorem yQ_free {σ : tm_S} {A : sA} (h : yQ none σ A) : ∃ s, s < 32 ∧ σ.1 154 s = 0 := by
  apply Classical.byContradiction
  intro hc
  have := pig 28 32 (fun p => yp σ (p / 4) (p % 4)) (fun s hs => by
    rcases h.2.2.2.1 s hs with h1 | ⟨-, h1 | ⟨i, k, hi, hk, e⟩⟩
    · exact absurd ⟨s, hs, h1⟩ hc
    · cases h1
    · have hl := (h.1 i hi).2
      refine ⟨4 * i + k, by omega, ?_⟩
      show yp σ ((4 * i + k) / 4) ((4 * i + k) % 4) = s
      rw [show (4 * i + k) / 4 = i by omega, show (4 * i + k) % 4 = k by omega]
      exact e)
  omega
/-- a name is given to the free place s -/
theorem RY.make {σ0 σ : tm_S} {B : Nat} {A : sA} (h : RY σ0 B none σ A) (hB : B < 2000000000) {s : Nat} (hs : s < 32) (hu : σ.1 154 s = 0) {σ' : tm_S} {n1 : Int32} (hn1 : n1 = σ.1 130 40 + 1) (h2 : σ'.2 = σ.2)
    (ho : ∀ q j, ¬ (q = 130 ∧ j = 40) → ¬ ((q = 154 ∨ q = 155 ∨ q = 156 ∨ q = 157) ∧ j = s) → σ'.1 q j = σ.1 q j) (e1 : σ'.1 130 40 = n1) (e2 : σ'.1 154 s = 1) (e3 : σ'.1 155 s = n1) : RY σ0 (B + 1) (some s) σ' A := by
  obtain ⟨p1, p2, p3, p4, p5, p6, p7⟩ := h
  have hne : ∀ i k, i < 7 → k < (A.2 i).length → yp σ i k ≠ s := by
    intro i k hi hk e
    obtain ⟨f, hf⟩ : ∃ f, (A.2 i)[k]? = some f := ⟨_, List.getElem?_eq_getElem hk⟩
    have := (p6.2.1 i k f hi hf).2.2.1
    rw [e, hu] at this
    exact absurd this (by decide)
  have hne' : ∀ i k f, i < 7 → (A.2 i)[k]? = some f → yp σ i k ≠ s := fun i k f hi hf => hne i k hi (List.getElem?_eq_some_iff.mp hf).1
  have eq1 : ∀ q, q ≠ 130 → q ≠ 154 → q ≠ 155 → q ≠ 156 → q ≠ 157 → σ'.1 q = σ.1 q := by
    intro q a1 a2 a3 a4 a5
    funext j
    exact ho q j (fun e => a1 e.1) (fun e => by
      rcases e.1 with e | e | e | e
      · exact a2 e
      · exact a3 e
      · exact a4 e
      · exact a5 e)
  have eq2 : ∀ q j, q ≠ 130 → j ≠ s → σ'.1 q j = σ.1 q j := fun q j a1 a2 => ho q j (fun e => a1 e.1) (fun e => a2 e.2)
  have eyp : ∀ i k, yp σ' i k = yp σ i k := fun i k => by unfold yp; rw [eq1 147 (by decide) (by decide) (by decide) (by decide) (by decide)]
  have eF : ∀ s' f, s' ≠ s → FY σ s' f → FY σ' s' f := fun s' f hs' hf => hf.congr (fun q hq => by
    rcases hq with rfl | rfl | rfl | rfl | rfl | rfl | rfl | rfl | rfl | rfl <;> exact eq2 _ _ (by decide) hs') (fun g _ => by rw [eq1 159 (by decide) (by decide) (by decide) (by decide) (by decide)])
  refine ⟨fun t i j hv => ?_, fun i hi => ?_, fun i j hi hj => ?_, fun i hi => ?_, ?_, ?_, fun q hq => ?_, h2.trans p7.2⟩
  · have hy := yA_ok hv
    rw [ho (yA t) (yS t i j) (fun e => yA_40 hv ⟨e.1.symm, e.2.symm⟩) (fun e => by
      rcases e.1 with e | e | e | e <;> (rw [e] at hy; exact absurd hy (by decide)))]
    exact p1 t i j hv
  · rw [eq1 137 (by decide) (by decide) (by decide) (by decide) (by decide)]
    exact p2 i hi
  · rw [eq1 133 (by decide) (by decide) (by decide) (by decide) (by decide), eq1 132 (by decide) (by decide) (by decide) (by decide) (by decide)]
    exact p3 i j hi hj
  · rw [eq1 173 (by decide) (by decide) (by decide) (by decide) (by decide)]
    obtain ⟨a, h3, h4⟩ := p4 i hi
    exact ⟨a, by omega, h4⟩
  · obtain ⟨s0, n0, b1, b2, b3, b4, b5, b6, b7, b8⟩ := p5
    have b2 : s0 ≤ n0 := b2
    refine ⟨s0, n0 + 1, by omega, by show s0 + 1 ≤ n0 + 1; omega, b3, ?_, ?_, fun a x ha hx => ?_, fun x k f hx hf => ?_, fun x k k' f f' hx hk hf hf' => ?_⟩
    · rw [e1, hn1, b4, Int32.ofNat_add]
      rfl
    · intro s' hs'
      obtain rfl : s = s' := Option.some.inj hs'
      rw [e3, hn1, b4, Int32.ofNat_add]
      rfl
    · obtain ⟨r, l, c1, c2, c3, c4⟩ := b6 a x ha hx
      have c2 : l ≤ n0 := c2
      refine ⟨r, l, c1, by show l + 1 ≤ n0 + 1; omega, c3, ?_⟩
      rw [eq1 136 (by decide) (by decide) (by decide) (by decide) (by decide)]
      exact c4
    · obtain ⟨s1, m1, d1, d2, d3, d4, d5⟩ := b7 x k f hx hf
      have d2 : m1 ≤ n0 := d2
      refine ⟨s1, m1, d1, by show m1 ≤ n0 + 1 - 1; omega, d3, ?_, fun a ha => ?_⟩
      · rw [eyp, eq2 155 _ (by decide) (hne' x k f hx hf)]
        exact d4
      · rw [eyp, eq2 155 _ (by decide) (hne' x k f hx hf), eq1 136 (by decide) (by decide) (by decide) (by decide) (by decide)]
        exact d5 a ha
    · rw [eyp, eyp, eq2 155 _ (by decide) (hne' x k f hx hf), eq2 155 _ (by decide) (hne' x k' f' hx hf')]
      exact b8 x k k' f f' hx hk hf hf'
  · obtain ⟨c1, c2, c3, c4, -⟩ := p6
    refine ⟨fun i hi => ?_, fun i k f hi hf => ?_, fun i k i' k' hi hi' hk hk' e => ?_, fun s' hs' => ?_, fun s' hs' => ?_⟩
    · rw [eq1 148 (by decide) (by decide) (by decide) (by decide) (by decide)]
      exact c1 i hi
    · obtain ⟨d1, d2, d3, d4⟩ := c2 i k f hi hf
      have hx := hne' i k f hi hf
      rw [eyp, eq1 147 (by decide) (by decide) (by decide) (by decide) (by decide), eq2 154 _ (by decide) hx]
      exact ⟨d1, d2, d3, eF _ _ hx d4⟩
    · rw [eyp, eyp] at e
      exact c3 i k i' k' hi hi' hk hk' e
    · by_cases hx : s' = s
      · subst hx
        exact Or.inr ⟨e2, Or.inl rfl⟩
      · rw [eq2 154 s' (by decide) hx]
        rcases c4 s' hs' with h3 | ⟨h3, h4 | ⟨i, k, h4, h5, h6⟩⟩
        · exact Or.inl h3
        · cases h4
        · exact Or.inr ⟨h3, Or.inr ⟨i, k, h4, h5, by rw [eyp]; exact h6⟩⟩
    · obtain rfl : s = s' := Option.some.inj hs'
      exact ⟨hs, e2, fun i k hi hk => by rw [eyp]; exact hne i k hi hk⟩
  · have : σ'.1 q = σ.1 q := by
      apply eq1 <;> (intro e; rw [e] at hq; exact absurd hq (by decide))
    rw [this]
    exact p7.1 q hq
/-- what the frame that isn't queued yet bears -/
theorem RY.tmp {σ0 σ : tm_S} {B : Nat} {A : sA} {s : Nat} (h : RY σ0 B (some s) σ A) {σ' : tm_S} (h2 : σ'.2 = σ.2) (ho : ∀ q j, ¬ ((q = 158 ∨ q = 160 ∨ q = 161 ∨ q = 162 ∨ q = 163 ∨ q = 164 ∨ q = 165 ∨ q = 166) ∧ j = s) → ¬ (q = 159 ∧ j / 7 = s) → σ'.1 q j = σ.1 q j) : RY σ0 B (some s) σ' A := by
  obtain ⟨p1, p2, p3, p4, p5, p6, p7⟩ := h
  have eq0 : ∀ q, q ∉ [158, 160, 161, 162, 163, 164, 165, 166, 159] → σ'.1 q = σ.1 q := by
    intro q hq
    funext j
    apply ho
    · intro e
      apply hq
      rcases e.1 with rfl | rfl | rfl | rfl | rfl | rfl | rfl | rfl <;> decide
    · intro e
      apply hq
      rw [e.1]
      decide
  have hn := (p6.2.2.2.2 s rfl).2.2
  have hne' : ∀ i k f, i < 7 → (A.2 i)[k]? = some f → yp σ i k ≠ s := fun i k f hi hf => hn i k hi (List.getElem?_eq_some_iff.mp hf).1
  have eyp : ∀ i k, yp σ' i k = yp σ i k := fun i k => by unfold yp; rw [eq0 147 (by decide)]
  have eF : ∀ s' f, s' ≠ s → FY σ s' f → FY σ' s' f := fun s' f hs' hf => hf.congr (fun q _ => ho q s' (fun e => hs' e.2) (fun e => by
    rcases (by assumption : q = 156 ∨ q = 157 ∨ q = 158 ∨ q = 160 ∨ q = 161 ∨ q = 162 ∨ q = 163 ∨ q = 164 ∨ q = 165 ∨ q = 166) with rfl | rfl | rfl | rfl | rfl | rfl | rfl | rfl | rfl | rfl <;> exact absurd e.1 (by decide))) (fun g hg => ho _ _ (fun e => by
      rcases e.1 with e | e | e | e | e | e | e | e <;> exact absurd e (by decide)) (fun e => hs' (by omega)))
  refine ⟨fun t i j hv => ?_, fun i hi => ?_, fun i j hi hj => ?_, fun i hi => ?_, ?_, ?_, fun q hq => ?_, h2.trans p7.2⟩
  · have hy := yA_ok hv
    rw [eq0 (yA t) (by
      intro e
      have e : yA t = 158 ∨ yA t = 160 ∨ yA t = 161 ∨ yA t = 162 ∨ yA t = 163 ∨ yA t = 164 ∨ yA t = 165 ∨ yA t = 166 ∨ yA t = 159 := by simpa using e
      rcases e with e | e | e | e | e | e | e | e | e <;> (rw [e] at hy; exact absurd hy (by decide)))]
    exact p1 t i j hv
  · rw [eq0 137 (by decide)]
    exact p2 i hi
  · rw [eq0 133 (by decide), eq0 132 (by decide)]
    exact p3 i j hi hj
  · rw [eq0 173 (by decide)]
    exact p4 i hi
  · unfold yN yM at p5 ⊢
    simp only [eyp]
    rw [eq0 130 (by decide), eq0 155 (by decide), eq0 136 (by decide)]
    exact p5
  · obtain ⟨c1, c2, c3, c4, c5⟩ := p6
    unfold yQ
    simp only [eyp]
    rw [eq0 148 (by decide), eq0 147 (by decide), eq0 154 (by decide)]
    exact ⟨c1, fun i k f hi hf => ⟨(c2 i k f hi hf).1, (c2 i k f hi hf).2.1, (c2 i k f hi hf).2.2.1, eF _ _ (hne' i k f hi hf) (c2 i k f hi hf).2.2.2⟩, c3, c4, c5⟩
  · rw [eq0 q (by
      intro e
      have e : q = 158 ∨ q = 160 ∨ q = 161 ∨ q = 162 ∨ q = 163 ∨ q = 164 ∨ q = 165 ∨ q = 166 ∨ q = 159 := by simpa using e
      rcases e with e | e | e | e | e | e | e | e | e <;> (rw [e] at hq; exact absurd hq (by decide)))]
    exact p7.1 q hq
