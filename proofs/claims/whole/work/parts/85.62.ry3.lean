/-! the reference's queues grow and shrink -/
/-- what the queues don't touch -/
theorem RY_rest {σ0 σ σ' : tm_S} {B : Nat} {A A' : sA} {tmp : Option Nat} (h : RY σ0 B tmp σ A) (h2 : σ'.2 = σ.2) (eq0 : ∀ q, q ∉ [147, 148, 154] → σ'.1 q = σ.1 q) (hA : ∀ t, t ≠ 4 → A'.1 t = A.1 t) : (∀ t i j, yV t i j = true → σ'.1 (yA t) (yS t i j) = A'.1 t i j) ∧ yD σ' A' ∧ yK σ' A' ∧ yL B σ' A' ∧ frY σ0 σ' := by
  obtain ⟨p1, p2, p3, p4, -, -, p7⟩ := h
  refine ⟨fun t i j hv => ?_, fun i hi => ?_, fun i j hi hj => ?_, fun i hi => ?_, fun q hq => ?_, h2.trans p7.2⟩
  · have hy := yA_ok hv
    rw [eq0 (yA t) (by
      intro e
      have e : yA t = 147 ∨ yA t = 148 ∨ yA t = 154 := by simpa using e
      rcases e with e | e | e <;> (rw [e] at hy; exact absurd hy (by decide))), hA t (by
      intro e
      subst e
      unfold yV at hv
      cases hv)]
    exact p1 t i j hv
  · rw [eq0 137 (by decide), hA 11 (by decide)]
    exact p2 i hi
  · rw [eq0 133 (by decide), eq0 132 (by decide), hA 30 (by decide)]
    exact p3 i j hi hj
  · rw [eq0 173 (by decide), hA 10 (by decide), hA 34 (by decide)]
    exact p4 i hi
  · rw [eq0 q (by
      intro e
      have e : q = 147 ∨ q = 148 ∨ q = 154 := by simpa using e
      rcases e with e | e | e <;> (rw [e] at hq; exact absurd hq (by decide)))]
    exact p7.1 q hq
theorem FY_same {σ σ' : tm_S} (eq0 : ∀ q, q ∉ [147, 148, 154] → σ'.1 q = σ.1 q) {s : Nat} {f : sFr} (h : FY σ s f) : FY σ' s f := h.congr (fun q hq => by
  rcases hq with rfl | rfl | rfl | rfl | rfl | rfl | rfl | rfl | rfl | rfl <;> rw [eq0 _ (by decide)]) (fun g _ => by rw [eq0 159 (by decide)])
theorem FY_ser {σ : tm_S} {s : Nat} {f : sFr} (h : FY σ s f) (v : Int32) : FY σ s (fSr f v) := ⟨h.1, h.2.1, fun e => ⟨(h.2.2.1 e).1, (h.2.2.1 e).2.1, fun g hg => by
  rw [(h.2.2.1 e).2.2 g hg]
  show f (10 + g) = fSr f v (10 + g)
  unfold fSr
  rw [if_neg (by omega)]⟩, h.2.2.2⟩
theorem RY.push {σ0 σ σ' : tm_S} {B : Nat} {A : sA} {s : Nat} (h : RY σ0 B (some s) σ A) (hB : B < 2000000000) {a : Nat} (ha : a < 7) (hl : (A.2 a).length < 4) {f : sFr} (hf : FY σ s f) (h2 : σ'.2 = σ.2) (eq0 : ∀ q, q ∉ [147, 148, 154] → σ'.1 q = σ.1 q) (eu : σ'.1 154 = σ.1 154)
    (eq1 : σ'.1 147 (4 * a + (A.2 a).length) = Int32.ofNat s) (eq2 : ∀ p, p ≠ 4 * a + (A.2 a).length → σ'.1 147 p = σ.1 147 p) (em1 : σ'.1 148 a = nX ((A.2 a).length + 1)) (em2 : ∀ p, p ≠ a → σ'.1 148 p = σ.1 148 p) : RY σ0 B none σ' (qP A a f) := by
  obtain ⟨r1, r2, r3, r4, r5⟩ := RY_rest (A' := qP A a f) h h2 eq0 (fun t ht => by
    funext i j
    exact uA_ne ht)
  obtain ⟨-, -, -, -, p5, p6, -⟩ := h
  obtain ⟨c1, c2, c3, c4, c5⟩ := p6
  obtain ⟨hs, hus, hsn⟩ := c5 s rfl
  have e2 : ∀ i, (qP A a f).2 i = if i = a then A.2 a ++ [fSr f (A.1 4 0 0 + 1)] else A.2 i := fun i => rfl
  have ypn : yp σ' a (A.2 a).length = s := by
    unfold yp
    rw [eq1, on_ix (by omega)]
  have ypo : ∀ i k, i < 7 → k < (A.2 i).length → yp σ' i k = yp σ i k := by
    intro i k hi hk
    unfold yp
    have := (c1 i hi).2
    rw [eq2 _ (by
      intro e
      have : i = a := by omega
      subst this
      omega)]
  have old : ∀ i k g, ((qP A a f).2 i)[k]? = some g → (k < (A.2 i).length ∧ (A.2 i)[k]? = some g) ∨ (i = a ∧ k = (A.2 a).length ∧ g = fSr f (A.1 4 0 0 + 1)) := by
    intro i k g hg
    rw [e2] at hg
    by_cases hia : i = a
    · subst hia
      rw [if_pos rfl] at hg
      by_cases hk : k < (A.2 i).length
      · rw [List.getElem?_append_left hk] at hg
        exact Or.inl ⟨hk, hg⟩
      · have hlt := (List.getElem?_eq_some_iff.mp hg).1
        rw [List.length_append] at hlt
        have hk2 : k = (A.2 i).length := by
          simp at hlt
          omega
        rw [hk2, List.getElem?_append_right (Nat.le_refl _), Nat.sub_self] at hg
        exact Or.inr ⟨rfl, hk2, (Option.some.inj hg).symm⟩
    · rw [if_neg hia] at hg
      exact Or.inl ⟨(List.getElem?_eq_some_iff.mp hg).1, hg⟩
  have len : ∀ i, ((qP A a f).2 i).length = if i = a then (A.2 a).length + 1 else (A.2 i).length := by
    intro i
    rw [e2]
    by_cases hia : i = a
    · rw [if_pos hia, if_pos hia, List.length_append]
      rfl
    · rw [if_neg hia, if_neg hia]
  have kin : ∀ i k, i < 7 → k < ((qP A a f).2 i).length → (k < (A.2 i).length ∧ yp σ' i k = yp σ i k) ∨ (i = a ∧ k = (A.2 a).length ∧ yp σ' i k = s) := by
    intro i k hi hk
    rw [len] at hk
    by_cases hk2 : k < (A.2 i).length
    · exact Or.inl ⟨hk2, ypo i k hi hk2⟩
    · by_cases hia : i = a
      · subst hia
        rw [if_pos rfl] at hk
        have : k = (A.2 i).length := by omega
        subst this
        exact Or.inr ⟨rfl, rfl, ypn⟩
      · rw [if_neg hia] at hk
        exact absurd hk hk2
  refine ⟨r1, r2, r3, r4, ?_, ?_, r5⟩
  · obtain ⟨s0, n0, b1, b2, b3, b4, b5, b6, b7, b8⟩ := p5
    have b2 : s0 + 1 ≤ n0 := b2
    have eser : (qP A a f).1 4 0 0 = Int32.ofNat (s0 + 1) := by
      show (uA A 4 0 0 _).1 4 0 0 = _
      rw [uA_eq, b3, Int32.ofNat_add]
      rfl
    have erec : (qP A a f).1 33 = A.1 33 := by
      funext i j
      rfl
    have b5 := b5 s rfl
    refine ⟨s0 + 1, n0, b1, by show s0 + 1 + 0 ≤ n0; omega, eser, ?_, fun _ q => (by cases q), fun a' x ha' hx => ?_, fun x k g hx hg => ?_, fun x k k' g g' hx hk hg hg' => ?_⟩
    · rw [eq0 130 (by decide)]
      exact b4
    · obtain ⟨r, l, g1, g2, g3, g4⟩ := b6 a' x ha' hx
      refine ⟨r, l, by omega, by show l + 0 ≤ n0; have g2 : l + 1 ≤ n0 := g2; omega, ?_, ?_⟩
      · rw [erec]
        exact g3
      · rw [eq0 136 (by decide)]
        exact g4
    · unfold yM
      rw [erec, eq0 155 (by decide), eq0 136 (by decide)]
      rcases old x k g hg with ⟨g1, g2⟩ | ⟨rfl, rfl, rfl⟩
      · obtain ⟨s1, m1, d1, d2, d3, d4, d5⟩ := b7 x k g hx g2
        have d2 : m1 ≤ n0 - 1 := d2
        rw [ypo x k hx g1]
        exact ⟨s1, m1, by omega, by show m1 ≤ n0 - 0; omega, d3, d4, d5⟩
      · rw [ypn]
        refine ⟨s0 + 1, n0, by omega, by show n0 ≤ n0 - 0; omega, ?_, b5, fun a' ha' => ?_⟩
        · show A.1 4 0 0 + 1 = _
          rw [b3, Int32.ofNat_add]
          rfl
        · obtain ⟨r, l, g1, g2, g3, g4⟩ := b6 a' x ha' hx
          have g2 : l + 1 ≤ n0 := g2
          rw [g3, g4, b5]
          constructor
          · intro q
            have q : Int32.ofNat r = A.1 4 0 0 + 1 := q
            rw [b3, show (Int32.ofNat s0 + 1 : Int32) = Int32.ofNat (s0 + 1) by rw [Int32.ofNat_add]; rfl] at q
            have := on_inj (by omega) (by omega) q
            omega
          · intro q
            have := on_inj (by omega) (by omega) q
            omega
    · rw [eq0 155 (by decide)]
      rcases old x k g hg with ⟨g1, g2⟩ | ⟨rfl, rfl, rfl⟩
      · rcases old x k' g' hg' with ⟨g3, g4⟩ | ⟨rfl, rfl, rfl⟩
        · rw [ypo x k hx g1, ypo x k' hx g3]
          exact b8 x k k' g g' hx hk g2 g4
        · obtain ⟨s1, m1, d1, d2, d3, d4, d5⟩ := b7 x k g hx g2
          have d2 : m1 ≤ n0 - 1 := d2
          rw [ypo x k hx g1, ypn]
          constructor
          · intro q
            have q : g 2 = A.1 4 0 0 + 1 := q
            rw [d3, b3, show (Int32.ofNat s0 + 1 : Int32) = Int32.ofNat (s0 + 1) by rw [Int32.ofNat_add]; rfl] at q
            have := on_inj (by omega) (by omega) q
            omega
          · intro q
            rw [d4, b5] at q
            have := on_inj (by omega) (by omega) q
            omega
      · rcases old x k' g' hg' with ⟨g3, g4⟩ | ⟨-, g4, -⟩
        · omega
        · omega
  · refine ⟨fun i hi => ?_, fun i k g hi hg => ?_, fun i k i' k' hi hi' hk hk' e => ?_, fun s' hs' => ?_, fun _ q => (by cases q)⟩
    · rw [len]
      by_cases hia : i = a
      · subst hia
        rw [if_pos rfl, em1]
        exact ⟨rfl, by omega⟩
      · rw [if_neg hia, em2 i hia]
        exact c1 i hi
    · rw [eu]
      rcases old i k g hg with ⟨g1, g2⟩ | ⟨rfl, rfl, rfl⟩
      · obtain ⟨d1, d2, d3, d4⟩ := c2 i k g hi g2
        rw [ypo i k hi g1]
        refine ⟨d1, ?_, d3, FY_same eq0 d4⟩
        rw [eq2 _ (by
          intro e
          have := (c1 i hi).2
          have : i = a := by omega
          subst this
          omega)]
        exact d2
      · rw [ypn]
        exact ⟨hs, eq1, hus, FY_same eq0 (FY_ser hf _)⟩
    · rcases kin i k hi hk with ⟨g1, g2⟩ | ⟨rfl, rfl, g2⟩ <;> rcases kin i' k' hi' hk' with ⟨g3, g4⟩ | ⟨rfl, rfl, g4⟩
      · rw [g2, g4] at e
        exact c3 i k i' k' hi hi' g1 g3 e
      · rw [g2, g4] at e
        exact absurd e (hsn i k hi g1)
      · rw [g2, g4] at e
        exact absurd e.symm (hsn i' k' hi' g3)
      · exact ⟨rfl, rfl⟩
    · rw [eu]
      rcases c4 s' hs' with g1 | ⟨g1, g2 | ⟨i, k, g2, g3, g4⟩⟩
      · exact Or.inl g1
      · obtain rfl : s = s' := Option.some.inj g2
        refine Or.inr ⟨g1, Or.inr ⟨a, (A.2 a).length, ha, ?_, ypn⟩⟩
        rw [len, if_pos rfl]
        omega
      · refine Or.inr ⟨g1, Or.inr ⟨i, k, g2, ?_, by rw [ypo i k g2 g3]; exact g4⟩⟩
        rw [len]
        split
        · rename_i q
          subst q
          omega
        · exact g3
/-- the frame that isn't queued is gone -/
theorem RY.drop {σ0 σ : tm_S} {B : Nat} {A : sA} {s : Nat} (h : RY σ0 B (some s) σ A) : RY σ0 B none (sI σ 154 s 0) A := by
  have eq0 : ∀ q, q ∉ [147, 148, 154] → (sI σ 154 s 0).1 q = σ.1 q := fun q hq => sI_ne1 (fun e => hq (by rw [e]; decide))
  obtain ⟨r1, r2, r3, r4, r5⟩ := RY_rest (A' := A) h (σ' := sI σ 154 s 0) rfl eq0 (fun t _ => rfl)
  obtain ⟨-, -, -, -, p5, p6, -⟩ := h
  obtain ⟨c1, c2, c3, c4, c5⟩ := p6
  obtain ⟨hs, hus, hsn⟩ := c5 s rfl
  refine ⟨r1, r2, r3, r4, ?_, ?_, r5⟩
  · obtain ⟨s0, n0, b1, b2, b3, b4, b5, b6, b7, b8⟩ := p5
    have b2 : s0 + 1 ≤ n0 := b2
    refine ⟨s0, n0, b1, by show s0 + 0 ≤ n0; omega, b3, b4, fun _ q => (by cases q), fun a x ha hx => ?_, fun x k f hx hf => ?_, b8⟩
    · obtain ⟨r, l, g1, g2, g3⟩ := b6 a x ha hx
      exact ⟨r, l, g1, by show l + 0 ≤ n0; have g2 : l + 1 ≤ n0 := g2; omega, g3⟩
    · obtain ⟨s1, m1, d1, d2, d3⟩ := b7 x k f hx hf
      exact ⟨s1, m1, d1, by show m1 ≤ n0 - 0; have d2 : m1 ≤ n0 - 1 := d2; omega, d3⟩
  · refine ⟨c1, fun i k f hi hf => ?_, c3, fun s' hs' => ?_, fun _ q => (by cases q)⟩
    · obtain ⟨d1, d2, d3, d4⟩ := c2 i k f hi hf
      refine ⟨d1, d2, ?_, FY_same eq0 d4⟩
      rw [sI_1, if_neg (fun e => hsn i k hi (List.getElem?_eq_some_iff.mp hf).1 e.2)]
      exact d3
    · rw [sI_1]
      by_cases hx : s' = s
      · exact Or.inl (by rw [if_pos ⟨rfl, hx⟩])
      · rw [if_neg (fun e => hx e.2)]
        rcases c4 s' hs' with g1 | ⟨g1, g2 | g2⟩
        · exact Or.inl g1
        · exact absurd (Option.some.inj g2).symm hx
        · exact Or.inr ⟨g1, Or.inr g2⟩
/-- a queue loses its first frame, or all -/
theorem RY.cut {σ0 σ σ' : tm_S} {B : Nat} {A : sA} (h : RY σ0 B none σ A) {a d : Nat} (ha : a < 7) (hd : d ≤ (A.2 a).length) (h2 : σ'.2 = σ.2) (eq0 : ∀ q, q ∉ [147, 148, 154] → σ'.1 q = σ.1 q)
    (eu1 : ∀ k, k < d → σ'.1 154 (yp σ a k) = 0) (eu2 : ∀ s, (∀ k, k < d → s ≠ yp σ a k) → σ'.1 154 s = σ.1 154 s) (eq1 : ∀ k, k + d < (A.2 a).length → σ'.1 147 (4 * a + k) = σ.1 147 (4 * a + (k + d))) (eq2 : ∀ p, p < 4 * a ∨ 4 * a + 4 ≤ p → σ'.1 147 p = σ.1 147 p) (em1 : σ'.1 148 a = nX ((A.2 a).length - d)) (em2 : ∀ p, p ≠ a → σ'.1 148 p = σ.1 148 p) : RY σ0 B none σ' (uQ A a ((A.2 a).drop d)) := by
  obtain ⟨r1, r2, r3, r4, r5⟩ := RY_rest (A' := uQ A a ((A.2 a).drop d)) h h2 eq0 (fun t _ => rfl)
  obtain ⟨-, -, -, -, p5, p6, -⟩ := h
  obtain ⟨c1, c2, c3, c4, c5⟩ := p6
  have len : ∀ i, ((uQ A a ((A.2 a).drop d)).2 i).length = if i = a then (A.2 a).length - d else (A.2 i).length := by
    intro i
    rw [uQ_2]
    by_cases hia : i = a
    · rw [if_pos hia, if_pos hia, List.length_drop]
    · rw [if_neg hia, if_neg hia]
  /- where a place was before -/
  have src : ∀ i k g, i < 7 → ((uQ A a ((A.2 a).drop d)).2 i)[k]? = some g → ∃ k', (i = a → k' = k + d) ∧ (i ≠ a → k' = k) ∧ (A.2 i)[k']? = some g ∧ yp σ' i k = yp σ i k' ∧ σ'.1 147 (4 * i + k) = σ.1 147 (4 * i + k') := by
    intro i k g hi hg
    have hlt := (List.getElem?_eq_some_iff.mp hg).1
    rw [len] at hlt
    rw [uQ_2] at hg
    by_cases hia : i = a
    · subst hia
      rw [if_pos rfl] at hg hlt
      rw [List.getElem?_drop] at hg
      have e := eq1 k (by omega)
      refine ⟨k + d, fun _ => rfl, fun q => absurd rfl q, by rw [Nat.add_comm]; exact hg, ?_, e⟩
      unfold yp
      rw [e]
    · rw [if_neg hia] at hg hlt
      have := (c1 i hi).2
      have e := eq2 (4 * i + k) (by omega)
      refine ⟨k, fun q => absurd q hia, fun _ => rfl, hg, ?_, e⟩
      unfold yp
      rw [e]
  have lt : ∀ {i k : Nat} {g : sFr}, (A.2 i)[k]? = some g → k < (A.2 i).length := fun hg => (List.getElem?_eq_some_iff.mp hg).1
  refine ⟨r1, r2, r3, r4, ?_, ?_, r5⟩
  · obtain ⟨s0, n0, b1, b2, b3, b4, b5, b6, b7, b8⟩ := p5
    refine ⟨s0, n0, b1, b2, b3, ?_, fun _ q => (by cases q), fun a' x ha' hx => ?_, fun x k g hx hg => ?_, fun x k k' g g' hx hk hg hg' => ?_⟩
    · rw [eq0 130 (by decide)]
      exact b4
    · rw [eq0 136 (by decide)]
      exact b6 a' x ha' hx
    · obtain ⟨k1, -, -, q1, q2, -⟩ := src x k g hx hg
      unfold yM
      rw [q2, eq0 155 (by decide), eq0 136 (by decide)]
      exact b7 x k1 g hx q1
    · obtain ⟨k1, o1, o2, q1, q2, -⟩ := src x k g hx hg
      obtain ⟨k2, o3, o4, q3, q4, -⟩ := src x k' g' hx hg'
      rw [q2, q4, eq0 155 (by decide)]
      refine b8 x k1 k2 g g' hx ?_ q1 q3
      by_cases hxa : x = a
      · rw [o1 hxa, o3 hxa]
        omega
      · rw [o2 hxa, o4 hxa]
        exact hk
  · refine ⟨fun i hi => ?_, fun i k g hi hg => ?_, fun i k i' k' hi hi' hk hk' e => ?_, fun s' hs' => ?_, fun _ q => (by cases q)⟩
    · rw [len]
      by_cases hia : i = a
      · subst hia
        rw [if_pos rfl, em1]
        exact ⟨rfl, by have := (c1 i hi).2; omega⟩
      · rw [if_neg hia, em2 i hia]
        exact c1 i hi
    · obtain ⟨k1, o1, o2, q1, q2, q3⟩ := src i k g hi hg
      obtain ⟨d1, d2, d3, d4⟩ := c2 i k1 g hi q1
      rw [q2, q3]
      refine ⟨d1, d2, ?_, FY_same eq0 d4⟩
      rw [eu2 _ (fun k2 hk2 e => by
        have := c3 i k1 a k2 hi ha (lt q1) (by omega) e
        have := o1 this.1
        omega)]
      exact d3
    · obtain ⟨g, hg⟩ : ∃ g, ((uQ A a ((A.2 a).drop d)).2 i)[k]? = some g := ⟨_, List.getElem?_eq_getElem hk⟩
      obtain ⟨g', hg'⟩ : ∃ g, ((uQ A a ((A.2 a).drop d)).2 i')[k']? = some g := ⟨_, List.getElem?_eq_getElem hk'⟩
      obtain ⟨k1, o1, o2, q1, q2, -⟩ := src i k g hi hg
      obtain ⟨k2, o3, o4, q3, q4, -⟩ := src i' k' g' hi' hg'
      rw [q2, q4] at e
      obtain ⟨rfl, rfl⟩ := c3 i k1 i' k2 hi hi' (lt q1) (lt q3) e
      refine ⟨rfl, ?_⟩
      by_cases hxa : i = a
      · have := o1 hxa
        have := o3 hxa
        omega
      · have := o2 hxa
        have := o4 hxa
        omega
    · by_cases hx : ∃ k, k < d ∧ s' = yp σ a k
      · obtain ⟨k, hk, e⟩ := hx
        exact Or.inl (by rw [e]; exact eu1 k hk)
      · rw [eu2 s' (fun k hk e => hx ⟨k, hk, e⟩)]
        rcases c4 s' hs' with g1 | ⟨g1, g2 | ⟨i, k, g2, g3, g4⟩⟩
        · exact Or.inl g1
        · cases g2
        · refine Or.inr ⟨g1, Or.inr ?_⟩
          by_cases hia : i = a
          · subst hia
            have hkd : ¬ k < d := fun q => hx ⟨k, q, g4.symm⟩
            refine ⟨i, k - d, g2, by rw [len, if_pos rfl]; omega, ?_⟩
            have e := eq1 (k - d) (by omega)
            rw [show k - d + d = k by omega] at e
            unfold yp at g4 ⊢
            rw [e]
            exact g4
          · refine ⟨i, k, g2, by rw [len, if_neg hia]; exact g3, ?_⟩
            have := (c1 i g2).2
            unfold yp at g4 ⊢
            rw [eq2 _ (by omega)]
            exact g4
