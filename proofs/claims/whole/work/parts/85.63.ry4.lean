/-! what the reference keeps in another way -/
theorem nin {l : List Nat} {p : Nat → Bool} (h : ∀ q, q ∈ l → p q = false) {q : Nat} (hp : p q = true) (e : q ∈ l) : False := by
  rw [h q e] at hp
  cases hp
/-- a change at one special address -/
theorem RY_sp {σ0 σ : tm_S} {B : Nat} {tmp : Option Nat} {A : sA} (h : RY σ0 B tmp σ A) {σ' : tm_S} {A' : sA} {t : Nat} (Z : List Nat) (hZ : ∀ q, q ∈ Z → ya q = false ∧ fyo q = false) (h2 : σ'.2 = σ.2) (eq0 : ∀ q, q ∉ Z → σ'.1 q = σ.1 q) (ht : ∀ i j, yV t i j = false) (hA : ∀ t', t' ≠ t → A'.1 t' = A.1 t') : (∀ t i j, yV t i j = true → σ'.1 (yA t) (yS t i j) = A'.1 t i j) ∧ frY σ0 σ' := by
  obtain ⟨p1, -, -, -, -, -, p7⟩ := h
  refine ⟨fun t' i j hv => ?_, fun q hq => ?_, h2.trans p7.2⟩
  · have hy := yA_ok hv
    rw [eq0 (yA t') (by
      intro e
      rw [(hZ _ e).1] at hy
      cases hy), hA t' (by
      intro e
      subst e
      rw [ht] at hv
      cases hv)]
    exact p1 t' i j hv
  · rw [eq0 q (by
      intro e
      rw [(hZ _ e).2] at hq
      cases hq)]
    exact p7.1 q hq
theorem ix7 {a x a' x' : Nat} (hx : x < 7) (hx' : x' < 7) (h : 7 * a + x = 7 * a' + x') : a = a' ∧ x = x' := by omega
/-- the rank of x is known to a -/
theorem RY.know {σ0 σ : tm_S} {B : Nat} {tmp : Option Nat} {A : sA} (h : RY σ0 B tmp σ A) {a x : Nat} (hx : x < 7) {v : Int32} (hv : ¬ v = 0) : RY σ0 B tmp (sI (sI σ 132 (7 * a + x) v) 133 (7 * a + x) 1) (uA A 30 a x v) := by
  generalize hσ' : sI (sI σ 132 (7 * a + x) v) 133 (7 * a + x) 1 = σ'
  have eq0 : ∀ q, q ∉ [132, 133] → σ'.1 q = σ.1 q := fun q hq => by
    rw [← hσ', sI_ne1 (fun e => hq (by rw [e]; decide)), sI_ne1 (fun e => hq (by rw [e]; decide))]
  obtain ⟨r1, r2⟩ := RY_sp (A' := uA A 30 a x v) (t := 30) h [132, 133] (by decide) (by rw [← hσ']; rfl) eq0 (fun i j => rfl) (fun t' ht => by
    funext i j
    exact uA_ne ht)
  obtain ⟨-, p2, p3, p4, p5, p6, -⟩ := h
  refine ⟨r1, fun i hi => ?_, fun i j hi hj => ?_, fun i hi => ?_, ?_, ?_, r2⟩
  · rw [eq0 137 (by decide), uA_ne (by decide)]
    exact p2 i hi
  · by_cases e : i = a ∧ j = x
    · obtain ⟨rfl, rfl⟩ := e
      refine Or.inr ⟨?_, ?_, ?_⟩
      · rw [← hσ', sI_1, if_pos ⟨rfl, rfl⟩]
      · rw [← hσ', sI_ne1 (by decide), sI_1, if_pos ⟨rfl, rfl⟩, uA_eq]
      · rw [uA_eq]
        exact hv
    · have hne : 7 * i + j ≠ 7 * a + x := fun q => e (ix7 hj hx q)
      have e1 : σ'.1 133 (7 * i + j) = σ.1 133 (7 * i + j) := by
        rw [← hσ', sI_1, if_neg (fun q => hne q.2), sI_ne1 (by decide)]
      have e2 : σ'.1 132 (7 * i + j) = σ.1 132 (7 * i + j) := by
        rw [← hσ', sI_ne1 (by decide), sI_1, if_neg (fun q => hne q.2)]
      rw [e1, e2, uA_1, if_neg (fun q => e q.2)]
      exact p3 i j hi hj
  · rw [eq0 173 (by decide), uA_ne (by decide)]
    exact p4 i hi
  · refine p5.congr (fun q hq => eq0 q (fun e => ?_)) ?_ rfl (uA_ne (by decide)) ?_
    · exact nin (by decide) hq e
    · rw [eq0 130 (by decide)]
    · funext i j
      exact uA_ne (by decide)
  · refine p6.congr (fun q hq => eq0 q (fun e => ?_)) rfl
    exact nin (by decide) hq e
/-- the rank of x isn't known to a any more -/
theorem RY.unknow {σ0 σ : tm_S} {B : Nat} {tmp : Option Nat} {A : sA} (h : RY σ0 B tmp σ A) {a x : Nat} (hx : x < 7) : RY σ0 B tmp (sI σ 133 (7 * a + x) 0) (uA A 30 a x 0) := by
  generalize hσ' : sI σ 133 (7 * a + x) 0 = σ'
  have eq0 : ∀ q, q ∉ [133] → σ'.1 q = σ.1 q := fun q hq => by
    rw [← hσ', sI_ne1 (fun e => hq (by rw [e]; decide))]
  obtain ⟨r1, r2⟩ := RY_sp (A' := uA A 30 a x 0) (t := 30) h [133] (by decide) (by rw [← hσ']; rfl) eq0 (fun i j => rfl) (fun t' ht => by
    funext i j
    exact uA_ne ht)
  obtain ⟨-, p2, p3, p4, p5, p6, -⟩ := h
  refine ⟨r1, fun i hi => ?_, fun i j hi hj => ?_, fun i hi => ?_, ?_, ?_, r2⟩
  · rw [eq0 137 (by decide), uA_ne (by decide)]
    exact p2 i hi
  · by_cases e : i = a ∧ j = x
    · obtain ⟨rfl, rfl⟩ := e
      refine Or.inl ⟨?_, uA_eq⟩
      rw [← hσ', sI_1, if_pos ⟨rfl, rfl⟩]
    · have hne : 7 * i + j ≠ 7 * a + x := fun q => e (ix7 hj hx q)
      have e1 : σ'.1 133 (7 * i + j) = σ.1 133 (7 * i + j) := by
        rw [← hσ', sI_1, if_neg (fun q => hne q.2)]
      rw [e1, eq0 132 (by decide), uA_1, if_neg (fun q => e q.2)]
      exact p3 i j hi hj
  · rw [eq0 173 (by decide), uA_ne (by decide)]
    exact p4 i hi
  · refine p5.congr (fun q hq => eq0 q (fun e => ?_)) ?_ rfl (uA_ne (by decide)) ?_
    · exact nin (by decide) hq e
    · rw [eq0 130 (by decide)]
    · funext i j
      exact uA_ne (by decide)
  · refine p6.congr (fun q hq => eq0 q (fun e => ?_)) rfl
    exact nin (by decide) hq e
/-- a received the first frame of x -/
theorem RY.recv {σ0 σ : tm_S} {B : Nat} {A : sA} (h : RY σ0 B none σ A) {a x : Nat} (hx : x < 7) {f : sFr} {k0 : Nat} (hf : (A.2 x)[k0]? = some f) : RY σ0 B none (sI σ 136 (7 * a + x) (σ.1 155 (yp σ x k0))) (uA A 33 a x (f 2)) := by
  generalize hσ' : sI σ 136 (7 * a + x) (σ.1 155 (yp σ x k0)) = σ'
  have eq0 : ∀ q, q ∉ [136] → σ'.1 q = σ.1 q := fun q hq => by
    rw [← hσ', sI_ne1 (fun e => hq (by rw [e]; decide))]
  obtain ⟨r1, r2⟩ := RY_sp (A' := uA A 33 a x (f 2)) (t := 33) h [136] (by decide) (by rw [← hσ']; rfl) eq0 (fun i j => rfl) (fun t' ht => by
    funext i j
    exact uA_ne ht)
  obtain ⟨-, p2, p3, p4, p5, p6, -⟩ := h
  have eyp : ∀ i k, yp σ' i k = yp σ i k := fun i k => by unfold yp; rw [eq0 147 (by decide)]
  refine ⟨r1, fun i hi => ?_, fun i j hi hj => ?_, fun i hi => ?_, ?_, ?_, r2⟩
  · rw [eq0 137 (by decide), uA_ne (by decide)]
    exact p2 i hi
  · rw [eq0 133 (by decide), eq0 132 (by decide), uA_ne (by decide)]
    exact p3 i j hi hj
  · rw [eq0 173 (by decide), uA_ne (by decide)]
    obtain ⟨b, h1, h2, h3⟩ := p4 i hi
    refine ⟨b, h1, h2, fun k hk hb => ?_⟩
    rw [uA_ne (by decide)]
    exact h3 k hk hb
  · obtain ⟨s0, n0, b1, b2, b3, b4, b5, b6, b7, b8⟩ := p5
    have lf : ∀ a' x', a' < 7 → x' < 7 → (a' = a ∧ x' = x → σ'.1 136 (7 * a' + x') = σ.1 155 (yp σ x k0)) ∧ (¬ (a' = a ∧ x' = x) → σ'.1 136 (7 * a' + x') = σ.1 136 (7 * a' + x')) := by
      intro a' x' ha' hx'
      constructor
      · rintro ⟨rfl, rfl⟩
        rw [← hσ', sI_1, if_pos ⟨rfl, rfl⟩]
      · intro e
        rw [← hσ', sI_1, if_neg (fun q => e (ix7 hx' hx q.2))]
    have rc : ∀ a' x', (a' = a ∧ x' = x → (uA A 33 a x (f 2)).1 33 a' x' = f 2) ∧ (¬ (a' = a ∧ x' = x) → (uA A 33 a x (f 2)).1 33 a' x' = A.1 33 a' x') := by
      intro a' x'
      constructor
      · rintro ⟨rfl, rfl⟩
        exact uA_eq
      · intro e
        rw [uA_1, if_neg (fun q => e q.2)]
    refine ⟨s0, n0, b1, b2, b3, ?_, fun _ q => (by cases q), fun a' x' ha' hx' => ?_, fun x' k g hx' hg => ?_, fun x' k k' g g' hx' hk hg hg' => ?_⟩
    · rw [eq0 130 (by decide)]
      exact b4
    · by_cases e : a' = a ∧ x' = x
      · rw [(lf a' x' ha' hx').1 e, (rc a' x').1 e]
        obtain ⟨s1, m1, d1, d2, d3, d4, -⟩ := b7 x k0 f hx hf
        exact ⟨s1, m1, d1, d2, d3, d4⟩
      · rw [(lf a' x' ha' hx').2 e, (rc a' x').2 e]
        exact b6 a' x' ha' hx'
    · obtain ⟨s1, m1, d1, d2, d3, d4, d5⟩ := b7 x' k g hx' hg
      refine ⟨s1, m1, d1, d2, d3, ?_, fun a' ha' => ?_⟩
      · rw [eyp, eq0 155 (by decide)]
        exact d4
      · rw [eyp, eq0 155 (by decide)]
        by_cases e : a' = a ∧ x' = x
        · rw [(lf a' x' ha' hx').1 e, (rc a' x').1 e]
          obtain ⟨rfl, rfl⟩ := e
          by_cases hk : k = k0
          · subst hk
            obtain rfl : f = g := Option.some.inj (hf.symm.trans hg)
            exact ⟨fun _ => rfl, fun _ => rfl⟩
          · have hd : f 2 ≠ g 2 ∧ σ.1 155 (yp σ x' k0) ≠ σ.1 155 (yp σ x' k) := by
              rcases Nat.lt_or_gt_of_ne hk with q | q
              · have := b8 x' k k0 g f hx' q hg hf
                exact ⟨this.1.symm, this.2.symm⟩
              · exact b8 x' k0 k f g hx' q hf hg
            exact ⟨fun q => absurd q hd.1, fun q => absurd q hd.2⟩
        · rw [(lf a' x' ha' hx').2 e, (rc a' x').2 e]
          exact d5 a' ha'
    · rw [eyp, eyp, eq0 155 (by decide)]
      exact b8 x' k k' g g' hx' hk hg hg'
  · refine p6.congr (fun q hq => eq0 q (fun e => ?_)) rfl
    exact nin (by decide) hq e
/-- a value arrives -/
theorem RY.arrive {σ0 σ σ' : tm_S} {B : Nat} {A : sA} (h : RY σ0 B none σ A) (hB : B < 2000000000) {a : Nat} (ha : a < 7) {v : Int32} (h2 : σ'.2 = σ.2) (eq0 : ∀ q, q ∉ [173, 172] → σ'.1 q = σ.1 q) (eg1 : σ'.1 172 a = σ.1 172 a + 1) (eg2 : ∀ i, i ≠ a → σ'.1 172 i = σ.1 172 i) (el0 : σ'.1 173 (8 * a) = v) (el1 : ∀ k, k < 7 → σ'.1 173 (8 * a + (k + 1)) = σ.1 173 (8 * a + k)) (el2 : ∀ p, p < 8 * a ∨ 8 * a + 8 ≤ p → σ'.1 173 p = σ.1 173 p) :
    RY σ0 (B + 1) none σ' (uA (uA A 34 a (A.1 10 a 0 - A.1 10 a 0 / 8 * 8).toNatClampNeg v) 10 a 0 (A.1 10 a 0 + 1)) := by
  obtain ⟨p1, p2, p3, p4, p5, p6, p7⟩ := h
  generalize hA' : uA (uA A 34 a (A.1 10 a 0 - A.1 10 a 0 / 8 * 8).toNatClampNeg v) 10 a 0 (A.1 10 a 0 + 1) = A'
  have eA : ∀ t, t ≠ 34 → t ≠ 10 → A'.1 t = A.1 t := fun t h1 h2 => by
    funext i j
    rw [← hA', uA_ne h2, uA_ne h1]
  have eA2 : A'.2 = A.2 := by rw [← hA']; rfl
  have hgot : σ.1 172 a = A.1 10 a 0 := p1 10 a 0 (by
    unfold yV
    rw [xV_n (by decide) ha]
    rfl)
  refine ⟨fun t i j hv => ?_, fun i hi => ?_, fun i j hi hj => ?_, fun i hi => ?_, ?_, ?_, fun q hq => ?_, h2.trans p7.2⟩
  · by_cases hta : t = 10
    · subst hta
      obtain ⟨-, hi, -⟩ := xV_1 (yV_x hv)
      have hj : j = 0 := by
        have hx := yV_x hv
        simp only [xV, Bool.and_eq_true, decide_eq_true_eq] at hx
        exact hx.2.2.2.2.1 (by decide)
      subst hj
      have p := p1 10 i 0 hv
      show σ'.1 172 i = _
      have p : σ.1 172 i = A.1 10 i 0 := p
      by_cases hia : i = a
      · subst hia
        rw [eg1, p, ← hA', uA_eq]
      · rw [eg2 i hia, p, ← hA', uA_no hia, uA_no hia]
    · have hne : t ≠ 34 := by
        intro e
        subst e
        cases hv
      have hy := yI_ok hv
      rw [eq0 (yA t) (by
        intro e
        have e : yA t = 173 ∨ yA t = 172 := by simpa using e
        rcases e with e | e
        · have := yA_ok hv
          rw [e] at this
          exact absurd this (by decide)
        · rw [e] at hy
          have : 10 = t := congrArg Prod.fst hy
          exact hta this.symm), eA t hne hta]
      exact p1 t i j hv
  · rw [eq0 137 (by decide), eA 11 (by decide) (by decide)]
    exact p2 i hi
  · rw [eq0 133 (by decide), eq0 132 (by decide), eA 30 (by decide) (by decide)]
    exact p3 i j hi hj
  · obtain ⟨b, h3, h4, h5⟩ := p4 i hi
    by_cases hia : i = a
    · subst hia
      have hix : (A.1 10 i 0 - A.1 10 i 0 / 8 * 8).toNatClampNeg = b % 8 := by
        rw [h4, on_rem8 (by omega)]
      refine ⟨b + 1, by omega, ?_, fun k hk hkb => ?_⟩
      · rw [← hA', uA_eq, h4, Int32.ofNat_add]
        rfl
      · rw [← hA', uA_ne (by decide), hix]
        cases k with
        | zero =>
          rw [Nat.add_zero, el0, uA_1, if_pos ⟨rfl, rfl, by omega⟩]
        | succ k =>
          rw [el1 k (by omega), h5 k (by omega) (by omega), uA_1, if_neg (by omega), show b + 1 - 1 - (k + 1) = b - 1 - k by omega]
    · refine ⟨b, by omega, ?_, fun k hk hkb => ?_⟩
      · rw [← hA', uA_no hia, uA_no hia]
        exact h4
      · rw [← hA', uA_no hia, uA_no hia, el2 _ (by omega)]
        exact h5 k hk hkb
  · obtain ⟨s0, n0, b1, b2⟩ := p5
    have p5' : yN (B + 1) none σ A := ⟨s0, n0, by omega, b2⟩
    refine p5'.congr (fun q hq => eq0 q (fun e => ?_)) ?_ eA2 (by rw [eA 4 (by decide) (by decide)]) (eA 33 (by decide) (by decide))
    · exact nin (by decide) hq e
    · rw [eq0 130 (by decide)]
  · refine p6.congr (fun q hq => eq0 q (fun e => ?_)) eA2
    exact nin (by decide) hq e
  · rw [eq0 q (by
      intro e
      have e : q = 173 ∨ q = 172 := by simpa using e
      rcases e with e | e <;> (rw [e] at hq; exact absurd hq (by decide)))]
    exact p7.1 q hq
