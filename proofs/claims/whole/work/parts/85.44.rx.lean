/-! the class's part of the flat state stands for A -/
def xA (t i : Nat) : Nat := if t < 9 then 1 else if t < 16 then 11 + 17 * i else if t < 25 then 11 + 17 * i + 1 else if t < 30 then 11 + 17 * i + 11 else if t < 35 then 11 + 17 * i + (t - 18) else 4 + i
def xS (t j : Nat) : Nat := if t < 30 then [0, 1, 4, 5, 6, 7, 8, 9, 10, 0, 8, 9, 10, 11, 12, 13, 2, 3, 4, 5, 6, 7, 8, 9, 10, 0, 1, 2, 3, 4].getD t 0 else j
def xV (t i j : Nat) : Bool := decide (t < 36) && (decide (i < 7) && (decide (j < 8) && (decide (t < 9 → i = 0) && (decide (t < 30 → j = 0) && decide (j = 7 → t = 34)))))
def xI (q k : Nat) : Nat × Nat × Nat := if q = 1 then ([0, 1, 99, 99, 2, 3, 4, 5, 6, 7, 8].getD k 99, 0, 0) else if q < 11 then (35, q - 4, k) else if (q - 11) % 17 = 0 then ([9, 99, 99, 99, 99, 99, 99, 99, 10, 11, 12, 13, 14, 15].getD k 99, (q - 11) / 17, 0) else if (q - 11) % 17 = 1 then ([99, 99, 16, 17, 18, 19, 20, 21, 22, 23, 24].getD k 99, (q - 11) / 17, 0) else if (q - 11) % 17 = 11 then ([25, 26, 27, 28, 29].getD k 99, (q - 11) / 17, 0) else ((q - 11) % 17 + 18, (q - 11) / 17, k)
theorem xI_a : ∀ t, t < 36 → ∀ i, i < 7 → ∀ j, j < 8 → xV t i j = true → (xI (xA t i) (xS t j)).1 = t ∧ (xI (xA t i) (xS t j)).2.1 = i ∧ (xI (xA t i) (xS t j)).2.2 = j := by decide +kernel
theorem xV_1 {t i j : Nat} (h : xV t i j = true) : t < 36 ∧ i < 7 ∧ j < 8 := by
  simp only [xV, Bool.and_eq_true, decide_eq_true_eq] at h
  exact ⟨h.1, h.2.1, h.2.2.1⟩
theorem xI_ok {t i j : Nat} (h : xV t i j = true) : xI (xA t i) (xS t j) = (t, i, j) := by
  obtain ⟨h1, h2, h3⟩ := xI_a t (xV_1 h).1 i (xV_1 h).2.1 j (xV_1 h).2.2 h
  exact Prod.ext h1 (Prod.ext h2 h3)
theorem xAS {t i j t' i' j' : Nat} (h : xV t i j = true) (h' : xV t' i' j' = true) (e1 : xA t' i' = xA t i) (e2 : xS t' j' = xS t j) : t' = t ∧ i' = i ∧ j' = j := by
  have h1 := xI_ok h
  have h2 := xI_ok h'
  rw [e1, e2, h1] at h2
  simp only [Prod.mk.injEq] at h2
  exact ⟨h2.1.symm, h2.2.1.symm, h2.2.2.symm⟩
theorem xV_n {t n : Nat} (ht : 9 ≤ t ∧ t < 36) (hn : n < 7) : xV t n 0 = true := by
  simp only [xV, Bool.and_eq_true, decide_eq_true_eq]
  exact ⟨ht.2, hn, by omega, fun h => by omega, fun _ => (by first | trivial | rfl), fun h => by omega⟩
theorem xV_a {t n j : Nat} (ht : 30 ≤ t ∧ t < 36) (hn : n < 7) (hj : j < 7) : xV t n j = true := by
  simp only [xV, Bool.and_eq_true, decide_eq_true_eq]
  exact ⟨ht.2, hn, by omega, fun h => by omega, fun _ => by omega, fun h => by omega⟩
theorem xV_8 {n j : Nat} (hn : n < 7) (hj : j < 8) : xV 34 n j = true := by
  simp only [xV, Bool.and_eq_true, decide_eq_true_eq]
  exact ⟨by omega, hn, hj, fun h => by omega, fun _ => by omega, fun _ => (by first | trivial | rfl)⟩
theorem xV_m {t : Nat} (ht : t < 9) : xV t 0 0 = true := by
  simp only [xV, Bool.and_eq_true, decide_eq_true_eq]
  exact ⟨by omega, by omega, by omega, fun _ => (by first | trivial | rfl), fun _ => (by first | trivial | rfl), fun h => by omega⟩
/-- the m-th frame's cell of node i -/
def xF (i m : Nat) : Nat := 11 + 17 * i + 3 + 2 * m
/-- what lies at place k of node i's queue -/
def xp (σ : tm_S) (i k : Nat) : Nat := σ.2 (11 + 17 * i + 1 + 1) k
theorem xA_F {t i j i' m : Nat} (h : xV t i j = true) (hi' : i' < 7) (hm : m < 4) : xF i' m ≠ xA t i ∧ xF i' m + 1 ≠ xA t i := by
  have h1 := xV_1 h
  have hm' : m = 0 ∨ m = 1 ∨ m = 2 ∨ m = 3 := by omega
  unfold xF xA
  rcases hm' with rfl | rfl | rfl | rfl <;> (repeat' split) <;> omega
theorem xA_s_a : ∀ i, i < 7 → (xI (11 + 17 * i + 1) 1).1 = 99 := by decide +kernel
theorem xA_s {t i j i' : Nat} (h : xV t i j = true) (hi' : i' < 7) : ¬ (11 + 17 * i' + 1 = xA t i ∧ 1 = xS t j) := by
  intro e
  have h1 := xI_ok h
  rw [← e.1, ← e.2] at h1
  have h2 := xA_s_a i' hi'
  rw [h1] at h2
  have h3 := (xV_1 h).1
  have h2 : t = 99 := h2
  omega
def FX (σ : tm_S) (q : Nat) (f : sFr) : Prop := σ.1 q 1 = f 0 ∧ σ.1 q 2 = f 1 ∧ σ.1 q 0 = f 2 ∧ (f 0 = 3 → σ.1 q 3 = f 3 ∧ σ.1 q 4 = f 4 ∧ ∀ g, g < 7 → σ.1 (q + 1) g = f (10 + g)) ∧ (f 0 = 4 → σ.1 q 6 = f 3 ∧ σ.1 q 7 = f 4 ∧ σ.1 q 8 = f 5 ∧ σ.1 q 9 = f 6 ∧ σ.1 q 10 = f 7 ∧ σ.1 q 11 = f 8)
theorem FX.congr {σ σ' : tm_S} {q : Nat} {f : sFr} (h : FX σ q f) (h1 : σ'.1 q = σ.1 q) (h2 : σ'.1 (q + 1) = σ.1 (q + 1)) : FX σ' q f := by
  unfold FX
  rw [h1, h2]
  exact h
def RXq (σ : tm_S) (i : Nat) (l : List sFr) : Prop := σ.1 (11 + 17 * i + 1) 1 = nX l.length ∧ l.length ≤ 4 ∧ (∀ k, k < 4 → ∃ m, m < 4 ∧ xp σ i k = xF i m) ∧ (∀ k k', k < 4 → k' < 4 → xp σ i k = xp σ i k' → k = k') ∧ ∀ k f, l[k]? = some f → FX σ (xp σ i k) f
theorem RXq.congr {σ σ' : tm_S} {i : Nat} {l : List sFr} (h : RXq σ i l) (h1 : σ'.1 (11 + 17 * i + 1) 1 = σ.1 (11 + 17 * i + 1) 1) (h2 : ∀ k, k < 4 → xp σ' i k = xp σ i k) (h3 : ∀ m, m < 4 → σ'.1 (xF i m) = σ.1 (xF i m) ∧ σ'.1 (xF i m + 1) = σ.1 (xF i m + 1)) : RXq σ' i l := by
  obtain ⟨a1, a2, a3, a4, a5⟩ := h
  refine ⟨h1.trans a1, a2, fun k hk => ?_, fun k k' hk hk' he => ?_, fun k f hf => ?_⟩
  · rw [h2 k hk]
    exact a3 k hk
  · rw [h2 k hk, h2 k' hk'] at he
    exact a4 k k' hk hk' he
  · have hk : k < 4 := by
      have := (List.getElem?_eq_some_iff.mp hf).1
      omega
    rw [h2 k hk]
    obtain ⟨m, hm, e⟩ := a3 k hk
    have := a5 k f hf
    rw [e] at this ⊢
    exact this.congr (h3 m hm).1 (h3 m hm).2
/-- nothing outside the class's cells has changed since σ0 -/
def frX (σ0 σ : tm_S) : Prop := ∀ q, q = 0 ∨ 130 ≤ q → σ.1 q = σ0.1 q ∧ σ.2 q = σ0.2 q
def RX (σ0 σ : tm_S) (A : sA) : Prop := (∀ t i j, xV t i j = true → σ.1 (xA t i) (xS t j) = A.1 t i j) ∧ (∀ i, i < 7 → RXq σ i (A.2 i)) ∧ frX σ0 σ
theorem xA_lt {t i j : Nat} (h : xV t i j = true) : 0 < xA t i ∧ xA t i < 130 := by
  have h1 := xV_1 h
  unfold xA
  (repeat' split) <;> omega
theorem xF_lt {i m : Nat} (hi : i < 7) (hm : m < 4) : 0 < xF i m ∧ xF i m + 1 < 130 := by
  unfold xF
  omega
theorem sI_1 (σ : tm_S) (a k : Nat) (v : Int32) (q j : Nat) : (sI σ a k v).1 q j = if q = a ∧ j = k then v else σ.1 q j := rfl
theorem sI_eq {σ : tm_S} {a k : Nat} {v : Int32} : (sI σ a k v).1 a k = v := by rw [sI_1, if_pos ⟨rfl, rfl⟩]
theorem sI_no {σ : tm_S} {a k : Nat} {v : Int32} {q j : Nat} (h : ¬ (q = a ∧ j = k)) : (sI σ a k v).1 q j = σ.1 q j := by rw [sI_1, if_neg h]
theorem sI_ne1 {σ : tm_S} {a k : Nat} {v : Int32} {q : Nat} (h : q ≠ a) : (sI σ a k v).1 q = σ.1 q := (sI_ne σ a k v q h).1
theorem sI_xp (σ : tm_S) (a k : Nat) (v : Int32) (i j : Nat) : xp (sI σ a k v) i j = xp σ i j := rfl
theorem frX.wr {σ0 σ : tm_S} (h : frX σ0 σ) {a k : Nat} {v : Int32} (ha : 0 < a ∧ a < 130) : frX σ0 (sI σ a k v) := by
  intro q hq
  have hne : q ≠ a := by omega
  refine ⟨(sI_ne1 hne).trans (h q hq).1, (h q hq).2⟩
theorem RX.set {σ0 σ : tm_S} {A : sA} (h : RX σ0 σ A) {t i j : Nat} (hv : xV t i j = true) (v : Int32) : RX σ0 (sI σ (xA t i) (xS t j) v) (uA A t i j v) := by
  refine ⟨fun t' i' j' hv' => ?_, fun i' hi' => ?_, h.2.2.wr (xA_lt hv)⟩
  · rw [sI_1, uA_1]
    by_cases he : t' = t ∧ i' = i ∧ j' = j
    · obtain ⟨rfl, rfl, rfl⟩ := he
      rw [if_pos ⟨rfl, rfl⟩, if_pos ⟨rfl, rfl, rfl⟩]
    · rw [if_neg he, if_neg (fun e => he (xAS hv hv' e.1 e.2))]
      exact h.1 t' i' j' hv'
  · rw [uA_2]
    refine (h.2.1 i' hi').congr ?_ (fun k _ => rfl) (fun m hm => ⟨sI_ne1 (xA_F hv hi' hm).1, sI_ne1 (xA_F hv hi' hm).2⟩)
    rw [sI_1, if_neg (xA_s hv hi')]
/-- a change of the last frame -/
theorem RX.last {σ0 σ σ' : tm_S} {B : sA} (h : RX σ0 σ B) {n : Nat} (hn : n < 7) {l : List sFr} {f f' : sFr} (hB : B.2 n = l ++ [f]) {q : Nat} (hq : q = xp σ n l.length) (ho : ∀ a, a ≠ q → a ≠ q + 1 → σ'.1 a = σ.1 a) (h2 : σ'.2 = σ.2) (hf : FX σ' q f') : RX σ0 σ' (uQ B n (l ++ [f'])) := by
  have hr := h.2.1 n hn
  rw [hB] at hr
  have hlen : l.length < 4 := by
    have := hr.2.1
    rw [List.length_append] at this
    simp at this
    omega
  obtain ⟨m0, hm0, e0⟩ := hr.2.2.1 l.length hlen
  have hqF : q = xF n m0 := hq.trans e0
  have hlt := xF_lt hn hm0
  have hxp : ∀ i k, xp σ' i k = xp σ i k := fun i k => by unfold xp; rw [h2]
  have hoF : ∀ i m, i < 7 → m < 4 → xF i m ≠ q → σ'.1 (xF i m) = σ.1 (xF i m) ∧ σ'.1 (xF i m + 1) = σ.1 (xF i m + 1) := by
    intro i m hi hm hne
    rw [hqF] at hne
    unfold xF at hne
    constructor
    · apply ho <;> rw [hqF] <;> unfold xF <;> omega
    · apply ho <;> rw [hqF] <;> unfold xF <;> omega
  refine ⟨fun t i j hv => ?_, fun i hi => ?_, fun a ha => ?_⟩
  · have e1 := xA_F hv hn hm0
    rw [ho (xA t i) (by rw [hqF]; exact fun e => e1.1 e.symm) (by rw [hqF]; exact fun e => e1.2 e.symm)]
    exact h.1 t i j hv
  · rw [uQ_2]
    by_cases hin : i = n
    · subst hin
      rw [if_pos rfl]
      obtain ⟨a1, a2, a3, a4, a5⟩ := hr
      refine ⟨?_, ?_, fun k hk => ?_, fun k k' hk hk' he => ?_, fun k g hg => ?_⟩
      · rw [ho _ (by rw [hqF]; unfold xF; omega) (by rw [hqF]; unfold xF; omega), a1]
        simp
      · rw [List.length_append] at a2 ⊢
        exact a2
      · rw [hxp]
        exact a3 k hk
      · rw [hxp, hxp] at he
        exact a4 k k' hk hk' he
      · rw [hxp]
        by_cases hk : k = l.length
        · subst hk
          rw [List.getElem?_append_right (Nat.le_refl _), Nat.sub_self] at hg
          obtain rfl : f' = g := Option.some.inj hg
          rw [← hq]
          exact hf
        · have hkl : k < l.length := by
            have := (List.getElem?_eq_some_iff.mp hg).1
            rw [List.length_append] at this
            simp at this
            omega
          rw [List.getElem?_append_left hkl] at hg
          have h5 := a5 k g (by rw [List.getElem?_append_left hkl]; exact hg)
          obtain ⟨m, hm, e⟩ := a3 k (by omega)
          have hne : xF i m ≠ q := by
            rw [← e, hq]
            intro e2
            exact hk (a4 k l.length (by omega) hlen e2)
          rw [e] at h5 ⊢
          exact h5.congr (hoF i m hi hm hne).1 (hoF i m hi hm hne).2
    · rw [if_neg hin]
      refine (h.2.1 i hi).congr ?_ (fun k _ => hxp i k) (fun m hm => ?_)
      · rw [ho _ (by rw [hqF]; unfold xF; omega) (by rw [hqF]; unfold xF; omega)]
      · exact hoF i m hi hm (by rw [hqF]; unfold xF; omega)
  · rw [h2, ho a (by omega) (by omega)]
    exact h.2.2 a ha
/-- the queue is longer by one -/
theorem RX.push {σ0 σ σ' : tm_S} {A : sA} (h : RX σ0 σ A) {n : Nat} (hn : n < 7) (hlen : (A.2 n).length < 4) {q : Nat} (hq : q = xp σ n (A.2 n).length) {f : sFr} (ho : ∀ a j, a ≠ q → a ≠ q + 1 → ¬ (a = 11 + 17 * n + 1 ∧ j = 1) → σ'.1 a j = σ.1 a j) (h2 : σ'.2 = σ.2) (hs : σ'.1 (11 + 17 * n + 1) 1 = nX ((A.2 n).length + 1)) (hf : FX σ' q f) : RX σ0 σ' (uQ A n (A.2 n ++ [f])) := by
  have hr := h.2.1 n hn
  obtain ⟨m0, hm0, e0⟩ := hr.2.2.1 (A.2 n).length hlen
  have hqF : q = xF n m0 := hq.trans e0
  have hlt := xF_lt hn hm0
  have hxp : ∀ i k, xp σ' i k = xp σ i k := fun i k => by unfold xp; rw [h2]
  have hoF : ∀ i m, i < 7 → m < 4 → xF i m ≠ q → σ'.1 (xF i m) = σ.1 (xF i m) ∧ σ'.1 (xF i m + 1) = σ.1 (xF i m + 1) := by
    intro i m hi hm hne
    rw [hqF] at hne
    unfold xF at hne
    constructor
    · funext j
      apply ho <;> (try rw [hqF]) <;> unfold xF <;> omega
    · funext j
      apply ho <;> (try rw [hqF]) <;> unfold xF <;> omega
  refine ⟨fun t i j hv => ?_, fun i hi => ?_, fun a ha => ?_⟩
  · have e1 := xA_F hv hn hm0
    rw [ho (xA t i) _ (by rw [hqF]; exact fun e => e1.1 e.symm) (by rw [hqF]; exact fun e => e1.2 e.symm) (fun e => xA_s hv hn ⟨e.1.symm, e.2.symm⟩)]
    exact h.1 t i j hv
  · rw [uQ_2]
    by_cases hin : i = n
    · subst hin
      rw [if_pos rfl]
      obtain ⟨a1, a2, a3, a4, a5⟩ := hr
      refine ⟨?_, ?_, fun k hk => ?_, fun k k' hk hk' he => ?_, fun k g hg => ?_⟩
      · rw [hs]
        simp
      · rw [List.length_append]
        simp
        omega
      · rw [hxp]
        exact a3 k hk
      · rw [hxp, hxp] at he
        exact a4 k k' hk hk' he
      · rw [hxp]
        by_cases hk : k = (A.2 i).length
        · subst hk
          rw [List.getElem?_append_right (Nat.le_refl _), Nat.sub_self] at hg
          obtain rfl : f = g := Option.some.inj hg
          rw [← hq]
          exact hf
        · have hkl : k < (A.2 i).length := by
            have := (List.getElem?_eq_some_iff.mp hg).1
            rw [List.length_append] at this
            simp at this
            omega
          rw [List.getElem?_append_left hkl] at hg
          have h5 := a5 k g hg
          obtain ⟨m, hm, e⟩ := a3 k (by omega)
          have hne : xF i m ≠ q := by
            rw [← e, hq]
            intro e2
            exact hk (a4 k (A.2 i).length (by omega) hlen e2)
          rw [e] at h5 ⊢
          exact h5.congr (hoF i m hi hm hne).1 (hoF i m hi hm hne).2
    · rw [if_neg hin]
      refine (h.2.1 i hi).congr ?_ (fun k _ => hxp i k) (fun m hm => ?_)
      · rw [ho _ _ (by rw [hqF]; unfold xF; omega) (by rw [hqF]; unfold xF; omega) (by omega)]
      · exact hoF i m hi hm (by rw [hqF]; unfold xF; omega)
  · have e : σ'.1 a = σ.1 a := by
      funext j
      exact ho a j (by omega) (by omega) (by omega)
    rw [h2, e]
    exact h.2.2 a ha
/-- the first frame goes behind the others, and the queue is shorter by one -/
theorem RX.pop {σ0 σ σ' : tm_S} {A : sA} (h : RX σ0 σ A) {n : Nat} (hn : n < 7) (hne : A.2 n ≠ []) (ho : ∀ a j, ¬ (a = 11 + 17 * n + 1 ∧ j = 1) → σ'.1 a j = σ.1 a j) (hs : σ'.1 (11 + 17 * n + 1) 1 = nX (A.2 n).tail.length) (h2 : ∀ a, a ≠ 11 + 17 * n + 1 + 1 → σ'.2 a = σ.2 a) (hr3 : ∀ k, k < 3 → xp σ' n k = xp σ n (k + 1)) (hr0 : xp σ' n 3 = xp σ n 0) : RX σ0 σ' (uQ A n (A.2 n).tail) := by
  have hr := h.2.1 n hn
  obtain ⟨a1, a2, a3, a4, a5⟩ := hr
  have hF : ∀ i m, i < 7 → m < 4 → σ'.1 (xF i m) = σ.1 (xF i m) ∧ σ'.1 (xF i m + 1) = σ.1 (xF i m + 1) := by
    intro i m hi hm
    constructor <;> funext j <;> apply ho <;> unfold xF <;> omega
  refine ⟨fun t i j hv => ?_, fun i hi => ?_, fun a ha => ?_⟩
  · rw [ho _ _ (fun e => xA_s hv hn ⟨e.1.symm, e.2.symm⟩)]
    exact h.1 t i j hv
  · rw [uQ_2]
    by_cases hin : i = n
    · subst hin
      rw [if_pos rfl]
      have hz : (A.2 i).tail.length + 1 = (A.2 i).length := by
        cases hl : A.2 i with
        | nil => exact absurd hl hne
        | cons x t => rfl
      refine ⟨hs, by omega, fun k hk => ?_, fun k k' hk hk' he => ?_, fun k g hg => ?_⟩
      · by_cases h3 : k = 3
        · subst h3
          rw [hr0]
          exact a3 0 (by omega)
        · rw [hr3 k (by omega)]
          exact a3 (k + 1) (by omega)
      · by_cases h3 : k = 3
        · subst h3
          by_cases h3' : k' = 3
          · exact h3'.symm
          · rw [hr0, hr3 k' (by omega)] at he
            have := a4 0 (k' + 1) (by omega) (by omega) he
            omega
        · by_cases h3' : k' = 3
          · subst h3'
            rw [hr0, hr3 k (by omega)] at he
            have := a4 (k + 1) 0 (by omega) (by omega) he
            omega
          · rw [hr3 k (by omega), hr3 k' (by omega)] at he
            have := a4 (k + 1) (k' + 1) (by omega) (by omega) he
            omega
      · have hk : k < (A.2 i).tail.length := (List.getElem?_eq_some_iff.mp hg).1
        rw [hr3 k (by omega)]
        have hg2 : (A.2 i)[k + 1]? = some g := by
          rw [← hg]
          cases A.2 i with
          | nil => rfl
          | cons x t => rfl
        have h5 := a5 (k + 1) g hg2
        obtain ⟨m, hm, e⟩ := a3 (k + 1) (by omega)
        rw [e] at h5 ⊢
        exact h5.congr (hF i m hi hm).1 (hF i m hi hm).2
    · rw [if_neg hin]
      refine (h.2.1 i hi).congr (ho _ _ (by omega)) (fun k _ => ?_) (fun m hm => hF i m hi hm)
      unfold xp
      rw [h2 _ (by omega)]
  · have e : σ'.1 a = σ.1 a := by
      funext j
      exact ho a j (by omega)
    rw [h2 a (by omega), e]
    exact h.2.2 a ha
