/-! the reference's part of the flat state stands for A -/
def yA (t : Nat) : Nat := [130, 130, 130, 130, 0, 130, 130, 130, 130, 0, 172, 0, 138, 139, 140, 141, 149, 150, 151, 0, 0, 0, 152, 153, 0, 142, 143, 144, 145, 146, 0, 134, 135, 0, 0, 131].getD t 0
def yS (t i j : Nat) : Nat := if t < 9 then [1, 2, 0, 3, 0, 46, 47, 48, 49].getD t 0 else if t < 30 then i else 7 * i + j
/-- the tags that stand as they are -/
def yV (t i j : Nat) : Bool := !([4, 9, 11, 19, 20, 21, 24, 30, 33, 34].contains t) && (xV t i j && decide (j < 7))
/-- place k of node i's queue -/
def yp (σ : tm_S) (i k : Nat) : Nat := (σ.1 147 (4 * i + k)).toNatClampNeg
def FY (σ : tm_S) (s : Nat) (f : sFr) : Prop := σ.1 156 s = f 0 ∧ σ.1 157 s = f 1 ∧ (f 0 = 3 → σ.1 158 s = f 3 ∧ σ.1 160 s = f 4 ∧ ∀ g, g < 7 → σ.1 159 (7 * s + g) = f (10 + g)) ∧ (f 0 = 4 → σ.1 161 s = f 3 ∧ σ.1 162 s = f 4 ∧ σ.1 163 s = f 5 ∧ σ.1 164 s = f 6 ∧ σ.1 165 s = f 7 ∧ σ.1 166 s = f 8)
/-- alive and dead; ranks that are known -/
def yD (σ : tm_S) (A : sA) : Prop := ∀ i, i < 7 → (A.1 11 i 0 = 0 ∧ σ.1 137 i = 1) ∨ (A.1 11 i 0 = 1 ∧ σ.1 137 i = 0)
def yK (σ : tm_S) (A : sA) : Prop := ∀ i j, i < 7 → j < 7 → (σ.1 133 (7 * i + j) = 0 ∧ A.1 30 i j = 0) ∨ (σ.1 133 (7 * i + j) = 1 ∧ A.1 30 i j = σ.1 132 (7 * i + j) ∧ ¬ A.1 30 i j = 0)
/-- the values that arrived, the latest first -/
def yL (B : Nat) (σ : tm_S) (A : sA) : Prop := ∀ i, i < 7 → ∃ a : Nat, a ≤ B ∧ A.1 10 i 0 = Int32.ofNat a ∧ ∀ k, k < 8 → k < a → σ.1 173 (8 * i + k) = A.1 34 i ((a - 1 - k) % 8)
/-- names and serials -/
def yM (σ : tm_S) (A : sA) (s0 n0 : Nat) (x k : Nat) (f : sFr) : Prop := ∃ s m : Nat, s ≤ s0 ∧ m ≤ n0 ∧ f 2 = Int32.ofNat s ∧ σ.1 155 (yp σ x k) = Int32.ofNat m ∧ ∀ a, a < 7 → (A.1 33 a x = f 2 ↔ σ.1 136 (7 * a + x) = σ.1 155 (yp σ x k))
def td (tmp : Option Nat) : Nat := match tmp with
  | none => 0
  | some _ => 1
/-- with a frame that isn't queued yet, its name is the last one given -/
def yN (B : Nat) (tmp : Option Nat) (σ : tm_S) (A : sA) : Prop := ∃ s0 n0 : Nat, n0 ≤ B ∧ s0 + td tmp ≤ n0 ∧ A.1 4 0 0 = Int32.ofNat s0 ∧ σ.1 130 40 = Int32.ofNat n0 ∧ (∀ s, tmp = some s → σ.1 155 s = Int32.ofNat n0) ∧ (∀ a x, a < 7 → x < 7 → ∃ r l : Nat, r ≤ s0 ∧ l + td tmp ≤ n0 ∧ A.1 33 a x = Int32.ofNat r ∧ σ.1 136 (7 * a + x) = Int32.ofNat l) ∧ (∀ x k f, x < 7 → (A.2 x)[k]? = some f → yM σ A s0 (n0 - td tmp) x k f) ∧ ∀ x k k' f f', x < 7 → k < k' → (A.2 x)[k]? = some f → (A.2 x)[k']? = some f' → f 2 ≠ f' 2 ∧ σ.1 155 (yp σ x k) ≠ σ.1 155 (yp σ x k')
/-- the queues -/
def yQ (tmp : Option Nat) (σ : tm_S) (A : sA) : Prop := (∀ i, i < 7 → σ.1 148 i = nX (A.2 i).length ∧ (A.2 i).length ≤ 4) ∧ (∀ i k f, i < 7 → (A.2 i)[k]? = some f → yp σ i k < 32 ∧ σ.1 147 (4 * i + k) = Int32.ofNat (yp σ i k) ∧ σ.1 154 (yp σ i k) = 1 ∧ FY σ (yp σ i k) f) ∧ (∀ i k i' k', i < 7 → i' < 7 → k < (A.2 i).length → k' < (A.2 i').length → yp σ i k = yp σ i' k' → i = i' ∧ k = k') ∧ (∀ s, s < 32 → σ.1 154 s = 0 ∨ (σ.1 154 s = 1 ∧ (tmp = some s ∨ ∃ i k, i < 7 ∧ k < (A.2 i).length ∧ yp σ i k = s))) ∧ ∀ s, tmp = some s → s < 32 ∧ σ.1 154 s = 1 ∧ ∀ i k, i < 7 → k < (A.2 i).length → yp σ i k ≠ s
/-- nothing else has changed since σ0 -/
def fyo (q : Nat) : Bool := decide (q < 130) || (decide (173 < q) || [167, 168, 169, 170, 171].contains q)
def frY (σ0 σ : tm_S) : Prop := (∀ q, fyo q = true → σ.1 q = σ0.1 q) ∧ σ.2 = σ0.2
def RY (σ0 : tm_S) (B : Nat) (tmp : Option Nat) (σ : tm_S) (A : sA) : Prop := (∀ t i j, yV t i j = true → σ.1 (yA t) (yS t i j) = A.1 t i j) ∧ yD σ A ∧ yK σ A ∧ yL B σ A ∧ yN B tmp σ A ∧ yQ tmp σ A ∧ frY σ0 σ
def yI (q k : Nat) : Nat × Nat × Nat := if q = 130 then ([2, 0, 1, 3].getD k (if k = 46 then 5 else if k = 47 then 6 else if k = 48 then 7 else if k = 49 then 8 else 99), 0, 0) else if q = 134 then (31, k / 7, k % 7) else if q = 135 then (32, k / 7, k % 7) else if q = 131 then (35, k / 7, k % 7) else (if q = 172 then 10 else if q = 138 then 12 else if q = 139 then 13 else if q = 140 then 14 else if q = 141 then 15 else if q = 149 then 16 else if q = 150 then 17 else if q = 151 then 18 else if q = 152 then 22 else if q = 153 then 23 else if q = 142 then 25 else if q = 143 then 26 else if q = 144 then 27 else if q = 145 then 28 else if q = 146 then 29 else 99, k, 0)
theorem yI_a : ∀ t, t < 36 → ∀ i, i < 7 → ∀ j, j < 8 → yV t i j = true → (yI (yA t) (yS t i j)).1 = t ∧ (yI (yA t) (yS t i j)).2.1 = i ∧ (yI (yA t) (yS t i j)).2.2 = j := by decide +kernel
theorem yV_x {t i j : Nat} (h : yV t i j = true) : xV t i j = true := (Bool.and_eq_true_iff.mp (Bool.and_eq_true_iff.mp h).2).1
theorem yI_ok {t i j : Nat} (h : yV t i j = true) : yI (yA t) (yS t i j) = (t, i, j) := by
  obtain ⟨h1, h2, h3⟩ := yI_a t (xV_1 (yV_x h)).1 i (xV_1 (yV_x h)).2.1 j (xV_1 (yV_x h)).2.2 h
  exact Prod.ext h1 (Prod.ext h2 h3)
theorem yAS {t i j t' i' j' : Nat} (h : yV t i j = true) (h' : yV t' i' j' = true) (e1 : yA t' = yA t) (e2 : yS t' i' j' = yS t i j) : t' = t ∧ i' = i ∧ j' = j := by
  have h1 := yI_ok h
  have h2 := yI_ok h'
  rw [e1, e2, h1] at h2
  simp only [Prod.mk.injEq] at h2
  exact ⟨h2.1.symm, h2.2.1.symm, h2.2.2.symm⟩
/-- the addresses of the tags that stand as they are -/
def ya (q : Nat) : Bool := [130, 172, 138, 139, 140, 141, 149, 150, 151, 152, 153, 142, 143, 144, 145, 146, 134, 135, 131].contains q
theorem yA_a : ∀ t, t < 36 → ∀ i, i < 7 → ∀ j, j < 8 → yV t i j = true → ya (yA t) = true := by decide +kernel
theorem yA_ok {t i j : Nat} (h : yV t i j = true) : ya (yA t) = true := yA_a t (xV_1 (yV_x h)).1 i (xV_1 (yV_x h)).2.1 j (xV_1 (yV_x h)).2.2 h
theorem yA_40_a : ∀ t, t < 36 → ∀ i, i < 7 → ∀ j, j < 8 → yV t i j = true → ¬ (130 = yA t ∧ 40 = yS t i j) := by decide +kernel
theorem yA_40 {t i j : Nat} (h : yV t i j = true) : ¬ (130 = yA t ∧ 40 = yS t i j) := yA_40_a t (xV_1 (yV_x h)).1 i (xV_1 (yV_x h)).2.1 j (xV_1 (yV_x h)).2.2 h
theorem ya_fy_a : ∀ q, q ∈ [130, 172, 138, 139, 140, 141, 149, 150, 151, 152, 153, 142, 143, 144, 145, 146, 134, 135, 131] → fyo q = false := by decide
theorem ya_fy {q : Nat} (h : ya q = true) : fyo q = false := ya_fy_a q (List.contains_iff_mem.mp h)
theorem frY.wr {σ0 σ : tm_S} (h : frY σ0 σ) {a k : Nat} {v : Int32} (ha : fyo a = false) : frY σ0 (sI σ a k v) := by
  refine ⟨fun q hq => ?_, h.2⟩
  have hne : q ≠ a := by
    intro e
    rw [e, ha] at hq
    cases hq
  exact (sI_ne1 hne).trans (h.1 q hq)
theorem FY.congr {σ σ' : tm_S} {s : Nat} {f : sFr} (h : FY σ s f) (h1 : ∀ q, q = 156 ∨ q = 157 ∨ q = 158 ∨ q = 160 ∨ q = 161 ∨ q = 162 ∨ q = 163 ∨ q = 164 ∨ q = 165 ∨ q = 166 → σ'.1 q s = σ.1 q s) (h2 : ∀ g, g < 7 → σ'.1 159 (7 * s + g) = σ.1 159 (7 * s + g)) : FY σ' s f := by
  obtain ⟨a1, a2, a3, a4⟩ := h
  refine ⟨?_, ?_, fun e => ?_, fun e => ?_⟩
  · rw [h1 156 (by simp)]
    exact a1
  · rw [h1 157 (by simp)]
    exact a2
  · obtain ⟨b1, b2, b3⟩ := a3 e
    rw [h1 158 (by simp), h1 160 (by simp)]
    exact ⟨b1, b2, fun g hg => by rw [h2 g hg]; exact b3 g hg⟩
  · rw [h1 161 (by simp), h1 162 (by simp), h1 163 (by simp), h1 164 (by simp), h1 165 (by simp), h1 166 (by simp)]
    exact a4 e
/-- the addresses of what isn't as it is -/
def yq (q : Nat) : Bool := [148, 147, 154, 156, 157, 158, 159, 160, 161, 162, 163, 164, 165, 166].contains q
def yn (q : Nat) : Bool := [155, 136, 147].contains q
def yz (q : Nat) : Bool := [137, 133, 132, 173].contains q || (yq q || yn q)
theorem yz_q {q : Nat} (h : yq q = true) : yz q = true := by
  unfold yz
  rw [h]
  simp
theorem yz_n {q : Nat} (h : yn q = true) : yz q = true := by
  unfold yz
  rw [h]
  simp
theorem ya_a : ∀ q, q ∈ [130, 172, 138, 139, 140, 141, 149, 150, 151, 152, 153, 142, 143, 144, 145, 146, 134, 135, 131] → yz q = false := by decide
theorem yz_ya {q : Nat} (h : yz q = true) : ya q = false := by
  cases hy : ya q with
  | false => rfl
  | true =>
    rw [ya_a q (List.contains_iff_mem.mp hy)] at h
    cases h
/-- the queues stand when these addresses stand -/
theorem yQ.congr {tmp : Option Nat} {σ σ' : tm_S} {A A' : sA} (h : yQ tmp σ A) (h1 : ∀ q, yq q = true → σ'.1 q = σ.1 q) (h2 : A'.2 = A.2) : yQ tmp σ' A' := by
  have e : ∀ i k, yp σ' i k = yp σ i k := fun i k => by unfold yp; rw [h1 147 (by decide)]
  have ef : ∀ s f, FY σ s f → FY σ' s f := fun s f hf => hf.congr (fun q hq => by
    rcases hq with rfl | rfl | rfl | rfl | rfl | rfl | rfl | rfl | rfl | rfl <;> rw [h1 _ (by decide)]) (fun g _ => by rw [h1 159 (by decide)])
  unfold yQ at h ⊢
  simp only [e, h2]
  rw [h1 148 (by decide), h1 147 (by decide), h1 154 (by decide)]
  exact ⟨h.1, fun i k f hi hf => ⟨(h.2.1 i k f hi hf).1, (h.2.1 i k f hi hf).2.1, (h.2.1 i k f hi hf).2.2.1, ef _ _ (h.2.1 i k f hi hf).2.2.2⟩, h.2.2⟩
theorem yN.congr {B : Nat} {tmp : Option Nat} {σ σ' : tm_S} {A A' : sA} (h : yN B tmp σ A) (h1 : ∀ q, yn q = true → σ'.1 q = σ.1 q) (h0 : σ'.1 130 40 = σ.1 130 40) (h2 : A'.2 = A.2) (h3 : A'.1 4 0 0 = A.1 4 0 0) (h4 : A'.1 33 = A.1 33) : yN B tmp σ' A' := by
  have e : ∀ i k, yp σ' i k = yp σ i k := fun i k => by unfold yp; rw [h1 147 (by decide)]
  unfold yN yM at h ⊢
  simp only [e, h2, h3, h4, h0]
  rw [h1 155 (by decide), h1 136 (by decide)]
  exact h
theorem RY.set {σ0 σ : tm_S} {B : Nat} {tmp : Option Nat} {A : sA} (h : RY σ0 B tmp σ A) {t i j : Nat} (hv : yV t i j = true) (ht : t ≠ 10) (v : Int32) : RY σ0 B tmp (sI σ (yA t) (yS t i j) v) (uA A t i j v) := by
  obtain ⟨p1, p2, p3, p4, p5, p6, p7⟩ := h
  have hz : ∀ q, yz q = true → (sI σ (yA t) (yS t i j) v).1 q = σ.1 q := fun q hq => sI_ne1 (fun e => by
    have := yz_ya hq
    rw [e, yA_ok hv] at this
    cases this)
  have ne : ∀ t', [4, 9, 11, 19, 20, 21, 24, 30, 33, 34].contains t' = true → t' ≠ t := by
    intro t' h1 e
    subst e
    unfold yV at hv
    rw [h1] at hv
    cases hv
  refine ⟨fun t' i' j' hv' => ?_, ?_, ?_, ?_, ?_, ?_, p7.wr (ya_fy (yA_ok hv))⟩
  · rw [sI_1, uA_1]
    by_cases he : t' = t ∧ i' = i ∧ j' = j
    · obtain ⟨rfl, rfl, rfl⟩ := he
      rw [if_pos ⟨rfl, rfl⟩, if_pos ⟨rfl, rfl, rfl⟩]
    · rw [if_neg he, if_neg (fun e => he (yAS hv hv' e.1 e.2))]
      exact p1 t' i' j' hv'
  · intro i' hi'
    rw [hz 137 (by decide), uA_ne (ne 11 (by decide))]
    exact p2 i' hi'
  · intro i' j' hi' hj'
    rw [hz 133 (by decide), hz 132 (by decide), uA_ne (ne 30 (by decide))]
    exact p3 i' j' hi' hj'
  · intro i' hi'
    obtain ⟨a, h1, h2, h3⟩ := p4 i' hi'
    refine ⟨a, h1, ?_, fun k hk hka => ?_⟩
    · rw [uA_ne (Ne.symm ht)]
      exact h2
    · rw [hz 173 (by decide), uA_ne (ne 34 (by decide))]
      exact h3 k hk hka
  · refine p5.congr (fun q hq => hz q (yz_n hq)) ?_ rfl (uA_ne (ne 4 (by decide))) ?_
    · rw [sI_1, if_neg (yA_40 hv)]
    · funext i' j'
      exact uA_ne (ne 33 (by decide))
  · exact p6.congr (fun q hq => hz q (yz_q hq)) rfl
