/-! the two halves of the state, one after the other -/
def yph (q : Nat) : Bool := [167, 168, 169, 170, 171].contains q
def yc (q : Nat) : Bool := decide (130 ≤ q) && (decide (q ≤ 173) && !(yph q))
theorem yc_ya_a : ∀ q, q ∈ [130, 172, 138, 139, 140, 141, 149, 150, 151, 152, 153, 142, 143, 144, 145, 146, 134, 135, 131] → yc q = true := by decide
theorem yc_yq_a : ∀ q, q ∈ [148, 147, 154, 156, 157, 158, 159, 160, 161, 162, 163, 164, 165, 166] → yc q = true := by decide
theorem yc_yn_a : ∀ q, q ∈ [155, 136, 147] → yc q = true := by decide
theorem RY.eq {σ0 σ σ' : tm_S} {B : Nat} {tmp : Option Nat} {A : sA} (h : RY σ0 B tmp σ A) (he : ∀ q, yc q = true → σ'.1 q = σ.1 q) : RY σ' B tmp σ' A := by
  obtain ⟨p1, p2, p3, p4, p5, p6, -⟩ := h
  refine ⟨fun t i j hv => ?_, fun i hi => ?_, fun i j hi hj => ?_, fun i hi => ?_, ?_, ?_, fun _ _ => rfl, rfl⟩
  · rw [he (yA t) (yc_ya_a _ (List.contains_iff_mem.mp (yA_ok hv)))]
    exact p1 t i j hv
  · rw [he 137 (by decide)]
    exact p2 i hi
  · rw [he 133 (by decide), he 132 (by decide)]
    exact p3 i j hi hj
  · rw [he 173 (by decide)]
    exact p4 i hi
  · exact p5.congr (fun q hq => he q (yc_yn_a q (List.contains_iff_mem.mp hq))) (by rw [he 130 (by decide)]) rfl rfl rfl
  · exact p6.congr (fun q hq => he q (yc_yq_a q (List.contains_iff_mem.mp hq))) rfl
theorem RY.base {σ0 σ : tm_S} {B : Nat} {tmp : Option Nat} {A : sA} (h : RY σ0 B tmp σ A) : RY σ B tmp σ A := h.eq (fun _ _ => rfl)
/-- a step of the class -/
theorem RY.moved {σ0 σ σ' : tm_S} {B : Nat} {tmp : Option Nat} {A : sA} (h : RY σ0 B tmp σ A) (hx : frX σ σ') : RY σ' B tmp σ' A := h.eq (fun q hq => by
  unfold yc at hq
  rw [Bool.and_eq_true_iff, decide_eq_true_eq] at hq
  exact (hx q (Or.inr hq.1)).1)
/-- who is on the air, who listened -/
theorem RY.ph {σ0 σ : tm_S} {B : Nat} {tmp : Option Nat} {A : sA} (h : RY σ0 B tmp σ A) {q k : Nat} {v : Int32} (hq : yph q = true) : RY (sI σ q k v) B tmp (sI σ q k v) A := h.eq (fun q' hq' => sI_ne1 (fun e => by
  subst e
  unfold yc at hq'
  rw [hq] at hq'
  simp at hq'))
/-- what the reference doesn't keep -/
theorem RY.free {σ0 σ : tm_S} {B : Nat} {tmp : Option Nat} {A A' : sA} (h : RY σ0 B tmp σ A) (hA : ∀ t, t ≠ 19 → t ≠ 20 → t ≠ 21 → t ≠ 24 → A'.1 t = A.1 t) (h2 : A'.2 = A.2) : RY σ0 B tmp σ A' := by
  obtain ⟨p1, p2, p3, p4, p5, p6, p7⟩ := h
  have e : ∀ t, [19, 20, 21, 24].contains t = false → A'.1 t = A.1 t := by
    intro t ht
    apply hA <;> (intro q; subst q; revert ht; decide)
  refine ⟨fun t i j hv => ?_, fun i hi => ?_, fun i j hi hj => ?_, fun i hi => ?_, ?_, ?_, p7⟩
  · rw [e t (by
      cases hc : [19, 20, 21, 24].contains t with
      | false => rfl
      | true =>
        have : t = 19 ∨ t = 20 ∨ t = 21 ∨ t = 24 := by simpa using hc
        rcases this with rfl | rfl | rfl | rfl <;> cases hv)]
    exact p1 t i j hv
  · rw [e 11 (by decide)]
    exact p2 i hi
  · rw [e 30 (by decide)]
    exact p3 i j hi hj
  · rw [e 10 (by decide), e 34 (by decide)]
    exact p4 i hi
  · exact p5.congr (fun _ _ => rfl) rfl h2 (by rw [e 4 (by decide)]) (e 33 (by decide))
  · exact p6.congr (fun _ _ => rfl) h2
/-- a step of the reference -/
theorem RX.moved {σ0 σ σ' : tm_S} {A : sA} (h : RX σ0 σ A) (hy : frY σ σ') : RX σ' σ' A := by
  have e : ∀ q, q < 130 → σ'.1 q = σ.1 q := fun q hq => hy.1 q (by
    unfold fyo
    rw [decide_eq_true hq]
    rfl)
  refine ⟨fun t i j hv => ?_, fun i hi => ?_, fun _ _ => ⟨rfl, rfl⟩⟩
  · rw [e _ (xA_lt hv).2]
    exact h.1 t i j hv
  · refine (h.2.1 i hi).congr (by rw [e _ (by omega)]) (fun k _ => by unfold xp; rw [hy.2]) (fun m hm => ?_)
    have := xF_lt hi hm
    exact ⟨e _ (by omega), e _ (by omega)⟩
theorem RX.base {σ0 σ : tm_S} {A : sA} (h : RX σ0 σ A) : RX σ σ A := ⟨h.1, h.2.1, fun _ _ => ⟨rfl, rfl⟩⟩
theorem frX.tr {σ0 σ1 σ2 : tm_S} (h : frX σ0 σ1) (g : frX σ1 σ2) : frX σ0 σ2 := fun q hq => ⟨(g q hq).1.trans (h q hq).1, (g q hq).2.trans (h q hq).2⟩
theorem frY.tr {σ0 σ1 σ2 : tm_S} (h : frY σ0 σ1) (g : frY σ1 σ2) : frY σ0 σ2 := ⟨fun q hq => (g.1 q hq).trans (h.1 q hq), g.2.trans h.2⟩
theorem RX.fr {σ0 σ : tm_S} {A : sA} (h : RX σ0 σ A) : frX σ0 σ := h.2.2
theorem RY.fr {σ0 σ : tm_S} {B : Nat} {tmp : Option Nat} {A : sA} (h : RY σ0 B tmp σ A) : frY σ0 σ := h.2.2.2.2.2.2
/-- numbers as places -/
theorem ok7_a : ∀ m, m < 7 → (¬ (nX m < 0 ∨ 7 ≤ (nX m).toNatClampNeg)) := by decide
theorem ix49_a : ∀ n, n < 7 → ∀ j, j < 7 → ((7 : Int32) * nX n + nX j).toNatClampNeg = 7 * n + j ∧ ¬ ((7 : Int32) * nX n + nX j < 0) := by decide +kernel
theorem ix28_a : ∀ n, n < 7 → ∀ j, j < 4 → ((4 : Int32) * nX n + nX j).toNatClampNeg = 4 * n + j ∧ ¬ ((4 : Int32) * nX n + nX j < 0) := by decide +kernel
theorem ix56_a : ∀ n, n < 7 → ∀ j, j < 8 → ((8 : Int32) * nX n + nX j).toNatClampNeg = 8 * n + j ∧ ¬ ((8 : Int32) * nX n + nX j < 0) := by decide +kernel
/-- the class's part stays as it is -/
def frY' (σ0 σ : tm_S) : Prop := (∀ q, q < 130 → σ.1 q = σ0.1 q) ∧ σ.2 = σ0.2
theorem frY'.of {σ0 σ : tm_S} (h : frY σ0 σ) : frY' σ0 σ := ⟨fun q hq => h.1 q (by
  unfold fyo
  rw [decide_eq_true hq]
  rfl), h.2⟩
theorem frY'.tr {σ0 σ1 σ2 : tm_S} (h : frY' σ0 σ1) (g : frY' σ1 σ2) : frY' σ0 σ2 := ⟨fun q hq => (g.1 q hq).trans (h.1 q hq), g.2.trans h.2⟩
theorem frY'.rf (σ : tm_S) : frY' σ σ := ⟨fun _ _ => rfl, rfl⟩
theorem frY'.ph {σ : tm_S} {q k : Nat} {v : Int32} (hq : yph q = true) : frY' σ (sI σ q k v) := ⟨fun q' hq' => sI_ne1 (fun e => by
  subst e
  have h1 : q' ∈ [167, 168, 169, 170, 171] := List.contains_iff_mem.mp hq
  have h2 : ∀ z, z ∈ [167, 168, 169, 170, 171] → 130 ≤ z := by decide
  have := h2 q' h1
  omega), rfl⟩
theorem RX.moved' {σ0 σ σ' : tm_S} {A : sA} (h : RX σ0 σ A) (hy : frY' σ σ') : RX σ' σ' A := by
  refine ⟨fun t i j hv => ?_, fun i hi => ?_, fun _ _ => ⟨rfl, rfl⟩⟩
  · rw [hy.1 _ (xA_lt hv).2]
    exact h.1 t i j hv
  · refine (h.2.1 i hi).congr (by rw [hy.1 _ (by omega)]) (fun k _ => by unfold xp; rw [hy.2]) (fun m hm => ?_)
    have := xF_lt hi hm
    exact ⟨hy.1 _ (by omega), hy.1 _ (by omega)⟩
