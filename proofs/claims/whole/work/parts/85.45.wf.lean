/-! what always holds of A -/
def nod (v : Int32) : Prop := v = -1 ∨ ∃ m, m < 7 ∧ v = nX m
def nds (v : Int32) : Prop := ∃ m, m < 7 ∧ v = nX m
def bl (v : Int32) : Prop := v = 0 ∨ v = 1
def ivl (v : Int32) : Prop := v = 4 ∨ v = 8 ∨ v = 16 ∨ v = 32 ∨ v = 64
def W1 (t i j : Nat) (v : Int32) : Prop :=
  if t = 9 then v = nX i else if t = 11 then bl v ∧ (i = 0 → v = 1) else if t = 13 then (1 ≤ v ∧ v ≤ 255) ∧ (i = 0 → v = 1) else if t = 14 then nod v ∧ (i = 0 → v = -1) else if t = 15 then v ≤ 255 else if t = 19 then v = 0 ∨ v = 1 ∨ v = 2 else if t = 20 then bl v else if t = 22 then nod v else if t = 23 then bl v else if t = 24 then nod v else if t = 25 then bl v ∧ (i = 0 → v = 1) else if t = 26 then ivl v else if t = 30 then (0 ≤ v ∧ v ≤ 255) ∧ (i = j → v = 0) else if t = 31 then nod v ∧ (i = j → v = -1) else if t = 35 then (0 ≤ v ∧ v ≤ 9) ∧ (i = j → v = 0) else True
def wfF (f : sFr) : Prop := ((f 0 = 1 ∨ f 0 = 2) ∧ f 1 = -1) ∨ (f 0 = 3 ∧ nds (f 1) ∧ bl (f 4)) ∨ (f 0 = 4 ∧ nds (f 1) ∧ nds (f 4) ∧ 1 ≤ f 5 ∧ bl (f 7) ∧ bl (f 8))
def wfC (A : sA) (n i : Nat) : Prop := (A.2 i).length ≤ 4 ∧ (∀ f ∈ A.2 i, wfF f) ∧ (A.1 11 i 0 = 0 → A.2 i = [] ∧ A.1 22 i 0 = -1 ∧ A.1 23 i 0 = 0) ∧ (¬ A.1 23 i 0 = 0 → A.2 i ≠ []) ∧ (i ≠ n → A.2 i ≠ [] → 0 ≤ A.1 17 i 0 ∧ A.1 17 i 0 ≤ 4)
/-- n: the node whose BUSY isn't looked at; 7 for none -/
def wf (n : Nat) (A : sA) : Prop := (∀ t i j, xV t i j = true → W1 t i j (A.1 t i j)) ∧ ∀ i, i < 7 → wfC A n i
def wt (t : Nat) : Bool := !(t == 11) && (!(t == 22) && (!(t == 23) && !(t == 17)))
theorem wt_1 {t : Nat} (h : wt t = true) : t ≠ 11 ∧ t ≠ 22 ∧ t ≠ 23 ∧ t ≠ 17 := by
  simpa [wt] using h
theorem wf.weak {n : Nat} {A : sA} (w : wf 7 A) : wf n A := ⟨w.1, fun i hi => by
  obtain ⟨a1, a2, a3, a4, a5⟩ := w.2 i hi
  exact ⟨a1, a2, a3, a4, fun _ => a5 (by omega)⟩⟩
theorem wf1_set {A : sA} (w : ∀ t i j, xV t i j = true → W1 t i j (A.1 t i j)) (t i j : Nat) {v : Int32} (hW : W1 t i j v) : ∀ t' i' j', xV t' i' j' = true → W1 t' i' j' ((uA A t i j v).1 t' i' j') := by
  intro t' i' j' hv
  rw [uA_1]
  by_cases he : t' = t ∧ i' = i ∧ j' = j
  · rw [if_pos he]
    obtain ⟨rfl, rfl, rfl⟩ := he
    exact hW
  · rw [if_neg he]
    exact w t' i' j' hv
theorem wf.s {n : Nat} {A : sA} (w : wf n A) (t i j : Nat) (v : Int32) (hW : W1 t i j v) (ht : wt t = true) : wf n (uA A t i j v) := by
  refine ⟨wf1_set w.1 t i j hW, fun i' hi' => ?_⟩
  obtain ⟨h1, h2, h3, h4⟩ := wt_1 ht
  have e : ∀ t', t' ≠ t → (uA A t i j v).1 t' i' 0 = A.1 t' i' 0 := fun t' h => by
    rw [uA_1, if_neg (fun q => h q.1)]
  have := w.2 i' hi'
  unfold wfC at this ⊢
  rw [e 11 (Ne.symm h1), e 22 (Ne.symm h2), e 23 (Ne.symm h3), e 17 (Ne.symm h4), uA_2]
  exact this
/-- BUSY of n is set to a number as it may be -/
theorem wf.busy {n : Nat} {A : sA} (w : wf n A) (v : Int32) (hv : 0 ≤ v ∧ v ≤ 4) : wf 7 (uA A 17 n 0 v) := by
  refine ⟨wf1_set w.1 _ _ _ trivial, fun i' hi' => ?_⟩
  have e : ∀ t', t' ≠ 17 → (uA A 17 n 0 v).1 t' i' 0 = A.1 t' i' 0 := fun t' h => by
    rw [uA_1, if_neg (fun q => h q.1)]
  obtain ⟨a1, a2, a3, a4, a5⟩ := w.2 i' hi'
  unfold wfC
  rw [e 11 (by decide), e 22 (by decide), e 23 (by decide), uA_2]
  refine ⟨a1, a2, a3, a4, fun _ hne => ?_⟩
  rw [uA_1]
  by_cases hi : i' = n
  · rw [if_pos ⟨rfl, hi, rfl⟩]
    exact hv
  · rw [if_neg (fun q => hi q.2.1)]
    exact a5 hi hne
theorem wf.busyX {n : Nat} {A : sA} (w : wf 7 A) (v : Int32) : wf n (uA A 17 n 0 v) := by
  refine ⟨wf1_set w.1 _ _ _ trivial, fun i' hi' => ?_⟩
  have e : ∀ t', t' ≠ 17 → (uA A 17 n 0 v).1 t' i' 0 = A.1 t' i' 0 := fun t' h => by
    rw [uA_1, if_neg (fun q => h q.1)]
  obtain ⟨a1, a2, a3, a4, a5⟩ := w.2 i' hi'
  unfold wfC
  rw [e 11 (by decide), e 22 (by decide), e 23 (by decide), uA_2]
  refine ⟨a1, a2, a3, a4, fun hi hne => ?_⟩
  rw [uA_1, if_neg (fun q => hi q.2.1)]
  exact a5 (by omega) hne
/-- a queue is set -/
theorem wf.q {n m : Nat} {A : sA} (w : wf m A) (l : List sFr) (h1 : l.length ≤ 4) (h2 : ∀ f ∈ l, wfF f) (h3 : A.1 11 n 0 = 0 → l = []) (h4 : ¬ A.1 23 n 0 = 0 → l ≠ []) (hm : m = 7 ∨ m = n) : wf n (uQ A n l) := by
  refine ⟨w.1, fun i hi => ?_⟩
  obtain ⟨a1, a2, a3, a4, a5⟩ := w.2 i hi
  unfold wfC
  rw [uQ_1, uQ_2]
  by_cases hin : i = n
  · subst hin
    rw [if_pos rfl]
    exact ⟨h1, h2, fun ha => ⟨h3 ha, (a3 ha).2⟩, h4, fun h => absurd rfl h⟩
  · rw [if_neg hin]
    exact ⟨a1, a2, a3, a4, fun _ => a5 (by omega)⟩
/-- a queue that is empty has no BUSY to look at -/
theorem wf.nil {n : Nat} {A : sA} (w : wf n A) (h : A.2 n = []) : wf 7 A := ⟨w.1, fun i hi => by
  obtain ⟨a1, a2, a3, a4, a5⟩ := w.2 i hi
  refine ⟨a1, a2, a3, a4, fun _ hne => ?_⟩
  by_cases hin : i = n
  · subst hin
    exact absurd h hne
  · exact a5 hin hne⟩
theorem wf.listens {m n : Nat} {A : sA} (w : wf m A) (v : Int32) (hb : bl v) (ha : A.1 11 n 0 = 0 → v = 0) (hv : ¬ v = 0 → A.2 n ≠ []) : wf m (uA A 23 n 0 v) := by
  refine ⟨wf1_set w.1 _ _ _ hb, fun i' hi' => ?_⟩
  have e : ∀ t', t' ≠ 23 → (uA A 23 n 0 v).1 t' i' 0 = A.1 t' i' 0 := fun t' h => by
    rw [uA_1, if_neg (fun q => h q.1)]
  obtain ⟨a1, a2, a3, a4, a5⟩ := w.2 i' hi'
  unfold wfC
  rw [e 11 (by decide), e 22 (by decide), e 17 (by decide), uA_2, uA_1]
  by_cases hi : i' = n
  · subst hi
    rw [if_pos ⟨rfl, rfl, rfl⟩]
    exact ⟨a1, a2, fun h => ⟨(a3 h).1, (a3 h).2.1, ha h⟩, hv, a5⟩
  · rw [if_neg (fun q => hi q.2.1)]
    exact ⟨a1, a2, a3, a4, a5⟩
theorem wf.owes {m n : Nat} {A : sA} (w : wf m A) (v : Int32) (hb : nod v) (ha : A.1 11 n 0 = 0 → v = -1) : wf m (uA A 22 n 0 v) := by
  refine ⟨wf1_set w.1 _ _ _ hb, fun i' hi' => ?_⟩
  have e : ∀ t', t' ≠ 22 → (uA A 22 n 0 v).1 t' i' 0 = A.1 t' i' 0 := fun t' h => by
    rw [uA_1, if_neg (fun q => h q.1)]
  obtain ⟨a1, a2, a3, a4, a5⟩ := w.2 i' hi'
  unfold wfC
  rw [e 11 (by decide), e 23 (by decide), e 17 (by decide), uA_2, uA_1]
  by_cases hi : i' = n
  · subst hi
    rw [if_pos ⟨rfl, rfl, rfl⟩]
    exact ⟨a1, a2, fun h => ⟨(a3 h).1, ha h, (a3 h).2.2⟩, a4, a5⟩
  · rw [if_neg (fun q => hi q.2.1)]
    exact ⟨a1, a2, a3, a4, a5⟩
/-- many places of one tag at once -/
theorem wf.many {m : Nat} {A B : sA} (w : wf m A) (t : Nat) (ht : wt t = true) (h1 : ∀ t', t' ≠ t → B.1 t' = A.1 t') (hW : ∀ i j, xV t i j = true → W1 t i j (B.1 t i j)) (h2 : B.2 = A.2) : wf m B := by
  refine ⟨fun t' i j hv => ?_, fun i hi => ?_⟩
  · by_cases e : t' = t
    · subst e
      exact hW i j hv
    · rw [h1 t' e]
      exact w.1 t' i j hv
  · obtain ⟨q1, q2, q3, q4⟩ := wt_1 ht
    have := w.2 i hi
    unfold wfC at this ⊢
    rw [h1 11 (Ne.symm q1), h1 22 (Ne.symm q2), h1 23 (Ne.symm q3), h1 17 (Ne.symm q4), h2]
    exact this
/-! what a step of node n leaves as it is; o: owes and listens too -/
def kt (t : Nat) : Bool := decide (9 ≤ t) && !([11, 19, 20, 21, 24, 35, 9, 22, 23, 10].contains t)
def km (t : Nat) : Bool := [2, 4, 5, 6, 7, 8].contains t
def kn (o : Bool) (t : Nat) : Bool := [11, 19, 20, 21, 24, 35, 9, 0, 1, 3].contains t || (o && (t == 22 || (t == 23 || t == 10)))
def kp (o : Bool) (n : Nat) (A B : sA) : Prop := (∀ t i j, kn o t = true ∨ (9 ≤ t ∧ i ≠ n) → B.1 t i j = A.1 t i j) ∧ ∀ i, i ≠ n → B.2 i = A.2 i
theorem kp.rf {o : Bool} (n : Nat) (A : sA) : kp o n A A := ⟨fun _ _ _ _ => rfl, fun _ _ => rfl⟩
theorem kp.tr {o : Bool} {n : Nat} {A B C : sA} (h : kp o n A B) (g : kp o n B C) : kp o n A C := ⟨fun t i j q => (g.1 t i j q).trans (h.1 t i j q), fun i q => (g.2 i q).trans (h.2 i q)⟩
theorem kt_1 : ∀ o : Bool, ∀ t, t < 36 → kt t = true → kn o t = false ∧ 9 ≤ t := by decide +kernel
theorem km_1 : ∀ o : Bool, ∀ t, t < 36 → km t = true → kn o t = false ∧ t < 9 := by decide +kernel
theorem kp.set {o : Bool} {n : Nat} {A B : sA} (h : kp o n A B) (t j : Nat) (v : Int32) (hk : kn o t = false) : kp o n A (uA B t n j v) := by
  refine ⟨fun t' i' j' q => ?_, h.2⟩
  rw [uA_1, if_neg]
  · exact h.1 t' i' j' q
  · rintro ⟨rfl, rfl, rfl⟩
    rcases q with q | q
    · rw [hk] at q
      cases q
    · exact q.2 rfl
theorem kp.s {o : Bool} {n : Nat} {A B : sA} (h : kp o n A B) (t j : Nat) (v : Int32) (hl : t < 36) (ht : kt t = true) : kp o n A (uA B t n j v) := h.set t j v (kt_1 o t hl ht).1
theorem kp.m {o : Bool} {n : Nat} {A B : sA} (h : kp o n A B) (t : Nat) (v : Int32) (hl : t < 36) (ht : km t = true) : kp o n A (uA B t 0 0 v) := by
  refine ⟨fun t' i' j' q => ?_, h.2⟩
  rw [uA_1, if_neg]
  · exact h.1 t' i' j' q
  · rintro ⟨rfl, rfl, rfl⟩
    have h1 := km_1 o _ hl ht
    rcases q with q | q
    · rw [h1.1] at q
      cases q
    · omega
theorem kp.q {o : Bool} {n : Nat} {A B : sA} (h : kp o n A B) (l : List sFr) : kp o n A (uQ B n l) := by
  refine ⟨h.1, fun i hi => ?_⟩
  rw [uQ_2, if_neg hi]
  exact h.2 i hi
theorem kp.many {o : Bool} {n : Nat} {A B : sA} (t : Nat) (hl : t < 36) (ht : kt t = true) (h1 : ∀ t' i j, (t' = t → i ≠ n) → B.1 t' i j = A.1 t' i j) (h2 : B.2 = A.2) : kp o n A B := by
  refine ⟨fun t' i j q => h1 t' i j (fun e => ?_), fun i _ => by rw [h2]⟩
  subst e
  rcases q with q | q
  · rw [(kt_1 o _ hl ht).1] at q
    cases q
  · exact q.2
theorem kp.less {o : Bool} {n : Nat} {A B : sA} (h : kp true n A B) : kp o n A B := ⟨fun t i j q => h.1 t i j (q.imp_left (fun e => by
  revert e
  cases o
  · intro e
    unfold kn at e ⊢
    rw [Bool.false_and, Bool.or_false] at e
    rw [e]
    rfl
  · exact id)), h.2⟩
