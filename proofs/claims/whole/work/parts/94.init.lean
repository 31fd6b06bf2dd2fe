/-! what holds as the law's loop begins -/
def aC (t i _j : Nat) : eC :=
  if t = 0 then .inl 0 else if t = 1 then .inl 1 else if t = 2 then .inl 2
  else if t = 9 then .inr (Int32.ofNat i) else if t = 11 then .inr 1
  else if t = 12 then (if i = 0 then .inr 1 else .inr 0) else if t = 13 then (if i = 0 then .inr 1 else .inr 255)
  else if t = 14 then .inr (-1) else if t = 15 then .inr 255 else if t = 21 then .inr (-1) else if t = 22 then .inr (-1) else if t = 24 then .inr (-1)
  else if t = 25 then (if i = 0 then .inr 1 else .inr 0) else if t = 26 then .inr 64 else if t = 31 then .inr (-1) else .inr 0
def aI (a r k : Int32) : sA := (fun t i j => ev a r k (aC t i j), fun _ => [])
def mC1 (q j : Nat) : eC := if q = 22 ∧ j = 0 then .inr 1 else if q = 11 ∧ j = 11 then .inr 1 else if q = 11 ∧ j = 10 then .inr 1 else mC q j
theorem mC1_a : ∀ t, t < 36 → ∀ i, i < 7 → ∀ j, j < 8 → xV t i j = true → mC1 (xA t i) (xS t j) = aC t i j := by decide +kernel
theorem mC1_s : ∀ i, i < 7 → mC1 (11 + 17 * i + 1) 1 = .inr 0 := by decide +kernel
def yC1 (q j : Nat) : eC := if q = 142 ∧ j = 0 then .inr 1 else yC 7 49 q j
theorem yC1_a : ∀ t, t < 36 → ∀ i, i < 7 → ∀ j, j < 8 → yV t i j = true → yC1 (yA t) (yS t i j) = aC t i j := by decide +kernel
theorem yC1_b : ∀ t, t < 36 → ∀ i, i < 7 → ∀ j, j < 8 → yV t i j = true → 130 ≤ yA t := by decide +kernel
section INIT
variable {L : Nat} {xs : Nat → Int32} {a r k : Int32} {σ : tm_S}
theorem mR_ev {q j : Nat} (hq : q ≠ 0) : (mR (mI L xs a r k)).1 q j = ev a r k (mC1 q j) := by
  simp only [mR, sI_1, mC1]
  by_cases h1 : q = 22 ∧ j = 0
  · rw [if_pos h1, if_pos h1]; rfl
  · rw [if_neg h1, if_neg h1]
    by_cases h2 : q = 11 ∧ j = 11
    · rw [if_pos h2, if_pos h2]; rfl
    · rw [if_neg h2, if_neg h2]
      by_cases h3 : q = 11 ∧ j = 10
      · rw [if_pos h3, if_pos h3]; rfl
      · rw [if_neg h3, if_neg h3]
        show (if q = 0 then _ else _) = _
        rw [if_neg hq]
theorem i_RX : RX (mR (mI L xs a r k)) (mR (mI L xs a r k)) (aI a r k) := by
  refine ⟨fun t i j hv => ?_, fun i hi => ⟨?_, tm_le rfl, fun m hm => ⟨m, hm, ?_⟩, fun m m' hm hm' he => ?_, fun m f hf => ?_⟩, fun q _ => ⟨rfl, rfl⟩⟩
  · rw [mR_ev (by have := (xA_lt hv).1; omega), mC1_a t (xV_1 hv).1 i (xV_1 hv).2.1 j (xV_1 hv).2.2 hv]
    rfl
  · rw [mR_ev (by omega), mC1_s i hi]
    rfl
  · show (if 11 + 17 * i + 1 + 1 = 0 then L else 11 + 17 * i + 1 + 1 + 1 + 2 * m) = 11 + 17 * i + 3 + 2 * m
    rw [if_neg (by omega)]
  · have he : (if 11 + 17 * i + 1 + 1 = 0 then L else 11 + 17 * i + 1 + 1 + 1 + 2 * m) = (if 11 + 17 * i + 1 + 1 = 0 then L else 11 + 17 * i + 1 + 1 + 1 + 2 * m') := he
    rw [if_neg (by omega), if_neg (by omega)] at he
    omega
  · cases hf
/-- the reference's state, before its root's timer is reset -/
def yR (σ : tm_S) (a r k : Int32) : tm_S := sI (yJ σ a r k 7 49) 142 0 1
theorem yR_ev {q j : Nat} (hq : 130 ≤ q) : (yR σ a r k).1 q j = ev a r k (yC1 q j) := by
  simp only [yR, sI_1, yC1]
  by_cases h1 : q = 142 ∧ j = 0
  · rw [if_pos h1, if_pos h1]; rfl
  · rw [if_neg h1, if_neg h1]
    show (if q < 130 then _ else _) = _
    rw [if_neg (by omega)]
theorem yR_lo {q : Nat} (hq : q < 130) : (yR σ a r k).1 q = σ.1 q := by
  funext j
  simp only [yR, sI_1]
  rw [if_neg (fun e => by omega)]
  show (if q < 130 then _ else _) = _
  rw [if_pos hq]
theorem i_RY : RY (yR σ a r k) 0 none (yR σ a r k) (aI a r k) := by
  refine ⟨fun t i j hv => ?_, fun i hi => Or.inr ⟨rfl, rfl⟩, fun i j hi hj => Or.inl ⟨rfl, rfl⟩, fun i hi => ⟨0, Nat.le_refl _, rfl, fun m _ hm => absurd hm (by omega)⟩, ⟨0, 0, Nat.le_refl _, Nat.le_refl _, rfl, rfl, fun s hs => (by cases hs), fun b x _ _ => ⟨0, 0, Nat.le_refl _, Nat.le_refl _, rfl, rfl⟩, fun x m f _ hf => (by cases hf), fun x m m' f f' _ _ hf => (by cases hf)⟩, ⟨fun i hi => ⟨rfl, tm_le rfl⟩, fun i m f _ hf => (by cases hf), fun i m i' m' _ _ hm => absurd hm (Nat.not_lt_zero _), fun s hs => Or.inl rfl, fun s hs => (by cases hs)⟩, fun q _ => rfl, rfl⟩
  rw [yR_ev (yC1_b t (xV_1 (yV_x hv)).1 i (xV_1 (yV_x hv)).2.1 j (xV_1 (yV_x hv)).2.2 hv), yC1_a t (xV_1 (yV_x hv)).1 i (xV_1 (yV_x hv)).2.1 j (xV_1 (yV_x hv)).2.2 hv]
  rfl
theorem i_wf : wf 7 (aI a r k) := by
  refine ⟨fun t i j hv => ?_, fun i hi => ⟨tm_le rfl, fun f hf => (List.not_mem_nil hf).elim, fun h => absurd h (show ¬ (1 : Int32) = 0 by decide), fun h => absurd rfl h, fun _ h => absurd rfl h⟩⟩
  show W1 t i j (ev a r k (aC t i j))
  unfold W1
  by_cases h9 : t = 9
  · subst h9; exact rfl
  rw [if_neg h9]
  by_cases h11 : t = 11
  · subst h11; exact ⟨Or.inr rfl, fun _ => rfl⟩
  rw [if_neg h11]
  by_cases h13 : t = 13
  · subst h13
    rw [if_pos rfl]
    by_cases h0 : i = 0
    · subst h0; exact ⟨⟨show (1 : Int32) ≤ 1 by decide, show (1 : Int32) ≤ 255 by decide⟩, fun _ => rfl⟩
    · have e : aC 13 i j = .inr 255 := by unfold aC; simp [h0]
      rw [e]
      exact ⟨⟨show (1 : Int32) ≤ 255 by decide, show (255 : Int32) ≤ 255 by decide⟩, fun h => absurd h h0⟩
  rw [if_neg h13]
  by_cases h14 : t = 14
  · subst h14; exact ⟨Or.inl rfl, fun _ => rfl⟩
  rw [if_neg h14]
  by_cases h15 : t = 15
  · subst h15; exact (show (255 : Int32) ≤ 255 by decide)
  rw [if_neg h15]
  by_cases h19 : t = 19
  · subst h19; exact Or.inl rfl
  rw [if_neg h19]
  by_cases h20 : t = 20
  · subst h20; exact Or.inl rfl
  rw [if_neg h20]
  by_cases h22 : t = 22
  · subst h22; exact Or.inl rfl
  rw [if_neg h22]
  by_cases h23 : t = 23
  · subst h23; exact Or.inl rfl
  rw [if_neg h23]
  by_cases h24 : t = 24
  · subst h24; exact Or.inl rfl
  rw [if_neg h24]
  by_cases h25 : t = 25
  · subst h25
    rw [if_pos rfl]
    by_cases h0 : i = 0
    · subst h0; exact ⟨Or.inr rfl, fun _ => rfl⟩
    · have e : aC 25 i j = .inr 0 := by unfold aC; simp [h0]
      rw [e]
      exact ⟨Or.inl rfl, fun h => absurd h h0⟩
  rw [if_neg h25]
  by_cases h26 : t = 26
  · subst h26; exact Or.inr (Or.inr (Or.inr (Or.inr rfl)))
  rw [if_neg h26]
  by_cases h30 : t = 30
  · subst h30; exact ⟨⟨show (0 : Int32) ≤ 0 by decide, show (0 : Int32) ≤ 255 by decide⟩, fun _ => rfl⟩
  rw [if_neg h30]
  by_cases h31 : t = 31
  · subst h31; exact ⟨Or.inl rfl, fun _ => rfl⟩
  rw [if_neg h31]
  by_cases h35 : t = 35
  · subst h35; exact ⟨⟨show (0 : Int32) ≤ 0 by decide, show (0 : Int32) ≤ 9 by decide⟩, fun _ => rfl⟩
  rw [if_neg h35]
  trivial
theorem RX.low {σ0 σ' : tm_S} {A : sA} (h : RX σ0 σ A) (h1 : ∀ q, 0 < q → q < 130 → σ'.1 q = σ.1 q) (h2 : σ'.2 = σ.2) : RX σ' σ' A := by
  refine ⟨fun t i j hv => ?_, fun i hi => (h.2.1 i hi).congr ?_ (fun m _ => ?_) (fun m hm => ?_), fun q _ => ⟨rfl, rfl⟩⟩
  · rw [h1 _ (xA_lt hv).1 (xA_lt hv).2]
    exact h.1 t i j hv
  · rw [h1 _ (by omega) (by omega)]
  · show σ'.2 _ _ = σ.2 _ _
    rw [h2]
  · have := xF_lt hi hm
    exact ⟨h1 _ this.1 (by omega), h1 _ (by omega) this.2⟩
theorem mReset_ne {A : sA} {n t i j : Nat} (ht : t = 19 ∨ t = 22 ∨ t = 23) : (mReset A n).1 t i j = A.1 t i j := by
  unfold mReset
  split
  · rfl
  · split
    · rfl
    · unfold mBegin dA
      rw [uA_ne (by omega), uA_ne (by omega), uA_ne (by omega), uA_ne (by omega), uA_ne (by omega)]
theorem i_all : ∃ σ1 σ2, f_X_resetTimer (mR (mI L xs a r k)) 11 = some σ1 ∧ f_Y_reset (sI (yJ σ1 a r k 7 49) 142 0 1) 0 = some σ2 ∧ σ2.2 0 0 = L ∧ lInv σ2 (mReset (aI a r k) 0) 0 := by
  obtain ⟨σ1, e1, r1⟩ := x_reset (i_RX (L := L) (xs := xs) (a := a) (r := r) (k := k)) (n := 0) (by omega)
  obtain ⟨σ2, e2, r2⟩ := y_reset (i_RY (σ := σ1) (a := a) (r := r) (k := k)) (n := 0) (by omega)
  have f2 := r2.2.2.2.2.2.2
  have p1 : σ2.2 = σ1.2 := f2.2
  have lo : ∀ q, q < 130 → σ2.1 q = σ1.1 q := fun q hq => (f2.1 q (by simp [fyo, hq])).trans (yR_lo hq)
  refine ⟨σ1, σ2, e1, e2, ?_, r1.low (fun q _ hq => lo q hq) p1, ⟨r2.1, r2.2.1, r2.2.2.1, r2.2.2.2.1, r2.2.2.2.2.1, r2.2.2.2.2.2.1, fun q _ => rfl, rfl⟩, ⟨w_Reset i_wf 0, fun i hi h => ?_⟩, fun i hi => ?_⟩
  · rw [p1, (r1.2.2 0 (Or.inl rfl)).2]
    rfl
  · rw [mReset_ne (by omega)]
    rfl
  · rw [mReset_ne (by omega), f2.1 169 (by decide)]
    rfl
end INIT
