/-! the mesh's nodes, its root, its contract -/
/-- a value that may be one of the three numbers given -/
abbrev eC : Type := Nat ⊕ Int32
def ev (a r k : Int32) (c : eC) : Int32 := match c with
  | .inl 0 => r
  | .inl 1 => k
  | .inl _ => a
  | .inr v => v
def clR (r : Int32) : Int32 := if (0 : Int32) < (if r < (200 : Int32) then r else (200 : Int32)) then (if r < (200 : Int32) then r else (200 : Int32)) else (0 : Int32)
def clK (k : Int32) : Int32 := if (1 : Int32) < (if k < (9 : Int32) then k else (9 : Int32)) then (if k < (9 : Int32) then k else (9 : Int32)) else (1 : Int32)
/-- a node's cell o at slot j -/
def mW (o : Nat) (v : Int32) (j : Nat) : Int32 :=
  if o = 0 then (if j = 0 then v else if j = 9 then 1 else if j = 11 then 255 else if j = 12 then -1 else if j = 13 then 255 else 0)
  else if o = 1 then (if j = 7 then -1 else if j = 8 then -1 else if j = 10 then -1 else 0)
  else if o = 3 then (if j = 2 then -1 else 0)
  else if o = 5 then (if j = 2 then -1 else 0)
  else if o = 7 then (if j = 2 then -1 else 0)
  else if o = 9 then (if j = 2 then -1 else 0)
  else if o = 11 then (if j = 1 then 64 else 0)
  else if o = 13 then (if j < 7 then -1 else 0)
  else 0
def mC (q j : Nat) : eC := if q = 1 then (if j = 0 then .inl 0 else if j = 1 then .inl 1 else if j = 4 then .inl 2 else .inr 0) else if q < 11 then .inr 0 else if q < 130 then .inr (mW ((q - 11) % 17) (Int32.ofNat ((q - 11) / 17)) j) else .inr 0
/-- the state that the nodes' making leaves -/
def mI (L : Nat) (xs : Nat → Int32) (a r k : Int32) : tm_S := (fun q j => if q = 0 then xs j else ev a r k (mC q j), fun q j => if q = 0 then L else q + 1 + 2 * j)
def hm (σ : tm_S) (k : Nat) : Nat → tv_C := fun q => if q = 2 then .inl (2, (7, .inr (.inr (.inr (.inr (fun j => if j < k then some (11 + 17 * j) else none)))))) else hp σ q
theorem hm_ne {σ : tm_S} {k q : Nat} (h : q ≠ 2) : hm σ k q = hp σ q := by unfold hm; rw [if_neg h]
theorem hm_2 {σ : tm_S} {k : Nat} : hm σ k 2 = .inl (2, (7, .inr (.inr (.inr (.inr (fun j => if j < k then some (11 + 17 * j) else none)))))) := by unfold hm; rw [if_pos rfl]
theorem hx_one {h : Nat → tv_C} {b : Nat} {c : tv_C} : ∀ q, q ≤ b + 1 → va_up h (b + 1) c q = hx h b [c] q := by
  intro q hq
  by_cases he : q = b + 1
  · subst he
    rw [va_up_self]
    exact (hx_at (i := 0) rfl).symm
  · rw [va_up_ne _ _ he, hx_lo (by omega)]
section MESH
variable {L : Nat} {xs : Nat → Int32} {a r k : Int32}
set_option maxHeartbeats 4000000 in
theorem mI_0 {h : Nat → tv_C} {r0 k0 : Int32} (h0 : h 0 = .inl (0, (L, .inl xs))) : ∀ q, q ≤ 0 + 10 → hx h 0 (kL_Xa 0 a r0 k0) q = hm (mI L xs a (clR r0) (clK k0)) 0 q := by
  intro q hq
  rw [Nat.zero_add] at hq
  match q, hq with
  | 0, _ => rw [hx_lo (Nat.le_refl _), h0]; rfl
  | 1, _ => rfl
  | 2, _ => rfl
  | 3, _ =>
    rw [hm_ne (by decide)]
    refine (hx_at (i := 2) rfl).trans ?_
    show _ = tm_c (kd 3) 3 _ _
    rw [kd_3]
    show (Sum.inl (4, (7, .inr (.inr (.inr (.inr (fun j => some (0 + 4 + j))))))) : tv_C) = Sum.inl (4, (7, .inr (.inr (.inr (.inr (fun j => some (4 + j)))))))
    rfl
  | 4, _ => rfl
  | 5, _ => rfl
  | 6, _ => rfl
  | 7, _ => rfl
  | 8, _ => rfl
  | 9, _ => rfl
  | 10, _ => rfl
  | q + 11, hq => exact absurd hq (by omega)
theorem nd_0 : ∀ j, j < 17 → (kL_N 10 (Int32.ofNat 0))[j]? = some (hp (mI L xs a r k) (10 + (j + 1))) := fun j hj => match j, hj with
  | 0, _ => rfl
  | 1, _ => rfl
  | 2, _ => rfl
  | 3, _ => rfl
  | 4, _ => rfl
  | 5, _ => rfl
  | 6, _ => rfl
  | 7, _ => rfl
  | 8, _ => rfl
  | 9, _ => rfl
  | 10, _ => rfl
  | 11, _ => rfl
  | 12, _ => rfl
  | 13, _ => rfl
  | 14, _ => rfl
  | 15, _ => rfl
  | 16, _ => rfl
  | j + 17, hj => absurd hj (by omega)
theorem nd_1 : ∀ j, j < 17 → (kL_N 27 (Int32.ofNat 1))[j]? = some (hp (mI L xs a r k) (27 + (j + 1))) := fun j hj => match j, hj with
  | 0, _ => rfl
  | 1, _ => rfl
  | 2, _ => rfl
  | 3, _ => rfl
  | 4, _ => rfl
  | 5, _ => rfl
  | 6, _ => rfl
  | 7, _ => rfl
  | 8, _ => rfl
  | 9, _ => rfl
  | 10, _ => rfl
  | 11, _ => rfl
  | 12, _ => rfl
  | 13, _ => rfl
  | 14, _ => rfl
  | 15, _ => rfl
  | 16, _ => rfl
  | j + 17, hj => absurd hj (by omega)
theorem nd_2 : ∀ j, j < 17 → (kL_N 44 (Int32.ofNat 2))[j]? = some (hp (mI L xs a r k) (44 + (j + 1))) := fun j hj => match j, hj with
  | 0, _ => rfl
  | 1, _ => rfl
  | 2, _ => rfl
  | 3, _ => rfl
  | 4, _ => rfl
  | 5, _ => rfl
  | 6, _ => rfl
  | 7, _ => rfl
  | 8, _ => rfl
  | 9, _ => rfl
  | 10, _ => rfl
  | 11, _ => rfl
  | 12, _ => rfl
  | 13, _ => rfl
  | 14, _ => rfl
  | 15, _ => rfl
  | 16, _ => rfl
  | j + 17, hj => absurd hj (by omega)
theorem nd_3 : ∀ j, j < 17 → (kL_N 61 (Int32.ofNat 3))[j]? = some (hp (mI L xs a r k) (61 + (j + 1))) := fun j hj => match j, hj with
  | 0, _ => rfl
  | 1, _ => rfl
  | 2, _ => rfl
  | 3, _ => rfl
  | 4, _ => rfl
  | 5, _ => rfl
  | 6, _ => rfl
  | 7, _ => rfl
  | 8, _ => rfl
  | 9, _ => rfl
  | 10, _ => rfl
  | 11, _ => rfl
  | 12, _ => rfl
  | 13, _ => rfl
  | 14, _ => rfl
  | 15, _ => rfl
  | 16, _ => rfl
  | j + 17, hj => absurd hj (by omega)
theorem nd_4 : ∀ j, j < 17 → (kL_N 78 (Int32.ofNat 4))[j]? = some (hp (mI L xs a r k) (78 + (j + 1))) := fun j hj => match j, hj with
  | 0, _ => rfl
  | 1, _ => rfl
  | 2, _ => rfl
  | 3, _ => rfl
  | 4, _ => rfl
  | 5, _ => rfl
  | 6, _ => rfl
  | 7, _ => rfl
  | 8, _ => rfl
  | 9, _ => rfl
  | 10, _ => rfl
  | 11, _ => rfl
  | 12, _ => rfl
  | 13, _ => rfl
  | 14, _ => rfl
  | 15, _ => rfl
  | 16, _ => rfl
  | j + 17, hj => absurd hj (by omega)
theorem nd_5 : ∀ j, j < 17 → (kL_N 95 (Int32.ofNat 5))[j]? = some (hp (mI L xs a r k) (95 + (j + 1))) := fun j hj => match j, hj with
  | 0, _ => rfl
  | 1, _ => rfl
  | 2, _ => rfl
  | 3, _ => rfl
  | 4, _ => rfl
  | 5, _ => rfl
  | 6, _ => rfl
  | 7, _ => rfl
  | 8, _ => rfl
  | 9, _ => rfl
  | 10, _ => rfl
  | 11, _ => rfl
  | 12, _ => rfl
  | 13, _ => rfl
  | 14, _ => rfl
  | 15, _ => rfl
  | 16, _ => rfl
  | j + 17, hj => absurd hj (by omega)
theorem nd_6 : ∀ j, j < 17 → (kL_N 112 (Int32.ofNat 6))[j]? = some (hp (mI L xs a r k) (112 + (j + 1))) := fun j hj => match j, hj with
  | 0, _ => rfl
  | 1, _ => rfl
  | 2, _ => rfl
  | 3, _ => rfl
  | 4, _ => rfl
  | 5, _ => rfl
  | 6, _ => rfl
  | 7, _ => rfl
  | 8, _ => rfl
  | 9, _ => rfl
  | 10, _ => rfl
  | 11, _ => rfl
  | 12, _ => rfl
  | 13, _ => rfl
  | 14, _ => rfl
  | 15, _ => rfl
  | 16, _ => rfl
  | j + 17, hj => absurd hj (by omega)
theorem nd_at : ∀ m, m < 7 → ∀ j, j < 17 → (kL_N (10 + 17 * m) (Int32.ofNat m))[j]? = some (hp (mI L xs a r k) (10 + 17 * m + (j + 1))) := fun m hm => match m, hm with
  | 0, _ => nd_0
  | 1, _ => nd_1
  | 2, _ => nd_2
  | 3, _ => nd_3
  | 4, _ => nd_4
  | 5, _ => nd_5
  | 6, _ => nd_6
  | m + 7, hm => absurd hm (by omega)
theorem nd_up {m : Nat} (hm7 : m < 7) : ∀ q, q ≤ 10 + 17 * m + 17 → va_up (hx (hm (mI L xs a r k) m) (10 + 17 * m) (kL_N (10 + 17 * m) (Int32.ofNat m))) 2 (.inl (2, (7, .inr (.inr (.inr (.inr (va_up (fun j => if j < m then some (11 + 17 * j) else none) m (some (10 + 17 * m + 1))))))))) q = hm (mI L xs a r k) (m + 1) q := by
  intro q hq
  by_cases h2 : q = 2
  · subst h2
    rw [va_up_self, hm_2]
    refine congrArg (fun f => (Sum.inl (2, (7, .inr (.inr (.inr (.inr f))))) : tv_C)) ?_
    funext j
    rcases Nat.lt_trichotomy j m with hj | rfl | hj
    · rw [va_up_ne _ _ (by omega), if_pos hj, if_pos (by omega)]
    · rw [va_up_self, if_pos (by omega)]
      exact congrArg some (by omega)
    · rw [va_up_ne _ _ (by omega), if_neg (by omega), if_neg (by omega)]
  · rw [va_up_ne _ _ h2, hm_ne h2]
    by_cases hb : q ≤ 10 + 17 * m
    · rw [hx_lo hb, hm_ne h2]
    · obtain ⟨j, rfl⟩ : ∃ j, q = 10 + 17 * m + (j + 1) := ⟨q - (10 + 17 * m) - 1, by omega⟩
      exact hx_at (nd_at m hm7 j (by omega))
end MESH
