/-! a tick's steps, as the reference sees them -/
theorem spk_congr {A B : sA} {n : Nat} (h1 : ∀ b, B.1 35 n b = A.1 35 n b) (h2 : ∀ b, B.1 19 b 0 = A.1 19 b 0) : ∀ (c b : Nat) (x : Int32), sSpk B n c b x = sSpk A n c b x
  | 0, _, _ => rfl
  | c + 1, b, x => by
    unfold sSpk
    rw [h1, h2, spk_congr h1 h2 c (b + 1) (nX b), spk_congr h1 h2 c (b + 1) x]
def hv (A : sA) (i : Nat) : Prop := A.1 24 i 0 = if ¬ A.1 11 i 0 = 0 ∧ A.1 19 i 0 = 0 then sSpk A i 7 0 (-1) else -1
theorem hv_kp {n i : Nat} {A B : sA} (hk : kp false n A B) (h : hv A i) : hv B i := by
  unfold hv at h ⊢
  rw [hk.1 24 i 0 (Or.inl (by decide)), hk.1 11 i 0 (Or.inl (by decide)), hk.1 19 i 0 (Or.inl (by decide)), spk_congr (fun b => hk.1 35 i b (Or.inl (by decide))) (fun b => hk.1 19 b 0 (Or.inl (by decide)))]
  exact h
theorem hv_Hear (n : Nat) (A : sA) (_ : n < 7) (h : ∀ i, i < n → hv A i) : ∀ i, i < n + 1 → hv (mHear A n) i := by
  intro i hi
  have e : ∀ t i' j, t ≠ 24 → (mHear A n).1 t i' j = A.1 t i' j := fun t i' j ht => uA_ne ht
  unfold hv
  rw [e 11 i 0 (by decide), e 19 i 0 (by decide), spk_congr (fun b => e 35 i b (by decide)) (fun b => e 19 b 0 (by decide))]
  by_cases hin : i = n
  · subst hin
    exact uA_eq
  · have : (mHear A n).1 24 i 0 = A.1 24 i 0 := uA_no hin
    rw [this]
    exact h i (by omega)
theorem hv_3 (A : sA) : ∀ i, i < 7 → hv (tA3 A) i := lp_inv (I := fun n B => ∀ i, i < n → hv B i) hv_Hear 7 0 (tA2 A) (by omega) (fun i hi => absurd hi (by omega))
/-- rememberTheAir at once -/
def rmI (A : sA) (n : Nat) (B : sA) : Prop := (∀ i, i < 7 → (i < n → B.1 20 i 0 = (if A.1 19 i 0 = 0 then 0 else 1) ∧ B.1 19 i 0 = 0) ∧ (n ≤ i → B.1 19 i 0 = A.1 19 i 0)) ∧ (∀ t, t ≠ 19 → t ≠ 20 → B.1 t = A.1 t) ∧ B.2 = A.2
theorem rm_1 (A : sA) : rmI A 7 (lp mRem 7 0 A) := by
  refine lp_inv (I := rmI A) ?_ 7 0 A (by omega) ⟨fun i hi => ⟨fun q => absurd q (by omega), fun _ => rfl⟩, fun _ _ _ => rfl, rfl⟩
  intro n B hn h
  obtain ⟨h1, h2, h3⟩ := h
  have ew : ∀ i, i ≠ n → (mRem B n).1 20 i 0 = B.1 20 i 0 := fun i hi => by
    unfold mRem
    rw [uA_no hi, uA_no hi]
  have ea : ∀ i, i ≠ n → (mRem B n).1 19 i 0 = B.1 19 i 0 := fun i hi => by
    unfold mRem
    rw [uA_no hi, uA_no hi]
  refine ⟨fun i hi => ⟨fun q => ?_, fun q => ?_⟩, fun t t1 t2 => ?_, h3⟩
  · by_cases hin : i = n
    · subst hin
      unfold mRem
      rw [uA_eq, uA_ne (by decide), uA_eq, (h1 i hi).2 (Nat.le_refl _)]
      exact ⟨rfl, rfl⟩
    · rw [ew i hin, ea i hin]
      exact (h1 i hi).1 (by omega)
  · rw [ea i (by omega)]
    exact (h1 i hi).2 (by omega)
  · rw [← h2 t t1 t2]
    funext i j
    unfold mRem
    rw [uA_ne t1, uA_ne t2]
/-- hearTheAir changes nothing else -/
theorem hr_1 (A : sA) : (∀ t, t ≠ 24 → (lp mHear 7 0 A).1 t = A.1 t) ∧ (lp mHear 7 0 A).2 = A.2 := by
  refine lp_inv (I := fun _ B => (∀ t, t ≠ 24 → B.1 t = A.1 t) ∧ B.2 = A.2) ?_ 7 0 A (by omega) ⟨fun _ _ => rfl, rfl⟩
  intro n B _ h
  refine ⟨fun t ht => ?_, h.2⟩
  rw [← h.1 t ht]
  funext i j
  exact uA_ne ht
