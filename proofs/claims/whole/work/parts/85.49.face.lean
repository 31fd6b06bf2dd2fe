/-! the calls of the face -/
def mLink (A : sA) (a b : Nat) (c : Int32) : sA := uA (uA A 35 a b c) 35 b a c
def mKill (A : sA) (a : Nat) : sA := uA (uA (uQ (uA A 11 a 0 0) a []) 22 a 0 (-1)) 23 a 0 0
def mRepair (A : sA) : sA := mReset (uA A 12 0 0 (A.1 12 0 0 + 1)) 0
def mSent (A : sA) : sA := uA A 5 0 0 (A.1 5 0 0 + 1)
theorem iT_kp {n : Nat} {A B : sA} (h : iT A) (hk : kp true n A B) (w : wf 7 B) : iT B := by
  refine ⟨w, fun i hi hl => ?_⟩
  rw [hk.1 23 i 0 (Or.inl (by decide))] at hl
  rw [hk.1 22 i 0 (Or.inl (by decide))]
  exact h.2 i hi hl
theorem w_Link {A : sA} (h : iT A) {a b : Nat} (hab : a ≠ b) {c : Int32} (hc : 0 ≤ c ∧ c ≤ 9) : iT (mLink A a b c) :=
  ⟨(h.1.s 35 a b c ⟨hc, fun e => absurd e hab⟩ (by decide)).s 35 b a c ⟨hc, fun e => absurd e.symm hab⟩ (by decide), h.2⟩
theorem w_Kill {A : sA} (h : iT A) {a : Nat} (h0 : a ≠ 0) : iT (mKill A a) := by
  have w1 : ∀ t i j, xV t i j = true → W1 t i j ((mKill A a).1 t i j) := by
    refine wf1_set (A := uA (uQ (uA A 11 a 0 0) a []) 22 a 0 (-1)) (wf1_set (A := uQ (uA A 11 a 0 0) a []) ?_ 22 a 0 (Or.inl rfl)) 23 a 0 (Or.inl rfl)
    exact wf1_set h.1.1 11 a 0 ⟨Or.inl rfl, fun e => absurd e h0⟩
  have eo : ∀ t i j, i ≠ a → (mKill A a).1 t i j = A.1 t i j := fun t i j hi => by
    unfold mKill
    rw [uA_no hi, uA_no hi, uQ_1, uA_no hi]
  have e2 : ∀ i, i ≠ a → (mKill A a).2 i = A.2 i := fun i hi => by
    show (if i = a then _ else _) = _
    rw [if_neg hi]
    rfl
  have el : (mKill A a).1 23 a 0 = 0 := uA_eq
  have eq : (mKill A a).2 a = [] := by
    show (if a = a then _ else _) = _
    rw [if_pos rfl]
  have ew : (mKill A a).1 22 a 0 = -1 := by
    unfold mKill
    rw [uA_ne (by decide), uA_eq]
  refine ⟨⟨w1, fun i hi => ?_⟩, fun i hi hl => ?_⟩
  · by_cases hia : i = a
    · subst hia
      unfold wfC
      rw [eq, el, ew]
      exact ⟨by simp, fun f hf => (by cases hf), fun _ => ⟨rfl, rfl, rfl⟩, fun q => absurd rfl q, fun _ q => absurd rfl q⟩
    · have := h.1.2 i hi
      unfold wfC at this ⊢
      rw [eo _ _ _ hia, eo _ _ _ hia, eo _ _ _ hia, eo _ _ _ hia, e2 i hia]
      exact this
  · by_cases hia : i = a
    · subst hia
      exact absurd el hl
    · rw [eo _ _ _ hia] at hl
      rw [eo _ _ _ hia]
      exact h.2 i hi hl
theorem w_Repair {A : sA} (h : iT A) : iT (mRepair A) := by
  have w1 : wf 7 (uA A 12 0 0 (A.1 12 0 0 + 1)) := h.1.s 12 0 0 _ trivial (by decide)
  exact iT_kp (n := 0) h (((kp.rf 0 A).s 12 0 _ (by decide) (by decide)).tr (k_Reset _ 0)) (w_Reset w1 0)
theorem w_SendF {A : sA} (h : iT A) {a : Nat} (ha : a < 7) {g hh v : Int32} (hg : nds g) (h1 : 1 ≤ hh) (hal : ¬ A.1 11 a 0 = 0) : iT (mSend (mSent A) a (nX a) g hh v 0) := by
  have w1 : wf 7 (mSent A) := h.1.s 5 0 0 _ trivial (by decide)
  exact iT_kp (n := a) h (((kp.rf a A).m 5 _ (by decide) (by decide)).tr (k_Send _ a _ _ _ _ _)) (w_Send w1 ha hg h1 (Or.inl rfl) hal)
theorem w_Ticks : ∀ (k : Nat) {A : sA}, iT A → iT (mTicks k A)
  | 0, _, h => h
  | k + 1, _, h => w_Ticks k (t_7 h)
/-- how many values arrived: one more a step at most -/
theorem arr_RecV (A : sA) (n x : Nat) (f : sFr) (i : Nat) : (mRecV A n x f).1 10 i 0 = A.1 10 i 0 ∨ (i = n ∧ (mRecV A n x f).1 10 i 0 = A.1 10 n 0 + 1) := by
  unfold mRecV
  split
  · exact Or.inl (((k_Drop (kp.rf (o := true) n A)).tr (k_Reset _ n)).1 10 i 0 (Or.inl (by decide)))
  · split
    · unfold mDeliver
      by_cases hi : i = n
      · subst hi
        exact Or.inr ⟨rfl, by rw [uA_ne (by decide), uA_eq]⟩
      · exact Or.inl (by rw [uA_ne (by decide), uA_no hi, uA_ne (by decide)])
    · split
      · exact Or.inl ((k_Drop (kp.rf (o := true) n A)).1 10 i 0 (Or.inl (by decide)))
      · exact Or.inl ((k_Send (o := true) A n _ _ _ _ _).1 10 i 0 (Or.inl (by decide)))
theorem arr_Tk (A : sA) (n x i : Nat) : (mTk A n x).1 10 i 0 = A.1 10 i 0 ∨ (i = n ∧ (mTk A n x).1 10 i 0 = A.1 10 n 0 + 1) := by
  unfold mTk
  split
  · refine Or.inl ?_
    unfold mAck
    split
    · rw [(k_Pop (o := true) _ n).1 10 i 0 (Or.inl (by decide)), uA_ne (by decide)]
    · rfl
  · split
    · exact Or.inl ((k_Sol (o := true) A n).1 10 i 0 (Or.inl (by decide)))
    · split
      · exact Or.inl ((k_Advert (o := true) A n x).1 10 i 0 (Or.inl (by decide)))
      · split
        · unfold mOwn
          split
          · exact Or.inl (by rw [uA_ne (by decide)])
          · split
            · exact Or.inl (by rw [(k_RecA (o := true) _ n x _).1 10 i 0 (Or.inl (by decide)), uA_ne (by decide), uA_ne (by decide)])
            · have h := arr_RecV (uA (uA A 22 n 0 (nX x)) 33 n x (fr0 A x 2)) n x (fr0 A x) i
              rw [uA_ne (by decide), uA_ne (by decide), uA_ne (by decide), uA_ne (by decide)] at h
              exact h
        · exact Or.inl rfl
def aB (K : Nat) (A : sA) : Prop := ∀ i, i < 7 → ∃ b, b ≤ K ∧ A.1 10 i 0 = Int32.ofNat b
theorem aB_eq {K : Nat} {A B : sA} (h : aB K A) (e : ∀ i, B.1 10 i 0 = A.1 10 i 0) : aB K B := fun i hi => by
  rw [e]
  exact h i hi
theorem aB_kp {K n : Nat} {A B : sA} (h : aB K A) (hk : kp true n A B) : aB K B := aB_eq h (fun i => hk.1 10 i 0 (Or.inl (by decide)))
theorem aB_Tk {K : Nat} {A : sA} (h : aB K A) (n x : Nat) : aB (K + 1) (mTk A n x) := fun i hi => by
  rcases arr_Tk A n x i with e | ⟨rfl, e⟩
  · rw [e]
    obtain ⟨b, h1, h2⟩ := h i hi
    exact ⟨b, by omega, h2⟩
  · rw [e]
    obtain ⟨b, h1, h2⟩ := h i hi
    exact ⟨b + 1, by omega, by rw [h2, Int32.ofNat_add]; rfl⟩
theorem aB_Take {K : Nat} {A : sA} (h : aB K A) (n : Nat) : aB (K + 1) (mTake A n) := by
  unfold mTake
  split
  · exact fun i hi => by
      obtain ⟨b, h1, h2⟩ := h i hi
      exact ⟨b, by omega, h2⟩
  · exact aB_Tk h n _
