/-! the steps of a tick: what holds between them -/
theorem lp_inv {f : sA → Nat → sA} {I : Nat → sA → Prop} (hs : ∀ n A, n < 7 → I n A → I (n + 1) (f A n)) : ∀ (c n : Nat) (A : sA), n + c = 7 → I n A → I 7 (lp f c n A)
  | 0, n, A, hn, h => by
    obtain rfl : n = 7 := hn
    exact h
  | c + 1, n, A, hn, h => lp_inv hs c (n + 1) (f A n) (by omega) (hs n A (by omega) h)
/-- a node on the air with a frame has one, doesn't listen and owes nothing -/
def pA (A : sA) (n : Nat) : Prop := ∀ i, n ≤ i → i < 7 → A.1 19 i 0 = 2 → A.2 i ≠ [] ∧ A.1 23 i 0 = 0 ∧ A.1 22 i 0 = -1
/-- what node i hears comes from another one on the air -/
def pH (A : sA) (i : Nat) : Prop := ¬ A.1 24 i 0 = -1 → (∃ x, x < 7 ∧ x ≠ i ∧ A.1 24 i 0 = nX x ∧ ¬ A.1 19 x 0 = 0) ∧ ¬ A.1 11 i 0 = 0 ∧ A.1 19 i 0 = 0
/-- between ticks: who listens owes nothing -/
def pT (A : sA) : Prop := ∀ i, i < 7 → ¬ A.1 23 i 0 = 0 → A.1 22 i 0 = -1
def iRem (n : Nat) (A : sA) : Prop := wf 7 A ∧ pT A ∧ ∀ i, i < n → A.1 19 i 0 = 0
def iAir (n : Nat) (A : sA) : Prop := wf 7 A ∧ (∀ i, n ≤ i → i < 7 → A.1 19 i 0 = 0 ∧ (¬ A.1 23 i 0 = 0 → A.1 22 i 0 = -1)) ∧ pA A 0 ∧ ∀ i, i < 7 → ¬ A.1 23 i 0 = 0 → A.1 19 i 0 = 0
def iHear (n : Nat) (A : sA) : Prop := wf 7 A ∧ pA A 0 ∧ (∀ i, i < 7 → ¬ A.1 23 i 0 = 0 → A.1 19 i 0 = 0) ∧ ∀ i, i < n → pH A i
def iTake (_ : Nat) (A : sA) : Prop := iHear 7 A
def iSet (n : Nat) (A : sA) : Prop := wf 7 A ∧ pA A n ∧ ∀ i, i < 7 → ¬ A.1 23 i 0 = 0 → A.1 19 i 0 = 0 ∨ (A.1 19 i 0 = 2 ∧ A.1 22 i 0 = -1)
def iLis (n : Nat) (A : sA) : Prop := wf 7 A ∧ (∀ i, i < 7 → ¬ A.1 23 i 0 = 0 → A.1 19 i 0 = 0 ∨ (A.1 19 i 0 = 2 ∧ A.1 22 i 0 = -1)) ∧ ∀ i, i < n → ¬ A.1 23 i 0 = 0 → A.1 22 i 0 = -1
def iLater (_ : Nat) (A : sA) : Prop := wf 7 A ∧ pT A
theorem s_Rem (n : Nat) (A : sA) (hn : n < 7) (h : iRem n A) : iRem (n + 1) (mRem A n) := by
  obtain ⟨w, ht, hz⟩ := h
  refine ⟨(w.s 20 n 0 _ bl_if (by decide)).s 19 n 0 0 (Or.inl rfl) (by decide), ht, fun i hi => ?_⟩
  unfold mRem
  by_cases e : i = n
  · subst e
    exact uA_eq
  · rw [uA_no e, uA_ne (by decide)]
    exact hz i (by omega)
theorem wf_alive {m : Nat} {A : sA} (w : wf m A) {n : Nat} (hn : n < 7) (h : A.2 n ≠ [] ∨ ¬ A.1 22 n 0 = -1 ∨ ¬ A.1 23 n 0 = 0) : ¬ A.1 11 n 0 = 0 := by
  intro e
  obtain ⟨h1, h2, h3⟩ := (w.2 n hn).2.2.1 e
  rcases h with h | h | h
  · exact h h1
  · exact h h2
  · exact h h3
/-- a step of node n that keeps the air, owes and listens -/
theorem iAir_kp {n : Nat} {A B : sA} (hn : n < 7) (h : iAir n A) (hk : kp true n A B) (w : wf 7 B) : iAir (n + 1) B := by
  obtain ⟨-, hz, hp, hl⟩ := h
  have e : ∀ i, B.1 19 i 0 = A.1 19 i 0 := fun i => hk.1 _ _ _ (Or.inl (by decide))
  have e1 : ∀ i, B.1 23 i 0 = A.1 23 i 0 := fun i => hk.1 _ _ _ (Or.inl (by decide))
  have e2 : ∀ i, B.1 22 i 0 = A.1 22 i 0 := fun i => hk.1 _ _ _ (Or.inl (by decide))
  refine ⟨w, fun i h1 h2 => ?_, fun i _ h2 h3 => ?_, fun i h2 h3 => ?_⟩
  · rw [e, e1, e2]
    exact hz i (by omega) h2
  · rw [e] at h3
    have hin : i ≠ n := by
      intro q
      rw [(hz i (by omega) h2).1] at h3
      exact absurd h3 (by decide)
    rw [hk.2 i hin, e1, e2]
    exact hp i (Nat.zero_le _) h2 h3
  · rw [e1] at h3
    rw [e]
    exact hl i h2 h3
theorem Bz_wf {n : Nat} {A : sA} (w : wf 7 A) : wf n (mBz A n) := w.busyX _
theorem i_inc_a : ∀ k : Nat, k < 5 → ¬ (Int32.ofNat k + 1 = 5) → 0 ≤ Int32.ofNat k + 1 ∧ Int32.ofNat k + 1 ≤ 4 := by decide
theorem i_five {b : Int32} (h1 : 0 ≤ b) (h2 : b ≤ 4) : ∃ k, k < 5 ∧ b = Int32.ofNat k := by
  have z0 : (0 : Int32).toInt = 0 := by decide
  have z4 : (4 : Int32).toInt = 4 := by decide
  have g1 := i_le.mp h1
  have g2 := i_le.mp h2
  refine ⟨b.toInt.toNat, by omega, ?_⟩
  apply Int32.toInt_inj.mp
  rw [Int32.toInt_ofNat_of_lt (by omega)]
  omega
theorem s_Air (n : Nat) (A : sA) (hn : n < 7) (h : iAir n A) : iAir (n + 1) (mAir A n) := by
  obtain ⟨w, hz, hp, hl⟩ := id h
  unfold mAir
  split
  · rename_i ho
    have ha := wf_alive w hn (Or.inr (Or.inl ho))
    have hls : A.1 23 n 0 = 0 := by
      apply Classical.byContradiction
      intro q
      exact ho ((hz n (Nat.le_refl _) hn).2 q)
    refine ⟨((w.s 19 n 0 1 (Or.inr (Or.inl rfl)) (by decide)).s 21 n 0 _ trivial (by decide)).owes _ (Or.inl rfl) (fun _ => rfl), fun i h1 h2 => ?_, fun i _ h2 h3 => ?_, fun i h2 h3 => ?_⟩
    · have hin : i ≠ n := by omega
      simp only [uA_no hin]
      exact hz i (by omega) h2
    · by_cases hin : i = n
      · subst hin
        rw [uA_ne (by decide), uA_ne (by decide), uA_eq] at h3
        exact absurd h3 (by decide)
      · simp only [uA_no hin] at h3
        simp only [uA_no hin]
        exact hp i (Nat.zero_le _) h2 h3
    · by_cases hin : i = n
      · subst hin
        rw [uA_ne (by decide), uA_ne (by decide), uA_ne (by decide)] at h3
        exact absurd hls h3
      · simp only [uA_no hin] at h3 ⊢
        exact hl i h2 h3
  · rename_i ho
    split
    · exact iAir_kp hn h (kp.rf n A) w
    · rename_i hq
      have hls : A.1 23 n 0 = 0 := Classical.byContradiction fun q => hq (Or.inl q)
      have hne : A.2 n ≠ [] := fun q => hq (Or.inr (by rw [q]; rfl))
      have ha := wf_alive w hn (Or.inl hne)
      split
      · exact iAir_kp hn h ((kp.rf n A).s 16 0 _ (by decide) (by decide)) (w.s 16 n 0 _ trivial (by decide))
      · split
        · have eN : ∀ t i j, t ≠ 19 → t ≠ 8 → (uA (uA A 19 n 0 2) 8 0 0 (A.1 8 0 0 + 1)).1 t i j = A.1 t i j := fun t i j t1 t2 => by rw [uA_ne t2, uA_ne t1]
          have eA : ∀ i, i ≠ n → (uA (uA A 19 n 0 2) 8 0 0 (A.1 8 0 0 + 1)).1 19 i 0 = A.1 19 i 0 := fun i hi => by rw [uA_ne (by decide), uA_no hi]
          refine ⟨(w.s 19 n 0 2 (Or.inr (Or.inr rfl)) (by decide)).s 8 0 0 _ trivial (by decide), fun i h1 h2 => ?_, fun i _ h2 h3 => ?_, fun i h2 h3 => ?_⟩
          · rw [eA i (by omega), eN 23 i 0 (by decide) (by decide), eN 22 i 0 (by decide) (by decide)]
            exact hz i (by omega) h2
          · rw [eN 23 i 0 (by decide) (by decide), eN 22 i 0 (by decide) (by decide)]
            by_cases hin : i = n
            · subst hin
              exact ⟨hne, hls, Classical.byContradiction ho⟩
            · rw [eA i hin] at h3
              exact hp i (Nat.zero_le _) h2 h3
          · rw [eN 23 i 0 (by decide) (by decide)] at h3
            by_cases hin : i = n
            · subst hin
              exact absurd hls h3
            · rw [eA i hin]
              exact hl i h2 h3
        · have kB : kp true n A (mBz A n) := (kp.rf n A).s 17 0 _ (by decide) (by decide)
          split
          · refine iAir_kp hn h (kB.tr (k_Fail _ n)) (w_Fail (Bz_wf w) hn ?_ hne ?_)
            · exact hls
            · exact ha
          · rename_i hb5
            have hb := (w.2 n hn).2.2.2.2 (by omega) hne
            obtain ⟨k, hk5, hk⟩ := i_five hb.1 hb.2
            have hb5' : ¬ A.1 17 n 0 + 1 = 5 := by
              intro q
              apply hb5
              unfold mBz
              rw [uA_eq]
              exact q
            rw [hk] at hb5'
            have hb6 := i_inc_a k hk5 hb5'
            rw [← hk] at hb6
            refine iAir_kp hn h ((k_draw kB).s 16 0 _ (by decide) (by decide)) ((w_draw ((w.weak (n := n)).busy _ hb6)).s 16 n 0 _ trivial (by decide))
theorem spk_ok (A : sA) (n : Nat) : ∀ (c b : Nat) (x : Int32), b + c = 7 → (x = -1 ∨ ∃ y, y < 7 ∧ x = nX y ∧ 0 < A.1 35 n y ∧ ¬ A.1 19 y 0 = 0) → (sSpk A n c b x = -1 ∨ ∃ y, y < 7 ∧ sSpk A n c b x = nX y ∧ 0 < A.1 35 n y ∧ ¬ A.1 19 y 0 = 0)
  | 0, b, x, _, h => h
  | c + 1, b, x, hb, h => by
    unfold sSpk
    split
    · rename_i h1
      split
      · refine spk_ok A n c (b + 1) _ (by omega) (Or.inr ⟨b, by omega, rfl, ?_⟩)
        rw [Bool.and_eq_true_iff, decide_eq_true_eq, Bool.not_eq_true', beq_eq_false_iff_ne] at h1
        exact h1
      · exact Or.inl rfl
    · exact spk_ok A n c (b + 1) x (by omega) h
theorem s_Hear (n : Nat) (A : sA) (hn : n < 7) (h : iHear n A) : iHear (n + 1) (mHear A n) := by
  obtain ⟨w, hp, hl, hh⟩ := h
  have hs := spk_ok A n 7 0 (-1) (by omega) (Or.inl rfl)
  have hnod : nod (if ¬ A.1 11 n 0 = 0 ∧ A.1 19 n 0 = 0 then sSpk A n 7 0 (-1) else -1) := by
    split
    · rcases hs with h1 | ⟨y, h1, h2, -⟩
      · exact Or.inl h1
      · exact Or.inr ⟨y, h1, h2⟩
    · exact Or.inl rfl
  refine ⟨w.s 24 n 0 _ hnod (by decide), hp, hl, fun i hi => ?_⟩
  intro hne
  by_cases hin : i = n
  · subst hin
    have hne : ¬ (if ¬ A.1 11 i 0 = 0 ∧ A.1 19 i 0 = 0 then sSpk A i 7 0 (-1) else -1) = -1 := by
      intro q
      apply hne
      unfold mHear
      rw [uA_eq]
      exact q
    by_cases hc : ¬ A.1 11 i 0 = 0 ∧ A.1 19 i 0 = 0
    · rw [if_pos hc] at hne
      rcases hs with h1 | ⟨y, h1, h2, h3, h4⟩
      · exact absurd h1 hne
      · refine ⟨⟨y, h1, ?_, ?_, h4⟩, hc⟩
        · intro e
          subst e
          have hcc : (0 ≤ A.1 35 y y ∧ A.1 35 y y ≤ 9) ∧ (y = y → A.1 35 y y = 0) := w.1 35 y y (xV_a (by decide) hn hn)
          rw [hcc.2 rfl] at h3
          exact absurd h3 (by decide)
        · unfold mHear
          rw [uA_eq, if_pos hc]
          exact h2
    · rw [if_neg hc] at hne
      exact absurd rfl hne
  · have e : (mHear A n).1 24 i 0 = A.1 24 i 0 := uA_no hin
    rw [e] at hne
    obtain ⟨⟨x, x1, x2, x3, x4⟩, x5, x6⟩ := hh i (by omega) hne
    exact ⟨⟨x, x1, x2, by rw [e]; exact x3, x4⟩, x5, x6⟩
theorem iTake_kp {n : Nat} {A B : sA} (h : iHear 7 A) (h0 : A.1 19 n 0 = 0) (hk : kp false n A B) (w : wf 7 B) : iHear 7 B := by
  obtain ⟨-, hp, hl, hh⟩ := h
  have e : ∀ i, B.1 19 i 0 = A.1 19 i 0 := fun i => hk.1 _ _ _ (Or.inl (by decide))
  have e1 : ∀ i, B.1 24 i 0 = A.1 24 i 0 := fun i => hk.1 _ _ _ (Or.inl (by decide))
  have e2 : ∀ i, B.1 11 i 0 = A.1 11 i 0 := fun i => hk.1 _ _ _ (Or.inl (by decide))
  refine ⟨w, fun i _ h2 h3 => ?_, fun i h2 h3 => ?_, fun i hi => ?_⟩
  · rw [e] at h3
    have hin : i ≠ n := by
      intro q
      subst q
      rw [h0] at h3
      exact absurd h3 (by decide)
    rw [hk.2 i hin, hk.1 23 i 0 (Or.inr ⟨by decide, hin⟩), hk.1 22 i 0 (Or.inr ⟨by decide, hin⟩)]
    exact hp i (Nat.zero_le _) h2 h3
  · rw [e]
    by_cases hin : i = n
    · subst hin
      exact h0
    · rw [hk.1 23 i 0 (Or.inr ⟨by decide, hin⟩)] at h3
      exact hl i h2 h3
  · have := hh i hi
    unfold pH at this ⊢
    simp only [e, e1, e2]
    exact this
theorem s_Take (n : Nat) (A : sA) (hn : n < 7) (h : iTake n A) : iTake (n + 1) (mTake A n) := by
  unfold mTake
  split
  · exact h
  · rename_i hne
    obtain ⟨⟨x, hx, hxn, hxe, hxa⟩, ha, h0⟩ := h.2.2.2 n hn hne
    rw [hxe, (nI_a x hx).1]
    refine iTake_kp h h0 (k_Tk A n x) (w_Tk h.1 hn hx (Ne.symm hxn) ha (fun h1 => ?_))
    have hw : A.1 19 x 0 = 0 ∨ A.1 19 x 0 = 1 ∨ A.1 19 x 0 = 2 := h.1.1 19 x 0 (xV_n (by decide) hx)
    exact (h.2.1 x (Nat.zero_le _) hx ((hw.resolve_left hxa).resolve_left h1)).1
theorem s_Set (n : Nat) (A : sA) (hn : n < 7) (h : iSet n A) : iSet (n + 1) (mSet A n) := by
  obtain ⟨w, hp, hl⟩ := h
  unfold mSet
  split
  · rename_i h2
    obtain ⟨q1, q2, q3⟩ := hp n (Nat.le_refl _) hn h2
    split
    · have hk := k_Pop (o := true) A n
      have e : ∀ i, (mPop A n).1 19 i 0 = A.1 19 i 0 := fun i => hk.1 _ _ _ (Or.inl (by decide))
      have e1 : ∀ i, (mPop A n).1 23 i 0 = A.1 23 i 0 := fun i => hk.1 _ _ _ (Or.inl (by decide))
      have e2 : ∀ i, (mPop A n).1 22 i 0 = A.1 22 i 0 := fun i => hk.1 _ _ _ (Or.inl (by decide))
      refine ⟨w_Pop w.weak hn q2, fun i h3 h4 h5 => ?_, fun i h3 h4 => ?_⟩
      · rw [e] at h5
        rw [hk.2 i (by omega), e1, e2]
        exact hp i (by omega) h4 h5
      · rw [e1] at h4
        rw [e, e2]
        exact hl i h3 h4
    · refine ⟨w.listens 1 (Or.inr rfl) (fun e => absurd e (wf_alive w hn (Or.inl q1))) (fun _ => q1), fun i h3 h4 h5 => ?_, fun i h3 h4 => ?_⟩
      · have hin : i ≠ n := by omega
        rw [uA_no hin] at h5
        rw [uA_no hin, uA_no hin, uA_2]
        exact hp i (by omega) h4 h5
      · rw [uA_ne (by decide), uA_ne (by decide)]
        by_cases hin : i = n
        · subst hin
          exact Or.inr ⟨h2, q3⟩
        · rw [uA_no hin] at h4
          exact hl i h3 h4
  · exact ⟨w, fun i h3 h4 h5 => hp i (by omega) h4 h5, hl⟩
theorem iLis_st {n : Nat} {A B : sA} (hn : n < 7) (h : iLis n A) (hk : kp false n A B) (w : wf 7 B) (h0 : B.1 23 n 0 = 0) : iLis (n + 1) B := by
  obtain ⟨-, h1, h2⟩ := h
  have e : ∀ i, B.1 19 i 0 = A.1 19 i 0 := fun i => hk.1 _ _ _ (Or.inl (by decide))
  refine ⟨w, fun i hi h3 => ?_, fun i hi h3 => ?_⟩
  · have hin : i ≠ n := by
      intro q
      subst q
      exact h3 h0
    rw [hk.1 23 i 0 (Or.inr ⟨by decide, hin⟩)] at h3
    rw [e, hk.1 22 i 0 (Or.inr ⟨by decide, hin⟩)]
    exact h1 i hi h3
  · have hin : i ≠ n := by
      intro q
      subst q
      exact h3 h0
    rw [hk.1 23 i 0 (Or.inr ⟨by decide, hin⟩)] at h3
    rw [hk.1 22 i 0 (Or.inr ⟨by decide, hin⟩)]
    exact h2 i (by omega) h3
theorem s_Lis (n : Nat) (A : sA) (hn : n < 7) (h : iLis n A) : iLis (n + 1) (mLis A n) := by
  obtain ⟨w, h1, h2⟩ := id h
  unfold mLis
  split
  · rename_i hc
    refine ⟨w, h1, fun i hi h3 => ?_⟩
    by_cases hin : i = n
    · subst hin
      have ha : ¬ A.1 19 i 0 = 0 := hc.resolve_left h3
      exact ((h1 i hn h3).resolve_left ha).2
    · exact h2 i (by omega) h3
  · rename_i hc
    have hl : ¬ A.1 23 n 0 = 0 := fun q => hc (Or.inl q)
    have ha := wf_alive w hn (Or.inr (Or.inr hl))
    have hne := (w.2 n hn).2.2.2.1 hl
    have wT : wf 7 (mTr A n) := (w.listens (n := n) 0 (Or.inl rfl) (fun _ => rfl) (fun q => absurd rfl q)).s 18 n 0 _ trivial (by decide)
    have kT : kp false n A (mTr A n) := ((kp.rf (o := false) n A).set 23 0 0 (by decide)).s 18 0 _ (by decide) (by decide)
    have lT : (mTr A n).1 23 n 0 = 0 := by
      unfold mTr
      rw [uA_ne (by decide), uA_eq]
    split
    · have kF := k_Fail (o := true) (mTr A n) n
      refine iLis_st hn h (kT.tr kF.less) (w_Fail wT.weak hn lT hne ha) ?_
      rw [kF.1 23 n 0 (Or.inl (by decide))]
      exact lT
    · refine iLis_st hn h ((k_draw (kT.s 17 0 _ (by decide) (by decide))).s 16 0 _ (by decide) (by decide)) ((w_draw ((wT.weak (n := n)).busy 0 (by decide))).s 16 n 0 _ trivial (by decide)) ?_
      rw [uA_ne (by decide)]
      show (uA (uA (mTr A n) 17 n 0 0) 2 0 0 _).1 23 n 0 = 0
      rw [uA_ne (by decide), uA_ne (by decide)]
      exact lT
theorem ivl_dbl {v : Int32} (h : ivl v) : ivl (if v * 2 < (64 : Int32) then v * 2 else 64) := by
  unfold ivl at h ⊢
  rcases h with rfl | rfl | rfl | rfl | rfl <;> decide
theorem k_Timer {o : Bool} (A : sA) (n : Nat) : kp o n A (mTimer A n) := by
  have k1 : kp o n A (mCk A n) := (kp.rf n A).s 27 0 _ (by decide) (by decide)
  have k2 : kp o n A (mTm1 (mCk A n) n) := by
    unfold mTm1
    split
    · exact k1.tr (k_Once _ n _)
    · exact k1
  unfold mTimer
  split
  · exact kp.rf n A
  · unfold mTm2
    split
    · exact k2.tr (k_Begin _ n _)
    · exact k2
theorem w_Timer {n : Nat} {A : sA} (w : wf 7 A) (hn : n < 7) (ha : ¬ A.1 11 n 0 = 0) : wf 7 (mTimer A n) := by
  have w1 : wf 7 (mCk A n) := w.s 27 n 0 _ trivial (by decide)
  have w2 : wf 7 (mTm1 (mCk A n) n) := by
    unfold mTm1
    split
    · exact w_Once w1 hn (Or.inr rfl) ha
    · exact w1
  unfold mTimer
  split
  · exact w
  · unfold mTm2
    split
    · exact w_Begin w2 n (ivl_dbl (w2.1 26 n 0 (xV_n (by decide) hn)))
    · exact w2
theorem k_Lat1 {o : Bool} (A : sA) (n : Nat) : kp o n A (mLat1 A n) := by
  unfold mLat1
  split
  · exact k_Once A n _
  · exact kp.rf n A
theorem w_Lat1 {n : Nat} {A : sA} (w : wf 7 A) (hn : n < 7) (ha : ¬ A.1 11 n 0 = 0) : wf 7 (mLat1 A n) := by
  unfold mLat1
  split
  · exact w_Once w hn (Or.inl rfl) ha
  · exact w
theorem k_Lat2 {o : Bool} (A : sA) (n : Nat) : kp o n A (mLat2 A n) := by
  unfold mLat2
  split
  · exact kp.rf n A
  · exact k_AnnO A n _
theorem w_Lat2 {n : Nat} {A : sA} (w : wf 7 A) (hn : n < 7) (ha : ¬ A.1 11 n 0 = 0) : wf 7 (mLat2 A n) := by
  unfold mLat2
  split
  · exact w
  · rename_i h
    have hp : nod (A.1 14 n 0) ∧ _ := w.1 14 n 0 (xV_n (by decide) hn)
    exact w_AnnO w hn (nod_nds hp.1 (fun e => h (Or.inl e))) ha
theorem k_Later {o : Bool} (A : sA) (n : Nat) : kp o n A (mLater A n) := by
  unfold mLater
  split
  · exact kp.rf n A
  · exact ((k_Timer A n).tr (k_Lat1 _ n)).tr (k_Lat2 _ n)
theorem s_Later (n : Nat) (A : sA) (hn : n < 7) (h : iLater n A) : iLater (n + 1) (mLater A n) := by
  have hk := k_Later (o := true) A n
  refine ⟨?_, fun i hi hl => ?_⟩
  · unfold mLater
    split
    · exact h.1
    · rename_i ha
      have k1 := k_Timer (o := true) A n
      exact w_Lat2 (w_Lat1 (w_Timer h.1 hn ha) hn (k1.alive n ha)) hn ((k1.tr (k_Lat1 _ n)).alive n ha)
  · rw [hk.1 23 i 0 (Or.inl (by decide))] at hl
    rw [hk.1 22 i 0 (Or.inl (by decide))]
    exact h.2 i hi hl
/-- the states between a tick's steps -/
def tA0 (A : sA) : sA := uA A 3 0 0 (A.1 3 0 0 + 1)
def tA1 (A : sA) : sA := lp mRem 7 0 (tA0 A)
def tA2 (A : sA) : sA := lp mAir 7 0 (tA1 A)
def tA3 (A : sA) : sA := lp mHear 7 0 (tA2 A)
def tA4 (A : sA) : sA := lp mTake 7 0 (tA3 A)
def tA5 (A : sA) : sA := lp mSet 7 0 (tA4 A)
def tA6 (A : sA) : sA := lp mLis 7 0 (tA5 A)
theorem mTick_eq (A : sA) : mTick A = lp mLater 7 0 (tA6 A) := by
  unfold mTick tA6 tA5 tA4 tA3 tA2 tA1 tA0
  rfl
def iT (A : sA) : Prop := wf 7 A ∧ pT A
theorem t_0 {A : sA} (h : iT A) : iRem 0 (tA0 A) := ⟨h.1.s 3 0 0 _ trivial (by decide), h.2, fun i hi => absurd hi (by omega)⟩
theorem t_1 {A : sA} (h : iT A) : iAir 0 (tA1 A) := by
  have h1 : iRem 7 (tA1 A) := by
    unfold tA1
    exact lp_inv (I := iRem) s_Rem 7 0 (tA0 A) rfl (t_0 h)
  obtain ⟨w, ht, hz⟩ := h1
  refine ⟨w, fun i _ hi => ⟨hz i hi, ht i hi⟩, fun i _ hi h2 => ?_, fun i hi _ => hz i hi⟩
  rw [hz i hi] at h2
  exact absurd h2 (by decide)
theorem t_2 {A : sA} (h : iT A) : iHear 0 (tA2 A) := by
  have h1 : iAir 7 (tA2 A) := by
    unfold tA2
    exact lp_inv (I := iAir) s_Air 7 0 (tA1 A) rfl (t_1 h)
  obtain ⟨w, -, hp, hl⟩ := h1
  exact ⟨w, hp, hl, fun i hi => absurd hi (by omega)⟩
theorem t_3 {A : sA} (h : iT A) : iTake 0 (tA3 A) := by
  have h1 : iHear 7 (tA3 A) := by
    unfold tA3
    exact lp_inv (I := iHear) s_Hear 7 0 (tA2 A) rfl (t_2 h)
  exact h1
theorem t_4 {A : sA} (h : iT A) : iSet 0 (tA4 A) := by
  have h1 : iTake 7 (tA4 A) := by
    unfold tA4
    exact lp_inv (I := iTake) s_Take 7 0 (tA3 A) rfl (t_3 h)
  obtain ⟨w, hp, hl, -⟩ := h1
  exact ⟨w, hp, fun i hi h1 => Or.inl (hl i hi h1)⟩
theorem t_5 {A : sA} (h : iT A) : iLis 0 (tA5 A) := by
  have h1 : iSet 7 (tA5 A) := by
    unfold tA5
    exact lp_inv (I := iSet) s_Set 7 0 (tA4 A) rfl (t_4 h)
  obtain ⟨w, -, hl⟩ := h1
  exact ⟨w, hl, fun i hi => absurd hi (by omega)⟩
theorem t_6 {A : sA} (h : iT A) : iLater 0 (tA6 A) := by
  have h1 : iLis 7 (tA6 A) := by
    unfold tA6
    exact lp_inv (I := iLis) s_Lis 7 0 (tA5 A) rfl (t_5 h)
  obtain ⟨w, -, hl⟩ := h1
  exact ⟨w, hl⟩
theorem t_7 {A : sA} (h : iT A) : iT (mTick A) := by
  rw [mTick_eq]
  have h1 : iLater 7 (lp mLater 7 0 (tA6 A)) := lp_inv (I := iLater) s_Later 7 0 (tA6 A) rfl (t_6 h)
  exact h1
