/-! the reference does what the mathematics says: a tick's air -/
def oa (v : Int32) : Int32 := if v = 1 then 2 else if v = 2 then 1 else 0
def pO (σ : tm_S) (A : sA) : Prop := ∀ i, i < 7 → σ.1 167 i = oa (A.1 19 i 0) ∧ (A.1 19 i 0 = 1 → σ.1 168 i = A.1 21 i 0)
def pW (σ : tm_S) (A : sA) : Prop := ∀ i, i < 7 → σ.1 169 i = A.1 20 i 0
def pLs (σ : tm_S) (A : sA) : Prop := ∀ i, i < 7 → ((¬ σ.1 170 i = 0 ∧ σ.1 171 i = 0) ↔ ¬ A.1 23 i 0 = 0)
def pM (n : Nat) (σ : tm_S) (A : sA) : Prop := ∀ i, n ≤ i → i < 7 → ((¬ σ.1 170 i = 0 ∧ σ.1 171 i = 0) ↔ (¬ A.1 23 i 0 = 0 ∧ A.1 19 i 0 = 0))
theorem pO_kp {o : Bool} {n : Nat} {σ σ' : tm_S} {A C : sA} (h : pO σ A) (hk : kp o n A C) (e1 : σ'.1 167 = σ.1 167) (e2 : σ'.1 168 = σ.1 168) : pO σ' C := fun i hi => by
  rw [e1, e2, hk.1 19 i 0 (Or.inl rfl), hk.1 21 i 0 (Or.inl rfl)]
  exact h i hi
theorem fr5 {σ σ' : tm_S} (h : frY σ σ') : σ'.1 167 = σ.1 167 ∧ σ'.1 168 = σ.1 168 ∧ σ'.1 169 = σ.1 169 ∧ σ'.1 170 = σ.1 170 ∧ σ'.1 171 = σ.1 171 := ⟨h.1 _ (by decide), h.1 _ (by decide), h.1 _ (by decide), h.1 _ (by decide), h.1 _ (by decide)⟩
theorem Air_keep {A : sA} {n t i j : Nat} (ht : t = 20 ∨ t = 23 ∨ t = 11 ∨ t = 35) : (mAir A n).1 t i j = A.1 t i j := by
  have kB : kp true n A (mBz A n) := (kp.rf n A).s 17 0 _ (by decide) (by decide)
  have hk : ∀ {C : sA}, kp true n A C → C.1 t i j = A.1 t i j := fun h => h.1 t i j (Or.inl (by rcases ht with rfl | rfl | rfl | rfl <;> decide))
  have hu : ∀ {C : sA} {t' i' j' : Nat} {v : Int32}, [19, 21, 22, 8].contains t' = true → (uA C t' i' j' v).1 t i j = C.1 t i j := fun h => uA_ne (fun e => by
    rw [← e] at h
    rcases ht with rfl | rfl | rfl | rfl <;> exact absurd h (by decide))
  unfold mAir
  split
  · rw [hu (by decide), hu (by decide), hu (by decide)]
  · split
    · rfl
    · split
      · exact hk ((kp.rf n A).s 16 0 _ (by decide) (by decide))
      · split
        · rw [hu (by decide), hu (by decide)]
        · split
          · exact hk (kB.tr (k_Fail _ n))
          · exact hk ((k_draw kB).s 16 0 _ (by decide) (by decide))
theorem Air_dead {A : sA} {n : Nat} (w : wf 7 A) (hn : n < 7) (h : A.1 11 n 0 = 0) : mAir A n = A := by
  obtain ⟨h1, h2, h3⟩ := (w.2 n hn).2.2.1 h
  unfold mAir
  rw [if_neg (fun r => r h2), if_pos (Or.inr (by rw [h1]; rfl))]
section Y5
variable {σ0 σ : tm_S} {A : sA} {n m B x : Nat} {tmp : Option Nat}
theorem y_near_lp (h : RY σ0 B tmp σ A) (hW : pW σ A) (hn : n < 7) : ∀ (c b k : Nat) (d : Bool), b + c = 7 → c < k → f_Y_nearWasOn_L4 k σ (nX n) (if d = true then 1 else 0) (nX b) = some (if (d || sBusy A n c b) = true then 1 else 0, σ)
  | 0, b, k + 1, d, hg, _ => by
    obtain rfl : b = 7 := by omega
    rw [f_Y_nearWasOn_L4, if_pos (by decide)]
    cases d
    · rfl
    · rfl
  | c + 1, b, k + 1, d, hg, hk => by
    have hb : b < 7 := by omega
    obtain ⟨a1, a2, a3, a4⟩ := lp_a b hb
    have ih := fun d => y_near_lp h hW hn c (b + 1) k d (by omega) (by omega)
    rw [f_Y_nearWasOn_L4, if_neg a1, if_pos (ok49_a n hn b hb), (ix49_a n hn b hb).1, gy_cost h hn hb, if_pos a4, a3, hW b hb]
    unfold f_Y_nearWasOn_L41 f_Y_nearWasOn_L37 f_Y_nearWasOn_L42 sBusy
    rw [a2]
    cases d
    · rw [if_neg (show ¬ false = true by decide), if_pos rfl]
      by_cases c1 : A.1 35 n b ≤ 0
      · rw [if_pos c1, decide_eq_false (Int32.not_lt.mpr c1), Bool.false_and, Bool.false_or]
        exact ih false
      · rw [if_neg c1, decide_eq_true (Int32.not_le.mp c1), Bool.true_and]
        by_cases c2 : A.1 20 b 0 = 0
        · rw [if_pos c2, c2]
          exact ih false
        · rw [if_neg c2, beq_eq_false_iff_ne.mpr c2]
          exact ih true
    · rw [if_pos rfl, if_neg (show ¬ (1 : Int32) = 0 by decide)]
      exact ih true
theorem y_near (h : RY σ0 B tmp σ A) (hW : pW σ A) (hn : n < 7) : f_Y_nearWasOn σ (nX n) = some (if sBusy A n 7 0 = true then 1 else 0, σ) := by
  have := y_near_lp h hW hn 7 0 200 false (by omega) (by omega)
  rw [Bool.false_or] at this
  exact this
theorem most_eq (b : Int32) : (if (4 : Int32) <<< (b &&& 31) ≤ 32 then (4 : Int32) <<< (b &&& 31) else 32) = sMost b := by
  unfold sMost
  by_cases c : (4 : Int32) <<< (b &&& 31) < 32
  · rw [if_pos c, if_pos (Int32.le_of_lt c)]
  · rw [if_neg c]
    by_cases c2 : (4 : Int32) <<< (b &&& 31) ≤ 32
    · rw [if_pos c2]
      exact Int32.toInt_inj.mp (by
        have r1 := i_le.mp c2
        have r2 := i_le.mp (Int32.not_lt.mp c)
        omega)
    · rw [if_neg c2]
theorem y_air (h : RY σ0 B none σ A) (hB : B < 1999999990) (hi : iAir n A) (hO : pO σ A) (hW : pW σ A) (hn : n < 7) : ∃ τ, f_Y_air σ (nX n) = some τ ∧ RY τ (B + 2) none τ (mAir A n) ∧ pO τ (mAir A n) ∧ τ.1 169 = σ.1 169 ∧ τ.1 170 = σ.1 170 ∧ τ.1 171 = σ.1 171 ∧ frY' σ τ := by
  obtain ⟨-, -, b3, b4⟩ := lp_a n hn
  have w := hi.1
  have hair : A.1 19 n 0 = 0 := (hi.2.1 n (Nat.le_refl _) hn).1
  have hod : nod (A.1 22 n 0) := w.1 22 n 0 (xV_n (by decide) hn)
  have hlen := h.len hn
  have h2 : RY (sI σ 167 n 0) B none (sI σ 167 n 0) A := h.ph (by decide)
  have f2 : frY' σ (sI σ 167 n 0) := frY'.ph (by decide)
  have o2 : pO (sI σ 167 n 0) A := fun i hi7 => by
    refine ⟨?_, fun r => ?_⟩
    · by_cases hin : i = n
      · subst hin
        rw [sI_eq, hair]
        rfl
      · rw [sI_no (fun r => hin r.2)]
        exact (hO i hi7).1
    · rw [sI_ne1 (by decide)]
      exact (hO i hi7).2 r
  have w2 : pW (sI σ 167 n 0) A := fun i hi7 => by
    rw [sI_ne1 (by decide)]
    exact hW i hi7
  have e5 : (sI σ 167 n 0).1 169 = σ.1 169 ∧ (sI σ 167 n 0).1 170 = σ.1 170 ∧ (sI σ 167 n 0).1 171 = σ.1 171 := ⟨sI_ne1 (by decide), sI_ne1 (by decide), sI_ne1 (by decide)⟩
  generalize hτ2 : sI σ 167 n 0 = τ2 at h2 o2 w2 e5 f2
  /- a step that keeps the air -/
  have calm : ∀ τ C, RY τ2 (B + 2) none τ C → kp true n A C → RY τ (B + 2) none τ C ∧ pO τ C ∧ τ.1 169 = σ.1 169 ∧ τ.1 170 = σ.1 170 ∧ τ.1 171 = σ.1 171 ∧ frY' σ τ := by
    intro τ C hC hk
    obtain ⟨q1, q2, q3, q4, q5⟩ := fr5 hC.fr
    exact ⟨hC.base, pO_kp o2 hk q1 q2, q3.trans e5.1, q4.trans e5.2.1, q5.trans e5.2.2, f2.tr (frY'.of hC.fr)⟩
  unfold f_Y_air
  simp only [if_pos b4, tm_w]
  rw [b3, hτ2, gy_owes h2 hn, gy_listens h2 hn, h2.many hn, gy_wait h2 hn]
  unfold mAir
  by_cases c1 : A.1 22 n 0 = -1
  · have c1' : ¬ ¬ A.1 22 n 0 = -1 := fun r => r c1
    rw [if_pos ((nod_neg hod).mpr c1), if_neg c1']
    by_cases c2 : A.1 23 n 0 = 0
    · rw [if_pos c2]
      have hl := nI_len_a (A.2 n).length (by omega)
      by_cases c3 : (A.2 n).length = 0
      · rw [if_pos (hl.2.2.2.2.2.1.mpr c3), if_pos (Or.inr c3)]
        exact ⟨τ2, rfl, calm τ2 A (h2.mono (by omega)) (kp.rf n A)⟩
      · have hne : A.2 n ≠ [] := fun r => c3 (by rw [r]; rfl)
        have hc : ¬ (¬ A.1 23 n 0 = 0 ∨ (A.2 n).length = 0) := fun r => r.elim (fun r => r c2) c3
        rw [if_neg (fun r => c3 (hl.2.2.2.2.2.1.mp r)), if_neg hc]
        by_cases c4 : A.1 16 n 0 ≤ 0
        · rw [if_pos c4, if_neg (Int32.not_lt.mpr c4), y_near h2 w2 hn]
          simp only [Option.bind_some]
          by_cases c5 : sBusy A n 7 0 = true
          · have c5' : ¬ sBusy A n 7 0 = false := by
              rw [c5]
              decide
            rw [if_pos c5, if_neg c5', if_neg (show ¬ (1 : Int32) = 0 from by decide), gy_busy h2 hn]
            have h3 : RY τ2 B none (sI τ2 150 n (A.1 17 n 0 + 1)) (mBz A n) := sy_busy h2 hn _
            have kB : kp true n A (mBz A n) := (kp.rf n A).s 17 0 _ (by decide) (by decide)
            rw [gy_busy h3 hn]
            by_cases c6 : (mBz A n).1 17 n 0 = 5
            · rw [if_pos c6, if_pos c6]
              obtain ⟨τ, e, h4⟩ := y_fail h3 hB (Bz_wf w) hn c2 hne
              rw [e]
              exact ⟨τ, rfl, calm τ _ h4 (kB.tr (k_Fail _ n))⟩
            · rw [if_neg c6, if_neg c6]
              have hb := (w.2 n hn).2.2.2.2 (by omega) hne
              obtain ⟨j, hj5, hj⟩ := i_five hb.1 hb.2
              have eb : (mBz A n).1 17 n 0 = A.1 17 n 0 + 1 := uA_eq
              have hpos : 0 < sMost ((mBz A n).1 17 n 0) := by
                rw [eb, hj]
                rw [eb, hj] at c6
                exact most_a j hj5 c6
              have key : ∃ τ, f_Y_air_L148 (sI τ2 150 n (A.1 17 n 0 + 1)) (sMost ((mBz A n).1 17 n 0)) (nX n) = some τ ∧ RY τ2 B none τ (uA (dA (mBz A n)) 16 n 0 (dV A (sMost ((mBz A n).1 17 n 0)))) := by
                obtain ⟨τ, e, h4⟩ := y_draw h3 (nz_half hpos)
                unfold f_Y_air_L148
                rw [e]
                simp only [Option.bind_some, if_pos b4, tm_w]
                rw [b3]
                exact ⟨_, rfl, sy_wait h4 hn _⟩
              obtain ⟨τ, e, h4⟩ := key
              rw [← most_eq] at e
              refine ⟨τ, ?_, calm τ _ (h4.mono (by omega)) ((k_draw kB).s 16 0 _ (by decide) (by decide))⟩
              by_cases c7 : (4 : Int32) <<< ((mBz A n).1 17 n 0 &&& 31) ≤ 32
              · rw [if_pos c7] at e ⊢
                exact e
              · rw [if_neg c7] at e ⊢
                exact e
          · have c5' : sBusy A n 7 0 = false := eq_false_of_ne_true c5
            rw [if_neg c5, if_pos c5', if_pos rfl]
            have h3 : RY (sI τ2 167 n 1) B none (sI τ2 167 n 1) A := h2.ph (by decide)
            have f3 : frY' τ2 (sI τ2 167 n 1) := frY'.ph (by decide)
            have e49 : (sI τ2 167 n 1).1 130 49 = A.1 8 0 0 := gy_aired h3
            rw [e49]
            have h4 := sy_aired h3 (A.1 8 0 0 + 1)
            refine ⟨_, rfl, ?_, ?_, ?_, ?_, ?_, ?_⟩
            · refine (h4.base.mono (by omega)).free (fun t t1 _ _ _ => ?_) rfl
              funext i j
              by_cases t2 : t = 8
              · subst t2
                show (if _ then _ else (uA A 19 n 0 2).1 8 i j) = (if _ then _ else A.1 8 i j)
                rw [uA_ne (by decide)]
              · rw [uA_ne t2, uA_ne t2, uA_ne t1]
            · intro i hi7
              refine ⟨?_, fun r => ?_⟩
              · rw [sI_ne1 (by decide), uA_ne (by decide)]
                by_cases hin : i = n
                · subst hin
                  rw [sI_eq, uA_eq]
                  rfl
                · rw [sI_no (fun r => hin r.2), uA_no hin]
                  exact (o2 i hi7).1
              · rw [uA_ne (by decide)] at r
                by_cases hin : i = n
                · subst hin
                  rw [uA_eq] at r
                  exact absurd r (by decide)
                · rw [uA_no hin] at r
                  rw [sI_ne1 (by decide), sI_ne1 (by decide), uA_ne (by decide), uA_ne (by decide)]
                  exact (o2 i hi7).2 r
            · rw [sI_ne1 (by decide), sI_ne1 (by decide)]
              exact e5.1
            · rw [sI_ne1 (by decide), sI_ne1 (by decide)]
              exact e5.2.1
            · rw [sI_ne1 (by decide), sI_ne1 (by decide)]
              exact e5.2.2
            · exact (f2.tr f3).tr (frY'.of h4.fr)
        · rw [if_neg c4, if_pos (Int32.not_le.mp c4)]
          exact ⟨_, rfl, calm _ _ ((sy_wait h2 hn _).mono (by omega)) ((kp.rf n A).s 16 0 _ (by decide) (by decide))⟩
    · rw [if_neg c2, if_pos (Or.inl c2)]
      exact ⟨τ2, rfl, calm τ2 A (h2.mono (by omega)) (kp.rf n A)⟩
  · rw [if_neg (fun r => c1 ((nod_neg hod).mp r)), if_pos c1]
    have h3 : RY (sI τ2 167 n 2) B none (sI τ2 167 n 2) A := h2.ph (by decide)
    have f3 : frY' τ2 (sI τ2 167 n 2) := frY'.ph (by decide)
    have e52 : (sI τ2 167 n 2).1 152 n = A.1 22 n 0 := gy_owes h3 hn
    rw [e52]
    have h4 : RY (sI (sI τ2 167 n 2) 168 n (A.1 22 n 0)) B none (sI (sI τ2 167 n 2) 168 n (A.1 22 n 0)) A := h3.ph (by decide)
    have f4 : frY' (sI τ2 167 n 2) (sI (sI τ2 167 n 2) 168 n (A.1 22 n 0)) := frY'.ph (by decide)
    have h5 := sy_owes h4 hn (-1)
    refine ⟨_, rfl, ?_, ?_, ?_, ?_, ?_, ?_⟩
    · refine (h5.base.mono (by omega)).free (fun t t1 _ t3 _ => ?_) rfl
      funext i j
      by_cases t2 : t = 22
      · subst t2
        show (if _ then _ else (uA (uA A 19 n 0 1) 21 n 0 _).1 22 i j) = (if _ then _ else A.1 22 i j)
        rw [uA_ne (by decide), uA_ne (by decide)]
      · rw [uA_ne t2, uA_ne t2, uA_ne t3, uA_ne t1]
    · intro i hi7
      refine ⟨?_, fun r => ?_⟩
      · rw [sI_ne1 (by decide), sI_ne1 (by decide), uA_ne (by decide), uA_ne (by decide)]
        by_cases hin : i = n
        · subst hin
          rw [sI_eq, uA_eq]
          rfl
        · rw [sI_no (fun r => hin r.2), uA_no hin]
          exact (o2 i hi7).1
      · rw [sI_ne1 (by decide), uA_ne (by decide)]
        by_cases hin : i = n
        · subst hin
          rw [sI_eq, uA_eq]
        · rw [sI_no (fun r => hin r.2), sI_ne1 (by decide), uA_no hin, uA_no hin]
          rw [uA_ne (by decide), uA_ne (by decide), uA_no hin] at r
          exact (o2 i hi7).2 r
    · rw [sI_ne1 (by decide), sI_ne1 (by decide), sI_ne1 (by decide)]
      exact e5.1
    · rw [sI_ne1 (by decide), sI_ne1 (by decide), sI_ne1 (by decide)]
      exact e5.2.1
    · rw [sI_ne1 (by decide), sI_ne1 (by decide), sI_ne1 (by decide)]
      exact e5.2.2
    · exact ((f2.tr f3).tr f4).tr (frY'.of h5.fr)
theorem y_heard_lp (h : RY σ0 B tmp σ A) (hO : pO σ A) (w : wf m A) (hn : n < 7) : ∀ (c b k : Nat) (y : Int32) (cnt : Nat), b + c = 7 → c < k → (cnt = 0 ∧ y = -1 ∨ cnt = 1 ∧ ¬ y = -1 ∨ 2 ≤ cnt) → cnt ≤ b → f_Y_heardFrom_L7 k σ (nX n) y (nX cnt) (nX b) = some (if A.1 19 n 0 = 0 then (if 2 ≤ cnt then -1 else sSpk A n c b y) else -1, σ)
  | 0, b, k + 1, y, cnt, hg, _, hc, hcb => by
    obtain rfl : b = 7 := by omega
    obtain ⟨-, -, b3, b4⟩ := lp_a n hn
    have hw : A.1 19 n 0 = 0 ∨ A.1 19 n 0 = 1 ∨ A.1 19 n 0 = 2 := w.1 19 n 0 (xV_n (by decide) hn)
    have ho : σ.1 167 n = 0 ↔ A.1 19 n 0 = 0 := by
      rw [(hO n hn).1]
      rcases hw with r | r | r <;> rw [r] <;> decide
    rw [f_Y_heardFrom_L7, if_pos (by decide), if_pos b4, b3]
    unfold f_Y_heardFrom_L69
    have e1 : nX cnt = 1 ↔ cnt = 1 := by
      have : ∀ z, z < 8 → (nX z = 1 ↔ z = 1) := by decide
      exact this cnt (by omega)
    by_cases d : A.1 19 n 0 = 0
    · rw [if_pos d]
      rcases hc with ⟨r1, r2⟩ | ⟨r1, r2⟩ | r1
      · rw [if_neg (fun r => by have := e1.mp r; omega), if_neg (by omega), r2]
        rfl
      · rw [if_pos (e1.mpr r1), if_pos (ho.mpr d), if_neg (by omega)]
        rfl
      · rw [if_neg (fun r => by have := e1.mp r; omega), if_pos r1]
    · rw [if_neg d]
      by_cases r : nX cnt = 1
      · rw [if_pos r, if_neg (fun q => d (ho.mp q))]
      · rw [if_neg r]
  | c + 1, b, k + 1, y, cnt, hg, hk, hc, hcb => by
    have hb : b < 7 := by omega
    obtain ⟨a1, a2, a3, a4⟩ := lp_a b hb
    have hw : A.1 19 b 0 = 0 ∨ A.1 19 b 0 = 1 ∨ A.1 19 b 0 = 2 := w.1 19 b 0 (xV_n (by decide) hb)
    have ho : σ.1 167 b ≤ 0 ↔ A.1 19 b 0 = 0 := by
      rw [(hO b hb).1]
      rcases hw with r | r | r <;> rw [r] <;> decide
    have no := y_heard_lp h hO w hn c (b + 1) k y cnt (by omega) (by omega) hc (by omega)
    have e1 : nX cnt + 1 = nX (cnt + 1) := by
      have : ∀ z, z < 8 → nX z + 1 = nX (z + 1) := by decide
      exact this cnt (by omega)
    have hnb : ¬ nX b = -1 := (nI_a b hb).2.2
    rw [f_Y_heardFrom_L7, if_neg a1, if_pos (ok49_a n hn b hb), (ix49_a n hn b hb).1, gy_cost h hn hb, if_pos a4, a3]
    unfold f_Y_heardFrom_L45 sSpk
    rw [a2]
    by_cases c1 : A.1 35 n b ≤ 0
    · rw [if_pos c1, decide_eq_false (Int32.not_lt.mpr c1), Bool.false_and, if_neg (show ¬ false = true by decide)]
      exact no
    · rw [if_neg c1, decide_eq_true (Int32.not_le.mp c1), Bool.true_and]
      by_cases c2 : A.1 19 b 0 = 0
      · rw [if_pos (ho.mpr c2), c2, if_neg (show ¬ (!((0 : Int32) == 0)) = true by decide)]
        exact no
      · rw [if_neg (fun r => c2 (ho.mp r)), beq_eq_false_iff_ne.mpr c2, if_pos (show (!false) = true from rfl), e1]
        have yes := y_heard_lp h hO w hn c (b + 1) k (nX b) (cnt + 1) (by omega) (by omega) (by
          rcases hc with ⟨r1, r2⟩ | ⟨r1, r2⟩ | r1
          · exact Or.inr (Or.inl ⟨by omega, hnb⟩)
          · exact Or.inr (Or.inr (by omega))
          · exact Or.inr (Or.inr (by omega))) (by omega)
        rw [yes]
        rcases hc with ⟨r1, r2⟩ | ⟨r1, r2⟩ | r1
        · rw [if_neg (show ¬ 2 ≤ cnt + 1 by omega), if_neg (show ¬ 2 ≤ cnt by omega), if_pos r2]
        · rw [if_pos (show 2 ≤ cnt + 1 by omega), if_neg (show ¬ 2 ≤ cnt by omega), if_neg r2]
        · rw [if_pos (show 2 ≤ cnt + 1 by omega), if_pos r1]
theorem y_heard (h : RY σ0 B tmp σ A) (hO : pO σ A) (w : wf m A) (hn : n < 7) : f_Y_heardFrom σ (nX n) = some (if A.1 19 n 0 = 0 then sSpk A n 7 0 (-1) else -1, σ) := y_heard_lp h hO w hn 7 0 200 (-1) 0 (by omega) (by omega) (Or.inl ⟨rfl, rfl⟩) (by omega)
end Y5
