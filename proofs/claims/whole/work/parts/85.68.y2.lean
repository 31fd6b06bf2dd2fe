/-! the reference does what the mathematics says: choosing, failing, timers, adverts -/
theorem Goals_lp {A C : sA} {n : Nat} (h : ∀ g, C.1 31 n g = A.1 31 n g) : ∀ (c g : Nat) (bits : Int32), mGoals C n c g bits = mGoals A n c g bits
  | 0, _, _ => rfl
  | c + 1, g, bits => by
    unfold mGoals
    rw [h, Goals_lp h c (g + 1) _]
theorem Goals_congr {A C : sA} {n : Nat} (h : ∀ g, C.1 31 n g = A.1 31 n g) : sGoals C n = sGoals A n := Goals_lp h 7 0 _
theorem Reset_1 {A : sA} {n t i j : Nat} (ht : t ≠ 26 ∧ t ≠ 27 ∧ t ≠ 29 ∧ t ≠ 2 ∧ t ≠ 28) : (mReset A n).1 t i j = A.1 t i j := by
  unfold mReset
  split
  · rfl
  · split
    · rfl
    · unfold mBegin dA
      rw [uA_ne ht.2.2.2.2, uA_ne ht.2.2.2.1, uA_ne ht.2.2.1, uA_ne ht.2.1, uA_ne ht.1]
theorem Ch1_rank {A : sA} {n : Nat} : (mCh1 A n).1 13 n 0 = sR A n := by
  unfold mCh1
  rw [uA_ne (by decide), uA_ne (by decide), uA_eq]
theorem Ch1_parent {A : sA} {n : Nat} : (mCh1 A n).1 14 n 0 = sP' A n := by
  unfold mCh1
  rw [uA_ne (by decide), uA_eq]
theorem Ch3_1 {A : sA} {n t : Nat} (ht : t = 13 ∨ t = 14) : (mCh3 A n).1 t n 0 = (mCh1 A n).1 t n 0 := by
  have e2 : (mCh2 A n).1 t n 0 = (mCh1 A n).1 t n 0 := by
    unfold mCh2
    split
    · rfl
    · rcases ht with rfl | rfl <;> rw [uA_ne (by decide)]
  unfold mCh3
  split
  · exact e2
  · rw [Reset_1 (by rcases ht with rfl | rfl <;> decide)]
    exact e2
theorem Choose_1 {A : sA} {n t : Nat} (ht : t = 13 ∨ t = 14) : (mChoose A n).1 t n 0 = (mCh1 A n).1 t n 0 := by
  have e4 : (mCh4 A n).1 t n 0 = (mCh1 A n).1 t n 0 := by
    unfold mCh4
    split
    · exact Ch3_1 ht
    · unfold mAnn
      rw [Put_1 (by rcases ht with rfl | rfl <;> decide)]
      exact Ch3_1 ht
  unfold mChoose
  split
  · exact e4
  · unfold mAnnO mAnn mNum
    rw [Put_1 (by rcases ht with rfl | rfl <;> decide), uA_ne (by rcases ht with rfl | rfl <;> decide)]
    exact e4
theorem Choose_rank {A : sA} {n : Nat} : (mChoose A n).1 13 n 0 = sR A n := (Choose_1 (Or.inl rfl)).trans Ch1_rank
theorem Choose_parent {A : sA} {n : Nat} : (mChoose A n).1 14 n 0 = sP' A n := (Choose_1 (Or.inr rfl)).trans Ch1_parent
section Y2
variable {σ0 σ : tm_S} {A : sA} {n m B x : Nat} {tmp : Option Nat}
theorem y_ch308 {C : sA} (h : RY σ0 B none σ C) (hB : B < 1999999990) (w : wf m C) (hn : n < 7) (l5 l7 : Int32) (h5 : nod l5) (h7 : bl l7) : ∃ σ', f_Y_choose_L308 σ (nX n) l5 l7 = some (l7, σ') ∧ RY σ0 (B + 2) none σ' (if C.1 14 n 0 = l5 ∨ C.1 14 n 0 = -1 then (if C.1 14 n 0 = l5 ∨ l5 = -1 then C else mAnn C n (sGoals C n) l5 1) else mAnnO (if C.1 14 n 0 = l5 ∨ l5 = -1 then C else mAnn C n (sGoals C n) l5 1) n (C.1 14 n 0)) := by
  obtain ⟨-, -, b3, b4⟩ := lp_a n hn
  have h7 : l7 = 0 ∨ l7 = 1 := h7
  have hp : nod (C.1 14 n 0) ∧ _ := w.1 14 n 0 (xV_n (by decide) hn)
  have l341 : ∀ τ D, RY σ0 (B + 1) none τ D → D.1 14 n 0 = C.1 14 n 0 → (∀ g, D.1 31 n g = C.1 31 n g) → ¬ C.1 14 n 0 = l5 → ∃ σ', f_Y_choose_L341 τ (nX n) l7 (sGoals C n) = some (l7, σ') ∧ RY σ0 (B + 2) none σ' (if C.1 14 n 0 = l5 ∨ C.1 14 n 0 = -1 then D else mAnnO D n (C.1 14 n 0)) := by
    intro τ D hD e1 e2 hne
    unfold f_Y_choose_L341 f_Y_choose_L377
    simp only [if_pos b4, if_pos (ix8_a n hn).2.1, if_pos h7, tm_w]
    rw [b3, gy_parent hD hn, e1, (ix8_a n hn).1]
    by_cases c : C.1 14 n 0 = -1
    · rw [if_pos ((nod_neg hp.1).mpr c), if_pos (Or.inr c)]
      exact ⟨τ, rfl, hD.mono (by omega)⟩
    · have hc : ¬ (C.1 14 n 0 = l5 ∨ C.1 14 n 0 = -1) := fun r => r.elim hne c
      rw [if_neg (fun r => c ((nod_neg hp.1).mp r)), if_neg hc]
      have hD2 : RY σ0 (B + 1) none (sI τ 135 (7 * n + n) (D.1 32 n n + 1)) (mNum D n) := sy_numbers hD hn hn _
      have e8 : 8 * n = 7 * n + n := by omega
      rw [e8, gy_numbers hD hn hn]
      have ep : (sI τ 135 (7 * n + n) (D.1 32 n n + 1)).1 140 n = C.1 14 n 0 := by
        rw [gy_parent hD2 hn]
        unfold mNum
        rw [uA_ne (by decide)]
        exact e1
      rw [ep]
      obtain ⟨σ', e, h'⟩ := y_ann hD2 (by omega) hn (sGoals C n) (C.1 14 n 0) 0 (Or.inl rfl)
      rw [e]
      refine ⟨σ', rfl, ?_⟩
      unfold mAnnO
      rw [Goals_congr (A := C) (C := mNum D n) (fun g => by
        unfold mNum
        rw [uA_ne (by decide)]
        exact e2 g)]
      exact h'
  unfold f_Y_choose_L308
  rw [if_pos b4, b3, gy_parent h hn]
  by_cases c1 : C.1 14 n 0 = l5
  · rw [if_pos c1, if_pos (Or.inl c1), if_pos (Or.inl c1)]
    unfold f_Y_choose_L377
    rw [if_pos h7]
    exact ⟨σ, rfl, h.mono (by omega)⟩
  · rw [if_neg c1, y_goals h w hn]
    simp only [Option.bind_some]
    by_cases c2 : l5 = -1
    · have hc : C.1 14 n 0 = l5 ∨ l5 = -1 := Or.inr c2
      rw [if_pos ((nod_neg h5).mpr c2)]
      simp only [if_pos hc]
      exact l341 σ C (h.mono (by omega)) rfl (fun _ => rfl) c1
    · have hc : ¬ (C.1 14 n 0 = l5 ∨ l5 = -1) := fun r => r.elim c1 c2
      rw [if_neg (fun r => c2 ((nod_neg h5).mp r))]
      simp only [if_neg hc]
      obtain ⟨τ, e, hD⟩ := y_ann h (by omega) hn (sGoals C n) l5 1 (Or.inr rfl)
      rw [e]
      simp only [Option.bind_some]
      exact l341 τ _ hD (Put_1 (by decide)) (fun g => Put_1 (by decide)) c1
theorem y_best_lp (h : RY σ0 B tmp σ A) (w : wf m A) (hn : n < 7) : ∀ (c b k : Nat) (best sum : Int32), b + c = 7 → c < k → (best = -1 ∨ (nds best ∧ sum = sSum A n best.toNatClampNeg)) → ∃ sum', (mBest A n c b best = -1 ∨ (nds (mBest A n c b best) ∧ sum' = sSum A n (mBest A n c b best).toNatClampNeg)) ∧ f_Y_choose_L7 k σ (nX n) best sum (nX b) = f_Y_choose_L7 1 σ (nX n) (mBest A n c b best) sum' (nX 7)
  | 0, b, k + 1, best, sum, hg, _, hb => by
    obtain rfl : b = 7 := by omega
    refine ⟨sum, hb, ?_⟩
    rw [f_Y_choose_L7, if_pos (show (7 : Int32) ≤ nX 7 by decide), f_Y_choose_L7, if_pos (show (7 : Int32) ≤ nX 7 by decide)]
    rfl
  | c + 1, b, k + 1, best, sum, hg, hk, hbest => by
    have hb : b < 7 := by omega
    obtain ⟨a1, a2, a3, a4⟩ := lp_a b hb
    obtain ⟨-, -, b3, b4⟩ := lp_a n hn
    have no := y_best_lp h w hn c (b + 1) k best sum (by omega) (by omega) hbest
    have yes := y_best_lp h w hn c (b + 1) k (nX b) (sSum A n b) (by omega) (by omega) (Or.inr ⟨⟨b, hb, rfl⟩, by rw [a3]⟩)
    have o49 := ok49_a n hn b hb
    have hnod : nod best := by
      rcases hbest with r | r
      · exact Or.inl r
      · exact Or.inr r.1
    unfold mBest
    rw [f_Y_choose_L7, if_neg a1]
    unfold f_Y_choose_L66 f_Y_choose_L67 f_Y_choose_L118 f_Y_choose_L124
    simp only [if_pos o49]
    rw [(ix49_a n hn b hb).1, a2, gy_cost h hn hb, if_pos b4, b3, gy_parent h hn]
    by_cases cn : b = n
    · have hcc : (0 ≤ A.1 35 n b ∧ A.1 35 n b ≤ 9) ∧ (n = b → A.1 35 n b = 0) := w.1 35 n b (xV_a (by decide) hn hb)
      have hop : sOpen A n b = false := by
        unfold sOpen
        rw [hcc.2 cn.symm]
        rfl
      rw [if_pos (show nX b = nX n by rw [cn]), if_pos trivial, hop]
      exact no
    · rw [if_neg (fun r => cn ((nI_eq_iff hb hn).mp r))]
      by_cases c1 : A.1 35 n b ≤ 0
      · have hop : sOpen A n b = false := by
          unfold sOpen
          rw [decide_eq_false (Int32.not_lt.mpr c1)]
          rfl
        rw [if_pos c1, if_pos trivial, hop]
        exact no
      · rw [if_neg c1]
        rcases h.2.2.1 n b hn hb with ⟨k0, r0⟩ | ⟨k1, r1, r2⟩
        · have hop : sOpen A n b = false := by
            unfold sOpen
            rw [r0]
            simp
          rw [if_pos k0, if_pos trivial, hop]
          exact no
        · rw [if_neg (show ¬ σ.1 133 (7 * n + b) = 0 by rw [k1]; decide), ← r1]
          by_cases c3 : A.1 30 n b = 255
          · have hop : sOpen A n b = false := by
              unfold sOpen
              rw [c3]
              simp
            rw [if_pos c3, if_pos trivial, hop]
            exact no
          · have hop : sOpen A n b = true := by
              unfold sOpen
              rw [decide_eq_true (Int32.not_le.mp c1), beq_eq_false_iff_ne.mpr r2, beq_eq_false_iff_ne.mpr c3]
              rfl
            rw [if_neg c3, if_neg (show ¬ (1 : Int32) = 0 by decide), hop, Bool.true_and]
            rcases hbest with rfl | ⟨hbn, hsum⟩
            · rw [if_pos (show (-1 : Int32) < 0 by decide)]
              exact yes
            · have hb1 : ¬ best = -1 := by
                obtain ⟨q, hq, rfl⟩ := hbn
                exact (nI_a q hq).2.2
              rw [if_neg (fun r => hb1 ((nod_neg hnod).mp r)), beq_eq_false_iff_ne.mpr hb1, Bool.false_or, hsum]
              unfold sBetter
              show ∃ sum', _ ∧ (if sSum A n b < sSum A n best.toNatClampNeg then _ else _) = _
              by_cases c4 : sSum A n b < sSum A n best.toNatClampNeg
              · rw [if_pos c4, decide_eq_true c4]
                exact yes
              · rw [if_neg c4, decide_eq_false c4, Bool.false_or]
                by_cases c5 : sSum A n b = sSum A n best.toNatClampNeg
                · have c5' : A.1 30 n b + A.1 35 n b = sSum A n best.toNatClampNeg := c5
                  rw [if_pos c5', c5, beq_self_eq_true, Bool.true_and]
                  by_cases c6 : nX b = A.1 14 n 0
                  · rw [if_pos c6, c6, beq_self_eq_true]
                    rw [← c6]
                    exact yes
                  · rw [if_neg c6, beq_eq_false_iff_ne.mpr c6]
                    rw [← hsum]
                    exact no
                · have c5' : ¬ A.1 30 n b + A.1 35 n b = sSum A n best.toNatClampNeg := c5
                  rw [if_neg c5', beq_eq_false_iff_ne.mpr c5]
                  rw [← hsum]
                  exact no
theorem y_ch268 {C : sA} (h : RY σ0 B none σ C) (hB : B < 1999999990) (hn : n < 7) (h0 : n ≠ 0) (w : wf m A) (s0 : Int32) (hs : bl s0) (hC : uA C 25 n 0 s0 = mCh2 A n) : ∃ σ', f_Y_choose_L268 σ (nX n) (A.1 13 n 0) (A.1 14 n 0) s0 (nX n) = some (if sR A n = A.1 13 n 0 ∧ sP' A n = A.1 14 n 0 then 0 else 1, σ') ∧ RY σ0 (B + 2) none σ' (mChoose A n) := by
  obtain ⟨-, -, b3, b4⟩ := lp_a n hn
  have hs : s0 = 0 ∨ s0 = 1 := hs
  have h1 := sy_started h hn s0
  rw [hC] at h1
  have er : (mCh2 A n).1 13 n 0 = sR A n := by
    have : (mCh2 A n).1 13 n 0 = (mCh1 A n).1 13 n 0 := by
      unfold mCh2
      split
      · rfl
      · rw [uA_ne (by decide)]
    rw [this]
    exact Ch1_rank
  have ep : (mCh2 A n).1 14 n 0 = sP' A n := by
    have : (mCh2 A n).1 14 n 0 = (mCh1 A n).1 14 n 0 := by
      unfold mCh2
      split
      · rfl
      · rw [uA_ne (by decide)]
    rw [this]
    exact Ch1_parent
  have hpo : nod (A.1 14 n 0) ∧ _ := w.1 14 n 0 (xV_n (by decide) hn)
  have fin : ∀ τ (l7 : Int32), bl l7 → RY σ0 B none τ (mCh3 A n) → ∃ σ', f_Y_choose_L308 τ (nX n) (A.1 14 n 0) l7 = some (l7, σ') ∧ RY σ0 (B + 2) none σ' (mChoose A n) := by
    intro τ l7 h7 hτ
    have := y_ch308 hτ hB (w_Ch3 w hn h0) hn (A.1 14 n 0) l7 hpo.1 h7
    have e3 : (mCh3 A n).1 14 n 0 = sP' A n := (Ch3_1 (Or.inr rfl)).trans Ch1_parent
    rw [e3] at this
    exact this
  unfold f_Y_choose_L268 f_Y_choose_L291 f_Y_choose_L296
  simp only [if_pos b4, if_pos hs, tm_w]
  rw [b3, gy_rank h1 hn, gy_parent h1 hn, er, ep]
  by_cases c : sR A n = A.1 13 n 0 ∧ sP' A n = A.1 14 n 0
  · rw [if_pos c.1, if_pos c.2, if_pos trivial, if_pos c]
    refine fin _ 0 (Or.inl rfl) ?_
    unfold mCh3
    rw [if_pos c]
    exact h1
  · obtain ⟨τ, e, hτ⟩ := y_reset h1 hn
    have hτ : RY σ0 B none τ (mCh3 A n) := by
      unfold mCh3
      rw [if_neg c]
      exact hτ
    rw [if_neg c, e]
    simp only [Option.bind_some]
    by_cases c1 : sR A n = A.1 13 n 0
    · rw [if_pos c1, if_neg (fun r => c ⟨c1, r⟩), if_neg (by decide)]
      exact fin τ 1 (Or.inr rfl) hτ
    · rw [if_neg c1, if_neg (by decide)]
      exact fin τ 1 (Or.inr rfl) hτ
theorem y_choose (h : RY σ0 B none σ A) (hB : B < 1999999990) (w : wf m A) (hn : n < 7) (h0 : n ≠ 0) : ∃ σ', f_Y_choose σ (nX n) = some (if sR A n = A.1 13 n 0 ∧ sP' A n = A.1 14 n 0 then 0 else 1, σ') ∧ RY σ0 (B + 2) none σ' (mChoose A n) := by
  obtain ⟨-, -, b3, b4⟩ := lp_a n hn
  have hl : A.1 15 n 0 ≤ 255 := w.1 15 n 0 (xV_n (by decide) hn)
  have hst : bl (A.1 25 n 0) ∧ _ := w.1 25 n 0 (xV_n (by decide) hn)
  obtain ⟨sum, hsum, e⟩ := y_best_lp h w hn 7 0 200 (-1) 0 (by omega) (by omega) (Or.inl rfl)
  have hsum : sBP A n = -1 ∨ (nds (sBP A n) ∧ sum = sSum A n (sBP A n).toNatClampNeg) := hsum
  have e : f_Y_choose σ (nX n) = f_Y_choose_L7 1 σ (nX n) (sBP A n) sum (nX 7) := e
  have hnodb : nod (sBP A n) := by
    rcases hsum with r | r
    · exact Or.inl r
    · exact Or.inr r.1
  /- from the flag on -/
  have l177 : ∀ f : Int32, (f = 0 ∧ ¬ sNone A n = true ∧ sum = sR A n ∧ sBP A n = sP' A n) ∨ (f = 1 ∧ sNone A n = true) → ∃ σ', f_Y_choose_L177 σ (nX n) (sBP A n) sum (A.1 13 n 0) (A.1 14 n 0) f = some (if sR A n = A.1 13 n 0 ∧ sP' A n = A.1 14 n 0 then 0 else 1, σ') ∧ RY σ0 (B + 2) none σ' (mChoose A n) := by
    intro f hf
    have h2 := sy_parent (sy_rank h hn (sR A n)) hn (sP' A n)
    have el : (sI (sI σ 139 n (sR A n)) 140 n (sP' A n)).1 141 n = A.1 15 n 0 := by
      rw [gy_least h2 hn, uA_ne (by decide), uA_ne (by decide)]
    have l243 : ∀ v : Int32, v = (if sR A n < A.1 15 n 0 then sR A n else A.1 15 n 0) → ∃ σ', f_Y_choose_L243 (sI (sI σ 139 n (sR A n)) 140 n (sP' A n)) (nX n) (A.1 13 n 0) (A.1 14 n 0) f v (nX n) = some (if sR A n = A.1 13 n 0 ∧ sP' A n = A.1 14 n 0 then 0 else 1, σ') ∧ RY σ0 (B + 2) none σ' (mChoose A n) := by
      intro v hv
      have h3 := sy_least h2 hn v
      have hC : uA (uA (uA A 13 n 0 (sR A n)) 14 n 0 (sP' A n)) 15 n 0 v = mCh1 A n := by
        rw [hv]
        rfl
      rw [hC] at h3
      have es : (mCh1 A n).1 25 n 0 = A.1 25 n 0 := by
        unfold mCh1
        rw [uA_ne (by decide), uA_ne (by decide), uA_ne (by decide)]
      have one : ¬ sR A n = 255 ∨ A.1 25 n 0 = 1 → uA (mCh1 A n) 25 n 0 1 = mCh2 A n := by
        intro r
        unfold mCh2
        by_cases r1 : sR A n = 255
        · rw [if_pos r1]
          have r2 : A.1 25 n 0 = 1 := r.resolve_left (fun q => q r1)
          have : uA (mCh1 A n) 25 n 0 ((mCh1 A n).1 25 n 0) = mCh1 A n := uA_self
          rw [es, r2] at this
          exact this
        · rw [if_neg r1]
      unfold f_Y_choose_L243 f_Y_choose_L263
      simp only [if_pos b4, tm_w]
      rw [b3, gy_started h3 hn, es]
      rcases hst.1 with s0 | s1
      · rw [if_pos s0]
        rcases hf with ⟨rfl, f1, f2, f3⟩ | ⟨rfl, f1⟩
        · rw [if_pos rfl]
          refine y_ch268 h3 hB hn h0 w 1 (Or.inr rfl) (one (Or.inl ?_))
          intro r
          have := (sNone_f f1).2
          unfold sR at r
          rw [if_neg f1] at r
          rw [r] at this
          exact absurd this (by decide)
        · rw [if_neg (by decide)]
          refine y_ch268 h3 hB hn h0 w 0 (Or.inl rfl) ?_
          have r1 : sR A n = 255 := if_pos f1
          unfold mCh2
          rw [if_pos r1]
          have : uA (mCh1 A n) 25 n 0 ((mCh1 A n).1 25 n 0) = mCh1 A n := uA_self
          rw [es, s0] at this
          exact this
      · rw [if_neg (show ¬ A.1 25 n 0 = 0 by rw [s1]; decide)]
        exact y_ch268 h3 hB hn h0 w 1 (Or.inr rfl) (one (Or.inr s1))
    unfold f_Y_choose_L177 f_Y_choose_L196 f_Y_choose_L212 f_Y_choose_L237
    simp only [if_pos b4, tm_w]
    rw [b3]
    rcases hf with ⟨rfl, f1, f2, f3⟩ | ⟨rfl, f1⟩
    · rw [if_pos rfl, if_pos rfl, if_pos rfl, f2, f3, el]
      by_cases c : A.1 15 n 0 ≤ sR A n
      · rw [if_pos c]
        exact l243 _ (by rw [if_neg (Int32.not_lt.mpr c)])
      · rw [if_neg c]
        exact l243 _ (by rw [if_pos (Int32.not_le.mp c)])
    · have r1 : sR A n = 255 := if_pos f1
      have r2 : sP' A n = -1 := if_pos f1
      have hnl : ¬ sR A n < A.1 15 n 0 := by
        rw [r1]
        exact Int32.not_lt.mpr hl
      rw [if_neg (by decide), if_neg (by decide), if_neg (by decide)]
      have := l243 (A.1 15 n 0) (by rw [if_neg hnl])
      rw [r1, r2] at this
      rw [r1, r2] at el
      rw [el, r1, r2]
      exact this
  rw [e, f_Y_choose_L7, if_pos (by decide)]
  unfold f_Y_choose_L172
  simp only [if_pos b4]
  rw [b3, gy_rank h hn, gy_parent h hn, gy_least h hn, gy_rise h]
  by_cases c1 : sBP A n = -1
  · rw [if_pos ((nod_neg hnodb).mpr c1)]
    refine l177 1 (Or.inr ⟨rfl, ?_⟩)
    unfold sNone sSR
    rw [if_pos c1]
    rfl
  · have hs2 : sum = sSR A n := by
      unfold sSR
      rw [if_neg c1]
      exact (hsum.resolve_left c1).2
    rw [if_neg (fun r => c1 ((nod_neg hnodb).mp r)), hs2]
    rw [hs2] at l177
    by_cases c2 : 254 < sSR A n
    · rw [if_pos c2]
      refine l177 1 (Or.inr ⟨rfl, ?_⟩)
      unfold sNone
      rw [decide_eq_true c2]
      rfl
    · rw [if_neg c2]
      by_cases c3 : sSR A n ≤ A.1 15 n 0 + A.1 0 0 0
      · rw [if_pos c3]
        have hnone : ¬ sNone A n = true := by
          unfold sNone
          rw [decide_eq_false c2, decide_eq_false (Int32.not_lt.mpr c3)]
          decide
        refine l177 0 (Or.inl ⟨rfl, hnone, ?_, ?_⟩)
        · unfold sR
          rw [if_neg hnone]
        · unfold sP'
          rw [if_neg hnone]
      · rw [if_neg c3]
        refine l177 1 (Or.inr ⟨rfl, ?_⟩)
        unfold sNone
        rw [decide_eq_true (Int32.not_le.mp c3), Bool.or_true]
end Y2
