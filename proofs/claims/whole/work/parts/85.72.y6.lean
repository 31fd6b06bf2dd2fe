/-! the reference does what the mathematics says: frames taken, the rest of a tick -/
section Y6
variable {σ0 σ : tm_S} {A : sA} {n m B x : Nat} {tmp : Option Nat}
theorem y_own (h : RY σ0 B none σ A) (hB : B < 1999999980) (w : wf 7 A) (hn : n < 7) (hx : x < 7) (hq : A.2 x ≠ []) (ha : ¬ A.1 11 n 0 = 0) : ∃ σ', f_Y_takes_L124 σ (nX n) (nX x) (Int32.ofNat (yp σ x 0)) = some σ' ∧ RY σ0 (B + 2) none σ' (if fr0 A x 1 = nX n then mOwn A n x (fr0 A x) else A) := by
  obtain ⟨-, -, b3, b4⟩ := lp_a n hn
  have hf := h.head hx hq
  have hwf := fr0_wf w hx hq
  obtain ⟨q1, q2, q3, q4⟩ := h.at hx hf
  obtain ⟨a1, a2, -, a4⟩ := s32_a _ q1
  have o49 := ok49_a n hn x hx
  obtain ⟨s0, n0, -, -, -, -, -, -, b7, -⟩ := h.2.2.2.2.1
  obtain ⟨s1, m1, -, -, -, -, hiff⟩ := b7 x 0 (fr0 A x) hx hf
  have hiff := hiff n hn
  generalize hs : yp σ x 0 = s at q1 q2 q3 q4 a1 a2 a4 hiff
  unfold f_Y_takes_L124
  simp only [if_pos a1, if_pos b4, if_pos o49, tm_w]
  rw [a2, b3, (ix49_a n hn x hx).1, q4.2.1]
  by_cases c0 : fr0 A x 1 = nX n
  · rw [if_pos c0, if_pos c0]
    have h1 := sy_owes h hn (nX x)
    rw [sI_ne1 (show 136 ≠ 152 by decide), sI_ne1 (show 155 ≠ 152 by decide)]
    unfold mOwn
    by_cases c1 : A.1 33 n x = fr0 A x 2
    · rw [if_pos (hiff.mp c1), if_pos c1]
      exact ⟨_, rfl, h1.mono (by omega)⟩
    · rw [if_neg (fun r => c1 (hiff.mpr r)), if_neg c1]
      have hf1 : ((uA A 22 n 0 (nX x)).2 x)[0]? = some (fr0 A x) := hf
      have ey : yp (sI σ 152 n (nX x)) x 0 = s := by
        unfold yp
        rw [sI_ne1 (by decide)]
        exact hs
      have en : (sI σ 152 n (nX x)).1 155 = σ.1 155 := sI_ne1 (by decide)
      have h2 := h1.recv (a := n) hx hf1
      rw [ey, en] at h2
      have w2 : wf 7 (uA (uA A 22 n 0 (nX x)) 33 n x (fr0 A x 2)) := (w.owes _ (Or.inr ⟨x, hx, rfl⟩) (fun e => absurd e ha)).s 33 n x _ trivial (by decide)
      have hF2 : FY (sI (sI σ 152 n (nX x)) 136 (7 * n + x) (σ.1 155 s)) s (fr0 A x) := (q4.wr (by decide)).wr (by decide)
      rw [hF2.1]
      rcases id hwf with ⟨-, r⟩ | ⟨r, -, r2⟩ | ⟨r, -⟩
      · rw [r] at c0
        exact absurd c0.symm (nI_a n hn).2.2
      · rw [if_pos r, if_pos r]
        obtain ⟨σ', e, h'⟩ := y_recA h2 (by omega) w2 hn hx q1 hF2 r r2
        rw [e]
        exact ⟨σ', rfl, h'.mono (by omega)⟩
      · have r3 : ¬ fr0 A x 0 = 3 := by
          rw [r]
          decide
        rw [if_neg r3, if_neg r3]
        obtain ⟨σ', e, h'⟩ := y_recV h2 (by omega) w2 hn hx q1 hF2 r hwf
        rw [e]
        exact ⟨σ', rfl, h'.mono (by omega)⟩
  · rw [if_neg c0, if_neg c0]
    exact ⟨σ, rfl, h.mono (by omega)⟩
theorem Tk_listens {A : sA} {n x i : Nat} (hn : n < 7) : (mTk A n x).1 23 i 0 = if i = n ∧ A.1 19 x 0 = 1 ∧ A.1 21 x 0 = nX n ∧ ¬ A.1 23 n 0 = 0 ∧ fr0 A n 1 = nX x then 0 else A.1 23 i 0 := by
  have hk : ∀ {C : sA}, kp true n A C → C.1 23 i 0 = A.1 23 i 0 := fun h => h.1 23 i 0 (Or.inl (by decide))
  unfold mTk
  by_cases c1 : A.1 19 x 0 = 1
  · rw [if_pos c1]
    unfold mAck
    by_cases c2 : A.1 21 x 0 = nX n ∧ ¬ A.1 23 n 0 = 0 ∧ fr0 A n 1 = nX x
    · rw [if_pos c2, (k_Pop (o := true) _ n).1 23 i 0 (Or.inl (by decide))]
      by_cases hi : i = n
      · subst hi
        rw [uA_eq, if_pos ⟨rfl, c1, c2⟩]
      · rw [uA_no hi, if_neg (fun r => hi r.1)]
    · rw [if_neg c2, if_neg (fun r => c2 r.2.2)]
  · have hc : ¬ (i = n ∧ A.1 19 x 0 = 1 ∧ A.1 21 x 0 = nX n ∧ ¬ A.1 23 n 0 = 0 ∧ fr0 A n 1 = nX x) := fun r => c1 r.2.1
    rw [if_neg c1, if_neg hc]
    split
    · exact hk (k_Sol A n)
    · split
      · exact hk (k_Advert A n x)
      · split
        · unfold mOwn
          split
          · exact uA_ne (by decide)
          · split
            · rw [(k_RecA (o := true) _ n x _).1 23 i 0 (Or.inl (by decide)), uA_ne (by decide), uA_ne (by decide)]
            · have e : ∀ C : sA, ∀ f : sFr, (mRecV C n x f).1 23 i 0 = C.1 23 i 0 := by
                intro C f
                unfold mRecV
                split
                · exact ((k_Drop (kp.rf (o := true) n C)).tr (k_Reset _ n)).1 23 i 0 (Or.inl (by decide))
                · split
                  · unfold mDeliver
                    rw [uA_ne (by decide), uA_ne (by decide), uA_ne (by decide)]
                  · split
                    · exact (k_Drop (kp.rf (o := true) n C)).1 23 i 0 (Or.inl (by decide))
                    · exact (k_Send (o := true) C n _ _ _ _ _).1 23 i 0 (Or.inl (by decide))
              rw [e, uA_ne (by decide), uA_ne (by decide)]
        · rfl
/-- node n takes what it hears from x -/
theorem y_tk (h : RY σ0 B none σ A) (hB : B < 1999999980) (hi : iHear 7 A) (hO : pO σ A) (hL : pLs σ A) (hn : n < 7) (hx : x < 7) (hne : n ≠ x) (ha : ¬ A.1 11 n 0 = 0) (h0 : A.1 19 n 0 = 0) (hxa : ¬ A.1 19 x 0 = 0) : ∃ τ, f_Y_takes σ (nX n) (nX x) = some τ ∧ RY τ (B + 2) none τ (mTk A n x) ∧ pO τ (mTk A n x) ∧ pLs τ (mTk A n x) ∧ τ.1 169 = σ.1 169 ∧ frY' σ τ := by
  obtain ⟨-, -, b3, b4⟩ := lp_a n hn
  obtain ⟨-, -, x3, x4⟩ := lp_a x hx
  have w := hi.1
  have hw : A.1 19 x 0 = 0 ∨ A.1 19 x 0 = 1 ∨ A.1 19 x 0 = 2 := w.1 19 x 0 (xV_n (by decide) hx)
  have hb := h.base
  /- a step that writes none of the air -/
  have calm : ∀ τ, RY σ (B + 2) none τ (mTk A n x) → (¬ A.1 19 x 0 = 1 ∨ ¬ (A.1 21 x 0 = nX n ∧ ¬ A.1 23 n 0 = 0 ∧ fr0 A n 1 = nX x)) → RY τ (B + 2) none τ (mTk A n x) ∧ pO τ (mTk A n x) ∧ pLs τ (mTk A n x) ∧ τ.1 169 = σ.1 169 ∧ frY' σ τ := by
    intro τ hC hc
    obtain ⟨q1, q2, q3, q4, q5⟩ := fr5 hC.fr
    refine ⟨hC.base, pO_kp hO (k_Tk A n x) q1 q2, fun i hi7 => ?_, q3, frY'.of hC.fr⟩
    rw [q4, q5, Tk_listens hn, if_neg]
    · exact hL i hi7
    · rintro ⟨-, r1, r2⟩
      rcases hc with r | r
      · exact r r1
      · exact r r2
  unfold f_Y_takes
  simp only [if_pos b4, if_pos x4, tm_w]
  rw [x3, b3, (hO x hx).1]
  rcases hw with r | r | r
  · exact absurd r hxa
  · have e2 : oa (A.1 19 x 0) = 2 := by
      rw [r]
      decide
    rw [e2, if_pos rfl, (hO x hx).2 r, gy_listens h hn]
    have emk : mTk A n x = mAck A n x := by
      unfold mTk
      rw [if_pos r]
    by_cases c1 : A.1 21 x 0 = nX n
    · rw [if_pos c1]
      by_cases c2 : A.1 23 n 0 = 0
      · rw [if_pos c2]
        refine ⟨σ, rfl, calm σ ?_ (Or.inr (fun r => r.2.1 c2))⟩
        rw [emk]
        unfold mAck
        rw [if_neg (fun r => r.2.1 c2)]
        exact hb.mono (by omega)
      · have hq := (w.2 n hn).2.2.2.1 c2
        have hf := h.head hn hq
        obtain ⟨q1, q2, q3, q4⟩ := h.at hn hf
        rw [Nat.add_zero] at q2
        obtain ⟨a1, a2, -, a4⟩ := s32_a _ q1
        rw [if_neg c2, (ix4_a n hn).1, q2, a2, if_pos (by rw [← (ix4_a n hn).1]; exact (ix4_a n hn).2), if_pos a4, q4.2.1]
        by_cases c3 : fr0 A n 1 = nX x
        · rw [if_pos c3]
          have h1 : RY (sI σ 171 n 1) B none (sI σ 171 n 1) A := h.ph (by decide)
          obtain ⟨τ, e, h2⟩ := y_done (sy_listens h1 hn 0) hn hq
          rw [e]
          have ec : mTk A n x = mPop (uA A 23 n 0 0) n := by
            rw [emk]
            unfold mAck
            rw [if_pos ⟨c1, c2, c3⟩]
          obtain ⟨q1, q2, q3, q4, q5⟩ := fr5 h2.fr
          refine ⟨τ, rfl, ?_, ?_, fun i hi7 => ?_, ?_, ?_⟩
          · rw [ec]
            exact h2.base.mono (by omega)
          · refine pO_kp hO (k_Tk A n x) ?_ ?_
            · rw [q1, sI_ne1 (by decide)]
            · rw [q2, sI_ne1 (by decide)]
          · rw [q4, q5, sI_ne1 (show 170 ≠ 171 by decide), Tk_listens hn]
            by_cases hin : i = n
            · subst hin
              rw [sI_eq, if_pos ⟨rfl, r, c1, c2, c3⟩]
              exact ⟨fun z => absurd z.2 (by decide), fun z => absurd rfl z⟩
            · rw [sI_no (fun z => hin z.2), if_neg (fun z => hin z.1)]
              exact hL i hi7
          · rw [q3, sI_ne1 (by decide)]
          · exact (frY'.ph (by decide)).tr (frY'.of h2.fr)
        · rw [if_neg c3]
          refine ⟨σ, rfl, calm σ ?_ (Or.inr (fun r => c3 r.2.2))⟩
          rw [emk]
          unfold mAck
          rw [if_neg (fun r => c3 r.2.2)]
          exact hb.mono (by omega)
    · rw [if_neg c1]
      refine ⟨σ, rfl, calm σ ?_ (Or.inr (fun r => c1 r.1))⟩
      rw [emk]
      unfold mAck
      rw [if_neg (fun r => c1 r.1)]
      exact hb.mono (by omega)
  · have e1 : ¬ oa (A.1 19 x 0) = 2 := by
      rw [r]
      decide
    have r1 : ¬ A.1 19 x 0 = 1 := by
      rw [r]
      decide
    have hq := (hi.2.1 x (Nat.zero_le _) hx r).1
    have hf := h.head hx hq
    have hwf := fr0_wf w hx hq
    obtain ⟨q1, q2, q3, q4⟩ := h.at hx hf
    rw [Nat.add_zero] at q2
    obtain ⟨a1, a2, -, a4⟩ := s32_a _ q1
    have hown := y_own hb hB w hn hx hq ha
    rw [if_neg e1, (ix4_a x hx).1, q2, a2, if_pos (by rw [← (ix4_a x hx).1]; exact (ix4_a x hx).2), if_pos a4, q4.1, if_pos a4, gy_rank h hn]
    have emk : mTk A n x = if fr0 A x 0 = 1 then mSol A n else if fr0 A x 0 = 2 then mAdvert A n x else if fr0 A x 1 = nX n then mOwn A n x (fr0 A x) else A := by
      unfold mTk
      rw [if_neg r1]
    by_cases c2 : fr0 A x 0 = 2
    · rw [if_pos c2]
      have c1 : ¬ fr0 A x 0 = 1 := by
        rw [c2]
        decide
      obtain ⟨τ, e, h2⟩ := y_advert hb (by omega) w hn hx hne
      rw [e]
      refine ⟨τ, rfl, calm τ ?_ (Or.inl r1)⟩
      rw [emk, if_neg c1, if_pos c2]
      exact h2
    · rw [if_neg c2]
      by_cases c1 : fr0 A x 0 = 1
      · rw [if_pos c1]
        have hto : fr0 A x 1 = -1 := by
          rcases hwf with ⟨-, z⟩ | ⟨z, -⟩ | ⟨z, -⟩
          · exact z
          · rw [c1] at z
            exact absurd z (by decide)
          · rw [c1] at z
            exact absurd z (by decide)
        by_cases c3 : A.1 13 n 0 = 255
        · have hn0 : ¬ n = 0 := by
            intro e
            have hr : (1 ≤ A.1 13 n 0 ∧ A.1 13 n 0 ≤ 255) ∧ (n = 0 → A.1 13 n 0 = 1) := w.1 13 n 0 (xV_n (by decide) hn)
            rw [hr.2 e] at c3
            exact absurd c3 (by decide)
          rw [if_pos c3]
          obtain ⟨τ, e, h2⟩ := hown
          rw [e]
          refine ⟨τ, rfl, calm τ ?_ (Or.inl r1)⟩
          have hto2 : ¬ fr0 A x 1 = nX n := by
            rw [hto]
            exact fun z => (nI_a n hn).2.2 z.symm
          rw [if_neg hto2] at h2
          rw [emk, if_pos c1]
          unfold mSol
          rw [if_neg (fun z => z.elim hn0 (fun z => z c3))]
          exact h2
        · rw [if_neg c3]
          obtain ⟨τ, e, h2⟩ := y_reset hb hn
          rw [e]
          refine ⟨τ, rfl, calm τ ?_ (Or.inl r1)⟩
          rw [emk, if_pos c1]
          unfold mSol
          rw [if_pos (Or.inr c3)]
          exact h2.mono (by omega)
      · rw [if_neg c1]
        obtain ⟨τ, e, h2⟩ := hown
        rw [e]
        refine ⟨τ, rfl, calm τ ?_ (Or.inl r1)⟩
        rw [emk, if_neg c1, if_neg c2]
        exact h2
theorem y_unheard (h : RY σ0 B none σ A) (hB : B < 1999999980) (w : wf 7 A) (hn : n < 7) (hl : ¬ A.1 23 n 0 = 0) (h0 : A.1 19 n 0 = 0) : ∃ τ, f_Y_unheard σ (nX n) = some τ ∧ RY σ0 (B + 2) none τ (mLis A n) := by
  obtain ⟨-, -, b3, b4⟩ := lp_a n hn
  have hq := (w.2 n hn).2.2.2.1 hl
  have h1 := sy_listens h hn 0
  have e1 : (sI σ 153 n 0).1 151 n = A.1 18 n 0 := by
    rw [gy_tries h1 hn, uA_ne (by decide)]
  have h2 : RY σ0 B none (sI (sI σ 153 n 0) 151 n (A.1 18 n 0 + 1)) (mTr A n) := sy_tries h1 hn _
  have hc : ¬ (A.1 23 n 0 = 0 ∨ ¬ A.1 19 n 0 = 0) := fun r => r.elim hl (fun r => r h0)
  unfold f_Y_unheard mLis
  simp only [if_pos b4, tm_w]
  rw [b3, e1, sI_eq, if_neg hc]
  by_cases c : A.1 18 n 0 + 1 = 4
  · rw [if_pos c, if_pos c]
    have wT : wf 7 (mTr A n) := (w.listens (n := n) 0 (Or.inl rfl) (fun _ => rfl) (fun q => absurd rfl q)).s 18 n 0 _ trivial (by decide)
    have lT : (mTr A n).1 23 n 0 = 0 := by
      unfold mTr
      rw [uA_ne (by decide), uA_eq]
    obtain ⟨τ, e, h3⟩ := y_fail h2 (by omega) wT.weak hn lT hq
    rw [e]
    exact ⟨τ, rfl, h3⟩
  · rw [if_neg c, if_neg c]
    obtain ⟨τ, e, h3⟩ := y_draw (sy_busy h2 hn 0) (k := 4) (by decide)
    rw [e]
    simp only [Option.bind_some]
    exact ⟨_, rfl, (sy_wait h3 hn _).mono (by omega)⟩
theorem y_later (h : RY σ0 B none σ A) (hB : B < 1999999980) (w : wf 7 A) (hn : n < 7) (ha : ¬ A.1 11 n 0 = 0) : ∃ τ, f_Y_later σ (nX n) = some τ ∧ RY σ0 (B + 3) none τ (mLater A n) := by
  obtain ⟨-, -, b3, b4⟩ := lp_a n hn
  obtain ⟨τ1, e1, h1⟩ := y_timer h (by omega) w hn ha
  have w1 := w_Timer w hn ha
  have ha1 := (k_Timer (o := true) A n).alive n ha
  have l53 : ∀ τ C, RY σ0 (B + 2) none τ C → wf 7 C → ∃ τ', f_Y_later_L53 τ (nX n) = some τ' ∧ RY σ0 (B + 3) none τ' (mLat2 C n) := by
    intro τ C hC wC
    have hp : nod (C.1 14 n 0) ∧ _ := wC.1 14 n 0 (xV_n (by decide) hn)
    unfold f_Y_later_L53 mLat2
    simp only [if_pos b4, if_pos (ix8_a n hn).2.1, tm_w]
    rw [b3, (ix8_a n hn).1, gy_ticks hC, gy_parent hC hn, y_goals hC wC hn]
    simp only [Option.bind_some]
    by_cases c1 : C.1 3 0 0 - C.1 3 0 0 / 64 * 64 = 0
    · rw [if_pos c1]
      by_cases c2 : C.1 14 n 0 = -1
      · rw [if_pos ((nod_neg hp.1).mpr c2), if_pos (Or.inl c2)]
        exact ⟨τ, rfl, hC.mono (by omega)⟩
      · have hc : ¬ (C.1 14 n 0 = -1 ∨ ¬ C.1 3 0 0 - C.1 3 0 0 / 64 * 64 = 0) := fun r => r.elim c2 (fun r => r c1)
        rw [if_neg (fun r => c2 ((nod_neg hp.1).mp r)), if_neg hc]
        have e8 : 8 * n = 7 * n + n := by omega
        have hD2 : RY σ0 (B + 2) none (sI τ 135 (7 * n + n) (C.1 32 n n + 1)) (mNum C n) := sy_numbers hC hn hn _
        have ep : (sI τ 135 (7 * n + n) (C.1 32 n n + 1)).1 140 n = C.1 14 n 0 := by
          rw [gy_parent hD2 hn]
          unfold mNum
          rw [uA_ne (by decide)]
        rw [e8, gy_numbers hC hn hn, ep]
        obtain ⟨τ', e, h'⟩ := y_ann hD2 (by omega) hn (sGoals C n) (C.1 14 n 0) 0 (Or.inl rfl)
        rw [e]
        refine ⟨τ', rfl, ?_⟩
        unfold mAnnO
        rw [Goals_congr (A := C) (C := mNum C n) (fun g => by
          unfold mNum
          rw [uA_ne (by decide)])]
        exact h'
    · rw [if_neg c1, if_pos (Or.inr c1)]
      exact ⟨τ, rfl, hC.mono (by omega)⟩
  have eL : mLater A n = mLat2 (mLat1 (mTimer A n) n) n := by
    unfold mLater
    rw [if_neg ha]
  rw [eL]
  unfold f_Y_later
  rw [e1]
  simp only [Option.bind_some]
  rw [if_pos b4, b3, gy_rank h1 hn, gy_ticks h1]
  unfold mLat1
  by_cases c0 : n = 0
  · have hz : nX n ≤ 0 := by
      rw [c0]
      decide
    rw [if_pos hz, if_neg (fun r => r.1 c0)]
    exact l53 τ1 _ (h1.mono (by omega)) w1
  · have hz : ¬ nX n ≤ 0 := by
      have : ∀ z, z < 7 → z ≠ 0 → ¬ nX z ≤ 0 := by decide
      exact this n hn c0
    rw [if_neg hz]
    by_cases c1 : (mTimer A n).1 13 n 0 = 255
    · rw [if_pos c1]
      by_cases c2 : (mTimer A n).1 3 0 0 - (mTimer A n).1 3 0 0 / 16 * 16 = 0
      · rw [if_pos c2, if_pos ⟨c0, c1, c2⟩]
        obtain ⟨τ2, e2, h2⟩ := y_once h1 (by omega) hn (k := 1) (Or.inl rfl) (fun q => f_Y_later_L53 q (nX n))
        rw [e2]
        exact l53 τ2 _ h2 (w_Once w1 hn (Or.inl rfl) ha1)
      · rw [if_neg c2, if_neg (fun r => c2 r.2.2)]
        exact l53 τ1 _ (h1.mono (by omega)) w1
    · rw [if_neg c1, if_neg (fun r => c1 r.2.1)]
      exact l53 τ1 _ (h1.mono (by omega)) w1
end Y6
