/-! the class does what the mathematics says: timers, ticks -/
section X7
variable {σ0 σ : tm_S} {A : sA} {n m x : Nat}
theorem once_a : ∀ j, j < 4 → ¬ (nX j < 0 ∨ 4 ≤ (nX j).toNatClampNeg) ∧ (nX j).toNatClampNeg = j ∧ nX j + 1 = nX (j + 1) := by decide
theorem len_le_a : ∀ l, l < 5 → ∀ j, j < 5 → (nX l ≤ nX j ↔ l ≤ j) := by decide
theorem x_once_lp (h : RX σ0 σ A) (hn : n < 7) {kd_ : Int32} (hkd : kd_ = 1 ∨ kd_ = 2) : ∀ (c j k : Nat), j + c = (A.2 n).length → c < k → (∀ i f, i < j → (A.2 n)[i]? = some f → ¬ f 0 = kd_) → ∃ σ', f_X_enqueueOnce_L2 k σ (11 + 17 * n) kd_ (nX j) = some σ' ∧ RX σ0 σ' (mOnce A n kd_)
  | 0, j, k + 1, hj, _, hno => by
    have hlen := h.len hn
    have hany : ¬ (A.2 n).any (fun f => f 0 == kd_) = true := by
      intro r
      obtain ⟨f, hf, e⟩ := List.any_eq_true.mp r
      obtain ⟨i, hi⟩ := List.getElem?_of_mem hf
      exact hno i f (by have := (List.getElem?_eq_some_iff.mp hi).1; omega) hi (eq_of_beq e)
    rw [f_X_enqueueOnce_L2, h.size hn, if_pos ((len_le_a _ (by omega) j (by omega)).mpr (by omega))]
    unfold mOnce
    rw [if_neg hany]
    by_cases hl : 4 ≤ (A.2 n).length
    · rw [x_full h hn hl]
      unfold mPut
      rw [if_pos hl]
      exact ⟨σ, rfl, h⟩
    · have hl : (A.2 n).length < 4 := by omega
      obtain ⟨σ1, q, f, e1, eq, ekd, ek, et, h1⟩ := x_enqueue h hn hl kd_ (-1)
      rw [e1]
      refine ⟨σ1, rfl, ?_⟩
      have hB := Put_2 (f := f) hl
      have hF := (h1.2.1 n hn).2.2.2.2 (A.2 n).length (fSr f (A.1 4 0 0 + 1)) (by rw [hB]; simp)
      rw [← eq] at hF
      have key := h1.last hn hB eq (σ' := σ1) (f' := fSr (frK kd_) (A.1 4 0 0 + 1)) (fun _ _ _ => rfl) rfl ?_
      · rw [Put_uQ hl] at key
        exact key
      · refine ⟨?_, ?_, ?_, fun hk => ?_, fun hk => ?_⟩
        · rw [hF.1]
          exact ek
        · rw [hF.2.1]
          exact et
        · rw [hF.2.2.1]
          rfl
        · have hk : kd_ = 3 := hk
          rcases hkd with r | r <;> (rw [r] at hk; exact absurd hk (by decide))
        · have hk : kd_ = 4 := hk
          rcases hkd with r | r <;> (rw [r] at hk; exact absurd hk (by decide))
  | c + 1, j, k + 1, hj, hk, hno => by
    have hlen := h.len hn
    obtain ⟨a1, a2, a3⟩ := once_a j (by omega)
    obtain ⟨f, hf⟩ : ∃ f, (A.2 n)[j]? = some f := ⟨_, List.getElem?_eq_getElem (by omega)⟩
    have hF := (h.2.1 n hn).2.2.2.2 j f hf
    have hF1 : σ.1 (σ.2 (11 + 17 * n + 1 + 1) j) 1 = f 0 := hF.1
    rw [f_X_enqueueOnce_L2, h.size hn, if_neg (fun r => by have := (len_le_a _ (by omega) j (by omega)).mp r; omega), if_pos a1, a2, a3]
    simp only [tm_w]
    rw [if_pos (h.kd hn (by omega)), hF1]
    by_cases c1 : f 0 = kd_
    · rw [if_pos c1]
      refine ⟨σ, rfl, ?_⟩
      unfold mOnce
      rw [if_pos]
      · exact h
      · exact List.any_eq_true.mpr ⟨f, List.mem_of_getElem? hf, by rw [c1]; exact beq_self_eq_true _⟩
    · rw [if_neg c1]
      refine x_once_lp h hn hkd c (j + 1) k (by omega) (by omega) (fun i g hi hg => ?_)
      by_cases hij : i = j
      · subst hij
        obtain rfl : f = g := Option.some.inj (hf.symm.trans hg)
        exact c1
      · exact hno i g (by omega) hg
theorem x_once (h : RX σ0 σ A) (hn : n < 7) {kd_ : Int32} (hkd : kd_ = 1 ∨ kd_ = 2) : ∃ σ', f_X_enqueueOnce σ (11 + 17 * n) kd_ = some σ' ∧ RX σ0 σ' (mOnce A n kd_) := x_once_lp h hn hkd (A.2 n).length 0 200 (by omega) (by have := h.len hn; omega) (fun i _ hi => absurd hi (by omega))
theorem x_tm2 (h : RX σ0 σ A) (w : wf m A) (hn : n < 7) : ∃ σ', f_X_runTimer_L43 σ (11 + 17 * n + 11) = some σ' ∧ RX σ0 σ' (mTm2 A n) := by
  unfold f_X_runTimer_L43 mTm2
  rw [gx_clock h hn, gx_interval h hn]
  by_cases c1 : A.1 27 n 0 = A.1 26 n 0
  · rw [if_pos c1, if_pos c1]
    obtain ⟨σ', e, h'⟩ := x_begin h hn (ivl_half (ivl_dbl (w.1 26 n 0 (xV_n (by decide) hn))))
    rw [e]
    exact ⟨σ', rfl, h'⟩
  · rw [if_neg c1, if_neg c1]
    exact ⟨σ, rfl, h⟩
theorem x_timer (h : RX σ0 σ A) (w : wf 7 A) (hn : n < 7) (ha : ¬ A.1 11 n 0 = 0) (hs : ¬ A.1 25 n 0 = 0) : ∃ σ', f_X_runTimer σ (11 + 17 * n) = some σ' ∧ RX σ0 σ' (mTimer A n) := by
  have h1 : RX σ0 (sI σ (11 + 17 * n + 11) 2 (A.1 27 n 0 + 1)) (mCk A n) := sx_clock h hn _
  have w1 : wf 7 (mCk A n) := w.s 27 n 0 _ trivial (by decide)
  unfold f_X_runTimer mTimer mTm1
  rw [if_neg hs, gx_clock h hn]
  simp only [tm_w]
  rw [gx_clock h1 hn, gx_point h1 hn, gx_redundant h1, gx_count h1 hn]
  by_cases c1 : (mCk A n).1 27 n 0 = (mCk A n).1 28 n 0
  · rw [if_pos c1]
    by_cases c2 : (mCk A n).1 1 0 0 ≤ (mCk A n).1 29 n 0
    · rw [if_pos c2, if_neg (fun r => Int32.not_lt.mpr c2 r.2)]
      exact x_tm2 h1 w1 hn
    · rw [if_neg c2, if_pos ⟨c1, Int32.not_le.mp c2⟩]
      obtain ⟨σ2, e, h2⟩ := x_once h1 hn (kd_ := 2) (Or.inr rfl)
      rw [e]
      exact x_tm2 h2 (w_Once w1 hn (Or.inr rfl) ha) hn
  · rw [if_neg c1, if_neg (fun r => c1 r.1)]
    exact x_tm2 h1 w1 hn
theorem x_later (h : RX σ0 σ A) (hi : iLater n A) (hn : n < 7) (k : Nat) : ∃ τ, f_X_runTimers_L2 (k + 1) σ (nX n) = f_X_runTimers_L2 k τ (nX (n + 1)) ∧ RX σ0 τ (mLater A n) := by
  obtain ⟨a1, a2, a3, a4⟩ := lp_a n hn
  have w := hi.1
  rw [f_X_runTimers_L2, if_neg a1, if_pos a4, a3, gx_alive h hn, gx_started h hn]
  unfold mLater
  by_cases c1 : A.1 11 n 0 = 0
  · rw [if_pos c1, if_pos c1]
    unfold f_X_runTimers_L112
    rw [a2]
    exact ⟨σ, rfl, h⟩
  · rw [if_neg c1, if_neg c1]
    have l70 : ∀ τ B, RX σ0 τ B → wf 7 B → ∃ τ', f_X_runTimers_L70 (f_X_runTimers_L2 k) τ (nX n) (11 + 17 * n) = f_X_runTimers_L2 k τ' (nX (n + 1)) ∧ RX σ0 τ' (mLat2 B n) := by
      intro τ B hB wB
      unfold f_X_runTimers_L70 f_X_runTimers_L112 mLat2
      rw [a2, gx_parent hB hn, gx_ticks hB]
      by_cases d1 : B.1 14 n 0 = -1
      · rw [if_pos d1, if_pos (Or.inl d1)]
        exact ⟨τ, rfl, hB⟩
      · rw [if_neg d1]
        by_cases d2 : B.1 3 0 0 - B.1 3 0 0 / 64 * 64 = 0
        · have hc : ¬ (B.1 14 n 0 = -1 ∨ ¬ B.1 3 0 0 - B.1 3 0 0 / 64 * 64 = 0) := fun r => r.elim d1 (fun r => r d2)
          rw [if_pos d2, if_neg hc, if_pos a4, if_pos a4, a3, gx_numbers hB hn hn]
          simp only [tm_w]
          have h3 : RX σ0 (sI τ (11 + 17 * n + 14) n (B.1 32 n n + 1)) (mNum B n) := sx_numbers hB hn hn _
          rw [x_goals h3 (wB.id hn) hn]
          simp only [Option.bind_some]
          rw [gx_parent h3 hn]
          have ep : (mNum B n).1 14 n 0 = B.1 14 n 0 := uA_ne (by decide)
          rw [ep]
          obtain ⟨σ', e, h'⟩ := x_ann h3 hn (sGoals (mNum B n) n) (B.1 14 n 0) 0 (Or.inl rfl)
          rw [e]
          exact ⟨σ', rfl, h'⟩
        · rw [if_neg d2, if_pos (Or.inr d2)]
          exact ⟨τ, rfl, hB⟩
    have l40 : ∀ τ B, RX σ0 τ B → wf 7 B → ¬ B.1 11 n 0 = 0 → ∃ τ', f_X_runTimers_L40 (f_X_runTimers_L2 k) τ (nX n) (11 + 17 * n) = f_X_runTimers_L2 k τ' (nX (n + 1)) ∧ RX σ0 τ' (mLat2 (mLat1 B n) n) := by
      intro τ B hB wB hal
      unfold f_X_runTimers_L40 mLat1
      rw [gx_rank hB hn, gx_ticks hB]
      by_cases d0 : n = 0
      · rw [if_pos ((nX_0 hn).mpr d0), if_neg (fun r => r.1 d0)]
        exact l70 τ B hB wB
      · rw [if_neg (fun r => d0 ((nX_0 hn).mp r))]
        by_cases d1 : B.1 13 n 0 = 255
        · rw [if_pos d1]
          by_cases d2 : B.1 3 0 0 - B.1 3 0 0 / 16 * 16 = 0
          · rw [if_pos d2, if_pos ⟨d0, d1, d2⟩]
            obtain ⟨τ1, e, h1⟩ := x_once hB hn (kd_ := 1) (Or.inl rfl)
            rw [e]
            simp only [Option.bind_some]
            exact l70 τ1 _ h1 (w_Once wB hn (Or.inl rfl) hal)
          · rw [if_neg d2, if_neg (fun r => d2 r.2.2)]
            exact l70 τ B hB wB
        · rw [if_neg d1, if_neg (fun r => d1 r.2.1)]
          exact l70 τ B hB wB
    by_cases c2 : A.1 25 n 0 = 0
    · have e : mTimer A n = A := by
        unfold mTimer
        rw [if_pos c2]
      rw [if_pos c2, e]
      exact l40 σ A h w c1
    · rw [if_neg c2]
      obtain ⟨τ1, e, h1⟩ := x_timer h w hn c1 c2
      rw [e]
      simp only [Option.bind_some]
      exact l40 τ1 _ h1 (w_Timer w hn c1) ((k_Timer (o := true) A n).alive n c1)
theorem x_later_lp : ∀ (c n k : Nat) (τ : tm_S) (B : sA), n + c = 7 → c < k → iLater n B → RX σ0 τ B → ∃ σ', f_X_runTimers_L2 k τ (nX n) = some σ' ∧ RX σ0 σ' (lp mLater c n B)
  | 0, n, k + 1, τ, B, hg, _, _, h => by
    obtain rfl : n = 7 := by omega
    rw [f_X_runTimers_L2, if_pos (by decide)]
    exact ⟨τ, rfl, h⟩
  | c + 1, n, k + 1, τ, B, hg, hk, hi, h => by
    obtain ⟨τ', e, h'⟩ := x_later h hi (by omega) k
    rw [e]
    exact x_later_lp c (n + 1) k τ' _ (by omega) (by omega) (s_Later n B (by omega) hi) h'
/-- how many values arrived, through a tick -/
theorem aB_Rem {K n : Nat} {A : sA} (h : aB K A) : aB K (mRem A n) := aB_eq h (fun i => by
  unfold mRem
  rw [uA_ne (by decide), uA_ne (by decide)])
theorem aB_Hear {K n : Nat} {A : sA} (h : aB K A) : aB K (mHear A n) := aB_eq h (fun i => uA_ne (by decide))
theorem aB_Air {K n : Nat} {A : sA} (h : aB K A) : aB K (mAir A n) := by
  refine aB_eq h (fun i => ?_)
  have kB : kp true n A (mBz A n) := (kp.rf n A).s 17 0 _ (by decide) (by decide)
  unfold mAir
  split
  · rw [uA_ne (by decide), uA_ne (by decide), uA_ne (by decide)]
  · split
    · rfl
    · split
      · rw [uA_ne (by decide)]
      · split
        · rw [uA_ne (by decide), uA_ne (by decide)]
        · split
          · exact (kB.tr (k_Fail _ n)).1 10 i 0 (Or.inl (by decide))
          · exact ((k_draw kB).s 16 0 _ (by decide) (by decide)).1 10 i 0 (Or.inl (by decide))
theorem aB_Set {K n : Nat} {A : sA} (h : aB K A) : aB K (mSet A n) := by
  refine aB_eq h (fun i => ?_)
  unfold mSet
  split
  · split
    · exact (k_Pop (o := true) A n).1 10 i 0 (Or.inl (by decide))
    · exact uA_ne (by decide)
  · rfl
theorem aB_Lis {K n : Nat} {A : sA} (h : aB K A) : aB K (mLis A n) := by
  refine aB_eq h (fun i => ?_)
  have eT : (mTr A n).1 10 i 0 = A.1 10 i 0 := by
    unfold mTr
    rw [uA_ne (by decide), uA_ne (by decide)]
  unfold mLis
  split
  · rfl
  · split
    · rw [(k_Fail (o := true) (mTr A n) n).1 10 i 0 (Or.inl (by decide))]
      exact eT
    · rw [uA_ne (by decide)]
      unfold dA
      rw [uA_ne (by decide), uA_ne (by decide)]
      exact eT
theorem aB_Later {K n : Nat} {A : sA} (h : aB K A) : aB K (mLater A n) := aB_kp h (k_Later A n)
theorem aB_lp {K : Nat} {f : sA → Nat → sA} (hf : ∀ n A, aB K A → aB K (f A n)) : ∀ (c n : Nat) (A : sA), aB K A → aB K (lp f c n A)
  | 0, _, _, h => h
  | c + 1, n, A, h => aB_lp hf c (n + 1) (f A n) (hf n A h)
theorem aB_lpT {K : Nat} : ∀ (c n : Nat) (A : sA), aB K A → aB (K + c) (lp mTake c n A)
  | 0, _, _, h => h
  | c + 1, n, A, h => by
    have := aB_lpT c (n + 1) (mTake A n) (aB_Take h n)
    rw [show K + (c + 1) = K + 1 + c by omega]
    exact this
theorem aB_3 {K : Nat} {A : sA} (h : aB K A) : aB K (tA3 A) := by
  unfold tA3 tA2 tA1 tA0
  exact aB_lp (fun n A => aB_Hear) 7 0 _ (aB_lp (fun n A => aB_Air) 7 0 _ (aB_lp (fun n A => aB_Rem) 7 0 _ (aB_eq h (fun i => uA_ne (by decide)))))
theorem aB_Tick {K : Nat} {A : sA} (h : aB K A) : aB (K + 7) (mTick A) := by
  rw [mTick_eq]
  unfold tA6 tA5 tA4
  exact aB_lp (fun n A => aB_Later) 7 0 _ (aB_lp (fun n A => aB_Lis) 7 0 _ (aB_lp (fun n A => aB_Set) 7 0 _ (aB_lpT 7 0 _ (aB_3 h))))
theorem x_tick {K : Nat} (hK : K < 1999999000) (h : RX σ0 σ A) (hi : iT A) (ha : aB K A) (k : Nat) (l1 l2 : Int32) (hl : ¬ l1 ≤ l2) : ∃ τ, f_X_tick_L14 (k + 1) σ l1 l2 = f_X_tick_L14 k τ l1 (l2 + 1) ∧ RX σ0 τ (mTick A) := by
  have h0 : RX σ0 (sI σ 1 5 (A.1 3 0 0 + 1)) (tA0 A) := sx_ticks h _
  obtain ⟨τ1, e1, h1⟩ := x_rem_lp 7 0 200 _ _ (by omega) (by omega) h0
  have h1 : RX σ0 τ1 (tA1 A) := h1
  obtain ⟨τ2, e2, h2⟩ := x_air_lp 7 0 200 _ _ (by omega) (by omega) (t_1 hi) h1
  have h2 : RX σ0 τ2 (tA2 A) := h2
  obtain ⟨τ3, e3, h3⟩ := x_hear_lp 7 0 200 _ _ (by omega) (by omega) h2
  have h3 : RX σ0 τ3 (tA3 A) := h3
  obtain ⟨τ4, e4, h4⟩ := x_take_lp hK 7 0 200 _ _ (by omega) (by omega) (t_3 hi) (aB_3 ha) h3
  have h4 : RX σ0 τ4 (tA4 A) := h4
  obtain ⟨τ5, e5, h5⟩ := x_set_lp 7 0 200 _ _ (by omega) (by omega) (t_4 hi) h4
  have h5 : RX σ0 τ5 (tA5 A) := h5
  obtain ⟨τ6, e6, h6⟩ := x_lis_lp 7 0 200 _ _ (by omega) (by omega) (t_5 hi) h5
  have h6 : RX σ0 τ6 (tA6 A) := h6
  obtain ⟨τ7, e7, h7⟩ := x_later_lp 7 0 200 _ _ (by omega) (by omega) (t_6 hi) h6
  have h7 : RX σ0 τ7 (mTick A) := by
    rw [mTick_eq]
    exact h7
  refine ⟨τ7, ?_, h7⟩
  rw [f_X_tick_L14, if_neg hl, gx_ticks h]
  simp only [tm_w]
  have g1 : f_X_rememberTheAir (sI σ 1 5 (A.1 3 0 0 + 1)) = some τ1 := e1
  have g2 : f_X_goOnTheAir τ1 = some τ2 := e2
  have g3 : f_X_hearTheAir τ2 = some τ3 := e3
  have g4 : f_X_takeWhatWasHeard τ3 = some τ4 := e4
  have g5 : f_X_settleWhatWasOnTheAir τ4 = some τ5 := e5
  have g6 : f_X_settleWhatWasListenedFor τ5 = some τ6 := e6
  have g7 : f_X_runTimers τ6 = some τ7 := e7
  simp only [g1, g2, g3, g4, g5, g6, g7, Option.bind_some]
end X7
