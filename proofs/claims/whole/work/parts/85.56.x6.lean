/-! the class does what the mathematics says: a tick -/
section X6
variable {σ0 σ : tm_S} {A : sA} {n m x : Nat}
theorem x_rem_lp : ∀ (c n k : Nat) (τ : tm_S) (B : sA), n + c = 7 → c < k → RX σ0 τ B → ∃ σ', f_X_rememberTheAir_L2 k τ (nX n) = some σ' ∧ RX σ0 σ' (lp mRem c n B)
  | 0, n, k + 1, τ, B, hg, _, h => by
    obtain rfl : n = 7 := by omega
    rw [f_X_rememberTheAir_L2, if_pos (by decide)]
    exact ⟨τ, rfl, h⟩
  | c + 1, n, k + 1, τ, B, hg, hk, h => by
    have hn : n < 7 := by omega
    obtain ⟨a1, a2, a3, a4⟩ := lp_a n hn
    have st : ∀ v : Int32, bl v → v = (if B.1 19 n 0 = 0 then 0 else 1) → ∃ σ', f_X_rememberTheAir_L31 (f_X_rememberTheAir_L2 k) τ (nX n) (11 + 17 * n + 1) v (11 + 17 * n + 1) = some σ' ∧ RX σ0 σ' (lp mRem (c + 1) n B) := by
      intro v hv e
      unfold f_X_rememberTheAir_L31
      have hv : v = 0 ∨ v = 1 := hv
      rw [if_pos hv, a2]
      simp only [tm_w]
      have h1 := sx_air (sx_wasOn h hn v) hn 0
      rw [e] at h1 ⊢
      exact x_rem_lp c (n + 1) k _ _ (by omega) (by omega) h1
    rw [f_X_rememberTheAir_L2, if_neg a1, if_pos a4, a3, gx_air h hn]
    by_cases c1 : B.1 19 n 0 = 0
    · rw [if_pos c1]
      exact st 0 (Or.inl rfl) (by rw [if_pos c1])
    · rw [if_neg c1]
      exact st 1 (Or.inr rfl) (by rw [if_neg c1])
theorem x_busy_lp (h : RX σ0 σ A) (w : A.1 9 n 0 = nX n) (hn : n < 7) : ∀ (c b k : Nat), b + c = 7 → c < k → f_X_seemsBusy_L2 k σ (11 + 17 * n) (nX b) = some (if sBusy A n c b = true then 1 else 0, σ)
  | 0, b, k + 1, hg, _ => by
    obtain rfl : b = 7 := by omega
    rw [f_X_seemsBusy_L2, if_pos (by decide)]
    rfl
  | c + 1, b, k + 1, hg, hk => by
    have hb : b < 7 := by omega
    obtain ⟨a1, a2, a3, a4⟩ := lp_a b hb
    obtain ⟨-, -, b3, b4⟩ := lp_a n hn
    have ih := x_busy_lp h w hn c (b + 1) k (by omega) (by omega)
    rw [f_X_seemsBusy_L2, if_neg a1, h.id w hn, if_pos b4, if_pos a4, a3, b3, gx_cost h hn hb, gx_wasOn h hb]
    unfold f_X_seemsBusy_L39 sBusy
    rw [a2]
    by_cases c1 : A.1 35 n b ≤ 0
    · rw [if_pos c1, decide_eq_false (Int32.not_lt.mpr c1), Bool.false_and, Bool.false_or]
      exact ih
    · rw [if_neg c1, if_pos (lp_b b hb), decide_eq_true (Int32.not_le.mp c1), Bool.true_and]
      by_cases c2 : A.1 20 b 0 = 0
      · rw [if_pos c2, c2]
        exact ih
      · rw [if_neg c2, beq_eq_false_iff_ne.mpr c2]
        rfl
theorem x_busy (h : RX σ0 σ A) (w : A.1 9 n 0 = nX n) (hn : n < 7) : f_X_seemsBusy σ (11 + 17 * n) = some (if sBusy A n 7 0 = true then 1 else 0, σ) := x_busy_lp h w hn 7 0 200 (by omega) (by omega)
theorem most_a : ∀ k, k < 5 → ¬ Int32.ofNat k + 1 = 5 → 0 < sMost (Int32.ofNat k + 1) := by decide
theorem x_air (h : RX σ0 σ A) (hi : iAir n A) (hn : n < 7) (k : Nat) : ∃ τ, f_X_goOnTheAir_L2 (k + 1) σ (nX n) = f_X_goOnTheAir_L2 k τ (nX (n + 1)) ∧ RX σ0 τ (mAir A n) := by
  obtain ⟨a1, a2, a3, a4⟩ := lp_a n hn
  have w := hi.1
  rw [f_X_goOnTheAir_L2, if_neg a1, if_pos a4, a3, gx_owes h hn, gx_listens h hn, h.size hn, gx_wait h hn]
  unfold f_X_goOnTheAir_L157 mAir
  rw [a2]
  by_cases c1 : A.1 22 n 0 = -1
  · have c1' : ¬ ¬ A.1 22 n 0 = -1 := fun r => r c1
    rw [if_pos c1, if_neg c1']
    have hl := nI_len_a (A.2 n).length (by have := h.len hn; omega)
    by_cases c2 : A.1 23 n 0 = 0
    · rw [if_pos c2]
      by_cases c3 : (A.2 n).length = 0
      · rw [if_pos (hl.2.2.2.1.mpr c3), if_pos (Or.inr c3)]
        exact ⟨σ, rfl, h⟩
      · have hne : A.2 n ≠ [] := fun r => c3 (by rw [r]; rfl)
        have hc : ¬ (¬ A.1 23 n 0 = 0 ∨ (A.2 n).length = 0) := fun r => r.elim (fun r => r c2) c3
        rw [if_neg (fun r => c3 (hl.2.2.2.1.mp r)), if_neg hc]
        by_cases c4 : A.1 16 n 0 ≤ 0
        · rw [if_pos c4, if_neg (Int32.not_lt.mpr c4), x_busy h (w.id hn) hn]
          simp only [Option.bind_some, tm_w]
          by_cases c5 : sBusy A n 7 0 = true
          · have c5' : ¬ sBusy A n 7 0 = false := by
              rw [c5]
              decide
            rw [if_pos c5, if_neg c5', if_neg (show ¬ (1 : Int32) = 0 from by decide), gx_busy h hn]
            have h1 : RX σ0 (sI σ (11 + 17 * n + 1) 3 (A.1 17 n 0 + 1)) (mBz A n) := sx_busy h hn _
            rw [gx_busy h1 hn]
            by_cases c6 : (mBz A n).1 17 n 0 = 5
            · rw [if_pos c6, if_pos c6]
              obtain ⟨τ, e, h2⟩ := x_fail h1 (Bz_wf w) hn c2 hne
              rw [e]
              exact ⟨τ, rfl, h2⟩
            · rw [if_neg c6, if_neg c6]
              have hb := (w.2 n hn).2.2.2.2 (by omega) hne
              obtain ⟨j, hj5, hj⟩ := i_five hb.1 hb.2
              have eb : (mBz A n).1 17 n 0 = A.1 17 n 0 + 1 := uA_eq
              have hpos : 0 < sMost ((mBz A n).1 17 n 0) := by
                rw [eb, hj]
                rw [eb, hj] at c6
                exact most_a j hj5 c6
              obtain ⟨τ, e, h2, -⟩ := x_draw h1 hpos
              unfold sMost at e
              rw [e]
              simp only [Option.bind_some]
              exact ⟨_, rfl, sx_wait h2 hn _⟩
          · have c5' : sBusy A n 7 0 = false := eq_false_of_ne_true c5
            rw [if_neg c5, if_pos c5', if_pos rfl]
            have h1 := sx_air h hn 2
            have e1 : (sI σ (11 + 17 * n + 1) 5 2).1 1 10 = A.1 8 0 0 := by
              rw [gx_aired h1, uA_ne (by decide)]
            rw [e1]
            exact ⟨_, rfl, sx_aired h1 _⟩
        · rw [if_neg c4, if_pos (Int32.not_le.mp c4)]
          simp only [tm_w]
          exact ⟨_, rfl, sx_wait h hn _⟩
    · rw [if_neg c2, if_pos (Or.inl c2)]
      exact ⟨σ, rfl, h⟩
  · rw [if_neg c1, if_pos c1]
    simp only [tm_w]
    have h1 := sx_air h hn 1
    have e1 : (sI σ (11 + 17 * n + 1) 5 1).1 (11 + 17 * n + 1) 8 = A.1 22 n 0 := by
      rw [gx_owes h1 hn, uA_ne (by decide)]
    rw [e1]
    exact ⟨_, rfl, sx_owes (sx_ackTo h1 hn _) hn _⟩
theorem x_air_lp : ∀ (c n k : Nat) (τ : tm_S) (B : sA), n + c = 7 → c < k → iAir n B → RX σ0 τ B → ∃ σ', f_X_goOnTheAir_L2 k τ (nX n) = some σ' ∧ RX σ0 σ' (lp mAir c n B)
  | 0, n, k + 1, τ, B, hg, _, _, h => by
    obtain rfl : n = 7 := by omega
    rw [f_X_goOnTheAir_L2, if_pos (by decide)]
    exact ⟨τ, rfl, h⟩
  | c + 1, n, k + 1, τ, B, hg, hk, hi, h => by
    obtain ⟨τ', e, h'⟩ := x_air h hi (by omega) k
    rw [e]
    exact x_air_lp c (n + 1) k τ' _ (by omega) (by omega) (s_Air n B (by omega) hi) h'
theorem x_spk_lp (h : RX σ0 σ A) (hn : n < 7) : ∀ (c b k : Nat) (x : Int32), b + c = 7 → c < k → f_X_onlySpeaker_L4 k σ (nX n) x (nX b) = some (sSpk A n c b x, σ)
  | 0, b, k + 1, x, hg, _ => by
    obtain rfl : b = 7 := by omega
    rw [f_X_onlySpeaker_L4, if_pos (by decide)]
    rfl
  | c + 1, b, k + 1, x, hg, hk => by
    have hb : b < 7 := by omega
    obtain ⟨a1, a2, a3, a4⟩ := lp_a b hb
    obtain ⟨-, -, b3, b4⟩ := lp_a n hn
    have ih := x_spk_lp h hn c (b + 1) k x (by omega) (by omega)
    have ih2 := x_spk_lp h hn c (b + 1) k (nX b) (by omega) (by omega)
    rw [f_X_onlySpeaker_L4, if_neg a1, if_pos b4, if_pos a4, a3, b3, gx_cost h hn hb, gx_air h hb]
    unfold f_X_onlySpeaker_L45 sSpk
    rw [a2]
    by_cases c1 : A.1 35 n b ≤ 0
    · rw [if_pos c1, decide_eq_false (Int32.not_lt.mpr c1), Bool.false_and, if_neg (by decide)]
      exact ih
    · rw [if_neg c1, if_pos (lp_b b hb), decide_eq_true (Int32.not_le.mp c1), Bool.true_and]
      by_cases c2 : A.1 19 b 0 = 0
      · rw [if_pos c2, c2, if_neg (by decide)]
        exact ih
      · rw [if_neg c2, beq_eq_false_iff_ne.mpr c2, if_pos (show (!false) = true from rfl)]
        by_cases c3 : x = -1
        · rw [if_pos c3, if_pos c3]
          exact ih2
        · rw [if_neg c3, if_neg c3]
theorem x_hear_lp : ∀ (c n k : Nat) (τ : tm_S) (B : sA), n + c = 7 → c < k → RX σ0 τ B → ∃ σ', f_X_hearTheAir_L2 k τ (nX n) = some σ' ∧ RX σ0 σ' (lp mHear c n B)
  | 0, n, k + 1, τ, B, hg, _, h => by
    obtain rfl : n = 7 := by omega
    rw [f_X_hearTheAir_L2, if_pos (by decide)]
    exact ⟨τ, rfl, h⟩
  | c + 1, n, k + 1, τ, B, hg, hk, h => by
    have hn : n < 7 := by omega
    obtain ⟨a1, a2, a3, a4⟩ := lp_a n hn
    have st : ∀ v : Int32, v = (if ¬ B.1 11 n 0 = 0 ∧ B.1 19 n 0 = 0 then sSpk B n 7 0 (-1) else -1) → ∃ σ', f_X_hearTheAir_L55 (f_X_hearTheAir_L2 k) τ (nX n) v (11 + 17 * n + 1) = some σ' ∧ RX σ0 σ' (lp mHear (c + 1) n B) := by
      intro v e
      unfold f_X_hearTheAir_L55
      rw [a2]
      simp only [tm_w]
      have h1 := sx_hears h hn v
      rw [e] at h1 ⊢
      exact x_hear_lp c (n + 1) k _ _ (by omega) (by omega) h1
    rw [f_X_hearTheAir_L2, if_neg a1, if_pos a4, a3, gx_alive h hn, gx_air h hn]
    unfold f_X_hearTheAir_L36 f_X_hearTheAir_L37
    by_cases c1 : B.1 11 n 0 = 0
    · rw [if_pos c1, if_pos rfl]
      exact st (-1) (by rw [if_neg (fun r => r.1 c1)])
    · rw [if_neg c1]
      by_cases c2 : B.1 19 n 0 = 0
      · rw [if_pos c2, if_neg (by decide)]
        have e := x_spk_lp h hn 7 0 200 (-1) (by omega) (by omega)
        have e : f_X_onlySpeaker τ (nX n) = some (sSpk B n 7 0 (-1), τ) := e
        rw [e]
        simp only [Option.bind_some]
        exact st _ (by rw [if_pos ⟨c1, c2⟩])
      · rw [if_neg c2, if_pos rfl]
        exact st (-1) (by rw [if_neg (fun r => c2 r.2)])
theorem x_take (h : RX σ0 σ A) (hi : iTake n A) {K : Nat} (hK : K < 2000000000) (ha : aB K A) (hn : n < 7) (k : Nat) : ∃ τ, f_X_takeWhatWasHeard_L2 (k + 1) σ (nX n) = f_X_takeWhatWasHeard_L2 k τ (nX (n + 1)) ∧ RX σ0 τ (mTake A n) := by
  obtain ⟨a1, a2, a3, a4⟩ := lp_a n hn
  have w := hi.1
  rw [f_X_takeWhatWasHeard_L2, if_neg a1, if_pos a4, a3, gx_hears h hn]
  unfold f_X_takeWhatWasHeard_L132 mTake
  rw [a2]
  by_cases c1 : A.1 24 n 0 = -1
  · rw [if_pos c1, if_pos c1]
    exact ⟨σ, rfl, h⟩
  · rw [if_neg c1, if_neg c1, if_pos (lp_b n hn)]
    obtain ⟨⟨x, hx, hxn, hxe, hxa⟩, hal, h0⟩ := hi.2.2.2 n hn c1
    obtain ⟨-, -, x3, x4⟩ := lp_a x hx
    rw [hxe, if_pos x4, x3, gx_air h hx]
    simp only [tm_w]
    rw [z0, if_pos (h.kd hx (by omega))]
    unfold mTk
    by_cases c2 : A.1 19 x 0 = 1
    · rw [if_pos c2, if_pos c2]
      obtain ⟨τ, e, h'⟩ := x_ack h w hn hx
      rw [e]
      exact ⟨τ, rfl, h'⟩
    · have hw : A.1 19 x 0 = 0 ∨ A.1 19 x 0 = 1 ∨ A.1 19 x 0 = 2 := w.1 19 x 0 (xV_n (by decide) hx)
      have hne := (hi.2.1 x (Nat.zero_le _) hx ((hw.resolve_left hxa).resolve_left c2)).1
      have hF := h.head hx hne
      have hfw := fr0_wf w hx hne
      rw [if_neg c2, if_neg c2, hF.1, hF.2.1]
      by_cases c3 : fr0 A x 0 = 1
      · rw [if_pos c3, if_pos c3]
        obtain ⟨τ, e, h'⟩ := x_sol h (w.id hn) hn
        rw [e]
        exact ⟨τ, rfl, h'⟩
      · rw [if_neg c3, if_neg c3]
        by_cases c4 : fr0 A x 0 = 2
        · rw [if_pos c4, if_pos c4]
          obtain ⟨τ, e, h'⟩ := x_advert h w hn hx (Ne.symm hxn)
          rw [e]
          exact ⟨τ, rfl, h'⟩
        · rw [if_neg c4, if_neg c4]
          by_cases c5 : fr0 A x 1 = nX n
          · rw [if_pos c5, if_pos c5]
            obtain ⟨b, hb, eb⟩ := ha n hn
            obtain ⟨τ, e, h'⟩ := x_own h w hn hx (Ne.symm hxn) (h.fqz hx) hF hfw ⟨n, hn, c5⟩ (b := b) (by omega) eb
            rw [e]
            exact ⟨τ, rfl, h'⟩
          · rw [if_neg c5, if_neg c5]
            exact ⟨σ, rfl, h⟩
theorem x_take_lp {K0 : Nat} (hK0 : K0 < 1999999000) : ∀ (c n k : Nat) (τ : tm_S) (B : sA), n + c = 7 → c < k → iTake n B → aB (K0 + n) B → RX σ0 τ B → ∃ σ', f_X_takeWhatWasHeard_L2 k τ (nX n) = some σ' ∧ RX σ0 σ' (lp mTake c n B)
  | 0, n, k + 1, τ, B, hg, _, _, _, h => by
    obtain rfl : n = 7 := by omega
    rw [f_X_takeWhatWasHeard_L2, if_pos (by decide)]
    exact ⟨τ, rfl, h⟩
  | c + 1, n, k + 1, τ, B, hg, hk, hi, ha, h => by
    obtain ⟨τ', e, h'⟩ := x_take h hi (K := K0 + n) (by omega) ha (by omega) k
    rw [e]
    exact x_take_lp hK0 c (n + 1) k τ' _ (by omega) (by omega) (s_Take n B (by omega) hi) (aB_Take ha n) h'
theorem x_set_lp : ∀ (c n k : Nat) (τ : tm_S) (B : sA), n + c = 7 → c < k → iSet n B → RX σ0 τ B → ∃ σ', f_X_settleWhatWasOnTheAir_L2 k τ (nX n) = some σ' ∧ RX σ0 σ' (lp mSet c n B)
  | 0, n, k + 1, τ, B, hg, _, _, h => by
    obtain rfl : n = 7 := by omega
    rw [f_X_settleWhatWasOnTheAir_L2, if_pos (by decide)]
    exact ⟨τ, rfl, h⟩
  | c + 1, n, k + 1, τ, B, hg, hk, hi, h => by
    have hn : n < 7 := by omega
    obtain ⟨a1, a2, a3, a4⟩ := lp_a n hn
    have go : ∀ τ', RX σ0 τ' (mSet B n) → ∃ σ', f_X_settleWhatWasOnTheAir_L2 k τ' (nX (n + 1)) = some σ' ∧ RX σ0 σ' (lp mSet (c + 1) n B) := fun τ' h' => x_set_lp c (n + 1) k τ' _ (by omega) (by omega) (s_Set n B hn hi) h'
    rw [f_X_settleWhatWasOnTheAir_L2, if_neg a1, if_pos a4, a3, gx_air h hn]
    unfold f_X_settleWhatWasOnTheAir_L55
    rw [a2]
    simp only [tm_w]
    rw [z0, if_pos (h.kd hn (by omega))]
    unfold mSet at go
    by_cases c1 : B.1 19 n 0 = 2
    · have hne := (hi.2.1 n (Nat.le_refl _) hn c1).1
      rw [if_pos c1] at go ⊢
      rw [(h.head hn hne).2.1]
      by_cases c2 : fr0 B n 1 = -1
      · rw [if_pos c2] at go ⊢
        obtain ⟨τ', e, h'⟩ := x_remove h hn hne
        rw [e]
        exact go τ' h'
      · rw [if_neg c2] at go ⊢
        exact go _ (sx_listens h hn 1)
    · rw [if_neg c1] at go ⊢
      exact go τ h
theorem x_lis_lp : ∀ (c n k : Nat) (τ : tm_S) (B : sA), n + c = 7 → c < k → iLis n B → RX σ0 τ B → ∃ σ', f_X_settleWhatWasListenedFor_L2 k τ (nX n) = some σ' ∧ RX σ0 σ' (lp mLis c n B)
  | 0, n, k + 1, τ, B, hg, _, _, h => by
    obtain rfl : n = 7 := by omega
    rw [f_X_settleWhatWasListenedFor_L2, if_pos (by decide)]
    exact ⟨τ, rfl, h⟩
  | c + 1, n, k + 1, τ, B, hg, hk, hi, h => by
    have hn : n < 7 := by omega
    obtain ⟨a1, a2, a3, a4⟩ := lp_a n hn
    have w := hi.1
    have go : ∀ τ', RX σ0 τ' (mLis B n) → ∃ σ', f_X_settleWhatWasListenedFor_L2 k τ' (nX (n + 1)) = some σ' ∧ RX σ0 σ' (lp mLis (c + 1) n B) := fun τ' h' => x_lis_lp c (n + 1) k τ' _ (by omega) (by omega) (s_Lis n B hn hi) h'
    rw [f_X_settleWhatWasListenedFor_L2, if_neg a1]
    simp only [if_pos a4]
    rw [a3, gx_air h hn, gx_listens h hn]
    unfold f_X_settleWhatWasListenedFor_L85
    rw [a2]
    simp only [tm_w]
    unfold mLis at go
    by_cases c1 : B.1 23 n 0 = 0
    · rw [if_pos c1]
      rw [if_pos (Or.inl c1)] at go
      exact go τ h
    · rw [if_neg c1]
      by_cases c2 : B.1 19 n 0 = 0
      · rw [if_pos c2]
        rw [if_neg (fun r => r.elim c1 (fun r => r c2))] at go
        have hne := (w.2 n hn).2.2.2.1 c1
        have h1 := sx_listens h hn 0
        have e1 : (sI τ (11 + 17 * n + 1) 9 0).1 (11 + 17 * n + 1) 4 = B.1 18 n 0 := by
          rw [gx_tries h1 hn, uA_ne (by decide)]
        rw [e1]
        have h2 : RX σ0 (sI (sI τ (11 + 17 * n + 1) 9 0) (11 + 17 * n + 1) 4 (B.1 18 n 0 + 1)) (mTr B n) := sx_tries h1 hn _
        rw [sI_eq]
        by_cases c3 : B.1 18 n 0 + 1 = 4
        · rw [if_pos c3] at go ⊢
          have wT : wf 7 (mTr B n) := (w.listens (n := n) 0 (Or.inl rfl) (fun _ => rfl) (fun q => absurd rfl q)).s 18 n 0 _ trivial (by decide)
          have lT : (mTr B n).1 23 n 0 = 0 := by
            unfold mTr
            rw [uA_ne (by decide), uA_eq]
          obtain ⟨τ', e, h'⟩ := x_fail h2 wT.weak hn lT hne
          rw [e]
          exact go τ' h'
        · rw [if_neg c3] at go ⊢
          have h3 := sx_busy h2 hn 0
          obtain ⟨τ', e, h', -⟩ := x_draw h3 (k := 4) (by decide)
          rw [e]
          simp only [Option.bind_some]
          exact go _ (sx_wait h' hn _)
      · rw [if_neg c2]
        rw [if_pos (Or.inr c2)] at go
        exact go τ h
end X6
