/-! the class does what the mathematics says: values, announcements taken -/
section X4
variable {σ0 σ : tm_S} {A : sA} {n m x : Nat}
theorem x_send (h : RX σ0 σ A) (hn : n < 7) {s g hh v e : Int32} (hg : nds g) (he : bl e) : ∃ σ', f_X_sendOn σ (11 + 17 * n) s g hh v e = some σ' ∧ RX σ0 σ' (mSend A n s g hh v e) := by
  obtain ⟨gm, hgm, rfl⟩ := hg
  obtain ⟨-, -, b3, b4⟩ := lp_a gm hgm
  have main : ∀ d : Int32, bl d → d = (if A.1 31 n gm = -1 then 0 else 1) → ∃ σ', f_X_sendOn_L35 σ (11 + 17 * n) s (nX gm) hh v e d (sTo A n (nX gm)) = some σ' ∧ RX σ0 σ' (mSend A n s (nX gm) hh v e) := by
    intro d hd hde
    unfold f_X_sendOn_L35 mSend
    rw [b3]
    by_cases c1 : sTo A n (nX gm) = -1
    · rw [if_pos c1, if_pos (Or.inl c1)]
      unfold f_X_sendOn_L55
      simp only [tm_w]
      rw [gx_dropped h]
      exact ⟨_, rfl, sx_dropped h _⟩
    · rw [if_neg c1]
      by_cases hl : 4 ≤ (A.2 n).length
      · rw [if_pos (Or.inr hl), x_full h hn hl]
        simp only [Option.bind_some]
        unfold f_X_sendOn_L55
        simp only [tm_w]
        rw [gx_dropped h]
        exact ⟨_, rfl, sx_dropped h _⟩
      · rw [if_neg (fun q => q.elim c1 hl)]
        have hl : (A.2 n).length < 4 := by omega
        obtain ⟨σ1, q, f, e1, eq, ekd, ek, et, h1⟩ := x_enqueue h hn hl 4 (sTo A n (nX gm))
        rw [e1]
        simp only [Option.bind_some]
        unfold f_X_sendOn_L55
        simp only [tm_w]
        have hd : d = 0 ∨ d = 1 := hd
        have he : e = 0 ∨ e = 1 := he
        rw [if_pos ekd, if_pos hd, if_pos he]
        refine ⟨_, rfl, ?_⟩
        have hB := Put_2 (f := f) hl
        obtain ⟨m0, hm0, e0⟩ := (h1.2.1 n hn).2.2.1 (A.2 n).length hl
        have hqF : q = 11 + 17 * n + 3 + 2 * m0 := eq.trans e0
        have hF := (h1.2.1 n hn).2.2.2.2 (A.2 n).length (fSr f (A.1 4 0 0 + 1)) (by rw [hB]; simp)
        rw [← eq] at hF
        generalize hτ : sI (sI (sI (sI (sI (sI σ1 q 6 s) q 7 (nX gm)) q 8 hh) q 9 v) q 10 d) q 11 e = τ
        have key := h1.last hn hB eq (σ' := τ) (f' := fSr (frV (sTo A n (nX gm)) s (nX gm) hh v (if A.1 31 n gm = -1 then 0 else 1) e) (A.1 4 0 0 + 1)) (fun a a1 _ => ?_) ?_ ?_
        · rw [Put_uQ hl] at key
          exact key
        · rw [← hτ, sI_ne1 a1, sI_ne1 a1, sI_ne1 a1, sI_ne1 a1, sI_ne1 a1, sI_ne1 a1]
        · rw [← hτ]
          rfl
        · have o : ∀ j, j < 6 → τ.1 q j = σ1.1 q j := by
            intro j hj
            rw [← hτ, sI_no (by omega), sI_no (by omega), sI_no (by omega), sI_no (by omega), sI_no (by omega), sI_no (by omega)]
          refine ⟨?_, ?_, ?_, fun hk => ?_, fun _ => ⟨?_, ?_, ?_, ?_, ?_, ?_⟩⟩
          · rw [o 1 (by omega), hF.1]
            exact ek
          · rw [o 2 (by omega), hF.2.1]
            exact et
          · rw [o 0 (by omega), hF.2.2.1]
            rfl
          · exact absurd (show (4 : Int32) = 3 from hk) (by decide)
          · rw [← hτ, sI_no (by omega), sI_no (by omega), sI_no (by omega), sI_no (by omega), sI_no (by omega), sI_eq]
            rfl
          · rw [← hτ, sI_no (by omega), sI_no (by omega), sI_no (by omega), sI_no (by omega), sI_eq]
            rfl
          · rw [← hτ, sI_no (by omega), sI_no (by omega), sI_no (by omega), sI_eq]
            rfl
          · rw [← hτ, sI_no (by omega), sI_no (by omega), sI_eq]
            rfl
          · rw [← hτ, sI_no (by omega), sI_eq, hde]
            rfl
          · rw [← hτ, sI_eq]
            rfl
  unfold f_X_sendOn f_X_sendOn_L15
  rw [if_pos b4, b3, gx_nexts h hn hgm, gx_parent h hn]
  by_cases c : A.1 31 n gm = -1
  · rw [if_pos c, if_pos rfl]
    have := main 0 (Or.inl rfl) (by rw [if_pos c])
    have e : sTo A n (nX gm) = A.1 14 n 0 := by
      unfold sTo
      rw [b3, if_pos c]
    rw [e] at this
    exact this
  · rw [if_neg c, if_neg (by decide), if_pos (lp_b gm hgm)]
    have := main 1 (Or.inr rfl) (by rw [if_neg c])
    have e : sTo A n (nX gm) = A.1 31 n gm := by
      unfold sTo
      rw [b3, if_neg c]
    rw [e] at this
    exact this
theorem ar8_a {b : Nat} (h : b < 2000000001) : ¬ ((Int32.ofNat b - Int32.ofNat b / 8 * 8) < 0 ∨ 8 ≤ (Int32.ofNat b - Int32.ofNat b / 8 * 8).toNatClampNeg) := by
  rw [on_rem8 h]
  rintro (q | q)
  · have e0 : (Int32.ofNat b).toInt = b := Int32.toInt_ofNat_of_lt (by omega)
    have e8 : (8 : Int32).toInt = 8 := by decide
    have z0 : (0 : Int32).toInt = 0 := by decide
    have e1 : (Int32.ofNat b / 8).toInt = ((b / 8 : Nat) : Int) := by
      rw [Int32.toInt_div_of_ne_right _ _ (by decide), e0, e8]
      exact (Int.ofNat_tdiv b 8).symm
    have e2 : (Int32.ofNat b / 8 * 8).toInt = ((b / 8 * 8 : Nat) : Int) := by
      rw [Int32.toInt_mul, e1, e8, Int.bmod_eq_of_le] <;> omega
    have e3 : (Int32.ofNat b - Int32.ofNat b / 8 * 8).toInt = ((b % 8 : Nat) : Int) := by
      rw [Int32.toInt_sub, e0, e2, Int.bmod_eq_of_le] <;> omega
    rw [i_lt, e3, z0] at q
    omega
  · omega
theorem x_deliver (h : RX σ0 σ A) (hn : n < 7) {b : Nat} (hb : b < 2000000001) (ha : A.1 10 n 0 = Int32.ofNat b) {q : Nat} {f : sFr} (hF : FX σ q f) (hk : f 0 = 4) (hq : ∃ i m, i < 7 ∧ m < 4 ∧ q = xF i m) : ∃ σ', f_X_deliver σ (11 + 17 * n) q = some σ' ∧ RX σ0 σ' (mDeliver A n f) := by
  obtain ⟨f1, -, -, f4, -, -⟩ := hF.2.2.2.2 hk
  unfold f_X_deliver
  rw [gx_arrived h hn, ha, if_pos (ar8_a hb), f1, f4, on_rem8 hb]
  simp only [tm_w]
  have h1 := sx_arrivals h hn (j := b % 8) (by omega) ((1000 : Int32) * f 3 + f 6)
  have e1 : (sI σ (11 + 17 * n + 16) (b % 8) ((1000 : Int32) * f 3 + f 6)).1 (11 + 17 * n) 8 = Int32.ofNat b := by
    rw [gx_arrived h1 hn, uA_ne (by decide), ha]
  rw [e1]
  have h2 := sx_arrived h1 hn (Int32.ofNat b + 1)
  have e2 : (sI (sI σ (11 + 17 * n + 16) (b % 8) ((1000 : Int32) * f 3 + f 6)) (11 + 17 * n) 8 (Int32.ofNat b + 1)).1 1 9 = A.1 7 0 0 := by
    rw [gx_all h2, uA_ne (by decide), uA_ne (by decide)]
  rw [e2]
  refine ⟨_, rfl, ?_⟩
  unfold mDeliver
  rw [ha, on_rem8 hb]
  exact sx_all h2 _
theorem x_recV (h : RX σ0 σ A) (w : A.1 9 n 0 = nX n) (hn : n < 7) (hx : x < 7) {b : Nat} (hb : b < 2000000001) (ha : A.1 10 n 0 = Int32.ofNat b) {q : Nat} {f : sFr} (hF : FX σ q f) (hk : f 0 = 4) (hwf : wfF f) (hq : ∃ i m, i < 7 ∧ m < 4 ∧ q = xF i m) : ∃ σ', f_X_receiveValue σ (11 + 17 * n) (A.1 13 x 0) q = some σ' ∧ RX σ0 σ' (mRecV A n x f) := by
  obtain ⟨f1, f2, f3, f4, f5, f6⟩ := hF.2.2.2.2 hk
  obtain ⟨hg, hbe⟩ : nds (f 4) ∧ bl (f 8) := by
    rcases hwf with ⟨h | h, -⟩ | ⟨h, -⟩ | ⟨-, -, h1, -, -, h2⟩
    · rw [hk] at h; exact absurd h (by decide)
    · rw [hk] at h; exact absurd h (by decide)
    · rw [hk] at h; exact absurd h (by decide)
    · exact ⟨h1, h2⟩
  have l68 : ∀ d : Int32, (d = 0 ↔ ¬ sWrong A n x f = true) → (¬ d = 0 → f 8 = 0) → ∃ σ', f_X_receiveValue_L68 σ (11 + 17 * n) q d = some σ' ∧ RX σ0 σ' (mRecV A n x f) := by
    intro d hd1 hd2
    have hc : ¬ (sWrong A n x f = true ∧ ¬ f 8 = 0) := by
      rintro ⟨q1, q2⟩
      by_cases d0 : d = 0
      · exact hd1.mp d0 q1
      · exact q2 (hd2 d0)
    unfold f_X_receiveValue_L68 mRecV
    rw [if_neg hc, f2, h.id w hn]
    by_cases c1 : f 4 = nX n
    · rw [if_pos c1, if_pos c1]
      obtain ⟨σ', e, h'⟩ := x_deliver h hn hb ha hF hk hq
      rw [e]
      exact ⟨σ', rfl, h'⟩
    · rw [if_neg c1, if_neg c1, f3]
      by_cases c2 : f 5 ≤ 1
      · rw [if_neg (Int32.not_lt.mpr c2), if_pos c2]
        simp only [tm_w]
        rw [gx_dropped h]
        exact ⟨_, rfl, sx_dropped h _⟩
      · rw [if_pos (Int32.not_le.mp c2), if_neg c2, f1, f4, f6]
        unfold f_X_receiveValue_L141 f_X_receiveValue_L146
        by_cases d0 : d = 0
        · rw [if_pos d0]
          by_cases e0 : f 8 = 0
          · rw [if_pos e0, if_neg (fun r => r.elim (hd1.mp d0) (fun r => r e0))]
            obtain ⟨σ', e, h'⟩ := x_send h hn (s := f 3) (hh := f 5 - 1) (v := f 6) (e := 0) hg (Or.inl rfl)
            rw [e]
            exact ⟨σ', rfl, h'⟩
          · rw [if_neg e0, if_pos (Or.inr e0)]
            obtain ⟨σ', e, h'⟩ := x_send h hn (s := f 3) (hh := f 5 - 1) (v := f 6) (e := 1) hg (Or.inr rfl)
            rw [e]
            exact ⟨σ', rfl, h'⟩
        · rw [if_neg d0]
          have hwr : sWrong A n x f = true := Classical.byContradiction fun r => d0 (hd1.mpr r)
          rw [if_pos (Or.inl hwr)]
          obtain ⟨σ', e, h'⟩ := x_send h hn (s := f 3) (hh := f 5 - 1) (v := f 6) (e := 1) hg (Or.inr rfl)
          rw [e]
          exact ⟨σ', rfl, h'⟩
  have l36 : ∀ d : Int32, (d = 0 ↔ ¬ sWrong A n x f = true) → ∃ σ', f_X_receiveValue_L36 σ (11 + 17 * n) q d = some σ' ∧ RX σ0 σ' (mRecV A n x f) := by
    intro d hd1
    unfold f_X_receiveValue_L36
    rw [f6]
    by_cases d0 : d = 0
    · rw [if_pos d0]
      exact l68 d hd1 (fun r => absurd d0 r)
    · rw [if_neg d0]
      by_cases e0 : f 8 = 0
      · rw [if_pos e0]
        exact l68 d hd1 (fun _ => e0)
      · rw [if_neg e0]
        have hwr : sWrong A n x f = true := Classical.byContradiction fun r => d0 (hd1.mpr r)
        simp only [tm_w]
        rw [gx_dropped h]
        obtain ⟨σ', e, h'⟩ := x_reset (sx_dropped h (A.1 6 0 0 + 1)) hn
        rw [e]
        refine ⟨σ', rfl, ?_⟩
        unfold mRecV
        rw [if_pos ⟨hwr, e0⟩]
        exact h'
  unfold f_X_receiveValue
  rw [f5, gx_rank h hn]
  by_cases c : f 7 = 0
  · rw [if_pos c]
    have hs : sWrong A n x f = decide (A.1 13 x 0 ≤ A.1 13 n 0) := by
      unfold sWrong
      rw [if_pos c]
    by_cases c2 : A.1 13 n 0 < A.1 13 x 0
    · rw [if_pos c2]
      exact l36 0 ⟨fun _ => by rw [hs, decide_eq_true_eq]; exact Int32.not_le.mpr c2, fun _ => rfl⟩
    · rw [if_neg c2]
      exact l36 1 ⟨fun r => absurd r (by decide), fun r => absurd (by rw [hs, decide_eq_true_eq]; exact Int32.not_lt.mp c2) r⟩
  · rw [if_neg c]
    have hs : sWrong A n x f = decide (A.1 13 n 0 ≤ A.1 13 x 0) := by
      unfold sWrong
      rw [if_neg c]
    by_cases c2 : A.1 13 x 0 < A.1 13 n 0
    · rw [if_pos c2]
      exact l36 0 ⟨fun _ => by rw [hs, decide_eq_true_eq]; exact Int32.not_le.mpr c2, fun _ => rfl⟩
    · rw [if_neg c2]
      exact l36 1 ⟨fun r => absurd r (by decide), fun r => absurd (by rw [hs, decide_eq_true_eq]; exact Int32.not_lt.mp c2) r⟩
end X4
