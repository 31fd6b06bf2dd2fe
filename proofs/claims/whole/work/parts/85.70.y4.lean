/-! the reference does what the mathematics says: values, announcements taken -/
theorem FY.wr {τ : tm_S} {s : Nat} {f : sFr} (h : FY τ s f) {a k : Nat} {v : Int32} (ha : [156, 157, 158, 160, 161, 162, 163, 164, 165, 166, 159].contains a = false) : FY (sI τ a k v) s f := by
  have hne : ∀ q, [156, 157, 158, 160, 161, 162, 163, 164, 165, 166, 159].contains q = true → q ≠ a := by
    intro q hq e
    rw [e, ha] at hq
    cases hq
  exact h.congr (fun q hq => by
    rw [sI_ne1 (hne q (by rcases hq with rfl | rfl | rfl | rfl | rfl | rfl | rfl | rfl | rfl | rfl <;> decide))]) (fun g _ => by rw [sI_ne1 (hne _ (by decide))])
theorem ix56b_a : ∀ n, n < 7 → ∀ k, k < 7 → ((8 : Int32) * nX n + nX (k + 1) - 1).toNatClampNeg = 8 * n + k ∧ (¬ ((8 : Int32) * nX n + nX (k + 1) - 1 < 0 ∨ 56 ≤ ((8 : Int32) * nX n + nX (k + 1) - 1).toNatClampNeg)) ∧ ((8 : Int32) * nX n + nX (k + 1)).toNatClampNeg = 8 * n + (k + 1) ∧ (¬ ((8 : Int32) * nX n + nX (k + 1) < 0 ∨ 56 ≤ ((8 : Int32) * nX n + nX (k + 1)).toNatClampNeg)) ∧ nX (k + 1) + (-1) = nX k ∧ ¬ nX (k + 1) ≤ 0 := by decide +kernel
section Y4
variable {σ0 σ : tm_S} {A : sA} {n m B x s : Nat} {tmp : Option Nat} {f : sFr}
theorem y_send (h : RY σ0 B none σ A) (hB : B < 1999999990) (w : wf m A) (hn : n < 7) {sr g hh v e : Int32} (hg : nds g) (he : bl e) : ∃ σ', f_Y_sendOn σ (nX n) sr g hh v e = some σ' ∧ RY σ0 (B + 1) none σ' (mSend A n sr g hh v e) := by
  have hto := sTo_ok w hn hg
  obtain ⟨gm, hgm, rfl⟩ := hg
  obtain ⟨-, -, g3, g4⟩ := lp_a gm hgm
  obtain ⟨-, -, b3, b4⟩ := lp_a n hn
  have he : e = 0 ∨ e = 1 := he
  have hx : nod (A.1 31 n gm) ∧ _ := w.1 31 n gm (xV_a (by decide) hn hgm)
  have main : ∃ σ', f_Y_sendOn_L29 σ (nX n) sr (nX gm) hh v e (A.1 31 n gm) (sTo A n (nX gm)) = some σ' ∧ RY σ0 (B + 1) none σ' (mSend A n sr (nX gm) hh v e) := by
    unfold f_Y_sendOn_L29 f_Y_sendOn_L106 mSend
    rw [g3]
    by_cases c1 : sTo A n (nX gm) = -1
    · rw [if_neg (fun r => (nds_ge hto).mp r c1), if_pos (Or.inl c1), gy_dropped h]
      simp only [tm_w]
      exact ⟨_, rfl, (sy_dropped h _).mono (by omega)⟩
    · rw [if_pos ((nds_ge hto).mpr c1)]
      obtain ⟨s, σ1, e1, hs, h1, k1, t1⟩ := y_make h (by omega) 4 (sTo A n (nX gm))
      obtain ⟨a1, a2, -, a4⟩ := s32_a s hs
      rw [e1]
      simp only [Option.bind_some, if_pos a1, if_pos he, tm_w]
      rw [a2]
      have fin : ∀ d : Int32, bl d → d = (if A.1 31 n gm = -1 then 0 else 1) → ∃ σ', ((f_Y_queue (sI (sI (sI (sI (sI (sI σ1 161 s sr) 162 s (nX gm)) 163 s hh) 164 s v) 165 s d) 166 s e) (nX n) (Int32.ofNat s)).bind fun q19 => some q19) = some σ' ∧ RY σ0 (B + 1) none σ' (if sTo A n (nX gm) = -1 ∨ 4 ≤ (A.2 n).length then mDrop A else mPut A n (frV (sTo A n (nX gm)) sr (nX gm) hh v (if A.1 31 n gm = -1 then 0 else 1) e)) := by
        intro d hd hde
        generalize hτ : sI (sI (sI (sI (sI (sI σ1 161 s sr) 162 s (nX gm)) 163 s hh) 164 s v) 165 s d) 166 s e = τ
        have h2 : RY σ0 (B + 1) (some s) τ A := by
          refine h1.tmp (by rw [← hτ]; rfl) (fun q j c1 _ => ?_)
          rw [← hτ, sI_no (fun r => c1 ⟨by simp [r.1], r.2⟩), sI_no (fun r => c1 ⟨by simp [r.1], r.2⟩), sI_no (fun r => c1 ⟨by simp [r.1], r.2⟩), sI_no (fun r => c1 ⟨by simp [r.1], r.2⟩), sI_no (fun r => c1 ⟨by simp [r.1], r.2⟩), sI_no (fun r => c1 ⟨by simp [r.1], r.2⟩)]
        have hF : FY τ s (frV (sTo A n (nX gm)) sr (nX gm) hh v (if A.1 31 n gm = -1 then 0 else 1) e) := by
          refine ⟨?_, ?_, fun r => absurd (show (4 : Int32) = 3 from r) (by decide), fun _ => ⟨?_, ?_, ?_, ?_, ?_, ?_⟩⟩
          · rw [← hτ, sI_ne1 (by decide), sI_ne1 (by decide), sI_ne1 (by decide), sI_ne1 (by decide), sI_ne1 (by decide), sI_ne1 (by decide)]
            exact k1
          · rw [← hτ, sI_ne1 (by decide), sI_ne1 (by decide), sI_ne1 (by decide), sI_ne1 (by decide), sI_ne1 (by decide), sI_ne1 (by decide)]
            exact t1
          · rw [← hτ, sI_ne1 (by decide), sI_ne1 (by decide), sI_ne1 (by decide), sI_ne1 (by decide), sI_ne1 (by decide), sI_eq]
            rfl
          · rw [← hτ, sI_ne1 (by decide), sI_ne1 (by decide), sI_ne1 (by decide), sI_ne1 (by decide), sI_eq]
            rfl
          · rw [← hτ, sI_ne1 (by decide), sI_ne1 (by decide), sI_ne1 (by decide), sI_eq]
            rfl
          · rw [← hτ, sI_ne1 (by decide), sI_ne1 (by decide), sI_eq]
            rfl
          · rw [← hτ, sI_ne1 (by decide), sI_eq, hde]
            rfl
          · rw [← hτ, sI_eq]
            rfl
        obtain ⟨σ', e', h'⟩ := y_queue h2 (by omega) hn hs hF
        rw [e']
        refine ⟨σ', rfl, ?_⟩
        by_cases c2 : 4 ≤ (A.2 n).length
        · rw [if_pos ⟨c2, rfl⟩] at h'
          rw [if_pos (Or.inr c2)]
          exact h'
        · rw [if_neg (fun r => c2 r.1)] at h'
          rw [if_neg (fun r => r.elim c1 c2)]
          exact h'
      by_cases c3 : A.1 31 n gm = -1
      · rw [if_pos ((nod_neg hx.1).mpr c3), if_pos (Or.inl trivial)]
        exact fin 0 (Or.inl rfl) (by rw [if_pos c3])
      · rw [if_neg (fun r => c3 ((nod_neg hx.1).mp r)), if_pos (Or.inr trivial)]
        exact fin 1 (Or.inr rfl) (by rw [if_neg c3])
  unfold f_Y_sendOn
  rw [if_pos (ok49_a n hn gm hgm), (ix49_a n hn gm hgm).1, gy_nexts h hn hgm, if_pos b4, b3, gy_parent h hn]
  unfold sTo at main
  rw [g3] at main
  by_cases c : A.1 31 n gm = -1
  · rw [if_pos c] at main
    rw [if_pos ((nod_neg hx.1).mpr c)]
    exact main
  · rw [if_neg c] at main
    rw [if_neg (fun r => c ((nod_neg hx.1).mp r))]
    exact main
theorem y_deliver (h : RY σ0 B none σ A) (hB : B < 1999999990) (hn : n < 7) (hs : s < 32) (hF : FY σ s f) (hk : f 0 = 4) : ∃ σ', f_Y_valued_L98 tm_fu σ (nX n) (Int32.ofNat s) (7 : Int32) = some σ' ∧ RY σ0 (B + 1) none σ' (mDeliver A n f) := by
  obtain ⟨-, -, b3, b4⟩ := lp_a n hn
  obtain ⟨a1, a2, -, a4⟩ := s32_a s hs
  obtain ⟨f1, -, -, f4, -, -⟩ := hF.2.2.2 hk
  have lp_ : ∀ (c fu : Nat) (τ : tm_S), c < 8 → c < fu → τ.2 = σ.2 → (∀ q, q ≠ 173 → τ.1 q = σ.1 q) → (∀ i, c ≤ i → i < 7 → τ.1 173 (8 * n + (i + 1)) = σ.1 173 (8 * n + i)) → (∀ p, p ≤ 8 * n + c ∨ 8 * n + 8 ≤ p → τ.1 173 p = σ.1 173 p) → ∃ σ', f_Y_valued_L98 fu τ (nX n) (Int32.ofNat s) (nX c) = some σ' ∧ RY σ0 (B + 1) none σ' (mDeliver A n f) := by
    intro c
    induction c with
    | zero =>
      intro fu τ hc hfu t2 t1 t3 t4
      obtain ⟨fu, rfl⟩ : ∃ z, fu = z + 1 := ⟨fu - 1, by omega⟩
      rw [f_Y_valued_L98, if_pos (by decide)]
      simp only [if_pos b4, if_pos a1, if_pos (ix8_a n hn).2.2, tm_w]
      rw [b3, a2, (ix8_a n hn).1, t1 164 (by decide), t1 161 (by decide), f1, f4, sI_ne1 (show 172 ≠ 173 by decide), t1 172 (by decide)]
      generalize hv : f 6 + (1000 : Int32) * f 3 = v
      have hv' : (1000 : Int32) * f 3 + f 6 = v := by rw [← hv, Int32.add_comm]
      have key : RY σ0 (B + 1) none (sI (sI τ 173 (8 * n) v) 172 n (σ.1 172 n + 1)) (uA (uA A 34 n (A.1 10 n 0 - A.1 10 n 0 / 8 * 8).toNatClampNeg v) 10 n 0 (A.1 10 n 0 + 1)) := by
        refine h.arrive (by omega) hn t2 (fun q hq => ?_) sI_eq (fun i hi => ?_) ?_ (fun k hk => ?_) (fun p hp => ?_)
        · have q1 : q ≠ 173 := fun r => hq (by rw [r]; decide)
          have q2 : q ≠ 172 := fun r => hq (by rw [r]; decide)
          rw [sI_ne1 q2, sI_ne1 q1, t1 q q1]
        · rw [sI_no (fun r => hi r.2), sI_ne1 (by decide), t1 172 (by decide)]
        · rw [sI_ne1 (by decide), sI_eq]
        · rw [sI_ne1 (by decide), sI_no (by omega)]
          exact t3 k (by omega) hk
        · rw [sI_ne1 (by decide), sI_no (by omega)]
          exact t4 p (by omega)
      have e48 : (sI (sI τ 173 (8 * n) v) 172 n (σ.1 172 n + 1)).1 130 48 = A.1 7 0 0 := by
        rw [gy_all key, uA_ne (by decide), uA_ne (by decide)]
      rw [e48]
      refine ⟨_, rfl, ?_⟩
      unfold mDeliver
      rw [hv']
      exact sy_all key _
    | succ c ih =>
      intro fu τ hc hfu t2 t1 t3 t4
      obtain ⟨fu, rfl⟩ : ∃ z, fu = z + 1 := ⟨fu - 1, by omega⟩
      obtain ⟨i1, i2, i3, i4, i5, i6⟩ := ix56b_a n hn c (by omega)
      rw [f_Y_valued_L98, if_neg i6, if_pos i2, if_pos i4, i1, i3, i5, t4 (8 * n + c) (by omega)]
      simp only [tm_w]
      refine ih fu _ (by omega) (by omega) t2 (fun q hq => ?_) (fun i h1 h2 => ?_) (fun p hp => ?_)
      · rw [sI_ne1 hq]
        exact t1 q hq
      · by_cases hic : i = c
        · subst hic
          rw [sI_eq]
        · rw [sI_no (by omega)]
          exact t3 i (by omega) h2
      · rw [sI_no (by omega)]
        exact t4 p (by omega)
  exact lp_ 7 200 σ (by omega) (by omega) rfl (fun _ _ => rfl) (fun i h1 h2 => absurd h1 (by omega)) (fun _ _ => rfl)
theorem hops1 {h : Int32} (h1 : 1 ≤ h) : h ≤ 1 ↔ h = 1 := by
  constructor
  · intro r
    exact Int32.toInt_inj.mp (by
      have r1 := i_le.mp r
      have r2 := i_le.mp h1
      omega)
  · intro r
    rw [r]
    decide
theorem y_recV (h : RY σ0 B none σ A) (hB : B < 1999999990) (w : wf m A) (hn : n < 7) (hx : x < 7) (hs : s < 32) (hF : FY σ s f) (hk : f 0 = 4) (hwf : wfF f) : ∃ σ', f_Y_valued σ (nX n) (nX x) (Int32.ofNat s) = some σ' ∧ RY σ0 (B + 1) none σ' (mRecV A n x f) := by
  obtain ⟨-, -, b3, b4⟩ := lp_a n hn
  obtain ⟨-, -, x3, x4⟩ := lp_a x hx
  obtain ⟨a1, a2, -, a4⟩ := s32_a s hs
  obtain ⟨f1, f2, f3, f4, f5, f6⟩ := hF.2.2.2 hk
  obtain ⟨hg, hh1, hbe⟩ : nds (f 4) ∧ 1 ≤ f 5 ∧ bl (f 8) := by
    rcases hwf with ⟨h | h, -⟩ | ⟨h, -⟩ | ⟨-, -, h1, h3, -, h2⟩
    · rw [hk] at h; exact absurd h (by decide)
    · rw [hk] at h; exact absurd h (by decide)
    · rw [hk] at h; exact absurd h (by decide)
    · exact ⟨h1, h3, h2⟩
  have l84 : ∀ d : Int32, (d = 0 ↔ ¬ sWrong A n x f = true) → (¬ d = 0 → f 8 = 0) → ∃ σ', f_Y_valued_L84 σ (nX n) (Int32.ofNat s) d = some σ' ∧ RY σ0 (B + 1) none σ' (mRecV A n x f) := by
    intro d hd1 hd2
    have hc : ¬ (sWrong A n x f = true ∧ ¬ f 8 = 0) := by
      rintro ⟨q1, q2⟩
      by_cases d0 : d = 0
      · exact hd1.mp d0 q1
      · exact q2 (hd2 d0)
    unfold f_Y_valued_L84 f_Y_valued_L249 f_Y_valued_L254 mRecV
    simp only [if_pos a1, tm_w]
    rw [a2, f2, if_neg hc, f3, f4, f1, f6]
    by_cases c1 : f 4 = nX n
    · rw [if_pos c1, if_pos c1]
      exact y_deliver h hB hn hs hF hk
    · rw [if_neg c1, if_neg c1]
      by_cases c2 : f 5 = 1
      · rw [if_pos c2, if_pos ((hops1 hh1).mpr c2), gy_dropped h]
        exact ⟨_, rfl, (sy_dropped h _).mono (by omega)⟩
      · rw [if_neg c2, if_neg (fun r => c2 ((hops1 hh1).mp r))]
        by_cases d0 : d = 0
        · rw [if_pos d0]
          by_cases e0 : f 8 = 0
          · rw [if_pos e0, if_neg (fun r => r.elim (hd1.mp d0) (fun r => r e0))]
            obtain ⟨σ', e, h'⟩ := y_send h hB w hn (sr := f 3) (hh := f 5 - 1) (v := f 6) (e := 0) hg (Or.inl rfl)
            rw [e]
            exact ⟨σ', rfl, h'⟩
          · rw [if_neg e0, if_pos (Or.inr e0)]
            obtain ⟨σ', e, h'⟩ := y_send h hB w hn (sr := f 3) (hh := f 5 - 1) (v := f 6) (e := 1) hg (Or.inr rfl)
            rw [e]
            exact ⟨σ', rfl, h'⟩
        · rw [if_neg d0]
          have hwr : sWrong A n x f = true := Classical.byContradiction fun r => d0 (hd1.mpr r)
          rw [if_pos (Or.inl hwr)]
          obtain ⟨σ', e, h'⟩ := y_send h hB w hn (sr := f 3) (hh := f 5 - 1) (v := f 6) (e := 1) hg (Or.inr rfl)
          rw [e]
          exact ⟨σ', rfl, h'⟩
  have l52 : ∀ d : Int32, (d = 0 ↔ ¬ sWrong A n x f = true) → ∃ σ', f_Y_valued_L52 σ (nX n) (Int32.ofNat s) d = some σ' ∧ RY σ0 (B + 1) none σ' (mRecV A n x f) := by
    intro d hd1
    unfold f_Y_valued_L52
    rw [if_pos a1, a2, f6]
    by_cases d0 : d = 0
    · rw [if_pos d0]
      exact l84 d hd1 (fun r => absurd d0 r)
    · rw [if_neg d0]
      by_cases e0 : f 8 = 0
      · rw [if_pos e0]
        exact l84 d hd1 (fun _ => e0)
      · rw [if_neg e0]
        have hwr : sWrong A n x f = true := Classical.byContradiction fun r => d0 (hd1.mpr r)
        simp only [tm_w]
        rw [gy_dropped h]
        obtain ⟨σ', e, h'⟩ := y_reset (sy_dropped h (A.1 6 0 0 + 1)) hn
        rw [e]
        refine ⟨σ', rfl, ?_⟩
        unfold mRecV
        rw [if_pos ⟨hwr, e0⟩]
        exact h'.mono (by omega)
  unfold f_Y_valued
  simp only [if_pos a1, if_pos b4, if_pos x4]
  rw [a2, b3, x3, f5, gy_rank h hn, gy_rank h hx]
  by_cases c : f 7 = 0
  · rw [if_pos c]
    have hs : sWrong A n x f = decide (A.1 13 x 0 ≤ A.1 13 n 0) := by
      unfold sWrong
      rw [if_pos c]
    by_cases c2 : A.1 13 n 0 < A.1 13 x 0
    · rw [if_pos c2]
      exact l52 0 ⟨fun _ => by rw [hs, decide_eq_true_eq]; exact Int32.not_le.mpr c2, fun _ => rfl⟩
    · rw [if_neg c2]
      exact l52 1 ⟨fun r => absurd r (by decide), fun r => absurd (by rw [hs, decide_eq_true_eq]; exact Int32.not_lt.mp c2) r⟩
  · rw [if_neg c]
    have hs : sWrong A n x f = decide (A.1 13 n 0 ≤ A.1 13 x 0) := by
      unfold sWrong
      rw [if_neg c]
    by_cases c2 : A.1 13 x 0 < A.1 13 n 0
    · rw [if_pos c2]
      exact l52 0 ⟨fun _ => by rw [hs, decide_eq_true_eq]; exact Int32.not_le.mpr c2, fun _ => rfl⟩
    · rw [if_neg c2]
      exact l52 1 ⟨fun r => absurd r (by decide), fun r => absurd (by rw [hs, decide_eq_true_eq]; exact Int32.not_lt.mp c2) r⟩
theorem y_rts_lp (hn : n < 7) (hB : B < 1999999990) (hx : x < 7) (hs : s < 32) (hk : f 0 = 3) (hbl : bl (f 4)) : ∀ (c g k : Nat) (τ : tm_S) (C : sA) (ch : Int32), g + c = 7 → c < k → RY σ0 B none τ C → nod (C.1 14 n 0) → FY τ s f → ∃ σ', f_Y_announced_L6 k τ (nX n) (nX x) (Int32.ofNat s) ch (nX g) = some σ' ∧ RY σ0 (B + 1) none σ' (if (mRts n x f c g C ch).2 = 0 ∨ (mRts n x f c g C ch).1.1 14 n 0 = -1 then (mRts n x f c g C ch).1 else mAnn (mRts n x f c g C ch).1 n (mRts n x f c g C ch).2 ((mRts n x f c g C ch).1.1 14 n 0) (f 4))
  | 0, g, k + 1, τ, C, ch, hg, _, h, hp, hF => by
    obtain rfl : g = 7 := by omega
    obtain ⟨-, -, b3, b4⟩ := lp_a n hn
    obtain ⟨a1, a2, -, a4⟩ := s32_a s hs
    obtain ⟨f3, f4, f5⟩ := hF.2.2.1 hk
    rw [f_Y_announced_L6, if_pos (by decide)]
    simp only [if_pos b4, if_pos a1]
    rw [b3, a2, gy_parent h hn, f4]
    show ∃ σ', _ = some σ' ∧ RY σ0 (B + 1) none σ' (if ch = 0 ∨ C.1 14 n 0 = -1 then C else mAnn C n ch (C.1 14 n 0) (f 4))
    by_cases c1 : ch = 0
    · rw [if_pos c1, if_pos (Or.inl c1)]
      exact ⟨τ, rfl, h.mono (by omega)⟩
    · by_cases c2 : C.1 14 n 0 = -1
      · rw [if_neg c1, if_pos ((nod_neg hp).mpr c2), if_pos (Or.inr c2)]
        exact ⟨τ, rfl, h.mono (by omega)⟩
      · rw [if_neg c1, if_neg (fun r => c2 ((nod_neg hp).mp r)), if_neg (fun r => r.elim c1 c2)]
        obtain ⟨σ', e, h'⟩ := y_ann h (by omega) hn ch (C.1 14 n 0) (f 4) hbl
        rw [e]
        exact ⟨σ', rfl, h'⟩
  | c + 1, g, k + 1, τ, C, ch, hg, hkk, h, hp, hF => by
    have hg7 : g < 7 := by omega
    obtain ⟨g1, g2, g3, g4⟩ := lp_a g hg7
    obtain ⟨a1, a2, -, a4⟩ := s32_a s hs
    obtain ⟨f3, f4, f5⟩ := hF.2.2.1 hk
    have o49 := ok49_a n hn g hg7
    have o224 := (ix224_a s hs g hg7).2
    have no := y_rts_lp hn hB hx hs hk hbl c (g + 1) k τ C ch (by omega) (by omega) h hp hF
    rw [f_Y_announced_L6, if_neg g1]
    have l69 : f_Y_announced_L69 (f_Y_announced_L6 k) τ (nX n) (nX x) (Int32.ofNat s) ch (nX g) ((7 : Int32) * nX n + nX g) = f_Y_announced_L6 k τ (nX n) (nX x) (Int32.ofNat s) ch (nX (g + 1)) := by
      unfold f_Y_announced_L69 f_Y_announced_L70 f_Y_announced_L101 f_Y_announced_L102 f_Y_announced_L118 f_Y_announced_L201
      simp only [if_pos a1, g2]
      rw [if_pos trivial, if_pos trivial]
      split <;> rfl
    rw [l69]
    by_cases c2 : g = n
    · rw [if_pos (show nX g = nX n by rw [c2]), Rts_n (fun r => r.2.1 c2)]
      exact no
    · rw [if_neg (fun r => c2 ((nI_eq_iff hg7 hn).mp r)), if_pos a1, a2, f3]
      by_cases c1 : (f 3 >>> (nX g &&& 31)) &&& 1 = 1
      · rw [if_pos c1, if_pos o224, if_pos o49, (ix224_a s hs g hg7).1, (ix49_a n hn g hg7).1, f5 g hg7, gy_numbers h hn hg7]
        by_cases c3 : f (10 + g) < C.1 32 n g
        · rw [if_pos c3, Rts_n (fun r => r.2.2.1 c3)]
          exact no
        · rw [if_neg c3]
          /- taken: numbers and next -/
          have l118 : f_Y_announced_L118 (f_Y_announced_L6 k) τ (nX n) (nX x) (Int32.ofNat s) ch (nX g) ((7 : Int32) * nX n + nX g) 1 (sNx x f) = f_Y_announced_L6 k (sI (sI τ 134 (7 * n + g) (sNx x f)) 135 (7 * n + g) (f (10 + g))) (nX n) (nX x) (Int32.ofNat s) (if f (10 + g) = C.1 32 n g ∧ sNx x f = C.1 31 n g then ch else ch ||| ((1 : Int32) <<< (nX g &&& 31))) (nX (g + 1)) := by
            have e159 : (sI τ 134 (7 * n + g) (sNx x f)).1 159 (7 * s + g) = f (10 + g) := by
              rw [sI_ne1 (by decide)]
              exact f5 g hg7
            unfold f_Y_announced_L118 f_Y_announced_L159 f_Y_announced_L171 f_Y_announced_L201
            simp only [if_pos o49, if_pos o224, tm_w]
            rw [if_neg (by decide), (ix49_a n hn g hg7).1, (ix224_a s hs g hg7).1, gy_nexts h hn hg7, gy_numbers h hn hg7, f5 g hg7, e159, g2]
            by_cases d1 : C.1 31 n g = sNx x f
            · rw [if_pos d1]
              by_cases d2 : C.1 32 n g = f (10 + g)
              · rw [if_pos d2, if_pos ⟨d2.symm, d1.symm⟩]
              · rw [if_neg d2, if_neg (fun r => d2 r.1.symm)]
            · rw [if_neg d1, if_neg (fun r => d1 r.2.symm)]
          have h2 : RY σ0 B none (sI (sI τ 134 (7 * n + g) (sNx x f)) 135 (7 * n + g) (f (10 + g))) (mRt C n x g f) := by
            have := sy_numbers (sy_nexts h hn hg7 (sNx x f)) hn hg7 (f (10 + g))
            rw [uA_comm (by decide)] at this
            exact this
          have hp2 : nod ((mRt C n x g f).1 14 n 0) := by
            unfold mRt
            rw [uA_ne (by decide), uA_ne (by decide)]
            exact hp
          have hF2 : FY (sI (sI τ 134 (7 * n + g) (sNx x f)) 135 (7 * n + g) (f (10 + g))) s f := (hF.wr (by decide)).wr (by decide)
          unfold f_Y_announced_L70 f_Y_announced_L97 f_Y_announced_L101 f_Y_announced_L102
          simp only [if_pos a1, if_pos o49]
          rw [if_neg (by decide), a2, f4, (ix49_a n hn g hg7).1, gy_nexts h hn hg7]
          by_cases c4 : f 4 = 0
          · have hcond : (f 3 >>> (nX g &&& 31)) &&& 1 = 1 ∧ ¬ g = n ∧ ¬ (f (10 + g) < C.1 32 n g) ∧ ¬ (¬ f 4 = 0 ∧ ¬ C.1 31 n g = nX x) := ⟨c1, c2, c3, fun r => r.1 c4⟩
            have eNx : sNx x f = nX x := if_pos c4
            rw [if_pos c4, if_pos c4, Rts_y hcond]
            rw [eNx] at l118 h2 hF2
            rw [l118, eNx]
            exact y_rts_lp hn hB hx hs hk hbl c (g + 1) k _ _ _ (by omega) (by omega) h2 hp2 hF2
          · have eNx : sNx x f = -1 := if_neg c4
            rw [if_neg c4, if_neg c4, if_neg c4]
            by_cases c5 : C.1 31 n g = nX x
            · have hcond : (f 3 >>> (nX g &&& 31)) &&& 1 = 1 ∧ ¬ g = n ∧ ¬ (f (10 + g) < C.1 32 n g) ∧ ¬ (¬ f 4 = 0 ∧ ¬ C.1 31 n g = nX x) := ⟨c1, c2, c3, fun r => r.2 c5⟩
              rw [if_pos c5, Rts_y hcond]
              rw [eNx] at l118 h2 hF2
              rw [l118, eNx]
              exact y_rts_lp hn hB hx hs hk hbl c (g + 1) k _ _ _ (by omega) (by omega) h2 hp2 hF2
            · rw [if_neg c5, Rts_n (fun r => r.2.2.2 ⟨c4, c5⟩)]
              unfold f_Y_announced_L118 f_Y_announced_L201
              rw [if_pos rfl, g2]
              exact no
      · rw [if_neg c1, Rts_n (fun r => c1 r.1)]
        exact no
theorem y_recA (h : RY σ0 B none σ A) (hB : B < 1999999990) (w : wf m A) (hn : n < 7) (hx : x < 7) (hs : s < 32) (hF : FY σ s f) (hk : f 0 = 3) (hbl : bl (f 4)) : ∃ σ', f_Y_announced σ (nX n) (nX x) (Int32.ofNat s) = some σ' ∧ RY σ0 (B + 1) none σ' (mRecA A n x f) := by
  have hp : nod (A.1 14 n 0) ∧ _ := w.1 14 n 0 (xV_n (by decide) hn)
  exact y_rts_lp hn hB hx hs hk hbl 7 0 200 σ A 0 (by omega) (by omega) h hp.1 hF
end Y4
