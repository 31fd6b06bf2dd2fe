/-! the reference does what the mathematics says: failing, timers, adverts -/
section Y3
variable {σ0 σ : tm_S} {A : sA} {n m B x : Nat} {tmp : Option Nat}
theorem add0 {A : sA} {t i j : Nat} : uA A t i j (A.1 t i j + 0) = A := by
  rw [show A.1 t i j + 0 = A.1 t i j from Int32.add_zero _]
  exact uA_self
theorem nds_ge {v : Int32} (h : nod v) : 0 ≤ v ↔ ¬ v = -1 := by
  rw [← nod_neg h]
  exact Int32.not_lt.symm
theorem y_fail_lp {z : Int32} (hz : nds z) (hn : n < 7) (hB : B < 1999999990) (w : wf m (mClr A n z)) (h0 : (mClr A n z).1 14 n 0 = z → n ≠ 0) : ∀ (c b k : Nat) (τ : tm_S), b + c = 7 → c < k → RY σ0 B none τ (mClk A n z b) → ∃ σ', f_Y_fails_L53 k τ (nX n) z (nX b) = some σ' ∧ RY σ0 (B + 2) none σ' (mFail2 (mClr A n z) n z)
  | 0, b, k + 1, τ, hg, _, h => by
    obtain rfl : b = 7 := by omega
    obtain ⟨-, -, b3, b4⟩ := lp_a n hn
    rw [mClk_7] at h
    rw [f_Y_fails_L53, if_pos (by decide), if_pos b4, b3, gy_parent h hn]
    unfold mFail2
    by_cases c : (mClr A n z).1 14 n 0 = z
    · have hn0 := h0 c
      obtain ⟨zm, hzm, rfl⟩ := hz
      rw [if_pos c, if_pos c, if_pos (ok49_a n hn zm hzm), (ix49_a n hn zm hzm).1, (lp_a zm hzm).2.2.1]
      simp only [tm_w]
      have h1 := h.unknow (a := n) hzm
      obtain ⟨σ', e, h'⟩ := y_choose h1 hB (w.s 30 n zm 0 ⟨by decide, fun _ => rfl⟩ (by decide)) hn hn0
      rw [e]
      exact ⟨σ', rfl, h'⟩
    · rw [if_neg c, if_neg c]
      exact ⟨τ, rfl, h.mono (by omega)⟩
  | c + 1, b, k + 1, τ, hg, hk, h => by
    have hb : b < 7 := by omega
    obtain ⟨a1, a2, a3, a4⟩ := lp_a b hb
    have o49 := ok49_a n hn b hb
    rw [f_Y_fails_L53, if_neg a1]
    unfold f_Y_fails_L103
    simp only [if_pos o49, tm_w]
    rw [(ix49_a n hn b hb).1, gy_nexts h hn hb, mClk_b, a2]
    by_cases cz : A.1 31 n b = z
    · rw [if_pos cz]
      have h1 := sy_nexts h hn hb (-1)
      rw [mClk_y cz] at h1
      exact y_fail_lp hz hn hB w h0 c (b + 1) k _ (by omega) (by omega) h1
    · rw [if_neg cz]
      have h1 := sy_nexts h hn hb (A.1 31 n b)
      have e : uA (mClk A n z b) 31 n b (A.1 31 n b) = mClk A n z b := by
        have := uA_self (A := mClk A n z b) (t := 31) (i := n) (j := b)
        rw [mClk_b] at this
        exact this
      rw [e, mClk_n cz] at h1
      exact y_fail_lp hz hn hB w h0 c (b + 1) k _ (by omega) (by omega) h1
theorem RY.head (h : RY σ0 B tmp σ A) (hn : n < 7) (hne : A.2 n ≠ []) : (A.2 n)[0]? = some (fr0 A n) := by
  unfold fr0
  cases hl : A.2 n with
  | nil => exact absurd hl hne
  | cons f t => rfl
theorem y_fail (h : RY σ0 B none σ A) (hB : B < 1999999990) (w : wf n A) (hn : n < 7) (hl : A.1 23 n 0 = 0) (hne : A.2 n ≠ []) : ∃ σ', f_Y_fails σ (nX n) = some σ' ∧ RY σ0 (B + 2) none σ' (mFail A n) := by
  obtain ⟨-, -, b3, b4⟩ := lp_a n hn
  have hf := h.head hn hne
  have hwf := fr0_wf w hn hne
  obtain ⟨q1, q2, -, q4⟩ := h.at hn hf
  rw [Nat.add_zero] at q2
  obtain ⟨p1, p2, -, p4⟩ := s32_a _ q1
  have fin : ∀ τ C, RY σ0 B none τ C → C.2 n ≠ [] → wf 7 (mPop C n) → ∃ σ', ((f_Y_done τ (nX n)).bind fun q5 => if 0 ≤ fr0 A n 1 then f_Y_fails_L53 tm_fu q5 (nX n) (fr0 A n 1) (0 : Int32) else some q5) = some σ' ∧ RY σ0 (B + 2) none σ' (if fr0 A n 1 = -1 then mPop C n else mFail2 (mClr (mPop C n) n (fr0 A n 1)) n (fr0 A n 1)) := by
    intro τ C hτ hC w1
    obtain ⟨σ1, e1, h1⟩ := y_done hτ hn hC
    rw [e1]
    simp only [Option.bind_some]
    by_cases c : fr0 A n 1 = -1
    · rw [if_neg (fun r => (nds_ge (wfF_to hwf)).mp r c), if_pos c]
      exact ⟨σ1, rfl, h1.mono (by omega)⟩
    · rw [if_pos ((nds_ge (wfF_to hwf)).mpr c), if_neg c]
      have hz := nod_nds (wfF_to hwf) c
      have wC := w_Clr w1 n (fr0 A n 1)
      refine y_fail_lp hz hn hB wC (fun r e => ?_) 7 0 200 σ1 (by omega) (by omega) (by rw [mClk_0]; exact h1)
      have hp : nod ((mClr (mPop C n) n (fr0 A n 1)).1 14 n 0) ∧ (n = 0 → (mClr (mPop C n) n (fr0 A n 1)).1 14 n 0 = -1) := wC.1 14 n 0 (xV_n (by decide) hn)
      exact c (r.symm.trans (hp.2 e))
  unfold f_Y_fails f_Y_fails_L36
  rw [(ix4_a n hn).1, q2]
  simp only [if_pos p1, tm_w]
  rw [p2, if_pos (by rw [← (ix4_a n hn).1]; exact (ix4_a n hn).2), q4.1, q4.2.1, gy_dropped h]
  unfold mFail mFail1
  by_cases c : fr0 A n 0 = 4
  · rw [if_pos c, if_pos c]
    exact fin _ _ (sy_dropped h _) hne (w_Pop (w_Drop w) hn hl)
  · rw [if_neg c, if_neg c]
    have h1 := sy_dropped h (A.1 6 0 0 + 0)
    rw [add0] at h1
    exact fin _ _ h1 hne (w_Pop w hn hl)
theorem dbl_eq {v : Int32} (h : ivl v) : (if (2 : Int32) * v ≤ 64 then (2 : Int32) * v else 64) = if v * 2 < (64 : Int32) then v * 2 else 64 := by
  rcases h with rfl | rfl | rfl | rfl | rfl <;> decide
theorem nz_half {v : Int32} (h : 0 < v) : ¬ v = 0 := fun e => by
  rw [e] at h
  exact absurd h (by decide)
theorem y_tm2 (h : RY σ0 B tmp σ A) (w : wf m A) (hn : n < 7) : ∃ σ', f_Y_timer_L70 σ (nX n) = some σ' ∧ RY σ0 B tmp σ' (mTm2 A n) := by
  obtain ⟨-, -, b3, b4⟩ := lp_a n hn
  have hi : ivl (A.1 26 n 0) := w.1 26 n 0 (xV_n (by decide) hn)
  unfold f_Y_timer_L70 f_Y_timer_L116 mTm2
  simp only [if_pos b4, tm_w]
  rw [b3, gy_clock h hn, gy_interval h hn]
  by_cases c1 : A.1 27 n 0 = A.1 26 n 0
  · rw [if_pos c1, if_pos c1, ← dbl_eq hi]
    have hh := nz_half (ivl_half (ivl_dbl hi))
    rw [← dbl_eq hi] at hh
    by_cases c2 : (2 : Int32) * A.1 26 n 0 ≤ 64
    · rw [if_pos c2] at hh ⊢
      rw [if_pos c2]
      obtain ⟨σ', e, h'⟩ := y_begin (sy_interval h hn _) hn hh
      rw [e]
      exact ⟨σ', rfl, h'⟩
    · rw [if_neg c2] at hh ⊢
      rw [if_neg c2]
      obtain ⟨σ', e, h'⟩ := y_begin (sy_interval h hn _) hn hh
      rw [e]
      exact ⟨σ', rfl, h'⟩
  · rw [if_neg c1, if_neg c1]
    exact ⟨σ, rfl, h⟩
theorem y_timer (h : RY σ0 B none σ A) (hB : B < 1999999990) (w : wf 7 A) (hn : n < 7) (ha : ¬ A.1 11 n 0 = 0) : ∃ σ', f_Y_timer σ (nX n) = some σ' ∧ RY σ0 (B + 1) none σ' (mTimer A n) := by
  obtain ⟨-, -, b3, b4⟩ := lp_a n hn
  have h1 : RY σ0 B none (sI σ 144 n (A.1 27 n 0 + 1)) (mCk A n) := sy_clock h hn _
  have w1 : wf 7 (mCk A n) := w.s 27 n 0 _ trivial (by decide)
  unfold f_Y_timer mTimer mTm1
  simp only [if_pos b4, tm_w]
  rw [b3, gy_started h hn, gy_clock h hn]
  by_cases c0 : A.1 25 n 0 = 0
  · rw [if_pos c0, if_pos c0]
    exact ⟨σ, rfl, h.mono (by omega)⟩
  · rw [if_neg c0, if_neg c0, gy_clock h1 hn, gy_point h1 hn, gy_redundant h1, gy_count h1 hn]
    by_cases c1 : (mCk A n).1 27 n 0 = (mCk A n).1 28 n 0
    · rw [if_pos c1]
      by_cases c2 : (mCk A n).1 1 0 0 ≤ (mCk A n).1 29 n 0
      · rw [if_pos c2, if_neg (fun r => Int32.not_lt.mpr c2 r.2)]
        obtain ⟨σ', e, h'⟩ := y_tm2 h1 w1 hn
        exact ⟨σ', e, h'.mono (by omega)⟩
      · rw [if_neg c2, if_pos ⟨c1, Int32.not_le.mp c2⟩]
        obtain ⟨σ2, e, h2⟩ := y_once h1 (by omega) hn (k := 2) (Or.inr rfl) (fun q => f_Y_timer_L70 q (nX n))
        rw [e]
        exact y_tm2 h2 (w_Once w1 hn (Or.inr rfl) ha) hn
    · rw [if_neg c1, if_neg (fun r => c1 r.1)]
      obtain ⟨σ', e, h'⟩ := y_tm2 h1 w1 hn
      exact ⟨σ', e, h'.mono (by omega)⟩
/-- the first b ranks that n knows are forgotten -/
def mZk (A : sA) (n b : Nat) : sA := (fun t i j => if t = 30 ∧ i = n ∧ j < b then 0 else A.1 t i j, A.2)
theorem mZk_0 : mZk A n 0 = A := Prod.ext (by
  funext t i j
  show (if _ then _ else _) = _
  rw [if_neg (by omega)]) rfl
theorem mZk_7 : mZk A n 7 = mZr A n := rfl
theorem mZk_s (b : Nat) : uA (mZk A n b) 30 n b 0 = mZk A n (b + 1) := Prod.ext (by
  funext t i j
  show (if _ then _ else if _ then _ else _) = (if _ then _ else _)
  by_cases c : t = 30 ∧ i = n ∧ j = b
  · rw [if_pos c, if_pos ⟨c.1, c.2.1, by omega⟩]
  · rw [if_neg c]
    by_cases c2 : t = 30 ∧ i = n ∧ j < b
    · rw [if_pos c2, if_pos ⟨c2.1, c2.2.1, by omega⟩]
    · rw [if_neg c2, if_neg]
      rintro ⟨r1, r2, r3⟩
      rcases Nat.lt_or_ge j b with q | q
      · exact c2 ⟨r1, r2, q⟩
      · exact c ⟨r1, r2, by omega⟩) rfl
theorem y_adv132 (h : RY σ0 B none σ A) (hB : B < 1999999990) (w : wf m A) (hn : n < 7) (hx : x < 7) (hne : n ≠ x) : ∃ σ', f_Y_advert_L132 σ (nX n) (nX x) = some σ' ∧ RY σ0 (B + 2) none σ' (mAdv3 (uA A 30 n x (A.1 13 x 0)) n) := by
  obtain ⟨-, -, b3, b4⟩ := lp_a n hn
  obtain ⟨-, -, x3, x4⟩ := lp_a x hx
  have hr : (1 ≤ A.1 13 x 0 ∧ A.1 13 x 0 ≤ 255) ∧ _ := w.1 13 x 0 (xV_n (by decide) hx)
  have hr0 : ¬ A.1 13 x 0 = 0 := by
    intro r
    rw [r] at hr
    exact absurd hr.1.1 (by decide)
  have h1 := h.know (a := n) hx hr0
  have w1 : wf m (uA A 30 n x (A.1 13 x 0)) := w.s 30 n x _ ⟨⟨Int32.le_trans (by decide) hr.1.1, hr.1.2⟩, fun e => absurd e hne⟩ (by decide)
  have o49 := ok49_a n hn x hx
  generalize hC : uA A 30 n x (A.1 13 x 0) = C at h1 w1 ⊢
  have up : ∀ τ D, RY σ0 (B + 2) none τ D → ∃ σ', f_Y_advert_L177 τ (nX n) = some σ' ∧ RY σ0 (B + 2) none σ' (mCount D n) := by
    intro τ D hD
    unfold f_Y_advert_L177 f_Y_advert_L178 f_Y_advert_L195
    simp only [if_pos b4, tm_w]
    rw [b3, if_pos trivial, gy_count hD hn]
    exact ⟨_, rfl, sy_count hD hn _⟩
  unfold f_Y_advert_L132
  simp only [if_pos o49, if_pos x4, tm_w]
  rw [(ix49_a n hn x hx).1, x3, gy_rank h hx]
  unfold mAdv3
  by_cases c0 : n = 0
  · rw [if_pos ((nX_0 hn).mpr c0), if_pos c0]
    exact up _ _ (h1.mono (by omega))
  · rw [if_neg (fun r => c0 ((nX_0 hn).mp r)), if_neg c0, Choose_rank, Choose_parent]
    obtain ⟨τ, e, h2⟩ := y_choose h1 hB w1 hn c0
    rw [e]
    simp only [Option.bind_some]
    by_cases c1 : sR C n = C.1 13 n 0 ∧ sP' C n = C.1 14 n 0
    · simp only [if_pos c1]
      rw [if_pos trivial]
      exact up _ _ h2
    · simp only [if_neg c1]
      rw [if_neg (by decide)]
      unfold f_Y_advert_L178 f_Y_advert_L195
      simp only [if_pos b4, tm_w]
      rw [b3, if_neg (by decide), gy_count h2 hn]
      have h3 := sy_count h2 hn ((mChoose C n).1 29 n 0 + 0)
      rw [add0] at h3
      exact ⟨_, rfl, h3⟩
theorem y_adv33 (hB : B < 1999999990) (hn : n < 7) (h0 : n ≠ 0) (hx : x < 7) (hne : n ≠ x) {v : Int32} (w : wf m A) : ∀ (c b k : Nat) (τ : tm_S), b + c = 7 → c < k → RY σ0 B none τ (mZk (uA A 12 n 0 v) n b) → ∃ σ', f_Y_advert_L33 k τ (nX n) (nX x) (nX b) = some σ' ∧ RY σ0 (B + 2) none σ' (mAdv3 (uA (mVers A n v) 30 n x ((mVers A n v).1 13 x 0)) n)
  | 0, b, k + 1, τ, hg, _, h => by
    obtain rfl : b = 7 := by omega
    obtain ⟨-, -, b3, b4⟩ := lp_a n hn
    rw [mZk_7] at h
    have h1 := sy_least h hn 255
    have wV := w_Vers w h0 v
    have ep : (uA (mZr (uA A 12 n 0 v) n) 15 n 0 255).1 14 n 0 = A.1 14 n 0 := rfl
    have er : (uA (mZr (uA A 12 n 0 v) n) 15 n 0 255).1 13 n 0 = A.1 13 n 0 := rfl
    have hp : nod (A.1 14 n 0) ∧ _ := w.1 14 n 0 (xV_n (by decide) hn)
    rw [f_Y_advert_L33, if_pos (by decide)]
    simp only [if_pos b4, tm_w]
    rw [b3, gy_parent h1 hn, gy_rank h1 hn, ep, er]
    have l87 : ¬ (A.1 14 n 0 = -1 ∧ A.1 13 n 0 = 255) → ∃ σ', f_Y_advert_L87 (sI τ 141 n 255) (nX n) (nX x) = some σ' ∧ RY σ0 (B + 2) none σ' (mAdv3 (uA (mVers A n v) 30 n x ((mVers A n v).1 13 x 0)) n) := by
      intro hc
      have eV : mVers A n v = mReset (uA (uA (uA (mZr (uA A 12 n 0 v) n) 15 n 0 255) 13 n 0 255) 14 n 0 (-1)) n := if_neg hc
      obtain ⟨τ', e, h'⟩ := y_reset (sy_parent (sy_rank h1 hn 255) hn (-1)) hn
      rw [← eV] at h'
      unfold f_Y_advert_L87
      simp only [if_pos b4, tm_w]
      rw [b3, e]
      exact y_adv132 h' hB wV hn hx hne
    by_cases c1 : A.1 14 n 0 = -1
    · rw [if_neg (fun r => (nds_ge hp.1).mp r c1)]
      by_cases c2 : A.1 13 n 0 = 255
      · have eV : mVers A n v = uA (mZr (uA A 12 n 0 v) n) 15 n 0 255 := if_pos ⟨c1, c2⟩
        rw [if_pos c2]
        rw [← eV] at h1
        exact y_adv132 h1 hB wV hn hx hne
      · rw [if_neg c2]
        exact l87 (fun r => c2 r.2)
    · rw [if_pos ((nds_ge hp.1).mpr c1)]
      exact l87 (fun r => c1 r.1)
  | c + 1, b, k + 1, τ, hg, hk, h => by
    have hb : b < 7 := by omega
    obtain ⟨a1, a2, a3, a4⟩ := lp_a b hb
    rw [f_Y_advert_L33, if_neg a1, if_pos (ok49_a n hn b hb), (ix49_a n hn b hb).1, a2]
    simp only [tm_w]
    have h1 := h.unknow (a := n) hb
    rw [mZk_s] at h1
    exact y_adv33 hB hn h0 hx hne w c (b + 1) k _ (by omega) (by omega) h1
theorem y_advert (h : RY σ0 B none σ A) (hB : B < 1999999990) (w : wf m A) (hn : n < 7) (hx : x < 7) (hne : n ≠ x) : ∃ σ', f_Y_advert σ (nX n) (nX x) = some σ' ∧ RY σ0 (B + 2) none σ' (mAdvert A n x) := by
  obtain ⟨-, -, b3, b4⟩ := lp_a n hn
  obtain ⟨-, -, x3, x4⟩ := lp_a x hx
  unfold f_Y_advert f_Y_advert_L111 mAdvert mAdv2
  simp only [if_pos b4, if_pos x4, tm_w]
  rw [b3, x3, gy_version h hn, gy_version h hx]
  by_cases c1 : A.1 12 x 0 < A.1 12 n 0
  · rw [if_pos (Int32.le_of_lt c1), if_neg (Int32.not_le.mpr c1), if_pos c1]
    obtain ⟨σ', e, h'⟩ := y_reset h hn
    rw [e]
    exact ⟨σ', rfl, h'.mono (by omega)⟩
  · rw [if_neg c1, if_pos (Int32.not_lt.mp c1)]
    by_cases c2 : A.1 12 x 0 ≤ A.1 12 n 0
    · have e : mAdv1 A n x = A := by
        unfold mAdv1
        rw [if_neg (fun r => Int32.not_lt.mpr c2 r.1)]
      rw [if_pos c2, e]
      exact y_adv132 h hB w hn hx hne
    · rw [if_neg c2]
      by_cases c3 : n = 0
      · have e : mAdv1 A n x = A := by
          unfold mAdv1
          rw [if_neg (fun r => r.2 c3)]
        rw [if_pos ((nX_0 hn).mpr c3), e]
        exact y_adv132 h hB w hn hx hne
      · have e : mAdv1 A n x = mVers A n (A.1 12 x 0) := by
          unfold mAdv1
          rw [if_pos ⟨Int32.not_le.mp c2, c3⟩]
        rw [if_neg (fun r => c3 ((nX_0 hn).mp r)), e]
        exact y_adv33 hB hn c3 hx hne w 7 0 200 _ (by omega) (by omega) (by rw [mZk_0]; exact sy_version h hn _)
end Y3
