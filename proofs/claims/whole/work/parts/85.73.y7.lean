/-! the reference does what the mathematics says: a tick -/
def yT (σ : tm_S) (A : sA) : Prop := ∀ i, i < 7 → σ.1 169 i = if A.1 19 i 0 = 0 then 0 else 1
section Y7
variable {σ : tm_S} {A : sA} {n B : Nat}
theorem RY.dead {σ0 : tm_S} {tmp : Option Nat} (h : RY σ0 B tmp σ A) (hn : n < 7) : σ.1 137 n = 0 ↔ ¬ A.1 11 n 0 = 0 := by
  rcases h.2.1 n hn with ⟨r1, r2⟩ | ⟨r1, r2⟩
  · rw [r1, r2]
    decide
  · rw [r1, r2]
    decide
theorem y_l12 (hw : wf 7 A) : ∀ (c n k : Nat) (τ : tm_S), n + c = 7 → c < k → RY τ B none τ A → (∀ i, i < n → τ.1 170 i = A.1 23 i 0 ∧ τ.1 171 i = 0 ∧ τ.1 167 i = 0) → ∃ τ', f_Y_slot_L12 k τ (nX n) = f_Y_slot_L52 tm_fu τ' (0 : Int32) ∧ RY τ' B none τ' A ∧ (∀ i, i < 7 → τ'.1 170 i = A.1 23 i 0 ∧ τ'.1 171 i = 0 ∧ τ'.1 167 i = 0) ∧ τ'.1 169 = τ.1 169 ∧ frY' τ τ'
  | 0, n, k + 1, τ, hg, _, h, hp => by
    obtain rfl : n = 7 := by omega
    rw [f_Y_slot_L12, if_pos (by decide)]
    exact ⟨τ, rfl, h, hp, rfl, frY'.rf τ⟩
  | c + 1, n, k + 1, τ, hg, hk, h, hp => by
    have hn : n < 7 := by omega
    obtain ⟨a1, a2, a3, a4⟩ := lp_a n hn
    have hbl : A.1 23 n 0 = 0 ∨ A.1 23 n 0 = 1 := hw.1 23 n 0 (xV_n (by decide) hn)
    rw [f_Y_slot_L12, if_neg a1]
    simp only [if_pos a4, tm_w]
    rw [a3, gy_listens h hn, if_pos hbl, a2]
    have h1 : RY (sI τ 170 n (A.1 23 n 0)) B none (sI τ 170 n (A.1 23 n 0)) A := h.ph (by decide)
    have h2 : RY (sI (sI τ 170 n (A.1 23 n 0)) 171 n 0) B none (sI (sI τ 170 n (A.1 23 n 0)) 171 n 0) A := h1.ph (by decide)
    have h3 : RY (sI (sI (sI τ 170 n (A.1 23 n 0)) 171 n 0) 167 n 0) B none (sI (sI (sI τ 170 n (A.1 23 n 0)) 171 n 0) 167 n 0) A := h2.ph (by decide)
    obtain ⟨τ', e, q1, q2, q3, q4⟩ := y_l12 hw c (n + 1) k _ (by omega) (by omega) h3 (fun i hi => by
      by_cases hin : i = n
      · subst hin
        refine ⟨?_, ?_, sI_eq⟩
        · rw [sI_ne1 (by decide), sI_ne1 (by decide), sI_eq]
        · rw [sI_ne1 (by decide), sI_eq]
      · obtain ⟨r1, r2, r3⟩ := hp i (by omega)
        refine ⟨?_, ?_, ?_⟩
        · rw [sI_ne1 (by decide), sI_ne1 (by decide), sI_no (fun r => hin r.2)]
          exact r1
        · rw [sI_ne1 (by decide), sI_no (fun r => hin r.2), sI_ne1 (by decide)]
          exact r2
        · rw [sI_no (fun r => hin r.2), sI_ne1 (by decide), sI_ne1 (by decide)]
          exact r3)
    refine ⟨τ', e, q1, q2, ?_, ?_⟩
    · rw [q3, sI_ne1 (by decide), sI_ne1 (by decide), sI_ne1 (by decide)]
    · exact (((frY'.ph (by decide)).tr (frY'.ph (by decide))).tr (frY'.ph (by decide))).tr q4
theorem y_l52 : ∀ (c n k : Nat) (τ : tm_S) (C : sA) (B : Nat), n + c = 7 → c < k → B + 2 * c < 1999999000 → iAir n C → RY τ B none τ C → pO τ C → pW τ C → pLs τ C → ∃ τ', f_Y_slot_L52 k τ (nX n) = f_Y_slot_L80 tm_fu τ' (0 : Int32) ∧ RY τ' (B + 2 * c) none τ' (lp mAir c n C) ∧ pO τ' (lp mAir c n C) ∧ pLs τ' (lp mAir c n C) ∧ frY' τ τ'
  | 0, n, k + 1, τ, C, B, hg, _, _, _, h, hO, _, hL => by
    obtain rfl : n = 7 := by omega
    rw [f_Y_slot_L52, if_pos (by decide)]
    exact ⟨τ, rfl, h, hO, hL, frY'.rf τ⟩
  | c + 1, n, k + 1, τ, C, B, hg, hk, hB, hi, h, hO, hW, hL => by
    have hn : n < 7 := by omega
    obtain ⟨a1, a2, a3, a4⟩ := lp_a n hn
    have st : ∃ τ1, f_Y_slot_L52 (k + 1) τ (nX n) = f_Y_slot_L52 k τ1 (nX (n + 1)) ∧ RY τ1 (B + 2) none τ1 (mAir C n) ∧ pO τ1 (mAir C n) ∧ τ1.1 169 = τ.1 169 ∧ τ1.1 170 = τ.1 170 ∧ τ1.1 171 = τ.1 171 ∧ frY' τ τ1 := by
      rw [f_Y_slot_L52, if_neg a1, if_pos a4, a3]
      unfold f_Y_slot_L72
      rw [a2]
      by_cases c1 : C.1 11 n 0 = 0
      · rw [if_neg (fun r => (h.dead hn).mp r c1), Air_dead hi.1 hn c1]
        exact ⟨τ, rfl, h.mono (by omega), hO, rfl, rfl, rfl, frY'.rf τ⟩
      · rw [if_pos ((h.dead hn).mpr c1)]
        obtain ⟨τ1, e, q⟩ := y_air h (by omega) hi hO hW hn
        rw [e]
        exact ⟨τ1, rfl, q⟩
    obtain ⟨τ1, e, q1, q2, q3, q4, q5, q6⟩ := st
    rw [e]
    obtain ⟨τ', e', z1, z2, z3, z4⟩ := y_l52 c (n + 1) k τ1 (mAir C n) (B + 2) (by omega) (by omega) (by omega) (s_Air n C hn hi) q1 q2 (fun i hi7 => by
      rw [q3, Air_keep (Or.inl rfl)]
      exact hW i hi7) (fun i hi7 => by
      rw [q4, q5, Air_keep (Or.inr (Or.inl rfl))]
      exact hL i hi7)
    refine ⟨τ', e', ?_, z2, z3, q6.tr z4⟩
    rw [show B + 2 * (c + 1) = B + 2 + 2 * c by omega]
    exact z1
theorem y_l80 : ∀ (c n k : Nat) (τ : tm_S) (C : sA) (B : Nat), n + c = 7 → c < k → B + 2 * c < 1999999000 → iTake n C → (∀ i, i < 7 → hv C i) → RY τ B none τ C → pO τ C → pLs τ C → ∃ τ', f_Y_slot_L80 k τ (nX n) = f_Y_slot_L123 tm_fu τ' (0 : Int32) ∧ RY τ' (B + 2 * c) none τ' (lp mTake c n C) ∧ pO τ' (lp mTake c n C) ∧ pLs τ' (lp mTake c n C) ∧ frY' τ τ'
  | 0, n, k + 1, τ, C, B, hg, _, _, _, _, h, hO, hL => by
    obtain rfl : n = 7 := by omega
    rw [f_Y_slot_L80, if_pos (by decide)]
    exact ⟨τ, rfl, h, hO, hL, frY'.rf τ⟩
  | c + 1, n, k + 1, τ, C, B, hg, hk, hB, hi, hh, h, hO, hL => by
    have hn : n < 7 := by omega
    obtain ⟨a1, a2, a3, a4⟩ := lp_a n hn
    have hi : iHear 7 C := hi
    have hnod : nod (C.1 24 n 0) := hi.1.1 24 n 0 (xV_n (by decide) hn)
    have go : ∃ τ1, f_Y_slot_L104 (f_Y_slot_L80 k) τ (nX n) (C.1 24 n 0) = f_Y_slot_L80 k τ1 (nX (n + 1)) ∧ RY τ1 (B + 2) none τ1 (mTake C n) ∧ pO τ1 (mTake C n) ∧ pLs τ1 (mTake C n) ∧ frY' τ τ1 := by
      unfold f_Y_slot_L104 f_Y_slot_L115 mTake
      rw [a2]
      by_cases c1 : C.1 24 n 0 = -1
      · rw [if_pos ((nod_neg hnod).mpr c1)]
        simp only [if_pos c1]
        exact ⟨τ, rfl, h.mono (by omega), hO, hL, frY'.rf τ⟩
      · rw [if_neg (fun r => c1 ((nod_neg hnod).mp r))]
        simp only [if_neg c1]
        obtain ⟨⟨x, hx, hxn, hxe, hxa⟩, hal, h0⟩ := hi.2.2.2 n hn c1
        rw [hxe, (nI_a x hx).1]
        obtain ⟨τ1, e, q1, q2, q3, q4, q5⟩ := y_tk h (by omega) hi hO hL hn hx (Ne.symm hxn) hal h0 hxa
        rw [e]
        exact ⟨τ1, rfl, q1, q2, q3, q5⟩
    have st : ∃ τ1, f_Y_slot_L80 (k + 1) τ (nX n) = f_Y_slot_L80 k τ1 (nX (n + 1)) ∧ RY τ1 (B + 2) none τ1 (mTake C n) ∧ pO τ1 (mTake C n) ∧ pLs τ1 (mTake C n) ∧ frY' τ τ1 := by
      have hvn := hh n hn
      unfold hv at hvn
      rw [f_Y_slot_L80, if_neg a1, if_pos a4, a3]
      by_cases c1 : C.1 11 n 0 = 0
      · rw [if_neg (fun r => (h.dead hn).mp r c1)]
        rw [if_neg (fun r => r.1 c1)] at hvn
        rw [← hvn]
        exact go
      · rw [if_pos ((h.dead hn).mpr c1), y_heard h hO hi.1 hn]
        simp only [Option.bind_some]
        have e : (if C.1 19 n 0 = 0 then sSpk C n 7 0 (-1) else -1) = C.1 24 n 0 := by
          rw [hvn]
          by_cases c2 : C.1 19 n 0 = 0
          · rw [if_pos c2, if_pos ⟨c1, c2⟩]
          · rw [if_neg c2, if_neg (fun r => c2 r.2)]
        rw [e]
        exact go
    obtain ⟨τ1, e, q1, q2, q3, q4⟩ := st
    rw [e]
    have hk2 : ∃ o, kp o n C (mTake C n) := by
      unfold mTake
      by_cases c1 : C.1 24 n 0 = -1
      · exact ⟨false, by rw [if_pos c1]; exact kp.rf n C⟩
      · exact ⟨false, by rw [if_neg c1]; exact k_Tk C n _⟩
    obtain ⟨o, hk2⟩ := hk2
    have hv2 : ∀ i, i < 7 → hv (mTake C n) i := by
      intro i hi7
      unfold mTake
      by_cases c1 : C.1 24 n 0 = -1
      · rw [if_pos c1]
        exact hh i hi7
      · rw [if_neg c1]
        exact hv_kp (k_Tk C n _) (hh i hi7)
    obtain ⟨τ', e', z1, z2, z3, z4⟩ := y_l80 c (n + 1) k τ1 (mTake C n) (B + 2) (by omega) (by omega) (by omega) (s_Take n C hn hi) hv2 q1 q2 q3
    refine ⟨τ', e', ?_, z2, z3, q4.tr z4⟩
    rw [show B + 2 * (c + 1) = B + 2 + 2 * c by omega]
    exact z1
theorem oa_1 {v : Int32} (h : v = 0 ∨ v = 1 ∨ v = 2) : oa v = 1 ↔ v = 2 := by
  rcases h with rfl | rfl | rfl <;> decide
theorem y_l123 : ∀ (c n k : Nat) (τ : tm_S) (C : sA), n + c = 7 → c < k → iSet n C → RY τ B none τ C → pO τ C → pM 0 τ C → ∃ τ', f_Y_slot_L123 k τ (nX n) = f_Y_slot_L188 tm_fu τ' (0 : Int32) ∧ RY τ' B none τ' (lp mSet c n C) ∧ pO τ' (lp mSet c n C) ∧ pM 0 τ' (lp mSet c n C) ∧ frY' τ τ'
  | 0, n, k + 1, τ, C, hg, _, _, h, hO, hM => by
    obtain rfl : n = 7 := by omega
    rw [f_Y_slot_L123, if_pos (by decide)]
    exact ⟨τ, rfl, h, hO, hM, frY'.rf τ⟩
  | c + 1, n, k + 1, τ, C, hg, hk, hi, h, hO, hM => by
    have hn : n < 7 := by omega
    obtain ⟨a1, a2, a3, a4⟩ := lp_a n hn
    have hw : C.1 19 n 0 = 0 ∨ C.1 19 n 0 = 1 ∨ C.1 19 n 0 = 2 := hi.1.1 19 n 0 (xV_n (by decide) hn)
    have st : ∃ τ1, f_Y_slot_L123 (k + 1) τ (nX n) = f_Y_slot_L123 k τ1 (nX (n + 1)) ∧ RY τ B none τ1 (mSet C n) ∧ kp false n C (mSet C n) ∧ (∀ i, i < 7 → (¬ (mSet C n).1 23 i 0 = 0 ∧ (mSet C n).1 19 i 0 = 0 ↔ ¬ C.1 23 i 0 = 0 ∧ C.1 19 i 0 = 0)) := by
      rw [f_Y_slot_L123, if_neg a1]
      unfold f_Y_slot_L163 f_Y_slot_L180
      simp only [if_pos a4, tm_w]
      rw [a3, (hO n hn).1, a2]
      unfold mSet
      by_cases c1 : C.1 19 n 0 = 2
      · have hq := (hi.2.1 n (Nat.le_refl _) hn c1).1
        have hf := h.head hn hq
        have hwf := fr0_wf hi.1 hn hq
        obtain ⟨q1, q2, q3, q4⟩ := h.at hn hf
        rw [Nat.add_zero] at q2
        obtain ⟨p1, p2, -, p4⟩ := s32_a _ q1
        have e1 : oa (C.1 19 n 0) = 1 := (oa_1 hw).mpr c1
        simp only [if_pos c1, if_pos e1]
        rw [(ix4_a n hn).1, q2, p2, if_pos (by rw [← (ix4_a n hn).1]; exact (ix4_a n hn).2), if_pos p4, q4.2.1]
        by_cases c2 : fr0 C n 1 = -1
        · simp only [if_pos c2]
          rw [if_neg (fun r => (nds_ge (wfF_to hwf)).mp r c2)]
          obtain ⟨τ1, e, h1⟩ := y_done h hn hq
          rw [e]
          have hkk := k_Pop (o := true) C n
          refine ⟨τ1, rfl, h1, hkk.less, fun i _ => ?_⟩
          rw [hkk.1 23 i 0 (Or.inl (by decide)), hkk.1 19 i 0 (Or.inl (by decide))]
        · simp only [if_neg c2]
          rw [if_pos ((nds_ge (wfF_to hwf)).mpr c2)]
          refine ⟨_, rfl, sy_listens h hn 1, (kp.rf (o := false) n C).set 23 0 1 (by decide), fun i _ => ?_⟩
          rw [uA_ne (show 19 ≠ 23 by decide)]
          by_cases hin : i = n
          · subst hin
            rw [uA_eq, c1]
            exact ⟨fun r => absurd r.2 (by decide), fun r => absurd r.2 (by decide)⟩
          · rw [uA_no hin]
      · have e1 : ¬ oa (C.1 19 n 0) = 1 := fun r => c1 ((oa_1 hw).mp r)
        simp only [if_neg c1, if_neg e1]
        exact ⟨τ, rfl, h, kp.rf n C, fun i _ => (by first | trivial | exact Iff.rfl)⟩
    obtain ⟨τ1, e, q1, q2, q3⟩ := st
    obtain ⟨f1, f2, f3, f4, f5⟩ := fr5 q1.fr
    rw [e]
    obtain ⟨τ', e', z1, z2, z3, z4⟩ := y_l123 c (n + 1) k τ1 (mSet C n) (by omega) (by omega) (s_Set n C hn hi) q1.base (pO_kp hO q2 f1 f2) (fun i _ hi7 => by
      rw [f4, f5, q3 i hi7]
      exact hM i (Nat.zero_le _) hi7)
    exact ⟨τ', e', z1, z2, z3, (frY'.of q1.fr).tr z4⟩
theorem y_l188 : ∀ (c n k : Nat) (τ : tm_S) (C : sA) (B : Nat), n + c = 7 → c < k → B + 2 * c < 1999999000 → iLis n C → RY τ B none τ C → pO τ C → pM n τ C → ∃ τ', f_Y_slot_L188 k τ (nX n) = f_Y_slot_L234 tm_fu τ' (0 : Int32) ∧ RY τ' (B + 2 * c) none τ' (lp mLis c n C) ∧ pO τ' (lp mLis c n C) ∧ frY' τ τ'
  | 0, n, k + 1, τ, C, B, hg, _, _, _, h, hO, _ => by
    obtain rfl : n = 7 := by omega
    rw [f_Y_slot_L188, if_pos (by decide)]
    exact ⟨τ, rfl, h, hO, frY'.rf τ⟩
  | c + 1, n, k + 1, τ, C, B, hg, hk, hB, hi, h, hO, hM => by
    have hn : n < 7 := by omega
    obtain ⟨a1, a2, a3, a4⟩ := lp_a n hn
    have hMn := hM n (Nat.le_refl _) hn
    have hkp : kp false n C (mLis C n) := by
      have kT : kp false n C (mTr C n) := ((kp.rf (o := false) n C).set 23 0 0 (by decide)).s 18 0 _ (by decide) (by decide)
      unfold mLis
      split
      · exact kp.rf n C
      · split
        · exact kT.tr (k_Fail _ n)
        · exact (k_draw (kT.s 17 0 _ (by decide) (by decide))).s 16 0 _ (by decide) (by decide)
    have st : ∃ τ1, f_Y_slot_L188 (k + 1) τ (nX n) = f_Y_slot_L188 k τ1 (nX (n + 1)) ∧ RY τ (B + 2) none τ1 (mLis C n) := by
      have same : (C.1 23 n 0 = 0 ∨ ¬ C.1 19 n 0 = 0) → mLis C n = C := fun r => if_pos r
      rw [f_Y_slot_L188, if_neg a1]
      unfold f_Y_slot_L226
      simp only [if_pos a4]
      rw [a3, a2]
      by_cases c1 : C.1 11 n 0 = 0
      · rw [if_neg (fun r => (h.dead hn).mp r c1), same (Or.inl ((hi.1.2 n hn).2.2.1 c1).2.2)]
        exact ⟨τ, rfl, h.mono (by omega)⟩
      · rw [if_pos ((h.dead hn).mpr c1)]
        by_cases c2 : τ.1 170 n = 0
        · rw [if_pos c2, same]
          · exact ⟨τ, rfl, h.mono (by omega)⟩
          · by_cases r1 : C.1 23 n 0 = 0
            · exact Or.inl r1
            · refine Or.inr (fun r2 => ?_)
              exact (hMn.mpr ⟨r1, r2⟩).1 c2
        · rw [if_neg c2]
          by_cases c3 : τ.1 171 n = 0
          · rw [if_pos c3]
            obtain ⟨r1, r2⟩ := hMn.mp ⟨c2, c3⟩
            obtain ⟨τ1, e, h1⟩ := y_unheard h (by omega) hi.1 hn r1 r2
            rw [e]
            exact ⟨τ1, rfl, h1⟩
          · rw [if_neg c3, same]
            · exact ⟨τ, rfl, h.mono (by omega)⟩
            · by_cases r1 : C.1 23 n 0 = 0
              · exact Or.inl r1
              · refine Or.inr (fun r2 => ?_)
                exact c3 (hMn.mpr ⟨r1, r2⟩).2
    obtain ⟨τ1, e, q1⟩ := st
    obtain ⟨f1, f2, f3, f4, f5⟩ := fr5 q1.fr
    rw [e]
    obtain ⟨τ', e', z1, z2, z3⟩ := y_l188 c (n + 1) k τ1 (mLis C n) (B + 2) (by omega) (by omega) (by omega) (s_Lis n C hn hi) q1.base (pO_kp hO hkp f1 f2) (fun i hni hi7 => by
      rw [f4, f5, hkp.1 23 i 0 (Or.inr ⟨by decide, by omega⟩), hkp.1 19 i 0 (Or.inl (by decide))]
      exact hM i (by omega) hi7)
    refine ⟨τ', e', ?_, z2, (frY'.of q1.fr).tr z3⟩
    rw [show B + 2 * (c + 1) = B + 2 + 2 * c by omega]
    exact z1
theorem y_l234 : ∀ (c n k : Nat) (τ : tm_S) (C : sA) (B : Nat), n + c = 7 → c < k → B + 3 * c < 1999999000 → iLater n C → RY τ B none τ C → pO τ C → (∀ i, i < n → τ.1 169 i = if C.1 19 i 0 = 0 then 0 else 1) → ∃ τ', f_Y_slot_L234 k τ (nX n) = some τ' ∧ RY τ' (B + 3 * c) none τ' (lp mLater c n C) ∧ yT τ' (lp mLater c n C) ∧ frY' τ τ'
  | 0, n, k + 1, τ, C, B, hg, _, _, _, h, hO, hy => by
    obtain rfl : n = 7 := by omega
    rw [f_Y_slot_L234, if_pos (by decide)]
    exact ⟨τ, rfl, h, hy, frY'.rf τ⟩
  | c + 1, n, k + 1, τ, C, B, hg, hk, hB, hi, h, hO, hy => by
    have hn : n < 7 := by omega
    obtain ⟨a1, a2, a3, a4⟩ := lp_a n hn
    have hkk := k_Later (o := true) C n
    have hw : C.1 19 n 0 = 0 ∨ C.1 19 n 0 = 1 ∨ C.1 19 n 0 = 2 := hi.1.1 19 n 0 (xV_n (by decide) hn)
    have tail : ∀ τ1, RY τ (B + 3) none τ1 (mLater C n) → ∃ τ2, f_Y_slot_L254 (f_Y_slot_L234 k) τ1 (nX n) = f_Y_slot_L234 k τ2 (nX (n + 1)) ∧ RY τ2 (B + 3) none τ2 (mLater C n) ∧ pO τ2 (mLater C n) ∧ (∀ i, i < n + 1 → τ2.1 169 i = if (mLater C n).1 19 i 0 = 0 then 0 else 1) ∧ frY' τ τ2 := by
      intro τ1 h1
      obtain ⟨f1, f2, f3, f4, f5⟩ := fr5 h1.fr
      have ho : τ1.1 167 n ≤ 0 ↔ C.1 19 n 0 = 0 := by
        rw [f1, (hO n hn).1]
        rcases hw with r | r | r <;> rw [r] <;> decide
      have key : ∀ v : Int32, bl v → v = (if C.1 19 n 0 = 0 then 0 else 1) → ∃ τ2, f_Y_slot_L273 (f_Y_slot_L234 k) τ1 (nX n) v (nX n) = f_Y_slot_L234 k τ2 (nX (n + 1)) ∧ RY τ2 (B + 3) none τ2 (mLater C n) ∧ pO τ2 (mLater C n) ∧ (∀ i, i < n + 1 → τ2.1 169 i = if (mLater C n).1 19 i 0 = 0 then 0 else 1) ∧ frY' τ τ2 := by
        intro v hv he
        have hv : v = 0 ∨ v = 1 := hv
        unfold f_Y_slot_L273
        simp only [if_pos a4, if_pos hv, tm_w]
        rw [a3, a2]
        refine ⟨_, rfl, h1.ph (by decide), pO_kp hO hkk ?_ ?_, fun i hi' => ?_, (frY'.of h1.fr).tr (frY'.ph (by decide))⟩
        · rw [sI_ne1 (by decide)]
          exact f1
        · rw [sI_ne1 (by decide)]
          exact f2
        · rw [hkk.1 19 i 0 (Or.inl (by decide))]
          by_cases hin : i = n
          · subst hin
            rw [sI_eq]
            exact he
          · rw [sI_no (fun r => hin r.2), f3]
            exact hy i (by omega)
      unfold f_Y_slot_L254
      rw [if_pos a4, a3]
      by_cases d : C.1 19 n 0 = 0
      · rw [if_pos (ho.mpr d)]
        exact key 0 (Or.inl rfl) (by rw [if_pos d])
      · rw [if_neg (fun r => d (ho.mp r))]
        exact key 1 (Or.inr rfl) (by rw [if_neg d])
    have st : ∃ τ2, f_Y_slot_L234 (k + 1) τ (nX n) = f_Y_slot_L234 k τ2 (nX (n + 1)) ∧ RY τ2 (B + 3) none τ2 (mLater C n) ∧ pO τ2 (mLater C n) ∧ (∀ i, i < n + 1 → τ2.1 169 i = if (mLater C n).1 19 i 0 = 0 then 0 else 1) ∧ frY' τ τ2 := by
      rw [f_Y_slot_L234, if_neg a1, if_pos a4, a3]
      by_cases c1 : C.1 11 n 0 = 0
      · rw [if_neg (fun r => (h.dead hn).mp r c1)]
        have e : mLater C n = C := if_pos c1
        exact tail τ (by rw [e]; exact h.mono (by omega))
      · rw [if_pos ((h.dead hn).mpr c1)]
        obtain ⟨τ1, e, h1⟩ := y_later h (by omega) hi.1 hn c1
        rw [e]
        simp only [Option.bind_some]
        exact tail τ1 h1
    obtain ⟨τ2, e, q1, q2, q3, q4⟩ := st
    rw [e]
    obtain ⟨τ', e', z1, z2, z3⟩ := y_l234 c (n + 1) k τ2 (mLater C n) (B + 3) (by omega) (by omega) (by omega) (s_Later n C hn hi) q1 q2 q3
    refine ⟨τ', e', ?_, z2, q4.tr z3⟩
    rw [show B + 3 * (c + 1) = B + 3 + 3 * c by omega]
    exact z1
theorem y_slot (h : RY σ B none σ A) (hB : B < 1999998000) (hi : iT A) (hy : yT σ A) : ∃ τ, f_Y_slot σ = some τ ∧ RY τ (B + 63) none τ (mTick A) ∧ yT τ (mTick A) ∧ frY' σ τ := by
  have h0 : RY (sI σ 130 3 (A.1 3 0 0 + 1)) B none (sI σ 130 3 (A.1 3 0 0 + 1)) (tA0 A) := (sy_ticks h (A.1 3 0 0 + 1)).base
  have f0 : frY' σ (sI σ 130 3 (A.1 3 0 0 + 1)) := frY'.of (sy_ticks h (A.1 3 0 0 + 1)).fr
  obtain ⟨τ1, e1, h1, p1, w1, g1⟩ := y_l12 (t_0 hi).1 7 0 200 _ (by omega) (by omega) h0 (fun i hi => absurd hi (by omega))
  obtain ⟨m1, m2, m3⟩ := rm_1 (tA0 A)
  have h2 : RY τ1 B none τ1 (tA1 A) := h1.free (fun t t1 t2 _ _ => m2 t t1 t2) m3
  have eair : ∀ i, i < 7 → (tA1 A).1 19 i 0 = 0 := fun i hi7 => ((m1 i hi7).1 hi7).2
  have elis : (tA1 A).1 23 = (tA0 A).1 23 := m2 23 (by decide) (by decide)
  have hO1 : pO τ1 (tA1 A) := fun i hi7 => by
    rw [eair i hi7, (p1 i hi7).2.2]
    exact ⟨rfl, fun r => absurd r (by decide)⟩
  have hW1 : pW τ1 (tA1 A) := fun i hi7 => by
    have : (tA1 A).1 20 i 0 = if (tA0 A).1 19 i 0 = 0 then 0 else 1 := ((m1 i hi7).1 hi7).1
    rw [this, w1, sI_ne1 (by decide)]
    exact hy i hi7
  have hL1 : pLs τ1 (tA1 A) := fun i hi7 => by
    rw [(p1 i hi7).1, (p1 i hi7).2.1, elis]
    exact ⟨fun r => r.1, fun r => ⟨r, rfl⟩⟩
  obtain ⟨τ2, e2, h3, hO2, hL2, g2⟩ := y_l52 7 0 200 τ1 (tA1 A) B (by omega) (by omega) (by omega) (t_1 hi) h2 hO1 hW1 hL1
  have h3 : RY τ2 (B + 14) none τ2 (tA2 A) := h3
  have hO2 : pO τ2 (tA2 A) := hO2
  have hL2 : pLs τ2 (tA2 A) := hL2
  obtain ⟨r1, r2⟩ := hr_1 (tA2 A)
  have h4 : RY τ2 (B + 14) none τ2 (tA3 A) := h3.free (fun t _ _ _ t4 => r1 t t4) r2
  have r1' : ∀ t, t ≠ 24 → (tA3 A).1 t = (tA2 A).1 t := r1
  have hO3 : pO τ2 (tA3 A) := fun i hi7 => by
    rw [r1' 19 (by decide), r1' 21 (by decide)]
    exact hO2 i hi7
  have hL3 : pLs τ2 (tA3 A) := fun i hi7 => by
    rw [r1' 23 (by decide)]
    exact hL2 i hi7
  obtain ⟨τ3, e3, h5, hO4, hL4, g3⟩ := y_l80 7 0 200 τ2 (tA3 A) (B + 14) (by omega) (by omega) (by omega) (t_3 hi) (hv_3 A) h4 hO3 hL3
  have h5 : RY τ3 (B + 28) none τ3 (tA4 A) := h5
  have hO4 : pO τ3 (tA4 A) := hO4
  have hL4 : pLs τ3 (tA4 A) := hL4
  have hla : ∀ i, i < 7 → ¬ (tA4 A).1 23 i 0 = 0 → (tA4 A).1 19 i 0 = 0 := by
    have h1 : iTake 7 (tA4 A) := by
      unfold tA4
      exact lp_inv (I := iTake) s_Take 7 0 (tA3 A) rfl (t_3 hi)
    exact h1.2.2.1
  have hM4 : pM 0 τ3 (tA4 A) := fun i _ hi7 => by
    rw [hL4 i hi7]
    exact ⟨fun r => ⟨r, hla i hi7 r⟩, fun r => r.1⟩
  obtain ⟨τ4, e4, h6, hO5, hM5, g4⟩ := y_l123 7 0 200 τ3 (tA4 A) (by omega) (by omega) (t_4 hi) h5 hO4 hM4
  have h6 : RY τ4 (B + 28) none τ4 (tA5 A) := h6
  have hO5 : pO τ4 (tA5 A) := hO5
  have hM5 : pM 0 τ4 (tA5 A) := hM5
  obtain ⟨τ5, e5, h7, hO6, g5⟩ := y_l188 7 0 200 τ4 (tA5 A) (B + 28) (by omega) (by omega) (by omega) (t_5 hi) h6 hO5 hM5
  have h7 : RY τ5 (B + 42) none τ5 (tA6 A) := h7
  have hO6 : pO τ5 (tA6 A) := hO6
  obtain ⟨τ6, e6, h8, hT, g6⟩ := y_l234 7 0 200 τ5 (tA6 A) (B + 42) (by omega) (by omega) (by omega) (t_6 hi) h7 hO6 (fun i hi => absurd hi (by omega))
  refine ⟨τ6, ?_, ?_, ?_, (((((f0.tr g1).tr g2).tr g3).tr g4).tr g5).tr g6⟩
  · unfold f_Y_slot
    simp only [tm_w]
    rw [gy_ticks h]
    exact e1.trans (e2.trans (e3.trans (e4.trans (e5.trans e6))))
  · rw [mTick_eq]
    exact h8
  · rw [mTick_eq]
    exact hT
end Y7
