/-! the calls of the face: the reference; what was delivered -/
theorem on_sub {a b : Nat} (h : b ≤ a) (ha : a < 2147483648) : Int32.ofNat a - Int32.ofNat b = Int32.ofNat (a - b) := by
  apply Int32.toInt_inj.mp
  rw [Int32.toInt_sub, Int32.toInt_ofNat_of_lt ha, Int32.toInt_ofNat_of_lt (by omega), Int32.toInt_ofNat_of_lt (by omega)]
  rw [Int.bmod_eq_of_le (by omega) (by omega)]
  omega
theorem eight_no {k : Int32} (h1 : ¬ k < 0) (h2 : ¬ 8 ≤ k) : k.toNatClampNeg < 8 ∧ k = nX k.toNatClampNeg := by
  have h1 := i_le.mp (Int32.not_lt.mp h1)
  have h2 := i_lt.mp (Int32.not_le.mp h2)
  have z0 : (0 : Int32).toInt = 0 := by decide
  have z7 : (8 : Int32).toInt = 8 := by decide
  have e : k.toNatClampNeg = k.toInt.toNat := rfl
  refine ⟨by omega, ?_⟩
  apply Int32.toInt_inj.mp
  unfold nX
  rw [Int32.toInt_ofNat_of_lt (by omega), e]
  omega
theorem lt_on {k : Int32} {b : Nat} (hb : b < 2147483648) (h1 : ¬ k < 0) : k < Int32.ofNat b ↔ k.toNatClampNeg < b := by
  have h1 := i_le.mp (Int32.not_lt.mp h1)
  have z0 : (0 : Int32).toInt = 0 := by decide
  have e : k.toNatClampNeg = k.toInt.toNat := rfl
  rw [i_lt, Int32.toInt_ofNat_of_lt hb, e]
  omega
section Y8
variable {σ0 σ : tm_S} {A : sA} {n m B x : Nat} {tmp : Option Nat}
theorem x_del {K : Nat} (hK : K < 2000000000) (h : RX σ0 σ A) (hab : aB K A) (a k : Int32) : f_X_delivered σ a k = some (fDel A a k, σ) := by
  unfold f_X_delivered f_X_delivered_L44
  by_cases c1 : bad a
  · have e : fDel A a k = 0 := if_pos c1
    rw [x_isn σ c1, e]
    rfl
  · obtain ⟨q1, q2⟩ := bad_no c1
    obtain ⟨b, hb, eb⟩ := hab _ q1
    have e : fDel A a k = haveI := Classical.propDecidable; if k = -1 then A.1 10 a.toNatClampNeg 0 else if k < 0 ∨ 8 ≤ k ∨ ¬ k < A.1 10 a.toNatClampNeg 0 then 0 else A.1 34 a.toNatClampNeg (((A.1 10 a.toNatClampNeg 0).toNatClampNeg - 1 - k.toNatClampNeg) % 8) := if_neg c1
    rw [x_is σ c1, e]
    simp only [Option.bind_some]
    rw [if_neg (show ¬ (1 : Int32) = 0 from by decide), if_pos (bad_ix c1), gx_arrived h q1]
    by_cases c2 : k = -1
    · rw [if_pos c2, if_pos c2]
    · rw [if_neg c2, if_neg c2]
      by_cases c3 : k < 0
      · rw [if_pos c3, if_pos (Or.inl c3)]
      · rw [if_neg c3]
        by_cases c4 : 8 ≤ k
        · rw [if_pos c4, if_pos (Or.inr (Or.inl c4))]
        · rw [if_neg c4]
          by_cases c5 : k < A.1 10 a.toNatClampNeg 0
          · have hno : ¬ (k < 0 ∨ 8 ≤ k ∨ ¬ k < A.1 10 a.toNatClampNeg 0) := by
              rintro (r | r | r)
              · exact c3 r
              · exact c4 r
              · exact r c5
            obtain ⟨k1, k2⟩ := eight_no c3 c4
            rw [if_pos c5, if_neg hno]
            rw [eb] at c5 ⊢
            have k3 := (lt_on (by omega) c3).mp c5
            have e1 : Int32.ofNat b - 1 - k = Int32.ofNat (b - 1 - k.toNatClampNeg) := by
              have e2 : (Int32.ofNat b - 1 : Int32) = Int32.ofNat (b - 1) := on_sub (b := 1) (by omega) (by omega)
              rw [e2]
              have e3 := on_sub (a := b - 1) (b := k.toNatClampNeg) (by omega) (by omega)
              have k2 : Int32.ofNat k.toNatClampNeg = k := k2.symm
              rw [k2] at e3
              exact e3
            rw [e1, if_pos (ar8_a (by omega)), on_rem8 (by omega), gx_arrivals h q1 (by omega), on_ix (by omega)]
          · rw [if_neg c5, if_pos (Or.inr (Or.inr c5))]
theorem y_isNode (σ : tm_S) (a : Int32) : f_Y_isNode σ a = some (if a < 0 ∨ 7 ≤ a then 0 else 1, σ) := by
  unfold f_Y_isNode f_Y_isNode_L14
  by_cases h1 : a < 0
  · rw [if_pos h1, if_pos (Or.inl h1)]
  · by_cases h2 : (7 : Int32) ≤ a
    · rw [if_neg h1, if_pos h2, if_pos (Or.inr h2)]
    · rw [if_neg h1, if_neg h2, if_neg (fun q => q.elim h1 h2)]
theorem y_is (σ : tm_S) {a : Int32} (h : ¬ bad a) : f_Y_isNode σ a = some (1, σ) := by
  rw [y_isNode, if_neg (show ¬ (a < 0 ∨ 7 ≤ a) from h)]
theorem y_isn (σ : tm_S) {a : Int32} (h : bad a) : f_Y_isNode σ a = some (0, σ) := by
  rw [y_isNode, if_pos (show a < 0 ∨ 7 ≤ a from h)]
theorem y_link (h : RY σ0 B none σ A) (a b c : Int32) : ∃ σ', f_Y_link σ a b c = some ((fLink A a b c).1, σ') ∧ RY σ0 B none σ' (fLink A a b c).2 := by
  have ng : (bad a ∨ bad b ∨ a = b ∨ c < 0 ∨ 9 < c) → fLink A a b c = (0, A) := fun r => if_pos r
  unfold f_Y_link f_Y_link_L29
  by_cases c1 : bad a
  · rw [y_isn σ c1, ng (Or.inl c1)]
    exact ⟨σ, rfl, h⟩
  · rw [y_is σ c1]
    simp only [Option.bind_some]
    rw [if_neg (show ¬ (1 : Int32) = 0 from by decide)]
    by_cases c2 : bad b
    · rw [y_isn σ c2, ng (Or.inr (Or.inl c2))]
      exact ⟨σ, rfl, h⟩
    · rw [y_is σ c2]
      simp only [Option.bind_some]
      rw [if_neg (show ¬ (1 : Int32) = 0 from by decide)]
      by_cases c3 : a = b
      · rw [if_pos c3, ng (Or.inr (Or.inr (Or.inl c3)))]
        exact ⟨σ, rfl, h⟩
      · rw [if_neg c3]
        by_cases c4 : c < 0
        · rw [if_pos c4, ng (Or.inr (Or.inr (Or.inr (Or.inl c4))))]
          exact ⟨σ, rfl, h⟩
        · rw [if_neg c4]
          by_cases c5 : c ≤ 9
          · have e : fLink A a b c = (1, mLink A a.toNatClampNeg b.toNatClampNeg c) := if_neg (by
              rintro (r | r | r | r | r)
              · exact c1 r
              · exact c2 r
              · exact c3 r
              · exact c4 r
              · exact Int32.not_lt.mpr c5 r)
            obtain ⟨p1, p2⟩ := bad_no c1
            obtain ⟨q1, q2⟩ := bad_no c2
            rw [if_pos c5, e]
            generalize a.toNatClampNeg = i at p1 p2
            generalize b.toNatClampNeg = j at q1 q2
            subst p2
            subst q2
            rw [if_pos (ok49_a i p1 j q1), (ix49_a i p1 j q1).1]
            simp only [tm_w]
            rw [if_pos (ok49_a j q1 i p1), (ix49_a j q1 i p1).1]
            exact ⟨_, rfl, sy_cost (sy_cost h p1 q1 c) q1 p1 c⟩
          · rw [if_neg c5, ng (Or.inr (Or.inr (Or.inr (Or.inr (Int32.not_le.mp c5)))))]
            exact ⟨σ, rfl, h⟩
theorem RY.die (h : RY σ0 B tmp σ A) (a : Nat) : RY σ0 B tmp (sI σ 137 a 1) (uA A 11 a 0 0) := by
  generalize hσ' : sI σ 137 a 1 = σ'
  have eq0 : ∀ q, q ∉ [137] → σ'.1 q = σ.1 q := fun q hq => by
    rw [← hσ', sI_ne1 (fun e => hq (by rw [e]; decide))]
  obtain ⟨r1, r2⟩ := RY_sp (A' := uA A 11 a 0 0) (t := 11) h [137] (by decide) (by rw [← hσ']; rfl) eq0 (fun i j => rfl) (fun t' ht => by
    funext i j
    exact uA_ne ht)
  obtain ⟨-, p2, p3, p4, p5, p6, -⟩ := h
  refine ⟨r1, fun i hi => ?_, fun i j hi hj => ?_, fun i hi => ?_, ?_, ?_, r2⟩
  · by_cases hia : i = a
    · subst hia
      exact Or.inl ⟨uA_eq, by rw [← hσ', sI_eq]⟩
    · rw [uA_no hia, ← hσ', sI_no (fun r => hia r.2)]
      exact p2 i hi
  · rw [eq0 133 (by decide), eq0 132 (by decide), uA_ne (by decide)]
    exact p3 i j hi hj
  · rw [eq0 173 (by decide), uA_ne (by decide)]
    exact p4 i hi
  · refine p5.congr (fun q hq => eq0 q (fun e => ?_)) ?_ rfl (uA_ne (by decide)) ?_
    · exact nin (by decide) hq e
    · rw [eq0 130 (by decide)]
    · funext i j
      exact uA_ne (by decide)
  · refine p6.congr (fun q hq => eq0 q (fun e => ?_)) rfl
    exact nin (by decide) hq e
theorem y_kill31 (h : RY σ0 B none σ A) (hn : n < 7) : ∃ σ', f_Y_kill_L31 tm_fu σ (nX n) (0 : Int32) = some (1, σ') ∧ RY σ0 B none σ' (uA (uA (uQ A n []) 22 n 0 (-1)) 23 n 0 0) := by
  obtain ⟨-, -, b3, b4⟩ := lp_a n hn
  have hlen := h.len hn
  have lp_ : ∀ (c j fu : Nat) (τ : tm_S), j + c = (A.2 n).length → c < fu → τ.2 = σ.2 → (∀ q, q ≠ 154 → τ.1 q = σ.1 q) → (∀ k, k < j → τ.1 154 (yp σ n k) = 0) → (∀ s, (∀ k, k < j → s ≠ yp σ n k) → τ.1 154 s = σ.1 154 s) → ∃ σ', f_Y_kill_L31 fu τ (nX n) (nX j) = some (1, σ') ∧ RY σ0 B none σ' (uA (uA (uQ A n []) 22 n 0 (-1)) 23 n 0 0) := by
    intro c
    induction c with
    | zero =>
      intro j fu τ hj hfu t2 t1 t3 t4
      obtain ⟨fu, rfl⟩ : ∃ z, fu = z + 1 := ⟨fu - 1, by omega⟩
      have em : τ.1 148 n = nX (A.2 n).length := by
        rw [t1 148 (by decide)]
        exact h.many hn
      rw [f_Y_kill_L31]
      simp only [if_pos b4, tm_w]
      rw [b3, em, if_pos ((len_le_a _ (by omega) j (by omega)).mpr (by omega))]
      have hcut : RY σ0 B none (sI τ 148 n 0) (uQ A n ((A.2 n).drop (A.2 n).length)) := by
        refine h.cut hn (Nat.le_refl _) t2 (fun q hq => ?_) (fun k hk => ?_) (fun s hs => ?_) (fun k hk => absurd hk (by omega)) (fun p _ => ?_) ?_ (fun p hp => ?_)
        · rw [sI_ne1 (fun r => hq (by rw [r]; decide)), t1 q (fun r => hq (by rw [r]; decide))]
        · rw [sI_ne1 (by decide)]
          exact t3 k (by omega)
        · rw [sI_ne1 (by decide)]
          exact t4 s (fun k hk => hs k (by omega))
        · rw [sI_ne1 (by decide), t1 147 (by decide)]
        · rw [sI_eq, Nat.sub_self]
          rfl
        · rw [sI_no (fun r => hp r.2), t1 148 (by decide)]
      rw [List.drop_length] at hcut
      exact ⟨_, rfl, sy_listens (sy_owes hcut hn (-1)) hn 0⟩
    | succ c ih =>
      intro j fu τ hj hfu t2 t1 t3 t4
      obtain ⟨fu, rfl⟩ : ∃ z, fu = z + 1 := ⟨fu - 1, by omega⟩
      have em : τ.1 148 n = nX (A.2 n).length := by
        rw [t1 148 (by decide)]
        exact h.many hn
      obtain ⟨f, hf⟩ : ∃ f, (A.2 n)[j]? = some f := ⟨_, List.getElem?_eq_getElem (by omega)⟩
      obtain ⟨q1, q2, q3, q4⟩ := h.at hn hf
      obtain ⟨p1, p2, -, p4⟩ := s32_a _ q1
      obtain ⟨-, -, j3⟩ := once_a j (by omega)
      rw [f_Y_kill_L31, if_pos b4, b3, em, if_neg (fun r => by have := (len_le_a _ (by omega) j (by omega)).mp r; omega), if_pos (ok28_a n hn j (by omega)), (ix28_a n hn j (by omega)).1, t1 147 (by decide), q2, if_pos p1, p2, j3]
      simp only [tm_w]
      refine ih (j + 1) fu _ (by omega) (by omega) t2 (fun q hq => ?_) (fun k hk => ?_) (fun s hs => ?_)
      · rw [sI_ne1 hq]
        exact t1 q hq
      · by_cases hkj : k = j
        · subst hkj
          rw [sI_eq]
        · rw [sI_1]
          by_cases r : yp σ n k = yp σ n j
          · rw [if_pos ⟨rfl, r⟩]
          · rw [if_neg (fun z => r z.2)]
            exact t3 k (by omega)
      · rw [sI_no (fun z => hs j (by omega) z.2)]
        exact t4 s (fun k hk => hs k (by omega))
  exact lp_ (A.2 n).length 0 200 σ (by omega) (by omega) rfl (fun _ _ => rfl) (fun k hk => absurd hk (by omega)) (fun _ _ => rfl)
theorem y_kill (h : RY σ0 B none σ A) (a : Int32) : ∃ σ', f_Y_kill σ a = some ((fKill A a).1, σ') ∧ RY σ0 B none σ' (fKill A a).2 := by
  have ng : (bad a ∨ a = 0 ∨ A.1 11 a.toNatClampNeg 0 = 0) → fKill A a = (0, A) := fun r => if_pos r
  unfold f_Y_kill f_Y_kill_L20
  by_cases c1 : bad a
  · rw [y_isn σ c1, ng (Or.inl c1)]
    exact ⟨σ, rfl, h⟩
  · obtain ⟨p1, p2⟩ := bad_no c1
    rw [y_is σ c1]
    simp only [Option.bind_some]
    rw [if_neg (show ¬ (1 : Int32) = 0 from by decide)]
    by_cases c2 : a = 0
    · rw [if_pos c2, ng (Or.inr (Or.inl c2))]
      exact ⟨σ, rfl, h⟩
    · rw [if_neg c2, if_pos (bad_ix c1)]
      by_cases c3 : A.1 11 a.toNatClampNeg 0 = 0
      · rw [if_neg (fun r => (h.dead p1).mp r c3), ng (Or.inr (Or.inr c3))]
        exact ⟨σ, rfl, h⟩
      · have e : fKill A a = (1, mKill A a.toNatClampNeg) := if_neg (by
          rintro (r | r | r)
          · exact c1 r
          · exact c2 r
          · exact c3 r)
        rw [if_pos ((h.dead p1).mpr c3), if_pos (bad_ix c1), e]
        simp only [tm_w]
        have h1 := h.die a.toNatClampNeg
        obtain ⟨σ', e', h'⟩ := y_kill31 h1 p1
        rw [← p2] at e'
        exact ⟨σ', e', h'⟩
theorem y_repair (h : RY σ0 B none σ A) : ∃ σ', f_Y_repair σ = some ((fRepair A).1, σ') ∧ RY σ0 B none σ' (fRepair A).2 := by
  have h1 := sy_version h (n := 0) (by omega) (A.1 12 0 0 + 1)
  obtain ⟨σ', e, h'⟩ := y_reset h1 (n := 0) (by omega)
  have e : f_Y_reset (sI σ 138 0 (A.1 12 0 0 + 1)) (0 : Int32) = some σ' := e
  refine ⟨σ', ?_, h'⟩
  unfold f_Y_repair fRepair
  rw [z0, gy_version h (n := 0) (by omega)]
  simp only [tm_w]
  rw [e]
  simp only [Option.bind_some]
  rw [gy_version h' (n := 0) (by omega)]
  rfl
theorem y_sendF (h : RY σ0 B none σ A) (hB : B < 1999999980) (w : wf 7 A) (a g hh v : Int32) : ∃ σ', f_Y_send σ a g hh v = some ((fSend A a g hh v).1, σ') ∧ RY σ0 (B + 1) none σ' (fSend A a g hh v).2 := by
  have ng : (bad a ∨ bad g ∨ a = g ∨ A.1 11 a.toNatClampNeg 0 = 0 ∨ hh < 1 ∨ 15 < hh ∨ v < 0 ∨ 999 < v) → fSend A a g hh v = (-1, A) := fun r => if_pos r
  have hm := h.mono (show B ≤ B + 1 by omega)
  unfold f_Y_send f_Y_send_L52
  by_cases c1 : bad a
  · rw [y_isn σ c1, ng (Or.inl c1)]
    exact ⟨σ, rfl, hm⟩
  · obtain ⟨p1, p2⟩ := bad_no c1
    rw [y_is σ c1]
    simp only [Option.bind_some]
    rw [if_neg (show ¬ (1 : Int32) = 0 from by decide)]
    by_cases c2 : bad g
    · rw [y_isn σ c2, ng (Or.inr (Or.inl c2))]
      exact ⟨σ, rfl, hm⟩
    · rw [y_is σ c2]
      simp only [Option.bind_some]
      rw [if_neg (show ¬ (1 : Int32) = 0 from by decide)]
      by_cases c3 : a = g
      · rw [if_pos c3, ng (Or.inr (Or.inr (Or.inl c3)))]
        exact ⟨σ, rfl, hm⟩
      · rw [if_neg c3]
        by_cases c5 : hh < 1
        · rw [if_pos c5, ng (Or.inr (Or.inr (Or.inr (Or.inr (Or.inl c5)))))]
          exact ⟨σ, rfl, hm⟩
        · rw [if_neg c5]
          by_cases c6 : 15 < hh
          · rw [if_pos c6, ng (Or.inr (Or.inr (Or.inr (Or.inr (Or.inr (Or.inl c6))))))]
            exact ⟨σ, rfl, hm⟩
          · rw [if_neg c6]
            by_cases c7 : v < 0
            · rw [if_pos c7, ng (Or.inr (Or.inr (Or.inr (Or.inr (Or.inr (Or.inr (Or.inl c7)))))))]
              exact ⟨σ, rfl, hm⟩
            · rw [if_neg c7]
              by_cases c8 : 999 < v
              · rw [if_pos c8, ng (Or.inr (Or.inr (Or.inr (Or.inr (Or.inr (Or.inr (Or.inr c8)))))))]
                exact ⟨σ, rfl, hm⟩
              · rw [if_neg c8, if_pos (bad_ix c1)]
                by_cases c4 : A.1 11 a.toNatClampNeg 0 = 0
                · rw [if_neg (fun r => (h.dead p1).mp r c4), ng (Or.inr (Or.inr (Or.inr (Or.inl c4))))]
                  exact ⟨σ, rfl, hm⟩
                · have e : fSend A a g hh v = ((sSendF A a g hh v).1 5 0 0, sSendF A a g hh v) := if_neg (by
                    rintro (r | r | r | r | r | r | r | r)
                    · exact c1 r
                    · exact c2 r
                    · exact c3 r
                    · exact c4 r
                    · exact c5 r
                    · exact c6 r
                    · exact c7 r
                    · exact c8 r)
                  rw [if_pos ((h.dead p1).mpr c4), e]
                  simp only [tm_w]
                  rw [gy_sent h]
                  have h1 : RY σ0 B none (sI σ 130 46 (A.1 5 0 0 + 1)) (mSent A) := sy_sent h _
                  have w1 : wf 7 (mSent A) := w.s 5 0 0 _ trivial (by decide)
                  obtain ⟨σ', e', h'⟩ := y_send h1 (by omega) w1 p1 (sr := a) (g := g) (hh := hh) (v := v) (e := 0) ⟨_, (bad_no c2).1, (bad_no c2).2⟩ (Or.inl rfl)
                  rw [← p2] at e'
                  rw [e']
                  simp only [Option.bind_some]
                  rw [gy_sent h']
                  exact ⟨σ', rfl, h'⟩
theorem y_ticks {k : Nat} (hk : k ≤ 100) : ∀ (c i f : Nat) (τ : tm_S) (C : sA) (B : Nat), i + c = k → c < f → B + 63 * c < 1999998000 → RY τ B none τ C → iT C → yT τ C → ∃ σ', f_Y_tick_L14 f τ (Int32.ofNat k) (Int32.ofNat i) = some ((mTicks c C).1 3 0 0, σ') ∧ RY σ' (B + 63 * c) none σ' (mTicks c C) ∧ yT σ' (mTicks c C) ∧ frY' τ σ'
  | 0, i, f + 1, τ, C, B, hi, _, _, h, _, hy => by
    rw [f_Y_tick_L14, if_pos ((Int32.ofNat_le_iff_le (by omega) (by omega)).mpr (by omega)), gy_ticks h]
    exact ⟨τ, rfl, h, hy, frY'.rf τ⟩
  | c + 1, i, f + 1, τ, C, B, hi, hf, hB, h, ht, hy => by
    obtain ⟨τ1, e, h1, y1, g1⟩ := y_slot h (by omega) ht hy
    have hle : ¬ Int32.ofNat k ≤ Int32.ofNat i := fun r => by
      have := (Int32.ofNat_le_iff_le (by omega) (by omega)).mp r
      omega
    have e1 : (Int32.ofNat i + 1 : Int32) = Int32.ofNat (i + 1) := by
      rw [Int32.ofNat_add]
      rfl
    rw [f_Y_tick_L14, if_neg hle, e]
    simp only [Option.bind_some]
    rw [e1]
    obtain ⟨σ', e', z1, z2, z3⟩ := y_ticks hk c (i + 1) f τ1 (mTick C) (B + 63) (by omega) (by omega) (by omega) h1 (t_7 ht) y1
    refine ⟨σ', e', ?_, z2, g1.tr z3⟩
    rw [show B + 63 * (c + 1) = B + 63 + 63 * c by omega]
    exact z1
theorem y_tickF (h : RY σ B none σ A) (hB : B < 1999990000) (ht : iT A) (hy : yT σ A) (k : Int32) : ∃ σ', f_Y_tick σ k = some ((fTick A k).1, σ') ∧ RY σ' (B + 6300) none σ' (fTick A k).2 ∧ yT σ' (fTick A k).2 ∧ frY' σ σ' := by
  have ng : (k < 0 ∨ 100 < k) → fTick A k = (-1, A) := fun r => if_pos r
  unfold f_Y_tick f_Y_tick_L10
  by_cases c1 : k < 0
  · rw [if_pos c1, ng (Or.inl c1)]
    exact ⟨σ, rfl, h.mono (by omega), hy, frY'.rf σ⟩
  · rw [if_neg c1]
    by_cases c2 : k ≤ 100
    · have hno : ¬ (k < 0 ∨ 100 < k) := by
        rintro (r | r)
        · exact c1 r
        · exact Int32.not_lt.mpr c2 r
      have e : fTick A k = ((mTicks k.toNatClampNeg A).1 3 0 0, mTicks k.toNatClampNeg A) := if_neg hno
      rw [if_pos c2, e]
      obtain ⟨q1, q2⟩ := hun_no hno
      obtain ⟨σ', e', z1, z2, z3⟩ := y_ticks q1 k.toNatClampNeg 0 200 σ A B (by omega) (by omega) (by omega) h ht hy
      rw [← q2] at e'
      exact ⟨σ', e', z1.mono (by omega), z2, z3⟩
    · rw [if_neg c2, ng (Or.inr (Int32.not_le.mp c2))]
      exact ⟨σ, rfl, h.mono (by omega), hy, frY'.rf σ⟩
theorem y_next (h : RY σ0 B none σ A) (w : wf m A) (a g : Int32) : f_Y_next σ a g = some (fNext A a g, σ) := by
  have ng : (bad a ∨ bad g) → fNext A a g = 0 := fun r => if_pos r
  unfold f_Y_next f_Y_next_L19
  by_cases c1 : bad a
  · rw [y_isn σ c1, ng (Or.inl c1)]
    rfl
  · rw [y_is σ c1]
    simp only [Option.bind_some]
    rw [if_neg (show ¬ (1 : Int32) = 0 from by decide)]
    by_cases c2 : bad g
    · rw [y_isn σ c2, ng (Or.inr c2)]
      rfl
    · have e : fNext A a g = A.1 31 a.toNatClampNeg g.toNatClampNeg + 1 := if_neg (fun r => r.elim c1 c2)
      rw [y_is σ c2, e]
      simp only [Option.bind_some]
      rw [if_neg (show ¬ (1 : Int32) = 0 from by decide)]
      obtain ⟨p1, p2⟩ := bad_no c1
      obtain ⟨q1, q2⟩ := bad_no c2
      generalize a.toNatClampNeg = i at p1 p2
      generalize g.toNatClampNeg = j at q1 q2
      subst p2
      subst q2
      have hx : nod (A.1 31 i j) ∧ (i = j → A.1 31 i j = -1) := w.1 31 i j (xV_a (by decide) p1 q1)
      by_cases c3 : i = j
      · rw [if_pos (show nX i = nX j by rw [c3]), hx.2 c3]
        rfl
      · rw [if_neg (fun r => c3 ((nI_eq_iff p1 q1).mp r)), if_pos (ok49_a i p1 j q1), (ix49_a i p1 j q1).1, gy_nexts h p1 q1]
theorem y_known (h : RY σ0 B none σ A) (w : wf m A) (a g : Int32) : f_Y_known σ a g = some (fKnown A a g, σ) := by
  have ng : (bad a ∨ bad g) → fKnown A a g = 0 := fun r => if_pos r
  unfold f_Y_known f_Y_known_L33
  by_cases c1 : bad a
  · rw [y_isn σ c1, ng (Or.inl c1)]
    rfl
  · rw [y_is σ c1]
    simp only [Option.bind_some]
    rw [if_neg (show ¬ (1 : Int32) = 0 from by decide)]
    by_cases c2 : bad g
    · rw [y_isn σ c2, ng (Or.inr c2)]
      rfl
    · have e : fKnown A a g = A.1 30 a.toNatClampNeg g.toNatClampNeg := if_neg (fun r => r.elim c1 c2)
      rw [y_is σ c2, e]
      simp only [Option.bind_some]
      rw [if_neg (show ¬ (1 : Int32) = 0 from by decide)]
      obtain ⟨p1, p2⟩ := bad_no c1
      obtain ⟨q1, q2⟩ := bad_no c2
      generalize a.toNatClampNeg = i at p1 p2
      generalize g.toNatClampNeg = j at q1 q2
      subst p2
      subst q2
      have hx : (0 ≤ A.1 30 i j ∧ A.1 30 i j ≤ 255) ∧ (i = j → A.1 30 i j = 0) := w.1 30 i j (xV_a (by decide) p1 q1)
      by_cases c3 : i = j
      · rw [if_pos (show nX i = nX j by rw [c3]), hx.2 c3]
      · have o49 := ok49_a i p1 j q1
        rw [if_neg (fun r => c3 ((nI_eq_iff p1 q1).mp r))]
        simp only [if_pos o49]
        rw [(ix49_a i p1 j q1).1]
        rcases h.2.2.1 i j p1 q1 with ⟨k0, r0⟩ | ⟨k1, r1, r2⟩
        · rw [if_pos k0, r0]
        · rw [if_neg (show ¬ σ.1 133 (7 * i + j) = 0 by rw [k1]; decide), r1]
theorem y_count (h : RY σ0 B none σ A) (w : Int32) : f_Y_count σ w = some (fCount A w, σ) := by
  unfold f_Y_count fCount
  rw [gy_dropped h, gy_all h, gy_aired h]
  by_cases c0 : w = 0
  · rw [if_pos c0, if_pos c0]
  · rw [if_neg c0, if_neg c0]
    by_cases c1 : w = 1
    · rw [if_pos c1, if_pos c1]
    · rw [if_neg c1, if_neg c1]
      by_cases c2 : w = 2
      · rw [if_pos c2, if_pos c2]
      · rw [if_neg c2, if_neg c2]
theorem y_del (hB : B < 2000000000) (h : RY σ0 B none σ A) (a k : Int32) : f_Y_delivered σ a k = some (fDel A a k, σ) := by
  unfold f_Y_delivered f_Y_delivered_L18
  by_cases c1 : bad a
  · have e : fDel A a k = 0 := if_pos c1
    rw [y_isn σ c1, e]
    rfl
  · obtain ⟨q1, q2⟩ := bad_no c1
    obtain ⟨b, hb, eb, hl⟩ := h.2.2.2.1 _ q1
    have e : fDel A a k = haveI := Classical.propDecidable; if k = -1 then A.1 10 a.toNatClampNeg 0 else if k < 0 ∨ 8 ≤ k ∨ ¬ k < A.1 10 a.toNatClampNeg 0 then 0 else A.1 34 a.toNatClampNeg (((A.1 10 a.toNatClampNeg 0).toNatClampNeg - 1 - k.toNatClampNeg) % 8) := if_neg c1
    rw [y_is σ c1, e]
    simp only [Option.bind_some]
    simp only [if_pos (bad_ix c1)]
    rw [if_neg (show ¬ (1 : Int32) = 0 from by decide), gy_arrived h q1]
    have zm : (-1 : Int32).toInt = -1 := by decide
    have z0 : (0 : Int32).toInt = 0 := by decide
    have z7 : (7 : Int32).toInt = 7 := by decide
    have z8 : (8 : Int32).toInt = 8 := by decide
    by_cases c2 : k = -1
    · have d1 : ¬ k < -1 := by
        rw [c2]
        decide
      have d2 : k ≤ 7 := by
        rw [c2]
        decide
      rw [if_neg d1, if_pos d2, if_pos c2, if_pos c2]
    · have c2' : k.toInt ≠ -1 := fun r => c2 (Int32.toInt_inj.mp (by rw [r, zm]))
      by_cases c3 : k < 0
      · have d1 : k < -1 := by
          rw [i_lt] at c3 ⊢
          omega
        rw [if_pos d1, if_neg c2, if_pos (Or.inl c3)]
      · have d1 : ¬ k < -1 := by
          rw [i_lt] at c3 ⊢
          omega
        by_cases c4 : 8 ≤ k
        · have d2 : ¬ k ≤ 7 := by
            rw [i_le] at c4 ⊢
            omega
          rw [if_neg d1, if_neg d2, if_neg c2, if_pos (Or.inr (Or.inl c4))]
        · have d2 : k ≤ 7 := by
            rw [i_le] at c4 ⊢
            omega
          rw [if_neg d1, if_pos d2, if_neg c2, if_neg c2]
          by_cases c5 : k < A.1 10 a.toNatClampNeg 0
          · have hno : ¬ (k < 0 ∨ 8 ≤ k ∨ ¬ k < A.1 10 a.toNatClampNeg 0) := by
              rintro (r | r | r)
              · exact c3 r
              · exact c4 r
              · exact r c5
            obtain ⟨k1, k2⟩ := eight_no c3 c4
            rw [if_neg (Int32.not_le.mpr c5), if_neg hno]
            rw [eb] at c5 ⊢
            have k3 := (lt_on (by omega) c3).mp c5
            rw [on_ix (by omega)]
            have hl2 := hl k.toNatClampNeg k1 k3
            have hx := ix56_a a.toNatClampNeg q1 k.toNatClampNeg k1
            rw [← k2, ← q2] at hx
            rw [hx.1, if_pos (show ¬ ((8 : Int32) * a + k < 0 ∨ 56 ≤ 8 * a.toNatClampNeg + k.toNatClampNeg) from fun r => r.elim hx.2 (by omega)), hl2]
          · rw [if_pos (Int32.not_lt.mp c5), if_pos (Or.inr (Or.inr c5))]
theorem y_node33 (h : RY σ0 B none σ A) (w : wf m A) {k : Nat} (hk : k < 7) (q s : Int32) (hq : 0 ≤ q ∧ q ≤ 12) (hs : s = 0 ↔ (A.2 k).length = 0) : f_Y_node_L33 σ (nX k) q s = some (sNode A k q, σ) := by
  obtain ⟨-, -, b3, b4⟩ := lp_a k hk
  have ho : nod (A.1 22 k 0) := w.1 22 k 0 (xV_n (by decide) hk)
  have e8 : 8 * k = 7 * k + k := by omega
  have hcd : (if σ.1 137 k = 0 then (if A.1 23 k 0 = 0 then (if A.1 22 k 0 < 0 then some ((0 : Int32), σ) else some ((3 : Int32), σ)) else some ((2 : Int32), σ)) else some ((1 : Int32), σ)) = some (sCond A k, σ) := by
    unfold sCond
    by_cases d1 : A.1 11 k 0 = 0
    · rw [if_neg (fun r => (h.dead hk).mp r d1), if_pos d1]
    · rw [if_pos ((h.dead hk).mpr d1), if_neg d1]
      by_cases d2 : A.1 23 k 0 = 0
      · rw [if_pos d2, if_pos d2]
        by_cases d3 : A.1 22 k 0 = -1
        · rw [if_pos ((nod_neg ho).mpr d3), if_pos d3]
        · rw [if_neg (fun r => d3 ((nod_neg ho).mp r)), if_neg d3]
      · rw [if_neg d2, if_neg d2]
  unfold f_Y_node_L33 sNode
  simp only [if_pos b4, if_pos (ix8_a k hk).2.1]
  rw [b3, (ix8_a k hk).1, e8, gy_rank h hk, gy_parent h hk, gy_version h hk, gy_interval h hk, gy_clock h hk, gy_count h hk, h.many hk, gy_wait h hk, gy_busy h hk, gy_tries h hk, gy_least h hk, gy_listens h hk, gy_owes h hk, hcd, gy_numbers h hk hk]
  simp only [hs]
  by_cases d : (A.2 k).length = 0
  · simp only [if_pos d]
    by_cases w0 : q = 0
    · rw [if_pos w0, if_pos w0]
    rw [if_neg w0, if_neg w0]
    by_cases w1 : q = 1
    · rw [if_pos w1, if_pos w1]
    rw [if_neg w1, if_neg w1]
    by_cases w2 : q = 2
    · rw [if_pos w2, if_pos w2]
    rw [if_neg w2, if_neg w2]
    by_cases w3 : q = 3
    · rw [if_pos w3, if_pos w3]
    rw [if_neg w3, if_neg w3]
    by_cases w4 : q = 4
    · rw [if_pos w4, if_pos w4]
    rw [if_neg w4, if_neg w4]
    by_cases w5 : q = 5
    · rw [if_pos w5, if_pos w5]
    rw [if_neg w5, if_neg w5]
    by_cases w6 : q = 6
    · rw [if_pos w6, if_pos w6]
    rw [if_neg w6, if_neg w6]
    by_cases w7 : q = 7
    · rw [if_pos w7, if_pos w7]
    rw [if_neg w7, if_neg w7]
    by_cases w8 : q = 8
    · rw [if_pos w8, if_pos w8]
    rw [if_neg w8, if_neg w8]
    by_cases w9 : q = 9
    · rw [if_pos w9, if_pos w9]
    rw [if_neg w9, if_neg w9]
    by_cases w10 : q = 10
    · rw [if_pos w10, if_pos w10]
    rw [if_neg w10, if_neg w10]
    by_cases w11 : q = 11
    · rw [if_pos w11, if_pos w11]
    rw [if_neg w11, if_neg w11]
    rw [if_pos]
    have r1 := i_le.mp hq.1
    have r2 := i_le.mp hq.2
    have z0 : (0 : Int32).toInt = 0 := by decide
    have z12 : (12 : Int32).toInt = 12 := by decide
    have g0 : q.toInt ≠ 0 := tm_ne w0
    have g1 : q.toInt ≠ 1 := tm_ne w1
    have g2 : q.toInt ≠ 2 := tm_ne w2
    have g3 : q.toInt ≠ 3 := tm_ne w3
    have g4 : q.toInt ≠ 4 := tm_ne w4
    have g5 : q.toInt ≠ 5 := tm_ne w5
    have g6 : q.toInt ≠ 6 := tm_ne w6
    have g7 : q.toInt ≠ 7 := tm_ne w7
    have g8 : q.toInt ≠ 8 := tm_ne w8
    have g9 : q.toInt ≠ 9 := tm_ne w9
    have g10 : q.toInt ≠ 10 := tm_ne w10
    have g11 : q.toInt ≠ 11 := tm_ne w11
    exact Int32.toInt_inj.mp (by omega)
  · simp only [if_neg d]
    by_cases w0 : q = 0
    · rw [if_pos w0, if_pos w0]
    rw [if_neg w0, if_neg w0]
    by_cases w1 : q = 1
    · rw [if_pos w1, if_pos w1]
    rw [if_neg w1, if_neg w1]
    by_cases w2 : q = 2
    · rw [if_pos w2, if_pos w2]
    rw [if_neg w2, if_neg w2]
    by_cases w3 : q = 3
    · rw [if_pos w3, if_pos w3]
    rw [if_neg w3, if_neg w3]
    by_cases w4 : q = 4
    · rw [if_pos w4, if_pos w4]
    rw [if_neg w4, if_neg w4]
    by_cases w5 : q = 5
    · rw [if_pos w5, if_pos w5]
    rw [if_neg w5, if_neg w5]
    by_cases w6 : q = 6
    · rw [if_pos w6, if_pos w6]
    rw [if_neg w6, if_neg w6]
    by_cases w7 : q = 7
    · rw [if_pos w7, if_pos w7]
    rw [if_neg w7, if_neg w7]
    by_cases w8 : q = 8
    · rw [if_pos w8, if_pos w8]
    rw [if_neg w8, if_neg w8]
    by_cases w9 : q = 9
    · rw [if_pos w9, if_pos w9]
    rw [if_neg w9, if_neg w9]
    by_cases w10 : q = 10
    · rw [if_pos w10, if_pos w10]
    rw [if_neg w10, if_neg w10]
    by_cases w11 : q = 11
    · rw [if_pos w11, if_pos w11]
    rw [if_neg w11, if_neg w11]
    rw [if_pos]
    have r1 := i_le.mp hq.1
    have r2 := i_le.mp hq.2
    have z0 : (0 : Int32).toInt = 0 := by decide
    have z12 : (12 : Int32).toInt = 12 := by decide
    have g0 : q.toInt ≠ 0 := tm_ne w0
    have g1 : q.toInt ≠ 1 := tm_ne w1
    have g2 : q.toInt ≠ 2 := tm_ne w2
    have g3 : q.toInt ≠ 3 := tm_ne w3
    have g4 : q.toInt ≠ 4 := tm_ne w4
    have g5 : q.toInt ≠ 5 := tm_ne w5
    have g6 : q.toInt ≠ 6 := tm_ne w6
    have g7 : q.toInt ≠ 7 := tm_ne w7
    have g8 : q.toInt ≠ 8 := tm_ne w8
    have g9 : q.toInt ≠ 9 := tm_ne w9
    have g10 : q.toInt ≠ 10 := tm_ne w10
    have g11 : q.toInt ≠ 11 := tm_ne w11
    exact Int32.toInt_inj.mp (by omega)
theorem y_node (h : RY σ0 B none σ A) (w : wf m A) (a q : Int32) : f_Y_node σ a q = some (fNode A a q, σ) := by
  unfold f_Y_node f_Y_node_L17
  by_cases c1 : bad a
  · have e : fNode A a q = -1 := if_pos c1
    rw [y_isn σ c1, e]
    rfl
  · have e : fNode A a q = sNode A a.toNatClampNeg q := if_neg c1
    rw [y_is σ c1, e]
    simp only [Option.bind_some]
    obtain ⟨q1, q2⟩ := bad_no c1
    rw [if_neg (show ¬ (1 : Int32) = 0 from by decide)]
    have far : ¬ (0 ≤ q ∧ q ≤ 12) → sNode A a.toNatClampNeg q = -1 := by
      intro r
      have ne : ∀ z : Int32, 0 ≤ z ∧ z ≤ 12 → ¬ q = z := fun z hz e => r (by rw [e]; exact hz)
      unfold sNode
      rw [if_neg (ne 0 (by decide)), if_neg (ne 1 (by decide)), if_neg (ne 2 (by decide)), if_neg (ne 3 (by decide)), if_neg (ne 4 (by decide)), if_neg (ne 5 (by decide)), if_neg (ne 6 (by decide)), if_neg (ne 7 (by decide)), if_neg (ne 8 (by decide)), if_neg (ne 9 (by decide)), if_neg (ne 10 (by decide)), if_neg (ne 11 (by decide)), if_neg (ne 12 (by decide))]
    by_cases c2 : q < 0
    · rw [if_pos c2, far (fun r => Int32.not_lt.mpr r.1 c2)]
    · rw [if_neg c2]
      by_cases c3 : q ≤ 12
      · have hl := nI_len_a (A.2 a.toNatClampNeg).length (by have := h.len q1; omega)
        rw [if_pos c3, if_pos (bad_ix c1), h.many q1]
        have key := fun s hs => y_node33 h w q1 q s ⟨Int32.not_lt.mp c2, c3⟩ hs
        rw [← q2] at key
        by_cases c4 : (A.2 a.toNatClampNeg).length = 0
        · rw [if_pos (hl.2.2.2.2.2.1.mpr c4)]
          exact key 0 ⟨fun _ => c4, fun _ => rfl⟩
        · rw [if_neg (fun r => c4 (hl.2.2.2.2.2.1.mp r))]
          exact key 1 ⟨fun r => absurd r (by decide), fun r => absurd r c4⟩
      · rw [if_neg c3, far (fun r => c3 r.2)]
end Y8
