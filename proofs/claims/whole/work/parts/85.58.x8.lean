/-! the calls of the face: what they answer and leave -/
def bad (a : Int32) : Prop := a < 0 ∨ 7 ≤ a
theorem bad_no {a : Int32} (h : ¬ bad a) : a.toNatClampNeg < 7 ∧ a = nX a.toNatClampNeg := by
  have h1 : ¬ a < 0 := fun q => h (Or.inl q)
  have h2 : ¬ 7 ≤ a := fun q => h (Or.inr q)
  have h1 := i_le.mp (Int32.not_lt.mp h1)
  have h2 := i_lt.mp (Int32.not_le.mp h2)
  have z0 : (0 : Int32).toInt = 0 := by decide
  have z7 : (7 : Int32).toInt = 7 := by decide
  have e : a.toNatClampNeg = a.toInt.toNat := rfl
  refine ⟨by omega, ?_⟩
  apply Int32.toInt_inj.mp
  unfold nX
  rw [Int32.toInt_ofNat_of_lt (by omega), e]
  omega
theorem bad_yes : ∀ m, m < 7 → ¬ (nX m < 0 ∨ 7 ≤ nX m) := by decide
theorem bad_ix {a : Int32} (h : ¬ bad a) : ¬ (a < 0 ∨ 7 ≤ a.toNatClampNeg) := fun q => q.elim (fun q => h (Or.inl q)) (fun q => by have := (bad_no h).1; omega)
noncomputable def fLink (A : sA) (a b c : Int32) : Int32 × sA := haveI := Classical.propDecidable; if bad a ∨ bad b ∨ a = b ∨ c < 0 ∨ 9 < c then (0, A) else (1, mLink A a.toNatClampNeg b.toNatClampNeg c)
noncomputable def fKill (A : sA) (a : Int32) : Int32 × sA := haveI := Classical.propDecidable; if bad a ∨ a = 0 ∨ A.1 11 a.toNatClampNeg 0 = 0 then (0, A) else (1, mKill A a.toNatClampNeg)
def fRepair (A : sA) : Int32 × sA := ((mRepair A).1 12 0 0, mRepair A)
def sSendF (A : sA) (a g h v : Int32) : sA := mSend (mSent A) a.toNatClampNeg a g h v 0
noncomputable def fSend (A : sA) (a g h v : Int32) : Int32 × sA := haveI := Classical.propDecidable; if bad a ∨ bad g ∨ a = g ∨ A.1 11 a.toNatClampNeg 0 = 0 ∨ h < 1 ∨ 15 < h ∨ v < 0 ∨ 999 < v then (-1, A) else ((sSendF A a g h v).1 5 0 0, sSendF A a g h v)
noncomputable def fTick (A : sA) (k : Int32) : Int32 × sA := haveI := Classical.propDecidable; if k < 0 ∨ 100 < k then (-1, A) else ((mTicks k.toNatClampNeg A).1 3 0 0, mTicks k.toNatClampNeg A)
def sCond (A : sA) (i : Nat) : Int32 := if A.1 11 i 0 = 0 then 1 else if A.1 23 i 0 = 0 then (if A.1 22 i 0 = -1 then 0 else 3) else 2
def sNode (A : sA) (i : Nat) (w : Int32) : Int32 := if w = 0 then A.1 13 i 0 else if w = 1 then A.1 14 i 0 + 1 else if w = 2 then A.1 12 i 0 else if w = 3 then A.1 26 i 0 else if w = 4 then A.1 27 i 0 else if w = 5 then A.1 29 i 0 else if w = 6 then nX (A.2 i).length else if w = 7 then (if (A.2 i).length = 0 then 0 else A.1 16 i 0) else if w = 8 then (if (A.2 i).length = 0 then 0 else A.1 17 i 0) else if w = 9 then (if (A.2 i).length = 0 then 0 else A.1 18 i 0) else if w = 10 then A.1 15 i 0 else if w = 11 then sCond A i else if w = 12 then A.1 32 i i else -1
noncomputable def fNode (A : sA) (a w : Int32) : Int32 := haveI := Classical.propDecidable; if bad a then -1 else sNode A a.toNatClampNeg w
noncomputable def fNext (A : sA) (a g : Int32) : Int32 := haveI := Classical.propDecidable; if bad a ∨ bad g then 0 else A.1 31 a.toNatClampNeg g.toNatClampNeg + 1
noncomputable def fKnown (A : sA) (a b : Int32) : Int32 := haveI := Classical.propDecidable; if bad a ∨ bad b then 0 else A.1 30 a.toNatClampNeg b.toNatClampNeg
noncomputable def fDel (A : sA) (a k : Int32) : Int32 := haveI := Classical.propDecidable; if bad a then 0 else if k = -1 then A.1 10 a.toNatClampNeg 0 else if k < 0 ∨ 8 ≤ k ∨ ¬ k < A.1 10 a.toNatClampNeg 0 then 0 else A.1 34 a.toNatClampNeg (((A.1 10 a.toNatClampNeg 0).toNatClampNeg - 1 - k.toNatClampNeg) % 8)
def fCount (A : sA) (w : Int32) : Int32 := if w = 0 then A.1 6 0 0 else if w = 1 then A.1 7 0 0 else if w = 2 then A.1 8 0 0 else 0
section X8
variable {σ0 σ : tm_S} {A : sA} {n m x : Nat}
theorem x_is (σ : tm_S) {a : Int32} (h : ¬ bad a) : f_X_isNode σ a = some (1, σ) := by
  rw [x_isNode, if_neg (show ¬ (a < 0 ∨ 7 ≤ a) from h)]
theorem x_isn (σ : tm_S) {a : Int32} (h : bad a) : f_X_isNode σ a = some (0, σ) := by
  rw [x_isNode, if_pos (show a < 0 ∨ 7 ≤ a from h)]
theorem x_link (h : RX σ0 σ A) (a b c : Int32) : ∃ σ', f_X_link σ a b c = some ((fLink A a b c).1, σ') ∧ RX σ0 σ' (fLink A a b c).2 := by
  unfold f_X_link f_X_link_L29
  by_cases c1 : bad a
  · have e : fLink A a b c = (0, A) := if_pos (Or.inl c1)
    rw [x_isn σ c1, e]
    exact ⟨σ, rfl, h⟩
  · rw [x_is σ c1]
    simp only [Option.bind_some]
    rw [if_neg (show ¬ (1 : Int32) = 0 from by decide)]
    by_cases c2 : bad b
    · have e : fLink A a b c = (0, A) := if_pos (Or.inr (Or.inl c2))
      rw [x_isn σ c2, e]
      exact ⟨σ, rfl, h⟩
    · rw [x_is σ c2]
      simp only [Option.bind_some]
      rw [if_neg (show ¬ (1 : Int32) = 0 from by decide)]
      by_cases c3 : a = b
      · have e : fLink A a b c = (0, A) := if_pos (Or.inr (Or.inr (Or.inl c3)))
        rw [if_pos c3, e]
        exact ⟨σ, rfl, h⟩
      · rw [if_neg c3]
        by_cases c4 : c < 0
        · have e : fLink A a b c = (0, A) := if_pos (Or.inr (Or.inr (Or.inr (Or.inl c4))))
          rw [if_pos c4, e]
          exact ⟨σ, rfl, h⟩
        · rw [if_neg c4]
          by_cases c5 : c ≤ 9
          · have e : fLink A a b c = (1, mLink A a.toNatClampNeg b.toNatClampNeg c) := if_neg (by
              rintro (r | r | r | r | r)
              · exact c1 r
              · exact c2 r
              · exact c3 r
              · exact c4 r
              · exact Int32.not_lt.mpr c5 r)
            rw [if_pos c5, if_pos (bad_ix c1), if_pos (bad_ix c2), e]
            simp only [tm_w]
            rw [if_pos (bad_ix c2), if_pos (bad_ix c1)]
            exact ⟨_, rfl, sx_cost (sx_cost h (bad_no c1).1 (bad_no c2).1 c) (bad_no c2).1 (bad_no c1).1 c⟩
          · have e : fLink A a b c = (0, A) := if_pos (Or.inr (Or.inr (Or.inr (Or.inr (Int32.not_le.mp c5)))))
            rw [if_neg c5, e]
            exact ⟨σ, rfl, h⟩
/-- a queue is empty -/
theorem RX.clear (h : RX σ0 σ A) (hn : n < 7) : RX σ0 (sI σ (11 + 17 * n + 1) 1 0) (uQ A n []) := by
  refine ⟨fun t i j hv => ?_, fun i hi => ?_, h.2.2.wr (by omega)⟩
  · rw [sI_no (fun e => xA_s hv hn ⟨e.1.symm, e.2.symm⟩)]
    exact h.1 t i j hv
  · have hF : ∀ m', m' < 4 → (sI σ (11 + 17 * n + 1) 1 0).1 (xF i m') = σ.1 (xF i m') ∧ (sI σ (11 + 17 * n + 1) 1 0).1 (xF i m' + 1) = σ.1 (xF i m' + 1) := by
      intro m' hm'
      have e : xF i m' = 11 + 17 * i + 3 + 2 * m' := rfl
      have hm'' : m' = 0 ∨ m' = 1 ∨ m' = 2 ∨ m' = 3 := by omega
      constructor <;> apply sI_ne1 <;> rw [e] <;> rcases hm'' with rfl | rfl | rfl | rfl <;> omega
    rw [uQ_2]
    by_cases hin : i = n
    · subst hin
      rw [if_pos rfl]
      obtain ⟨a1, a2, a3, a4, a5⟩ := h.2.1 i hi
      exact ⟨sI_eq, by simp, a3, a4, fun k f hf => by simp at hf⟩
    · rw [if_neg hin]
      exact (h.2.1 i hi).congr (sI_no (by omega)) (fun _ _ => rfl) hF
theorem x_kill (h : RX σ0 σ A) (a : Int32) : ∃ σ', f_X_kill σ a = some ((fKill A a).1, σ') ∧ RX σ0 σ' (fKill A a).2 := by
  unfold f_X_kill f_X_kill_L23
  by_cases c1 : bad a
  · have e : fKill A a = (0, A) := if_pos (Or.inl c1)
    rw [x_isn σ c1, e]
    exact ⟨σ, rfl, h⟩
  · rw [x_is σ c1]
    simp only [Option.bind_some]
    rw [if_neg (show ¬ (1 : Int32) = 0 from by decide)]
    by_cases c2 : a = 0
    · have e : fKill A a = (0, A) := if_pos (Or.inr (Or.inl c2))
      rw [if_pos c2, e]
      exact ⟨σ, rfl, h⟩
    · rw [if_neg c2, if_pos (bad_ix c1), gx_alive h (bad_no c1).1]
      by_cases c3 : A.1 11 a.toNatClampNeg 0 = 0
      · have e : fKill A a = (0, A) := if_pos (Or.inr (Or.inr c3))
        rw [if_pos c3, e]
        exact ⟨σ, rfl, h⟩
      · have e : fKill A a = (1, mKill A a.toNatClampNeg) := if_neg (by
          rintro (r | r | r)
          · exact c1 r
          · exact c2 r
          · exact c3 r)
        rw [if_neg c3, if_pos (bad_ix c1), e]
        simp only [tm_w]
        rw [if_pos (bad_ix c1)]
        have hn := (bad_no c1).1
        exact ⟨_, rfl, sx_listens (sx_owes ((sx_alive h hn 0).clear hn) hn (-1)) hn 0⟩
theorem x_repair (h : RX σ0 σ A) : ∃ σ', f_X_repair σ = some ((fRepair A).1, σ') ∧ RX σ0 σ' (fRepair A).2 := by
  have h1 := sx_version h (n := 0) (by omega) (A.1 12 0 0 + 1)
  obtain ⟨σ', e, h'⟩ := x_reset h1 (n := 0) (by omega)
  refine ⟨σ', ?_, h'⟩
  unfold f_X_repair fRepair
  rw [z0, gx_version h (n := 0) (by omega)]
  simp only [tm_w]
  rw [e]
  simp only [Option.bind_some]
  rw [gx_version h' (n := 0) (by omega)]
  rfl
theorem x_sendF (h : RX σ0 σ A) (a g hh v : Int32) : ∃ σ', f_X_send σ a g hh v = some ((fSend A a g hh v).1, σ') ∧ RX σ0 σ' (fSend A a g hh v).2 := by
  have ng : (bad a ∨ bad g ∨ a = g ∨ A.1 11 a.toNatClampNeg 0 = 0 ∨ hh < 1 ∨ 15 < hh ∨ v < 0 ∨ 999 < v) → fSend A a g hh v = (-1, A) := fun r => if_pos r
  unfold f_X_send f_X_send_L31 f_X_send_L57
  by_cases c1 : bad a
  · rw [x_isn σ c1, ng (Or.inl c1)]
    exact ⟨σ, rfl, h⟩
  · rw [x_is σ c1]
    simp only [Option.bind_some]
    rw [if_neg (show ¬ (1 : Int32) = 0 from by decide)]
    by_cases c2 : bad g
    · rw [x_isn σ c2, ng (Or.inr (Or.inl c2))]
      exact ⟨σ, rfl, h⟩
    · rw [x_is σ c2]
      simp only [Option.bind_some]
      rw [if_neg (show ¬ (1 : Int32) = 0 from by decide)]
      by_cases c3 : a = g
      · rw [if_pos c3, ng (Or.inr (Or.inr (Or.inl c3)))]
        exact ⟨σ, rfl, h⟩
      · rw [if_neg c3, if_pos (bad_ix c1), gx_alive h (bad_no c1).1]
        by_cases c4 : A.1 11 a.toNatClampNeg 0 = 0
        · rw [if_pos c4, ng (Or.inr (Or.inr (Or.inr (Or.inl c4))))]
          exact ⟨σ, rfl, h⟩
        · rw [if_neg c4]
          by_cases c5 : hh < 1
          · rw [if_pos c5, ng (Or.inr (Or.inr (Or.inr (Or.inr (Or.inl c5)))))]
            exact ⟨σ, rfl, h⟩
          · rw [if_neg c5]
            by_cases c6 : 15 < hh
            · rw [if_pos c6, ng (Or.inr (Or.inr (Or.inr (Or.inr (Or.inr (Or.inl c6))))))]
              exact ⟨σ, rfl, h⟩
            · rw [if_neg c6]
              by_cases c7 : v < 0
              · rw [if_pos c7, ng (Or.inr (Or.inr (Or.inr (Or.inr (Or.inr (Or.inr (Or.inl c7)))))))]
                exact ⟨σ, rfl, h⟩
              · rw [if_neg c7]
                by_cases c8 : v ≤ 999
                · have e : fSend A a g hh v = ((sSendF A a g hh v).1 5 0 0, sSendF A a g hh v) := if_neg (by
                    rintro (r | r | r | r | r | r | r | r)
                    · exact c1 r
                    · exact c2 r
                    · exact c3 r
                    · exact c4 r
                    · exact c5 r
                    · exact c6 r
                    · exact c7 r
                    · exact Int32.not_lt.mpr c8 r)
                  rw [if_pos c8, e]
                  simp only [tm_w]
                  rw [if_pos (bad_ix c1), gx_sent h]
                  have h1 : RX σ0 (sI σ 1 7 (A.1 5 0 0 + 1)) (mSent A) := sx_sent h _
                  obtain ⟨σ', e', h'⟩ := x_send h1 (bad_no c1).1 (s := a) (g := g) (hh := hh) (v := v) (e := 0) ⟨_, (bad_no c2).1, (bad_no c2).2⟩ (Or.inl rfl)
                  rw [e']
                  simp only [Option.bind_some]
                  rw [gx_sent h']
                  exact ⟨σ', rfl, h'⟩
                · rw [if_neg c8, ng (Or.inr (Or.inr (Or.inr (Or.inr (Or.inr (Or.inr (Or.inr (Int32.not_le.mp c8))))))))]
                  exact ⟨σ, rfl, h⟩
theorem x_ticks {K0 k : Nat} (hk : k ≤ 100) (hK : K0 < 1999998000) : ∀ (c i f : Nat) (τ : tm_S) (B : sA), i + c = k → c < f → RX σ0 τ B → iT B → aB (K0 + 7 * i) B → ∃ σ', f_X_tick_L14 f τ (Int32.ofNat k) (Int32.ofNat i) = some ((mTicks c B).1 3 0 0, σ') ∧ RX σ0 σ' (mTicks c B)
  | 0, i, f + 1, τ, B, hi, _, h, _, _ => by
    rw [f_X_tick_L14, if_pos ((Int32.ofNat_le_iff_le (by omega) (by omega)).mpr (by omega)), gx_ticks h]
    exact ⟨τ, rfl, h⟩
  | c + 1, i, f + 1, τ, B, hi, hf, h, ht, ha => by
    obtain ⟨τ', e, h'⟩ := x_tick (by omega) h ht ha f (Int32.ofNat k) (Int32.ofNat i) (fun r => by
      have := (Int32.ofNat_le_iff_le (by omega) (by omega)).mp r
      omega)
    rw [e]
    have e1 : (Int32.ofNat i + 1 : Int32) = Int32.ofNat (i + 1) := by
      rw [Int32.ofNat_add]
      rfl
    rw [e1]
    exact x_ticks hk hK c (i + 1) f τ' _ (by omega) (by omega) h' (t_7 ht) (by
      have := aB_Tick ha
      rw [show K0 + 7 * (i + 1) = K0 + 7 * i + 7 by omega]
      exact this)
theorem hun_no {k : Int32} (h : ¬ (k < 0 ∨ 100 < k)) : k.toNatClampNeg ≤ 100 ∧ k = Int32.ofNat k.toNatClampNeg := by
  have h1 : ¬ k < 0 := fun q => h (Or.inl q)
  have h2 : ¬ 100 < k := fun q => h (Or.inr q)
  have h1 := i_le.mp (Int32.not_lt.mp h1)
  have h2 := i_le.mp (Int32.not_lt.mp h2)
  have z0 : (0 : Int32).toInt = 0 := by decide
  have z7 : (100 : Int32).toInt = 100 := by decide
  have e : k.toNatClampNeg = k.toInt.toNat := rfl
  refine ⟨by omega, ?_⟩
  apply Int32.toInt_inj.mp
  rw [Int32.toInt_ofNat_of_lt (by omega), e]
  omega
theorem x_tickF {K0 : Nat} (hK : K0 < 1999998000) (h : RX σ0 σ A) (ht : iT A) (ha : aB K0 A) (k : Int32) : ∃ σ', f_X_tick σ k = some ((fTick A k).1, σ') ∧ RX σ0 σ' (fTick A k).2 := by
  have ng : (k < 0 ∨ 100 < k) → fTick A k = (-1, A) := fun r => if_pos r
  unfold f_X_tick f_X_tick_L10
  by_cases c1 : k < 0
  · rw [if_pos c1, ng (Or.inl c1)]
    exact ⟨σ, rfl, h⟩
  · rw [if_neg c1]
    by_cases c2 : k ≤ 100
    · have hno : ¬ (k < 0 ∨ 100 < k) := by
        rintro (r | r)
        · exact c1 r
        · exact Int32.not_lt.mpr c2 r
      have e : fTick A k = ((mTicks k.toNatClampNeg A).1 3 0 0, mTicks k.toNatClampNeg A) := if_neg hno
      rw [if_pos c2, e]
      obtain ⟨q1, q2⟩ := hun_no hno
      have := x_ticks (σ0 := σ0) q1 hK k.toNatClampNeg 0 200 σ A (by omega) (by omega) h ht (by rw [Nat.mul_zero, Nat.add_zero]; exact ha)
      rw [← q2] at this
      exact this
    · rw [if_neg c2, ng (Or.inr (Int32.not_le.mp c2))]
      exact ⟨σ, rfl, h⟩
theorem x_next (h : RX σ0 σ A) (a g : Int32) : f_X_next σ a g = some (fNext A a g, σ) := by
  have ng : (bad a ∨ bad g) → fNext A a g = 0 := fun r => if_pos r
  unfold f_X_next f_X_next_L30
  by_cases c1 : bad a
  · rw [x_isn σ c1, ng (Or.inl c1)]
    rfl
  · rw [x_is σ c1]
    simp only [Option.bind_some]
    rw [if_neg (show ¬ (1 : Int32) = 0 from by decide)]
    by_cases c2 : bad g
    · rw [x_isn σ c2, ng (Or.inr c2)]
      rfl
    · have e : fNext A a g = A.1 31 a.toNatClampNeg g.toNatClampNeg + 1 := if_neg (fun r => r.elim c1 c2)
      rw [x_is σ c2, e]
      simp only [Option.bind_some]
      rw [if_neg (show ¬ (1 : Int32) = 0 from by decide), if_pos (bad_ix c1), if_pos (bad_ix c2), gx_nexts h (bad_no c1).1 (bad_no c2).1]
theorem x_known (h : RX σ0 σ A) (a g : Int32) : f_X_known σ a g = some (fKnown A a g, σ) := by
  have ng : (bad a ∨ bad g) → fKnown A a g = 0 := fun r => if_pos r
  unfold f_X_known f_X_known_L28
  by_cases c1 : bad a
  · rw [x_isn σ c1, ng (Or.inl c1)]
    rfl
  · rw [x_is σ c1]
    simp only [Option.bind_some]
    rw [if_neg (show ¬ (1 : Int32) = 0 from by decide)]
    by_cases c2 : bad g
    · rw [x_isn σ c2, ng (Or.inr c2)]
      rfl
    · have e : fKnown A a g = A.1 30 a.toNatClampNeg g.toNatClampNeg := if_neg (fun r => r.elim c1 c2)
      rw [x_is σ c2, e]
      simp only [Option.bind_some]
      rw [if_neg (show ¬ (1 : Int32) = 0 from by decide), if_pos (bad_ix c1), if_pos (bad_ix c2), gx_ranks h (bad_no c1).1 (bad_no c2).1]
theorem x_count (h : RX σ0 σ A) (w : Int32) : f_X_count σ w = some (fCount A w, σ) := by
  unfold f_X_count fCount
  rw [gx_dropped h, gx_all h, gx_aired h]
  by_cases c0 : w = 0
  · rw [if_pos c0, if_pos c0]
  · rw [if_neg c0, if_neg c0]
    by_cases c1 : w = 1
    · rw [if_pos c1, if_pos c1]
    · rw [if_neg c1, if_neg c1]
      by_cases c2 : w = 2
      · rw [if_pos c2, if_pos c2]
      · rw [if_neg c2, if_neg c2]
theorem x_node35 (h : RX σ0 σ A) {k : Nat} (hk : k < 7) (w s : Int32) (hs : s = 0 ↔ (A.2 k).length = 0) : f_X_node_L35 σ (nX k) w (11 + 17 * k) (11 + 17 * k + 1) s = some (sNode A k w, σ) := by
  obtain ⟨-, -, b3, b4⟩ := lp_a k hk
  have hcd : f_X_condition σ (11 + 17 * k) = some (sCond A k, σ) := by
    unfold f_X_condition sCond
    rw [gx_alive h hk, gx_listens h hk, gx_owes h hk]
    by_cases d1 : A.1 11 k 0 = 0
    · rw [if_pos d1, if_pos d1]
    · rw [if_neg d1, if_neg d1]
      by_cases d2 : A.1 23 k 0 = 0
      · rw [if_pos d2, if_pos d2]
        by_cases d3 : A.1 22 k 0 = -1
        · rw [if_pos d3, if_pos d3]
        · rw [if_neg d3, if_neg d3]
      · rw [if_neg d2, if_neg d2]
  unfold f_X_node_L35 sNode
  rw [gx_rank h hk, gx_parent h hk, gx_version h hk, gx_interval h hk, gx_clock h hk, gx_count h hk, h.size hk, gx_wait h hk, gx_busy h hk, gx_tries h hk, gx_least h hk, hcd, if_pos b4, b3, gx_numbers h hk hk]
  simp only [Option.bind_some, hs]
  by_cases d : (A.2 k).length = 0
  · simp only [if_pos d]
    by_cases w0 : w = 0
    · rw [if_pos w0, if_pos w0]
    rw [if_neg w0, if_neg w0]
    by_cases w1 : w = 1
    · rw [if_pos w1, if_pos w1]
    rw [if_neg w1, if_neg w1]
    by_cases w2 : w = 2
    · rw [if_pos w2, if_pos w2]
    rw [if_neg w2, if_neg w2]
    by_cases w3 : w = 3
    · rw [if_pos w3, if_pos w3]
    rw [if_neg w3, if_neg w3]
    by_cases w4 : w = 4
    · rw [if_pos w4, if_pos w4]
    rw [if_neg w4, if_neg w4]
    by_cases w5 : w = 5
    · rw [if_pos w5, if_pos w5]
    rw [if_neg w5, if_neg w5]
    by_cases w6 : w = 6
    · rw [if_pos w6, if_pos w6]
    rw [if_neg w6, if_neg w6]
    by_cases w7 : w = 7
    · rw [if_pos w7, if_pos w7]
    rw [if_neg w7, if_neg w7]
    by_cases w8 : w = 8
    · rw [if_pos w8, if_pos w8]
    rw [if_neg w8, if_neg w8]
    by_cases w9 : w = 9
    · rw [if_pos w9, if_pos w9]
    rw [if_neg w9, if_neg w9]
    by_cases w10 : w = 10
    · rw [if_pos w10, if_pos w10]
    rw [if_neg w10, if_neg w10]
    by_cases w11 : w = 11
    · rw [if_pos w11, if_pos w11]
    rw [if_neg w11, if_neg w11]
    by_cases w12 : w = 12
    · rw [if_pos w12, if_pos w12]
    rw [if_neg w12, if_neg w12]
  · simp only [if_neg d]
    by_cases w0 : w = 0
    · rw [if_pos w0, if_pos w0]
    rw [if_neg w0, if_neg w0]
    by_cases w1 : w = 1
    · rw [if_pos w1, if_pos w1]
    rw [if_neg w1, if_neg w1]
    by_cases w2 : w = 2
    · rw [if_pos w2, if_pos w2]
    rw [if_neg w2, if_neg w2]
    by_cases w3 : w = 3
    · rw [if_pos w3, if_pos w3]
    rw [if_neg w3, if_neg w3]
    by_cases w4 : w = 4
    · rw [if_pos w4, if_pos w4]
    rw [if_neg w4, if_neg w4]
    by_cases w5 : w = 5
    · rw [if_pos w5, if_pos w5]
    rw [if_neg w5, if_neg w5]
    by_cases w6 : w = 6
    · rw [if_pos w6, if_pos w6]
    rw [if_neg w6, if_neg w6]
    by_cases w7 : w = 7
    · rw [if_pos w7, if_pos w7]
    rw [if_neg w7, if_neg w7]
    by_cases w8 : w = 8
    · rw [if_pos w8, if_pos w8]
    rw [if_neg w8, if_neg w8]
    by_cases w9 : w = 9
    · rw [if_pos w9, if_pos w9]
    rw [if_neg w9, if_neg w9]
    by_cases w10 : w = 10
    · rw [if_pos w10, if_pos w10]
    rw [if_neg w10, if_neg w10]
    by_cases w11 : w = 11
    · rw [if_pos w11, if_pos w11]
    rw [if_neg w11, if_neg w11]
    by_cases w12 : w = 12
    · rw [if_pos w12, if_pos w12]
    rw [if_neg w12, if_neg w12]
theorem x_node (h : RX σ0 σ A) (a w : Int32) : f_X_node σ a w = some (fNode A a w, σ) := by
  unfold f_X_node
  by_cases c1 : bad a
  · have e : fNode A a w = -1 := if_pos c1
    rw [x_isn σ c1, e]
    rfl
  · have e : fNode A a w = sNode A a.toNatClampNeg w := if_neg c1
    rw [x_is σ c1, e]
    simp only [Option.bind_some]
    obtain ⟨q1, q2⟩ := bad_no c1
    have hl := nI_len_a (A.2 a.toNatClampNeg).length (by have := h.len q1; omega)
    rw [if_neg (show ¬ (1 : Int32) = 0 from by decide), if_pos (bad_ix c1), h.size q1]
    have key := fun s hs => x_node35 h q1 w s hs
    rw [← q2] at key
    by_cases c2 : (A.2 a.toNatClampNeg).length = 0
    · rw [if_pos (hl.2.2.2.2.2.1.mpr c2)]
      exact key 0 ⟨fun _ => c2, fun _ => rfl⟩
    · rw [if_neg (fun r => c2 (hl.2.2.2.2.2.1.mp r))]
      exact key 1 ⟨fun r => absurd r (by decide), fun r => absurd r c2⟩
end X8
