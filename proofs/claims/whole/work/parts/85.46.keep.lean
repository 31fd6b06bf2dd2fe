/-! what each step keeps -/
theorem W1_int {i : Nat} {v : Int32} (h : ivl v) : W1 26 i 0 v := h
theorem k_draw {o : Bool} {n : Nat} {A B : sA} (h : kp o n A B) : kp o n A (dA B) := h.m 2 _ (by decide) (by decide)
theorem w_draw {m : Nat} {A : sA} (w : wf m A) : wf m (dA A) := w.s 2 0 0 _ trivial (by decide)
theorem k_Begin {o : Bool} (A : sA) (n : Nat) (iv : Int32) : kp o n A (mBegin A n iv) := (k_draw ((((kp.rf n A).s 26 0 iv (by decide) (by decide)).s 27 0 0 (by decide) (by decide)).s 29 0 0 (by decide) (by decide))).s 28 0 _ (by decide) (by decide)
theorem w_Begin {m : Nat} {A : sA} (w : wf m A) (n : Nat) {iv : Int32} (h : ivl iv) : wf m (mBegin A n iv) := (w_draw (((w.s 26 n 0 iv h (by decide)).s 27 n 0 0 trivial (by decide)).s 29 n 0 0 trivial (by decide))).s 28 n 0 _ trivial (by decide)
theorem k_Reset {o : Bool} (A : sA) (n : Nat) : kp o n A (mReset A n) := by
  unfold mReset
  split
  · exact kp.rf n A
  · split
    · exact kp.rf n A
    · exact k_Begin A n 4
theorem w_Reset {m : Nat} {A : sA} (w : wf m A) (n : Nat) : wf m (mReset A n) := by
  unfold mReset
  split
  · exact w
  · split
    · exact w
    · exact w_Begin w n (Or.inl rfl)
theorem k_First {o : Bool} (A : sA) (n : Nat) : kp o n A (mFirst A n) := (((k_draw (kp.rf n A)).s 17 0 0 (by decide) (by decide)).s 18 0 0 (by decide) (by decide)).s 16 0 _ (by decide) (by decide)
theorem w_First {n : Nat} {A : sA} (w : wf n A) : wf 7 (mFirst A n) := (((w_draw w).busy 0 (by decide)).s 18 n 0 0 trivial (by decide)).s 16 n 0 _ trivial (by decide)
theorem First_2 (A : sA) (n : Nat) : (mFirst A n).2 = A.2 := rfl
theorem k_qP {o : Bool} (A : sA) (n : Nat) (f : sFr) : kp o n A (qP A n f) := ((kp.rf n A).m 4 _ (by decide) (by decide)).q _
theorem fSr_wf {f : sFr} (h : wfF f) (s : Int32) : wfF (fSr f s) := h
theorem w_qP {m n : Nat} {A : sA} (w : wf m A) (hn : n < 7) (hm : m = 7 ∨ m = n) {f : sFr} (hf : wfF f) (ha : ¬ A.1 11 n 0 = 0) (hl : (A.2 n).length < 4) : wf n (qP A n f) := by
  refine wf.q (m := m) (w.s 4 0 0 _ trivial (by decide)) _ ?_ ?_ ?_ ?_ hm
  · rw [List.length_append]
    simp
    omega
  · intro g hg
    rcases List.mem_append.mp hg with h | h
    · exact (w.2 n hn).2.1 g h
    · simp only [List.mem_singleton] at h
      subst h
      exact fSr_wf hf _
  · intro h
    rw [uA_ne (by decide)] at h
    exact absurd h ha
  · intro _ h
    simp at h
theorem k_Put {o : Bool} (A : sA) (n : Nat) (f : sFr) : kp o n A (mPut A n f) := by
  unfold mPut
  split
  · exact kp.rf n A
  · split
    · exact (k_qP A n f).tr (k_First _ n)
    · exact k_qP A n f
theorem w_Put {n : Nat} {A : sA} (w : wf 7 A) (hn : n < 7) {f : sFr} (hf : wfF f) (ha : ¬ A.1 11 n 0 = 0) : wf 7 (mPut A n f) := by
  unfold mPut
  split
  · exact w
  · rename_i h1
    split
    · exact w_First (w_qP w hn (Or.inl rfl) hf ha (by omega))
    · rename_i h2
      have h3 := w_qP w hn (Or.inl rfl) hf ha (by omega)
      refine ⟨h3.1, fun i hi => ?_⟩
      obtain ⟨a1, a2, a3, a4, a5⟩ := h3.2 i hi
      refine ⟨a1, a2, a3, a4, fun _ hne => ?_⟩
      by_cases hin : i = n
      · subst hin
        have h5 := (w.2 i hi).2.2.2.2 (by omega) (by
          intro e
          rw [e] at h2
          exact h2 rfl)
        exact h5
      · exact a5 hin hne
theorem frK_wf {k : Int32} (h : k = 1 ∨ k = 2) : wfF (frK k) := Or.inl ⟨h, rfl⟩
theorem k_Once {o : Bool} (A : sA) (n : Nat) (k : Int32) : kp o n A (mOnce A n k) := by
  unfold mOnce
  split
  · exact kp.rf n A
  · exact k_Put A n _
theorem w_Once {n : Nat} {A : sA} (w : wf 7 A) (hn : n < 7) {k : Int32} (hk : k = 1 ∨ k = 2) (ha : ¬ A.1 11 n 0 = 0) : wf 7 (mOnce A n k) := by
  unfold mOnce
  split
  · exact w
  · exact w_Put w hn (frK_wf hk) ha
theorem k_Pop {o : Bool} (A : sA) (n : Nat) : kp o n A (mPop A n) := by
  unfold mPop
  split
  · exact (kp.rf n A).q _
  · exact ((kp.rf n A).q _).tr (k_First _ n)
theorem w_Pop {n : Nat} {A : sA} (w : wf n A) (hn : n < 7) (hl : A.1 23 n 0 = 0) : wf 7 (mPop A n) := by
  have h1 : wf n (uQ A n (A.2 n).tail) := by
    refine wf.q (m := n) w _ ?_ ?_ ?_ ?_ (Or.inr rfl)
    · have := (w.2 n hn).1
      rw [List.length_tail]
      omega
    · intro f hf
      exact (w.2 n hn).2.1 f (List.mem_of_mem_tail hf)
    · intro h
      rw [((w.2 n hn).2.2.1 h).1]
      rfl
    · intro h
      exact absurd hl h
  unfold mPop
  split
  · rename_i h2
    refine h1.nil ?_
    rw [uQ_2, if_pos rfl]
    exact List.length_eq_zero_iff.mp h2
  · exact w_First h1
theorem k_Drop {o : Bool} {n : Nat} {A B : sA} (h : kp o n A B) : kp o n A (mDrop B) := h.m 6 _ (by decide) (by decide)
theorem w_Drop {m : Nat} {A : sA} (w : wf m A) : wf m (mDrop A) := w.s 6 0 0 _ trivial (by decide)
theorem k_Clr {o : Bool} (A : sA) (n : Nat) (z : Int32) : kp o n A (mClr A n z) := by
  refine kp.many 31 (by decide) (by decide) (fun t i j h => ?_) rfl
  show (if _ then _ else _) = _
  rw [if_neg]
  rintro ⟨h1, h2, -, -⟩
  exact h h1 h2
theorem w_Clr {m : Nat} {A : sA} (w : wf m A) (n : Nat) (z : Int32) : wf m (mClr A n z) := by
  refine w.many 31 (by decide) (fun t h => ?_) (fun i j hv => ?_) rfl
  · funext i j
    show (if _ then _ else _) = _
    rw [if_neg]
    rintro ⟨h1, -, -, -⟩
    exact h h1
  · show W1 31 i j (if _ then _ else _)
    split
    · exact ⟨Or.inl rfl, fun _ => rfl⟩
    · exact w.1 31 i j hv
theorem frA_wf {A : sA} {n : Nat} {goals to wd : Int32} (h1 : nds to) (h2 : bl wd) : wfF (frA A n goals to wd) := Or.inr (Or.inl ⟨rfl, h1, h2⟩)
theorem k_Ann {o : Bool} (A : sA) (n : Nat) (goals to wd : Int32) : kp o n A (mAnn A n goals to wd) := k_Put A n _
theorem w_Ann {n : Nat} {A : sA} (w : wf 7 A) (hn : n < 7) {goals to wd : Int32} (h1 : nds to) (h2 : bl wd) (ha : ¬ A.1 11 n 0 = 0) : wf 7 (mAnn A n goals to wd) := w_Put w hn (frA_wf h1 h2) ha
theorem k_AnnO {o : Bool} (A : sA) (n : Nat) (to : Int32) : kp o n A (mAnnO A n to) := ((kp.rf n A).s 32 n _ (by decide) (by decide)).tr (k_Ann _ n _ _ _)
theorem w_AnnO {n : Nat} {A : sA} (w : wf 7 A) (hn : n < 7) {to : Int32} (h1 : nds to) (ha : ¬ A.1 11 n 0 = 0) : wf 7 (mAnnO A n to) := by
  refine w_Ann (w.s 32 n n _ trivial (by decide)) hn h1 (Or.inl rfl) ?_
  show ¬ (uA A 32 n n _).1 11 n 0 = 0
  rw [uA_ne (by decide)]
  exact ha
/-! numbers of 32 bits, small ones -/
theorem i_le {a b : Int32} : a ≤ b ↔ a.toInt ≤ b.toInt := Int32.le_iff_toInt_le
theorem i_lt {a b : Int32} : a < b ↔ a.toInt < b.toInt := Int32.lt_iff_toInt_lt
theorem i_add {a b : Int32} (h1 : -1000000000 ≤ a.toInt) (h2 : a.toInt ≤ 1000000000) (h3 : -1000000000 ≤ b.toInt) (h4 : b.toInt ≤ 1000000000) : (a + b).toInt = a.toInt + b.toInt := by
  rw [Int32.toInt_add]
  apply Int.bmod_eq_of_le <;> omega
theorem on_inj {a b : Nat} (ha : a < 2147483648) (hb : b < 2147483648) (h : Int32.ofNat a = Int32.ofNat b) : a = b := by
  have h1 := congrArg Int32.toInt h
  rw [Int32.toInt_ofNat_of_lt ha, Int32.toInt_ofNat_of_lt hb] at h1
  omega
theorem on_ix {a : Nat} (ha : a < 2147483648) : (Int32.ofNat a).toNatClampNeg = a := by
  show (Int32.ofNat a).toInt.toNat = a
  rw [Int32.toInt_ofNat_of_lt ha]
  omega
theorem on_rem8 {b : Nat} (h : b < 2000000001) : (Int32.ofNat b - Int32.ofNat b / 8 * 8).toNatClampNeg = b % 8 := by
  show (Int32.ofNat b - Int32.ofNat b / 8 * 8).toInt.toNat = b % 8
  have e0 : (Int32.ofNat b).toInt = b := Int32.toInt_ofNat_of_lt (by omega)
  have e8 : (8 : Int32).toInt = 8 := by decide
  have e1 : (Int32.ofNat b / 8).toInt = ((b / 8 : Nat) : Int) := by
    rw [Int32.toInt_div_of_ne_right _ _ (by decide), e0, e8]
    exact (Int.ofNat_tdiv b 8).symm
  have e2 : (Int32.ofNat b / 8 * 8).toInt = ((b / 8 * 8 : Nat) : Int) := by
    rw [Int32.toInt_mul, e1, e8, Int.bmod_eq_of_le] <;> omega
  rw [Int32.toInt_sub, e0, e2, Int.bmod_eq_of_le] <;> omega
theorem nds_nod {v : Int32} (h : nds v) : nod v := Or.inr h
theorem nod_nds {v : Int32} (h : nod v) (hv : ¬ v = -1) : nds v := h.resolve_left hv
theorem nI_a : ∀ m, m < 7 → (nX m).toNatClampNeg = m ∧ ¬ nX m < 0 ∧ ¬ nX m = -1 := by decide
theorem nI_inj_a : ∀ m, m < 7 → ∀ k, k < 7 → nX m = nX k → m = k := by decide
theorem nds_ix {v : Int32} (h : nds v) : v.toNatClampNeg < 7 ∧ v = nX v.toNatClampNeg := by
  obtain ⟨m, hm, rfl⟩ := h
  rw [(nI_a m hm).1]
  exact ⟨hm, rfl⟩
/-- the best parent is open -/
theorem best_ok (A : sA) (n : Nat) : ∀ (c b : Nat) (best : Int32), b + c = 7 → (best = -1 ∨ (nds best ∧ sOpen A n best.toNatClampNeg = true)) → (mBest A n c b best = -1 ∨ (nds (mBest A n c b best) ∧ sOpen A n (mBest A n c b best).toNatClampNeg = true))
  | 0, b, best, _, h => h
  | c + 1, b, best, hb, h => by
    unfold mBest
    refine best_ok A n c (b + 1) _ (by omega) ?_
    split
    · rename_i h1
      refine Or.inr ⟨⟨b, by omega, rfl⟩, ?_⟩
      rw [(nI_a b (by omega)).1]
      exact (Bool.and_eq_true_iff.mp h1).1
    · exact h
theorem sBP_ok (A : sA) (n : Nat) : sBP A n = -1 ∨ (nds (sBP A n) ∧ sOpen A n (sBP A n).toNatClampNeg = true) := best_ok A n 7 0 (-1) (by omega) (Or.inl rfl)
theorem sNone_f {A : sA} {n : Nat} (h : ¬ sNone A n = true) : ¬ sBP A n = -1 ∧ sSR A n ≤ 254 := by
  unfold sNone at h
  rw [Bool.or_eq_true_iff, decide_eq_true_eq, decide_eq_true_eq] at h
  have h1 : ¬ 254 < sSR A n := fun q => h (Or.inl q)
  refine ⟨fun e => h1 ?_, Int32.not_lt.mp h1⟩
  unfold sSR
  rw [if_pos e]
  decide
theorem sP_ok (A : sA) (n : Nat) : nod (sP' A n) := by
  unfold sP'
  split
  · exact Or.inl rfl
  · rename_i h
    rcases sBP_ok A n with h1 | h1
    · exact absurd h1 (sNone_f h).1
    · exact Or.inr h1.1
theorem sR_ok {m : Nat} {A : sA} (w : wf m A) {n : Nat} (hn : n < 7) : 1 ≤ sR A n ∧ sR A n ≤ 255 := by
  unfold sR
  split
  · decide
  · rename_i h
    obtain ⟨h1, h2⟩ := sNone_f h
    refine ⟨?_, Int32.le_trans h2 (by decide)⟩
    rcases sBP_ok A n with e | ⟨e1, e2⟩
    · exact absurd e h1
    · unfold sSR
      rw [if_neg h1]
      have hix := (nds_ix e1).1
      generalize (sBP A n).toNatClampNeg = b at hix e2 ⊢
      have hr : (0 ≤ A.1 30 n b ∧ A.1 30 n b ≤ 255) ∧ _ := w.1 30 n b (xV_a (by decide) hn hix)
      have hc : (0 ≤ A.1 35 n b ∧ A.1 35 n b ≤ 9) ∧ _ := w.1 35 n b (xV_a (by decide) hn hix)
      unfold sOpen at e2
      have hpos : 0 < A.1 35 n b := by
        have := (Bool.and_eq_true_iff.mp e2).1
        exact of_decide_eq_true this
      unfold sSum
      have r1 := i_le.mp hr.1.1
      have r2 := i_le.mp hr.1.2
      have c1 := i_lt.mp hpos
      have c2 := i_le.mp hc.1.2
      have z0 : (0 : Int32).toInt = 0 := by decide
      have z1 : (1 : Int32).toInt = 1 := by decide
      have z9 : (9 : Int32).toInt = 9 := by decide
      have z255 : (255 : Int32).toInt = 255 := by decide
      rw [i_le, i_add (by omega) (by omega) (by omega) (by omega)]
      omega
theorem i_min {a b : Int32} (h : b ≤ 255) : (if a < b then a else b) ≤ 255 := by
  split
  · rename_i q
    exact Int32.le_trans (Int32.le_of_lt q) h
  · exact h
theorem k_Ch1 {o : Bool} (A : sA) (n : Nat) : kp o n A (mCh1 A n) := (((kp.rf n A).s 13 0 _ (by decide) (by decide)).s 14 0 _ (by decide) (by decide)).s 15 0 _ (by decide) (by decide)
theorem w_Ch1 {m : Nat} {A : sA} (w : wf m A) {n : Nat} (hn : n < 7) (h0 : n ≠ 0) : wf m (mCh1 A n) := by
  have hl : A.1 15 n 0 ≤ 255 := w.1 15 n 0 (xV_n (by decide) hn)
  exact ((w.s 13 n 0 _ ⟨sR_ok w hn, fun e => absurd e h0⟩ (by decide)).s 14 n 0 _ ⟨sP_ok A n, fun e => absurd e h0⟩ (by decide)).s 15 n 0 _ (i_min hl) (by decide)
theorem k_Ch2 {o : Bool} (A : sA) (n : Nat) : kp o n A (mCh2 A n) := by
  unfold mCh2
  split
  · exact k_Ch1 A n
  · exact (k_Ch1 A n).s 25 0 _ (by decide) (by decide)
theorem w_Ch2 {m : Nat} {A : sA} (w : wf m A) {n : Nat} (hn : n < 7) (h0 : n ≠ 0) : wf m (mCh2 A n) := by
  unfold mCh2
  split
  · exact w_Ch1 w hn h0
  · exact (w_Ch1 w hn h0).s 25 n 0 1 ⟨Or.inr rfl, fun _ => rfl⟩ (by decide)
theorem k_Ch3 {o : Bool} (A : sA) (n : Nat) : kp o n A (mCh3 A n) := by
  unfold mCh3
  split
  · exact k_Ch2 A n
  · exact (k_Ch2 A n).tr (k_Reset _ n)
theorem w_Ch3 {m : Nat} {A : sA} (w : wf m A) {n : Nat} (hn : n < 7) (h0 : n ≠ 0) : wf m (mCh3 A n) := by
  unfold mCh3
  split
  · exact w_Ch2 w hn h0
  · exact w_Reset (w_Ch2 w hn h0) n
theorem kp.alive {o : Bool} {n : Nat} {A B : sA} (h : kp o n A B) (i : Nat) (ha : ¬ A.1 11 i 0 = 0) : ¬ B.1 11 i 0 = 0 := by
  rw [h.1 11 i 0 (Or.inl rfl)]
  exact ha
theorem k_Ch4 {o : Bool} (A : sA) (n : Nat) : kp o n A (mCh4 A n) := by
  unfold mCh4
  split
  · exact k_Ch3 A n
  · exact (k_Ch3 A n).tr (k_Ann _ n _ _ _)
theorem w_Ch4 {A : sA} (w : wf 7 A) {n : Nat} (hn : n < 7) (h0 : n ≠ 0) (ha : ¬ A.1 11 n 0 = 0) : wf 7 (mCh4 A n) := by
  unfold mCh4
  split
  · exact w_Ch3 w hn h0
  · rename_i h
    have hp : nod (A.1 14 n 0) ∧ _ := w.1 14 n 0 (xV_n (by decide) hn)
    exact w_Ann (w_Ch3 w hn h0) hn (nod_nds hp.1 (fun e => h (Or.inr e))) (Or.inr rfl) ((k_Ch3 (o := true) A n).alive n ha)
theorem k_Choose {o : Bool} (A : sA) (n : Nat) : kp o n A (mChoose A n) := by
  unfold mChoose
  split
  · exact k_Ch4 A n
  · exact (k_Ch4 A n).tr (k_AnnO _ n _)
theorem w_Choose {A : sA} (w : wf 7 A) {n : Nat} (hn : n < 7) (h0 : n ≠ 0) (ha : ¬ A.1 11 n 0 = 0) : wf 7 (mChoose A n) := by
  unfold mChoose
  split
  · exact w_Ch4 w hn h0 ha
  · rename_i h
    exact w_AnnO (w_Ch4 w hn h0 ha) hn (nod_nds (sP_ok A n) (fun e => h (Or.inr e))) ((k_Ch4 (o := true) A n).alive n ha)
