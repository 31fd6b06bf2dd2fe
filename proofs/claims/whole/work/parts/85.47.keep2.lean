/-! what each step keeps, on -/
theorem fr0_wf {m : Nat} {A : sA} (w : wf m A) {n : Nat} (hn : n < 7) (hne : A.2 n ≠ []) : wfF (fr0 A n) := by
  have h := (w.2 n hn).2.1
  unfold fr0
  cases hl : A.2 n with
  | nil => exact absurd hl hne
  | cons f t =>
    rw [hl] at h
    exact h f List.mem_cons_self
theorem wfF_to {f : sFr} (h : wfF f) : nod (f 1) := by
  rcases h with ⟨-, h⟩ | ⟨-, h, -⟩ | ⟨-, h, -⟩
  · exact Or.inl h
  · exact Or.inr h
  · exact Or.inr h
theorem k_Fail1 {o : Bool} (A : sA) (n : Nat) : kp o n A (mFail1 A n) := by
  have h : kp o n A (if fr0 A n 0 = 4 then mDrop A else A) := by
    split
    · exact k_Drop (kp.rf n A)
    · exact kp.rf n A
  exact h.tr (k_Pop _ n)
theorem w_Fail1 {n : Nat} {A : sA} (w : wf n A) (hn : n < 7) (hl : A.1 23 n 0 = 0) : wf 7 (mFail1 A n) := by
  unfold mFail1
  split
  · exact w_Pop (w_Drop w) hn hl
  · exact w_Pop w hn hl
theorem k_Fail2 {o : Bool} (A : sA) (n : Nat) (z : Int32) : kp o n A (mFail2 A n z) := by
  unfold mFail2
  split
  · exact ((kp.rf n A).s 30 _ 0 (by decide) (by decide)).tr (k_Choose _ n)
  · exact kp.rf n A
theorem w_Fail2 {n : Nat} {A : sA} (w : wf 7 A) (hn : n < 7) {z : Int32} (hz : nds z) (ha : ¬ A.1 11 n 0 = 0) : wf 7 (mFail2 A n z) := by
  unfold mFail2
  split
  · rename_i h
    have h0 : n ≠ 0 := by
      intro e
      have hp : nod (A.1 14 n 0) ∧ (n = 0 → A.1 14 n 0 = -1) := w.1 14 n 0 (xV_n (by decide) hn)
      obtain ⟨m, hm, rfl⟩ := hz
      exact (nI_a m hm).2.2 (h.symm.trans (hp.2 e))
    refine w_Choose (w.s 30 n _ 0 ⟨by decide, fun _ => rfl⟩ (by decide)) hn h0 ?_
    rw [uA_1, if_neg (by simp)]
    exact ha
  · exact w
theorem k_Fail {o : Bool} (A : sA) (n : Nat) : kp o n A (mFail A n) := by
  unfold mFail
  split
  · exact k_Fail1 A n
  · exact ((k_Fail1 A n).tr (k_Clr _ n _)).tr (k_Fail2 _ n _)
theorem w_Fail {n : Nat} {A : sA} (w : wf n A) (hn : n < 7) (hl : A.1 23 n 0 = 0) (hne : A.2 n ≠ []) (ha : ¬ A.1 11 n 0 = 0) : wf 7 (mFail A n) := by
  unfold mFail
  split
  · exact w_Fail1 w hn hl
  · rename_i h
    exact w_Fail2 (w_Clr (w_Fail1 w hn hl) n _) hn (nod_nds (wfF_to (fr0_wf w hn hne)) h) (((k_Fail1 (o := true) A n).tr (k_Clr _ n _)).alive n ha)
theorem k_Zr {o : Bool} (A : sA) (n : Nat) : kp o n A (mZr A n) := by
  refine kp.many 30 (by decide) (by decide) (fun t i j h => ?_) rfl
  show (if _ then _ else _) = _
  rw [if_neg]
  rintro ⟨h1, h2, -⟩
  exact h h1 h2
theorem w_Zr {m : Nat} {A : sA} (w : wf m A) (n : Nat) : wf m (mZr A n) := by
  refine w.many 30 (by decide) (fun t h => ?_) (fun i j hv => ?_) rfl
  · funext i j
    show (if _ then _ else _) = _
    rw [if_neg]
    rintro ⟨h1, -, -⟩
    exact h h1
  · show W1 30 i j (if _ then _ else _)
    split
    · exact ⟨by decide, fun _ => rfl⟩
    · exact w.1 30 i j hv
theorem k_Vers1 {o : Bool} (A : sA) (n : Nat) (v : Int32) : kp o n A (uA (mZr (uA A 12 n 0 v) n) 15 n 0 255) := (((kp.rf n A).s 12 0 v (by decide) (by decide)).tr (k_Zr _ n)).s 15 0 255 (by decide) (by decide)
theorem w_Vers1 {m : Nat} {A : sA} (w : wf m A) (n : Nat) (v : Int32) : wf m (uA (mZr (uA A 12 n 0 v) n) 15 n 0 255) := (w_Zr (w.s 12 n 0 v trivial (by decide)) n).s 15 n 0 255 (show (255 : Int32) ≤ 255 from by decide) (by decide)
theorem k_Vers {o : Bool} (A : sA) (n : Nat) (v : Int32) : kp o n A (mVers A n v) := by
  unfold mVers
  split
  · exact k_Vers1 A n v
  · exact (((k_Vers1 A n v).s 13 0 255 (by decide) (by decide)).s 14 0 (-1) (by decide) (by decide)).tr (k_Reset _ n)
theorem w_Vers {m : Nat} {A : sA} (w : wf m A) {n : Nat} (h0 : n ≠ 0) (v : Int32) : wf m (mVers A n v) := by
  unfold mVers
  split
  · exact w_Vers1 w n v
  · exact w_Reset (((w_Vers1 w n v).s 13 n 0 255 ⟨by decide, fun e => absurd e h0⟩ (by decide)).s 14 n 0 (-1) ⟨Or.inl rfl, fun _ => rfl⟩ (by decide)) n
theorem k_Count {o : Bool} {n : Nat} {A B : sA} (h : kp o n A B) : kp o n A (mCount B n) := h.s 29 0 _ (by decide) (by decide)
theorem w_Count {m : Nat} {A : sA} (w : wf m A) (n : Nat) : wf m (mCount A n) := w.s 29 n 0 _ trivial (by decide)
theorem k_Adv1 {o : Bool} (A : sA) (n x : Nat) : kp o n A (mAdv1 A n x) := by
  unfold mAdv1
  split
  · exact k_Vers A n _
  · exact kp.rf n A
theorem w_Adv1 {m : Nat} {A : sA} (w : wf m A) (n x : Nat) : wf m (mAdv1 A n x) := by
  unfold mAdv1
  split
  · rename_i h
    exact w_Vers w h.2 _
  · exact w
theorem k_Adv2 {o : Bool} (A : sA) (n x : Nat) : kp o n A (mAdv2 A n x) := (k_Adv1 A n x).s 30 x _ (by decide) (by decide)
theorem w_Adv2 {m : Nat} {A : sA} (w : wf m A) {n x : Nat} (hx : x < 7) (hnx : n ≠ x) : wf m (mAdv2 A n x) := by
  have w1 := w_Adv1 w n x
  have hr : (1 ≤ (mAdv1 A n x).1 13 x 0 ∧ (mAdv1 A n x).1 13 x 0 ≤ 255) ∧ _ := w1.1 13 x 0 (xV_n (by decide) hx)
  exact w1.s 30 n x _ ⟨⟨Int32.le_trans (by decide) hr.1.1, hr.1.2⟩, fun e => absurd e hnx⟩ (by decide)
theorem k_Adv3 {o : Bool} (A : sA) (n : Nat) : kp o n A (mAdv3 A n) := by
  unfold mAdv3
  split
  · exact k_Count (kp.rf n A)
  · split
    · exact k_Count (k_Choose A n)
    · exact k_Choose A n
theorem w_Adv3 {n : Nat} {A : sA} (w : wf 7 A) (hn : n < 7) (ha : ¬ A.1 11 n 0 = 0) : wf 7 (mAdv3 A n) := by
  unfold mAdv3
  split
  · exact w_Count w n
  · rename_i h0
    split
    · exact w_Count (w_Choose w hn h0 ha) n
    · exact w_Choose w hn h0 ha
theorem k_Advert {o : Bool} (A : sA) (n x : Nat) : kp o n A (mAdvert A n x) := by
  unfold mAdvert
  split
  · exact k_Reset A n
  · exact (k_Adv2 A n x).tr (k_Adv3 _ n)
theorem w_Advert {n x : Nat} {A : sA} (w : wf 7 A) (hn : n < 7) (hx : x < 7) (hnx : n ≠ x) (ha : ¬ A.1 11 n 0 = 0) : wf 7 (mAdvert A n x) := by
  unfold mAdvert
  split
  · exact w_Reset w n
  · exact w_Adv3 (w_Adv2 w hx hnx) hn ((k_Adv2 (o := true) A n x).alive n ha)
theorem sNx_ok {x : Nat} (hx : x < 7) (f : sFr) : nod (sNx x f) := by
  unfold sNx
  split
  · exact Or.inr ⟨x, hx, rfl⟩
  · exact Or.inl rfl
theorem k_Rts {o : Bool} (n x : Nat) (f : sFr) : ∀ (c g : Nat) (A : sA) (ch : Int32), kp o n A (mRts n x f c g A ch).1
  | 0, g, A, ch => kp.rf n A
  | c + 1, g, A, ch => by
    unfold mRts
    split
    · exact (((kp.rf n A).s 32 g _ (by decide) (by decide)).s 31 g _ (by decide) (by decide)).tr (k_Rts n x f c (g + 1) _ _)
    · exact k_Rts n x f c (g + 1) A ch
theorem w_Rts {m n x : Nat} (hx : x < 7) (f : sFr) : ∀ (c g : Nat) (A : sA) (ch : Int32), wf m A → wf m (mRts n x f c g A ch).1
  | 0, g, A, ch, w => w
  | c + 1, g, A, ch, w => by
    unfold mRts
    split
    · rename_i h
      exact w_Rts hx f c (g + 1) _ _ ((w.s 32 n g _ trivial (by decide)).s 31 n g _ ⟨sNx_ok hx f, fun e => absurd e.symm h.2.1⟩ (by decide))
    · exact w_Rts hx f c (g + 1) A ch w
theorem k_RecA {o : Bool} (A : sA) (n x : Nat) (f : sFr) : kp o n A (mRecA A n x f) := by
  unfold mRecA
  split
  · exact k_Rts n x f 7 0 A 0
  · exact (k_Rts n x f 7 0 A 0).tr (k_Ann _ n _ _ _)
theorem w_RecA {n x : Nat} {A : sA} (w : wf 7 A) (hn : n < 7) (hx : x < 7) {f : sFr} (hf : bl (f 4)) (ha : ¬ A.1 11 n 0 = 0) : wf 7 (mRecA A n x f) := by
  have w1 := w_Rts (m := 7) (n := n) hx f 7 0 A 0 w
  have k1 := k_Rts (o := true) n x f 7 0 A 0
  unfold mRecA
  split
  · exact w1
  · rename_i h
    have hp : nod ((mRts n x f 7 0 A 0).1.1 14 n 0) ∧ _ := w1.1 14 n 0 (xV_n (by decide) hn)
    exact w_Ann w1 hn (nod_nds hp.1 (fun e => h (Or.inr e))) hf (k1.alive n ha)
theorem frV_wf {to s g h v d e : Int32} (h1 : nds to) (h2 : nds g) (h3 : 1 ≤ h) (h4 : bl d) (h5 : bl e) : wfF (frV to s g h v d e) := Or.inr (Or.inr ⟨rfl, h1, h2, h3, h4, h5⟩)
theorem sTo_ok {m : Nat} {A : sA} (w : wf m A) {n : Nat} (hn : n < 7) {g : Int32} (hg : nds g) : nod (sTo A n g) := by
  have hp : nod (A.1 14 n 0) ∧ _ := w.1 14 n 0 (xV_n (by decide) hn)
  have hx : nod (A.1 31 n g.toNatClampNeg) ∧ _ := w.1 31 n g.toNatClampNeg (xV_a (by decide) hn (nds_ix hg).1)
  unfold sTo
  split
  · exact hp.1
  · exact hx.1
theorem k_Send {o : Bool} (A : sA) (n : Nat) (s g h v e : Int32) : kp o n A (mSend A n s g h v e) := by
  unfold mSend
  split
  · exact k_Drop (kp.rf n A)
  · exact k_Put A n _
theorem bl_if {c : Prop} [Decidable c] : bl (if c then 0 else 1) := by
  split
  · exact Or.inl rfl
  · exact Or.inr rfl
theorem bl_if' {c : Prop} [Decidable c] : bl (if c then 1 else 0) := by
  split
  · exact Or.inr rfl
  · exact Or.inl rfl
theorem w_Send {n : Nat} {A : sA} (w : wf 7 A) (hn : n < 7) {s g h v e : Int32} (hg : nds g) (hh : 1 ≤ h) (he : bl e) (ha : ¬ A.1 11 n 0 = 0) : wf 7 (mSend A n s g h v e) := by
  unfold mSend
  split
  · exact w_Drop w
  · rename_i q
    exact w_Put w hn (frV_wf (nod_nds (sTo_ok w hn hg) (fun e => q (Or.inl e))) hg hh bl_if he) ha
theorem k_Deliver (A : sA) (n : Nat) (f : sFr) : kp false n A (mDeliver A n f) := (((kp.rf (o := false) n A).s 34 _ _ (by decide) (by decide)).set 10 0 _ (by decide)).m 7 _ (by decide) (by decide)
theorem w_Deliver {m : Nat} {A : sA} (w : wf m A) (n : Nat) (f : sFr) : wf m (mDeliver A n f) := ((w.s 34 n _ _ trivial (by decide)).s 10 n 0 _ trivial (by decide)).s 7 0 0 _ trivial (by decide)
theorem i_dec {h : Int32} (q : ¬ h ≤ 1) : 1 ≤ h - 1 := by
  have q := Int32.not_le.mp q
  rw [i_lt] at q
  have z1 : (1 : Int32).toInt = 1 := by decide
  have hb := Int32.toInt_lt h
  rw [i_le, Int32.toInt_sub, Int.bmod_eq_of_le (by omega) (by omega)]
  omega
theorem k_RecV (A : sA) (n x : Nat) (f : sFr) : kp false n A (mRecV A n x f) := by
  unfold mRecV
  split
  · exact (k_Drop (kp.rf n A)).tr (k_Reset _ n)
  · split
    · exact k_Deliver A n f
    · split
      · exact k_Drop (kp.rf n A)
      · exact k_Send A n _ _ _ _ _
theorem w_RecV {n x : Nat} {A : sA} (w : wf 7 A) (hn : n < 7) {f : sFr} (hg : nds (f 4)) (ha : ¬ A.1 11 n 0 = 0) : wf 7 (mRecV A n x f) := by
  unfold mRecV
  split
  · exact w_Reset (w_Drop w) n
  · split
    · exact w_Deliver w n f
    · split
      · exact w_Drop w
      · rename_i q
        exact w_Send w hn hg (i_dec q) bl_if' ha
theorem k_Own (A : sA) (n x : Nat) (f : sFr) : kp false n A (mOwn A n x f) := by
  have h1 := (kp.rf (o := false) n A).set 22 0 (nX x) (by decide)
  have h2 := h1.s 33 x (f 2) (by decide) (by decide)
  unfold mOwn
  split
  · exact h1
  · split
    · exact h2.tr (k_RecA _ n x f)
    · exact h2.tr (k_RecV _ n x f)
theorem w_Own {n x : Nat} {A : sA} (w : wf 7 A) (hn : n < 7) (hx : x < 7) {f : sFr} (hf : wfF f) (hto : nds (f 1)) (ha : ¬ A.1 11 n 0 = 0) : wf 7 (mOwn A n x f) := by
  have w1 : wf 7 (uA A 22 n 0 (nX x)) := w.owes _ (Or.inr ⟨x, hx, rfl⟩) (fun e => absurd e ha)
  have w2 := w1.s 33 n x (f 2) trivial (by decide)
  have ha2 : ¬ (uA (uA A 22 n 0 (nX x)) 33 n x (f 2)).1 11 n 0 = 0 := ha
  unfold mOwn
  split
  · exact w1
  · rename_i h1
    rcases hf with ⟨-, h⟩ | ⟨h, -, hb⟩ | ⟨h, -, hg, -, -, -⟩
    · obtain ⟨m, hm, e⟩ := hto
      rw [e] at h
      exact absurd h (nI_a m hm).2.2
    · rw [if_pos h]
      exact w_RecA w2 hn hx hb ha2
    · rw [if_neg (by rw [h]; decide)]
      exact w_RecV w2 hn hg ha2
theorem k_Ack (A : sA) (n x : Nat) : kp false n A (mAck A n x) := by
  unfold mAck
  split
  · exact ((kp.rf (o := false) n A).set 23 0 0 (by decide)).tr (k_Pop _ n)
  · exact kp.rf n A
theorem w_Ack {n : Nat} {A : sA} (w : wf 7 A) (hn : n < 7) (x : Nat) : wf 7 (mAck A n x) := by
  unfold mAck
  split
  · have w1 := w.listens (n := n) 0 (Or.inl rfl) (fun _ => rfl) (fun h => absurd rfl h)
    exact w_Pop w1.weak hn (by rw [uA_1, if_pos ⟨rfl, rfl, rfl⟩])
  · exact w
theorem k_Sol {o : Bool} (A : sA) (n : Nat) : kp o n A (mSol A n) := by
  unfold mSol
  split
  · exact k_Reset A n
  · exact kp.rf n A
theorem w_Sol {m : Nat} {A : sA} (w : wf m A) (n : Nat) : wf m (mSol A n) := by
  unfold mSol
  split
  · exact w_Reset w n
  · exact w
theorem k_Tk (A : sA) (n x : Nat) : kp false n A (mTk A n x) := by
  unfold mTk
  split
  · exact k_Ack A n x
  · split
    · exact k_Sol A n
    · split
      · exact k_Advert A n x
      · split
        · exact k_Own A n x _
        · exact kp.rf n A
theorem w_Tk {n x : Nat} {A : sA} (w : wf 7 A) (hn : n < 7) (hx : x < 7) (hnx : n ≠ x) (ha : ¬ A.1 11 n 0 = 0) (hq : ¬ A.1 19 x 0 = 1 → A.2 x ≠ []) : wf 7 (mTk A n x) := by
  unfold mTk
  split
  · exact w_Ack w hn x
  · rename_i h1
    split
    · exact w_Sol w n
    · split
      · exact w_Advert w hn hx hnx ha
      · split
        · rename_i h4
          exact w_Own w hn hx (fr0_wf w hx (hq h1)) ⟨n, hn, h4⟩ ha
        · exact w
