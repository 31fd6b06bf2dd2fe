/-! the class does what the mathematics says: frames taken -/
section X5
variable {σ0 σ : tm_S} {A : sA} {n m x q : Nat} {f : sFr}
theorem FX.wr {τ : tm_S} (h : FX τ q f) {a k : Nat} {v : Int32} (h1 : q ≠ a) (h2 : q + 1 ≠ a) : FX (sI τ a k v) q f := h.congr (sI_ne1 h1) (sI_ne1 h2)
/-- the cell of a frame -/
def fq (q : Nat) : Prop := ∃ i m, i < 7 ∧ m < 4 ∧ q = 11 + 17 * i + 3 + 2 * m
theorem fq_ne (h : fq q) {n c : Nat} (hc : c = 0 ∨ c = 1 ∨ (11 ≤ c ∧ c ≤ 16)) : q ≠ 11 + 17 * n + c ∧ q + 1 ≠ 11 + 17 * n + c := by
  obtain ⟨i, m, hi, hm, rfl⟩ := h
  have hm' : m = 0 ∨ m = 1 ∨ m = 2 ∨ m = 3 := by omega
  rcases hm' with rfl | rfl | rfl | rfl <;> omega
theorem RX.fqz (h : RX σ0 σ A) (hn : n < 7) : fq (σ.2 (11 + 17 * n + 1 + 1) 0) := by
  obtain ⟨m, hm, e⟩ := (h.2.1 n hn).2.2.1 0 (by omega)
  exact ⟨n, m, hn, hm, e⟩
theorem x_route (h : RX σ0 σ A) (hn : n < 7) {g : Nat} (hg : g < 7) (hF : FX σ q f) (hk : f 0 = 3) : (¬ (f (10 + g) < A.1 32 n g) ∧ ¬ (¬ f 4 = 0 ∧ ¬ A.1 31 n g = nX x) → ∃ σ', f_X_changeRoute σ (11 + 17 * n) (nX g) (nX x) q = some (if f (10 + g) = A.1 32 n g ∧ sNx x f = A.1 31 n g then 0 else 1, σ') ∧ RX σ0 σ' (mRt A n x g f) ∧ σ' = sI (sI σ (11 + 17 * n + 14) g (f (10 + g))) (11 + 17 * n + 13) g (sNx x f)) ∧ (¬ (¬ (f (10 + g) < A.1 32 n g) ∧ ¬ (¬ f 4 = 0 ∧ ¬ A.1 31 n g = nX x)) → f_X_changeRoute σ (11 + 17 * n) (nX g) (nX x) q = some (0, σ)) := by
  obtain ⟨f3, f4, f5⟩ := hF.2.2.2.1 hk
  obtain ⟨-, -, b3, b4⟩ := lp_a g hg
  have l38 : f_X_changeRoute_L38 σ (11 + 17 * n) (nX g) (nX x) q (f (10 + g)) = some (if f (10 + g) = A.1 32 n g ∧ sNx x f = A.1 31 n g then 0 else 1, sI (sI σ (11 + 17 * n + 14) g (f (10 + g))) (11 + 17 * n + 13) g (sNx x f)) := by
    have l50 : f_X_changeRoute_L50 σ (11 + 17 * n) (nX g) (f (10 + g)) (sNx x f) = some (if f (10 + g) = A.1 32 n g ∧ sNx x f = A.1 31 n g then 0 else 1, sI (sI σ (11 + 17 * n + 14) g (f (10 + g))) (11 + 17 * n + 13) g (sNx x f)) := by
      unfold f_X_changeRoute_L50 f_X_changeRoute_L74 f_X_changeRoute_L79
      simp only [tm_w, if_pos b4]
      rw [b3, gx_numbers h hn hg, gx_nexts h hn hg]
      by_cases c1 : f (10 + g) = A.1 32 n g
      · by_cases c2 : sNx x f = A.1 31 n g
        · simp [c1, c2]
        · simp [c1, c2]
      · simp [c1]
    unfold f_X_changeRoute_L38
    rw [f4]
    unfold sNx at l50 ⊢
    by_cases c : f 4 = 0
    · rw [if_pos c] at l50 ⊢
      rw [if_pos c]
      exact l50
    · rw [if_neg c] at l50 ⊢
      rw [if_neg c]
      exact l50
  unfold f_X_changeRoute f_X_changeRoute_L36
  simp only [if_pos b4]
  rw [b3, f5 g hg, f4, gx_numbers h hn hg, gx_nexts h hn hg, l38]
  constructor
  · rintro ⟨c1, c2⟩
    refine ⟨_, ?_, sx_nexts (sx_numbers h hn hg _) hn hg _, rfl⟩
    rw [if_neg c1]
    by_cases c : f 4 = 0
    · rw [if_pos c]
    · rw [if_neg c]
      by_cases c3 : A.1 31 n g = nX x
      · rw [if_pos c3]
      · exact absurd ⟨c, c3⟩ c2
  · intro hc
    by_cases c1 : f (10 + g) < A.1 32 n g
    · rw [if_pos c1]
    · rw [if_neg c1]
      by_cases c : f 4 = 0
      · exact absurd ⟨c1, fun r => r.1 c⟩ hc
      · rw [if_neg c]
        by_cases c3 : A.1 31 n g = nX x
        · exact absurd ⟨c1, fun r => r.2 c3⟩ hc
        · rw [if_neg c3]
theorem nI_eq_iff {a b : Nat} (ha : a < 7) (hb : b < 7) : nX a = nX b ↔ a = b := ⟨fun e => nI_inj_a a ha b hb e, fun e => by rw [e]⟩
theorem Rts_y {c g : Nat} {B : sA} {ch : Int32} (hc : (f 3 >>> (nX g &&& 31)) &&& 1 = 1 ∧ ¬ g = n ∧ ¬ (f (10 + g) < B.1 32 n g) ∧ ¬ (¬ f 4 = 0 ∧ ¬ B.1 31 n g = nX x)) : mRts n x f (c + 1) g B ch = mRts n x f c (g + 1) (mRt B n x g f) (if f (10 + g) = B.1 32 n g ∧ sNx x f = B.1 31 n g then ch else ch ||| ((1 : Int32) <<< (nX g &&& 31))) := by rw [mRts, if_pos hc]
theorem Rts_n {c g : Nat} {B : sA} {ch : Int32} (hc : ¬ ((f 3 >>> (nX g &&& 31)) &&& 1 = 1 ∧ ¬ g = n ∧ ¬ (f (10 + g) < B.1 32 n g) ∧ ¬ (¬ f 4 = 0 ∧ ¬ B.1 31 n g = nX x))) : mRts n x f (c + 1) g B ch = mRts n x f c (g + 1) B ch := by rw [mRts, if_neg hc]
theorem x_rts_lp (hn : n < 7) (hx : x < 7) (hq : fq q) (hk : f 0 = 3) (hbl : bl (f 4)) : ∀ (c g k : Nat) (τ : tm_S) (B : sA) (ch : Int32), g + c = 7 → c < k → RX σ0 τ B → B.1 9 n 0 = nX n → FX τ q f → ∃ σ', f_X_receiveAnnounce_L6 k τ (11 + 17 * n) (nX x) q ch (nX g) = some σ' ∧ RX σ0 σ' (if (mRts n x f c g B ch).2 = 0 ∨ (mRts n x f c g B ch).1.1 14 n 0 = -1 then (mRts n x f c g B ch).1 else mAnn (mRts n x f c g B ch).1 n (mRts n x f c g B ch).2 ((mRts n x f c g B ch).1.1 14 n 0) (f 4))
  | 0, g, k + 1, τ, B, ch, hg, _, h, w, hF => by
    obtain rfl : g = 7 := by omega
    obtain ⟨f3, f4, f5⟩ := hF.2.2.2.1 hk
    rw [f_X_receiveAnnounce_L6, if_pos (by decide), gx_parent h hn, f4]
    show ∃ σ', _ = some σ' ∧ RX σ0 σ' (if ch = 0 ∨ B.1 14 n 0 = -1 then B else mAnn B n ch (B.1 14 n 0) (f 4))
    by_cases c1 : ch = 0
    · rw [if_pos c1, if_pos (Or.inl c1)]
      exact ⟨τ, rfl, h⟩
    · by_cases c2 : B.1 14 n 0 = -1
      · rw [if_neg c1, if_pos c2, if_pos (Or.inr c2)]
        exact ⟨τ, rfl, h⟩
      · rw [if_neg c1, if_neg c2, if_neg (fun r => r.elim c1 c2)]
        obtain ⟨σ', e, h'⟩ := x_ann h hn ch (B.1 14 n 0) (f 4) hbl
        rw [e]
        exact ⟨σ', rfl, h'⟩
  | c + 1, g, k + 1, τ, B, ch, hg, hkk, h, w, hF => by
    have hg7 : g < 7 := by omega
    obtain ⟨a1, a2, a3, a4⟩ := lp_a g hg7
    obtain ⟨f3, f4, f5⟩ := hF.2.2.2.1 hk
    have no := x_rts_lp hn hx hq hk hbl c (g + 1) k τ B ch (by omega) (by omega) h w hF
    rw [f_X_receiveAnnounce_L6, if_neg a1, f3, h.id w hn]
    unfold f_X_receiveAnnounce_L39 f_X_receiveAnnounce_L40 f_X_receiveAnnounce_L67
    rw [a2]
    by_cases c1 : (f 3 >>> (nX g &&& 31)) &&& 1 = 1
    · by_cases c2 : g = n
      · rw [if_pos c1, if_pos (by rw [c2]), if_pos rfl, Rts_n (fun r => r.2.1 c2)]
        exact no
      · rw [if_pos c1, if_neg (fun r => c2 ((nI_eq_iff hg7 hn).mp r)), if_neg (by decide)]
        by_cases c3 : ¬ (f (10 + g) < B.1 32 n g) ∧ ¬ (¬ f 4 = 0 ∧ ¬ B.1 31 n g = nX x)
        · rw [Rts_y ⟨c1, c2, c3⟩]
          obtain ⟨τ', e, h', et⟩ := (x_route h hn hg7 hF hk).1 c3
          have hF' : FX τ' q f := by
            rw [et]
            have n1 := fq_ne hq (n := n) (c := 14) (by omega)
            have n2 := fq_ne hq (n := n) (c := 13) (by omega)
            exact (hF.wr n1.1 n1.2).wr n2.1 n2.2
          have w' : (mRt B n x g f).1 9 n 0 = nX n := by
            unfold mRt
            rw [uA_ne (by decide), uA_ne (by decide)]
            exact w
          rw [e]
          simp only [Option.bind_some]
          by_cases c4 : f (10 + g) = B.1 32 n g ∧ sNx x f = B.1 31 n g
          · simp only [if_pos c4]
            rw [if_pos trivial]
            exact x_rts_lp hn hx hq hk hbl c (g + 1) k τ' _ ch (by omega) (by omega) h' w' hF'
          · simp only [if_neg c4]
            rw [if_neg (by decide)]
            exact x_rts_lp hn hx hq hk hbl c (g + 1) k τ' _ _ (by omega) (by omega) h' w' hF'
        · rw [Rts_n (fun r => c3 r.2.2), (x_route h hn hg7 hF hk).2 c3]
          simp only [Option.bind_some]
          rw [if_pos trivial]
          exact no
    · rw [if_neg c1, if_pos rfl, Rts_n (fun r => c1 r.1)]
      exact no
theorem x_recA (h : RX σ0 σ A) (w : A.1 9 n 0 = nX n) (hn : n < 7) (hx : x < 7) (hq : fq q) (hF : FX σ q f) (hk : f 0 = 3) (hbl : bl (f 4)) : ∃ σ', f_X_receiveAnnounce σ (11 + 17 * n) (nX x) q = some σ' ∧ RX σ0 σ' (mRecA A n x f) := x_rts_lp hn hx hq hk hbl 7 0 200 σ A 0 (by omega) (by omega) h w hF
theorem x_own (h : RX σ0 σ A) (w : wf m A) (hn : n < 7) (hx : x < 7) (hne : n ≠ x) (hq : fq q) (hF : FX σ q f) (hwf : wfF f) (hto : nds (f 1)) {b : Nat} (hb : b < 2000000001) (ha : A.1 10 n 0 = Int32.ofNat b) : ∃ σ', f_X_takeOwn σ (11 + 17 * n) (11 + 17 * x) q = some σ' ∧ RX σ0 σ' (mOwn A n x f) := by
  obtain ⟨-, -, x3, x4⟩ := lp_a x hx
  have n1 := fq_ne hq (n := n) (c := 1) (by omega)
  have n15 := fq_ne hq (n := n) (c := 15) (by omega)
  have h1 := sx_owes h hn (nX x)
  have hF1 : FX (sI σ (11 + 17 * n + 1) 8 (nX x)) q f := hF.wr n1.1 n1.2
  have id1 : (sI σ (11 + 17 * n + 1) 8 (nX x)).1 (11 + 17 * x) 0 = nX x := by
    rw [sI_ne1 (by omega)]
    exact h.id (w.id hx) hx
  unfold f_X_takeOwn
  rw [h.id (w.id hx) hx]
  simp only [tm_w]
  rw [id1, if_pos x4, if_pos x4, x3, gx_received h1 hn hx, uA_ne (by decide), hF1.2.2.1]
  unfold mOwn
  by_cases c1 : A.1 33 n x = f 2
  · rw [if_pos c1, if_pos c1]
    exact ⟨_, rfl, h1⟩
  · rw [if_neg c1, if_neg c1]
    have h2 := sx_received h1 hn hx (f 2)
    have hF2 := hF1.wr (k := x) (v := f 2) n15.1 n15.2
    have id2 : (sI (sI σ (11 + 17 * n + 1) 8 (nX x)) (11 + 17 * n + 15) x (f 2)).1 (11 + 17 * x) 0 = nX x := by
      rw [sI_ne1 (by omega)]
      exact id1
    have rk2 : (sI (sI σ (11 + 17 * n + 1) 8 (nX x)) (11 + 17 * n + 15) x (f 2)).1 (11 + 17 * x) 11 = (uA (uA A 22 n 0 (nX x)) 33 n x (f 2)).1 13 x 0 := gx_rank h2 hx
    have idn : (uA (uA A 22 n 0 (nX x)) 33 n x (f 2)).1 9 n 0 = nX n := by
      rw [uA_ne (by decide), uA_ne (by decide)]
      exact w.id hn
    have ha2 : (uA (uA A 22 n 0 (nX x)) 33 n x (f 2)).1 10 n 0 = Int32.ofNat b := by
      rw [uA_ne (by decide), uA_ne (by decide)]
      exact ha
    rw [hF2.1, id2, rk2]
    rcases id hwf with ⟨-, r⟩ | ⟨r, -, r2⟩ | ⟨r, -⟩
    · obtain ⟨k, hk, e⟩ := hto
      rw [e] at r
      exact absurd r (nI_a k hk).2.2
    · rw [if_pos r, if_pos r]
      obtain ⟨σ', e, h'⟩ := x_recA h2 idn hn hx hq hF2 r r2
      rw [e]
      exact ⟨σ', rfl, h'⟩
    · have r3 : ¬ f 0 = 3 := by
        rw [r]
        decide
      rw [if_neg r3, if_neg r3]
      obtain ⟨σ', e, h'⟩ := x_recV h2 idn hn hx hb ha2 hF2 r hwf hq
      rw [e]
      exact ⟨σ', rfl, h'⟩
theorem x_ack (h : RX σ0 σ A) (w : wf m A) (hn : n < 7) (hx : x < 7) : ∃ σ', f_X_takeAck σ (11 + 17 * n) (11 + 17 * x) = some σ' ∧ RX σ0 σ' (mAck A n x) := by
  unfold f_X_takeAck f_X_takeAck_L24 mAck
  rw [gx_ackTo h hx, h.id (w.id hn) hn, h.id (w.id hx) hx, gx_listens h hn]
  simp only [tm_w]
  rw [z0, if_pos (h.kd hn (by omega))]
  by_cases c1 : A.1 21 x 0 = nX n
  · rw [if_pos c1, if_neg (by decide)]
    by_cases c2 : A.1 23 n 0 = 0
    · rw [if_pos c2, if_neg (fun r => r.2.1 c2)]
      exact ⟨σ, rfl, h⟩
    · have hne := (w.2 n hn).2.2.2.1 c2
      rw [if_neg c2, (h.head hn hne).2.1]
      by_cases c3 : fr0 A n 1 = nX x
      · rw [if_pos c3, if_pos ⟨c1, c2, c3⟩]
        obtain ⟨σ', e, h'⟩ := x_remove (sx_listens h hn 0) hn hne
        rw [e]
        exact ⟨σ', rfl, h'⟩
      · rw [if_neg c3, if_neg (fun r => c3 r.2.2)]
        exact ⟨σ, rfl, h⟩
  · rw [if_neg c1, if_pos trivial, if_neg (fun r => c1 r.1)]
    exact ⟨σ, rfl, h⟩
theorem nX_0 (hn : n < 7) : nX n = 0 ↔ n = 0 := nI_eq_iff (b := 0) hn (by omega)
theorem x_sol (h : RX σ0 σ A) (w : A.1 9 n 0 = nX n) (hn : n < 7) : ∃ σ', f_X_takeSolicit σ (11 + 17 * n) = some σ' ∧ RX σ0 σ' (mSol A n) := by
  unfold f_X_takeSolicit f_X_takeSolicit_L17 mSol
  rw [h.id w hn, gx_rank h hn]
  obtain ⟨σ', e, h'⟩ := x_reset h hn
  rw [e]
  by_cases c1 : n = 0
  · rw [if_pos ((nX_0 hn).mpr c1), if_pos (Or.inl c1)]
    exact ⟨σ', rfl, h'⟩
  · rw [if_neg (fun r => c1 ((nX_0 hn).mp r))]
    by_cases c2 : A.1 13 n 0 = 255
    · rw [if_pos c2, if_neg (fun r => r.elim c1 (fun r => r c2))]
      exact ⟨σ, rfl, h⟩
    · rw [if_neg c2, if_pos (Or.inr c2)]
      exact ⟨σ', rfl, h'⟩
theorem xI_12 (hn : n < 7) (k : Nat) : xI (11 + 17 * n + 12) k = (30, n, k) := by
  unfold xI
  rw [if_neg (by omega), if_neg (by omega), if_neg (by omega), if_neg (by omega), if_neg (by omega), show (11 + 17 * n + 12 - 11) % 17 = 12 by omega, show (11 + 17 * n + 12 - 11) / 17 = n by omega]
theorem RX.fill (h : RX σ0 σ A) (hn : n < 7) : RX σ0 (sFl σ (11 + 17 * n + 12) 0) (mZr A n) := by
  have e1 : ∀ q', q' ≠ 11 + 17 * n + 12 → (sFl σ (11 + 17 * n + 12) 0).1 q' = σ.1 q' := fun q' hq' => (sFl_ne σ _ 0 q' hq').1
  refine ⟨fun t i j hv => ?_, fun i hi => ?_, fun q' hq' => ?_⟩
  · show (if xA t i = 11 + 17 * n + 12 ∧ xS t j < 7 then (0 : Int32) else σ.1 (xA t i) (xS t j)) = (if t = 30 ∧ i = n ∧ j < 7 then (0 : Int32) else A.1 t i j)
    have hx := xI_ok hv
    by_cases c : xA t i = 11 + 17 * n + 12
    · rw [c, xI_12 hn] at hx
      simp only [Prod.mk.injEq] at hx
      obtain ⟨rfl, rfl, hj⟩ := hx
      have hj7 : j < 7 := by
        have := xV_1 hv
        have h2 := hv
        simp only [xV, Bool.and_eq_true, decide_eq_true_eq] at h2
        rcases Nat.lt_or_ge j 7 with r | r
        · exact r
        · exact absurd (h2.2.2.2.2.2 (by omega)) (by decide)
      rw [if_pos ⟨c, by omega⟩, if_pos ⟨rfl, rfl, hj7⟩]
    · rw [if_neg (fun r => c r.1), if_neg]
      · exact h.1 t i j hv
      · rintro ⟨rfl, rfl, -⟩
        exact c rfl
  · refine (h.2.1 i hi).congr ?_ (fun _ _ => rfl) (fun m' hm' => ?_)
    · rw [e1 _ (by omega)]
    · have : xF i m' = 11 + 17 * i + 3 + 2 * m' := rfl
      exact ⟨e1 _ (by omega), e1 _ (by omega)⟩
  · rw [e1 _ (by omega)]
    exact h.2.2 q' hq'
theorem x_vers (h : RX σ0 σ A) (hn : n < 7) (v : Int32) : ∃ σ', f_X_takeVersion σ (11 + 17 * n) v = some σ' ∧ RX σ0 σ' (mVers A n v) := by
  have h3 := sx_least ((sx_version h hn v).fill hn) hn 255
  have h5 := sx_parent (sx_rank h3 hn 255) hn (-1)
  obtain ⟨σ', e, h'⟩ := x_reset h5 hn
  unfold f_X_takeVersion f_X_takeVersion_L18 f_X_takeVersion_L23 mVers
  simp only [tm_w]
  rw [gx_parent h hn, gx_rank h hn, e]
  by_cases c1 : A.1 14 n 0 = -1
  · by_cases c2 : A.1 13 n 0 = 255
    · rw [if_pos c1, if_pos c2, if_pos trivial, if_pos ⟨c1, c2⟩]
      exact ⟨_, rfl, h3⟩
    · rw [if_pos c1, if_neg c2, if_neg (show ¬ (1 : Int32) = 0 from by decide), if_neg (fun r => c2 r.2)]
      exact ⟨σ', rfl, h'⟩
  · rw [if_neg c1, if_neg (show ¬ (1 : Int32) = 0 from by decide), if_neg (fun r => c1 r.1)]
    exact ⟨σ', rfl, h'⟩
theorem x_adv44 (h : RX σ0 σ A) (w : wf m A) (hn : n < 7) (hx : x < 7) (hne : n ≠ x) : ∃ σ', f_X_takeAdvert_L44 σ (11 + 17 * n) (11 + 17 * x) = some σ' ∧ RX σ0 σ' (mAdv3 (uA A 30 n x (A.1 13 x 0)) n) := by
  obtain ⟨-, -, x3, x4⟩ := lp_a x hx
  have h1 := sx_ranks h hn hx (A.1 13 x 0)
  have hr : (1 ≤ A.1 13 x 0 ∧ A.1 13 x 0 ≤ 255) ∧ _ := w.1 13 x 0 (xV_n (by decide) hx)
  have w1 : wf m (uA A 30 n x (A.1 13 x 0)) := w.s 30 n x _ ⟨⟨Int32.le_trans (by decide) hr.1.1, hr.1.2⟩, fun e => absurd e hne⟩ (by decide)
  generalize hB : uA A 30 n x (A.1 13 x 0) = B at h1 w1 ⊢
  unfold f_X_takeAdvert_L44
  rw [h.id (w.id hx) hx, if_pos x4, x3, gx_rank h hx]
  simp only [tm_w]
  rw [h1.id (w1.id hn) hn, gx_rank h1 hn, gx_parent h1 hn]
  unfold mAdv3
  by_cases c1 : n = 0
  · rw [if_pos ((nX_0 hn).mpr c1), if_pos c1]
    unfold f_X_takeAdvert_L80
    simp only [tm_w]
    rw [gx_rank h1 hn, gx_parent h1 hn, if_pos rfl, if_pos rfl, gx_count h1 hn]
    exact ⟨_, rfl, sx_count h1 hn _⟩
  · rw [if_neg (fun r => c1 ((nX_0 hn).mp r)), if_neg c1]
    obtain ⟨σ', e, h'⟩ := x_choose h1 w1 hn
    rw [e]
    simp only [Option.bind_some]
    unfold f_X_takeAdvert_L80
    simp only [tm_w]
    rw [gx_rank h' hn, gx_parent h' hn, gx_count h' hn]
    by_cases c2 : (mChoose B n).1 13 n 0 = B.1 13 n 0
    · by_cases c3 : (mChoose B n).1 14 n 0 = B.1 14 n 0
      · rw [if_pos c2, if_pos c3, if_pos ⟨c2, c3⟩]
        exact ⟨_, rfl, sx_count h' hn _⟩
      · rw [if_pos c2, if_neg c3, if_neg (fun r => c3 r.2)]
        exact ⟨σ', rfl, h'⟩
    · rw [if_neg c2, if_neg (fun r => c2 r.1)]
      exact ⟨σ', rfl, h'⟩
theorem x_advert (h : RX σ0 σ A) (w : wf m A) (hn : n < 7) (hx : x < 7) (hne : n ≠ x) : ∃ σ', f_X_takeAdvert σ (11 + 17 * n) (11 + 17 * x) = some σ' ∧ RX σ0 σ' (mAdvert A n x) := by
  unfold f_X_takeAdvert mAdvert mAdv2
  rw [gx_version h hn, gx_version h hx, h.id (w.id hn) hn]
  by_cases c1 : A.1 12 x 0 < A.1 12 n 0
  · rw [if_neg (Int32.not_le.mpr c1), if_pos c1]
    obtain ⟨σ', e, h'⟩ := x_reset h hn
    rw [e]
    exact ⟨σ', rfl, h'⟩
  · rw [if_pos (Int32.not_lt.mp c1), if_neg c1]
    have w1 := w_Adv1 w n x
    by_cases c2 : A.1 12 x 0 ≤ A.1 12 n 0
    · rw [if_pos c2]
      have e : mAdv1 A n x = A := by
        unfold mAdv1
        rw [if_neg (fun r => Int32.not_lt.mpr c2 r.1)]
      rw [e]
      exact x_adv44 h w hn hx hne
    · rw [if_neg c2]
      by_cases c3 : n = 0
      · have e : mAdv1 A n x = A := by
          unfold mAdv1
          rw [if_neg (fun r => r.2 c3)]
        rw [if_pos ((nX_0 hn).mpr c3), e]
        exact x_adv44 h w hn hx hne
      · have e : mAdv1 A n x = mVers A n (A.1 12 x 0) := by
          unfold mAdv1
          rw [if_pos ⟨Int32.not_le.mp c2, c3⟩]
        rw [if_neg (fun r => c3 ((nX_0 hn).mp r))]
        rw [e] at w1 ⊢
        obtain ⟨σ', e', h'⟩ := x_vers h hn (A.1 12 x 0)
        rw [e']
        exact x_adv44 h' w1 hn hx hne
end X5
