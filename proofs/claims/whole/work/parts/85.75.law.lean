/-! the law's loop: class and reference answer alike -/
def lInv (σ : tm_S) (A : sA) (B : Nat) : Prop := RX σ σ A ∧ RY σ B none σ A ∧ iT A ∧ yT σ A
theorem yT_same {σ σ' : tm_S} {A A' : sA} (h : yT σ A) (e1 : σ'.1 169 = σ.1 169) (e2 : ∀ i, A'.1 19 i 0 = A.1 19 i 0) : yT σ' A' := fun i hi => by
  rw [e1, e2]
  exact h i hi
theorem aB_RY {σ0 σ : tm_S} {B : Nat} {tmp : Option Nat} {A : sA} (h : RY σ0 B tmp σ A) : aB B A := fun i hi => by
  obtain ⟨a, h1, h2, -⟩ := h.2.2.2.1 i hi
  exact ⟨a, h1, h2⟩
theorem l_step {σ σ1 : tm_S} {A A' : sA} {B B' : Nat} {r : Int32} {fy : tm_S → Option (Int32 × tm_S)} (I : lInv σ A B) (hX : RX σ σ1 A') (hi : iT A') (hY : RY σ1 B none σ1 A → yT σ1 A → ∃ σ2, fy σ1 = some (r, σ2) ∧ RY σ2 B' none σ2 A' ∧ yT σ2 A' ∧ frY' σ1 σ2) : ∃ σ2, fy σ1 = some (r, σ2) ∧ lInv σ2 A' B' ∧ σ1.1 0 = σ.1 0 ∧ σ1.2 0 = σ.2 0 ∧ σ2.1 0 = σ.1 0 ∧ σ2.2 0 = σ.2 0 := by
  obtain ⟨i1, i2, i3, i4⟩ := I
  have fx := hX.fr
  have hw : σ1.1 169 = σ.1 169 := (fx 169 (Or.inr (by decide))).1
  obtain ⟨σ2, e, h2, y2, f2⟩ := hY (i2.moved fx) (yT_same i4 hw (fun _ => rfl))
  have s1 := fx 0 (Or.inl rfl)
  refine ⟨σ2, e, ⟨hX.moved' f2, h2, hi, y2⟩, s1.1, s1.2, ?_, ?_⟩
  · rw [f2.1 0 (by omega)]
    exact s1.1
  · rw [f2.2]
    exact s1.2
/-- a call that only reads -/
theorem l_read {σ : tm_S} {A : sA} {B : Nat} {r : Int32} {fy : tm_S → Option (Int32 × tm_S)} (I : lInv σ A B) (hY : fy σ = some (r, σ)) : ∃ σ2, fy σ = some (r, σ2) ∧ lInv σ2 A B ∧ σ2.1 0 = σ.1 0 ∧ σ2.2 0 = σ.2 0 := ⟨σ, hY, I, rfl, rfl⟩
theorem kp_air {o : Bool} {n : Nat} {A C : sA} (h : kp o n A C) : ∀ i, C.1 19 i 0 = A.1 19 i 0 := fun i => h.1 19 i 0 (Or.inl rfl)
theorem fLink_ok {A : sA} (h : iT A) (a b c : Int32) : iT (fLink A a b c).2 ∧ ∀ i, (fLink A a b c).2.1 19 i 0 = A.1 19 i 0 := by
  by_cases r : bad a ∨ bad b ∨ a = b ∨ c < 0 ∨ 9 < c
  · have e : fLink A a b c = (0, A) := if_pos r
    rw [e]
    exact ⟨h, fun _ => rfl⟩
  · have e : fLink A a b c = (1, mLink A a.toNatClampNeg b.toNatClampNeg c) := if_neg r
    rw [e]
    have c1 : ¬ bad a := fun q => r (Or.inl q)
    have c2 : ¬ bad b := fun q => r (Or.inr (Or.inl q))
    refine ⟨w_Link h (fun q => r (Or.inr (Or.inr (Or.inl ?_)))) ⟨Int32.not_lt.mp (fun q => r (Or.inr (Or.inr (Or.inr (Or.inl q))))), Int32.not_lt.mp (fun q => r (Or.inr (Or.inr (Or.inr (Or.inr q)))))⟩, fun i => ?_⟩
    · rw [(bad_no c1).2, (bad_no c2).2, q]
    · show (uA (uA A 35 _ _ c) 35 _ _ c).1 19 i 0 = A.1 19 i 0
      rw [uA_ne (by decide), uA_ne (by decide)]
theorem fKill_ok {A : sA} (h : iT A) (a : Int32) : iT (fKill A a).2 ∧ ∀ i, (fKill A a).2.1 19 i 0 = A.1 19 i 0 := by
  by_cases r : bad a ∨ a = 0 ∨ A.1 11 a.toNatClampNeg 0 = 0
  · have e : fKill A a = (0, A) := if_pos r
    rw [e]
    exact ⟨h, fun _ => rfl⟩
  · have e : fKill A a = (1, mKill A a.toNatClampNeg) := if_neg r
    rw [e]
    have c1 : ¬ bad a := fun q => r (Or.inl q)
    refine ⟨w_Kill h (fun q => r (Or.inr (Or.inl ?_))), fun i => ?_⟩
    · rw [(bad_no c1).2, q]
      rfl
    · show (uA (uA (uQ (uA A 11 _ 0 0) _ []) 22 _ 0 (-1)) 23 _ 0 0).1 19 i 0 = A.1 19 i 0
      rw [uA_ne (by decide), uA_ne (by decide), uQ_1, uA_ne (by decide)]
theorem fRepair_ok {A : sA} (h : iT A) : iT (fRepair A).2 ∧ ∀ i, (fRepair A).2.1 19 i 0 = A.1 19 i 0 := ⟨w_Repair h, fun i => kp_air (((kp.rf (o := true) 0 A).s 12 0 _ (by decide) (by decide)).tr (k_Reset _ 0)) i⟩
theorem fSend_ok {A : sA} (h : iT A) (a g hh v : Int32) : iT (fSend A a g hh v).2 ∧ ∀ i, (fSend A a g hh v).2.1 19 i 0 = A.1 19 i 0 := by
  by_cases r : bad a ∨ bad g ∨ a = g ∨ A.1 11 a.toNatClampNeg 0 = 0 ∨ hh < 1 ∨ 15 < hh ∨ v < 0 ∨ 999 < v
  · have e : fSend A a g hh v = (-1, A) := if_pos r
    rw [e]
    exact ⟨h, fun _ => rfl⟩
  · have e : fSend A a g hh v = ((sSendF A a g hh v).1 5 0 0, sSendF A a g hh v) := if_neg r
    rw [e]
    have c1 : ¬ bad a := fun q => r (Or.inl q)
    have c2 : ¬ bad g := fun q => r (Or.inr (Or.inl q))
    have c4 : ¬ A.1 11 a.toNatClampNeg 0 = 0 := fun q => r (Or.inr (Or.inr (Or.inr (Or.inl q))))
    have c5 : ¬ hh < 1 := fun q => r (Or.inr (Or.inr (Or.inr (Or.inr (Or.inl q)))))
    have w := w_SendF (v := v) h (bad_no c1).1 ⟨_, (bad_no c2).1, (bad_no c2).2⟩ (Int32.not_lt.mp c5) c4
    rw [← (bad_no c1).2] at w
    exact ⟨w, fun i => kp_air (((kp.rf (o := true) a.toNatClampNeg A).m 5 _ (by decide) (by decide)).tr (k_Send _ a.toNatClampNeg _ _ _ _ _)) i⟩
theorem fTick_ok {A : sA} (h : iT A) (k : Int32) : iT (fTick A k).2 := by
  by_cases r : k < 0 ∨ 100 < k
  · have e : fTick A k = (-1, A) := if_pos r
    rw [e]
    exact h
  · have e : fTick A k = ((mTicks k.toNatClampNeg A).1 3 0 0, mTicks k.toNatClampNeg A) := if_neg r
    rw [e]
    exact w_Ticks _ h
theorem l_on (i k : Nat) : Int32.ofNat i + Int32.ofNat k = Int32.ofNat (i + k) := (Int32.ofNat_add i k).symm
theorem l_ix {L i : Nat} (hL : L ≤ 2563) (h : i < L) : ¬ (Int32.ofNat i < 0 ∨ L ≤ (Int32.ofNat i).toNatClampNeg) := by
  rw [on_ix (by omega)]
  rintro (r | r)
  · have z0 : (0 : Int32).toInt = 0 := by decide
    rw [i_lt, Int32.toInt_ofNat_of_lt (by omega), z0] at r
    omega
  · omega
theorem l_end {L i : Nat} (hL : L ≤ 2563) (hi : i < 100000) : Int32.ofNat L - 5 < Int32.ofNat i ↔ L < i + 5 := by
  have z5 : (5 : Int32).toInt = 5 := by decide
  rw [i_lt, Int32.toInt_sub, Int32.toInt_ofNat_of_lt (by omega), Int32.toInt_ofNat_of_lt (by omega), z5, Int.bmod_eq_of_le (by omega) (by omega)]
  omega
set_option maxHeartbeats 4000000 in
set_option maxRecDepth 100000 in
theorem law_lp : ∀ (c i fu : Nat) (σ : tm_S) (A : sA) (B : Nat), σ.2 0 0 ≤ i + 5 * c → c < fu → i + 5 * c < 3000 → B + 6301 * c < 1999980000 → σ.2 0 0 ≤ 2563 → lInv σ A B → ∃ σ', f_L_law_L48 fu σ (Int32.ofNat i) = some (1, σ')
  | 0, i, fu + 1, σ, A, B, hc, _, hi, _, hL, _ => by
    rw [f_L_law_L48, if_pos ((l_end hL (by omega)).mpr (by omega))]
    exact ⟨σ, rfl⟩
  | c + 1, i, fu + 1, σ, A, B, hc, hfu, hi, hB, hL, I => by
    by_cases hend : σ.2 0 0 < i + 5
    · rw [f_L_law_L48, if_pos ((l_end hL (by omega)).mpr hend)]
      exact ⟨σ, rfl⟩
    · have x0 := l_ix hL (show i < σ.2 0 0 by omega)
      have e1 : Int32.ofNat i + 1 = Int32.ofNat (i + 1) := l_on i 1
      have e2 : Int32.ofNat i + 2 = Int32.ofNat (i + 2) := l_on i 2
      have e3 : Int32.ofNat i + 3 = Int32.ofNat (i + 3) := l_on i 3
      have e4 : Int32.ofNat i + 4 = Int32.ofNat (i + 4) := l_on i 4
      have e5 : Int32.ofNat i + 5 = Int32.ofNat (i + 5) := l_on i 5
      have x1 := l_ix hL (show i + 1 < σ.2 0 0 by omega)
      have x2 := l_ix hL (show i + 2 < σ.2 0 0 by omega)
      have x3 := l_ix hL (show i + 3 < σ.2 0 0 by omega)
      have x4 := l_ix hL (show i + 4 < σ.2 0 0 by omega)
      have ih : ∀ σ2 A2 B2, B2 ≤ B + 6301 → lInv σ2 A2 B2 → σ2.2 0 = σ.2 0 → ∃ σ', f_L_law_L48 fu σ2 (Int32.ofNat (i + 5)) = some (1, σ') := fun σ2 A2 B2 hB2 I2 es => law_lp c (i + 5) fu σ2 A2 B2 (by rw [es]; omega) (by omega) (by omega) (by omega) (by rw [es]; exact hL) I2
      have hend' : ¬ Int32.ofNat (σ.2 0 0) - 5 < Int32.ofNat i := fun r => hend ((l_end hL (by omega)).mp r)
      rw [f_L_law_L48, if_neg hend', if_pos x0, e1, e2, e3, e4]
      unfold f_L_law_L426
      rw [e5]
      generalize σ.1 0 (Int32.ofNat i).toNatClampNeg &&& 15 = op
      have rb : RY σ B none σ A := I.2.1
      by_cases o0 : op = 0
      · rw [if_pos o0]
        simp only [if_pos x1, if_pos x2, if_pos x3]
        obtain ⟨σ1, ex, hx⟩ := x_link I.1 (σ.1 0 (Int32.ofNat (i + 1)).toNatClampNeg) (σ.1 0 (Int32.ofNat (i + 2)).toNatClampNeg) (σ.1 0 (Int32.ofNat (i + 3)).toNatClampNeg)
        obtain ⟨σ2, ey, I2, s1, s2, s3, s4⟩ := l_step (B' := B + 0) (r := (fLink A (σ.1 0 (Int32.ofNat (i + 1)).toNatClampNeg) (σ.1 0 (Int32.ofNat (i + 2)).toNatClampNeg) (σ.1 0 (Int32.ofNat (i + 3)).toNatClampNeg)).1) (fy := fun τ => f_Y_link τ (σ.1 0 (Int32.ofNat (i + 1)).toNatClampNeg) (σ.1 0 (Int32.ofNat (i + 2)).toNatClampNeg) (σ.1 0 (Int32.ofNat (i + 3)).toNatClampNeg)) I hx (fLink_ok I.2.2.1 _ _ _).1 (fun hy hT => by
          obtain ⟨τ, e, h2⟩ := y_link hy _ _ _
          exact ⟨τ, e, h2.base, yT_same hT (fr5 h2.fr).2.2.1 (fLink_ok I.2.2.1 _ _ _).2, frY'.of h2.fr⟩)
        have ey : f_Y_link σ1 (σ.1 0 (Int32.ofNat (i + 1)).toNatClampNeg) (σ.1 0 (Int32.ofNat (i + 2)).toNatClampNeg) (σ.1 0 (Int32.ofNat (i + 3)).toNatClampNeg) = _ := ey
        rw [ex]
        simp only [Option.bind_some]
        simp only [s1, s2, if_pos x1, if_pos x2, if_pos x3]
        rw [ey]
        simp only [Option.bind_some]
        rw [if_pos trivial]
        exact ih σ2 _ (B + 0) (by omega) I2 s4
      rw [if_neg o0]
      by_cases o1 : op = 1
      · rw [if_pos o1]
        simp only [if_pos x1]
        obtain ⟨σ1, ex, hx⟩ := x_kill I.1 (σ.1 0 (Int32.ofNat (i + 1)).toNatClampNeg)
        obtain ⟨σ2, ey, I2, s1, s2, s3, s4⟩ := l_step (B' := B + 0) (r := (fKill A (σ.1 0 (Int32.ofNat (i + 1)).toNatClampNeg)).1) (fy := fun τ => f_Y_kill τ (σ.1 0 (Int32.ofNat (i + 1)).toNatClampNeg)) I hx (fKill_ok I.2.2.1 _).1 (fun hy hT => by
          obtain ⟨τ, e, h2⟩ := y_kill hy _
          exact ⟨τ, e, h2.base, yT_same hT (fr5 h2.fr).2.2.1 (fKill_ok I.2.2.1 _).2, frY'.of h2.fr⟩)
        have ey : f_Y_kill σ1 (σ.1 0 (Int32.ofNat (i + 1)).toNatClampNeg) = _ := ey
        rw [ex]
        simp only [Option.bind_some]
        simp only [s1, s2, if_pos x1]
        rw [ey]
        simp only [Option.bind_some]
        rw [if_pos trivial]
        exact ih σ2 _ (B + 0) (by omega) I2 s4
      rw [if_neg o1]
      by_cases o2 : op = 2
      · rw [if_pos o2]
        obtain ⟨σ1, ex, hx⟩ := x_repair I.1
        obtain ⟨σ2, ey, I2, s1, s2, s3, s4⟩ := l_step (B' := B + 0) (r := (fRepair A).1) (fy := fun τ => f_Y_repair τ ) I hx (fRepair_ok I.2.2.1).1 (fun hy hT => by
          obtain ⟨τ, e, h2⟩ := y_repair hy
          exact ⟨τ, e, h2.base, yT_same hT (fr5 h2.fr).2.2.1 (fRepair_ok I.2.2.1).2, frY'.of h2.fr⟩)
        have ey : f_Y_repair σ1  = _ := ey
        rw [ex]
        simp only [Option.bind_some]
        rw [ey]
        simp only [Option.bind_some]
        rw [if_pos trivial]
        exact ih σ2 _ (B + 0) (by omega) I2 s4
      rw [if_neg o2]
      by_cases o3 : op = 3
      · rw [if_pos o3]
        simp only [if_pos x1, if_pos x2, if_pos x3, if_pos x4]
        obtain ⟨σ1, ex, hx⟩ := x_sendF I.1 (σ.1 0 (Int32.ofNat (i + 1)).toNatClampNeg) (σ.1 0 (Int32.ofNat (i + 2)).toNatClampNeg) (σ.1 0 (Int32.ofNat (i + 3)).toNatClampNeg) (σ.1 0 (Int32.ofNat (i + 4)).toNatClampNeg)
        obtain ⟨σ2, ey, I2, s1, s2, s3, s4⟩ := l_step (B' := B + 1) (r := (fSend A (σ.1 0 (Int32.ofNat (i + 1)).toNatClampNeg) (σ.1 0 (Int32.ofNat (i + 2)).toNatClampNeg) (σ.1 0 (Int32.ofNat (i + 3)).toNatClampNeg) (σ.1 0 (Int32.ofNat (i + 4)).toNatClampNeg)).1) (fy := fun τ => f_Y_send τ (σ.1 0 (Int32.ofNat (i + 1)).toNatClampNeg) (σ.1 0 (Int32.ofNat (i + 2)).toNatClampNeg) (σ.1 0 (Int32.ofNat (i + 3)).toNatClampNeg) (σ.1 0 (Int32.ofNat (i + 4)).toNatClampNeg)) I hx (fSend_ok I.2.2.1 _ _ _ _).1 (fun hy hT => by
          obtain ⟨τ, e, h2⟩ := y_sendF hy (by omega) I.2.2.1.1 _ _ _ _
          exact ⟨τ, e, h2.base, yT_same hT (fr5 h2.fr).2.2.1 (fSend_ok I.2.2.1 _ _ _ _).2, frY'.of h2.fr⟩)
        have ey : f_Y_send σ1 (σ.1 0 (Int32.ofNat (i + 1)).toNatClampNeg) (σ.1 0 (Int32.ofNat (i + 2)).toNatClampNeg) (σ.1 0 (Int32.ofNat (i + 3)).toNatClampNeg) (σ.1 0 (Int32.ofNat (i + 4)).toNatClampNeg) = _ := ey
        rw [ex]
        simp only [Option.bind_some]
        simp only [s1, s2, if_pos x1, if_pos x2, if_pos x3, if_pos x4]
        rw [ey]
        simp only [Option.bind_some]
        rw [if_pos trivial]
        exact ih σ2 _ (B + 1) (by omega) I2 s4
      rw [if_neg o3]
      by_cases o4 : op = 4
      · rw [if_pos o4]
        simp only [if_pos x1]
        obtain ⟨σ1, ex, hx⟩ := x_tickF (K0 := B) (by omega) I.1 I.2.2.1 (aB_RY rb) (σ.1 0 (Int32.ofNat (i + 1)).toNatClampNeg)
        obtain ⟨σ2, ey, I2, s1, s2, s3, s4⟩ := l_step (B' := B + 6300) (r := (fTick A (σ.1 0 (Int32.ofNat (i + 1)).toNatClampNeg)).1) (fy := fun τ => f_Y_tick τ (σ.1 0 (Int32.ofNat (i + 1)).toNatClampNeg)) I hx (fTick_ok I.2.2.1 _) (fun hy hT => y_tickF hy (by omega) I.2.2.1 hT _)
        have ey : f_Y_tick σ1 (σ.1 0 (Int32.ofNat (i + 1)).toNatClampNeg) = _ := ey
        rw [ex]
        simp only [Option.bind_some]
        simp only [s1, s2, if_pos x1]
        rw [ey]
        simp only [Option.bind_some]
        rw [if_pos trivial]
        exact ih σ2 _ (B + 6300) (by omega) I2 s4
      rw [if_neg o4]
      by_cases o5 : op = 5
      · rw [if_pos o5]
        simp only [if_pos x1, if_pos x2]
        have ex := x_node I.1 (σ.1 0 (Int32.ofNat (i + 1)).toNatClampNeg) (σ.1 0 (Int32.ofNat (i + 2)).toNatClampNeg)
        have ey := y_node rb I.2.2.1.1 (σ.1 0 (Int32.ofNat (i + 1)).toNatClampNeg) (σ.1 0 (Int32.ofNat (i + 2)).toNatClampNeg)
        rw [ex]
        simp only [Option.bind_some]
        simp only [if_pos x1, if_pos x2]
        rw [ey]
        simp only [Option.bind_some]
        rw [if_pos trivial]
        exact ih σ A B (by omega) I rfl
      rw [if_neg o5]
      by_cases o6 : op = 6
      · rw [if_pos o6]
        simp only [if_pos x1, if_pos x2]
        have ex := x_next I.1 (σ.1 0 (Int32.ofNat (i + 1)).toNatClampNeg) (σ.1 0 (Int32.ofNat (i + 2)).toNatClampNeg)
        have ey := y_next rb I.2.2.1.1 (σ.1 0 (Int32.ofNat (i + 1)).toNatClampNeg) (σ.1 0 (Int32.ofNat (i + 2)).toNatClampNeg)
        rw [ex]
        simp only [Option.bind_some]
        simp only [if_pos x1, if_pos x2]
        rw [ey]
        simp only [Option.bind_some]
        rw [if_pos trivial]
        exact ih σ A B (by omega) I rfl
      rw [if_neg o6]
      by_cases o7 : op = 7
      · rw [if_pos o7]
        simp only [if_pos x1, if_pos x2]
        have ex := x_known I.1 (σ.1 0 (Int32.ofNat (i + 1)).toNatClampNeg) (σ.1 0 (Int32.ofNat (i + 2)).toNatClampNeg)
        have ey := y_known rb I.2.2.1.1 (σ.1 0 (Int32.ofNat (i + 1)).toNatClampNeg) (σ.1 0 (Int32.ofNat (i + 2)).toNatClampNeg)
        rw [ex]
        simp only [Option.bind_some]
        simp only [if_pos x1, if_pos x2]
        rw [ey]
        simp only [Option.bind_some]
        rw [if_pos trivial]
        exact ih σ A B (by omega) I rfl
      rw [if_neg o7]
      by_cases o8 : op = 8
      · rw [if_pos o8]
        simp only [if_pos x1, if_pos x2]
        have ex := x_del (K := B) (by omega) I.1 (aB_RY rb) (σ.1 0 (Int32.ofNat (i + 1)).toNatClampNeg) (σ.1 0 (Int32.ofNat (i + 2)).toNatClampNeg)
        have ey := y_del (B := B) (by omega) rb (σ.1 0 (Int32.ofNat (i + 1)).toNatClampNeg) (σ.1 0 (Int32.ofNat (i + 2)).toNatClampNeg)
        rw [ex]
        simp only [Option.bind_some]
        simp only [if_pos x1, if_pos x2]
        rw [ey]
        simp only [Option.bind_some]
        rw [if_pos trivial]
        exact ih σ A B (by omega) I rfl
      rw [if_neg o8]
      by_cases o9 : op = 9
      · rw [if_pos o9]
        simp only [if_pos x1]
        have ex := x_count I.1 (σ.1 0 (Int32.ofNat (i + 1)).toNatClampNeg)
        have ey := y_count rb (σ.1 0 (Int32.ofNat (i + 1)).toNatClampNeg)
        rw [ex]
        simp only [Option.bind_some]
        simp only [if_pos x1]
        rw [ey]
        simp only [Option.bind_some]
        rw [if_pos trivial]
        exact ih σ A B (by omega) I rfl
      rw [if_neg o9]
      exact ih σ A B (by omega) I rfl
theorem law_ok {σ : tm_S} {A : sA} (hL : σ.2 0 0 ≤ 2563) (I : lInv σ A 0) : ∃ σ', f_L_law σ = some (1, σ') := law_lp 512 3 600 σ A 0 (by omega) (by omega) (by omega) (by omega) hL I
