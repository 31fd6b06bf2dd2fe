/-! the reference does what the mathematics says: queues and timers -/
theorem uA_comm {A : sA} {t i j : Nat} {v : Int32} {t' i' j' : Nat} {v' : Int32} (h : t ≠ t') : uA (uA A t i j v) t' i' j' v' = uA (uA A t' i' j' v') t i j v := Prod.ext (by
  funext x y z
  show (if _ then _ else if _ then _ else _) = (if _ then _ else if _ then _ else _)
  by_cases c1 : x = t' ∧ y = i' ∧ z = j'
  · have c2 : ¬ (x = t ∧ y = i ∧ z = j) := fun r => h (r.1.symm.trans c1.1)
    rw [if_pos c1, if_neg c2, if_pos c1]
  · by_cases c2 : x = t ∧ y = i ∧ z = j
    · rw [if_neg c1, if_pos c2, if_pos c2]
    · rw [if_neg c1, if_neg c2, if_neg c2, if_neg c1]) rfl
theorem uA_self {A : sA} {t i j : Nat} : uA A t i j (A.1 t i j) = A := Prod.ext (by
  funext x y z
  show (if _ then _ else _) = _
  by_cases c : x = t ∧ y = i ∧ z = j
  · obtain ⟨rfl, rfl, rfl⟩ := c
    rw [if_pos ⟨rfl, rfl, rfl⟩]
  · rw [if_neg c]) rfl
theorem nod_neg {v : Int32} (h : nod v) : v < 0 ↔ v = -1 := by
  rcases h with rfl | ⟨m, hm, rfl⟩
  · exact ⟨fun _ => rfl, fun _ => by decide⟩
  · exact ⟨fun q => absurd q (nI_a m hm).2.1, fun q => absurd q (nI_a m hm).2.2⟩
theorem ix4_a : ∀ n, n < 7 → ((4 : Int32) * nX n).toNatClampNeg = 4 * n ∧ ¬ ((4 : Int32) * nX n < 0 ∨ 28 ≤ ((4 : Int32) * nX n).toNatClampNeg) := by decide
theorem ix8_a : ∀ n, n < 7 → ((8 : Int32) * nX n).toNatClampNeg = 8 * n ∧ ¬ ((8 : Int32) * nX n < 0 ∨ 49 ≤ ((8 : Int32) * nX n).toNatClampNeg) ∧ ¬ ((8 : Int32) * nX n < 0 ∨ 56 ≤ ((8 : Int32) * nX n).toNatClampNeg) := by decide
theorem ok49_a : ∀ n, n < 7 → ∀ j, j < 7 → ¬ ((7 : Int32) * nX n + nX j < 0 ∨ 49 ≤ ((7 : Int32) * nX n + nX j).toNatClampNeg) := by decide +kernel
theorem ok28_a : ∀ n, n < 7 → ∀ j, j < 4 → ¬ ((4 : Int32) * nX n + nX j < 0 ∨ 28 ≤ ((4 : Int32) * nX n + nX j).toNatClampNeg) := by decide +kernel
theorem s32_a : ∀ s, s < 32 → (¬ (Int32.ofNat s < 0 ∨ 32 ≤ (Int32.ofNat s).toNatClampNeg)) ∧ (Int32.ofNat s).toNatClampNeg = s ∧ Int32.ofNat s + 1 = Int32.ofNat (s + 1) ∧ ¬ (Int32.ofNat s < 0 ∨ 32 ≤ s) := by decide
theorem ix224_a : ∀ s, s < 32 → ∀ g, g < 7 → ((7 : Int32) * Int32.ofNat s + nX g).toNatClampNeg = 7 * s + g ∧ ¬ ((7 : Int32) * Int32.ofNat s + nX g < 0 ∨ 224 ≤ ((7 : Int32) * Int32.ofNat s + nX g).toNatClampNeg) := by decide +kernel
section Y1
variable {σ0 σ : tm_S} {A : sA} {n m B : Nat} {tmp : Option Nat}
theorem RY.many (h : RY σ0 B tmp σ A) (hn : n < 7) : σ.1 148 n = nX (A.2 n).length := (h.2.2.2.2.2.1.1 n hn).1
theorem RY.len (h : RY σ0 B tmp σ A) (hn : n < 7) : (A.2 n).length ≤ 4 := (h.2.2.2.2.2.1.1 n hn).2
theorem RY.at (h : RY σ0 B tmp σ A) (hn : n < 7) {k : Nat} {f : sFr} (hf : (A.2 n)[k]? = some f) : yp σ n k < 32 ∧ σ.1 147 (4 * n + k) = Int32.ofNat (yp σ n k) ∧ σ.1 154 (yp σ n k) = 1 ∧ FY σ (yp σ n k) f := h.2.2.2.2.2.1.2.1 n k f hn hf
theorem y_draw (h : RY σ0 B tmp σ A) {k : Int32} (hk : ¬ k = 0) : ∃ σ', f_Y_draw σ k = some (dV A k, σ') ∧ RY σ0 B tmp σ' (dA A) := by
  refine ⟨sI σ 130 0 (dS A), ?_, sy_seed h _⟩
  simp only [f_Y_draw, tm_w, gy_seed h, if_pos hk, sI_eq]
  rfl
theorem y_begin {iv : Int32} (h : RY σ0 B tmp σ (uA A 26 n 0 iv)) (hn : n < 7) (hiv : ¬ iv / 2 = 0) : ∃ σ', f_Y_begin σ (nX n) = some σ' ∧ RY σ0 B tmp σ' (mBegin A n iv) := by
  obtain ⟨-, -, b3, b4⟩ := lp_a n hn
  have h2 := sy_count (sy_clock h hn 0) hn 0
  have e2 : (sI (sI σ 144 n 0) 146 n 0).1 143 n = iv := by
    rw [gy_interval h2 hn, uA_ne (by decide), uA_ne (by decide), uA_eq]
  obtain ⟨σ4, e4, h4⟩ := y_draw h2 hiv
  refine ⟨sI σ4 145 n (iv / 2 + dV A (iv / 2)), ?_, sy_point h4 hn _⟩
  simp only [f_Y_begin, tm_w, if_pos b4]
  rw [b3, e2, e4]
  rfl
theorem y_reset (h : RY σ0 B tmp σ A) (hn : n < 7) : ∃ σ', f_Y_reset σ (nX n) = some σ' ∧ RY σ0 B tmp σ' (mReset A n) := by
  obtain ⟨-, -, b3, b4⟩ := lp_a n hn
  unfold f_Y_reset mReset
  simp only [if_pos b4, tm_w]
  rw [b3, gy_started h hn, gy_interval h hn]
  by_cases h1 : A.1 25 n 0 = 0
  · rw [if_pos h1, if_pos h1]
    exact ⟨σ, rfl, h⟩
  · rw [if_neg h1, if_neg h1]
    by_cases h2 : A.1 26 n 0 = 4
    · rw [if_pos h2, if_pos h2]
      exact ⟨σ, rfl, h⟩
    · rw [if_neg h2, if_neg h2]
      obtain ⟨σ', e, h'⟩ := y_begin (sy_interval h hn 4) hn (by decide)
      rw [e]
      exact ⟨σ', rfl, h'⟩
theorem First_eq : uA (dA (uA (uA A 17 n 0 0) 18 n 0 0)) 16 n 0 (dV A 4) = mFirst A n := by
  unfold mFirst dA
  rw [uA_comm (t := 18) (t' := 2) (by decide), uA_comm (t := 17) (t' := 2) (by decide)]
  rfl
theorem y_first (h : RY σ0 B tmp σ A) (hn : n < 7) (hne : ¬ (A.2 n).length = 0) : ∃ σ', f_Y_first σ (nX n) = some σ' ∧ RY σ0 B tmp σ' (mFirst A n) := by
  obtain ⟨-, -, b3, b4⟩ := lp_a n hn
  have hl := nI_len_a (A.2 n).length (by have := h.len hn; omega)
  obtain ⟨σ4, e4, h4⟩ := y_draw (sy_tries (sy_busy h hn 0) hn 0) (k := 4) (by decide)
  refine ⟨sI σ4 149 n (dV A 4), ?_, ?_⟩
  · simp only [f_Y_first, tm_w, if_pos b4]
    rw [b3, h.many hn, if_neg (fun r => hne (hl.2.2.2.1.mp r)), e4]
    rfl
  · rw [← First_eq]
    exact sy_wait h4 hn _
theorem y_first0 (h : RY σ0 B tmp σ A) (hn : n < 7) (he : (A.2 n).length = 0) : f_Y_first σ (nX n) = some σ := by
  obtain ⟨-, -, b3, b4⟩ := lp_a n hn
  simp only [f_Y_first, if_pos b4]
  rw [b3, h.many hn, he, if_pos (show nX 0 = 0 from rfl)]
theorem y_make (h : RY σ0 B none σ A) (hB : B < 1999999999) (k t : Int32) : ∃ s σ', f_Y_makeFrame σ k t = some (Int32.ofNat s, σ') ∧ s < 32 ∧ RY σ0 (B + 1) (some s) σ' A ∧ σ'.1 156 s = k ∧ σ'.1 157 s = t := by
  obtain ⟨s1, hs1, hu1⟩ := yQ_free h.2.2.2.2.2.1
  have lp_ : ∀ (d f fu : Nat), f + d = s1 → d < fu → ∃ s, s < 32 ∧ σ.1 154 s = 0 ∧ f_Y_makeFrame_L2 fu σ k t (Int32.ofNat f) = some (Int32.ofNat s, sI (sI (sI (sI (sI σ 130 40 (σ.1 130 40 + 1)) 154 s 1) 155 s (σ.1 130 40 + 1)) 156 s k) 157 s t) := by
    intro d
    induction d with
    | zero =>
      intro f fu hf hfu
      obtain ⟨fu, rfl⟩ : ∃ x, fu = x + 1 := ⟨fu - 1, by omega⟩
      obtain rfl : f = s1 := by omega
      obtain ⟨a1, a2, -, a4⟩ := s32_a f hs1
      refine ⟨f, hs1, hu1, ?_⟩
      rw [f_Y_makeFrame_L2]
      simp only [if_pos a1, tm_w]
      rw [a2, if_pos hu1, sI_ne1 (by decide), sI_eq]
    | succ d ih =>
      intro f fu hf hfu
      obtain ⟨fu, rfl⟩ : ∃ x, fu = x + 1 := ⟨fu - 1, by omega⟩
      obtain ⟨a1, a2, a3, a4⟩ := s32_a f (by omega)
      by_cases hu : σ.1 154 f = 0
      · refine ⟨f, by omega, hu, ?_⟩
        rw [f_Y_makeFrame_L2]
        simp only [if_pos a1, tm_w]
        rw [a2, if_pos hu, sI_ne1 (by decide), sI_eq]
      · obtain ⟨s, h1, h2, h3⟩ := ih (f + 1) fu (by omega) (by omega)
        refine ⟨s, h1, h2, ?_⟩
        rw [f_Y_makeFrame_L2, if_pos a1, a2, if_neg hu, a3]
        exact h3
  obtain ⟨s, hs, hu, e⟩ := lp_ s1 0 200 (by omega) (by omega)
  refine ⟨s, _, e, hs, h.make (by omega) hs hu rfl rfl ?_ ?_ ?_ ?_, ?_, sI_eq⟩
  · intro q j c1 c2
    rw [sI_no (fun r => c2 ⟨by simp [r.1], r.2⟩), sI_no (fun r => c2 ⟨by simp [r.1], r.2⟩), sI_no (fun r => c2 ⟨by simp [r.1], r.2⟩), sI_no (fun r => c2 ⟨by simp [r.1], r.2⟩), sI_no c1]
  · rw [sI_ne1 (by decide), sI_ne1 (by decide), sI_ne1 (by decide), sI_ne1 (by decide), sI_eq]
  · rw [sI_ne1 (by decide), sI_ne1 (by decide), sI_ne1 (by decide), sI_eq]
  · rw [sI_ne1 (by decide), sI_ne1 (by decide), sI_eq]
  · rw [sI_ne1 (by decide), sI_eq]
theorem y_queue {s : Nat} (h : RY σ0 B (some s) σ A) (hB : B < 2000000000) (hn : n < 7) (hs : s < 32) {f : sFr} (hF : FY σ s f) : ∃ σ', f_Y_queue σ (nX n) (Int32.ofNat s) = some σ' ∧ RY σ0 B none σ' (if 4 ≤ (A.2 n).length ∧ f 0 = 4 then mDrop A else mPut A n f) := by
  obtain ⟨-, -, b3, b4⟩ := lp_a n hn
  obtain ⟨a1, a2, -, -⟩ := s32_a s hs
  have hlen := h.len hn
  unfold f_Y_queue f_Y_queue_L30
  simp only [if_pos b4, if_pos a1, tm_w]
  rw [b3, a2, h.many hn, gy_dropped h, hF.1]
  by_cases c1 : 4 ≤ (A.2 n).length
  · have e4 : (A.2 n).length = 4 := by omega
    rw [e4, if_pos (show nX 4 = 4 from rfl)]
    by_cases c2 : f 0 = 4
    · rw [if_pos c2, if_pos ⟨Nat.le_refl _, c2⟩]
      exact ⟨_, rfl, (sy_dropped h _).drop⟩
    · rw [if_neg c2, if_neg (fun r => c2 r.2)]
      refine ⟨_, rfl, ?_⟩
      unfold mPut
      rw [e4, if_pos (Nat.le_refl _)]
      have h1 := (sy_dropped h (A.1 6 0 0 + 0)).drop
      rw [show A.1 6 0 0 + 0 = A.1 6 0 0 from Int32.add_zero _, uA_self] at h1
      rw [show A.1 6 0 0 + 0 = A.1 6 0 0 from Int32.add_zero _]
      exact h1
  · have hl : (A.2 n).length < 4 := by omega
    obtain ⟨l1, l2, l3, l4, l5, l6, l7⟩ := nI_len_a (A.2 n).length (by omega)
    have hne4 : ¬ nX (A.2 n).length = 4 := by
      intro r
      have := (l1.mpr hl)
      rw [r] at this
      exact absurd this (by decide)
    have hix := ix28_a n hn (A.2 n).length hl
    have hc : ¬ (4 ≤ (A.2 n).length ∧ f 0 = 4) := fun r => c1 r.1
    rw [if_neg hne4, if_pos (ok28_a n hn _ hl), hix.1, if_neg hc]
    have e1 : (sI σ 147 (4 * n + (A.2 n).length) (Int32.ofNat s)).1 148 n = nX (A.2 n).length := by
      rw [sI_ne1 (by decide)]
      exact h.many hn
    rw [e1, l7, sI_eq]
    have h7 : RY σ0 B none (sI (sI σ 147 (4 * n + (A.2 n).length) (Int32.ofNat s)) 148 n (nX ((A.2 n).length + 1))) (qP A n f) := by
      refine h.push (by omega) hn hl hF rfl (fun q hq => ?_) ?_ ?_ (fun p hp => ?_) sI_eq (fun p hp => ?_)
      · rw [sI_ne1 (fun e => hq (by rw [e]; decide)), sI_ne1 (fun e => hq (by rw [e]; decide))]
      · rw [sI_ne1 (by decide), sI_ne1 (by decide)]
      · rw [sI_ne1 (by decide), sI_eq]
      · rw [sI_ne1 (by decide), sI_no (fun e => hp e.2)]
      · rw [sI_no (fun e => hp e.2), sI_ne1 (by decide)]
    have l5' := (nI_len_a ((A.2 n).length + 1) (by omega)).2.2.2.2.1
    unfold mPut
    rw [if_neg c1]
    by_cases c2 : (A.2 n).length = 0
    · rw [if_pos (l5'.mpr (by omega)), if_pos c2]
      obtain ⟨σ', e, h'⟩ := y_first h7 hn (by
        unfold qP
        rw [uQ_2, if_pos rfl]
        simp)
      rw [e]
      exact ⟨σ', rfl, h'⟩
    · rw [if_neg (fun r => c2 (by have := l5'.mp r; omega)), if_neg c2]
      exact ⟨_, rfl, h7⟩
theorem y_queues_lp (h : RY σ0 B tmp σ A) (hn : n < 7) (k : Int32) : ∀ (c j fu : Nat) (b : Bool), j + c = (A.2 n).length → c < fu → f_Y_queues_L5 fu σ (nX n) k (if b = true then 1 else 0) (nX j) = some (if (b || ((A.2 n).drop j).any (fun f => f 0 == k)) = true then 1 else 0, σ)
  | 0, j, fu + 1, b, hj, _ => by
    obtain ⟨-, -, b3, b4⟩ := lp_a n hn
    have hlen := h.len hn
    rw [f_Y_queues_L5, if_pos b4, b3, h.many hn, if_pos ((len_le_a _ (by omega) j (by omega)).mpr (by omega)), List.drop_eq_nil_of_le (by omega)]
    cases b
    · rfl
    · rfl
  | c + 1, j, fu + 1, b, hj, hfu => by
    obtain ⟨-, -, b3, b4⟩ := lp_a n hn
    have hlen := h.len hn
    obtain ⟨f, hf⟩ : ∃ f, (A.2 n)[j]? = some f := ⟨_, List.getElem?_eq_getElem (by omega)⟩
    obtain ⟨q1, q2, q3, q4⟩ := h.at hn hf
    obtain ⟨-, -, j3⟩ := once_a j (by omega)
    obtain ⟨p1, p2, -, p4⟩ := s32_a _ q1
    have hd : (A.2 n).drop j = f :: (A.2 n).drop (j + 1) := by
      have hlt : j < (A.2 n).length := by omega
      rw [List.drop_eq_getElem_cons hlt]
      congr 1
      have := List.getElem?_eq_getElem hlt
      rw [hf] at this
      exact (Option.some.inj this).symm
    have ih := fun b => y_queues_lp h hn k c (j + 1) fu b (by omega) (by omega)
    rw [f_Y_queues_L5, if_pos b4, b3, h.many hn, if_neg (fun r => by have := (len_le_a _ (by omega) j (by omega)).mp r; omega), if_pos (ok28_a n hn j (by omega)), (ix28_a n hn j (by omega)).1, q2, if_pos p1, p2, q4.1]
    unfold f_Y_queues_L40 f_Y_queues_L45
    rw [j3, hd, List.any_cons]
    cases b
    · rw [if_neg (show ¬ false = true by decide), if_pos rfl]
      by_cases c1 : f 0 = k
      · rw [if_pos c1, c1, beq_self_eq_true]
        exact ih true
      · rw [if_neg c1, beq_eq_false_iff_ne.mpr c1]
        exact ih false
    · rw [if_pos rfl, if_neg (show ¬ (1 : Int32) = 0 by decide)]
      exact ih true
theorem y_once (h : RY σ0 B none σ A) (hB : B < 1999999999) (hn : n < 7) {k : Int32} (hk : k = 1 ∨ k = 2) (rest : tm_S → Option tm_S) : ∃ σ', ((f_Y_queues σ (nX n) k).bind fun q8 => if q8.1 = 0 then (f_Y_makeFrame q8.2 k (-1 : Int32)).bind fun q9 => (f_Y_queue q9.2 (nX n) q9.1).bind fun q10 => rest q10 else rest q8.2) = rest σ' ∧ RY σ0 (B + 1) none σ' (mOnce A n k) := by
  have e0 : f_Y_queues σ (nX n) k = some (if (A.2 n).any (fun f => f 0 == k) = true then 1 else 0, σ) := by
    have := y_queues_lp h hn k (A.2 n).length 0 200 false (by omega) (by have := h.len hn; omega)
    rw [List.drop_zero, Bool.false_or] at this
    exact this
  rw [e0]
  simp only [Option.bind_some]
  unfold mOnce
  by_cases c : (A.2 n).any (fun f => f 0 == k) = true
  · rw [if_pos c, if_neg (by decide), if_pos c]
    exact ⟨σ, rfl, h.mono (by omega)⟩
  · rw [if_neg c, if_pos rfl, if_neg c]
    obtain ⟨s, σ1, e1, hs, h1, k1, t1⟩ := y_make h hB k (-1)
    rw [e1]
    simp only [Option.bind_some]
    have hF : FY σ1 s (frK k) := by
      refine ⟨k1, t1, fun r => ?_, fun r => ?_⟩
      · have r : k = 3 := r
        rcases hk with q | q <;> (rw [q] at r; exact absurd r (by decide))
      · have r : k = 4 := r
        rcases hk with q | q <;> (rw [q] at r; exact absurd r (by decide))
    obtain ⟨σ2, e2, h2⟩ := y_queue h1 (by omega) hn hs hF
    rw [e2]
    have hk4 : ¬ (4 ≤ (A.2 n).length ∧ frK k 0 = 4) := by
      rintro ⟨-, r⟩
      have r : k = 4 := r
      rcases hk with q | q <;> (rw [q] at r; exact absurd r (by decide))
    rw [if_neg hk4] at h2
    exact ⟨σ2, rfl, h2⟩
theorem y_done (h : RY σ0 B none σ A) (hn : n < 7) (hne : A.2 n ≠ []) : ∃ σ', f_Y_done σ (nX n) = some σ' ∧ RY σ0 B none σ' (mPop A n) := by
  obtain ⟨-, -, b3, b4⟩ := lp_a n hn
  have hlen := h.len hn
  have hpos : 0 < (A.2 n).length := List.length_pos_iff.mpr hne
  obtain ⟨f, hf⟩ : ∃ f, (A.2 n)[0]? = some f := ⟨_, List.getElem?_eq_getElem hpos⟩
  obtain ⟨q1, q2, q3, -⟩ := h.at hn hf
  rw [Nat.add_zero] at q2
  obtain ⟨p1, p2, -, p4⟩ := s32_a _ q1
  generalize hs : yp σ n 0 = s at q1 q2 q3 p1 p2 p4
  have hdec : nX (A.2 n).length - 1 = nX ((A.2 n).length - 1) := by
    obtain ⟨l, hl⟩ : ∃ l, (A.2 n).length = l + 1 := ⟨(A.2 n).length - 1, by omega⟩
    rw [hl]
    exact nI_dec_a l (by omega)
  generalize hσ6 : sI (sI σ 154 s 0) 148 n (nX ((A.2 n).length - 1)) = σ6
  have lp_ : ∀ (c j fu : Nat) (τ : tm_S), j + c = (A.2 n).length - 1 → c < fu → τ.2 = σ.2 → (∀ q, q ≠ 147 → τ.1 q = σ6.1 q) → (∀ k, k < j → τ.1 147 (4 * n + k) = σ.1 147 (4 * n + (k + 1))) → (∀ p, p < 4 * n ∨ 4 * n + j ≤ p → τ.1 147 p = σ.1 147 p) → ∃ τ', f_Y_done_L26 fu τ (nX n) (nX j) = ((f_Y_first τ' (nX n)).bind fun q8 => some q8) ∧ τ'.2 = σ.2 ∧ (∀ q, q ≠ 147 → τ'.1 q = σ6.1 q) ∧ (∀ k, k + 1 < (A.2 n).length → τ'.1 147 (4 * n + k) = σ.1 147 (4 * n + (k + 1))) ∧ (∀ p, p < 4 * n ∨ 4 * n + 4 ≤ p → τ'.1 147 p = σ.1 147 p) := by
    intro c
    induction c with
    | zero =>
      intro j fu τ hj hfu t2 t1 t3 t4
      obtain ⟨fu, rfl⟩ : ∃ x, fu = x + 1 := ⟨fu - 1, by omega⟩
      refine ⟨τ, ?_, t2, t1, fun k hk => t3 k (by omega), fun p hp => t4 p (by omega)⟩
      have em : τ.1 148 n = nX ((A.2 n).length - 1) := by
        rw [t1 148 (by decide), ← hσ6, sI_eq]
      rw [f_Y_done_L26, if_pos b4, b3, em, if_pos ((len_le_a _ (by omega) j (by omega)).mpr (by omega))]
    | succ c ih =>
      intro j fu τ hj hfu t2 t1 t3 t4
      obtain ⟨fu, rfl⟩ : ∃ x, fu = x + 1 := ⟨fu - 1, by omega⟩
      have em : τ.1 148 n = nX ((A.2 n).length - 1) := by
        rw [t1 148 (by decide), ← hσ6, sI_eq]
      obtain ⟨-, -, j3⟩ := once_a j (by omega)
      have ej : (4 : Int32) * nX n + nX j + 1 = (4 : Int32) * nX n + nX (j + 1) := by
        rw [← j3, Int32.add_assoc]
      rw [f_Y_done_L26, if_pos b4, b3, em, if_neg (fun r => by have := (len_le_a _ (by omega) j (by omega)).mp r; omega), ej, if_pos (ok28_a n hn (j + 1) (by omega)), if_pos (ok28_a n hn j (by omega)), (ix28_a n hn j (by omega)).1, (ix28_a n hn (j + 1) (by omega)).1, j3, t4 (4 * n + (j + 1)) (by omega)]
      simp only [tm_w]
      refine ih (j + 1) fu _ (by omega) (by omega) t2 (fun q hq => ?_) (fun k hk => ?_) (fun p hp => ?_)
      · rw [sI_ne1 hq]
        exact t1 q hq
      · by_cases hkj : k = j
        · subst hkj
          rw [sI_eq]
        · rw [sI_no (by omega)]
          exact t3 k (by omega)
      · rw [sI_no (by omega)]
        exact t4 p (by omega)
  obtain ⟨τ, e, t2, t1, t3, t4⟩ := lp_ ((A.2 n).length - 1) 0 200 σ6 (by omega) (by omega) (by rw [← hσ6]; rfl) (fun _ _ => rfl) (fun k hk => absurd hk (by omega)) (fun p _ => by
    rw [← hσ6, sI_ne1 (by decide), sI_ne1 (by decide)])
  have hcut : RY σ0 B none τ (uQ A n ((A.2 n).drop 1)) := by
    refine h.cut hn (by omega) t2 (fun q hq => ?_) (fun k hk => ?_) (fun s' hs' => ?_) (fun k hk => t3 k hk) t4 ?_ (fun p hp => ?_)
    · rw [t1 q (fun r => hq (by rw [r]; decide)), ← hσ6, sI_ne1 (fun r => hq (by rw [r]; decide)), sI_ne1 (fun r => hq (by rw [r]; decide))]
    · obtain rfl : k = 0 := by omega
      rw [t1 154 (by decide), ← hσ6, sI_ne1 (by decide), hs, sI_eq]
    · have := hs' 0 (by omega)
      rw [hs] at this
      rw [t1 154 (by decide), ← hσ6, sI_ne1 (by decide), sI_no (fun r => this r.2)]
    · rw [t1 148 (by decide), ← hσ6, sI_eq]
    · rw [t1 148 (by decide), ← hσ6, sI_no (fun r => hp r.2), sI_ne1 (by decide)]
  have run : f_Y_done σ (nX n) = ((f_Y_first τ (nX n)).bind fun q8 => some q8) := by
    rw [← e]
    unfold f_Y_done
    rw [(ix4_a n hn).1, q2, p2]
    simp only [if_pos b4, tm_w]
    rw [if_pos (by rw [← (ix4_a n hn).1]; exact (ix4_a n hn).2), if_pos p4, b3]
    have em : (sI σ 154 s 0).1 148 n = nX (A.2 n).length := by
      rw [sI_ne1 (by decide)]
      exact h.many hn
    rw [em, hdec, hσ6]
    rfl
  rw [run]
  rw [List.drop_one] at hcut
  unfold mPop
  by_cases c0 : (A.2 n).tail.length = 0
  · rw [if_pos c0, y_first0 hcut hn (by rw [uQ_2, if_pos rfl]; exact c0)]
    exact ⟨τ, rfl, hcut⟩
  · rw [if_neg c0]
    obtain ⟨σ', e', h'⟩ := y_first hcut hn (by rw [uQ_2, if_pos rfl]; exact c0)
    rw [e']
    exact ⟨σ', rfl, h'⟩
theorem y_goals_lp (h : RY σ0 B tmp σ A) (w : wf m A) (hn : n < 7) : ∀ (c g k : Nat) (bits : Int32), g + c = 7 → c < k → f_Y_allGoals_L6 k σ (nX n) bits (nX g) = some (mGoals A n c g bits, σ)
  | 0, g, k + 1, bits, hg, _ => by
    obtain rfl : g = 7 := by omega
    rw [f_Y_allGoals_L6, if_pos (by decide)]
    rfl
  | c + 1, g, k + 1, bits, hg, hk => by
    have hg7 : g < 7 := by omega
    obtain ⟨a1, a2, a3, a4⟩ := lp_a g hg7
    have hx : nod (A.1 31 n g) ∧ _ := w.1 31 n g (xV_a (by decide) hn hg7)
    rw [f_Y_allGoals_L6, if_neg a1, if_pos (ok49_a n hn g hg7), (ix49_a n hn g hg7).1, gy_nexts h hn hg7]
    unfold f_Y_allGoals_L35 mGoals
    rw [a2]
    by_cases hc : A.1 31 n g = -1
    · rw [if_pos ((nod_neg hx.1).mpr hc), if_pos hc]
      exact y_goals_lp h w hn c (g + 1) k bits (by omega) (by omega)
    · rw [if_neg (fun r => hc ((nod_neg hx.1).mp r)), if_neg hc]
      exact y_goals_lp h w hn c (g + 1) k _ (by omega) (by omega)
theorem y_goals (h : RY σ0 B tmp σ A) (w : wf m A) (hn : n < 7) : f_Y_allGoals σ (nX n) = some (sGoals A n, σ) := y_goals_lp h w hn 7 0 200 _ (by omega) (by omega)
theorem y_ann (h : RY σ0 B none σ A) (hB : B < 1999999999) (hn : n < 7) (goals to wd : Int32) (hw : bl wd) : ∃ σ', f_Y_announce σ (nX n) to goals wd = some σ' ∧ RY σ0 (B + 1) none σ' (mAnn A n goals to wd) := by
  obtain ⟨s, σ1, e1, hs, h1, k1, t1⟩ := y_make h hB 3 to
  obtain ⟨a1, a2, -, a4⟩ := s32_a s hs
  have hw : wd = 0 ∨ wd = 1 := hw
  unfold f_Y_announce
  rw [e1]
  simp only [Option.bind_some, if_pos a1, if_pos hw, tm_w]
  rw [a2]
  have lp_ : ∀ (c g fu : Nat) (τ : tm_S), g + c = 7 → c < fu → τ.2 = σ1.2 → (∀ q j, ¬ ((q = 158 ∨ q = 160) ∧ j = s) → ¬ (q = 159 ∧ j / 7 = s) → τ.1 q j = σ1.1 q j) → τ.1 158 s = goals → τ.1 160 s = wd → (∀ i, i < g → τ.1 159 (7 * s + i) = A.1 32 n i) → ∃ σ', f_Y_announce_L28 fu τ (nX n) (Int32.ofNat s) (nX g) = some σ' ∧ RY σ0 (B + 1) none σ' (mAnn A n goals to wd) := by
    intro c
    induction c with
    | zero =>
      intro g fu τ hg hfu t2 t1' t3 t4 t5
      obtain ⟨fu, rfl⟩ : ∃ x, fu = x + 1 := ⟨fu - 1, by omega⟩
      obtain rfl : g = 7 := by omega
      have h2 : RY σ0 (B + 1) (some s) τ A := h1.tmp t2 (fun q j c1 c2 => t1' q j (fun r => c1 ⟨r.1.elim (fun r => by simp [r]) (fun r => by simp [r]), r.2⟩) c2)
      have hF : FY τ s (frA A n goals to wd) := by
        refine ⟨?_, ?_, fun _ => ⟨t3, t4, fun g hg => ?_⟩, fun r => absurd (show (3 : Int32) = 4 from r) (by decide)⟩
        · rw [t1' 156 s (fun r => absurd r.1 (by decide)) (fun r => absurd r.1 (by decide))]
          exact k1
        · rw [t1' 157 s (fun r => absurd r.1 (by decide)) (fun r => absurd r.1 (by decide))]
          exact t1
        · rw [t5 g hg]
          show _ = frA A n goals to wd (10 + g)
          unfold frA
          rw [if_neg (by omega), if_neg (by omega), if_neg (by omega), if_neg (by omega), if_pos (by omega), show 10 + g - 10 = g by omega]
      obtain ⟨σ', e, h'⟩ := y_queue h2 (by omega) hn hs hF
      have hk4 : ¬ (4 ≤ (A.2 n).length ∧ frA A n goals to wd 0 = 4) := fun r => absurd (show (3 : Int32) = 4 from r.2) (by decide)
      rw [if_neg hk4] at h'
      rw [f_Y_announce_L28, if_pos (by decide), e]
      exact ⟨σ', rfl, h'⟩
    | succ c ih =>
      intro g fu τ hg hfu t2 t1' t3 t4 t5
      obtain ⟨fu, rfl⟩ : ∃ x, fu = x + 1 := ⟨fu - 1, by omega⟩
      have hg7 : g < 7 := by omega
      obtain ⟨g1, g2, -, -⟩ := lp_a g hg7
      have en : τ.1 135 (7 * n + g) = A.1 32 n g := by
        rw [t1' 135 _ (fun r => absurd r.1 (by decide)) (fun r => absurd r.1 (by decide))]
        exact gy_numbers h1 hn hg7
      rw [f_Y_announce_L28, if_neg g1, if_pos (ok49_a n hn g hg7), if_pos (ix224_a s hs g hg7).2, (ix49_a n hn g hg7).1, (ix224_a s hs g hg7).1, g2, en]
      simp only [tm_w]
      refine ih (g + 1) fu _ (by omega) (by omega) t2 (fun q j c1 c2 => ?_) ?_ ?_ (fun i hi => ?_)
      · rw [sI_no (fun r => c2 ⟨r.1, by omega⟩)]
        exact t1' q j c1 c2
      · rw [sI_ne1 (by decide)]
        exact t3
      · rw [sI_ne1 (by decide)]
        exact t4
      · by_cases hig : i = g
        · subst hig
          rw [sI_eq]
        · rw [sI_no (by omega)]
          exact t5 i (by omega)
  refine lp_ 7 0 200 _ (by omega) (by omega) rfl (fun q j c1 _ => ?_) ?_ ?_ (fun i hi => absurd hi (by omega))
  · rw [sI_no (fun r => c1 ⟨Or.inr r.1, r.2⟩), sI_no (fun r => c1 ⟨Or.inl r.1, r.2⟩)]
  · rw [sI_ne1 (by decide), sI_eq]
  · rw [sI_eq]
end Y1
