/-! cells more than a heap had; arrays that are the same as far as they reach; an array of arrays -/
def hx (h : Nat → tv_C) (b : Nat) (L : List tv_C) : Nat → tv_C := fun q => if q ≤ b then h q else L.getD (q - b - 1) (.inr (99, []))
theorem hx_lo {h : Nat → tv_C} {b q : Nat} {L : List tv_C} (hq : q ≤ b) : hx h b L q = h q := by unfold hx; rw [if_pos hq]
theorem hx_at {h : Nat → tv_C} {b i : Nat} {L : List tv_C} {c : tv_C} (hi : L[i]? = some c) : hx h b L (b + (i + 1)) = c := by
  unfold hx
  rw [if_neg (by omega), show b + (i + 1) - b - 1 = i by omega, List.getD_eq_getElem?_getD, hi]
  rfl
theorem hx_push {h : Nat → tv_C} {b m : Nat} {L : List tv_C} {c : tv_C} (hm : L.length = m) : ∀ q, q ≤ b + m + 1 → va_up (hx h b L) (b + m + 1) c q = hx h b (L ++ [c]) q := by
  intro q hq
  by_cases he : q = b + m + 1
  · subst he
    rw [va_up_self]
    exact (hx_at (i := m) (by rw [← hm]; simp)).symm
  · rw [va_up_ne _ _ he]
    unfold hx
    by_cases hb : q ≤ b
    · rw [if_pos hb, if_pos hb]
    · rw [if_neg hb, if_neg hb, List.getD_eq_getElem?_getD, List.getD_eq_getElem?_getD, List.getElem?_append_left (by omega)]
theorem hx_set {h : Nat → tv_C} {b i n : Nat} {L : List tv_C} {c : tv_C} (hi : i < L.length) : ∀ q, q ≤ n → va_up (hx h b L) (b + (i + 1)) c q = hx h b (L.set i c) q := by
  intro q _
  by_cases he : q = b + (i + 1)
  · subst he
    rw [va_up_self]
    exact (hx_at (by rw [List.getElem?_set_self hi])).symm
  · rw [va_up_ne _ _ he]
    unfold hx
    by_cases hb : q ≤ b
    · rw [if_pos hb, if_pos hb]
    · rw [if_neg hb, if_neg hb, List.getD_eq_getElem?_getD, List.getD_eq_getElem?_getD, List.getElem?_set_ne (by omega)]
theorem hx_app {h : Nat → tv_C} {b m : Nat} {L M : List tv_C} (hm : L.length = m) : hx (hx h b L) (b + m) M = hx h b (L ++ M) := by
  funext q
  unfold hx
  by_cases hb : q ≤ b
  · rw [if_pos hb, if_pos (by omega), if_pos hb]
  · by_cases hc : q ≤ b + m
    · rw [if_pos hc, if_neg hb, if_neg hb, List.getD_eq_getElem?_getD, List.getD_eq_getElem?_getD, List.getElem?_append_left (by omega)]
    · rw [if_neg hc, if_neg hb, List.getD_eq_getElem?_getD, List.getD_eq_getElem?_getD, List.getElem?_append_right (by omega), show q - b - 1 - L.length = q - (b + m) - 1 by omega]
theorem tv_arr {c : ClassId} {N : Nat} {f g : Nat → Value} (h : ∀ j, j < N → f j = g j) : arrV c N f = arrV c N g := by
  unfold arrV
  congr 1
  apply Array.ext'
  simp only [Array.toList_ofFn]
  congr 1
  funext j
  exact h j.val j.isLt
section TV3
variable {X : tv_X} {cells slots n : Nat} {h : Nat → tv_C} {pc : Nat} {ls : List (Option Value)} {st : List Value} {cc : ByteArray} {nL : Nat} {own : String} {Ts Ns : List Cond} {CL : List vw_C} {TY : List FieldType} {rm : Room}
/-- an array of references, the same as far as it reaches -/
theorem V.aext {a t len : Nat} {f g : Nat → Option Nat} (ha : 0 < a ∧ a ≤ n) (hh : h a = .inl (t, (len, .inr (.inr (.inr (.inr f)))))) (hfg : ∀ j, j < len → f j = g j) (kk : V X cells slots n (va_up h a (.inl (t, (len, .inr (.inr (.inr (.inr g))))))) pc ls st) : V X cells slots n h pc ls st := by
  obtain ⟨⟨p, l, e, R, s, m, args, below, meth, c⟩, Q, ⟨cl, tys, D, G, bs, b⟩⟩ := X
  obtain ⟨a, rfl⟩ : ∃ a', a = a' + 1 := ⟨a - 1, by omega⟩
  intro H locs real hR hS hl
  have he : (tv_W G bs b n h)[a]? = some (b + a, .inl (G t, (len, .inr (.inr (.inr (.inr (fun j => (f j).map (tv_r bs b)))))))) := by rw [tv_W_at (by omega), hh]; rfl
  refine kk H locs real ⟨hR.1, ?_, tv_sc (by omega) hR.2.2 rfl⟩ hS hl
  rw [← tv_W_set (by omega)]
  refine hR.2.1.set (tv_D G bs b n h) he ?_ (fun _ _ => rfl)
  have h1 := hR.2.1 a _ he
  show H[b + a]? = some (vp_cell _ _)
  have h1 : H[b + a]? = some (vp_cell (G t) (len, .inr (.inr (.inr (.inr (fun j => (f j).map (tv_r bs b))))))) := h1
  rw [h1]
  show some (vp_cell _ (len, .inr (.inr (.inr (.inr _))))) = some (vp_cell _ (len, .inr (.inr (.inr (.inr _)))))
  rw [vp_cell_q, vp_cell_q]
  exact congrArg some (tv_arr fun j hj => by rw [hfg j hj])
def hmna (h : Nat → tv_C) (n t2 N t1 K : Nat) : Nat → tv_C := fun q => if q ≤ n then h q else if q = n + 1 then .inl (t2, (N, .inr (.inr (.inr (.inr (fun j => some (n + 2 + j))))))) else .inl (t1, (K, .inl (fun _ => 0)))
theorem tv_outer (c : ClassId) (N h0 : Nat) : ∀ i : Nat, Jvm.Free.Multi.outerC c N h0 i = arrV c N (fun j => va_rf (if j < i then some (h0 + 1 + j) else none))
  | 0 => by
    show ({ cls := c, slots := Array.replicate N .null, vm := .none } : Cell) = _
    rw [arrV_new]
    exact tv_arr fun j _ => by simp [va_rf]
  | i + 1 => by
    show (Jvm.Free.Multi.outerC c N h0 i).setSlot i (.ref (h0 + 1 + i)) = _
    rw [tv_outer c N h0 i, arrV_store]
    refine tv_arr fun j _ => ?_
    rcases Nat.lt_trichotomy j i with hj | rfl | hj
    · simp [updV, show j ≠ i by omega, hj, show j < i + 1 by omega]
    · simp [updV, va_rf]
    · simp [updV, show j ≠ i by omega, show ¬ j < i by omega, show ¬ j < i + 1 by omega]
theorem V.mna (hC : tv_K X cc nL own Ts Ns CL TY rm) {t1 t2 N K idx : Nat} {k1 k2 : Int32} (ht1 : TY[t1]? = some .int) (ht2 : TY[t2]? = some (.array .int)) (hw : Cond.classLink own idx "[[I" ∈ Ts ∧ Cond.arrayOver (.array .int) ∈ Ns ∧ Cond.arrayClass .int ∈ Ts) (h1 : ¬ k1 < 0) (h2 : ¬ k2 < 0) (hN : k1.toNatClampNeg = N) (hK' : k2.toNatClampNeg = K) (hb1 : N * 4 ≤ 536870912) (hb2 : K * 4 ≤ 536870912) (hrm : cells + (1 + N) ≤ rm.cells ∧ slots + (N + N * K) ≤ rm.slots) (hd : decode cc pc = .ok (.multianewarray idx 2, 4)) (kk : V X (cells + 1 + N) (slots + N + N * K) (n + 1 + N) (hmna h n t2 N t1 K) (pc + 4) ls (.ref (n + 1) :: st)) : V X cells slots n h pc ls (.int k2 :: .int k1 :: st) := by
  obtain ⟨⟨p, l, e, R, s, m, args, below, meth, c⟩, Q, ⟨cl, tys, D, G, bs, b⟩⟩ := X
  obtain ⟨hx, hb, hml, hown, hts, hns, hK, hlk, hbs, hbz, rfl, rfl, rfl⟩ := hC
  subst hN
  subst hK'
  intro H locs real hR hS hl
  intro T hT Xs
  obtain ⟨vm₁, cA, comp, -, fA, fC, -, -, X', step⟩ := Xs.multianewarray2F hx hown (hts _ hw.1) (hns _ hw.2.1) (hts _ hw.2.2) (g := F0 m pc real (.int k2 :: .int k1 :: st.map (tv_v bs b))) rfl (by rw [hb]; exact hd) rfl h1 h2 hb1 hb2 (by omega) rfl rfl hrm.1 hrm.2
  have g2 : cA = G t2 := Option.some.inj (fA.symm.trans (hK.2 t2 _ (tv_T_at ht2)).2)
  have g1 : comp = G t1 := Option.some.inj (fC.symm.trans (hK.2 t1 _ (tv_T_at ht1)).2)
  subst g1
  subst g2
  generalize hF : Jvm.Free.Multi.fill (T.setVm vm₁) (G t2) (G t1) k1.toNatClampNeg k2.toNatClampNeg (defaultValue .int) k1.toNatClampNeg = F at X' step
  have hTh : (T.setVm vm₁).heap = H := hT
  obtain ⟨f1, f2, -, -⟩ := Jvm.Free.Multi.fill_facts (T.setVm vm₁) (G t2) (G t1) k1.toNatClampNeg k2.toNatClampNeg (defaultValue .int) k1.toNatClampNeg
  rw [hF, hTh] at f1 f2
  have hold : ∀ x : Nat, x < H.size → F.heap[x]? = H[x]? := fun x hx => by
    have := Jvm.Free.Multi.fill_old (T.setVm vm₁) (G t2) (G t1) k1.toNatClampNeg k2.toNatClampNeg (defaultValue .int) (a := x) (by rw [hTh]; exact hx) k1.toNatClampNeg
    rw [hF, hTh] at this
    exact this
  have hrow : ∀ j : Nat, j < k1.toNatClampNeg → F.heap[H.size + 1 + j]? = some (vp_cell (G t1) (k2.toNatClampNeg, .inl (fun _ => 0))) := fun j hj => by
    have := Jvm.Free.Multi.fill_inner (T.setVm vm₁) (G t2) (G t1) k1.toNatClampNeg k2.toNatClampNeg (defaultValue .int) k1.toNatClampNeg j hj
    rw [hF, hTh] at this
    rw [this, vp_cell_i]
    exact congrArg some (arrV_new _ _ _)
  rw [tv_outer] at f2
  have hz := hR.1
  have hR1 : tv_R cl D G bs b (n + 1 + k1.toNatClampNeg) (hmna h n t2 k1.toNatClampNeg t1 k2.toNatClampNeg) s F.heap := by
    refine ⟨by rw [f1, hz]; omega, ?_, fun L xs h0 => ?_⟩
    · intro k q hq
      obtain ⟨hk, rfl⟩ := tv_W_inv hq
      by_cases hkn : k < n
      · have e1 : hmna h n t2 k1.toNatClampNeg t1 k2.toNatClampNeg (k + 1) = h (k + 1) := by unfold hmna; rw [if_pos (by omega)]
        rw [e1]
        exact (hR.2.1 k _ (tv_W_at hkn)).kept (hold _ (by rw [hz]; omega))
      · by_cases hke : k = n
        · subst hke
          have e1 : hmna h k t2 k1.toNatClampNeg t1 k2.toNatClampNeg (k + 1) = .inl (t2, (k1.toNatClampNeg, .inr (.inr (.inr (.inr (fun j => some (k + 2 + j))))))) := by unfold hmna; rw [if_neg (by omega), if_pos rfl]
          rw [e1]
          show F.heap[b + k]? = some (vp_cell (G t2) (k1.toNatClampNeg, .inr (.inr (.inr (.inr _)))))
          rw [← hz, f2, vp_cell_q]
          refine congrArg some (tv_arr fun j hj => ?_)
          rw [if_pos hj]
          show Value.ref (H.size + 1 + j) = Value.ref (tv_r bs b (k + 2 + j))
          rw [show k + 2 + j = (k + 1 + j) + 1 by omega]
          show Value.ref (H.size + 1 + j) = Value.ref (b + (k + 1 + j))
          rw [hz]
          exact congrArg Value.ref (show b + k + 1 + j = b + (k + 1 + j) by omega)
        · have e1 : hmna h n t2 k1.toNatClampNeg t1 k2.toNatClampNeg (k + 1) = .inl (t1, (k2.toNatClampNeg, .inl (fun _ => 0))) := by unfold hmna; rw [if_neg (by omega), if_neg (by omega)]
          rw [e1]
          show F.heap[b + k]? = some (vp_cell (G t1) (k2.toNatClampNeg, .inl _))
          have := hrow (k - n - 1) (by omega)
          rw [hz, show b + n + 1 + (k - n - 1) = b + k by omega] at this
          exact this
    · have e1 : hmna h n t2 k1.toNatClampNeg t1 k2.toNatClampNeg 0 = h 0 := by unfold hmna; rw [if_pos (by omega)]
      rw [e1] at h0
      exact (hR.2.2 L xs h0).kept (hold _ (by rw [hz]; omega))
  have hS1 : va_S (fun q => b ≤ q) s.heap F.heap locs := ⟨Nat.le_trans hS.1 (by rw [f1]; omega), fun q q1 q2 => (hold q (Nat.lt_of_lt_of_le q1 hS.1)).trans (hS.2.1 q q1 q2), hS.2.2⟩
  obtain ⟨t, a1, b1⟩ := kk F.heap locs real hR1 hS1 hl F rfl X'
  have eT : T.heap.size = b + n := by rw [show T.heap = H from hT, hz]
  rw [eT] at step
  exact ⟨t, step t a1, b1⟩
end TV3
theorem tm_fro {C : String} {a : Nat} : ∀ bs b, narrow (.object C) (tv_v bs b (.ref a)) = tv_v bs b (.ref a) ∧ fits (.object C) (tv_v bs b (.ref a)) = true := fun _ _ => ⟨rfl, rfl⟩
theorem tm_fra {t : FieldType} {a : Nat} : ∀ bs b, narrow (.array t) (tv_v bs b (.ref a)) = tv_v bs b (.ref a) ∧ fits (.array t) (tv_v bs b (.ref a)) = true := fun _ _ => ⟨rfl, rfl⟩
