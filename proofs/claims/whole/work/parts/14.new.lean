/-! rows over V: new cells -/
section TVN
variable {X : tv_X} {cells slots n : Nat} {h : Nat → tv_C} {pc : Nat} {ls : List (Option Value)} {st : List Value} {cc : ByteArray} {nL : Nat} {own : String} {Ts Ns : List Cond} {CL : List vw_C} {TY : List FieldType} {rm : Room}
/-- a cell more at the heap's end -/
theorem tv_more {cl : List vw_C} {D : va_G} {G : Nat → ClassId} {bs b n : Nat} {h : Nat → tv_C} {s : State} {H H1 : Heap} {x : tv_C} (hbs : bs < b) (hR : tv_R cl D G bs b n h s H) (he : va_at D cl (b + n, tv_E G bs b x) H1) (hz : H1.size = b + n + 1) (ho : ∀ q, q < b + n → H1[q]? = H[q]?) : tv_R cl D G bs b (n + 1) (va_up h (n + 1) x) s H1 := by
  refine ⟨hz, ?_, tv_sc (by omega) hR.2.2 (ho bs (by omega))⟩
  rw [← tv_W_push]
  refine (hR.2.1.kept (fun k q hq => ho q.1 ?_)).app (fun k q hq => ?_)
  · have := (hR.2.1 k q hq).lt
    rw [hR.1] at this
    exact this
  · have hk : k < 1 := (List.getElem?_eq_some_iff.mp hq).1
    obtain rfl : k = 0 := by omega
    cases hq
    exact he
theorem tv_S_more {A : Nat → Prop} {H0 H H1 : Heap} {locs : List Loc} {k : Nat} (hS : va_S A H0 H locs) (hk : H.size = k) (hz : H1.size = k + 1) (ho : ∀ q, q < k → H1[q]? = H[q]?) : va_S A H0 H1 locs := by
  subst hk
  exact ⟨Nat.le_trans hS.1 (by omega), fun q h1 h2 => (ho q (Nat.lt_of_lt_of_le h1 hS.1)).trans (hS.2.1 q h1 h2), hS.2.2⟩
theorem V.new (hC : tv_K X cc nL own Ts Ns CL TY rm) {idx ci : Nat} {C : String} {T : u_T} {N : Nat} {fs : List Value} (tyT : Nat → FieldType) (hty : ∀ k, k < N → parseFieldDescriptor (T k).2.2.1 = some (tyT k)) (hc : CL[ci]? = some (C, T, N)) (hin : ∀ w ∈ u_ws C T N, w ∈ Ts) (hw : Cond.classLink own idx C ∈ Ts ∧ Cond.instantiable C N ∈ Ts ∧ Cond.initialized C ∈ Ts) (hfs : ∀ bs b j, j < N → defaultValue (tyT j) = vp_V (fs.map (tv_v bs b)) j) (hrm : cells + 1 ≤ rm.cells ∧ slots + N ≤ rm.slots) (hd : decode cc pc = .ok (.new idx, 3)) (kk : V X (cells + 1) (slots + N) (n + 1) (va_up h (n + 1) (.inr (ci, fs))) (pc + 3) ls (.ref (n + 1) :: st)) : V X cells slots n h pc ls st := by
  obtain ⟨⟨p, l, e, R, s, m, args, below, meth, c⟩, Q, ⟨cl, tys, D, G, bs, b⟩⟩ := X
  obtain ⟨hx, hb, hml, hown, hts, hns, hK, hlk, hbs, hbz, rfl, rfl, rfl⟩ := hC
  intro H locs real hR hS hl
  have hKn := hK.1 ci _ hc
  refine W.newcK hx hb hown (hts _ hw.1) (hts _ hw.2.1) (hts _ hw.2.2) rfl hd hrm.1 hrm.2 hKn.2.1 hR.1 fun H1 kC hkC e1 z1 o1 => ?_
  exact kk H1 locs real (tv_more hbs hR ⟨_, hc, (u_born tyT hts hin hKn hkC e1 hty).to (hfs bs b)⟩ z1 o1) (tv_S_more hS hR.1 z1 o1) hl
theorem V.newi (hC : tv_K X cc nL own Ts Ns CL TY rm) {t N : Nat} {k : Int32} (ht : TY[t]? = some .int) (hw : Cond.arrayClass .int ∈ Ts) (hk : ¬ k < 0) (hN : k.toNatClampNeg = N) (hby : N * 4 ≤ 536870912) (hrm : cells + 1 ≤ rm.cells ∧ slots + N ≤ rm.slots) (hd : decode cc pc = .ok (.newarray .int, 2)) (kk : V X (cells + 1) (slots + N) (n + 1) (va_up h (n + 1) (.inl (t, (N, .inl (fun _ => 0))))) (pc + 2) ls (.ref (n + 1) :: st)) : V X cells slots n h pc ls (.int k :: st) := by
  obtain ⟨⟨p, l, e, R, s, m, args, below, meth, c⟩, Q, ⟨cl, tys, D, G, bs, b⟩⟩ := X
  obtain ⟨hx, hb, hml, hown, hts, hns, hK, hlk, hbs, hbz, rfl, rfl, rfl⟩ := hC
  intro H locs real hR hS hl
  refine va_newaK hx hb (atype := .int) (hts _ hw) rfl hd rfl hk hN hby hrm.1 hrm.2 hR.1 fun H1 cA e1 z1 o1 hAr hNm => ?_
  have hG : cA = G t := Option.some.inj (hNm.symm.trans (hK.2 t _ (tv_T_at ht)).2)
  subst hG
  exact kk H1 locs real (tv_more hbs hR e1 z1 o1) (tv_S_more hS hR.1 z1 o1) hl
theorem V.newz (hC : tv_K X cc nL own Ts Ns CL TY rm) {t N : Nat} {k : Int32} (ht : TY[t]? = some .boolean) (hw : Cond.arrayClass .boolean ∈ Ts) (hk : ¬ k < 0) (hN : k.toNatClampNeg = N) (hby : N * 1 ≤ 536870912) (hrm : cells + 1 ≤ rm.cells ∧ slots + N ≤ rm.slots) (hd : decode cc pc = .ok (.newarray .boolean, 2)) (kk : V X (cells + 1) (slots + N) (n + 1) (va_up h (n + 1) (.inl (t, (N, .inl (fun _ => 0))))) (pc + 2) ls (.ref (n + 1) :: st)) : V X cells slots n h pc ls (.int k :: st) := by
  obtain ⟨⟨p, l, e, R, s, m, args, below, meth, c⟩, Q, ⟨cl, tys, D, G, bs, b⟩⟩ := X
  obtain ⟨hx, hb, hml, hown, hts, hns, hK, hlk, hbs, hbz, rfl, rfl, rfl⟩ := hC
  intro H locs real hR hS hl
  refine va_newaK hx hb (atype := .boolean) (hts _ hw) rfl hd rfl hk hN hby hrm.1 hrm.2 hR.1 fun H1 cA e1 z1 o1 hAr hNm => ?_
  have hG : cA = G t := Option.some.inj (hNm.symm.trans (hK.2 t _ (tv_T_at ht)).2)
  subst hG
  exact kk H1 locs real (tv_more hbs hR e1 z1 o1) (tv_S_more hS hR.1 z1 o1) hl
theorem V.newq (hC : tv_K X cc nL own Ts Ns CL TY rm) {t N idx : Nat} {C : String} {k : Int32} (ht : TY[t]? = some (.object C)) (hw : Cond.classLink own idx C ∈ Ts ∧ Cond.arrayOver (.object C) ∈ Ns) (hk : ¬ k < 0) (hN : k.toNatClampNeg = N) (hby : N * 4 ≤ 536870912) (hrm : cells + 1 ≤ rm.cells ∧ slots + N ≤ rm.slots) (hd : decode cc pc = .ok (.anewarray idx, 3)) (kk : V X (cells + 1) (slots + N) (n + 1) (va_up h (n + 1) (.inl (t, (N, .inr (.inr (.inr (.inr (fun _ => none)))))))) (pc + 3) ls (.ref (n + 1) :: st)) : V X cells slots n h pc ls (.int k :: st) := by
  obtain ⟨⟨p, l, e, R, s, m, args, below, meth, c⟩, Q, ⟨cl, tys, D, G, bs, b⟩⟩ := X
  obtain ⟨hx, hb, hml, hown, hts, hns, hK, hlk, hbs, hbz, rfl, rfl, rfl⟩ := hC
  intro H locs real hR hS hl
  subst hN
  refine W.anew hx hb hown (hts _ hw.1) (hns _ hw.2) rfl hd rfl hk hby hrm.1 hrm.2 fun cA kA comp f1 f2 f3 f4 => ?_
  have hG : cA = G t := by
    obtain ⟨kA', comp', -, -, -, g4⟩ := (hK.2 t _ (tv_T_at ht)).2
    exact Option.some.inj (f1.symm.trans g4)
  subst hG
  generalize hH1 : H.push ({ cls := G t, slots := Array.replicate k.toNatClampNeg .null, vm := .none } : Cell) = H1
  have z1 : H1.size = b + n + 1 := by rw [← hH1, Array.size_push, hR.1]
  have e1 : H1[b + n]? = some (arrV (G t) k.toNatClampNeg (fun _ => .null)) := by rw [← hH1, ← hR.1, Array.getElem?_push_size, ← arrV_new]
  have o1 : ∀ q : Nat, q < b + n → H1[q]? = H[q]? := fun q hq => by rw [← hH1, Array.getElem?_push, if_neg (by rw [hR.1]; omega)]
  have k1 := kk H1 locs real (tv_more hbs hR (show H1[b + n]? = some (vp_cell _ _) by rw [tv_A, vp_cell_q]; exact e1) z1 o1) (tv_S_more hS hR.1 z1 o1) hl
  rw [hR.1]
  exact k1
end TVN
