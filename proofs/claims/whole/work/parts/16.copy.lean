/-! forgetting locals; System.arraycopy of ints over V -/
def tv_le (a b : List (Option Value)) : Prop := a.length = b.length ∧ ∀ (i : Nat) (v : Value), a[i]? = some (some v) → b[i]? = some (some v)
theorem tv_le_nil : tv_le [] [] := ⟨rfl, fun _ _ h => h⟩
theorem tv_le_none {a b : List (Option Value)} {x : Option Value} (h : tv_le a b) : tv_le (none :: a) (x :: b) := by
  refine ⟨by rw [List.length_cons, List.length_cons, h.1], fun i v hi => ?_⟩
  cases i with
  | zero => simp at hi
  | succ i => simpa using h.2 i v (by simpa using hi)
theorem tv_le_some {a b : List (Option Value)} {x : Option Value} (h : tv_le a b) : tv_le (x :: a) (x :: b) := by
  refine ⟨by rw [List.length_cons, List.length_cons, h.1], fun i v hi => ?_⟩
  cases i with
  | zero => simpa using hi
  | succ i => simpa using h.2 i v (by simpa using hi)
theorem V.less {X : tv_X} {cells slots n : Nat} {h : Nat → tv_C} {pc : Nat} {ls ls' : List (Option Value)} {st : List Value} (hle : tv_le ls' ls) (k : V X cells slots n h pc ls' st) : V X cells slots n h pc ls st := by
  obtain ⟨⟨p, l, e, R, s, m, args, below, meth, c⟩, Q, ⟨cl, tys, D, G, bs, b⟩⟩ := X
  intro H locs real hR hS hl
  refine k H locs real hR hS ⟨by rw [hle.1]; exact hl.1, hl.2.1, fun q hq => ?_⟩
  obtain ⟨v, h1, h2, h3⟩ := tv_ps_inv hq
  have h4 := hl.2.2 (q.1, tv_v bs b v) (tv_ps_mem (hle.2 _ _ h1) h2)
  rw [h3]
  exact h4
section TVCP
variable {X : tv_X} {cells slots n : Nat} {h : Nat → tv_C} {pc : Nat} {ls : List (Option Value)} {st : List Value} {cc : ByteArray} {nL : Nat} {own : String} {Ts Ns : List Cond} {CL : List vw_C} {TY : List FieldType} {rm : Room}
theorem V.acopy (hC : tv_K X cc nL own Ts Ns CL TY rm) (hnl : ls.length = nL) {idx t sa da len : Nat} {f g : Nat → Int32} (hw : Cond.methodLink own idx arraycopyName ∈ Ts ∧ Cond.native arraycopyName ∈ Ts ∧ Cond.static arraycopyName ∈ Ts ∧ Cond.initialized "java/lang/System" ∈ Ts) (hsa : 0 < sa ∧ sa ≤ n) (hhs : h sa = .inl (t, (len, .inl f))) (hda : 0 < da ∧ da ≤ n) (hhd : h da = .inl (t, (len, .inl g))) (ht : TY[t]? = some .int) {sp dp k : Int32} (h1 : ¬ sp < 0) (h2 : ¬ dp < 0) (h3 : ¬ k < 0) (h4 : sp.toNatClampNeg + k.toNatClampNeg ≤ len) (h5 : dp.toNatClampNeg + k.toNatClampNeg ≤ len) (hrm : 1 ≤ rm.frames ∧ (st.map fun v => v.category).sum + (nativeFrameWords "java/lang/System" "arraycopy" 5 + 11) ≤ rm.locals) (hd : decode cc pc = .ok (.invokestatic idx, 3)) (kk : V X cells slots n (va_up h da (.inl (t, (len, .inl (va_cpy f g sp.toNatClampNeg dp.toNatClampNeg k.toNatClampNeg))))) (pc + 3) ls st) : V X cells slots n h pc ls (.int k :: .int dp :: .ref da :: .int sp :: .ref sa :: st) := by
  obtain ⟨⟨p, l, e, R, s, m, args, below, meth, c⟩, Q, ⟨cl, tys, D, G, bs, b⟩⟩ := X
  obtain ⟨hx, hb, hml, hown, hts, hns, hK, hlk, hbs, hbz, rfl, rfl, rfl⟩ := hC
  obtain ⟨sa, rfl⟩ : ∃ a', sa = a' + 1 := ⟨sa - 1, by omega⟩
  obtain ⟨da, rfl⟩ : ∃ a', da = a' + 1 := ⟨da - 1, by omega⟩
  have nn : ∀ z : Int32, ¬ z < 0 → z.toInt = (z.toNatClampNeg : Int) := by
    intro z hz
    have hz0 : (0 : Int) ≤ z.toInt := by
      have := Int32.not_lt.mp hz
      simpa using Int32.le_iff_toInt_le.mp this
    show z.toInt = ((z.toInt.toNat : Nat) : Int)
    omega
  intro H locs real hR hS hl T hT XX
  have hes : (tv_W G bs b n h)[sa]? = some (b + sa, .inl (G t, (len, .inl f))) := by rw [tv_W_at (by omega), hhs]; rfl
  have hed : (tv_W G bs b n h)[da]? = some (b + da, .inl (G t, (len, .inl g))) := by rw [tv_W_at (by omega), hhd]; rfl
  have hc0 : H[b + sa]? = some (vp_cell (G t) (len, .inl f)) := hR.2.1 sa _ hes
  have hc1 : H[b + da]? = some (vp_cell (G t) (len, .inl g)) := hR.2.1 da _ hed
  obtain ⟨-, k0, hk0, cm0, hkk0⟩ := (hK.2 t _ (tv_T_at ht)).1 len (fun j => .int (f j))
  obtain ⟨-, k1, hk1, cm1, hkk1⟩ := (hK.2 t _ (tv_T_at ht)).1 len (fun j => .int (g j))
  obtain ⟨vm', X', step⟩ := XX.arraycopy hx hown (hts _ hw.1) (hts _ hw.2.1) (hts _ hw.2.2.1) (hts _ hw.2.2.2) (src := b + sa) (dst := b + da) (cs := vp_cell (G t) (len, .inl f)) (cd := vp_cell (G t) (len, .inl g)) (srcPos := sp) (destPos := dp) (n := k) (by rw [hT]; exact hc0) (by rw [hT]; exact hc1)
    (fun _ h => by cases h) (fun _ h => by cases h) (fun h => by cases h) (fun h => by cases h) hk0 hk1 hkk0 hkk1 (by rfl) h1 h2 h3
    (by rw [nn sp h1, nn k h3]; show ¬ _ > ((arrV (G t) len (fun j => .int (f j))).slots.size : Int); rw [arrV_size]; omega)
    (by rw [nn dp h2, nn k h3]; show ¬ _ > ((arrV (G t) len (fun j => .int (g j))).slots.size : Int); rw [arrV_size]; omega)
    (fun vm₁ _ i hi => by
      have e : (vp_cell (G t) (len, .inl f)).slots.getD (sp.toNatClampNeg + i) .null = .int (f (sp.toNatClampNeg + i)) := by
        show (arrV (G t) len (fun j => .int (f j))).slots.getD _ _ = _
        rw [Array.getD_eq_getD_getElem?, arrV_read _ _ (by omega)]
        rfl
      refine ⟨?_, ?_⟩
      · rw [e]; rfl
      · rw [e]; exact trivial)
    (g := F0 m pc real (.int k :: .int dp :: .ref (b + da) :: .int sp :: .ref (b + sa) :: st.map (tv_v bs b))) rfl (by rw [hml, ← hnl]; exact hl.1) (rest := st.map (tv_v bs b)) rfl (by rw [hb]; exact hd) hrm.1 (by show 2 * 0 + _ + _ ≤ _; rw [tv_v_sum]; have := hrm.2; omega)
  have e1 : copied (vp_cell (G t) (len, .inl f)) (vp_cell (G t) (len, .inl g)) sp dp k = vp_cell (G t) (len, .inl (va_cpy f g sp.toNatClampNeg dp.toNatClampNeg k.toNatClampNeg)) := va_copied (fun z => .int z) (G t) (G t) f g h4
  rw [e1] at X' step
  have hlt : b + da < H.size := (Array.getElem?_eq_some_iff.mp hc1).1
  generalize hcell : vp_cell (G t) (len, .inl (va_cpy f g sp.toNatClampNeg dp.toNatClampNeg k.toNatClampNeg)) = cell at X' step e1
  have hheap : ((T.setVm vm').setCell (b + da) cell).heap = H.setIfInBounds (b + da) cell := by rw [← hT]; rfl
  have oq : ∀ q : Nat, q ≠ b + da → (H.setIfInBounds (b + da) cell)[q]? = H[q]? := fun q hq => by simp [Array.getElem?_setIfInBounds, Ne.symm hq]
  have oa : (H.setIfInBounds (b + da) cell)[b + da]? = some cell := by simp [Array.getElem?_setIfInBounds, hlt]
  have hP1 : va_P D cl (tv_W G bs b n (va_up h (da + 1) (.inl (t, (len, .inl (va_cpy f g sp.toNatClampNeg dp.toNatClampNeg k.toNatClampNeg)))))) (H.setIfInBounds (b + da) cell) := by
    rw [← tv_W_set (by omega)]
    exact hR.2.1.set (tv_D G bs b n h) hed (by show (H.setIfInBounds (b + da) cell)[b + da]? = some (vp_cell _ _); rw [oa, ← hcell]; rfl) oq
  obtain ⟨t2, a1, b1⟩ := kk (H.setIfInBounds (b + da) cell) _ real ⟨by rw [Array.size_setIfInBounds]; exact hR.1, hP1, tv_sc (by omega) hR.2.2 (oq bs (by omega))⟩ ⟨by rw [Array.size_setIfInBounds]; exact hS.1, fun q g1 g2 => by
      rw [oq q (fun e => g2 (by show b ≤ q; omega))]
      exact hS.2.1 q g1 g2, fun q hq => by
      rcases List.mem_append.mp hq with h | h
      · exact hS.2.2 q h
      · obtain ⟨z, -, hz⟩ := List.mem_map.mp h
        rw [← hz]
        exact Nat.le_add_right _ _⟩ hl _ hheap X'
  exact ⟨t2, step t2 a1, b1⟩
end TVCP
