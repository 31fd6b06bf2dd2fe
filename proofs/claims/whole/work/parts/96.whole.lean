/-! the law from its entry -/
theorem whole_start {p : Program} {e : Env} {s : State} {m : MethodId} {below : List Frame} {meth : Method} {c : Code} (l : Launch) {b L : Nat} {xs : Nat → Int32} (hL : L ≤ 2563) (C0 : lw_At p s m meth c b L xs) : W p l e room_1 s m #[Value.ref b] below meth c s.heap [] 0 0 (lw_Z below #[Value.ref b] s) (entryFrame m ([Value.ref b] : List Value).toArray 4) := by
  obtain ⟨hx, hb, hr, hml, hown, hts, hX, hbl, hlk, -⟩ := C0
  have hwg : ∀ w ∈ tm_wg, w.before #[Value.ref b] s = true := fun w hw => hts w (List.mem_filter.mp hw).1
  have hns : ∀ w ∈ tm_ns, w.before #[Value.ref b] s = true := fun w hw => hts w (tm_ns_in w hw)
  have hns' : ∀ w ∈ tm_ns, va_Nw w s := by
    intro w hw
    have h := hns w hw
    simp only [tm_ns, List.mem_cons, List.not_mem_nil, or_false] at hw
    rcases hw with rfl | rfl | rfl | rfl | rfl
    · exact h
    · exact h
    · exact h
    · exact va_Nw.of rfl h
    · exact va_Nw.of rfl h
  obtain ⟨cF, iF, kF⟩ := u_known (C := tR_F) (T := tT_F) (N := 12) hwg tl_F (n := 12) (hwg _ tm_mk_F)
  obtain ⟨cN, iN, kN⟩ := u_known (C := tR_N) (T := tT_N) (N := 14) hwg tl_N (n := 14) (hwg _ tm_mk_N)
  obtain ⟨cR, iR, kR⟩ := u_known (C := tR_R) (T := tT_R) (N := 11) hwg tl_R (n := 11) (hwg _ tm_mk_R)
  obtain ⟨cT, iT', kT⟩ := u_known (C := tR_T) (T := tT_T) (N := 5) hwg tl_T (n := 5) (hwg _ tm_mk_T)
  obtain ⟨cX, iX, kX⟩ := u_known (C := tR_X) (T := tT_X) (N := 11) hwg tl_X (n := 11) (hwg _ tm_mk_X)
  obtain ⟨cY, iY, kY⟩ := u_known (C := tR_Y) (T := tT_Y) (N := 52) hwg tl_Y (n := 52) (hwg _ tm_mk_Y)
  obtain ⟨gI, qI, pI, i1, i2, i3⟩ := Cond.arrayClass_spec (hwg _ tm_ar_int)
  obtain ⟨gZ, qZ, pZ, z1, z2, z3⟩ := Cond.arrayClass_spec (hwg _ tm_ar_boolean)
  obtain ⟨pN, gN, qN, n1, n2, n3, n4, n5⟩ := Cond.arrayOver_spec (n := "TrickleMesh$Node") (hns _ (by decide +kernel))
  obtain ⟨pF, gF, qF, f1, f2, f3, f4, f5⟩ := Cond.arrayOver_spec (n := "TrickleMesh$Frame") (hns _ (by decide +kernel))
  obtain ⟨pA, gA, qA, a1, a2, a3, a4, a5⟩ := arrayOverA_spec (t := .int) (hns _ (by decide +kernel))
  let D : va_G := (fun c => match c with | 0 => cF | 1 => cN | 2 => cR | 3 => cT | 4 => cX | _ => cY, fun c => match c with | 0 => iF | 1 => iN | 2 => iR | 3 => iT' | 4 => iX | _ => iY)
  let G : Nat → ClassId := fun t => match t with | 0 => gI | 1 => gZ | 2 => gN | 3 => gF | _ => gA
  have hK : va_K D tm_cl (tv_T G tm_ty) s := by
    refine ⟨fun c q hq => ?_, fun t q hq => ?_⟩
    · match c, hq with
      | 0, hq => obtain rfl := Option.some.inj hq; exact kF
      | 1, hq => obtain rfl := Option.some.inj hq; exact kN
      | 2, hq => obtain rfl := Option.some.inj hq; exact kR
      | 3, hq => obtain rfl := Option.some.inj hq; exact kT
      | 4, hq => obtain rfl := Option.some.inj hq; exact kX
      | 5, hq => obtain rfl := Option.some.inj hq; exact kY
      | c + 6, hq => simp at hq
    · match t, hq with
      | 0, hq => obtain rfl := Option.some.inj hq; exact ⟨fun n z => ⟨fun k h => (by cases h), qI, i2, pI, i3⟩, i1⟩
      | 1, hq => obtain rfl := Option.some.inj hq; exact ⟨fun n z => ⟨fun k h => (by cases h), qZ, z2, pZ, z3⟩, z1⟩
      | 2, hq => obtain rfl := Option.some.inj hq; exact ⟨fun n z => ⟨fun k h => (by cases h), qN, n3, pN, n4⟩, qN, pN, n3, n4, n1, n5⟩
      | 3, hq => obtain rfl := Option.some.inj hq; exact ⟨fun n z => ⟨fun k h => (by cases h), qF, f3, pF, f4⟩, qF, pF, f3, f4, f1, f5⟩
      | 4, hq => obtain rfl := Option.some.inj hq; exact ⟨fun n z => ⟨fun k h => (by cases h), qA, a3, pA, a4⟩, a5⟩
      | t + 5, hq => simp [tv_T] at hq
  have key := k_law (X := ((p, l, e, room_1, s, m, #[Value.ref b], below, meth, c), lw_Z below #[Value.ref b] s, (tm_cl, tm_ty, D, G, b, s.heap.size))) ⟨hx, hb, hml, hown, hwg, hns', hK, hlk, hbl, Nat.le_refl _, rfl, rfl, rfl⟩ ⟨rfl, rfl, hr, rfl⟩ (h := fun _ => .inl (0, (L, .inl xs))) hL rfl
  have hl := lv_entry [Value.ref b] (n := 4) (tm_le rfl)
  rw [lg_entry_eq]
  refine key s.heap [] _ ⟨rfl, fun k q hq => by simp [tv_W] at hq, fun L' xs' h0 => by cases h0; exact hX⟩ va_S.rf ?_
  exact ⟨hl.1, hl.2.1, fun q hq => hl.2.2 q hq⟩
