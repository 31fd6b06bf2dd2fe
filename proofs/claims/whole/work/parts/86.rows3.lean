/-! cells more than a heap had; arrays that are the same as far as they reach; an array of arrays -/
def hx (h : Nat → tv_C) (b : Nat) (L : List tv_C) : Nat → tv_C := fun q => if q ≤ b then h q else L.getD (q - b - 1) (.inr (99, []))
theorem hx_lo {h : Nat → tv_C} {b q : Nat} {L : List tv_C} (hq : q ≤ b) : hx h b L q = h q := by unfold hx; rw [if_pos hq]
theorem hx_at {h : Nat → tv_C} {b i : Nat} {L : List tv_C} {c : tv_C} (hi : L[i]? = some c) : hx h b L (b + (i + 1)) = c := by
  unfold hx
  rw [if_neg (by omega), show b + (i + 1) - b - 1 = i by omega, List.getD_eq_getElem?_getD, hi]
  rfl
theorem hx_push {h : Nat → tv_C} {b m : Nat} {L : List tv_C} {c : tv_C} (hm : L.length = m) : ∀ q, q ≤ b + m + 1 → va_up (hx h b L) (b + m + 1) c q = hx h b (L ++ [c]) q := by
  intro q hq
  by_cases he : q = b + m + 1
  · subst he
    rw [va_up_self]
    exact (hx_at (i := m) (by rw [← hm]; simp)).symm
  · rw [va_up_ne _ _ he]
    unfold hx
    by_cases hb : q ≤ b
    · rw [if_pos hb, if_pos hb]
    · rw [if_neg hb, if_neg hb, List.getD_eq_getElem?_getD, List.getD_eq_getElem?_getD, List.getElem?_append_left (by omega)]
theorem hx_set {h : Nat → tv_C} {b i n : Nat} {L : List tv_C} {c : tv_C} (hi : i < L.length) : ∀ q, q ≤ n → va_up (hx h b L) (b + (i + 1)) c q = hx h b (L.set i c) q := by
  intro q _
  by_cases he : q = b + (i + 1)
  · subst he
    rw [va_up_self]
    exact (hx_at (by rw [List.getElem?_set_self hi])).symm
  · rw [va_up_ne _ _ he]
    unfold hx
    by_cases hb : q ≤ b
    · rw [if_pos hb, if_pos hb]
    · rw [if_neg hb, if_neg hb, List.getD_eq_getElem?_getD, List.getD_eq_getElem?_getD, List.getElem?_set_ne (by omega)]
theorem hx_app {h : Nat → tv_C} {b m : Nat} {L M : List tv_C} (hm : L.length = m) : hx (hx h b L) (b + m) M = hx h b (L ++ M) := by
  funext q
  unfold hx
  by_cases hb : q ≤ b
  · rw [if_pos hb, if_pos (by omega), if_pos hb]
  · by_cases hc : q ≤ b + m
    · rw [if_pos hc, if_neg hb, if_neg hb, List.getD_eq_getElem?_getD, List.getD_eq_getElem?_getD, List.getElem?_append_left (by omega)]
    · rw [if_neg hc, if_neg hb, List.getD_eq_getElem?_getD, List.getD_eq_getElem?_getD, List.getElem?_append_right (by omega), show q - b - 1 - L.length = q - (b + m) - 1 by omega]
theorem tv_arr {c : ClassId} {N : Nat} {f g : Nat → Value} (h : ∀ j, j < N → f j = g j) : arrV c N f = arrV c N g := by
  unfold arrV
  congr 1
  apply Array.ext'
  simp only [Array.toList_ofFn]
  congr 1
  funext j
  exact h j.val j.isLt
section TV3
variable {X : tv_X} {cells slots n : Nat} {h : Nat → tv_C} {pc : Nat} {ls : List (Option Value)} {st : List Value} {cc : ByteArray} {nL : Nat} {own : String} {Ts Ns : List Cond} {CL : List vw_C} {TY : List FieldType} {rm : Room}
/-- an array of references, the same as far as it reaches -/
theorem V.aext {a t len : Nat} {f g : Nat → Option Nat} (ha : 0 < a ∧ a ≤ n) (hh : h a = .inl (t, (len, .inr (.inr (.inr (.inr f)))))) (hfg : ∀ j, j < len → f j = g j) (kk : V X cells slots n (va_up h a (.inl (t, (len, .inr (.inr (.inr (.inr g))))))) pc ls st) : V X cells slots n h pc ls st := by
  obtain ⟨⟨p, l, e, R, s, m, args, below, meth, c⟩, Q, ⟨cl, tys, D, G, bs, b⟩⟩ := X
  obtain ⟨a, rfl⟩ : ∃ a', a = a' + 1 := ⟨a - 1, by omega⟩
  intro H locs real hR hS hl
  have he : (tv_W G bs b n h)[a]? = some (b + a, .inl (G t, (len, .inr (.inr (.inr (.inr (fun j => (f j).map (tv_r bs b)))))))) := by rw [tv_W_at (by omega), hh]; rfl
  refine kk H locs real ⟨hR.1, ?_, tv_sc (by omega) hR.2.2 rfl⟩ hS hl
  rw [← tv_W_set (by omega)]
  refine hR.2.1.set (tv_D G bs b n h) he ?_ (fun _ _ => rfl)
  have h1 := hR.2.1 a _ he
  show H[b + a]? = some (vp_cell _ _)
  have h1 : H[b + a]? = some (vp_cell (G t) (len, .inr (.inr (.inr (.inr (fun j => (f j).map (tv_r bs b))))))) := h1
  rw [h1]
  show some (vp_cell _ (len, .inr (.inr (.inr (.inr _))))) = some (vp_cell _ (len, .inr (.inr (.inr (.inr _)))))
  rw [vp_cell_q, vp_cell_q]
  exact congrArg some (tv_arr fun j hj => by rw [hfg j hj])
def hmna (h : Nat → tv_C) (n t2 N t1 K : Nat) : Nat → tv_C := fun q => if q ≤ n then h q else if q = n + 1 then .inl (t2, (N, .inr (.inr (.inr (.inr (fun j => some (n + 2 + j))))))) else .inl (t1, (K, .inl (fun _ => 0)))
end TV3
/-! an array of int arrays, row by row: the outer cell, an inner one, the state when i rows stand -/
def mq (c : ClassId) (N a i : Nat) : Cell := arrV c N (fun j => va_rf (if j < i then some (a + 1 + j) else none))
def mz (c : ClassId) (K : Nat) : Cell := arrV c K (fun _ => .int 0)
def mst (s : State) (c c1 : ClassId) (N K : Nat) : Nat → State
  | 0 => s.pushCell (mq c N s.heap.size 0)
  | i + 1 => ((mst s c c1 N K i).pushCell (mz c1 K)).setCell s.heap.size ((mq c N s.heap.size i).setSlot i (.ref (s.heap.size + 1 + i)))
theorem mq_s (c : ClassId) (N a i : Nat) : (mq c N a i).setSlot i (.ref (a + 1 + i)) = mq c N a (i + 1) := by
  unfold mq
  rw [arrV_store]
  refine tv_arr fun j _ => ?_
  rcases Nat.lt_trichotomy j i with hj | rfl | hj
  · simp [updV, show j ≠ i by omega, hj, show j < i + 1 by omega]
  · simp [updV, va_rf]
  · simp [updV, show j ≠ i by omega, show ¬ j < i by omega, show ¬ j < i + 1 by omega]
theorem mst_z (s : State) (c c1 : ClassId) (N K : Nat) : ∀ i, (mst s c c1 N K i).heap.size = s.heap.size + 1 + i ∧ (mst s c c1 N K i).vm = s.vm ∧ (mst s c c1 N K i).slotsUsed = s.slotsUsed + N + i * K
  | 0 => ⟨by simp [mst], rfl, by simp [mst, mq, arrV_size]⟩
  | i + 1 => by
    obtain ⟨h1, h2, h3⟩ := mst_z s c c1 N K i
    refine ⟨?_, ?_, ?_⟩
    · simp only [mst, State.setCell, Array.size_setIfInBounds]
      simp [h1]
      omega
    · simp [mst, h2]
    · have e : (i + 1) * K = i * K + K := Nat.succ_mul i K
      simp [mst, h3, mz, arrV_size]
      omega
theorem mst_h (s : State) (c c1 : ClassId) (N K : Nat) : ∀ i, (mst s c c1 N K i).heap[s.heap.size]? = some (mq c N s.heap.size i) ∧ (∀ q, q < s.heap.size → (mst s c c1 N K i).heap[q]? = s.heap[q]?) ∧ ∀ j, j < i → (mst s c c1 N K i).heap[s.heap.size + 1 + j]? = some (mz c1 K)
  | 0 => ⟨by simp [mst], fun q hq => State.heap_pushCell_of_lt _ _ hq, fun j hj => absurd hj (Nat.not_lt_zero _)⟩
  | i + 1 => by
    obtain ⟨h1, h2, h3⟩ := mst_h s c c1 N K i
    have hz := (mst_z s c c1 N K i).1
    have hlt : ∀ q, q < s.heap.size + 1 + i → ((mst s c c1 N K i).pushCell (mz c1 K)).heap[q]? = (mst s c c1 N K i).heap[q]? := fun q hq => State.heap_pushCell_of_lt _ _ (by rw [hz]; exact hq)
    have h0 : ((mst s c c1 N K i).pushCell (mz c1 K)).heap[s.heap.size]? = some (mq c N s.heap.size i) := (hlt _ (by omega)).trans h1
    refine ⟨?_, fun q hq => ?_, fun j hj => ?_⟩
    · rw [← mq_s]
      exact State.heap_setCell_self h0
    · show (State.setCell _ s.heap.size _).heap[q]? = _
      rw [State.heap_setCell_other (show (s.heap.size : Nat) ≠ q by omega), hlt q (by omega)]
      exact h2 q hq
    · show (State.setCell _ s.heap.size _).heap[s.heap.size + 1 + j]? = _
      rw [State.heap_setCell_other (show (s.heap.size : Nat) ≠ s.heap.size + 1 + j by omega)]
      by_cases hji : j = i
      · subst hji
        rw [← hz]
        exact State.heap_pushCell_size _ _
      · rw [hlt _ (by omega)]
        exact h3 j (by omega)
theorem mst_top (s : State) (f : JFrame) (c c1 : ClassId) (N K : Nat) : ∀ i, mst (s.setTop f) c c1 N K i = (mst s c c1 N K i).setTop f
  | 0 => rfl
  | i + 1 => by simp only [mst, mst_top s f c c1 N K i, State.heap_setTop, State.pushCell_setTop, State.setCell_setTop]
section MNAX
variable {p : Program} {l : Launch} {e : Env} {R : Room} {s : State} {m : MethodId} {args : Array Value} {below : List Frame} {meth : Method} {c : Code} {T : State} {locs : List Loc} {cells slots : Nat}
theorem mst_X (X : Stand p l e R s m args below meth c T locs cells slots) (c0 c1 : ClassId) (N K : Nat) : ∀ i, Stand p l e R s m args below meth c (mst T c0 c1 N K i) locs (cells + 1 + i) (slots + N + i * K)
  | 0 => by
    have h := X.pushed (mq c0 N T.heap.size 0)
    rw [show (mq c0 N T.heap.size 0).slots.size = N from arrV_size _ _ _] at h
    rw [Nat.zero_mul]
    exact h
  | i + 1 => by
    have Xi := (mst_X X c0 c1 N K i).pushed (mz c1 K)
    rw [show (mz c1 K).slots.size = K from arrV_size _ _ _] at Xi
    have hz := (mst_z T c0 c1 N K i).1
    have hc : ((mst T c0 c1 N K i).pushCell (mz c1 K)).heap[T.heap.size]? = some (mq c0 N T.heap.size i) := (State.heap_pushCell_of_lt _ _ (by rw [hz]; exact show (T.heap.size : Nat) < T.heap.size + 1 + i by omega)).trans (mst_h T c0 c1 N K i).1
    have h := Stand.forget (Xi.stored hc i (.ref (T.heap.size + 1 + i))) (fun y hy => by
      obtain rfl := List.mem_singleton.mp hy
      exact X.heapGrown)
    rw [show slots + N + (i + 1) * K = slots + N + i * K + K by rw [Nat.succ_mul]; omega]
    exact h
end MNAX
section MNAW
variable {E : CtlPost} {e : Env} {d : Bool} {acts : List Action} {s : State}
theorem mna_row {c1 cc : ClassId} {kc : Class} {k2 : Int32} (hkc : s.vm.classes[c1]? = some kc) (hkindc : kc.kind = .array cc .int) (h2 : ¬ k2 < 0) (hl : ¬ k2.toNatClampNeg > e.platform.arrayLengthLimit) (hh : ¬ k2.toNatClampNeg * componentBytes .int > e.platform.maxHeapBytes) (hc : s.heap.size < e.platform.maxCells) (hs : s.slotsUsed + k2.toNatClampNeg ≤ e.platform.maxSlots) {Q : Addr → Pre} (hq : ∀ acts', Q s.heap.size d acts' (s.pushCell (mz c1 k2.toNatClampNeg))) : wp (multianewarray.make c1 [k2]) Q E e d acts s := by
  rw [multianewarray.make]
  simp only [wp_bind', W.ite, h2, if_false, wp_pure', W.theClass, hkc, hkindc, Option.some.injEq, exists_eq_left']
  refine W.newArray_of hkc hkindc hl hh hc hs rfl (fun acts' => ?_)
  have hq := hq acts'
  rw [mz, ← arrV_new] at hq
  exact hq
theorem mna_all {c0 c1 cc : ClassId} {k kc : Class} {k1 k2 : Int32} (hk : s.vm.classes[c0]? = some k) (hkind : k.kind = .array c1 (.array .int)) (hkc : s.vm.classes[c1]? = some kc) (hkindc : kc.kind = .array cc .int) (h1 : ¬ k1 < 0) (h2 : ¬ k2 < 0) (hl1 : ¬ k1.toNatClampNeg > e.platform.arrayLengthLimit) (hh1 : ¬ k1.toNatClampNeg * componentBytes (.array .int) > e.platform.maxHeapBytes) (hl2 : ¬ k2.toNatClampNeg > e.platform.arrayLengthLimit) (hh2 : ¬ k2.toNatClampNeg * componentBytes .int > e.platform.maxHeapBytes) (hc : s.heap.size + (1 + k1.toNatClampNeg) ≤ e.platform.maxCells) (hs : s.slotsUsed + (k1.toNatClampNeg + k1.toNatClampNeg * k2.toNatClampNeg) ≤ e.platform.maxSlots) {Q : Addr → Pre} (hq : ∀ d' acts', Q s.heap.size d' acts' (mst s c0 c1 k1.toNatClampNeg k2.toNatClampNeg k1.toNatClampNeg)) : wp (multianewarray.make c0 [k1, k2]) Q E e d acts s := by
  generalize hN : k1.toNatClampNeg = N at *
  generalize hK : k2.toNatClampNeg = K at *
  rw [multianewarray.make]
  simp only [wp_bind', W.ite, h1, if_false, wp_pure', W.theClass, hk, hkind, Option.some.injEq, exists_eq_left']
  rw [hN]
  refine W.newArray_of hk hkind hl1 hh1 (by omega) (by omega) rfl (fun acts' => ?_)
  rw [arrV_new]
  have e0 : s.pushCell (arrV c0 N fun _ => Value.null) = mst s c0 c1 N K 0 := congrArg s.pushCell (tv_arr fun j _ => by simp [va_rf])
  rw [e0, show ([k2].find? (· < 0)) = none by simp [h2]]
  simp only [ite_self, wp_bind', wp_pure']
  rw [Std.Legacy.Range.forIn_eq_forIn_range', show ([:N] : Std.Legacy.Range).size = N by simp [Std.Legacy.Range.size]]
  refine wp_forIn_inv (fun rest s' => ∃ i, i + rest.length = N ∧ rest = List.range' i rest.length ∧ s' = mst s c0 c1 N K i) _ _ ⟨0, by simp, by simp, rfl⟩ ?_ ?_
  · rintro x rest s' d' acts2 Q' ⟨i, hi, hl, rfl⟩ hnext
    have hi' : i + (rest.length + 1) = N := by simpa using hi
    rw [List.length_cons, List.range'_succ] at hl
    obtain ⟨rfl, hrest⟩ := List.cons.inj hl
    obtain ⟨z1, z2, z3⟩ := mst_z s c0 c1 N K x
    have hm : x * K + K ≤ N * K := by
      rw [← Nat.succ_mul]
      exact Nat.mul_le_mul_right K (by omega)
    simp only [wp_bind']
    refine mna_row (k2 := k2) (by rw [z2]; exact hkc) hkindc h2 (by rw [hK]; exact hl2) (by rw [hK]; exact hh2) (by rw [z1]; omega) (by rw [z3, hK]; omega) (fun acts3 => ?_)
    rw [hK, z1]
    simp only [wp_bind', W.writeLoc, wp_pure']
    refine ⟨mq c0 N s.heap.size x, (State.heap_pushCell_of_lt _ _ (by rw [z1]; exact show (s.heap.size : Nat) < s.heap.size + 1 + x by omega)).trans (mst_h s c0 c1 N K x).1, (fun h => by cases h), by show x < (arrV _ _ _).slots.size; rw [arrV_size]; omega, ?_, hnext _ _ _ ⟨x + 1, by omega, hrest, rfl⟩⟩
    show State.fitsSlot _ c0 _ _ _ = true
    simp [State.fitsSlot, State.slotType?, z2, hk, hkind]
    rfl
  · rintro s' d' acts2 ⟨i, hi, -, rfl⟩
    obtain rfl : i = N := by simpa using hi
    exact hq _ _
end MNAW
section TV3B
variable {X : tv_X} {cells slots n : Nat} {h : Nat → tv_C} {pc : Nat} {ls : List (Option Value)} {st : List Value} {cc : ByteArray} {nL : Nat} {own : String} {Ts Ns : List Cond} {CL : List vw_C} {TY : List FieldType} {rm : Room}
theorem V.mna (hC : tv_K X cc nL own Ts Ns CL TY rm) {t1 t2 N K idx : Nat} {k1 k2 : Int32} (ht1 : TY[t1]? = some .int) (ht2 : TY[t2]? = some (.array .int)) (hw : Cond.classLink own idx "[[I" ∈ Ts ∧ Cond.arrayOver (.array .int) ∈ Ns ∧ Cond.arrayClass .int ∈ Ts) (h1 : ¬ k1 < 0) (h2 : ¬ k2 < 0) (hN : k1.toNatClampNeg = N) (hK' : k2.toNatClampNeg = K) (hb1 : N * 4 ≤ 536870912) (hb2 : K * 4 ≤ 536870912) (hrm : cells + (1 + N) ≤ rm.cells ∧ slots + (N + N * K) ≤ rm.slots) (hd : decode cc pc = .ok (.multianewarray idx 2, 4)) (kk : V X (cells + 1 + N) (slots + N + N * K) (n + 1 + N) (hmna h n t2 N t1 K) (pc + 4) ls (.ref (n + 1) :: st)) : V X cells slots n h pc ls (.int k2 :: .int k1 :: st) := by
  obtain ⟨⟨p, l, e, R, s, m, args, below, meth, c⟩, Q, ⟨cl, tys, D, G, bs, b⟩⟩ := X
  obtain ⟨hx, hb, hml, hown, hts, hns, hK, hlk, hbs, hbz, rfl, rfl, rfl⟩ := hC
  subst hN
  subst hK'
  intro H locs real hR hS hl
  intro T hT Xs
  obtain ⟨comp, cA, kA, g1, -, hkA, hkindA, g2⟩ := arrayOverA_spec (t := .int) (hns _ hw.2.1)
  obtain ⟨comp', kC, cc', g1', hkC, hkindC⟩ := Cond.arrayClass_spec (hts _ hw.2.2)
  obtain rfl : comp' = comp := Option.some.inj (g1'.symm.trans g1)
  obtain rfl : cA = G t2 := Option.some.inj (g2.symm.trans (hK.2 t2 _ (tv_T_at ht2)).2)
  obtain rfl : comp' = G t1 := Option.some.inj (g1.symm.trans (hK.2 t1 _ (tv_T_at ht1)).2)
  have hpl : e.platform.magicAccessors = ({} : Platform).magicAccessors := by rw [Xs.admits.platform]
  obtain ⟨c0, hfc, hcl⟩ := Cond.classLink_spec hown (hts _ hw.1) e.platform hpl
  obtain rfl : c0 = G t2 := Option.some.inj (hfc.symm.trans g2)
  obtain ⟨hres, hwarm, -⟩ := State.classEntry (e := e) Xs.warmed hcl
  generalize T.vm.noted m.cls idx (.cls (G t2)) = vm₁ at hres hwarm
  obtain ⟨kA', hkA', heA⟩ := hwarm.alike.2.2 _ _ hkA
  obtain ⟨kC', hkC', heC⟩ := hwarm.alike.2.2 _ _ hkC
  have hkindA' : kA'.kind = .array (G t1) (.array .int) := by rw [heA]; exact hkindA
  have hkindC' : kC'.kind = .array cc' .int := by rw [heC]; exact hkindC
  obtain ⟨hr1, hr2⟩ := Xs.roomAbove hrm.1 hrm.2
  have X' := mst_X (Xs.noted hwarm) (G t2) (G t1) k1.toNatClampNeg k2.toNatClampNeg k1.toNatClampNeg
  have hz := hR.1
  have hTh : (T.setVm vm₁).heap = H := hT
  have f0 := mst_z (T.setVm vm₁) (G t2) (G t1) k1.toNatClampNeg k2.toNatClampNeg k1.toNatClampNeg
  have f := mst_h (T.setVm vm₁) (G t2) (G t1) k1.toNatClampNeg k2.toNatClampNeg k1.toNatClampNeg
  rw [hTh] at f0 f
  obtain ⟨f1, -, -⟩ := f0
  obtain ⟨f2, hold, hrow⟩ := f
  generalize hF : mst (T.setVm vm₁) (G t2) (G t1) k1.toNatClampNeg k2.toNatClampNeg k1.toNatClampNeg = F at X' f1 f2 hold hrow
  have hR1 : tv_R cl D G bs b (n + 1 + k1.toNatClampNeg) (hmna h n t2 k1.toNatClampNeg t1 k2.toNatClampNeg) s F.heap := by
    refine ⟨by rw [f1, hz]; omega, ?_, fun L xs h0 => ?_⟩
    · intro k q hq
      obtain ⟨hk, rfl⟩ := tv_W_inv hq
      by_cases hkn : k < n
      · have e1 : hmna h n t2 k1.toNatClampNeg t1 k2.toNatClampNeg (k + 1) = h (k + 1) := by unfold hmna; rw [if_pos (by omega)]
        rw [e1]
        exact (hR.2.1 k _ (tv_W_at hkn)).kept (hold (b + k) (by rw [hz]; omega))
      · by_cases hke : k = n
        · subst hke
          have e1 : hmna h k t2 k1.toNatClampNeg t1 k2.toNatClampNeg (k + 1) = .inl (t2, (k1.toNatClampNeg, .inr (.inr (.inr (.inr (fun j => some (k + 2 + j))))))) := by unfold hmna; rw [if_neg (by omega), if_pos rfl]
          rw [e1]
          show F.heap[b + k]? = some (vp_cell (G t2) (k1.toNatClampNeg, .inr (.inr (.inr (.inr _)))))
          rw [← hz, f2, vp_cell_q]
          refine congrArg some (tv_arr fun j hj => ?_)
          rw [if_pos hj]
          show Value.ref (H.size + 1 + j) = Value.ref (tv_r bs b (k + 2 + j))
          rw [show k + 2 + j = (k + 1 + j) + 1 by omega]
          show Value.ref (H.size + 1 + j) = Value.ref (b + (k + 1 + j))
          rw [hz]
          exact congrArg Value.ref (show b + k + 1 + j = b + (k + 1 + j) by omega)
        · have e1 : hmna h n t2 k1.toNatClampNeg t1 k2.toNatClampNeg (k + 1) = .inl (t1, (k2.toNatClampNeg, .inl (fun _ => 0))) := by unfold hmna; rw [if_neg (by omega), if_neg (by omega)]
          rw [e1]
          show F.heap[b + k]? = some (vp_cell (G t1) (k2.toNatClampNeg, .inl _))
          have := hrow (k - n - 1) (by omega)
          rw [hz, show b + n + 1 + (k - n - 1) = b + k by omega] at this
          exact this
    · have e1 : hmna h n t2 k1.toNatClampNeg t1 k2.toNatClampNeg 0 = h 0 := by unfold hmna; rw [if_pos (by omega)]
      rw [e1] at h0
      exact (hR.2.2 L xs h0).kept (hold bs (by rw [hz]; omega))
  have hS1 : va_S (fun q => b ≤ q) s.heap F.heap locs := ⟨Nat.le_trans hS.1 (by rw [f1]; omega), fun q q1 q2 => (hold q (Nat.lt_of_lt_of_le q1 hS.1)).trans (hS.2.1 q q1 q2), hS.2.2⟩
  obtain ⟨t, a1, b1⟩ := kk F.heap locs real hR1 hS1 hl F rfl X'
  refine ⟨t, ?_, b1⟩
  have eT : T.heap.size = b + n := by rw [show T.heap = H from hT, hz]
  have q1 : ¬ k1.toNatClampNeg > e.platform.arrayLengthLimit := by rw [Launch.admits_arrayLengthLimit Xs.admits]; omega
  have q2 : ¬ k1.toNatClampNeg * componentBytes (.array .int) > e.platform.maxHeapBytes := by rw [Launch.admits_maxHeapBytes Xs.admits]; show ¬ k1.toNatClampNeg * 4 > 536870912; omega
  have q3 : ¬ k2.toNatClampNeg > e.platform.arrayLengthLimit := by rw [Launch.admits_arrayLengthLimit Xs.admits]; omega
  have q4 : ¬ k2.toNatClampNeg * componentBytes .int > e.platform.maxHeapBytes := by rw [Launch.admits_maxHeapBytes Xs.admits]; show ¬ k2.toNatClampNeg * 4 > 536870912; omega
  show Steps _ _ _ (T.setTop (F0 m pc real (.int k2 :: .int k1 :: st.map (tv_v bs b)))) t
  jvm_step Xs.here [hx, hb, hd]
  have hme : (T.setTop (F0 m pc real (.int k2 :: .int k1 :: st.map (tv_v bs b)))).method? = some m := State.method?_setTop _ Xs.here.top
  simp only [multianewarray.sem, wp_bind', W.resolveClassAt_links hme hres]
  rw [W.popN, if_neg (by decide)]
  refine ⟨F0 m pc real (.int k2 :: .int k1 :: st.map (tv_v bs b)), State.topJava?_setTop' (s := T.setVm vm₁) _ Xs.here.top, [.int k1, .int k2], st.map (tv_v bs b), rfl, rfl, ?_⟩
  simp only [List.mapM_cons, List.mapM_nil, wp_bind', wp_pure']
  have eS : ((T.setTop (F0 m pc real (.int k2 :: .int k1 :: st.map (tv_v bs b)))).setVm vm₁).setTop { method := m, pc := pc, locals := real, stack := st.map (tv_v bs b), locked := none } = (T.setVm vm₁).setTop { method := m, pc := pc, locals := real, stack := st.map (tv_v bs b), locked := none } := by
    show ((T.setVm vm₁).setTop _).setTop _ = _
    rw [State.setTop_setTop]
  rw [eS]
  refine mna_all (s := (T.setVm vm₁).setTop { method := m, pc := pc, locals := real, stack := st.map (tv_v bs b), locked := none }) (k := kA') (kc := kC') (c1 := G t1) (cc := cc') hkA' hkindA' hkC' hkindC' h1 h2 q1 q2 q3 q4 hr1 hr2 (fun d' acts' => ?_)
  rw [mst_top, hF]
  simp only [wp_bind', W.mark, W.pushRef, State.topJava?_setTop' _ X'.here.top, Option.some.injEq, exists_eq_left', State.setTop_setTop, State.heap_setTop]
  intro acts
  rw [show (T.setVm vm₁).heap.size = b + n from eT]
  simp [jvm, X'.here.top]
  exact a1
end TV3B
theorem tm_fro {C : String} {a : Nat} : ∀ bs b, narrow (.object C) (tv_v bs b (.ref a)) = tv_v bs b (.ref a) ∧ fits (.object C) (tv_v bs b (.ref a)) = true := fun _ _ => ⟨rfl, rfl⟩
theorem tm_fra {t : FieldType} {a : Nat} : ∀ bs b, narrow (.array t) (tv_v bs b (.ref a)) = tv_v bs b (.ref a) ∧ fits (.array t) (tv_v bs b (.ref a)) = true := fun _ _ => ⟨rfl, rfl⟩
