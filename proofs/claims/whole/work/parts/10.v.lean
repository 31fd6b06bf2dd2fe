/-! A judgement over W: the heap is a function from small addresses to cells (0: the script; a + 1: the cell b + a), the locals are a list. -/
def tv_r (bs b : Nat) : Nat → Nat := fun a => match a with
  | 0 => bs
  | a + 1 => b + a
def tv_v (bs b : Nat) (v : Value) : Value := match v with
  | .int x => .int x
  | .long x => .long x
  | .float x => .float x
  | .double x => .double x
  | .null => .null
  | .ref a => .ref (tv_r bs b a)
  | .retAddr x => .retAddr x
theorem tv_v_cat (bs b : Nat) (v : Value) : (tv_v bs b v).category = v.category := by cases v <;> rfl
theorem tv_v_sum (bs b : Nat) (st : List Value) : ((st.map (tv_v bs b)).map fun v => v.category).sum = (st.map fun v => v.category).sum := by
  induction st with
  | nil => rfl
  | cons v t ih => simp only [List.map_cons, List.sum_cons, tv_v_cat, ih]
/-- a cell: an array (the number of its element type, its contents) or an object (the number of its class, its fields) -/
abbrev tv_C : Type := (Nat × vp_A) ⊕ (Nat × List Value)
def tv_A (bs b : Nat) (a : vp_A) : vp_A := (a.1, match a.2 with
  | .inl f => .inl f
  | .inr (.inl f) => .inr (.inl f)
  | .inr (.inr (.inl f)) => .inr (.inr (.inl f))
  | .inr (.inr (.inr (.inl f))) => .inr (.inr (.inr (.inl f)))
  | .inr (.inr (.inr (.inr f))) => .inr (.inr (.inr (.inr (fun j => (f j).map (tv_r bs b))))))
def tv_E (G : Nat → ClassId) (bs b : Nat) (c : tv_C) : va_E := match c with
  | .inl q => .inl (G q.1, tv_A bs b q.2)
  | .inr q => .inr (q.1, q.2.map (tv_v bs b))
def tv_W (G : Nat → ClassId) (bs b n : Nat) (h : Nat → tv_C) : va_W := (List.range n).map fun a => (b + a, tv_E G bs b (h (a + 1)))
theorem tv_W_at {G : Nat → ClassId} {bs b n a : Nat} {h : Nat → tv_C} (ha : a < n) : (tv_W G bs b n h)[a]? = some (b + a, tv_E G bs b (h (a + 1))) := by
  unfold tv_W
  rw [List.getElem?_map, List.getElem?_range ha]
  rfl
theorem tv_W_len (G : Nat → ClassId) (bs b n : Nat) (h : Nat → tv_C) : (tv_W G bs b n h).length = n := by simp [tv_W]
theorem tv_W_inv {G : Nat → ClassId} {bs b n a : Nat} {h : Nat → tv_C} {q : Nat × va_E} (hq : (tv_W G bs b n h)[a]? = some q) : a < n ∧ q = (b + a, tv_E G bs b (h (a + 1))) := by
  have ha : a < n := by
    have h1 := (List.getElem?_eq_some_iff.mp hq).1
    rw [tv_W_len] at h1
    exact h1
  rw [tv_W_at ha] at hq
  exact ⟨ha, (Option.some.inj hq).symm⟩
theorem tv_W_set {G : Nat → ClassId} {bs b n a : Nat} {h : Nat → tv_C} (ha : a < n) (c : tv_C) : (tv_W G bs b n h).set a (b + a, tv_E G bs b c) = tv_W G bs b n (va_up h (a + 1) c) := by
  apply List.ext_getElem?
  intro i
  by_cases hi : i = a
  · subst hi
    rw [List.getElem?_set_self (by rw [tv_W_len]; exact ha), tv_W_at ha, va_up_self]
  · rw [List.getElem?_set_ne (Ne.symm hi)]
    by_cases hn : i < n
    · rw [tv_W_at hn, tv_W_at hn, va_up_ne _ _ (by omega)]
    · rw [List.getElem?_eq_none (by rw [tv_W_len]; omega), List.getElem?_eq_none (by rw [tv_W_len]; omega)]
theorem tv_W_push (G : Nat → ClassId) (bs b n : Nat) (h : Nat → tv_C) (c : tv_C) : tv_W G bs b n h ++ [(b + n, tv_E G bs b c)] = tv_W G bs b (n + 1) (va_up h (n + 1) c) := by
  apply List.ext_getElem?
  intro i
  by_cases hi : i < n
  · rw [List.getElem?_append_left (by rw [tv_W_len]; exact hi), tv_W_at hi, tv_W_at (Nat.lt_succ_of_lt hi), va_up_ne _ _ (by omega)]
  · by_cases he : i = n
    · subst he
      rw [List.getElem?_append_right (by rw [tv_W_len]; omega), tv_W_len, tv_W_at (Nat.lt_succ_self _), va_up_self, Nat.sub_self]
      rfl
    · rw [List.getElem?_eq_none (by rw [List.length_append, tv_W_len]; simp; omega), List.getElem?_eq_none (by rw [tv_W_len]; omega)]
theorem tv_D (G : Nat → ClassId) (bs b n : Nat) (h : Nat → tv_C) : va_D (fun q => b ≤ q) (tv_W G bs b n h) := by
  refine ⟨fun i j p q hi hj he => ?_, fun k q hk => ?_⟩
  · obtain ⟨_, rfl⟩ := tv_W_inv hi
    obtain ⟨_, rfl⟩ := tv_W_inv hj
    have he : b + i = b + j := he
    omega
  · obtain ⟨_, rfl⟩ := tv_W_inv hk
    exact Nat.le_add_right _ _
/-- the heap H holds the cells h 1 .. h n, no more; the script is h 0 -/
def tv_R (cl : List vw_C) (D : va_G) (G : Nat → ClassId) (bs b n : Nat) (h : Nat → tv_C) (s : State) (H : Heap) : Prop :=
  H.size = b + n ∧ va_P D cl (tv_W G bs b n h) H ∧ ∀ (L : Nat) (xs : Nat → Int32), h 0 = .inl (0, (L, .inl xs)) → va_X bs L xs s H
def tv_ok (v : Value) : Bool := match v with
  | .int _ => true
  | .null => true
  | .ref _ => true
  | _ => false
theorem tv_ok_cat {v : Value} (h : tv_ok v = true) : v.category = 1 := by cases v <;> first | rfl | cases h
def tv_g (bs b : Nat) (ls : List (Option Value)) (i : Nat) : Option (Nat × Value) := match ls[i]? with
  | some (some v) => if tv_ok v = true then some (i, tv_v bs b v) else none
  | _ => none
def tv_ps (bs b : Nat) (ls : List (Option Value)) : List (Nat × Value) := (List.range ls.length).filterMap (tv_g bs b ls)
theorem tv_g_some {bs b i : Nat} {ls : List (Option Value)} {q : Nat × Value} (h : tv_g bs b ls i = some q) : ∃ v, ls[i]? = some (some v) ∧ tv_ok v = true ∧ q = (i, tv_v bs b v) := by
  unfold tv_g at h
  cases hc : ls[i]? with
  | none => rw [hc] at h; cases h
  | some o =>
    rw [hc] at h
    cases o with
    | none => cases h
    | some v =>
      by_cases ho : tv_ok v = true
      · simp only [ho, if_true] at h
        exact ⟨v, rfl, ho, (Option.some.inj h).symm⟩
      · simp only [ho] at h
        cases h
theorem tv_ps_mem {bs b i : Nat} {ls : List (Option Value)} {v : Value} (h : ls[i]? = some (some v)) (ho : tv_ok v = true) : (i, tv_v bs b v) ∈ tv_ps bs b ls := by
  refine List.mem_filterMap.mpr ⟨i, List.mem_range.mpr (List.getElem?_eq_some_iff.mp h).1, ?_⟩
  unfold tv_g
  rw [h]
  simp only [ho, if_true]
theorem tv_ps_inv {bs b : Nat} {ls : List (Option Value)} {q : Nat × Value} (h : q ∈ tv_ps bs b ls) : ∃ v, ls[q.1]? = some (some v) ∧ tv_ok v = true ∧ q.2 = tv_v bs b v := by
  obtain ⟨i, _, hi⟩ := List.mem_filterMap.mp h
  obtain ⟨v, h1, h2, rfl⟩ := tv_g_some hi
  exact ⟨v, h1, h2, rfl⟩
theorem tv_at {real : Array Slot} {N bs b i : Nat} {ls : List (Option Value)} {v : Value} (hl : lv_has real N (tv_ps bs b ls)) (h : ls[i]? = some (some v)) (ho : tv_ok v = true) : real[i]? = some (.val (tv_v bs b v)) := hl.2.2 _ (tv_ps_mem h ho)
/-- a store into a local -/
theorem tv_set {real : Array Slot} {N bs b i : Nat} {ls : List (Option Value)} {v : Value} (hl : lv_has real N ((i, tv_v bs b v) :: (tv_ps bs b ls).filter (fun q => !(q.1 == i) && !(q.1 + 1 == i && q.2.category == 2)))) : lv_has real N (tv_ps bs b (ls.set i (some v))) := by
  refine ⟨hl.1, hl.2.1, fun q hq => ?_⟩
  obtain ⟨w, h1, h2, h3⟩ := tv_ps_inv hq
  obtain ⟨j, u⟩ := q
  dsimp only at h1 h3 ⊢
  subst h3
  by_cases hj : j = i
  · subst hj
    have hlt : j < (ls.set j (some v)).length := (List.getElem?_eq_some_iff.mp h1).1
    rw [List.length_set] at hlt
    rw [List.getElem?_set_self hlt] at h1
    have hw : v = w := Option.some.inj (Option.some.inj h1)
    subst hw
    exact hl.2.2 _ List.mem_cons_self
  · rw [List.getElem?_set_ne (Ne.symm hj)] at h1
    refine hl.2.2 (j, tv_v bs b w) (List.mem_cons_of_mem _ (List.mem_filter.mpr ⟨tv_ps_mem h1 h2, ?_⟩))
    have hc : ((tv_v bs b w).category == 2) = false := by rw [tv_v_cat, tv_ok_cat h2]; rfl
    simp only [hc, Bool.and_false, Bool.not_false, Bool.and_true, Bool.not_eq_true', beq_eq_false_iff_ne, ne_eq]
    exact hj
/-- one activation of a method: the machine, the wanted end, the tables -/
abbrev tv_X : Type := (Program × Launch × Env × Room × State × MethodId × Array Value × List Frame × Method × Code) × (State → Prop) × (List vw_C × List FieldType × va_G × (Nat → ClassId) × Nat × Nat)
def tv_T (G : Nat → ClassId) (tys : List FieldType) : List (ClassId × FieldType) := (List.range tys.length).map fun t => (G t, tys.getD t .int)
theorem tv_T_at {G : Nat → ClassId} {tys : List FieldType} {t : Nat} {ty : FieldType} (h : tys[t]? = some ty) : (tv_T G tys)[t]? = some (G t, ty) := by
  have hlt : t < tys.length := (List.getElem?_eq_some_iff.mp h).1
  unfold tv_T
  rw [List.getElem?_map, List.getElem?_range hlt]
  simp [h]
/-- what a row takes of the activation: the code, the words Ts, the words of nest mates Ns, the room -/
def tv_K (X : tv_X) (cc : ByteArray) (nL : Nat) (own : String) (Ts Ns : List Cond) (CL : List vw_C) (TY : List FieldType) (rm : Room) : Prop := match X with
  | ((p, l, e, R, s, m, args, below, meth, c), Q, (cl, tys, D, G, bs, b)) =>
    p.tables.exec = Jvm.exec ∧ c.code = cc ∧ c.maxLocals = nL ∧ s.vm.findClass own = some m.cls ∧ (∀ w ∈ Ts, w.before args s = true) ∧ (∀ w ∈ Ns, va_Nw w s) ∧ va_K D cl (tv_T G tys) s ∧ meth.locks = false ∧ bs < b ∧ b ≤ s.heap.size ∧ R = rm ∧ cl = CL ∧ tys = TY
def V (X : tv_X) (cells slots n : Nat) (h : Nat → tv_C) (pc : Nat) (ls : List (Option Value)) (st : List Value) : Prop := match X with
  | ((p, l, e, R, s, m, args, below, meth, c), Q, (cl, tys, D, G, bs, b)) =>
    ∀ (H : Heap) (locs : List Loc) (real : Array Slot), tv_R cl D G bs b n h s H → va_S (fun q => b ≤ q) s.heap H locs → lv_has real ls.length (tv_ps bs b ls) → W p l e R s m args below meth c H locs cells slots Q (F0 m pc real (st.map (tv_v bs b)))
