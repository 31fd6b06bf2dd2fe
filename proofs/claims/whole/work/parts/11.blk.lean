/-! straight stretches: constants, locals, stack and arithmetic in one step -/
def tv_li (ls : List (Option Value)) (k : Nat) : Option Int32 := match ls[k]? with
  | some (some (.int x)) => some x
  | _ => none
theorem tv_li_at {ls : List (Option Value)} {k : Nat} {x : Int32} (h : tv_li ls k = some x) : ls[k]? = some (some (.int x)) := by
  unfold tv_li at h
  split at h
  · rename_i y hy
    rw [hy, Option.some.inj h]
  · cases h
def tv_la (ls : List (Option Value)) (k : Nat) : Option Value := match ls[k]? with
  | some (some (.ref a)) => some (.ref a)
  | some (some .null) => some .null
  | _ => none
theorem tv_la_at {ls : List (Option Value)} {k : Nat} {v : Value} (h : tv_la ls k = some v) : ls[k]? = some (some v) ∧ (v = .null ∨ ∃ a, v = .ref a) := by
  unfold tv_la at h
  split at h
  · rename_i a ha
    obtain rfl := Option.some.inj h
    exact ⟨ha, Or.inr ⟨a, rfl⟩⟩
  · rename_i ha
    obtain rfl := Option.some.inj h
    exact ⟨ha, Or.inl rfl⟩
  · cases h
def tv_st (ls : List (Option Value)) (k : Nat) (v : Value) : Option (List (Option Value)) := if k < ls.length then some (ls.set k (some v)) else none
theorem tv_st_at {ls ls' : List (Option Value)} {k : Nat} {v : Value} (h : tv_st ls k v = some ls') : k < ls.length ∧ ls' = ls.set k (some v) := by
  unfold tv_st at h
  split at h
  · rename_i hk
    exact ⟨hk, (Option.some.inj h).symm⟩
  · cases h
/-- one instruction: its length, the locals and the stack behind it -/
def tv_s1 (i : Instr) (ls : List (Option Value)) (st : List Value) : Option (Nat × List (Option Value) × List Value) := match i, st with
  | .iconst k, st => some (1, ls, .int (Int32.ofInt k) :: st)
  | .bipush k, st => some (2, ls, .int (Int8.ofInt k).toInt32 :: st)
  | .sipush k, st => some (3, ls, .int (Int16.ofInt k).toInt32 :: st)
  | .aconst_null, st => some (1, ls, .null :: st)
  | .iload_n k, st => (tv_li ls (k : Nat)).map fun x => (1, ls, .int x :: st)
  | .iload k, st => (tv_li ls k).map fun x => (2, ls, .int x :: st)
  | .aload_n k, st => (tv_la ls (k : Nat)).map fun v => (1, ls, v :: st)
  | .aload k, st => (tv_la ls k).map fun v => (2, ls, v :: st)
  | .istore_n k, .int x :: st => (tv_st ls (k : Nat) (.int x)).map fun ls' => (1, ls', st)
  | .istore k, .int x :: st => (tv_st ls k (.int x)).map fun ls' => (2, ls', st)
  | .astore_n k, .ref x :: st => (tv_st ls (k : Nat) (.ref x)).map fun ls' => (1, ls', st)
  | .astore k, .ref x :: st => (tv_st ls k (.ref x)).map fun ls' => (2, ls', st)
  | .astore_n k, .null :: st => (tv_st ls (k : Nat) .null).map fun ls' => (1, ls', st)
  | .astore k, .null :: st => (tv_st ls k .null).map fun ls' => (2, ls', st)
  | .iinc k d, st => (tv_li ls k).map fun x => (3, ls.set k (some (.int (x + Int32.ofInt d))), st)
  | .iadd, .int y :: .int x :: st => some (1, ls, .int (x + y) :: st)
  | .isub, .int y :: .int x :: st => some (1, ls, .int (x - y) :: st)
  | .imul, .int y :: .int x :: st => some (1, ls, .int (x * y) :: st)
  | .iand, .int y :: .int x :: st => some (1, ls, .int (x &&& y) :: st)
  | .ior, .int y :: .int x :: st => some (1, ls, .int (x ||| y) :: st)
  | .ixor, .int y :: .int x :: st => some (1, ls, .int (x ^^^ y) :: st)
  | .ishl, .int y :: .int x :: st => some (1, ls, .int (x <<< (y &&& 31)) :: st)
  | .ishr, .int y :: .int x :: st => some (1, ls, .int (x >>> (y &&& 31)) :: st)
  | .iushr, .int y :: .int x :: st => some (1, ls, .int (x.toUInt32 >>> (y.toUInt32 &&& Int32.toUInt32 31)).toInt32 :: st)
  | .ineg, .int x :: st => some (1, ls, .int (-x) :: st)
  | .dup, v :: st => if tv_ok v = true then some (1, ls, v :: v :: st) else none
  | .pop, v :: st => if tv_ok v = true then some (1, ls, st) else none
  | .dup_x1, v :: w :: st => if tv_ok v = true ∧ tv_ok w = true then some (1, ls, v :: w :: v :: st) else none
  | .dup_x2, v :: w :: u :: st => if tv_ok v = true ∧ tv_ok w = true ∧ tv_ok u = true then some (1, ls, v :: w :: u :: v :: st) else none
  | .dup2, v :: w :: st => if tv_ok v = true ∧ tv_ok w = true then some (1, ls, v :: w :: v :: w :: st) else none
  | _, _ => none
def tv_dec (cc : ByteArray) (pc : Nat) (is : List (Instr × Nat)) : Prop := match is with
  | [] => True
  | i :: t => decode cc pc = .ok i ∧ tv_dec cc (pc + i.2) t
def tv_run (is : List (Instr × Nat)) (pc : Nat) (ls : List (Option Value)) (st : List Value) : Option (Nat × List (Option Value) × List Value) := match is with
  | [] => some (pc, ls, st)
  | i :: t => match tv_s1 i.1 ls st with
    | none => none
    | some r => if r.1 = i.2 then tv_run t (pc + i.2) r.2.1 r.2.2 else none
theorem tv_cat1 {v : Value} (bs b : Nat) (h : tv_ok v = true) : (tv_v bs b v).category = 1 := by rw [tv_v_cat]; exact tv_ok_cat h
section TVB
variable {X : tv_X} {cells slots n : Nat} {h : Nat → tv_C} {pc : Nat} {ls ls' : List (Option Value)} {st st' : List Value} {cc : ByteArray} {nL : Nat} {own : String} {Ts Ns : List Cond} {CL : List vw_C} {TY : List FieldType} {rm : Room}
theorem tv_len {real : Array Slot} {k : Nat} {v : Option Value} {l : List (Nat × Value)} (hl : lv_has real ls.length l) : lv_has real (ls.set k v).length l := by rw [List.length_set]; exact hl
set_option maxHeartbeats 4000000 in
theorem V.one (hC : tv_K X cc nL own Ts Ns CL TY rm) {i : Instr} {len : Nat} (hd : decode cc pc = .ok (i, len)) (hs : tv_s1 i ls st = some (len, ls', st')) (k : V X cells slots n h (pc + len) ls' st') : V X cells slots n h pc ls st := by
  obtain ⟨⟨p, l, e, R, s, m, args, below, meth, c⟩, Q, ⟨cl, tys, D, G, bs, b⟩⟩ := X
  obtain ⟨hx, hb, -⟩ := hC
  intro H locs real hR hS hl
  unfold tv_s1 at hs
  split at hs
  · cases hs; exact lv_iconst hx hb hd rfl (k H locs real hR hS hl)
  · cases hs; exact lv_bipush hx hb hd rfl (k H locs real hR hS hl)
  · cases hs; exact lv_sipush hx hb hd rfl (k H locs real hR hS hl)
  · cases hs; exact lv_null hx hb hd (k H locs real hR hS hl)
  · obtain ⟨x, h1, h2⟩ := Option.map_eq_some_iff.mp hs
    cases h2
    exact lv_iload_n hx hb hd rfl (tv_at hl (tv_li_at h1) rfl) (k H locs real hR hS hl)
  · obtain ⟨x, h1, h2⟩ := Option.map_eq_some_iff.mp hs
    cases h2
    exact lv_iload hx hb hd (tv_at hl (tv_li_at h1) rfl) (k H locs real hR hS hl)
  · obtain ⟨v, h1, h2⟩ := Option.map_eq_some_iff.mp hs
    cases h2
    obtain ⟨h3, rfl | ⟨a, rfl⟩⟩ := tv_la_at h1
    · exact lv_aload_nN hx hb hd rfl (tv_at hl h3 rfl) (k H locs real hR hS hl)
    · exact lv_aload_n hx hb hd rfl (tv_at hl h3 rfl) (k H locs real hR hS hl)
  · obtain ⟨v, h1, h2⟩ := Option.map_eq_some_iff.mp hs
    cases h2
    obtain ⟨h3, rfl | ⟨a, rfl⟩⟩ := tv_la_at h1
    · exact lv_aloadN hx hb hd (tv_at hl h3 rfl) (k H locs real hR hS hl)
    · exact lv_aload hx hb hd (tv_at hl h3 rfl) (k H locs real hR hS hl)
  · obtain ⟨l2, h1, h2⟩ := Option.map_eq_some_iff.mp hs
    cases h2
    obtain ⟨h3, rfl⟩ := tv_st_at h1
    exact lv_istore_n hx hb hd rfl hl h3 rfl (fun r2 h4 => k H locs r2 hR hS (tv_len (tv_set h4)))
  · obtain ⟨l2, h1, h2⟩ := Option.map_eq_some_iff.mp hs
    cases h2
    obtain ⟨h3, rfl⟩ := tv_st_at h1
    exact lv_istore hx hb hd hl h3 rfl (fun r2 h4 => k H locs r2 hR hS (tv_len (tv_set h4)))
  · obtain ⟨l2, h1, h2⟩ := Option.map_eq_some_iff.mp hs
    cases h2
    obtain ⟨h3, rfl⟩ := tv_st_at h1
    exact lv_astore_n hx hb hd rfl hl h3 rfl (fun r2 h4 => k H locs r2 hR hS (tv_len (tv_set h4)))
  · obtain ⟨l2, h1, h2⟩ := Option.map_eq_some_iff.mp hs
    cases h2
    obtain ⟨h3, rfl⟩ := tv_st_at h1
    exact lv_astore hx hb hd hl h3 rfl (fun r2 h4 => k H locs r2 hR hS (tv_len (tv_set h4)))
  · obtain ⟨l2, h1, h2⟩ := Option.map_eq_some_iff.mp hs
    cases h2
    obtain ⟨h3, rfl⟩ := tv_st_at h1
    exact lv_astore_nN hx hb hd rfl hl h3 rfl (fun r2 h4 => k H locs r2 hR hS (tv_len (tv_set h4)))
  · obtain ⟨l2, h1, h2⟩ := Option.map_eq_some_iff.mp hs
    cases h2
    obtain ⟨h3, rfl⟩ := tv_st_at h1
    exact lv_astoreN hx hb hd hl h3 rfl (fun r2 h4 => k H locs r2 hR hS (tv_len (tv_set h4)))
  · obtain ⟨x, h1, h2⟩ := Option.map_eq_some_iff.mp hs
    cases h2
    obtain ⟨q, hq⟩ := List.getElem?_of_mem (tv_ps_mem (bs := bs) (b := b) (tv_li_at h1) rfl)
    exact lv_iinc hx hb hd hl hq rfl (List.getElem?_eq_some_iff.mp (tv_li_at h1)).1 rfl (fun r2 h4 => k H locs r2 hR hS (tv_len (tv_set h4)))
  · cases hs; exact lv_iadd hx hb hd (k H locs real hR hS hl)
  · cases hs; exact lv_isub hx hb hd (k H locs real hR hS hl)
  · cases hs; exact lv_imul hx hb hd (k H locs real hR hS hl)
  · cases hs; exact lv_iand hx hb hd (k H locs real hR hS hl)
  · cases hs; exact lv_ior hx hb hd (k H locs real hR hS hl)
  · cases hs; exact lv_ixor hx hb hd (k H locs real hR hS hl)
  · cases hs; exact lv_ishl hx hb hd (k H locs real hR hS hl)
  · cases hs; exact lv_ishr hx hb hd (k H locs real hR hS hl)
  · cases hs; exact lv_iushr hx hb hd rfl (k H locs real hR hS hl)
  · cases hs; exact lv_ineg hx hb hd (k H locs real hR hS hl)
  · split at hs
    · rename_i h1; cases hs; exact lv_dup hx hb hd (tv_cat1 bs b h1) (k H locs real hR hS hl)
    · cases hs
  · split at hs
    · rename_i h1; cases hs; exact lv_pop hx hb hd (tv_cat1 bs b h1) (k H locs real hR hS hl)
    · cases hs
  · split at hs
    · rename_i h1; cases hs; exact lv_dup_x1 hx hb hd (tv_cat1 bs b h1.1) (tv_cat1 bs b h1.2) (k H locs real hR hS hl)
    · cases hs
  · split at hs
    · rename_i h1; cases hs; exact lv_dup_x2 hx hb hd (tv_cat1 bs b h1.1) (tv_cat1 bs b h1.2.1) (tv_cat1 bs b h1.2.2) (k H locs real hR hS hl)
    · cases hs
  · split at hs
    · rename_i h1; cases hs; exact lv_dup2_11 hx hb hd (tv_cat1 bs b h1.1) (tv_cat1 bs b h1.2) (k H locs real hR hS hl)
    · cases hs
  · cases hs
theorem V.blk (hC : tv_K X cc nL own Ts Ns CL TY rm) {pc' : Nat} : ∀ (is : List (Instr × Nat)) (pc : Nat) (ls : List (Option Value)) (st : List Value), tv_dec cc pc is → tv_run is pc ls st = some (pc', ls', st') → V X cells slots n h pc' ls' st' → V X cells slots n h pc ls st
  | [], pc, ls, st, _, hr, k => by
    cases hr
    exact k
  | i :: t, pc, ls, st, hd, hr, k => by
    unfold tv_run at hr
    split at hr
    · cases hr
    · rename_i r hs
      split at hr
      · rename_i he
        refine V.one hC (i := i.1) (len := i.2) hd.1 (hs.trans ?_) (V.blk hC t _ _ _ hd.2 hr k)
        rw [← he]
      · cases hr
end TVB
