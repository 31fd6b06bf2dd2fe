/-! rows over V: branches -/
section TVC
variable {X : tv_X} {cells slots n : Nat} {h : Nat → tv_C} {pc : Nat} {ls : List (Option Value)} {st : List Value} {cc : ByteArray} {nL : Nat} {own : String} {Ts Ns : List Cond} {CL : List vw_C} {TY : List FieldType} {rm : Room}
theorem V.if_eq (hC : tv_K X cc nL own Ts Ns CL TY rm) {x : Int32} {off : Int} {tgt : Nat} (hd : decode cc pc = .ok (.ifCond .eq off, 3)) (ht : (pc : Int) + off = (tgt : Int)) (kt : x = 0 → V X cells slots n h tgt ls st) (kf : ¬ x = 0 → V X cells slots n h (pc + 3) ls st) : V X cells slots n h pc ls (.int x :: st) := by
  obtain ⟨⟨p, l, e, R, s, m, args, below, meth, c⟩, Q, ⟨cl, tys, D, G, bs, b⟩⟩ := X
  obtain ⟨hx, hb, -⟩ := hC
  intro H locs real hR hS hl
  exact lv_if_eq hx hb hd ht (fun q => kt q H locs real hR hS hl) (fun q => kf q H locs real hR hS hl)
theorem V.icmp_eq (hC : tv_K X cc nL own Ts Ns CL TY rm) {x y : Int32} {off : Int} {tgt : Nat} (hd : decode cc pc = .ok (.if_icmp .eq off, 3)) (ht : (pc : Int) + off = (tgt : Int)) (kt : x = y → V X cells slots n h tgt ls st) (kf : ¬ x = y → V X cells slots n h (pc + 3) ls st) : V X cells slots n h pc ls (.int y :: .int x :: st) := by
  obtain ⟨⟨p, l, e, R, s, m, args, below, meth, c⟩, Q, ⟨cl, tys, D, G, bs, b⟩⟩ := X
  obtain ⟨hx, hb, -⟩ := hC
  intro H locs real hR hS hl
  exact lv_icmp_eq hx hb hd ht (fun q => kt q H locs real hR hS hl) (fun q => kf q H locs real hR hS hl)
theorem V.if_ne (hC : tv_K X cc nL own Ts Ns CL TY rm) {x : Int32} {off : Int} {tgt : Nat} (hd : decode cc pc = .ok (.ifCond .ne off, 3)) (ht : (pc : Int) + off = (tgt : Int)) (kt : ¬ x = 0 → V X cells slots n h tgt ls st) (kf : x = 0 → V X cells slots n h (pc + 3) ls st) : V X cells slots n h pc ls (.int x :: st) := by
  obtain ⟨⟨p, l, e, R, s, m, args, below, meth, c⟩, Q, ⟨cl, tys, D, G, bs, b⟩⟩ := X
  obtain ⟨hx, hb, -⟩ := hC
  intro H locs real hR hS hl
  exact lv_if_ne hx hb hd ht (fun q => kt q H locs real hR hS hl) (fun q => kf q H locs real hR hS hl)
theorem V.icmp_ne (hC : tv_K X cc nL own Ts Ns CL TY rm) {x y : Int32} {off : Int} {tgt : Nat} (hd : decode cc pc = .ok (.if_icmp .ne off, 3)) (ht : (pc : Int) + off = (tgt : Int)) (kt : ¬ x = y → V X cells slots n h tgt ls st) (kf : x = y → V X cells slots n h (pc + 3) ls st) : V X cells slots n h pc ls (.int y :: .int x :: st) := by
  obtain ⟨⟨p, l, e, R, s, m, args, below, meth, c⟩, Q, ⟨cl, tys, D, G, bs, b⟩⟩ := X
  obtain ⟨hx, hb, -⟩ := hC
  intro H locs real hR hS hl
  exact lv_icmp_ne hx hb hd ht (fun q => kt q H locs real hR hS hl) (fun q => kf q H locs real hR hS hl)
theorem V.if_lt (hC : tv_K X cc nL own Ts Ns CL TY rm) {x : Int32} {off : Int} {tgt : Nat} (hd : decode cc pc = .ok (.ifCond .lt off, 3)) (ht : (pc : Int) + off = (tgt : Int)) (kt : x < 0 → V X cells slots n h tgt ls st) (kf : ¬ x < 0 → V X cells slots n h (pc + 3) ls st) : V X cells slots n h pc ls (.int x :: st) := by
  obtain ⟨⟨p, l, e, R, s, m, args, below, meth, c⟩, Q, ⟨cl, tys, D, G, bs, b⟩⟩ := X
  obtain ⟨hx, hb, -⟩ := hC
  intro H locs real hR hS hl
  exact lv_if_lt hx hb hd ht (fun q => kt q H locs real hR hS hl) (fun q => kf q H locs real hR hS hl)
theorem V.icmp_lt (hC : tv_K X cc nL own Ts Ns CL TY rm) {x y : Int32} {off : Int} {tgt : Nat} (hd : decode cc pc = .ok (.if_icmp .lt off, 3)) (ht : (pc : Int) + off = (tgt : Int)) (kt : x < y → V X cells slots n h tgt ls st) (kf : ¬ x < y → V X cells slots n h (pc + 3) ls st) : V X cells slots n h pc ls (.int y :: .int x :: st) := by
  obtain ⟨⟨p, l, e, R, s, m, args, below, meth, c⟩, Q, ⟨cl, tys, D, G, bs, b⟩⟩ := X
  obtain ⟨hx, hb, -⟩ := hC
  intro H locs real hR hS hl
  exact lv_icmp_lt hx hb hd ht (fun q => kt q H locs real hR hS hl) (fun q => kf q H locs real hR hS hl)
theorem V.if_ge (hC : tv_K X cc nL own Ts Ns CL TY rm) {x : Int32} {off : Int} {tgt : Nat} (hd : decode cc pc = .ok (.ifCond .ge off, 3)) (ht : (pc : Int) + off = (tgt : Int)) (kt : 0 ≤ x → V X cells slots n h tgt ls st) (kf : ¬ 0 ≤ x → V X cells slots n h (pc + 3) ls st) : V X cells slots n h pc ls (.int x :: st) := by
  obtain ⟨⟨p, l, e, R, s, m, args, below, meth, c⟩, Q, ⟨cl, tys, D, G, bs, b⟩⟩ := X
  obtain ⟨hx, hb, -⟩ := hC
  intro H locs real hR hS hl
  exact lv_if_ge hx hb hd ht (fun q => kt q H locs real hR hS hl) (fun q => kf q H locs real hR hS hl)
theorem V.icmp_ge (hC : tv_K X cc nL own Ts Ns CL TY rm) {x y : Int32} {off : Int} {tgt : Nat} (hd : decode cc pc = .ok (.if_icmp .ge off, 3)) (ht : (pc : Int) + off = (tgt : Int)) (kt : y ≤ x → V X cells slots n h tgt ls st) (kf : ¬ y ≤ x → V X cells slots n h (pc + 3) ls st) : V X cells slots n h pc ls (.int y :: .int x :: st) := by
  obtain ⟨⟨p, l, e, R, s, m, args, below, meth, c⟩, Q, ⟨cl, tys, D, G, bs, b⟩⟩ := X
  obtain ⟨hx, hb, -⟩ := hC
  intro H locs real hR hS hl
  exact lv_icmp_ge hx hb hd ht (fun q => kt q H locs real hR hS hl) (fun q => kf q H locs real hR hS hl)
theorem V.if_gt (hC : tv_K X cc nL own Ts Ns CL TY rm) {x : Int32} {off : Int} {tgt : Nat} (hd : decode cc pc = .ok (.ifCond .gt off, 3)) (ht : (pc : Int) + off = (tgt : Int)) (kt : 0 < x → V X cells slots n h tgt ls st) (kf : ¬ 0 < x → V X cells slots n h (pc + 3) ls st) : V X cells slots n h pc ls (.int x :: st) := by
  obtain ⟨⟨p, l, e, R, s, m, args, below, meth, c⟩, Q, ⟨cl, tys, D, G, bs, b⟩⟩ := X
  obtain ⟨hx, hb, -⟩ := hC
  intro H locs real hR hS hl
  exact lv_if_gt hx hb hd ht (fun q => kt q H locs real hR hS hl) (fun q => kf q H locs real hR hS hl)
theorem V.icmp_gt (hC : tv_K X cc nL own Ts Ns CL TY rm) {x y : Int32} {off : Int} {tgt : Nat} (hd : decode cc pc = .ok (.if_icmp .gt off, 3)) (ht : (pc : Int) + off = (tgt : Int)) (kt : y < x → V X cells slots n h tgt ls st) (kf : ¬ y < x → V X cells slots n h (pc + 3) ls st) : V X cells slots n h pc ls (.int y :: .int x :: st) := by
  obtain ⟨⟨p, l, e, R, s, m, args, below, meth, c⟩, Q, ⟨cl, tys, D, G, bs, b⟩⟩ := X
  obtain ⟨hx, hb, -⟩ := hC
  intro H locs real hR hS hl
  exact lv_icmp_gt hx hb hd ht (fun q => kt q H locs real hR hS hl) (fun q => kf q H locs real hR hS hl)
theorem V.if_le (hC : tv_K X cc nL own Ts Ns CL TY rm) {x : Int32} {off : Int} {tgt : Nat} (hd : decode cc pc = .ok (.ifCond .le off, 3)) (ht : (pc : Int) + off = (tgt : Int)) (kt : x ≤ 0 → V X cells slots n h tgt ls st) (kf : ¬ x ≤ 0 → V X cells slots n h (pc + 3) ls st) : V X cells slots n h pc ls (.int x :: st) := by
  obtain ⟨⟨p, l, e, R, s, m, args, below, meth, c⟩, Q, ⟨cl, tys, D, G, bs, b⟩⟩ := X
  obtain ⟨hx, hb, -⟩ := hC
  intro H locs real hR hS hl
  exact lv_if_le hx hb hd ht (fun q => kt q H locs real hR hS hl) (fun q => kf q H locs real hR hS hl)
theorem V.icmp_le (hC : tv_K X cc nL own Ts Ns CL TY rm) {x y : Int32} {off : Int} {tgt : Nat} (hd : decode cc pc = .ok (.if_icmp .le off, 3)) (ht : (pc : Int) + off = (tgt : Int)) (kt : x ≤ y → V X cells slots n h tgt ls st) (kf : ¬ x ≤ y → V X cells slots n h (pc + 3) ls st) : V X cells slots n h pc ls (.int y :: .int x :: st) := by
  obtain ⟨⟨p, l, e, R, s, m, args, below, meth, c⟩, Q, ⟨cl, tys, D, G, bs, b⟩⟩ := X
  obtain ⟨hx, hb, -⟩ := hC
  intro H locs real hR hS hl
  exact lv_icmp_le hx hb hd ht (fun q => kt q H locs real hR hS hl) (fun q => kf q H locs real hR hS hl)
theorem V.goto (hC : tv_K X cc nL own Ts Ns CL TY rm) {off : Int} {tgt : Nat} (hd : decode cc pc = .ok (.goto off, 3)) (ht : (pc : Int) + off = (tgt : Int)) (k : V X cells slots n h tgt ls st) : V X cells slots n h pc ls st := by
  obtain ⟨⟨p, l, e, R, s, m, args, below, meth, c⟩, Q, ⟨cl, tys, D, G, bs, b⟩⟩ := X
  obtain ⟨hx, hb, -⟩ := hC
  intro H locs real hR hS hl
  exact lv_goto hx hb hd ht (k H locs real hR hS hl)
theorem V.ifnonnull (hC : tv_K X cc nL own Ts Ns CL TY rm) {x : Nat} {off : Int} {tgt : Nat} (hd : decode cc pc = .ok (.ifnonnull off, 3)) (ht : (pc : Int) + off = (tgt : Int)) (k : V X cells slots n h tgt ls st) : V X cells slots n h pc ls (.ref x :: st) := by
  obtain ⟨⟨p, l, e, R, s, m, args, below, meth, c⟩, Q, ⟨cl, tys, D, G, bs, b⟩⟩ := X
  obtain ⟨hx, hb, -⟩ := hC
  intro H locs real hR hS hl
  exact lv_ifnonnull hx hb hd ht (k H locs real hR hS hl)
theorem V.ifnull (hC : tv_K X cc nL own Ts Ns CL TY rm) {x : Nat} {off : Int} (hd : decode cc pc = .ok (.ifnull off, 3)) (k : V X cells slots n h (pc + 3) ls st) : V X cells slots n h pc ls (.ref x :: st) := by
  obtain ⟨⟨p, l, e, R, s, m, args, below, meth, c⟩, Q, ⟨cl, tys, D, G, bs, b⟩⟩ := X
  obtain ⟨hx, hb, -⟩ := hC
  intro H locs real hR hS hl
  exact lv_ifnull hx hb hd (k H locs real hR hS hl)
theorem V.ifnullN (hC : tv_K X cc nL own Ts Ns CL TY rm) {off : Int} {tgt : Nat} (hd : decode cc pc = .ok (.ifnull off, 3)) (ht : (pc : Int) + off = (tgt : Int)) (k : V X cells slots n h tgt ls st) : V X cells slots n h pc ls (.null :: st) := by
  obtain ⟨⟨p, l, e, R, s, m, args, below, meth, c⟩, Q, ⟨cl, tys, D, G, bs, b⟩⟩ := X
  obtain ⟨hx, hb, -⟩ := hC
  intro H locs real hR hS hl
  exact lv_ifnullN hx hb hd ht (k H locs real hR hS hl)
theorem V.ifnonnullN (hC : tv_K X cc nL own Ts Ns CL TY rm) {off : Int} (hd : decode cc pc = .ok (.ifnonnull off, 3)) (k : V X cells slots n h (pc + 3) ls st) : V X cells slots n h pc ls (.null :: st) := by
  obtain ⟨⟨p, l, e, R, s, m, args, below, meth, c⟩, Q, ⟨cl, tys, D, G, bs, b⟩⟩ := X
  obtain ⟨hx, hb, -⟩ := hC
  intro H locs real hR hS hl
  exact lv_ifnonnullN hx hb hd (k H locs real hR hS hl)
theorem V.lookup (hC : tv_K X cc nL own Ts Ns CL TY rm) {dflt : Int} {ps : Array (Int × Int)} {len : Nat} {x : Int32} {off : Int} {tgt : Nat} (hd : decode cc pc = .ok (.lookupswitch dflt ps, len)) (hp : (ps.toList.zip (ps.toList.drop 1)).all (fun (a, next) => a.1 < next.1) = true) (ho : Op.lookupswitch.offset ps.toList dflt x.toInt = off) (ht : (pc : Int) + off = (tgt : Int)) (k : V X cells slots n h tgt ls st) : V X cells slots n h pc ls (.int x :: st) := by
  obtain ⟨⟨p, l, e, R, s, m, args, below, meth, c⟩, Q, ⟨cl, tys, D, G, bs, b⟩⟩ := X
  obtain ⟨hx, hb, -⟩ := hC
  intro H locs real hR hS hl
  exact lv_lookup hx hb hd hp ho ht (k H locs real hR hS hl)
theorem V.tableOut (hC : tv_K X cc nL own Ts Ns CL TY rm) {dflt lo hi : Int} {offs : Array Int} {len : Nat} {x : Int32} {tgt : Nat} (hd : decode cc pc = .ok (.tableswitch dflt lo hi offs, len)) (hq : x.toInt < lo ∨ hi < x.toInt) (ht : (pc : Int) + dflt = (tgt : Int)) (k : V X cells slots n h tgt ls st) : V X cells slots n h pc ls (.int x :: st) := by
  obtain ⟨⟨p, l, e, R, s, m, args, below, meth, c⟩, Q, ⟨cl, tys, D, G, bs, b⟩⟩ := X
  obtain ⟨hx, hb, -⟩ := hC
  intro H locs real hR hS hl
  exact lv_tableOut hx hb hd hq ht (k H locs real hR hS hl)
theorem V.tableIn (hC : tv_K X cc nL own Ts Ns CL TY rm) {dflt lo hi : Int} {offs : Array Int} {len : Nat} {x : Int32} {off : Int} {tgt : Nat} (hd : decode cc pc = .ok (.tableswitch dflt lo hi offs, len)) (h1 : ¬ x.toInt < lo) (h2 : ¬ hi < x.toInt) (ho : offs[(x.toInt - lo).toNat]? = some off) (ht : (pc : Int) + off = (tgt : Int)) (k : V X cells slots n h tgt ls st) : V X cells slots n h pc ls (.int x :: st) := by
  obtain ⟨⟨p, l, e, R, s, m, args, below, meth, c⟩, Q, ⟨cl, tys, D, G, bs, b⟩⟩ := X
  obtain ⟨hx, hb, -⟩ := hC
  intro H locs real hR hS hl
  exact lv_tableIn hx hb hd h1 h2 ho ht (k H locs real hR hS hl)
theorem V.ldc (hC : tv_K X cc nL own Ts Ns CL TY rm) {index : Nat} {v : Int32} (hw : Cond.constant own index v ∈ Ts) (hd : decode cc pc = .ok (.ldc index, 2)) (k : V X cells slots n h (pc + 2) ls (.int v :: st)) : V X cells slots n h pc ls st := by
  obtain ⟨⟨p, l, e, R, s, m, args, below, meth, c⟩, Q, ⟨cl, tys, D, G, bs, b⟩⟩ := X
  obtain ⟨hx, hb, -, hown, hts, -⟩ := hC
  intro H locs real hR hS hl
  exact lv_ldc hx hb hown (hts _ hw) hd (k H locs real hR hS hl)
theorem V.idiv (hC : tv_K X cc nL own Ts Ns CL TY rm) {x y : Int32} (hd : decode cc pc = .ok (.idiv, 1)) (hne : ¬ y = 0) (k : V X cells slots n h (pc + 1) ls (.int (x / y) :: st)) : V X cells slots n h pc ls (.int y :: .int x :: st) := by
  obtain ⟨⟨p, l, e, R, s, m, args, below, meth, c⟩, Q, ⟨cl, tys, D, G, bs, b⟩⟩ := X
  obtain ⟨hx, hb, -⟩ := hC
  intro H locs real hR hS hl
  exact lv_idiv hx hb hd hne (k H locs real hR hS hl)
theorem V.irem (hC : tv_K X cc nL own Ts Ns CL TY rm) {x y : Int32} (hd : decode cc pc = .ok (.irem, 1)) (hne : ¬ y = 0) (k : V X cells slots n h (pc + 1) ls (.int (x - x / y * y) :: st)) : V X cells slots n h pc ls (.int y :: .int x :: st) := by
  obtain ⟨⟨p, l, e, R, s, m, args, below, meth, c⟩, Q, ⟨cl, tys, D, G, bs, b⟩⟩ := X
  obtain ⟨hx, hb, -⟩ := hC
  intro H locs real hR hS hl
  exact lv_irem hx hb hd hne (k H locs real hR hS hl)
theorem V.mmax (hC : tv_K X cc nL own Ts Ns CL TY rm) (hn : ls.length = nL) {index : Nat} (hw : Cond.methodLink own index Lib.Math.max.name ∈ Ts ∧ Cond.static Lib.Math.max.name ∈ Ts ∧ Cond.initialized "java/lang/Math" ∈ Ts ∧ Cond.code Lib.Math.max.name Lib.Math.max.code 2 (some .int) ∈ Ts) (hr : 1 ≤ rm.frames ∧ (st.map fun v => v.category).sum + 13 ≤ rm.locals ∧ cells ≤ rm.cells ∧ slots ≤ rm.slots) {x y : Int32} (hd : decode cc pc = .ok (.invokestatic index, 3)) (k : V X cells slots n h (pc + 3) ls (.int (if x < y then y else x) :: st)) : V X cells slots n h pc ls (.int y :: .int x :: st) := by
  obtain ⟨⟨p, l, e, R, s, m, args, below, meth, c⟩, Q, ⟨cl, tys, D, G, bs, b⟩⟩ := X
  obtain ⟨hx, hb, hml, hown, hts, -, -, -, -, -, rfl, rfl, rfl⟩ := hC
  intro H locs real hR hS hl
  exact va_mmax hx hb (by rw [hml, ← hn, hl.1]) hown (hts _ hw.1) (hts _ hw.2.1) (hts _ hw.2.2.1) (hts _ hw.2.2.2) hr.1 (by rw [tv_v_sum]; exact hr.2.1) hr.2.2.1 hr.2.2.2 hd (k H locs real hR hS hl)
theorem V.mmin (hC : tv_K X cc nL own Ts Ns CL TY rm) (hn : ls.length = nL) {index : Nat} (hw : Cond.methodLink own index Lib.Math.min.name ∈ Ts ∧ Cond.static Lib.Math.min.name ∈ Ts ∧ Cond.initialized "java/lang/Math" ∈ Ts ∧ Cond.code Lib.Math.min.name Lib.Math.min.code 2 (some .int) ∈ Ts) (hr : 1 ≤ rm.frames ∧ (st.map fun v => v.category).sum + 13 ≤ rm.locals ∧ cells ≤ rm.cells ∧ slots ≤ rm.slots) {x y : Int32} (hd : decode cc pc = .ok (.invokestatic index, 3)) (k : V X cells slots n h (pc + 3) ls (.int (if y < x then y else x) :: st)) : V X cells slots n h pc ls (.int y :: .int x :: st) := by
  obtain ⟨⟨p, l, e, R, s, m, args, below, meth, c⟩, Q, ⟨cl, tys, D, G, bs, b⟩⟩ := X
  obtain ⟨hx, hb, hml, hown, hts, -, -, -, -, -, rfl, rfl, rfl⟩ := hC
  intro H locs real hR hS hl
  exact va_mmin hx hb (by rw [hml, ← hn, hl.1]) hown (hts _ hw.1) (hts _ hw.2.1) (hts _ hw.2.2.1) (hts _ hw.2.2.2) hr.1 (by rw [tv_v_sum]; exact hr.2.1) hr.2.2.1 hr.2.2.2 hd (k H locs real hR hS hl)
end TVC
