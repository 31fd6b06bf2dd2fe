/-! switches, the law's end, less and more room, another heap -/
theorem tm_le {a b : Nat} (h : Nat.ble a b = true) : a ≤ b := Nat.le_of_ble_eq_true h
theorem tm_ne {x k : Int32} (h : ¬ x = k) : x.toInt ≠ k.toInt := fun e => h (Int32.toInt_inj.mp e)
theorem tm_out3 {x : Int32} (h0 : ¬ x = (0 : Int32)) (h1 : ¬ x = (1 : Int32)) (h2 : ¬ x = (2 : Int32)) : x.toInt < 0 ∨ 2 < x.toInt := by
  have g0 : x.toInt ≠ 0 := tm_ne h0
  have g1 : x.toInt ≠ 1 := tm_ne h1
  have g2 : x.toInt ≠ 2 := tm_ne h2
  omega
theorem tm_out10 {x : Int32} (h0 : ¬ x = (0 : Int32)) (h1 : ¬ x = (1 : Int32)) (h2 : ¬ x = (2 : Int32)) (h3 : ¬ x = (3 : Int32)) (h4 : ¬ x = (4 : Int32)) (h5 : ¬ x = (5 : Int32)) (h6 : ¬ x = (6 : Int32)) (h7 : ¬ x = (7 : Int32)) (h8 : ¬ x = (8 : Int32)) (h9 : ¬ x = (9 : Int32)) : x.toInt < 0 ∨ 9 < x.toInt := by
  have g0 : x.toInt ≠ 0 := tm_ne h0
  have g1 : x.toInt ≠ 1 := tm_ne h1
  have g2 : x.toInt ≠ 2 := tm_ne h2
  have g3 : x.toInt ≠ 3 := tm_ne h3
  have g4 : x.toInt ≠ 4 := tm_ne h4
  have g5 : x.toInt ≠ 5 := tm_ne h5
  have g6 : x.toInt ≠ 6 := tm_ne h6
  have g7 : x.toInt ≠ 7 := tm_ne h7
  have g8 : x.toInt ≠ 8 := tm_ne h8
  have g9 : x.toInt ≠ 9 := tm_ne h9
  omega
theorem tm_out12 {x : Int32} (h0 : ¬ x = (0 : Int32)) (h1 : ¬ x = (1 : Int32)) (h2 : ¬ x = (2 : Int32)) (h3 : ¬ x = (3 : Int32)) (h4 : ¬ x = (4 : Int32)) (h5 : ¬ x = (5 : Int32)) (h6 : ¬ x = (6 : Int32)) (h7 : ¬ x = (7 : Int32)) (h8 : ¬ x = (8 : Int32)) (h9 : ¬ x = (9 : Int32)) (h10 : ¬ x = (10 : Int32)) (h11 : ¬ x = (11 : Int32)) : x.toInt < 0 ∨ 11 < x.toInt := by
  have g0 : x.toInt ≠ 0 := tm_ne h0
  have g1 : x.toInt ≠ 1 := tm_ne h1
  have g2 : x.toInt ≠ 2 := tm_ne h2
  have g3 : x.toInt ≠ 3 := tm_ne h3
  have g4 : x.toInt ≠ 4 := tm_ne h4
  have g5 : x.toInt ≠ 5 := tm_ne h5
  have g6 : x.toInt ≠ 6 := tm_ne h6
  have g7 : x.toInt ≠ 7 := tm_ne h7
  have g8 : x.toInt ≠ 8 := tm_ne h8
  have g9 : x.toInt ≠ 9 := tm_ne h9
  have g10 : x.toInt ≠ 10 := tm_ne h10
  have g11 : x.toInt ≠ 11 := tm_ne h11
  omega
theorem tm_out13 {x : Int32} (h0 : ¬ x = (0 : Int32)) (h1 : ¬ x = (1 : Int32)) (h2 : ¬ x = (2 : Int32)) (h3 : ¬ x = (3 : Int32)) (h4 : ¬ x = (4 : Int32)) (h5 : ¬ x = (5 : Int32)) (h6 : ¬ x = (6 : Int32)) (h7 : ¬ x = (7 : Int32)) (h8 : ¬ x = (8 : Int32)) (h9 : ¬ x = (9 : Int32)) (h10 : ¬ x = (10 : Int32)) (h11 : ¬ x = (11 : Int32)) (h12 : ¬ x = (12 : Int32)) : x.toInt < 0 ∨ 12 < x.toInt := by
  have g0 : x.toInt ≠ 0 := tm_ne h0
  have g1 : x.toInt ≠ 1 := tm_ne h1
  have g2 : x.toInt ≠ 2 := tm_ne h2
  have g3 : x.toInt ≠ 3 := tm_ne h3
  have g4 : x.toInt ≠ 4 := tm_ne h4
  have g5 : x.toInt ≠ 5 := tm_ne h5
  have g6 : x.toInt ≠ 6 := tm_ne h6
  have g7 : x.toInt ≠ 7 := tm_ne h7
  have g8 : x.toInt ≠ 8 := tm_ne h8
  have g9 : x.toInt ≠ 9 := tm_ne h9
  have g10 : x.toInt ≠ 10 := tm_ne h10
  have g11 : x.toInt ≠ 11 := tm_ne h11
  have g12 : x.toInt ≠ 12 := tm_ne h12
  omega
abbrev tm_lc : Nat := 1000
abbrev tm_ls : Nat := 10000
def tv_law (X : tv_X) : Prop := match X with
  | ((p, l, e, R, s, m, args, below, meth, c), Q, (cl, tys, D, G, bs, b)) => args = #[Value.ref bs] ∧ Q = lw_Z below #[Value.ref bs] s ∧ meth.sig.returnType = ret ∧ b = s.heap.size
section TVL
variable {X : tv_X} {cells slots n : Nat} {h h' : Nat → tv_C} {pc : Nat} {ls : List (Option Value)} {st : List Value} {nL : Nat} {own : String} {Ts Ns : List Cond} {CL : List vw_C} {TY : List FieldType}
theorem V.lret (hC : tv_K X code nL own Ts Ns CL TY room_1) (hE : tv_law X) {x : Int32} (hd : decode code pc = .ok (.ireturn, 1)) (h1 : x = 1) : V X tm_lc tm_ls n h pc ls [.int x] := by
  obtain ⟨⟨p, l, e, R, s, m, args, below, meth, c⟩, Q, ⟨cl, tys, D, G, bs, b⟩⟩ := X
  obtain ⟨hx, hb, hml, hown, hts, hns, hK, hlk, hbs, hbz, rfl, rfl, rfl⟩ := hC
  obtain ⟨rfl, rfl, hr, rfl⟩ := hE
  subst h1
  intro H locs real hR hS hl
  exact va_forget (fun q hq => hS.2.2 q hq) (W.widen (by decide) (by decide) (lw_ret hx hb hr hlk hd))
theorem V.widen {k m : Nat} (h1 : cells ≤ k) (h2 : slots ≤ m) (kk : V X k m n h pc ls st) : V X cells slots n h pc ls st := by
  obtain ⟨⟨p, l, e, R, s, m, args, below, meth, c⟩, Q, ⟨cl, tys, D, G, bs, b⟩⟩ := X
  intro H locs real hR hS hl
  exact W.widen h1 h2 (kk H locs real hR hS hl)
theorem tv_W_congr {G : Nat → ClassId} {bs b n : Nat} {h h' : Nat → tv_C} (he : ∀ q, q ≤ n → h q = h' q) : tv_W G bs b n h = tv_W G bs b n h' := by
  unfold tv_W
  apply List.map_congr_left
  intro a ha
  have ha := List.mem_range.mp ha
  rw [he (a + 1) (by omega)]
theorem V.congr (he : ∀ q, q ≤ n → h q = h' q) (kk : V X cells slots n h' pc ls st) : V X cells slots n h pc ls st := by
  obtain ⟨⟨p, l, e, R, s, m, args, below, meth, c⟩, Q, ⟨cl, tys, D, G, bs, b⟩⟩ := X
  intro H locs real hR hS hl
  refine kk H locs real ⟨hR.1, ?_, ?_⟩ hS hl
  · rw [← tv_W_congr he]
    exact hR.2.1
  · rw [← he 0 (Nat.zero_le _)]
    exact hR.2.2
end TVL
