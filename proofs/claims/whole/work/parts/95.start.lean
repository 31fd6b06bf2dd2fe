/-! the law up to its loop -/
theorem sc_a : ∀ L, L < 2564 → ∀ i, i < 3 → ¬ (Int32.ofNat L ≤ Int32.ofNat i) → ¬ (Int32.ofNat i < 0 ∨ L ≤ (Int32.ofNat i).toNatClampNeg) := by decide +kernel
def sc (L : Nat) (xs : Nat → Int32) (i : Nat) : Int32 := if Int32.ofNat L ≤ Int32.ofNat i then 0 else xs (Int32.ofNat i).toNatClampNeg
set_option maxHeartbeats 4000000 in
theorem k_cell {L n i : Nat} {xs : Nat → Int32} {h : Nat → tv_C} (hL : L ≤ 2563) (hi : i < 3) (h0 : h 0 = .inl (0, (L, .inl xs))) : tv_Met ty_L_cell (Cond.code ty_L_cell tb_L_cell 2 (some .int) :: tm_wg) tm_ns tm_cl tm_ty 0 0 0 0 [.ref 0, .int (Int32.ofNat i)] n h (fun v n' h' => v = some (.int (sc L xs i)) ∧ n' = n ∧ h' = h) := by
  refine tv_Met.of (by decide) rfl (tm_le rfl) ?_
  intro X hC hnm hr hE
  have hC : tv_K X tb_L_cell 2 "TrickleMeshLaw" tm_wg tm_ns tm_cl tm_ty { frames := 0, cells := 0, slots := 0, locals := 0 } := hC
  show V X 0 0 n h 0 [some (.ref 0), some (.int (Int32.ofNat i))] []
  refine V.blk hC [(.iload_n 1, 1), (.aload_n 0, 1)] 0 _ _ ⟨d_L_cell_0, d_L_cell_1, trivial⟩ (show tv_run _ _ _ _ = some (2, [some (.ref 0), some (.int (Int32.ofNat i))], [.ref 0, .int (Int32.ofNat i)]) from rfl) ?_
  refine V.slen hC h0 d_L_cell_2 ?_
  refine V.icmp_ge hC d_L_cell_3 (tgt := 12) (by decide) (fun hc => ?_) (fun hc => ?_)
  · refine V.blk hC [(.iconst 0, 1)] 12 _ _ ⟨d_L_cell_12, trivial⟩ (show tv_run _ _ _ _ = some (13, [some (.ref 0), some (.int (Int32.ofNat i))], [.int (0 : Int32)]) from rfl) ?_
    exact V.iret hC hr hE d_L_cell_13 ⟨by unfold sc; rw [if_pos hc], rfl, rfl⟩
  · refine V.blk hC [(.aload_n 0, 1), (.iload_n 1, 1)] 6 _ _ ⟨d_L_cell_6, d_L_cell_7, trivial⟩ (show tv_run _ _ _ _ = some (8, [some (.ref 0), some (.int (Int32.ofNat i))], [.int (Int32.ofNat i), .ref 0]) from rfl) ?_
    refine V.sld hC h0 (sc_a L (by omega) i hi hc) d_L_cell_8 ?_
    refine V.goto hC d_L_cell_9 (tgt := 13) (by decide) ?_
    exact V.iret hC hr hE d_L_cell_13 ⟨by unfold sc; rw [if_neg hc], rfl, rfl⟩
section START
variable {X : tv_X}
theorem k_cellV {cells slots n i pc : Nat} {h : Nat → tv_C} {ls : List (Option Value)} {st : List Value} {L : Nat} {xs : Nat → Int32} (hC : tv_K X code 4 "TrickleMeshLaw" tm_wg tm_ns tm_cl tm_ty room_1) (hnl : ls.length = 4) (hL : L ≤ 2563) (hi : i < 3) (h0 : h 0 = .inl (0, (L, .inl xs))) (hrm : cells ≤ 600000 ∧ slots ≤ 7302250) (hsum : (st.map fun v => v.category).sum ≤ 8) (hd : decode code pc = .ok (.invokestatic 9, 3)) (kk : V X cells slots n h (pc + 3) ls (.int (sc L xs i) :: st)) : V X cells slots n h pc ls (.int (Int32.ofNat i) :: .ref 0 :: st) := by
  refine V.callS hC tm_nest hnl (k_cell (n := n) hL hi h0) (tm_gd tc_L_cell) tg_L_9 th_L_cell ⟨tm_le rfl, tm_le rfl, hrm.1, hrm.2⟩ (As := [.ref 0, .int (Int32.ofNat i)]) (st := st) rfl hsum hd ?_
  rintro v n2 h2 ⟨rfl, rfl, rfl⟩
  exact kk
set_option maxHeartbeats 4000000 in
set_option maxRecDepth 100000 in
theorem k_law (hC : tv_K X code 4 "TrickleMeshLaw" tm_wg tm_ns tm_cl tm_ty room_1) (hE : tv_law X) {h : Nat → tv_C} {L : Nat} {xs : Nat → Int32} (hL : L ≤ 2563) (h0 : h 0 = .inl (0, (L, .inl xs))) : V X 0 0 0 h 0 [some (.ref 0), none, none, none] [] := by
  obtain ⟨σ1, σ2, e1, e2, eL, I⟩ := i_all (L := L) (xs := xs) (a := sc L xs 0) (r := clR (sc L xs 1)) (k := clK (sc L xs 2))
  have h1 : (hp σ1) 0 = .inl (0, (L, .inl xs)) := by
    obtain ⟨σ1', e1', r1⟩ := x_reset (i_RX (L := L) (xs := xs) (a := sc L xs 0) (r := clR (sc L xs 1)) (k := clK (sc L xs 2))) (n := 0) (by omega)
    obtain rfl : σ1 = σ1' := Option.some.inj (e1.symm.trans e1')
    have f := r1.2.2 0 (Or.inl rfl)
    rw [hp_at kd_0, f.1, f.2]
    rfl
  refine V.new hC (ci := 4) (C := tR_X) (T := tT_X) (N := 11) (fs := [.int 0, .int 0, .null, .null, .int 0, .int 0, .int 0, .int 0, .int 0, .int 0, .int 0]) tt_X to_X rfl tl_X ⟨tw_L_7, tm_mk_X, ti_X⟩ te_X ⟨tm_le rfl, tm_le rfl⟩ d_L_law_0 ?_
  refine V.congr (hx_one (b := 0)) ?_
  refine V.blk hC [(.dup, 1), (.aload_n 0, 1), (.iconst 0, 1)] 3 _ _ ⟨d_L_law_3, d_L_law_4, d_L_law_5, trivial⟩ (show tv_run _ _ _ _ = some (6, [some (.ref 0), none, none, none], [.int (Int32.ofNat 0), .ref 0, .ref 1, .ref 1]) from rfl) ?_
  refine k_cellV hC rfl hL (by omega) ((hx_lo (Nat.le_refl _)).trans h0) ⟨tm_le rfl, tm_le rfl⟩ (tm_le rfl) d_L_law_6 ?_
  refine V.blk hC [(.aload_n 0, 1), (.iconst 1, 1)] 9 _ _ ⟨d_L_law_9, d_L_law_10, trivial⟩ (show tv_run _ _ _ _ = some (11, [some (.ref 0), none, none, none], [.int (Int32.ofNat 1), .ref 0, .int (sc L xs 0), .ref 1, .ref 1]) from rfl) ?_
  refine k_cellV hC rfl hL (by omega) ((hx_lo (Nat.le_refl _)).trans h0) ⟨tm_le rfl, tm_le rfl⟩ (tm_le rfl) d_L_law_11 ?_
  refine V.blk hC [(.aload_n 0, 1), (.iconst 2, 1)] 14 _ _ ⟨d_L_law_14, d_L_law_15, trivial⟩ (show tv_run _ _ _ _ = some (16, [some (.ref 0), none, none, none], [.int (Int32.ofNat 2), .ref 0, .int (sc L xs 1), .int (sc L xs 0), .ref 1, .ref 1]) from rfl) ?_
  refine k_cellV hC rfl hL (by omega) ((hx_lo (Nat.le_refl _)).trans h0) ⟨tm_le rfl, tm_le rfl⟩ (tm_le rfl) d_L_law_16 ?_
  refine V.callI hC tm_nest rfl (k_X h0 e1) (tm_gd tc_X_init) tg_L_15 rfl th_X_init ⟨tm_le rfl, tm_le rfl, tm_le rfl, tm_le rfl⟩ ⟨by omega, by omega⟩ (As := [.int (sc L xs 0), .int (sc L xs 1), .int (sc L xs 2)]) (st := [.ref 1]) rfl (tm_le rfl) d_L_law_19 ?_
  rintro v n2 h2 ⟨rfl, rfl, rfl⟩
  show V X 129 1096 129 (hp σ1) 22 [some (.ref 0), none, none, none] [.ref 1]
  refine V.blk hC [(.astore_n 1, 1)] 22 _ _ ⟨d_L_law_22, trivial⟩ (show tv_run _ _ _ _ = some (23, [some (.ref 0), some (.ref 1), none, none], []) from rfl) ?_
  refine V.new hC (ci := 5) (C := tR_Y) (T := tT_Y) (N := 52) (fs := yf 0) tt_Y to_Y rfl tl_Y ⟨tw_L_18, tm_mk_Y, ti_Y⟩ te_Y ⟨tm_le rfl, tm_le rfl⟩ d_L_law_23 ?_
  show V X 130 1148 130 (va_up (hp σ1) 130 (.inr (5, yf 0))) 26 [some (.ref 0), some (.ref 1), none, none] [.ref 130]
  have h3 : va_up (hp σ1) 130 (.inr (5, yf 0)) 0 = .inl (0, (L, .inl xs)) := (va_up_ne _ _ (by decide)).trans h1
  refine V.blk hC [(.dup, 1), (.aload_n 0, 1), (.iconst 0, 1)] 26 _ _ ⟨d_L_law_26, d_L_law_27, d_L_law_28, trivial⟩ (show tv_run _ _ _ _ = some (29, [some (.ref 0), some (.ref 1), none, none], [.int (Int32.ofNat 0), .ref 0, .ref 130, .ref 130]) from rfl) ?_
  refine k_cellV hC rfl hL (by omega) h3 ⟨tm_le rfl, tm_le rfl⟩ (tm_le rfl) d_L_law_29 ?_
  refine V.blk hC [(.aload_n 0, 1), (.iconst 1, 1)] 32 _ _ ⟨d_L_law_32, d_L_law_33, trivial⟩ (show tv_run _ _ _ _ = some (34, [some (.ref 0), some (.ref 1), none, none], [.int (Int32.ofNat 1), .ref 0, .int (sc L xs 0), .ref 130, .ref 130]) from rfl) ?_
  refine k_cellV hC rfl hL (by omega) h3 ⟨tm_le rfl, tm_le rfl⟩ (tm_le rfl) d_L_law_34 ?_
  refine V.blk hC [(.aload_n 0, 1), (.iconst 2, 1)] 37 _ _ ⟨d_L_law_37, d_L_law_38, trivial⟩ (show tv_run _ _ _ _ = some (39, [some (.ref 0), some (.ref 1), none, none], [.int (Int32.ofNat 2), .ref 0, .int (sc L xs 1), .int (sc L xs 0), .ref 130, .ref 130]) from rfl) ?_
  refine k_cellV hC rfl hL (by omega) h3 ⟨tm_le rfl, tm_le rfl⟩ (tm_le rfl) d_L_law_39 ?_
  refine V.callI hC tm_nest rfl (k_Y e2) (tm_gd tc_Y_init) tg_L_20 rfl th_Y_init ⟨tm_le rfl, tm_le rfl, tm_le rfl, tm_le rfl⟩ ⟨by omega, by omega⟩ (As := [.int (sc L xs 0), .int (sc L xs 1), .int (sc L xs 2)]) (st := [.ref 130]) rfl (tm_le rfl) d_L_law_42 ?_
  rintro v n2 h2 ⟨rfl, rfl, rfl⟩
  show V X 173 2288 tm_n (hp σ2) 45 [some (.ref 0), some (.ref 1), none, none] [.ref 130]
  refine V.blk hC [(.astore_n 2, 1)] 45 _ _ ⟨d_L_law_45, trivial⟩ (show tv_run _ _ _ _ = some (46, [some (.ref 0), some (.ref 1), some (.ref 130), none], []) from rfl) ?_
  obtain ⟨σ3, hf⟩ := law_ok (by rw [eL]; exact hL) I
  exact V.widen (tm_le rfl) (tm_le rfl) (c_L_law hC hE rfl σ2 hf)
end START
