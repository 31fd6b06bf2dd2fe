/-! rows over V: fields and arrays -/
/-- a field that an instruction names: the place idx of own's pool is slot k of the class ci -/
def tv_F (Ts Ns : List Cond) (CL : List vw_C) (own : String) (idx ci k : Nat) (C : String) (T : u_T) (N : Nat) : Prop :=
  CL[ci]? = some (C, T, N) ∧ k < N ∧ (∀ w ∈ u_ws C T N, w ∈ Ts) ∧ (Cond.fieldLink own idx (T k).1 (T k).2.1 (T k).2.2.1 ∈ Ts ∨ ∃ host, Cond.fieldLinkNest own idx (T k).1 (T k).2.1 (T k).2.2.1 host ∈ Ns)
theorem tv_rf (bs b : Nat) (r : Option Nat) : tv_v bs b (va_rf r) = va_rf (r.map (tv_r bs b)) := by cases r <;> rfl
theorem tv_sc {bs a : Nat} {h : Nat → tv_C} {s : State} {H H1 : Heap} {x : tv_C} (ha : 0 < a) (hs : ∀ (L : Nat) (xs : Nat → Int32), h 0 = .inl (0, (L, .inl xs)) → va_X bs L xs s H) (hk : H1[bs]? = H[bs]?) : ∀ (L : Nat) (xs : Nat → Int32), va_up h a x 0 = .inl (0, (L, .inl xs)) → va_X bs L xs s H1 := by
  intro L xs h0
  rw [va_up_ne _ _ (by omega)] at h0
  exact (hs L xs h0).kept hk
section TVH
variable {X : tv_X} {cells slots n : Nat} {h : Nat → tv_C} {pc : Nat} {ls : List (Option Value)} {st : List Value} {cc : ByteArray} {nL : Nat} {own : String} {Ts Ns : List Cond} {CL : List vw_C} {TY : List FieldType} {rm : Room}
theorem V.getf (hC : tv_K X cc nL own Ts Ns CL TY rm) {idx ci k a : Nat} {C : String} {T : u_T} {N : Nat} {fs : List Value} {v : Value} (hF : tv_F Ts Ns CL own idx ci k C T N) (ha : 0 < a ∧ a ≤ n) (hh : h a = .inr (ci, fs)) (hv : fs[k]? = some v) (hd : decode cc pc = .ok (.getfield idx, 3)) (kk : V X cells slots n h (pc + 3) ls (v :: st)) : V X cells slots n h pc ls (.ref a :: st) := by
  obtain ⟨⟨p, l, e, R, s, m, args, below, meth, c⟩, Q, ⟨cl, tys, D, G, bs, b⟩⟩ := X
  obtain ⟨hx, hb, hml, hown, hts, hns, hK, hlk, hbs, hbz, rfl, rfl, rfl⟩ := hC
  obtain ⟨hc, hk, hin, hlink⟩ := hF
  obtain ⟨a, rfl⟩ : ∃ a', a = a' + 1 := ⟨a - 1, by omega⟩
  intro H locs real hR hS hl
  have he : (tv_W G bs b n h)[a]? = some (b + a, .inr (ci, fs.map (tv_v bs b))) := by rw [tv_W_at (by omega), hh]; rfl
  have hv' : (fs.map (tv_v bs b))[k]? = some (tv_v bs b v) := by rw [List.getElem?_map, hv]; rfl
  rcases hlink with hw | ⟨host, hw⟩
  · exact va_get hx hb hts hin hown hK hR.2.1 a he hc k hk (hts _ hw) (fun _ h9 => h9) hv' hd (kk H locs real hR hS hl)
  · exact va_getN hx hb hts hin hown hK hR.2.1 a he hc k hk (va_Nw.use rfl (hns _ hw)) (fun _ h9 => h9) hv' hd (kk H locs real hR hS hl)
theorem V.putf (hC : tv_K X cc nL own Ts Ns CL TY rm) {idx ci k a : Nat} {C : String} {T : u_T} {N : Nat} {fs : List Value} {v : Value} {ty : FieldType} (hF : tv_F Ts Ns CL own idx ci k C T N) (tyT : Nat → FieldType) (hty : ∀ k, k < N → parseFieldDescriptor (T k).2.2.1 = some (tyT k)) (hnm : ∀ a, a < N → ∀ b, b < N → a ≠ b → (T a).2.1 ≠ (T b).2.1) (hfin : (T k).2.2.2 = false) (hds : parseFieldDescriptor (T k).2.2.1 = some ty) (hfit : ∀ bs b, narrow ty (tv_v bs b v) = tv_v bs b v ∧ fits ty (tv_v bs b v) = true) (ha : 0 < a ∧ a ≤ n) (hh : h a = .inr (ci, fs)) (hlen : k < fs.length) (hd : decode cc pc = .ok (.putfield idx, 3)) (kk : V X cells slots n (va_up h a (.inr (ci, fs.set k v))) (pc + 3) ls st) : V X cells slots n h pc ls (v :: .ref a :: st) := by
  obtain ⟨⟨p, l, e, R, s, m, args, below, meth, c⟩, Q, ⟨cl, tys, D, G, bs, b⟩⟩ := X
  obtain ⟨hx, hb, hml, hown, hts, hns, hK, hlk, hbs, hbz, rfl, rfl, rfl⟩ := hC
  obtain ⟨hc, hk, hin, hlink⟩ := hF
  obtain ⟨a, rfl⟩ : ∃ a', a = a' + 1 := ⟨a - 1, by omega⟩
  intro H locs real hR hS hl
  have he : (tv_W G bs b n h)[a]? = some (b + a, .inr (ci, fs.map (tv_v bs b))) := by rw [tv_W_at (by omega), hh]; rfl
  have hap := va_apart (own := own) hts hin tyT hty hnm hK hc
  obtain ⟨r, h1, cell, q1, q2, q3, q4⟩ := hR.2.1 a _ he
  have hr : r = (C, T, N) := Option.some.inj (h1.symm.trans hc)
  subst hr
  obtain ⟨hSl, hfc, kC, hkC, hkind⟩ := hK.1 ci _ hc
  obtain ⟨cf, kf, fi, f, hi, hsl⟩ := hSl k hk
  have hlay := hts _ (hin _ (u_in_lay hk))
  unfold u_lay at hlay
  rw [if_neg (by rw [hfin]; decide)] at hlay
  have hst := (u_facts hfc hkC (u_lays hts hin hk) hi).1
  have h6 := u_store hfc hkC hkind hlay hi hds (hfit bs b).1 (hfit bs b).2
  have fin : ∀ H1 : Heap, H1[b + a]? = some (cell.setSlot f.slot (tv_v bs b v)) → H1.size = H.size → (∀ q, q ≠ b + a → H1[q]? = H[q]?) → W p l e R s m args below meth c H1 (locs ++ [⟨b + a, f.slot⟩]) cells slots Q (F0 m (pc + 3) real (st.map (tv_v bs b))) := by
    intro H1 e1 e2 e3
    rw [hsl] at e1 ⊢
    refine kk H1 _ real ⟨e2.trans hR.1, ?_, tv_sc (by omega) hR.2.2 (e3 bs (by omega))⟩ (hS.put e2 e3 (Nat.le_add_right _ _)) hl
    have hm : tv_E G bs b (.inr (ci, fs.set k v)) = .inr (ci, (fs.map (tv_v bs b)).set k (tv_v bs b v)) := by
      show (Sum.inr (ci, (fs.set k v).map (tv_v bs b)) : va_E) = _
      rw [List.map_set]
    rw [← tv_W_set (by omega), hm]
    exact hR.2.1.set (tv_D G bs b n h) he ⟨_, hc, t_OB.to (V := updV (vp_V (fs.map (tv_v bs b))) k (tv_v bs b v)) ⟨_, e1, q2, q3, t_set q4 hap hk _⟩ (fun j _ => vp_updV_set (by rw [List.length_map]; exact hlen) _ j)⟩ e3
  rcases hlink with hw | ⟨host, hw⟩
  · exact W.putK hx hb (f := f) ⟨hown, hts _ hw, ⟨_, _, _, hi⟩, hst⟩ (by rw [q2]; exact h6) q1 q3 (by rw [hsl]; exact k2_hasslot (q4 k hk)) rfl rfl hd fin
  · exact va_WputK hx hb (f := f) hown (va_Nw.use rfl (hns _ hw)) hi hst (by rw [q2]; exact h6) q1 q3 (by rw [hsl]; exact k2_hasslot (q4 k hk)) rfl rfl hd fin
def tv_nm (X : tv_X) : String := match X with
  | ((p, l, e, R, s, m, args, below, meth, c), Q, (cl, tys, D, G, bs, b)) => meth.name
/-- a final field, in the constructor of its class -/
theorem V.putF (hC : tv_K X cc nL own Ts Ns CL TY rm) (hinit : tv_nm X = "<init>") {idx ci k a : Nat} {C : String} {T : u_T} {N : Nat} {fs : List Value} {v : Value} {ty : FieldType} (hF : CL[ci]? = some (C, T, N) ∧ k < N ∧ (∀ w ∈ u_ws C T N, w ∈ Ts) ∧ Cond.fieldLink own idx (T k).1 (T k).2.1 (T k).2.2.1 ∈ Ts) (tyT : Nat → FieldType) (hty : ∀ k, k < N → parseFieldDescriptor (T k).2.2.1 = some (tyT k)) (hnm : ∀ a, a < N → ∀ b, b < N → a ≠ b → (T a).2.1 ≠ (T b).2.1) (hfin : (T k).2.2.2 = true) (hdecl : (T k).1 = own) (hds : parseFieldDescriptor (T k).2.2.1 = some ty) (hfit : ∀ bs b, narrow ty (tv_v bs b v) = tv_v bs b v ∧ fits ty (tv_v bs b v) = true) (ha : 0 < a ∧ a ≤ n) (hh : h a = .inr (ci, fs)) (hlen : k < fs.length) (hd : decode cc pc = .ok (.putfield idx, 3)) (kk : V X cells slots n (va_up h a (.inr (ci, fs.set k v))) (pc + 3) ls st) : V X cells slots n h pc ls (v :: .ref a :: st) := by
  obtain ⟨⟨p, l, e, R, s, m, args, below, meth, c⟩, Q, ⟨cl, tys, D, G, bs, b⟩⟩ := X
  obtain ⟨hx, hb, hml, hown, hts, hns, hK, hlk, hbs, hbz, rfl, rfl, rfl⟩ := hC
  obtain ⟨hc, hk, hin, hw⟩ := hF
  obtain ⟨a, rfl⟩ : ∃ a', a = a' + 1 := ⟨a - 1, by omega⟩
  intro H locs real hR hS hl
  have he : (tv_W G bs b n h)[a]? = some (b + a, .inr (ci, fs.map (tv_v bs b))) := by rw [tv_W_at (by omega), hh]; rfl
  have hap := va_apart (own := own) hts hin tyT hty hnm hK hc
  obtain ⟨r, h1, cell, q1, q2, q3, q4⟩ := hR.2.1 a _ he
  have hr : r = (C, T, N) := Option.some.inj (h1.symm.trans hc)
  subst hr
  obtain ⟨hSl, hfc, kC, hkC, hkind⟩ := hK.1 ci _ hc
  obtain ⟨cf, kf, fi, f, hi, hsl⟩ := hSl k hk
  have hlay := hts _ (hin _ (u_in_lay hk))
  unfold u_lay at hlay
  rw [if_pos hfin] at hlay
  have hst := (u_facts hfc hkC (u_lays hts hin hk) hi).1
  have hcf : m.cls = cf := by
    obtain ⟨_, _, c2, _, _, _, -, -, hf2, -, -, -, hown2, -⟩ := Cond.laysFinal_spec hlay
    have e1 : c2 = cf := by have := hi.symm.trans hf2; simp at this; exact this.1.symm
    rw [hdecl] at hown2
    rw [← e1]; exact Option.some.inj (hown.symm.trans hown2)
  have h6 := u_fits hfc hkC hkind (Or.inr hlay) hi hds (hfit bs b).1 (hfit bs b).2
  refine W.putFinK hx hb hown (hts _ hw) hi hst hcf hinit (by rw [q2]; exact h6) q1 q3 (by rw [hsl]; exact k2_hasslot (q4 k hk)) rfl rfl hd fun H1 e1 e2 e3 => ?_
  have e3 : ∀ q : Nat, q ≠ b + a → H1[q]? = H[q]? := e3
  rw [hsl] at e1 ⊢
  refine kk H1 _ real ⟨e2.trans hR.1, ?_, tv_sc (by omega) hR.2.2 (e3 bs (by omega))⟩ (hS.put e2 e3 (Nat.le_add_right _ _)) hl
  have hm : tv_E G bs b (.inr (ci, fs.set k v)) = .inr (ci, (fs.map (tv_v bs b)).set k (tv_v bs b v)) := by
    show (Sum.inr (ci, (fs.set k v).map (tv_v bs b)) : va_E) = _
    rw [List.map_set]
  rw [← tv_W_set (by omega), hm]
  exact hR.2.1.set (tv_D G bs b n h) he ⟨_, hc, t_OB.to (V := updV (vp_V (fs.map (tv_v bs b))) k (tv_v bs b v)) ⟨_, e1, q2, q3, t_set q4 hap hk _⟩ (fun j _ => vp_updV_set (by rw [List.length_map]; exact hlen) _ j)⟩ e3
theorem V.iald (hC : tv_K X cc nL own Ts Ns CL TY rm) {t a len : Nat} {f : Nat → Int32} {i : Int32} (ha : 0 < a ∧ a ≤ n) (hh : h a = .inl (t, (len, .inl f))) (ht : TY[t]? = some .int) (hin : vp_in i len) (hd : decode cc pc = .ok (.iaload, 1)) (kk : V X cells slots n h (pc + 1) ls (.int (f i.toNatClampNeg) :: st)) : V X cells slots n h pc ls (.int i :: .ref a :: st) := by
  obtain ⟨⟨p, l, e, R, s, m, args, below, meth, c⟩, Q, ⟨cl, tys, D, G, bs, b⟩⟩ := X
  obtain ⟨hx, hb, hml, hown, hts, hns, hK, hlk, hbs, hbz, rfl, rfl, rfl⟩ := hC
  obtain ⟨a, rfl⟩ : ∃ a', a = a' + 1 := ⟨a - 1, by omega⟩
  intro H locs real hR hS hl
  have he : (tv_W G bs b n h)[a]? = some (b + a, .inl (G t, (len, .inl f))) := by rw [tv_W_at (by omega), hh]; rfl
  exact va_iald hx hb hK hR.2.1 a t he (tv_T_at ht) hin hd (kk H locs real hR hS hl)
theorem V.zald (hC : tv_K X cc nL own Ts Ns CL TY rm) {t a len : Nat} {f : Nat → Int32} {i : Int32} (ha : 0 < a ∧ a ≤ n) (hh : h a = .inl (t, (len, .inl f))) (ht : TY[t]? = some .boolean) (hin : vp_in i len) (hd : decode cc pc = .ok (.baload, 1)) (kk : V X cells slots n h (pc + 1) ls (.int (f i.toNatClampNeg) :: st)) : V X cells slots n h pc ls (.int i :: .ref a :: st) := by
  obtain ⟨⟨p, l, e, R, s, m, args, below, meth, c⟩, Q, ⟨cl, tys, D, G, bs, b⟩⟩ := X
  obtain ⟨hx, hb, hml, hown, hts, hns, hK, hlk, hbs, hbz, rfl, rfl, rfl⟩ := hC
  obtain ⟨a, rfl⟩ : ∃ a', a = a' + 1 := ⟨a - 1, by omega⟩
  intro H locs real hR hS hl
  have he : (tv_W G bs b n h)[a]? = some (b + a, .inl (G t, (len, .inl f))) := by rw [tv_W_at (by omega), hh]; rfl
  exact va_zald hx hb hK hR.2.1 a t he (tv_T_at ht) hin hd (kk H locs real hR hS hl)
/-- the script's own ints -/
theorem V.sld (hC : tv_K X cc nL own Ts Ns CL TY rm) {L : Nat} {xs : Nat → Int32} {i : Int32} (hh : h 0 = .inl (0, (L, .inl xs))) (hin : vp_in i L) (hd : decode cc pc = .ok (.iaload, 1)) (kk : V X cells slots n h (pc + 1) ls (.int (xs i.toNatClampNeg) :: st)) : V X cells slots n h pc ls (.int i :: .ref 0 :: st) := by
  obtain ⟨⟨p, l, e, R, s, m, args, below, meth, c⟩, Q, ⟨cl, tys, D, G, bs, b⟩⟩ := X
  obtain ⟨hx, hb, -⟩ := hC
  intro H locs real hR hS hl
  obtain ⟨scr, h1, h2, h3, h4, h5⟩ := hR.2.2 L xs hh
  have hlt : i.toNatClampNeg < L := Nat.not_le.mp fun q => hin (Or.inr q)
  exact W.iald (v := .int (xs i.toNatClampNeg)) hx hb h1 h2 h3 (by rw [h4]; exact hin) (h5 _ hlt) rfl rfl hd (kk H locs real hR hS hl)
theorem V.slen (hC : tv_K X cc nL own Ts Ns CL TY rm) {L : Nat} {xs : Nat → Int32} (hh : h 0 = .inl (0, (L, .inl xs))) (hd : decode cc pc = .ok (.arraylength, 1)) (kk : V X cells slots n h (pc + 1) ls (.int (Int32.ofNat L) :: st)) : V X cells slots n h pc ls (.ref 0 :: st) := by
  obtain ⟨⟨p, l, e, R, s, m, args, below, meth, c⟩, Q, ⟨cl, tys, D, G, bs, b⟩⟩ := X
  obtain ⟨hx, hb, -⟩ := hC
  intro H locs real hR hS hl
  obtain ⟨scr, h1, h2, h3, h4, h5⟩ := hR.2.2 L xs hh
  exact W.alen (n := Int32.ofNat L) hx hb h1 h2 (by rw [h4] <;> rfl) rfl rfl hd (kk H locs real hR hS hl)
theorem V.alen (hC : tv_K X cc nL own Ts Ns CL TY rm) {t a : Nat} {x : vp_A} {ty : FieldType} (ha : 0 < a ∧ a ≤ n) (hh : h a = .inl (t, x)) (ht : TY[t]? = some ty) (hd : decode cc pc = .ok (.arraylength, 1)) (kk : V X cells slots n h (pc + 1) ls (.int (Int32.ofNat x.1) :: st)) : V X cells slots n h pc ls (.ref a :: st) := by
  obtain ⟨⟨p, l, e, R, s, m, args, below, meth, c⟩, Q, ⟨cl, tys, D, G, bs, b⟩⟩ := X
  obtain ⟨hx, hb, hml, hown, hts, hns, hK, hlk, hbs, hbz, rfl, rfl, rfl⟩ := hC
  obtain ⟨a, rfl⟩ : ∃ a', a = a' + 1 := ⟨a - 1, by omega⟩
  intro H locs real hR hS hl
  have he : (tv_W G bs b n h)[a]? = some (b + a, .inl (G t, tv_A bs b x)) := by rw [tv_W_at (by omega), hh]; rfl
  exact va_alen hx hb hK hR.2.1 a t he (tv_T_at ht) rfl hd (kk H locs real hR hS hl)
theorem V.iast (hC : tv_K X cc nL own Ts Ns CL TY rm) {t a len : Nat} {f : Nat → Int32} {i x : Int32} (ha : 0 < a ∧ a ≤ n) (hh : h a = .inl (t, (len, .inl f))) (ht : TY[t]? = some .int) (hin : vp_in i len) (hd : decode cc pc = .ok (.iastore, 1)) (kk : V X cells slots n (va_up h a (.inl (t, (len, .inl (upd f i.toNatClampNeg x))))) (pc + 1) ls st) : V X cells slots n h pc ls (.int x :: .int i :: .ref a :: st) := by
  obtain ⟨⟨p, l, e, R, s, m, args, below, meth, c⟩, Q, ⟨cl, tys, D, G, bs, b⟩⟩ := X
  obtain ⟨hx, hb, hml, hown, hts, hns, hK, hlk, hbs, hbz, rfl, rfl, rfl⟩ := hC
  obtain ⟨a, rfl⟩ : ∃ a', a = a' + 1 := ⟨a - 1, by omega⟩
  intro H locs real hR hS hl
  have he : (tv_W G bs b n h)[a]? = some (b + a, .inl (G t, (len, .inl f))) := by rw [tv_W_at (by omega), hh]; rfl
  refine W.iast hx hb (hR.2.1 a _ he) ((hK.2 t _ (tv_T_at ht)).1 len (fun j => .int (f j))) (fun q => by cases q) (by show ¬ (i < 0 ∨ (arrV _ _ _).slots.size ≤ _); rw [arrV_size]; exact hin) rfl rfl hd fun H1 e1 e2 e3 => ?_
  have e3 : ∀ q : Nat, q ≠ b + a → H1[q]? = H[q]? := e3
  refine kk H1 _ real ⟨e2.trans hR.1, ?_, tv_sc (by omega) hR.2.2 (e3 bs (by omega))⟩ (hS.put e2 e3 (Nat.le_add_right _ _)) hl
  rw [← tv_W_set (by omega)]
  refine hR.2.1.set (tv_D G bs b n h) he ?_ e3
  show H1[b + a]? = some (vp_cell _ _)
  rw [e1]
  show some ((vp_cell _ (len, .inl f)).setSlot _ _) = some (vp_cell _ (len, .inl _))
  rw [vp_cell_i, vp_cell_i, arrV_store]
  congr 2
  funext q
  by_cases hq : q = i.toNatClampNeg
  · subst hq
    simp [updV, upd]
  · simp [updV, upd, hq]
theorem V.zast (hC : tv_K X cc nL own Ts Ns CL TY rm) {t a len : Nat} {f : Nat → Int32} {i x : Int32} (ha : 0 < a ∧ a ≤ n) (hh : h a = .inl (t, (len, .inl f))) (ht : TY[t]? = some .boolean) (hin : vp_in i len) (hz : x = 0 ∨ x = 1) (hd : decode cc pc = .ok (.bastore, 1)) (kk : V X cells slots n (va_up h a (.inl (t, (len, .inl (upd f i.toNatClampNeg x))))) (pc + 1) ls st) : V X cells slots n h pc ls (.int x :: .int i :: .ref a :: st) := by
  obtain ⟨⟨p, l, e, R, s, m, args, below, meth, c⟩, Q, ⟨cl, tys, D, G, bs, b⟩⟩ := X
  obtain ⟨hx, hb, hml, hown, hts, hns, hK, hlk, hbs, hbz, rfl, rfl, rfl⟩ := hC
  obtain ⟨a, rfl⟩ : ∃ a', a = a' + 1 := ⟨a - 1, by omega⟩
  intro H locs real hR hS hl
  have he : (tv_W G bs b n h)[a]? = some (b + a, .inl (G t, (len, .inl f))) := by rw [tv_W_at (by omega), hh]; rfl
  refine W.zast hx hb (hR.2.1 a _ he) ((hK.2 t _ (tv_T_at ht)).1 len (fun j => .int (f j))) (fun q => by cases q) (by show ¬ (i < 0 ∨ (arrV _ _ _).slots.size ≤ _); rw [arrV_size]; exact hin) rfl rfl hd fun H1 e1 e2 e3 => ?_
  have e3 : ∀ q : Nat, q ≠ b + a → H1[q]? = H[q]? := e3
  refine kk H1 _ real ⟨e2.trans hR.1, ?_, tv_sc (by omega) hR.2.2 (e3 bs (by omega))⟩ (hS.put e2 e3 (Nat.le_add_right _ _)) hl
  rw [← tv_W_set (by omega)]
  refine hR.2.1.set (tv_D G bs b n h) he ?_ e3
  show H1[b + a]? = some (vp_cell _ _)
  rw [e1]
  show some ((vp_cell _ (len, .inl f)).setSlot _ _) = some (vp_cell _ (len, .inl _))
  rw [vp_cell_i, vp_cell_i, arrV_store]
  congr 2
  funext q
  by_cases hq : q = i.toNatClampNeg
  · subst hq
    have hn : narrow .boolean (.int x) = .int x := by rcases hz with rfl | rfl <;> decide
    simp [updV, upd, hn]
  · simp [updV, upd, hq]
theorem V.aald (hC : tv_K X cc nL own Ts Ns CL TY rm) {t a len : Nat} {f : Nat → Option Nat} {i : Int32} {ty : FieldType} (ha : 0 < a ∧ a ≤ n) (hh : h a = .inl (t, (len, .inr (.inr (.inr (.inr f)))))) (ht : TY[t]? = some ty) (href : ty.isReference = true) (hin : vp_in i len) (hd : decode cc pc = .ok (.aaload, 1)) (kk : V X cells slots n h (pc + 1) ls (va_rf (f i.toNatClampNeg) :: st)) : V X cells slots n h pc ls (.int i :: .ref a :: st) := by
  obtain ⟨⟨p, l, e, R, s, m, args, below, meth, c⟩, Q, ⟨cl, tys, D, G, bs, b⟩⟩ := X
  obtain ⟨hx, hb, hml, hown, hts, hns, hK, hlk, hbs, hbz, rfl, rfl, rfl⟩ := hC
  obtain ⟨a, rfl⟩ : ∃ a', a = a' + 1 := ⟨a - 1, by omega⟩
  intro H locs real hR hS hl
  have he : (tv_W G bs b n h)[a]? = some (b + a, .inl (G t, (len, .inr (.inr (.inr (.inr (fun j => (f j).map (tv_r bs b)))))))) := by rw [tv_W_at (by omega), hh]; rfl
  have hlt : i.toNatClampNeg < len := Nat.not_le.mp fun q => hin (Or.inr q)
  have k1 := kk H locs real hR hS hl
  rw [List.map_cons, tv_rf] at k1
  exact W.aald (v := va_rf ((f i.toNatClampNeg).map (tv_r bs b))) (ty := ty) hx hb (hR.2.1 a _ he) ((hK.2 t _ (tv_T_at ht)).1 len (fun j => va_rf ((f j).map (tv_r bs b)))) href (fun q => by cases q) (by show ¬ (i < 0 ∨ (arrV _ _ _).slots.size ≤ _); rw [arrV_size]; exact hin) (by show (arrV _ _ _).slots[_]? = _; rw [arrV_read _ _ hlt]) rfl rfl hd k1
theorem V.aast (hC : tv_K X cc nL own Ts Ns CL TY rm) {t a len ci v : Nat} {f : Nat → Option Nat} {i : Int32} {r : vw_C} {vs : List Value} (ht : TY[t]? = some (.object r.1)) (hcl : CL[ci]? = some r) (ha : 0 < a ∧ a ≤ n) (hh : h a = .inl (t, (len, .inr (.inr (.inr (.inr f)))))) (hv : 0 < v ∧ v ≤ n) (hhv : h v = .inr (ci, vs)) (hin : vp_in i len) (hd : decode cc pc = .ok (.aastore, 1)) (kk : V X cells slots n (va_up h a (.inl (t, (len, .inr (.inr (.inr (.inr (va_up f i.toNatClampNeg (some v))))))))) (pc + 1) ls st) : V X cells slots n h pc ls (.ref v :: .int i :: .ref a :: st) := by
  obtain ⟨⟨p, l, e, R, s, m, args, below, meth, c⟩, Q, ⟨cl, tys, D, G, bs, b⟩⟩ := X
  obtain ⟨hx, hb, hml, hown, hts, hns, hK, hlk, hbs, hbz, rfl, rfl, rfl⟩ := hC
  obtain ⟨a, rfl⟩ : ∃ a', a = a' + 1 := ⟨a - 1, by omega⟩
  obtain ⟨v, rfl⟩ : ∃ a', v = a' + 1 := ⟨v - 1, by omega⟩
  intro H locs real hR hS hl
  have he : (tv_W G bs b n h)[a]? = some (b + a, .inl (G t, (len, .inr (.inr (.inr (.inr (fun j => (f j).map (tv_r bs b)))))))) := by rw [tv_W_at (by omega), hh]; rfl
  have hev : (tv_W G bs b n h)[v]? = some (b + v, .inr (ci, vs.map (tv_v bs b))) := by rw [tv_W_at (by omega), hhv]; rfl
  have hlt : i.toNatClampNeg < len := Nat.not_le.mp fun q => hin (Or.inr q)
  have h0 : ¬ i < 0 := fun q => hin (Or.inl q)
  obtain ⟨r2, hr2, cellV, g1, g2, g3, -⟩ := hR.2.1 v _ hev
  have hcls := (hK.1 ci r hcl).2
  obtain ⟨kA, comp, k1, k2, k3, -⟩ := (hK.2 t _ (tv_T_at ht)).2
  have hcomp : comp = D.1 ci := Option.some.inj (k3.symm.trans hcls.1)
  subst hcomp
  obtain ⟨kC, hkC, -⟩ := hcls.2
  refine W.aast hx hb (hR.2.1 a _ he) (fun q h => by cases h) (fun h => by cases h) k1 k2 rfl hkC ⟨h0, by show _ < (arrV _ _ _).slots.size; rw [arrV_size]; exact hlt⟩ g1 (fun q h => by rw [g3] at h; cases h) (by rw [g2]; exact hkC) (by rw [g2]; exact va_assign hcls) rfl rfl hd fun H1 e1 e2 e3 => ?_
  have e3 : ∀ q : Nat, q ≠ b + a → H1[q]? = H[q]? := e3
  refine kk H1 _ real ⟨e2.trans hR.1, ?_, tv_sc (by omega) hR.2.2 (e3 bs (by omega))⟩ (hS.put e2 e3 (Nat.le_add_right _ _)) hl
  rw [← tv_W_set (by omega)]
  refine hR.2.1.set (tv_D G bs b n h) he ?_ e3
  show H1[b + a]? = some (vp_cell _ _)
  rw [e1]
  show some ((vp_cell _ (len, .inr (.inr (.inr (.inr _))))).setSlot _ _) = some (vp_cell _ (len, .inr (.inr (.inr (.inr _)))))
  rw [vp_cell_q, vp_cell_q, arrV_store]
  congr 2
  funext q
  by_cases hq : q = i.toNatClampNeg
  · subst hq
    simp [updV, va_up, va_rf, tv_r]
  · simp [updV, va_up, hq]
end TVH
