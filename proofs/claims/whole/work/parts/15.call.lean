/-! contracts over V, calls, ends -/
/-- a method's end: an answer v and a heap h with P -/
def tv_Q (CL : List vw_C) (D : va_G) (G : Nat → ClassId) (bs b : Nat) (P : Option Value → Nat → (Nat → tv_C) → Prop) : Array Value → State → Outcome → State → Prop := fun _ st oc t =>
  (∃ (v : Option Value) (n : Nat) (h : Nat → tv_C), oc = .returned (v.map (tv_v bs b)) ∧ P v n h ∧ tv_R CL D G bs b n h t t.heap) ∧ va_F (fun q => b ≤ q) st t
def tv_Pc (Ns : List Cond) (CL : List vw_C) (TY : List FieldType) (D : va_G) (G : Nat → ClassId) (bs b n : Nat) (h : Nat → tv_C) (U : State) : Prop :=
  tv_R CL D G bs b n h U U.heap ∧ (∀ w ∈ Ns, va_Nw w U) ∧ va_K D CL (tv_T G TY) U ∧ bs < b
/-- the contract of y at the arguments av and the heap h -/
def tv_Met (y : MethodName) (ws Ns : List Cond) (CL : List vw_C) (TY : List FieldType) (fr lo mc ms : Nat) (av : List Value) (n : Nat) (h : Nat → tv_C) (P : Option Value → Nat → (Nat → tv_C) → Prop) : Prop :=
  ∀ (l : Launch) (D : va_G) (G : Nat → ClassId) (bs b : Nat), Met l y ws { frames := fr, cells := mc, slots := ms, locals := lo } (va_Pc (av.map (tv_v bs b)) (tv_Pc Ns CL TY D G bs b n h)) (tv_Q CL D G bs b P) mc ms (fun q => b ≤ q)
theorem tv_R.moved {cl : List vw_C} {D : va_G} {G : Nat → ClassId} {bs b n : Nat} {h : Nat → tv_C} {u U : State} {H : Heap} (hvm : u.vm.Alike U.vm) (hR : tv_R cl D G bs b n h u H) : tv_R cl D G bs b n h U H :=
  ⟨hR.1, hR.2.1, fun L xs h0 => (hR.2.2 L xs h0).moved hvm⟩
def tv_ret (X : tv_X) (ret : Option FieldType) : Prop := match X with
  | ((p, l, e, R, s, m, args, below, meth, c), Q, (cl, tys, D, G, bs, b)) => meth.sig.returnType = ret
/-- the wanted end is that of a contract -/
def tv_end (X : tv_X) (P : Option Value → Nat → (Nat → tv_C) → Prop) (mc ms : Nat) : Prop := match X with
  | ((p, l, e, R, s, m, args, below, meth, c), Q, (cl, tys, D, G, bs, b)) => Q = MQ below (tv_Q cl D G bs b P) args s mc ms (fun q => b ≤ q)
theorem tv_args {bs b : Nat} : ∀ (av : List Value) (i j : Nat) (v : Value), (∀ w ∈ av, tv_ok w = true) → av[j]? = some v → (i + j, tv_v bs b v) ∈ lv_args i (av.map (tv_v bs b))
  | [], i, j, v, _, h => by simp at h
  | w :: t, i, j, v, ho, h => by
    have hw : (tv_v bs b w).category = 1 := tv_cat1 bs b (ho w List.mem_cons_self)
    rw [List.map_cons, lv_args, if_neg (by rw [hw]; decide)]
    cases j with
    | zero =>
      have : w = v := by simpa using h
      subst this
      exact List.mem_cons_self
    | succ j =>
      have h1 : t[j]? = some v := by simpa using h
      have := tv_args (bs := bs) (b := b) t (i + 1) j v (fun u hu => ho u (List.mem_cons_of_mem _ hu)) h1
      rw [show i + (j + 1) = i + 1 + j by omega]
      exact List.mem_cons_of_mem _ this
theorem tv_sl {bs b : Nat} : ∀ (av : List Value), (∀ w ∈ av, tv_ok w = true) → (lg_sl (av.map (tv_v bs b))).length = av.length
  | [], _ => rfl
  | w :: t, ho => by
    have hw : (tv_v bs b w).category = 1 := tv_cat1 bs b (ho w List.mem_cons_self)
    have ih := tv_sl (bs := bs) (b := b) t (fun u hu => ho u (List.mem_cons_of_mem _ hu))
    unfold lg_sl at ih ⊢
    rw [List.map_cons, List.flatMap_cons, if_neg (by rw [hw]; decide), List.length_append, ih]
    simp; omega
/-- the locals at a method's entry -/
def tv_in (av : List Value) (nL : Nat) : List (Option Value) := av.map some ++ List.replicate (nL - av.length) none
theorem tv_Met.of {y : MethodName} {bytes : ByteArray} {maxL : Nat} {ret : Option FieldType} {ws' Ns : List Cond} {CL : List vw_C} {TY : List FieldType} {fr lo mc ms : Nat} {av : List Value} {n : Nat} {h : Nat → tv_C} {P : Option Value → Nat → (Nat → tv_C) → Prop}
    (hy : plainName y.cls = true) (hav0 : av.all tv_ok = true) (hlen : av.length ≤ maxL)
    (body : ∀ X : tv_X, tv_K X bytes maxL y.cls ws' Ns CL TY { frames := fr, cells := mc, slots := ms, locals := lo } → tv_nm X = y.name → tv_ret X ret → tv_end X P mc ms → V X 0 0 n h 0 (tv_in av maxL) []) :
    tv_Met y (Cond.code y bytes maxL ret :: ws') Ns CL TY fr lo mc ms av n h P := by
  have hav : ∀ w ∈ av, tv_ok w = true := List.all_eq_true.mp hav0
  intro l D G bs b
  refine Met.ofW (cc := bytes) (maxL := maxL) (ret := ret) hy rfl ?_
  intro p e s m args below meth c s₁ B hml hv
  obtain ⟨rfl, hR, hN, hK, hbs⟩ := hv
  have hts := atoms_spec (ws := Cond.code y bytes maxL ret :: ws') B.pre
  have hown : s.vm.findClass y.cls = some m.cls := findClass_of_methodNamed B.named
  have hb0 := body ((p, l, e, (headSpec (Cond.code y bytes maxL ret :: ws') { frames := fr, cells := mc, slots := ms, locals := lo }).room, s, m, (av.map (tv_v bs b)).toArray, below, meth, c), MQ below (tv_Q CL D G bs b P) (av.map (tv_v bs b)).toArray s mc ms (fun q => b ≤ q), (CL, TY, D, G, bs, b))
    ⟨B.exec, B.bytes, hml, hown, fun w hw => hts w (List.mem_cons_of_mem _ hw), hN, hK, B.notSynchronized, hbs, by rw [hR.1]; exact Nat.le_add_right _ _, rfl, rfl, rfl⟩ (name_of_methodNamed B.named B.method).1 B.returns rfl
  have hl := lv_entry (av.map (tv_v bs b)) (n := maxL) (by rw [tv_sl av hav]; exact hlen)
  rw [lg_entry_eq]
  refine hb0 s.heap [] _ hR va_S.rf ?_
  have hlen2 : (tv_in av maxL).length = maxL := by simp [tv_in]; omega
  rw [hlen2]
  refine ⟨hl.1, hl.2.1, fun q hq => hl.2.2 q ?_⟩
  obtain ⟨v, h1, h2, h3⟩ := tv_ps_inv hq
  obtain ⟨j, u⟩ := q
  dsimp only at h1 h3
  subst h3
  have h4 : av[j]? = some v := by
    unfold tv_in at h1
    by_cases hj : j < av.length
    · rw [List.getElem?_append_left (by rw [List.length_map]; exact hj), List.getElem?_map] at h1
      cases hc : av[j]? with
      | none => rw [hc] at h1; cases h1
      | some w => rw [hc] at h1; exact Option.some.inj h1
    · rw [List.getElem?_append_right (by rw [List.length_map]; omega)] at h1
      have := List.mem_of_getElem? h1
      have := List.eq_of_mem_replicate this
      cases this
  have := tv_args (bs := bs) (b := b) av 0 j v hav h4
  rw [Nat.zero_add] at this
  exact this
section TVE
variable {X : tv_X} {cells slots n : Nat} {h : Nat → tv_C} {pc : Nat} {ls : List (Option Value)} {st : List Value} {cc : ByteArray} {nL : Nat} {own : String} {Ts Ns : List Cond} {CL : List vw_C} {TY : List FieldType} {rm : Room} {P : Option Value → Nat → (Nat → tv_C) → Prop}
theorem V.iret (hC : tv_K X cc nL own Ts Ns CL TY rm) (hr : tv_ret X (some .int)) (hE : tv_end X P cells slots) {v : Int32} (hd : decode cc pc = .ok (.ireturn, 1)) (hp : P (some (.int v)) n h) : V X cells slots n h pc ls [.int v] := by
  obtain ⟨⟨p, l, e, R, s, m, args, below, meth, c⟩, Q, ⟨cl, tys, D, G, bs, b⟩⟩ := X
  obtain ⟨hx, hb, hml, hown, hts, hns, hK, hlk, hbs, hbz, rfl, rfl, rfl⟩ := hC
  obtain rfl : Q = _ := hE
  intro H locs real hR hS hl
  exact W.iret hx hb hr (fun t ht hW => ⟨⟨some (.int v), n, h, rfl, hp, (by rw [ht]; exact hR.moved hW.alike)⟩, hS.F ht⟩) hS.2.2 hd
theorem V.zret (hC : tv_K X cc nL own Ts Ns CL TY rm) (hr : tv_ret X (some .boolean)) (hE : tv_end X P cells slots) {v : Int32} (hv : narrow .boolean (.int v) = .int v) (hd : decode cc pc = .ok (.ireturn, 1)) (hp : P (some (.int v)) n h) : V X cells slots n h pc ls [.int v] := by
  obtain ⟨⟨p, l, e, R, s, m, args, below, meth, c⟩, Q, ⟨cl, tys, D, G, bs, b⟩⟩ := X
  obtain ⟨hx, hb, hml, hown, hts, hns, hK, hlk, hbs, hbz, rfl, rfl, rfl⟩ := hC
  obtain rfl : Q = _ := hE
  intro H locs real hR hS hl
  exact W.zret hx hb hr hv (fun t ht hW => ⟨⟨some (.int v), n, h, rfl, hp, (by rw [ht]; exact hR.moved hW.alike)⟩, hS.F ht⟩) hS.2.2 hd
theorem V.vret (hC : tv_K X cc nL own Ts Ns CL TY rm) (hr : tv_ret X none) (hE : tv_end X P cells slots) (hd : decode cc pc = .ok (.return_, 1)) (hp : P none n h) : V X cells slots n h pc ls [] := by
  obtain ⟨⟨p, l, e, R, s, m, args, below, meth, c⟩, Q, ⟨cl, tys, D, G, bs, b⟩⟩ := X
  obtain ⟨hx, hb, hml, hown, hts, hns, hK, hlk, hbs, hbz, rfl, rfl, rfl⟩ := hC
  obtain rfl : Q = _ := hE
  intro H locs real hR hS hl
  exact W.vret hx hb hr (fun t ht hW => ⟨⟨none, n, h, rfl, hp, (by rw [ht]; exact hR.moved hW.alike)⟩, hS.F ht⟩) hS.2.2 hd
theorem V.aret (hC : tv_K X cc nL own Ts Ns CL TY rm) {rt : FieldType} (hr : tv_ret X (some rt)) (hrt : (∃ n, rt = .object n) ∨ ∃ t, rt = .array t) (hE : tv_end X P cells slots) {v : Value} (hv : v = .null ∨ ∃ a, v = .ref a) (hd : decode cc pc = .ok (.areturn, 1)) (hp : P (some v) n h) : V X cells slots n h pc ls [v] := by
  obtain ⟨⟨p, l, e, R, s, m, args, below, meth, c⟩, Q, ⟨cl, tys, D, G, bs, b⟩⟩ := X
  obtain ⟨hx, hb, hml, hown, hts, hns, hK, hlk, hbs, hbz, rfl, rfl, rfl⟩ := hC
  obtain rfl : Q = _ := hE
  intro H locs real hR hS hl
  have hv2 : tv_v bs b v = .null ∨ ∃ a, tv_v bs b v = .ref a := by
    rcases hv with rfl | ⟨a, rfl⟩
    · exact Or.inl rfl
    · exact Or.inr ⟨_, rfl⟩
  exact W.aret hx hb hr hrt hv2 (fun t ht hW => ⟨⟨some v, n, h, rfl, hp, (by rw [ht]; exact hR.moved hW.alike)⟩, hS.F ht⟩) hS.2.2 hd
/-- behind a call -/
theorem tv_go {p : Program} {l : Launch} {e : Env} {R : Room} {s : State} {m : MethodId} {args : Array Value} {below : List Frame} {meth : Method} {c : Code} {H : Heap} {locs : List Loc} {mc ms : Nat} {Q : State → Prop} {cl : List vw_C} {D : va_G} {G : Nat → ClassId} {bs b : Nat} {real : Array Slot} {st0 rest : List Value} {a : Array Value}
    (hr : va_Run p l e R s m args below meth c H locs cells slots mc ms (F0 m pc real st0) rest (tv_Q cl D G bs b P a) (fun q => b ≤ q)) (hS : va_S (fun q => b ≤ q) s.heap H locs)
    (kk : ∀ (v : Option Value) (n' : Nat) (h' : Nat → tv_C) (H1 : Heap) (locs1 : List Loc), P v n' h' → tv_R cl D G bs b n' h' s H1 → va_S (fun q => b ≤ q) s.heap H1 locs1 → W p l e R s m args below meth c H1 locs1 (cells + mc) (slots + ms) Q (F0 m (pc + 3) real ((v.map (tv_v bs b)).toList ++ rest))) :
    W p l e R s m args below meth c H locs cells slots Q (F0 m pc real st0) := by
  intro T hT X
  obtain ⟨v, st₀, t, T', L, h0, X', hL, e1, e2, ⟨⟨v', n', h', hv, hp, hR1⟩, hz, hk⟩, st⟩ := hr T hT X
  have hv2 : v = v'.map (tv_v bs b) := Outcome.returned.inj hv
  subst hv2
  rw [h0] at hz hk
  have hal : t.vm.Alike s.vm := by rw [← e2]; exact X'.warmed.alike.symm
  obtain ⟨t2, a1, b1⟩ := kk v' n' h' T'.heap (locs ++ L) hp (by rw [e1]; exact hR1.moved hal)
    ⟨Nat.le_trans hS.1 (by rw [e1]; exact hz), fun q h1 h2 => by rw [e1, hk q (Nat.lt_of_lt_of_le h1 hS.1) h2]; exact hS.2.1 q h1 h2, fun q hq => by
      rcases List.mem_append.mp hq with h | h
      · exact hS.2.2 q h
      · exact hL q h⟩ T' rfl X'
  exact ⟨t2, st t2 a1, b1⟩
/-- an array type over arrays stays as the tables move -/
theorem tv_AOA {t : FieldType} {u U : State} (hvm : u.vm.Alike U.vm) (h : va_Nw (.arrayOver (.array t)) u) : va_Nw (.arrayOver (.array t)) U := by
  obtain ⟨comp, c, k, h1, h2, h3, h4, h5⟩ := arrayOverA_spec h
  obtain ⟨k', hk', he⟩ := hvm.2.2 _ _ h3
  have hi : (U.vm.classes.findIdx? fun (x : Class) => match x.kind with | .array component _ => component == comp | _ => false) = some c := by
    rw [hvm.findIdx?_eq _ (fun _ => rfl)]
    exact h2
  have hkind : k'.kind = .array comp (.array t) := by rw [he]; exact h4
  have f1 : U.vm.findClass (FieldType.array t).toString = some comp := by rw [hvm.findClass]; exact h1
  have f2 : U.vm.findClass ("[" ++ (FieldType.array t).toString) = some c := by rw [hvm.findClass]; exact h5
  unfold va_Nw Cond.before Cond.holds
  simp only [Cond.value]
  rw [f1, Option.bind_some]
  refine (congrArg (fun o : Option Nat => (o.bind (fun c => (U.vm.classes[c]?).map fun (k : Class) => match k.kind with | .array _ ty => decide (ty = FieldType.array t) && decide (U.vm.findClass ("[" ++ (FieldType.array t).toString) = some c) | _ => false) == some true)) hi).trans ?_
  simp [hk', hkind, f2]
/-- a word of a nest mate: it stays as the tables warm -/
def tv_nest (w : Cond) : Prop := (∃ a i b n d h, w = .fieldLinkNest a i b n d h) ∨ (∃ a i x h, w = .methodLinkNest a i x h) ∨ (∃ C, w = .arrayOver (.object C)) ∨ ∃ t, w = .arrayOver (.array t)
theorem tv_nest_warm {w : Cond} {s U : State} (hw : tv_nest w) (hW : s.WarmedH U.vm) (hZ : va_Nw w s) : va_Nw w U := by
  rcases hw with ⟨a, i, b, n, d, h, rfl⟩ | ⟨a, i, x, h, rfl⟩ | ⟨C, rfl⟩ | ⟨t, rfl⟩
  · exact va_Nw.warmF hW hZ
  · exact va_Nw.warmM hW hZ
  · exact va_AO.moved hW.alike hZ
  · exact tv_AOA hW.alike hZ
theorem tv_nest_same {w : Cond} {u U : State} (hw : tv_nest w) (h : u.vm = U.vm) (hZ : va_Nw w u) : va_Nw w U := by
  rcases hw with ⟨a, i, b, n, d, h1, rfl⟩ | ⟨a, i, x, h1, rfl⟩ | ⟨C, rfl⟩ | ⟨t, rfl⟩
  · exact va_Nw.same rfl h hZ
  · exact va_Nw.same rfl h hZ
  · exact va_AO.moved (h ▸ Vm.Alike.refl u.vm) hZ
  · exact tv_AOA (h ▸ Vm.Alike.refl u.vm) hZ
theorem tv_blind {D : va_G} {G : Nat → ClassId} {bs b : Nat} {av : List Value} (hNs : ∀ w ∈ Ns, tv_nest w) : FrameBlind (va_Pc av (tv_Pc Ns CL TY D G bs b n h)) := by
  intro a U g mk q
  obtain ⟨q0, qR, qN, qK, qb⟩ := q
  exact ⟨q0, qR.moved (U := U.calling g mk a) (Vm.Alike.refl U.vm), fun w hw => tv_nest_same (u := U) (U := U.calling g mk a) (hNs w hw) rfl (qN w hw), va_K.moved (u := U) (U := U.calling g mk a) (Vm.Alike.refl U.vm) qK, qb⟩
theorem V.callVN (hC : tv_K X cc nL own Ts Ns CL TY rm) (hNs : ∀ w ∈ Ns, tv_nest w) (hnl : ls.length = nL) {y : MethodName} {bytes : ByteArray} {maxL : Nat} {ret : Option FieldType} {ws' : List Cond} {fr lo mc ms idx : Nat} {host : String} {C : String} {T : u_T} {N ci a : Nat} {fs : List Value} {As stk : List Value} (hM : tv_Met y (Cond.code y bytes maxL ret :: ws') Ns CL TY fr lo mc ms (.ref a :: As) n h P) (hG : GoodIn Ts (Cond.code y bytes maxL ret :: ws')) (hw : Cond.methodLinkNest own idx y host ∈ Ns ∧ Cond.initialized y.cls ∈ Ts ∧ Cond.instanceMethod y ∈ Ts ∧ Cond.selects C y y ∈ Ts) (hy : y.cls ≠ "java/lang/invoke/MethodHandle" ∧ y.cls ≠ "java/lang/invoke/VarHandle" ∧ (parseMethodDescriptor y.desc).map (fun d => d.parameters.length) = some As.length) (hrm : fr + 1 ≤ rm.frames ∧ 8 + (maxL + 11) + lo ≤ rm.locals ∧ cells + mc ≤ rm.cells ∧ slots + ms ≤ rm.slots) (hcl : CL[ci]? = some (C, T, N)) (ha : 0 < a ∧ a ≤ n) (hh : h a = .inr (ci, fs)) (hstk : stk = As.reverse ++ .ref a :: st) (hsum : (st.map fun v => v.category).sum ≤ 8) (hd : decode cc pc = .ok (.invokevirtual idx, 3)) (kk : ∀ (v : Option Value) (n' : Nat) (h' : Nat → tv_C), P v n' h' → V X (cells + mc) (slots + ms) n' h' (pc + 3) ls (v.toList ++ st)) : V X cells slots n h pc ls stk := by
  obtain ⟨⟨p, l, e, R, s, m, args, below, meth, c⟩, Q, ⟨cl, tys, D, G, bs, b⟩⟩ := X
  obtain ⟨hx, hb, hml, hown, hts, hns, hK, hlk, hbs, hbz, rfl, rfl, rfl⟩ := hC
  obtain ⟨a, rfl⟩ : ∃ a', a = a' + 1 := ⟨a - 1, by omega⟩
  subst hstk
  intro H locs real hR hS hl
  have he : (tv_W G bs b n h)[a]? = some (b + a, .inr (ci, fs.map (tv_v bs b))) := by rw [tv_W_at (by omega), hh]; rfl
  have hp : PreV s H C (b + a) (va_Pc ((Value.ref (a + 1) :: As).map (tv_v bs b)) (tv_Pc Ns cl tys D G bs b n h)) (As.map (tv_v bs b)) := ⟨tv_blind hNs, va_recv hK hR.2.1 hcl he, fun U hU hW => ⟨rfl, (by rw [hU]; exact hR.moved hW.alike), fun w hw => tv_nest_warm (hNs w hw) hW (hns w hw), va_K.moved hW.alike hK, hbs⟩⟩
  refine tv_go (va_runVN (As := As.map (tv_v bs b)) (rest := st.map (tv_v bs b)) ⟨hx, hb, hml, hown, hts⟩ (hM l D G bs b) ⟨va_cnB As.length hts hG rfl rfl rfl (hns _ hw.1) (hts _ hw.2.1) hy ⟨hrm.1, hrm.2.1⟩, hts _ hw.2.2.1, hts _ hw.2.2.2⟩ hp rfl (by rw [List.length_map]) (hl.1.trans hnl) (by show List.map _ _ = _; rw [List.map_append, List.map_reverse]; rfl) (lv_room (by rw [tv_v_sum]; exact hsum)) hd ⟨hrm.2.2.1, hrm.2.2.2⟩) hS (fun v n' h' H1 locs1 hp1 hR1 hS1 => ?_)
  have k1 := kk v n' h' hp1 H1 locs1 real hR1 hS1 hl
  cases v <;> exact k1
theorem V.callSN (hC : tv_K X cc nL own Ts Ns CL TY rm) (hNs : ∀ w ∈ Ns, tv_nest w) (hnl : ls.length = nL) {y : MethodName} {bytes : ByteArray} {maxL : Nat} {ret : Option FieldType} {ws' : List Cond} {fr lo mc ms idx : Nat} {host : String} {As stk : List Value} (hM : tv_Met y (Cond.code y bytes maxL ret :: ws') Ns CL TY fr lo mc ms (As) n h P) (hG : GoodIn Ts (Cond.code y bytes maxL ret :: ws')) (hw : Cond.methodLinkNest own idx y host ∈ Ns ∧ Cond.initialized y.cls ∈ Ts ∧ Cond.static y ∈ Ts) (hy : y.cls ≠ "java/lang/invoke/MethodHandle" ∧ y.cls ≠ "java/lang/invoke/VarHandle" ∧ (parseMethodDescriptor y.desc).map (fun d => d.parameters.length) = some As.length) (hrm : fr + 1 ≤ rm.frames ∧ 8 + (maxL + 11) + lo ≤ rm.locals ∧ cells + mc ≤ rm.cells ∧ slots + ms ≤ rm.slots) (hstk : stk = As.reverse ++ st) (hsum : (st.map fun v => v.category).sum ≤ 8) (hd : decode cc pc = .ok (.invokestatic idx, 3)) (kk : ∀ (v : Option Value) (n' : Nat) (h' : Nat → tv_C), P v n' h' → V X (cells + mc) (slots + ms) n' h' (pc + 3) ls (v.toList ++ st)) : V X cells slots n h pc ls stk := by
  obtain ⟨⟨p, l, e, R, s, m, args, below, meth, c⟩, Q, ⟨cl, tys, D, G, bs, b⟩⟩ := X
  obtain ⟨hx, hb, hml, hown, hts, hns, hK, hlk, hbs, hbz, rfl, rfl, rfl⟩ := hC
  subst hstk
  intro H locs real hR hS hl
  have hp : PreS s H (va_Pc (As.map (tv_v bs b)) (tv_Pc Ns cl tys D G bs b n h)) (As.map (tv_v bs b)) := ⟨tv_blind hNs, fun U hU hW => ⟨rfl, (by rw [hU]; exact hR.moved hW.alike), fun w hw => tv_nest_warm (hNs w hw) hW (hns w hw), va_K.moved hW.alike hK, hbs⟩⟩
  refine tv_go (va_runSN (As := As.map (tv_v bs b)) (rest := st.map (tv_v bs b)) ⟨hx, hb, hml, hown, hts⟩ (hM l D G bs b) ⟨va_cnB As.length hts hG rfl rfl rfl (hns _ hw.1) (hts _ hw.2.1) hy ⟨hrm.1, hrm.2.1⟩, hts _ hw.2.2, trivial⟩ hp rfl (by rw [List.length_map]) (hl.1.trans hnl) (by show List.map _ _ = _; rw [List.map_append, List.map_reverse]) (lv_room (by rw [tv_v_sum]; exact hsum)) hd ⟨hrm.2.2.1, hrm.2.2.2⟩) hS (fun v n' h' H1 locs1 hp1 hR1 hS1 => ?_)
  have k1 := kk v n' h' hp1 H1 locs1 real hR1 hS1 hl
  cases v <;> exact k1
theorem V.callIN (hC : tv_K X cc nL own Ts Ns CL TY rm) (hNs : ∀ w ∈ Ns, tv_nest w) (hnl : ls.length = nL) {y : MethodName} {bytes : ByteArray} {maxL : Nat} {ws' : List Cond} {fr lo mc ms idx : Nat} {host : String} {a : Nat} {As stk : List Value} (hM : tv_Met y (Cond.code y bytes maxL none :: ws') Ns CL TY fr lo mc ms (.ref a :: As) n h P) (hG : GoodIn Ts (Cond.code y bytes maxL none :: ws')) (hw : Cond.methodLinkNest own idx y host ∈ Ns ∧ Cond.initialized y.cls ∈ Ts ∧ Cond.instanceMethod y ∈ Ts) (hnm : y.name = "<init>") (hy : y.cls ≠ "java/lang/invoke/MethodHandle" ∧ y.cls ≠ "java/lang/invoke/VarHandle" ∧ (parseMethodDescriptor y.desc).map (fun d => d.parameters.length) = some As.length) (hrm : fr + 1 ≤ rm.frames ∧ 8 + (maxL + 11) + lo ≤ rm.locals ∧ cells + mc ≤ rm.cells ∧ slots + ms ≤ rm.slots) (ha : 0 < a ∧ a ≤ n) (hstk : stk = As.reverse ++ .ref a :: st) (hsum : (st.map fun v => v.category).sum ≤ 8) (hd : decode cc pc = .ok (.invokespecial idx, 3)) (kk : ∀ (v : Option Value) (n' : Nat) (h' : Nat → tv_C), P v n' h' → V X (cells + mc) (slots + ms) n' h' (pc + 3) ls (v.toList ++ st)) : V X cells slots n h pc ls stk := by
  obtain ⟨⟨p, l, e, R, s, m, args, below, meth, c⟩, Q, ⟨cl, tys, D, G, bs, b⟩⟩ := X
  obtain ⟨hx, hb, hml, hown, hts, hns, hK, hlk, hbs, hbz, rfl, rfl, rfl⟩ := hC
  obtain ⟨a, rfl⟩ : ∃ a', a = a' + 1 := ⟨a - 1, by omega⟩
  subst hstk
  intro H locs real hR hS hl
  have hp : PreS s H (va_Pc ((Value.ref (a + 1) :: As).map (tv_v bs b)) (tv_Pc Ns cl tys D G bs b n h)) (.ref (b + a) :: As.map (tv_v bs b)) := ⟨tv_blind hNs, fun U hU hW => ⟨rfl, (by rw [hU]; exact hR.moved hW.alike), fun w hw => tv_nest_warm (hNs w hw) hW (hns w hw), va_K.moved hW.alike hK, hbs⟩⟩
  refine tv_go (va_runIN (As := As.map (tv_v bs b)) (rest := st.map (tv_v bs b)) ⟨hx, hb, hml, hown, hts⟩ (hM l D G bs b) ⟨va_cnB As.length hts hG rfl rfl rfl (hns _ hw.1) (hts _ hw.2.1) hy ⟨hrm.1, hrm.2.1⟩, hnm, hts _ hw.2.2⟩ hp rfl (by rw [List.length_map]) (hl.1.trans hnl) (by show List.map _ _ = _; rw [List.map_append, List.map_reverse]; rfl) (lv_room (by rw [tv_v_sum]; exact hsum)) hd ⟨hrm.2.2.1, hrm.2.2.2⟩) hS (fun v n' h' H1 locs1 hp1 hR1 hS1 => ?_)
  have k1 := kk v n' h' hp1 H1 locs1 real hR1 hS1 hl
  cases v <;> exact k1
theorem V.callV (hC : tv_K X cc nL own Ts Ns CL TY rm) (hNs : ∀ w ∈ Ns, tv_nest w) (hnl : ls.length = nL) {y : MethodName} {bytes : ByteArray} {maxL : Nat} {ret : Option FieldType} {ws' : List Cond} {fr lo mc ms idx : Nat} {C : String} {T : u_T} {N ci a : Nat} {fs : List Value} {As stk : List Value} (hM : tv_Met y (Cond.code y bytes maxL ret :: ws') Ns CL TY fr lo mc ms (.ref a :: As) n h P) (hG : GoodIn Ts (Cond.code y bytes maxL ret :: ws')) (hw : Cond.methodLink own idx y ∈ Ts ∧ Cond.initialized y.cls ∈ Ts ∧ Cond.instanceMethod y ∈ Ts ∧ Cond.selects C y y ∈ Ts) (hy : y.cls ≠ "java/lang/invoke/MethodHandle" ∧ y.cls ≠ "java/lang/invoke/VarHandle" ∧ (parseMethodDescriptor y.desc).map (fun d => d.parameters.length) = some As.length) (hrm : fr + 1 ≤ rm.frames ∧ 8 + (maxL + 11) + lo ≤ rm.locals ∧ cells + mc ≤ rm.cells ∧ slots + ms ≤ rm.slots) (hcl : CL[ci]? = some (C, T, N)) (ha : 0 < a ∧ a ≤ n) (hh : h a = .inr (ci, fs)) (hstk : stk = As.reverse ++ .ref a :: st) (hsum : (st.map fun v => v.category).sum ≤ 8) (hd : decode cc pc = .ok (.invokevirtual idx, 3)) (kk : ∀ (v : Option Value) (n' : Nat) (h' : Nat → tv_C), P v n' h' → V X (cells + mc) (slots + ms) n' h' (pc + 3) ls (v.toList ++ st)) : V X cells slots n h pc ls stk := by
  obtain ⟨⟨p, l, e, R, s, m, args, below, meth, c⟩, Q, ⟨cl, tys, D, G, bs, b⟩⟩ := X
  obtain ⟨hx, hb, hml, hown, hts, hns, hK, hlk, hbs, hbz, rfl, rfl, rfl⟩ := hC
  obtain ⟨a, rfl⟩ : ∃ a', a = a' + 1 := ⟨a - 1, by omega⟩
  subst hstk
  intro H locs real hR hS hl
  have he : (tv_W G bs b n h)[a]? = some (b + a, .inr (ci, fs.map (tv_v bs b))) := by rw [tv_W_at (by omega), hh]; rfl
  have hp : PreV s H C (b + a) (va_Pc ((Value.ref (a + 1) :: As).map (tv_v bs b)) (tv_Pc Ns cl tys D G bs b n h)) (As.map (tv_v bs b)) := ⟨tv_blind hNs, va_recv hK hR.2.1 hcl he, fun U hU hW => ⟨rfl, (by rw [hU]; exact hR.moved hW.alike), fun w hw => tv_nest_warm (hNs w hw) hW (hns w hw), va_K.moved hW.alike hK, hbs⟩⟩
  refine tv_go (va_runV (As := As.map (tv_v bs b)) (rest := st.map (tv_v bs b)) ⟨hx, hb, hml, hown, hts⟩ (hM l D G bs b) ⟨callB_of As.length hts hG rfl rfl rfl (hts _ hw.2.1) (hts _ hw.1) hy ⟨hrm.1, hrm.2.1⟩, hts _ hw.2.2.1, hts _ hw.2.2.2⟩ hp rfl (by rw [List.length_map]) (hl.1.trans hnl) (by show List.map _ _ = _; rw [List.map_append, List.map_reverse]; rfl) (lv_room (by rw [tv_v_sum]; exact hsum)) hd ⟨hrm.2.2.1, hrm.2.2.2⟩) hS (fun v n' h' H1 locs1 hp1 hR1 hS1 => ?_)
  have k1 := kk v n' h' hp1 H1 locs1 real hR1 hS1 hl
  cases v <;> exact k1
theorem V.callS (hC : tv_K X cc nL own Ts Ns CL TY rm) (hNs : ∀ w ∈ Ns, tv_nest w) (hnl : ls.length = nL) {y : MethodName} {bytes : ByteArray} {maxL : Nat} {ret : Option FieldType} {ws' : List Cond} {fr lo mc ms idx : Nat} {As stk : List Value} (hM : tv_Met y (Cond.code y bytes maxL ret :: ws') Ns CL TY fr lo mc ms (As) n h P) (hG : GoodIn Ts (Cond.code y bytes maxL ret :: ws')) (hw : Cond.methodLink own idx y ∈ Ts ∧ Cond.initialized y.cls ∈ Ts ∧ Cond.static y ∈ Ts) (hy : y.cls ≠ "java/lang/invoke/MethodHandle" ∧ y.cls ≠ "java/lang/invoke/VarHandle" ∧ (parseMethodDescriptor y.desc).map (fun d => d.parameters.length) = some As.length) (hrm : fr + 1 ≤ rm.frames ∧ 8 + (maxL + 11) + lo ≤ rm.locals ∧ cells + mc ≤ rm.cells ∧ slots + ms ≤ rm.slots) (hstk : stk = As.reverse ++ st) (hsum : (st.map fun v => v.category).sum ≤ 8) (hd : decode cc pc = .ok (.invokestatic idx, 3)) (kk : ∀ (v : Option Value) (n' : Nat) (h' : Nat → tv_C), P v n' h' → V X (cells + mc) (slots + ms) n' h' (pc + 3) ls (v.toList ++ st)) : V X cells slots n h pc ls stk := by
  obtain ⟨⟨p, l, e, R, s, m, args, below, meth, c⟩, Q, ⟨cl, tys, D, G, bs, b⟩⟩ := X
  obtain ⟨hx, hb, hml, hown, hts, hns, hK, hlk, hbs, hbz, rfl, rfl, rfl⟩ := hC
  subst hstk
  intro H locs real hR hS hl
  have hp : PreS s H (va_Pc (As.map (tv_v bs b)) (tv_Pc Ns cl tys D G bs b n h)) (As.map (tv_v bs b)) := ⟨tv_blind hNs, fun U hU hW => ⟨rfl, (by rw [hU]; exact hR.moved hW.alike), fun w hw => tv_nest_warm (hNs w hw) hW (hns w hw), va_K.moved hW.alike hK, hbs⟩⟩
  refine tv_go (va_runS (As := As.map (tv_v bs b)) (rest := st.map (tv_v bs b)) ⟨hx, hb, hml, hown, hts⟩ (hM l D G bs b) ⟨callB_of As.length hts hG rfl rfl rfl (hts _ hw.2.1) (hts _ hw.1) hy ⟨hrm.1, hrm.2.1⟩, hts _ hw.2.2⟩ hp rfl (by rw [List.length_map]) (hl.1.trans hnl) (by show List.map _ _ = _; rw [List.map_append, List.map_reverse]) (lv_room (by rw [tv_v_sum]; exact hsum)) hd ⟨hrm.2.2.1, hrm.2.2.2⟩) hS (fun v n' h' H1 locs1 hp1 hR1 hS1 => ?_)
  have k1 := kk v n' h' hp1 H1 locs1 real hR1 hS1 hl
  cases v <;> exact k1
theorem V.callI (hC : tv_K X cc nL own Ts Ns CL TY rm) (hNs : ∀ w ∈ Ns, tv_nest w) (hnl : ls.length = nL) {y : MethodName} {bytes : ByteArray} {maxL : Nat} {ws' : List Cond} {fr lo mc ms idx : Nat} {a : Nat} {As stk : List Value} (hM : tv_Met y (Cond.code y bytes maxL none :: ws') Ns CL TY fr lo mc ms (.ref a :: As) n h P) (hG : GoodIn Ts (Cond.code y bytes maxL none :: ws')) (hw : Cond.methodLink own idx y ∈ Ts ∧ Cond.initialized y.cls ∈ Ts ∧ Cond.instanceMethod y ∈ Ts) (hnm : y.name = "<init>") (hy : y.cls ≠ "java/lang/invoke/MethodHandle" ∧ y.cls ≠ "java/lang/invoke/VarHandle" ∧ (parseMethodDescriptor y.desc).map (fun d => d.parameters.length) = some As.length) (hrm : fr + 1 ≤ rm.frames ∧ 8 + (maxL + 11) + lo ≤ rm.locals ∧ cells + mc ≤ rm.cells ∧ slots + ms ≤ rm.slots) (ha : 0 < a ∧ a ≤ n) (hstk : stk = As.reverse ++ .ref a :: st) (hsum : (st.map fun v => v.category).sum ≤ 8) (hd : decode cc pc = .ok (.invokespecial idx, 3)) (kk : ∀ (v : Option Value) (n' : Nat) (h' : Nat → tv_C), P v n' h' → V X (cells + mc) (slots + ms) n' h' (pc + 3) ls (v.toList ++ st)) : V X cells slots n h pc ls stk := by
  obtain ⟨⟨p, l, e, R, s, m, args, below, meth, c⟩, Q, ⟨cl, tys, D, G, bs, b⟩⟩ := X
  obtain ⟨hx, hb, hml, hown, hts, hns, hK, hlk, hbs, hbz, rfl, rfl, rfl⟩ := hC
  obtain ⟨a, rfl⟩ : ∃ a', a = a' + 1 := ⟨a - 1, by omega⟩
  subst hstk
  intro H locs real hR hS hl
  have hp : PreS s H (va_Pc ((Value.ref (a + 1) :: As).map (tv_v bs b)) (tv_Pc Ns cl tys D G bs b n h)) (.ref (b + a) :: As.map (tv_v bs b)) := ⟨tv_blind hNs, fun U hU hW => ⟨rfl, (by rw [hU]; exact hR.moved hW.alike), fun w hw => tv_nest_warm (hNs w hw) hW (hns w hw), va_K.moved hW.alike hK, hbs⟩⟩
  refine tv_go (va_runI (As := As.map (tv_v bs b)) (rest := st.map (tv_v bs b)) ⟨hx, hb, hml, hown, hts⟩ (hM l D G bs b) ⟨callB_of As.length hts hG rfl rfl rfl (hts _ hw.2.1) (hts _ hw.1) hy ⟨hrm.1, hrm.2.1⟩, hnm, hts _ hw.2.2⟩ hp rfl (by rw [List.length_map]) (hl.1.trans hnl) (by show List.map _ _ = _; rw [List.map_append, List.map_reverse]; rfl) (lv_room (by rw [tv_v_sum]; exact hsum)) hd ⟨hrm.2.2.1, hrm.2.2.2⟩) hS (fun v n' h' H1 locs1 hp1 hR1 hS1 => ?_)
  have k1 := kk v n' h' hp1 H1 locs1 real hR1 hS1 hl
  cases v <;> exact k1
theorem V.objInit (hC : tv_K X cc nL own Ts Ns CL TY rm) (hnl : ls.length = nL) {idx a : Nat} (hw : Cond.methodLink own idx Lib.objectInit ∈ Ts ∧ Cond.instanceMethod Lib.objectInit ∈ Ts ∧ Cond.code Lib.objectInit ⟨#[0xb1]⟩ 1 none ∈ Ts) (hrm : 1 ≤ rm.frames ∧ (st.map fun v => v.category).sum + 12 ≤ rm.locals) (hd : decode cc pc = .ok (.invokespecial idx, 3)) (kk : V X cells slots n h (pc + 3) ls st) : V X cells slots n h pc ls (.ref a :: st) := by
  obtain ⟨⟨p, l, e, R, s, m, args, below, meth, c⟩, Q, ⟨cl, tys, D, G, bs, b⟩⟩ := X
  obtain ⟨hx, hb, hml, hown, hts, hns, hK, hlk, hbs, hbz, rfl, rfl, rfl⟩ := hC
  intro H locs real hR hS hl
  exact W.objInit hx hb hown (hts _ hw.1) (hts _ hw.2.1) (hts _ hw.2.2) rfl (by rw [hml, ← hnl]; exact hl.1) rfl hd hrm.1 (by show 2 * 0 + _ + 12 ≤ _; rw [tv_v_sum]; omega) (kk H locs real hR hS hl)
end TVE
