/-! rows over the flat state -/
theorem tm_if {α : Type} {c : Prop} [Decidable c] {A : Option α} {r : α} (h : (if c then A else none) = some r) : c ∧ A = some r := by
  by_cases hc : c
  · rw [if_pos hc] at h; exact ⟨hc, h⟩
  · rw [if_neg hc] at h; cases h
def tm_w {α β : Type} (x : α) (f : α → Option β) : Option β := f x
theorem tm_ww {α β : Type} {x : α} {f : α → Option β} {r : β} (h : tm_w x f = some r) : ∃ z, z = x ∧ f z = some r := ⟨x, rfl, h⟩
theorem tm_bd {α β : Type} {o : Option α} {f : α → Option β} {r : β} (h : o.bind f = some r) : ∃ z, o = some z ∧ f z = some r := by
  cases o with
  | none => cases h
  | some z => exact ⟨z, rfl, h⟩
abbrev tm_P1 (v : Option Value) (σ : tm_S) : Option Value → Nat → (Nat → tv_C) → Prop := fun v' n h => v' = v ∧ n = tm_n1 ∧ h = hp σ
abbrev tm_P (v : Option Value) (σ : tm_S) : Option Value → Nat → (Nat → tv_C) → Prop := fun v' n h => v' = v ∧ n = tm_n ∧ h = hp σ
theorem tm_gd {c : Cond} (h : c ∈ tm_wg) : GoodIn tm_wg (c :: tm_wg) := by
  intro w hw
  rcases List.mem_cons.mp hw with rfl | hw
  · exact ⟨h, good_of_word (List.mem_filter.mp h).2⟩
  · exact ⟨hw, good_of_word (List.mem_filter.mp hw).2⟩
theorem tm_nest : ∀ w ∈ tm_ns, tv_nest w := by
  intro w hw
  simp only [tm_ns, List.mem_cons, List.not_mem_nil, or_false] at hw
  rcases hw with rfl | rfl | rfl | rfl | rfl
  · exact Or.inr (Or.inr (Or.inl ⟨_, rfl⟩))
  · exact Or.inr (Or.inr (Or.inr ⟨_, rfl⟩))
  · exact Or.inr (Or.inr (Or.inl ⟨_, rfl⟩))
  · exact Or.inr (Or.inl ⟨_, _, _, _, rfl⟩)
  · exact Or.inr (Or.inl ⟨_, _, _, _, rfl⟩)
theorem tm_fi {x : Int32} : ∀ bs b, narrow .int (tv_v bs b (.int x)) = tv_v bs b (.int x) ∧ fits .int (tv_v bs b (.int x)) = true := fun _ _ => ⟨rfl, rfl⟩
theorem tm_nz {x : Int32} (h : x = 0 ∨ x = 1) : narrow .boolean (.int x) = .int x := by rcases h with rfl | rfl <;> decide
theorem tm_fz {x : Int32} (h : x = 0 ∨ x = 1) : ∀ bs b, narrow .boolean (tv_v bs b (.int x)) = tv_v bs b (.int x) ∧ fits .boolean (tv_v bs b (.int x)) = true := by
  intro bs b
  refine ⟨tm_nz h, ?_⟩
  rcases h with rfl | rfl <;> rfl
theorem tm_rf (r : Option Nat) : va_rf r = .null ∨ ∃ a, va_rf r = .ref a := by
  cases r with
  | none => exact Or.inl rfl
  | some a => exact Or.inr ⟨a, rfl⟩
def sI (σ : tm_S) (a k : Nat) (v : Int32) : tm_S := (fun x j => if x = a ∧ j = k then v else σ.1 x j, σ.2)
def sP (σ : tm_S) (a k : Nat) (r : Nat) : tm_S := (σ.1, fun x j => if x = a ∧ j = k then r else σ.2 x j)
/-- seven ints of s into d -/
def sC (σ : tm_S) (s d : Nat) : tm_S := (fun x j => if x = d ∧ j < 7 then σ.1 s j else σ.1 x j, σ.2)
/-- seven times v into a -/
def sFl (σ : tm_S) (a : Nat) (v : Int32) : tm_S := (fun x j => if x = a ∧ j < 7 then v else σ.1 x j, σ.2)
/-- a change of one address -/
theorem hp_up {σ τ : tm_S} {a : Nat} (h : ∀ q, q ≠ a → τ.1 q = σ.1 q ∧ τ.2 q = σ.2 q) : hp τ = va_up (hp σ) a (tm_c (kd a) a (τ.1 a) (τ.2 a)) := by
  funext q
  by_cases hq : q = a
  · subst hq
    rw [va_up_self]
    rfl
  · rw [va_up_ne _ _ hq]
    unfold hp
    rw [(h q hq).1, (h q hq).2]
theorem sI_at (σ : tm_S) (a k : Nat) (v : Int32) : (sI σ a k v).1 a = upd (σ.1 a) k v := by
  funext j
  by_cases hj : j = k <;> simp [sI, upd, hj]
theorem sI_ne (σ : tm_S) (a k : Nat) (v : Int32) : ∀ q, q ≠ a → (sI σ a k v).1 q = σ.1 q ∧ (sI σ a k v).2 q = σ.2 q := by
  intro q hq
  refine ⟨?_, rfl⟩
  funext j
  simp [sI, hq]
theorem hp_sI (σ : tm_S) (a k : Nat) (v : Int32) : hp (sI σ a k v) = va_up (hp σ) a (tm_c (kd a) a (upd (σ.1 a) k v) (σ.2 a)) := by
  rw [hp_up (sI_ne σ a k v), sI_at]
  rfl
theorem sP_ne (σ : tm_S) (a k r : Nat) : ∀ q, q ≠ a → (sP σ a k r).1 q = σ.1 q ∧ (sP σ a k r).2 q = σ.2 q := by
  intro q hq
  refine ⟨rfl, ?_⟩
  funext j
  simp [sP, hq]
theorem sC_ne (σ : tm_S) (s d : Nat) : ∀ q, q ≠ d → (sC σ s d).1 q = σ.1 q ∧ (sC σ s d).2 q = σ.2 q := by
  intro q hq
  refine ⟨?_, rfl⟩
  funext j
  simp [sC, hq]
section TVR2
variable {X : tv_X} {cells slots n : Nat} {σ : tm_S} {pc : Nat} {ls : List (Option Value)} {st : List Value} {cc : ByteArray} {nL : Nat} {own : String} {rm : Room}
theorem V.seti (hC : tv_K X cc nL own tm_wg tm_ns tm_cl tm_ty rm) {idx ci k q K : Nat} {C : String} {T : u_T} {N : Nat} {x : Int32} {ty : FieldType} {fs : List Value} (hF : tv_F tm_wg tm_ns tm_cl own idx ci k C T N) (tyT : Nat → FieldType) (hty : ∀ k, k < N → parseFieldDescriptor (T k).2.2.1 = some (tyT k)) (hnm : ∀ a, a < N → ∀ b, b < N → a ≠ b → (T a).2.1 ≠ (T b).2.1) (hfin : (T k).2.2.2 = false) (hds : parseFieldDescriptor (T k).2.2.1 = some ty) (hfit : ∀ bs b, narrow ty (tv_v bs b (.int x)) = tv_v bs b (.int x) ∧ fits ty (tv_v bs b (.int x)) = true) (hq : kd q = K) (hK : 0 < q ∧ q ≤ n) (hc : tm_c K q (σ.1 q) (σ.2 q) = .inr (ci, fs)) (hs : tm_c K q (upd (σ.1 q) k x) (σ.2 q) = .inr (ci, fs.set k (.int x))) (hlen : k < fs.length) (hd : decode cc pc = .ok (.putfield idx, 3)) (kk : V X cells slots n (hp (sI σ q k x)) (pc + 3) ls st) : V X cells slots n (hp σ) pc ls (.int x :: .ref q :: st) := by
  refine V.putf hC hF tyT hty hnm hfin hds hfit hK ((hp_at hq).trans hc) hlen hd ?_
  rw [hp_sI, hq, hs] at kk
  exact kk
theorem V.seta (hC : tv_K X cc nL own tm_wg tm_ns tm_cl tm_ty rm) {t q K len : Nat} {i x : Int32} (hq : kd q = K) (hK : 0 < q ∧ q ≤ n) (hc : tm_c K q (σ.1 q) (σ.2 q) = .inl (t, (len, .inl (σ.1 q)))) (hs : tm_c K q (upd (σ.1 q) i.toNatClampNeg x) (σ.2 q) = .inl (t, (len, .inl (upd (σ.1 q) i.toNatClampNeg x)))) (ht : tm_ty[t]? = some .int) (hin : ¬ (i < 0 ∨ len ≤ i.toNatClampNeg)) (hd : decode cc pc = .ok (.iastore, 1)) (kk : V X cells slots n (hp (sI σ q i.toNatClampNeg x)) (pc + 1) ls st) : V X cells slots n (hp σ) pc ls (.int x :: .int i :: .ref q :: st) := by
  refine V.iast hC hK ((hp_at hq).trans hc) ht hin hd ?_
  rw [hp_sI, hq, hs] at kk
  exact kk
theorem V.setz (hC : tv_K X cc nL own tm_wg tm_ns tm_cl tm_ty rm) {t q K len : Nat} {i x : Int32} (hq : kd q = K) (hK : 0 < q ∧ q ≤ n) (hc : tm_c K q (σ.1 q) (σ.2 q) = .inl (t, (len, .inl (σ.1 q)))) (hs : tm_c K q (upd (σ.1 q) i.toNatClampNeg x) (σ.2 q) = .inl (t, (len, .inl (upd (σ.1 q) i.toNatClampNeg x)))) (ht : tm_ty[t]? = some .boolean) (hin : ¬ (i < 0 ∨ len ≤ i.toNatClampNeg)) (hz : x = 0 ∨ x = 1) (hd : decode cc pc = .ok (.bastore, 1)) (kk : V X cells slots n (hp (sI σ q i.toNatClampNeg x)) (pc + 1) ls st) : V X cells slots n (hp σ) pc ls (.int x :: .int i :: .ref q :: st) := by
  refine V.zast hC hK ((hp_at hq).trans hc) ht hin hz hd ?_
  rw [hp_sI, hq, hs] at kk
  exact kk
theorem V.setp (hC : tv_K X cc nL own tm_wg tm_ns tm_cl tm_ty rm) {q r : Nat} {i : Int32} (hq : kd q = 7) (hr : kd r = 8) (hqn : 0 < q ∧ q ≤ n) (hrn : 0 < r ∧ r ≤ n) (hin : ¬ (i < 0 ∨ 4 ≤ i.toNatClampNeg)) (hd : decode cc pc = .ok (.aastore, 1)) (kk : V X cells slots n (hp (sP σ q i.toNatClampNeg r)) (pc + 1) ls st) : V X cells slots n (hp σ) pc ls (.ref r :: .int i :: .ref q :: st) := by
  refine V.aast hC (t := 3) (ci := 0) (r := (tR_F, tT_F, 12)) (f := fun j => some (σ.2 q j)) (len := 4) rfl rfl hqn (hp_at hq) hrn (hp_at hr) hin hd ?_
  rw [hp_up (sP_ne σ q i.toNatClampNeg r), hq] at kk
  have e : (fun j => some ((sP σ q i.toNatClampNeg r).2 q j)) = va_up (fun j => some (σ.2 q j)) i.toNatClampNeg (some r) := by
    funext j
    by_cases hj : j = i.toNatClampNeg <;> simp [sP, va_up, hj]
  rw [← e]
  exact kk
theorem V.copy (hC : tv_K X cc nL own tm_wg tm_ns tm_cl tm_ty rm) (hnl : ls.length = nL) {idx s d : Nat} (hw : Cond.methodLink own idx arraycopyName ∈ tm_wg ∧ Cond.native arraycopyName ∈ tm_wg ∧ Cond.static arraycopyName ∈ tm_wg ∧ Cond.initialized "java/lang/System" ∈ tm_wg) (hs : kd s = 4) (hdd : kd d = 4) (hsn : 0 < s ∧ s ≤ n) (hdn : 0 < d ∧ d ≤ n) (hrm : 1 ≤ rm.frames ∧ (st.map fun v => v.category).sum + (nativeFrameWords "java/lang/System" "arraycopy" 5 + 11) ≤ rm.locals) (hd : decode cc pc = .ok (.invokestatic idx, 3)) (kk : V X cells slots n (hp (sC σ s d)) (pc + 3) ls st) : V X cells slots n (hp σ) pc ls (.int 7 :: .int 0 :: .ref d :: .int 0 :: .ref s :: st) := by
  refine V.acopy hC hnl hw hsn (hp_at hs) hdn (hp_at hdd) rfl (by decide) (by decide) (by decide) (by decide) (by decide) hrm hd ?_
  rw [hp_up (sC_ne σ s d), hdd] at kk
  have e : (sC σ s d).1 d = va_cpy (σ.1 s) (σ.1 d) (0 : Int32).toNatClampNeg (0 : Int32).toNatClampNeg (7 : Int32).toNatClampNeg := by
    funext j
    have h0 : (0 : Int32).toNatClampNeg = 0 := by decide
    have h7 : (7 : Int32).toNatClampNeg = 7 := by decide
    simp [sC, va_cpy, h0, h7]
  rw [← e]
  exact kk
end TVR2
