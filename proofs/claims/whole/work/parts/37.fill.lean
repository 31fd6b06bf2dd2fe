/-! Arrays.fill of seven ints -/
theorem d_JA_fill_0 : decode tb_JA_fill 0 = .ok (.iconst 0, 1) := by decide +kernel
theorem d_JA_fill_1 : decode tb_JA_fill 1 = .ok (.istore_n 2, 1) := by decide +kernel
theorem d_JA_fill_2 : decode tb_JA_fill 2 = .ok (.aload_n 0, 1) := by decide +kernel
theorem d_JA_fill_3 : decode tb_JA_fill 3 = .ok (.arraylength, 1) := by decide +kernel
theorem d_JA_fill_4 : decode tb_JA_fill 4 = .ok (.istore_n 3, 1) := by decide +kernel
theorem d_JA_fill_5 : decode tb_JA_fill 5 = .ok (.iload_n 2, 1) := by decide +kernel
theorem d_JA_fill_6 : decode tb_JA_fill 6 = .ok (.iload_n 3, 1) := by decide +kernel
theorem d_JA_fill_7 : decode tb_JA_fill 7 = .ok (.if_icmp .ge 13, 3) := by decide +kernel
theorem d_JA_fill_10 : decode tb_JA_fill 10 = .ok (.aload_n 0, 1) := by decide +kernel
theorem d_JA_fill_11 : decode tb_JA_fill 11 = .ok (.iload_n 2, 1) := by decide +kernel
theorem d_JA_fill_12 : decode tb_JA_fill 12 = .ok (.iload_n 1, 1) := by decide +kernel
theorem d_JA_fill_13 : decode tb_JA_fill 13 = .ok (.iastore, 1) := by decide +kernel
theorem d_JA_fill_14 : decode tb_JA_fill 14 = .ok (.iinc 2 1, 3) := by decide +kernel
theorem d_JA_fill_17 : decode tb_JA_fill 17 = .ok (.goto (-12), 3) := by decide +kernel
theorem d_JA_fill_20 : decode tb_JA_fill 20 = .ok (.return_, 1) := by decide +kernel
theorem va_upup {α : Type} (f : Nat → α) (k : Nat) (v w : α) : va_up (va_up f k v) k w = va_up f k w := by
  funext j
  by_cases h : j = k
  · subst h
    rw [va_up_self, va_up_self]
  · rw [va_up_ne _ _ h, va_up_ne _ _ h, va_up_ne _ _ h]
def tv_fl (f : Nat → Int32) (v : Int32) (k : Nat) : Nat → Int32 := fun j => if j < k then v else f j
theorem tv_fl_s (f : Nat → Int32) (v : Int32) (k : Nat) : upd (tv_fl f v k) k v = tv_fl f v (k + 1) := by
  funext j
  by_cases h : j = k
  · subst h
    simp [upd, tv_fl]
  · have : j < k + 1 ↔ j < k := by omega
    simp [upd, tv_fl, h, this]
theorem fill_a : ∀ k, k < 7 → (¬ Int32.ofNat 7 ≤ Int32.ofNat k) ∧ (¬ (Int32.ofNat k < 0 ∨ 7 ≤ (Int32.ofNat k).toNatClampNeg)) ∧ (Int32.ofNat k).toNatClampNeg = k ∧ Int32.ofNat k + 1 = Int32.ofNat (k + 1) := by decide
section FILL
variable {X : tv_X} {n a : Nat} {h : Nat → tv_C} {f : Nat → Int32} {v : Int32} {rm : Room} {P : Option Value → Nat → (Nat → tv_C) → Prop}
set_option maxHeartbeats 4000000 in
theorem fill_lp (hC : tv_K X tb_JA_fill 4 "java/util/Arrays" tm_wg tm_ns tm_cl tm_ty rm) (hr : tv_ret X none) (hE : tv_end X P 0 0) (ha : 0 < a ∧ a ≤ n) (hP : P none n (va_up h a (.inl (0, (7, .inl (tv_fl f v 7)))))) : ∀ c k, k + c = 7 → V X 0 0 n (va_up h a (.inl (0, (7, .inl (tv_fl f v k))))) 5 [some (.ref a), some (.int v), some (.int (Int32.ofNat k)), some (.int (Int32.ofNat 7))] []
  | 0, k, hk => by
    obtain rfl : k = 7 := by omega
    refine V.blk hC [(.iload_n 2, 1), (.iload_n 3, 1)] 5 _ _ ⟨d_JA_fill_5, d_JA_fill_6, trivial⟩ (show tv_run _ _ _ _ = some (7, _, [.int (Int32.ofNat 7), .int (Int32.ofNat 7)]) from rfl) ?_
    refine V.icmp_ge hC d_JA_fill_7 (tgt := 20) (by decide) (fun _ => ?_) (fun hc => absurd (by decide) hc)
    exact V.vret hC hr hE d_JA_fill_20 hP
  | c + 1, k, hk => by
    obtain ⟨a1, a2, a3, a4⟩ := fill_a k (by omega)
    refine V.blk hC [(.iload_n 2, 1), (.iload_n 3, 1)] 5 _ _ ⟨d_JA_fill_5, d_JA_fill_6, trivial⟩ (show tv_run _ _ _ _ = some (7, _, [.int (Int32.ofNat 7), .int (Int32.ofNat k)]) from rfl) ?_
    refine V.icmp_ge hC d_JA_fill_7 (tgt := 20) (by decide) (fun hc => absurd hc a1) (fun _ => ?_)
    refine V.blk hC [(.aload_n 0, 1), (.iload_n 2, 1), (.iload_n 1, 1)] 10 _ _ ⟨d_JA_fill_10, d_JA_fill_11, d_JA_fill_12, trivial⟩ (show tv_run _ _ _ _ = some (13, _, [.int v, .int (Int32.ofNat k), .ref a]) from rfl) ?_
    refine V.iast hC ha (va_up_self _ _ _) rfl a2 d_JA_fill_13 ?_
    rw [va_upup, a3, tv_fl_s]
    refine V.blk hC [(.iinc 2 1, 3)] 14 _ _ ⟨d_JA_fill_14, trivial⟩ (show tv_run _ _ _ _ = some (17, [some (.ref a), some (.int v), some (.int (Int32.ofNat k + 1)), some (.int (Int32.ofNat 7))], []) from rfl) ?_
    rw [a4]
    refine V.goto hC d_JA_fill_17 (tgt := 5) (by decide) ?_
    exact fill_lp hC hr hE ha hP c (k + 1) (by omega)
theorem c_fill0 (ha : 0 < a ∧ a ≤ n) (hh : h a = .inl (0, (7, .inl f))) (v : Int32) : tv_Met ty_JA_fill (Cond.code ty_JA_fill tb_JA_fill 4 none :: tm_wg) tm_ns tm_cl tm_ty 0 0 0 0 [.ref a, .int v] n h (fun v' n' h' => v' = none ∧ n' = n ∧ h' = va_up h a (.inl (0, (7, .inl (tv_fl f v 7))))) := by
  refine tv_Met.of (by decide) rfl (tm_le rfl) ?_
  intro X hC hnm hr hE
  have hC : tv_K X tb_JA_fill 4 "java/util/Arrays" tm_wg tm_ns tm_cl tm_ty { frames := 0, cells := 0, slots := 0, locals := 0 } := hC
  show V X 0 0 n h 0 [some (.ref a), some (.int v), none, none] []
  refine V.blk hC [(.iconst 0, 1), (.istore_n 2, 1), (.aload_n 0, 1)] 0 _ _ ⟨d_JA_fill_0, d_JA_fill_1, d_JA_fill_2, trivial⟩ (show tv_run _ _ _ _ = some (3, [some (.ref a), some (.int v), some (.int (Int32.ofNat 0)), none], [.ref a]) from rfl) ?_
  refine V.alen hC ha hh rfl d_JA_fill_3 ?_
  refine V.blk hC [(.istore_n 3, 1)] 4 _ _ ⟨d_JA_fill_4, trivial⟩ (show tv_run _ _ _ _ = some (5, [some (.ref a), some (.int v), some (.int (Int32.ofNat 0)), some (.int (Int32.ofNat 7))], []) from rfl) ?_
  refine V.congr (h' := va_up h a (.inl (0, (7, .inl (tv_fl f v 0))))) (fun q _ => ?_) (fill_lp hC hr hE ha ⟨rfl, rfl, rfl⟩ 7 0 (by omega))
  by_cases hq : q = a
  · subst hq
    rw [va_up_self, hh]
    rfl
  · rw [va_up_ne _ _ hq]
end FILL
theorem sFl_ne (σ : tm_S) (a : Nat) (v : Int32) : ∀ q, q ≠ a → (sFl σ a v).1 q = σ.1 q ∧ (sFl σ a v).2 q = σ.2 q := by
  intro q hq
  refine ⟨?_, rfl⟩
  funext j
  simp [sFl, hq]
theorem c_JA_fill (σ : tm_S) (q : Nat) (hq : kd q = 4) (v : Int32) : tv_Met ty_JA_fill (Cond.code ty_JA_fill tb_JA_fill 4 none :: tm_wg) tm_ns tm_cl tm_ty 0 0 0 0 [.ref q, .int v] tm_n (hp σ) (tm_P none (sFl σ q v)) := by
  have e1 : (sFl σ q v).1 q = tv_fl (σ.1 q) v 7 := by
    funext j
    simp [sFl, tv_fl]
  have e : hp (sFl σ q v) = va_up (hp σ) q (.inl (0, (7, .inl (tv_fl (σ.1 q) v 7)))) := by
    rw [hp_up (sFl_ne σ q v), hq, e1]
    rfl
  unfold tm_P
  rw [e]
  exact c_fill0 (kd_in hq (by decide)) (hp_at hq) v
