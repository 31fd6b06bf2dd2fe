/-! the reference's constructor -/
section SETF
variable {X : tv_X} {cells slots n : Nat} {σ : tm_S} {pc : Nat} {ls : List (Option Value)} {st : List Value} {cc : ByteArray} {nL : Nat} {own : String} {rm : Room}
theorem V.setF (hC : tv_K X cc nL own tm_wg tm_ns tm_cl tm_ty rm) (hinit : tv_nm X = "<init>") {idx ci k q K : Nat} {C : String} {T : u_T} {N : Nat} {x : Int32} {ty : FieldType} {fs : List Value} (hF : tm_cl[ci]? = some (C, T, N) ∧ k < N ∧ (∀ w ∈ u_ws C T N, w ∈ tm_wg) ∧ Cond.fieldLink own idx (T k).1 (T k).2.1 (T k).2.2.1 ∈ tm_wg) (tyT : Nat → FieldType) (hty : ∀ k, k < N → parseFieldDescriptor (T k).2.2.1 = some (tyT k)) (hnm : ∀ a, a < N → ∀ b, b < N → a ≠ b → (T a).2.1 ≠ (T b).2.1) (hfin : (T k).2.2.2 = true) (hdecl : (T k).1 = own) (hds : parseFieldDescriptor (T k).2.2.1 = some ty) (hfit : ∀ bs b, narrow ty (tv_v bs b (.int x)) = tv_v bs b (.int x) ∧ fits ty (tv_v bs b (.int x)) = true) (hq : kd q = K) (hK : 0 < q ∧ q ≤ n) (hc : tm_c K q (σ.1 q) (σ.2 q) = .inr (ci, fs)) (hs : tm_c K q (upd (σ.1 q) k x) (σ.2 q) = .inr (ci, fs.set k (.int x))) (hlen : k < fs.length) (hd : decode cc pc = .ok (.putfield idx, 3)) (kk : V X cells slots n (hp (sI σ q k x)) (pc + 3) ls st) : V X cells slots n (hp σ) pc ls (.int x :: .ref q :: st) := by
  refine V.putF hC hinit hF tyT hty hnm hfin hdecl hds hfit hK ((hp_at hq).trans hc) hlen hd ?_
  rw [hp_sI, hq, hs] at kk
  exact kk
end SETF
def yC (k m q j : Nat) : eC :=
  if q = 130 then (if j = 0 then .inl 2 else if j = 1 then .inl 0 else if j = 2 then .inl 1 else .inr 0)
  else if q = 138 then .inr (if j < k then (if j = 0 then 1 else 0) else 0)
  else if q = 139 then .inr (if j < k then (if j = 0 then 1 else 255) else 0)
  else if q = 140 then .inr (if j < k then -1 else 0)
  else if q = 141 then .inr (if j < k then 255 else 0)
  else if q = 143 then .inr (if j < k then 64 else 0)
  else if q = 152 then .inr (if j < k then -1 else 0)
  else if q = 134 then .inr (if j < m then -1 else 0)
  else .inr 0
def yJ (σ : tm_S) (a r c : Int32) (k m : Nat) : tm_S := (fun q j => if q < 130 then σ.1 q j else ev a r c (yC k m q j), σ.2)
theorem st_ext {σ τ : tm_S} (h1 : ∀ q j, σ.1 q j = τ.1 q j) (h2 : σ.2 = τ.2) : σ = τ := Prod.ext (funext fun q => funext fun j => h1 q j) h2
theorem yJ_0 (σ : tm_S) (a r c : Int32) : sI (sI (sI (zY σ) 130 0 a) 130 1 r) 130 2 c = yJ σ a r c 0 0 := by
  refine st_ext (fun q j => ?_) rfl
  simp only [sI_1, yJ, zY]
  by_cases hq : q < 130
  · rw [if_neg (fun e => by omega), if_neg (fun e => by omega), if_neg (fun e => by omega), if_pos hq, if_pos hq]
  · rw [if_neg hq, if_neg hq]
    by_cases h0 : q = 130
    · subst h0
      by_cases h2 : j = 2
      · subst h2; rfl
      · by_cases h1 : j = 1
        · subst h1; rfl
        · by_cases h3 : j = 0
          · subst h3; rfl
          · simp [h1, h2, h3, yC, ev]
    · simp only [h0, false_and, if_false, yC, Nat.not_lt_zero]
      (repeat' split) <;> rfl
theorem yJ_k (σ : tm_S) (a r c : Int32) (k : Nat) : sI (sI (sI (sI (sI (sI (yJ σ a r c k 0) 138 k (if k = 0 then 1 else 0)) 139 k (if k = 0 then 1 else 255)) 140 k (-1)) 141 k 255) 143 k 64) 152 k (-1) = yJ σ a r c (k + 1) 0 := by
  refine st_ext (fun q j => ?_) rfl
  simp only [sI_1, yJ]
  by_cases hq : q < 130
  · rw [if_neg (fun e => by omega), if_neg (fun e => by omega), if_neg (fun e => by omega), if_neg (fun e => by omega), if_neg (fun e => by omega), if_neg (fun e => by omega), if_pos hq, if_pos hq]
  · rw [if_neg hq, if_neg hq]
    by_cases hj : j = k
    · subst hj
      simp only [yC, and_true, Nat.lt_irrefl, if_false, show j < j + 1 by omega, if_true]
      by_cases e1 : q = 138
      · subst e1; simp [ev]
      by_cases e2 : q = 139
      · subst e2; simp [ev]
      by_cases e3 : q = 140
      · subst e3; simp [ev]
      by_cases e4 : q = 141
      · subst e4; simp [ev]
      by_cases e5 : q = 143
      · subst e5; simp [ev]
      by_cases e6 : q = 152
      · subst e6; simp [ev]
      simp only [e1, e2, e3, e4, e5, e6, if_false]
    · simp only [yC, hj, and_false, if_false, show (j < k + 1) = (j < k) from propext ⟨fun _ => by omega, fun _ => by omega⟩]
theorem yJ_m (σ : tm_S) (a r c : Int32) (k m : Nat) : sI (yJ σ a r c k m) 134 m (-1) = yJ σ a r c k (m + 1) := by
  refine st_ext (fun q j => ?_) rfl
  simp only [sI_1, yJ]
  by_cases hq : q < 130
  · rw [if_neg (fun e => by omega), if_pos hq, if_pos hq]
  · rw [if_neg hq, if_neg hq]
    by_cases hj : j = m
    · subst hj
      simp only [yC, and_true, Nat.lt_irrefl, if_false, show j < j + 1 by omega, if_true]
      (repeat' split) <;> first | rfl | (exfalso; omega)
    · simp only [yC, hj, and_false, if_false, show (j < m + 1) = (j < m) from propext ⟨fun _ => by omega, fun _ => by omega⟩]
theorem cl_R1 {r : Int32} (h : ¬ (0 : Int32) ≤ r) : clR r = 0 := by
  rw [Int32.le_iff_toInt_le] at h
  have h0 : (0 : Int32).toInt = 0 := by decide
  have h2 : (200 : Int32).toInt = 200 := by decide
  unfold clR
  rw [if_pos (show r < 200 from Int32.lt_iff_toInt_lt.mpr (by omega)), if_neg (fun e => by have := Int32.lt_iff_toInt_lt.mp e; omega)]
theorem cl_R2 {r : Int32} (h : (0 : Int32) ≤ r) (h' : r ≤ (200 : Int32)) : clR r = r := by
  rw [Int32.le_iff_toInt_le] at h h'
  have h0 : (0 : Int32).toInt = 0 := by decide
  have h2 : (200 : Int32).toInt = 200 := by decide
  unfold clR
  by_cases e : r < (200 : Int32)
  · rw [if_pos e]
    by_cases e2 : (0 : Int32) < r
    · rw [if_pos e2]
    · rw [if_neg e2]
      rw [Int32.lt_iff_toInt_lt] at e2
      exact Int32.toInt_inj.mp (by omega)
  · rw [if_neg e, if_pos (by decide)]
    rw [Int32.lt_iff_toInt_lt] at e
    exact Int32.toInt_inj.mp (by omega)
theorem cl_R3 {r : Int32} (h : (0 : Int32) ≤ r) (h' : ¬ r ≤ (200 : Int32)) : clR r = 200 := by
  rw [Int32.le_iff_toInt_le] at h h'
  unfold clR
  rw [if_neg (fun e : r < (200 : Int32) => by have := Int32.lt_iff_toInt_lt.mp e; omega), if_pos (by decide)]
theorem cl_K1 {r : Int32} (h : ¬ (1 : Int32) ≤ r) : clK r = 1 := by
  rw [Int32.le_iff_toInt_le] at h
  have h0 : (1 : Int32).toInt = 1 := by decide
  have h2 : (9 : Int32).toInt = 9 := by decide
  unfold clK
  rw [if_pos (show r < 9 from Int32.lt_iff_toInt_lt.mpr (by omega)), if_neg (fun e => by have := Int32.lt_iff_toInt_lt.mp e; omega)]
theorem cl_K2 {r : Int32} (h : (1 : Int32) ≤ r) (h' : r ≤ (9 : Int32)) : clK r = r := by
  rw [Int32.le_iff_toInt_le] at h h'
  have h0 : (1 : Int32).toInt = 1 := by decide
  have h2 : (9 : Int32).toInt = 9 := by decide
  unfold clK
  by_cases e : r < (9 : Int32)
  · rw [if_pos e]
    by_cases e2 : (1 : Int32) < r
    · rw [if_pos e2]
    · rw [if_neg e2]
      rw [Int32.lt_iff_toInt_lt] at e2
      exact Int32.toInt_inj.mp (by omega)
  · rw [if_neg e, if_pos (by decide)]
    rw [Int32.lt_iff_toInt_lt] at e
    exact Int32.toInt_inj.mp (by omega)
theorem cl_K3 {r : Int32} (h : (1 : Int32) ≤ r) (h' : ¬ r ≤ (9 : Int32)) : clK r = 9 := by
  rw [Int32.le_iff_toInt_le] at h h'
  unfold clK
  rw [if_neg (fun e : r < (9 : Int32) => by have := Int32.lt_iff_toInt_lt.mp e; omega), if_pos (by decide)]
theorem fill_b : ∀ k, k < 49 → (¬ Int32.ofNat 49 ≤ Int32.ofNat k) ∧ (¬ (Int32.ofNat k < 0 ∨ 49 ≤ (Int32.ofNat k).toNatClampNeg)) ∧ (Int32.ofNat k).toNatClampNeg = k ∧ Int32.ofNat k + 1 = Int32.ofNat (k + 1) := by decide
