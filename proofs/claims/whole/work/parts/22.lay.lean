/-! the flat state and the heap that it stands for, by program (wip/whole/decomp.py) -/
abbrev tm_S : Type := (Nat → Nat → Int32) × (Nat → Nat → Nat)
abbrev tm_n : Nat := 173
abbrev tm_fu : Nat := 200
abbrev tm_fl : Nat := 600
abbrev tm_ty : List FieldType := [.int, .boolean, .object "TrickleMesh$Node", .object "TrickleMesh$Frame", .array .int]
def tm_kn : List Nat := [5, 6, 7, 8, 4, 8, 4, 8, 4, 8, 4, 9, 4, 4, 4, 4, 10]
def tm_ky : List Nat := [12, 12, 13, 12, 12, 12, 14, 15, 15, 15, 15, 14, 15, 15, 15, 15, 16, 15, 15, 15, 15, 15, 14, 17, 18, 18, 18, 18, 19, 17, 18, 18, 18, 18, 17, 17, 15, 15, 14, 14, 14, 15, 20]
/-- the kind of an address -/
def kd (q : Nat) : Nat := if q = 0 then 0 else if q = 1 then 1 else if q = 2 then 2 else if q = 3 then 3 else if q ≤ 10 then 4 else if q < 130 then tm_kn.getD ((q - 11) % 17) 99 else if q = 130 then 11 else if q ≤ 173 then tm_ky.getD (q - 131) 99 else 99
/-- the cell of a kind at q, its ints and its changing references -/
def tm_c (k q : Nat) (w : Nat → Int32) (p : Nat → Nat) : tv_C := match k with
  | 0 => .inl (0, (p 0, .inl w))
  | 1 => .inr (4, [.int (w 0), .int (w 1), .ref 2, .ref 3, .int (w 4), .int (w 5), .int (w 6), .int (w 7), .int (w 8), .int (w 9), .int (w 10)])
  | 2 => .inl (2, (7, .inr (.inr (.inr (.inr (fun j => some (11 + 17 * j)))))))
  | 3 => .inl (4, (7, .inr (.inr (.inr (.inr (fun j => some (4 + j)))))))
  | 4 => .inl (0, (7, .inl w))
  | 5 => .inr (1, [.int (w 0), .ref (q + 1), .ref (q + 11), .ref (q + 12), .ref (q + 13), .ref (q + 14), .ref (q + 15), .ref (q + 16), .int (w 8), .int (w 9), .int (w 10), .int (w 11), .int (w 12), .int (w 13)])
  | 6 => .inr (2, [.ref (q + 1), .int (w 1), .int (w 2), .int (w 3), .int (w 4), .int (w 5), .int (w 6), .int (w 7), .int (w 8), .int (w 9), .int (w 10)])
  | 7 => .inl (3, (4, .inr (.inr (.inr (.inr (fun j => some (p j)))))))
  | 8 => .inr (0, [.int (w 0), .int (w 1), .int (w 2), .int (w 3), .int (w 4), .ref (q + 1), .int (w 6), .int (w 7), .int (w 8), .int (w 9), .int (w 10), .int (w 11)])
  | 9 => .inr (3, [.int (w 0), .int (w 1), .int (w 2), .int (w 3), .int (w 4)])
  | 10 => .inl (0, (8, .inl w))
  | 11 => .inr (5, [.int (w 0), .int (w 1), .int (w 2), .int (w 3), .ref 131, .ref 132, .ref 133, .ref 134, .ref 135, .ref 136, .ref 137, .ref 138, .ref 139, .ref 140, .ref 141, .ref 142, .ref 143, .ref 144, .ref 145, .ref 146, .ref 147, .ref 148, .ref 149, .ref 150, .ref 151, .ref 152, .ref 153, .ref 154, .ref 155, .ref 156, .ref 157, .ref 158, .ref 159, .ref 160, .ref 161, .ref 162, .ref 163, .ref 164, .ref 165, .ref 166, .int (w 40), .ref 167, .ref 168, .ref 169, .ref 170, .ref 171, .int (w 46), .int (w 47), .int (w 48), .int (w 49), .ref 172, .ref 173])
  | 12 => .inl (0, (49, .inl w))
  | 13 => .inl (1, (49, .inl w))
  | 14 => .inl (1, (7, .inl w))
  | 15 => .inl (0, (7, .inl w))
  | 16 => .inl (0, (28, .inl w))
  | 17 => .inl (1, (32, .inl w))
  | 18 => .inl (0, (32, .inl w))
  | 19 => .inl (0, (224, .inl w))
  | 20 => .inl (0, (56, .inl w))
  | _ => .inr (99, [])
def hp (σ : tm_S) : Nat → tv_C := fun q => tm_c (kd q) q (σ.1 q) (σ.2 q)
theorem hp_at {σ : tm_S} {q k : Nat} (h : kd q = k) : hp σ q = tm_c k q (σ.1 q) (σ.2 q) := by unfold hp; rw [h]
theorem kd_in {q k : Nat} (h : kd q = k) (hk : k ≠ 0 ∧ k ≠ 99) : 0 < q ∧ q ≤ tm_n := by
  by_cases h0 : q = 0
  · subst h0; exact absurd h.symm hk.1
  · by_cases hn : q ≤ tm_n
    · exact ⟨by omega, hn⟩
    · exfalso
      apply hk.2
      rw [← h]
      have hn : ¬ q ≤ 173 := hn
      unfold kd
      rw [if_neg h0, if_neg (by omega), if_neg (by omega), if_neg (by omega), if_neg (by omega), if_neg (by omega), if_neg (by omega), if_neg hn]
theorem kd_5_6_a : ∀ q, q < 174 → kd q = 5 → kd (q + 1) = 6 := by decide +kernel
theorem kd_5_6 {q : Nat} (h : kd q = 5) : kd (q + 1) = 6 := kd_5_6_a q (Nat.lt_succ_of_le (kd_in h (by decide)).2) h
theorem kd_5_9_a : ∀ q, q < 174 → kd q = 5 → kd (q + 11) = 9 := by decide +kernel
theorem kd_5_9 {q : Nat} (h : kd q = 5) : kd (q + 11) = 9 := kd_5_9_a q (Nat.lt_succ_of_le (kd_in h (by decide)).2) h
theorem kd_5_12_a : ∀ q, q < 174 → kd q = 5 → kd (q + 12) = 4 := by decide +kernel
theorem kd_5_12 {q : Nat} (h : kd q = 5) : kd (q + 12) = 4 := kd_5_12_a q (Nat.lt_succ_of_le (kd_in h (by decide)).2) h
theorem kd_5_13_a : ∀ q, q < 174 → kd q = 5 → kd (q + 13) = 4 := by decide +kernel
theorem kd_5_13 {q : Nat} (h : kd q = 5) : kd (q + 13) = 4 := kd_5_13_a q (Nat.lt_succ_of_le (kd_in h (by decide)).2) h
theorem kd_5_14_a : ∀ q, q < 174 → kd q = 5 → kd (q + 14) = 4 := by decide +kernel
theorem kd_5_14 {q : Nat} (h : kd q = 5) : kd (q + 14) = 4 := kd_5_14_a q (Nat.lt_succ_of_le (kd_in h (by decide)).2) h
theorem kd_5_15_a : ∀ q, q < 174 → kd q = 5 → kd (q + 15) = 4 := by decide +kernel
theorem kd_5_15 {q : Nat} (h : kd q = 5) : kd (q + 15) = 4 := kd_5_15_a q (Nat.lt_succ_of_le (kd_in h (by decide)).2) h
theorem kd_5_16_a : ∀ q, q < 174 → kd q = 5 → kd (q + 16) = 10 := by decide +kernel
theorem kd_5_16 {q : Nat} (h : kd q = 5) : kd (q + 16) = 10 := kd_5_16_a q (Nat.lt_succ_of_le (kd_in h (by decide)).2) h
theorem kd_6_7_a : ∀ q, q < 174 → kd q = 6 → kd (q + 1) = 7 := by decide +kernel
theorem kd_6_7 {q : Nat} (h : kd q = 6) : kd (q + 1) = 7 := kd_6_7_a q (Nat.lt_succ_of_le (kd_in h (by decide)).2) h
theorem kd_8_4_a : ∀ q, q < 174 → kd q = 8 → kd (q + 1) = 4 := by decide +kernel
theorem kd_8_4 {q : Nat} (h : kd q = 8) : kd (q + 1) = 4 := kd_8_4_a q (Nat.lt_succ_of_le (kd_in h (by decide)).2) h
abbrev tm_n1 : Nat := 129
theorem kd_i1_a : ∀ q, q < 174 → kd q < 11 → q ≤ 129 := by decide +kernel
theorem kd_i1 {q k : Nat} (h : kd q = k) (hk : k ≠ 0 ∧ k < 11) : 0 < q ∧ q ≤ tm_n1 := by
  have h1 := kd_in h ⟨hk.1, by omega⟩
  exact ⟨h1.1, kd_i1_a q (Nat.lt_succ_of_le h1.2) (by rw [h]; exact hk.2)⟩
theorem kd_nodes_a : ∀ m, m < 7 → kd (11 + 17 * m) = 5 := by decide +kernel
theorem kd_nodes {i : Int32} (h : ¬ (i < 0 ∨ 7 ≤ i.toNatClampNeg)) : kd (11 + 17 * i.toNatClampNeg) = 5 := kd_nodes_a _ (Nat.not_le.mp fun q => h (Or.inr q))
theorem kd_costs_a : ∀ m, m < 7 → kd (4 + m) = 4 := by decide +kernel
theorem kd_costs {i : Int32} (h : ¬ (i < 0 ∨ 7 ≤ i.toNatClampNeg)) : kd (4 + i.toNatClampNeg) = 4 := kd_costs_a _ (Nat.not_le.mp fun q => h (Or.inr q))
theorem kd_0 : kd 0 = 0 := by decide +kernel
theorem kd_1 : kd 1 = 1 := by decide +kernel
theorem kd_2 : kd 2 = 2 := by decide +kernel
theorem kd_3 : kd 3 = 3 := by decide +kernel
theorem kd_130 : kd 130 = 11 := by decide +kernel
theorem kd_131 : kd 131 = 12 := by decide +kernel
theorem kd_132 : kd 132 = 12 := by decide +kernel
theorem kd_133 : kd 133 = 13 := by decide +kernel
theorem kd_134 : kd 134 = 12 := by decide +kernel
theorem kd_135 : kd 135 = 12 := by decide +kernel
theorem kd_136 : kd 136 = 12 := by decide +kernel
theorem kd_137 : kd 137 = 14 := by decide +kernel
theorem kd_138 : kd 138 = 15 := by decide +kernel
theorem kd_139 : kd 139 = 15 := by decide +kernel
theorem kd_140 : kd 140 = 15 := by decide +kernel
theorem kd_141 : kd 141 = 15 := by decide +kernel
theorem kd_142 : kd 142 = 14 := by decide +kernel
theorem kd_143 : kd 143 = 15 := by decide +kernel
theorem kd_144 : kd 144 = 15 := by decide +kernel
theorem kd_145 : kd 145 = 15 := by decide +kernel
theorem kd_146 : kd 146 = 15 := by decide +kernel
theorem kd_147 : kd 147 = 16 := by decide +kernel
theorem kd_148 : kd 148 = 15 := by decide +kernel
theorem kd_149 : kd 149 = 15 := by decide +kernel
theorem kd_150 : kd 150 = 15 := by decide +kernel
theorem kd_151 : kd 151 = 15 := by decide +kernel
theorem kd_152 : kd 152 = 15 := by decide +kernel
theorem kd_153 : kd 153 = 14 := by decide +kernel
theorem kd_154 : kd 154 = 17 := by decide +kernel
theorem kd_155 : kd 155 = 18 := by decide +kernel
theorem kd_156 : kd 156 = 18 := by decide +kernel
theorem kd_157 : kd 157 = 18 := by decide +kernel
theorem kd_158 : kd 158 = 18 := by decide +kernel
theorem kd_159 : kd 159 = 19 := by decide +kernel
theorem kd_160 : kd 160 = 17 := by decide +kernel
theorem kd_161 : kd 161 = 18 := by decide +kernel
theorem kd_162 : kd 162 = 18 := by decide +kernel
theorem kd_163 : kd 163 = 18 := by decide +kernel
theorem kd_164 : kd 164 = 18 := by decide +kernel
theorem kd_165 : kd 165 = 17 := by decide +kernel
theorem kd_166 : kd 166 = 17 := by decide +kernel
theorem kd_167 : kd 167 = 15 := by decide +kernel
theorem kd_168 : kd 168 = 15 := by decide +kernel
theorem kd_169 : kd 169 = 14 := by decide +kernel
theorem kd_170 : kd 170 = 14 := by decide +kernel
theorem kd_171 : kd 171 = 14 := by decide +kernel
theorem kd_172 : kd 172 = 15 := by decide +kernel
theorem kd_173 : kd 173 = 20 := by decide +kernel
