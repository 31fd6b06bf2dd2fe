/-! the reference: each tag that stands as it is, read and written (by program) -/
theorem yV_n {t n : Nat} (h1 : 9 ≤ t ∧ t < 36) (h2 : (!([4, 9, 11, 19, 20, 21, 24, 30, 33, 34].contains t)) = true) (hn : n < 7) : yV t n 0 = true := by
  unfold yV
  rw [h2, xV_n h1 hn]
  rfl
theorem yV_2 {t n j : Nat} (h1 : 30 ≤ t ∧ t < 36) (h2 : (!([4, 9, 11, 19, 20, 21, 24, 30, 33, 34].contains t)) = true) (hn : n < 7) (hj : j < 7) : yV t n j = true := by
  unfold yV
  rw [h2, xV_a h1 hn hj, decide_eq_true hj]
  rfl
theorem gy_rise {σ0 σ : tm_S} {B : Nat} {tmp : Option Nat} {A : sA} (h : RY σ0 B tmp σ A) : σ.1 130 1 = A.1 0 0 0 := h.1 0 0 0 (by decide)
theorem sy_rise {σ0 σ : tm_S} {B : Nat} {tmp : Option Nat} {A : sA} (h : RY σ0 B tmp σ A) (v : Int32) : RY σ0 B tmp (sI σ 130 1 v) (uA A 0 0 0 v) := h.set (t := 0) (i := 0) (j := 0) (by decide) (by decide) v
theorem gy_redundant {σ0 σ : tm_S} {B : Nat} {tmp : Option Nat} {A : sA} (h : RY σ0 B tmp σ A) : σ.1 130 2 = A.1 1 0 0 := h.1 1 0 0 (by decide)
theorem sy_redundant {σ0 σ : tm_S} {B : Nat} {tmp : Option Nat} {A : sA} (h : RY σ0 B tmp σ A) (v : Int32) : RY σ0 B tmp (sI σ 130 2 v) (uA A 1 0 0 v) := h.set (t := 1) (i := 0) (j := 0) (by decide) (by decide) v
theorem gy_seed {σ0 σ : tm_S} {B : Nat} {tmp : Option Nat} {A : sA} (h : RY σ0 B tmp σ A) : σ.1 130 0 = A.1 2 0 0 := h.1 2 0 0 (by decide)
theorem sy_seed {σ0 σ : tm_S} {B : Nat} {tmp : Option Nat} {A : sA} (h : RY σ0 B tmp σ A) (v : Int32) : RY σ0 B tmp (sI σ 130 0 v) (uA A 2 0 0 v) := h.set (t := 2) (i := 0) (j := 0) (by decide) (by decide) v
theorem gy_ticks {σ0 σ : tm_S} {B : Nat} {tmp : Option Nat} {A : sA} (h : RY σ0 B tmp σ A) : σ.1 130 3 = A.1 3 0 0 := h.1 3 0 0 (by decide)
theorem sy_ticks {σ0 σ : tm_S} {B : Nat} {tmp : Option Nat} {A : sA} (h : RY σ0 B tmp σ A) (v : Int32) : RY σ0 B tmp (sI σ 130 3 v) (uA A 3 0 0 v) := h.set (t := 3) (i := 0) (j := 0) (by decide) (by decide) v
theorem gy_sent {σ0 σ : tm_S} {B : Nat} {tmp : Option Nat} {A : sA} (h : RY σ0 B tmp σ A) : σ.1 130 46 = A.1 5 0 0 := h.1 5 0 0 (by decide)
theorem sy_sent {σ0 σ : tm_S} {B : Nat} {tmp : Option Nat} {A : sA} (h : RY σ0 B tmp σ A) (v : Int32) : RY σ0 B tmp (sI σ 130 46 v) (uA A 5 0 0 v) := h.set (t := 5) (i := 0) (j := 0) (by decide) (by decide) v
theorem gy_dropped {σ0 σ : tm_S} {B : Nat} {tmp : Option Nat} {A : sA} (h : RY σ0 B tmp σ A) : σ.1 130 47 = A.1 6 0 0 := h.1 6 0 0 (by decide)
theorem sy_dropped {σ0 σ : tm_S} {B : Nat} {tmp : Option Nat} {A : sA} (h : RY σ0 B tmp σ A) (v : Int32) : RY σ0 B tmp (sI σ 130 47 v) (uA A 6 0 0 v) := h.set (t := 6) (i := 0) (j := 0) (by decide) (by decide) v
theorem gy_all {σ0 σ : tm_S} {B : Nat} {tmp : Option Nat} {A : sA} (h : RY σ0 B tmp σ A) : σ.1 130 48 = A.1 7 0 0 := h.1 7 0 0 (by decide)
theorem sy_all {σ0 σ : tm_S} {B : Nat} {tmp : Option Nat} {A : sA} (h : RY σ0 B tmp σ A) (v : Int32) : RY σ0 B tmp (sI σ 130 48 v) (uA A 7 0 0 v) := h.set (t := 7) (i := 0) (j := 0) (by decide) (by decide) v
theorem gy_aired {σ0 σ : tm_S} {B : Nat} {tmp : Option Nat} {A : sA} (h : RY σ0 B tmp σ A) : σ.1 130 49 = A.1 8 0 0 := h.1 8 0 0 (by decide)
theorem sy_aired {σ0 σ : tm_S} {B : Nat} {tmp : Option Nat} {A : sA} (h : RY σ0 B tmp σ A) (v : Int32) : RY σ0 B tmp (sI σ 130 49 v) (uA A 8 0 0 v) := h.set (t := 8) (i := 0) (j := 0) (by decide) (by decide) v
theorem gy_arrived {σ0 σ : tm_S} {B : Nat} {tmp : Option Nat} {A : sA} (h : RY σ0 B tmp σ A) {n : Nat} (hn : n < 7) : σ.1 172 n = A.1 10 n 0 := h.1 10 n 0 (yV_n (by decide) (by decide) hn)
theorem gy_version {σ0 σ : tm_S} {B : Nat} {tmp : Option Nat} {A : sA} (h : RY σ0 B tmp σ A) {n : Nat} (hn : n < 7) : σ.1 138 n = A.1 12 n 0 := h.1 12 n 0 (yV_n (by decide) (by decide) hn)
theorem sy_version {σ0 σ : tm_S} {B : Nat} {tmp : Option Nat} {A : sA} (h : RY σ0 B tmp σ A) {n : Nat} (hn : n < 7) (v : Int32) : RY σ0 B tmp (sI σ 138 n v) (uA A 12 n 0 v) := h.set (t := 12) (i := n) (j := 0) (yV_n (by decide) (by decide) hn) (by decide) v
theorem gy_rank {σ0 σ : tm_S} {B : Nat} {tmp : Option Nat} {A : sA} (h : RY σ0 B tmp σ A) {n : Nat} (hn : n < 7) : σ.1 139 n = A.1 13 n 0 := h.1 13 n 0 (yV_n (by decide) (by decide) hn)
theorem sy_rank {σ0 σ : tm_S} {B : Nat} {tmp : Option Nat} {A : sA} (h : RY σ0 B tmp σ A) {n : Nat} (hn : n < 7) (v : Int32) : RY σ0 B tmp (sI σ 139 n v) (uA A 13 n 0 v) := h.set (t := 13) (i := n) (j := 0) (yV_n (by decide) (by decide) hn) (by decide) v
theorem gy_parent {σ0 σ : tm_S} {B : Nat} {tmp : Option Nat} {A : sA} (h : RY σ0 B tmp σ A) {n : Nat} (hn : n < 7) : σ.1 140 n = A.1 14 n 0 := h.1 14 n 0 (yV_n (by decide) (by decide) hn)
theorem sy_parent {σ0 σ : tm_S} {B : Nat} {tmp : Option Nat} {A : sA} (h : RY σ0 B tmp σ A) {n : Nat} (hn : n < 7) (v : Int32) : RY σ0 B tmp (sI σ 140 n v) (uA A 14 n 0 v) := h.set (t := 14) (i := n) (j := 0) (yV_n (by decide) (by decide) hn) (by decide) v
theorem gy_least {σ0 σ : tm_S} {B : Nat} {tmp : Option Nat} {A : sA} (h : RY σ0 B tmp σ A) {n : Nat} (hn : n < 7) : σ.1 141 n = A.1 15 n 0 := h.1 15 n 0 (yV_n (by decide) (by decide) hn)
theorem sy_least {σ0 σ : tm_S} {B : Nat} {tmp : Option Nat} {A : sA} (h : RY σ0 B tmp σ A) {n : Nat} (hn : n < 7) (v : Int32) : RY σ0 B tmp (sI σ 141 n v) (uA A 15 n 0 v) := h.set (t := 15) (i := n) (j := 0) (yV_n (by decide) (by decide) hn) (by decide) v
theorem gy_wait {σ0 σ : tm_S} {B : Nat} {tmp : Option Nat} {A : sA} (h : RY σ0 B tmp σ A) {n : Nat} (hn : n < 7) : σ.1 149 n = A.1 16 n 0 := h.1 16 n 0 (yV_n (by decide) (by decide) hn)
theorem sy_wait {σ0 σ : tm_S} {B : Nat} {tmp : Option Nat} {A : sA} (h : RY σ0 B tmp σ A) {n : Nat} (hn : n < 7) (v : Int32) : RY σ0 B tmp (sI σ 149 n v) (uA A 16 n 0 v) := h.set (t := 16) (i := n) (j := 0) (yV_n (by decide) (by decide) hn) (by decide) v
theorem gy_busy {σ0 σ : tm_S} {B : Nat} {tmp : Option Nat} {A : sA} (h : RY σ0 B tmp σ A) {n : Nat} (hn : n < 7) : σ.1 150 n = A.1 17 n 0 := h.1 17 n 0 (yV_n (by decide) (by decide) hn)
theorem sy_busy {σ0 σ : tm_S} {B : Nat} {tmp : Option Nat} {A : sA} (h : RY σ0 B tmp σ A) {n : Nat} (hn : n < 7) (v : Int32) : RY σ0 B tmp (sI σ 150 n v) (uA A 17 n 0 v) := h.set (t := 17) (i := n) (j := 0) (yV_n (by decide) (by decide) hn) (by decide) v
theorem gy_tries {σ0 σ : tm_S} {B : Nat} {tmp : Option Nat} {A : sA} (h : RY σ0 B tmp σ A) {n : Nat} (hn : n < 7) : σ.1 151 n = A.1 18 n 0 := h.1 18 n 0 (yV_n (by decide) (by decide) hn)
theorem sy_tries {σ0 σ : tm_S} {B : Nat} {tmp : Option Nat} {A : sA} (h : RY σ0 B tmp σ A) {n : Nat} (hn : n < 7) (v : Int32) : RY σ0 B tmp (sI σ 151 n v) (uA A 18 n 0 v) := h.set (t := 18) (i := n) (j := 0) (yV_n (by decide) (by decide) hn) (by decide) v
theorem gy_owes {σ0 σ : tm_S} {B : Nat} {tmp : Option Nat} {A : sA} (h : RY σ0 B tmp σ A) {n : Nat} (hn : n < 7) : σ.1 152 n = A.1 22 n 0 := h.1 22 n 0 (yV_n (by decide) (by decide) hn)
theorem sy_owes {σ0 σ : tm_S} {B : Nat} {tmp : Option Nat} {A : sA} (h : RY σ0 B tmp σ A) {n : Nat} (hn : n < 7) (v : Int32) : RY σ0 B tmp (sI σ 152 n v) (uA A 22 n 0 v) := h.set (t := 22) (i := n) (j := 0) (yV_n (by decide) (by decide) hn) (by decide) v
theorem gy_listens {σ0 σ : tm_S} {B : Nat} {tmp : Option Nat} {A : sA} (h : RY σ0 B tmp σ A) {n : Nat} (hn : n < 7) : σ.1 153 n = A.1 23 n 0 := h.1 23 n 0 (yV_n (by decide) (by decide) hn)
theorem sy_listens {σ0 σ : tm_S} {B : Nat} {tmp : Option Nat} {A : sA} (h : RY σ0 B tmp σ A) {n : Nat} (hn : n < 7) (v : Int32) : RY σ0 B tmp (sI σ 153 n v) (uA A 23 n 0 v) := h.set (t := 23) (i := n) (j := 0) (yV_n (by decide) (by decide) hn) (by decide) v
theorem gy_started {σ0 σ : tm_S} {B : Nat} {tmp : Option Nat} {A : sA} (h : RY σ0 B tmp σ A) {n : Nat} (hn : n < 7) : σ.1 142 n = A.1 25 n 0 := h.1 25 n 0 (yV_n (by decide) (by decide) hn)
theorem sy_started {σ0 σ : tm_S} {B : Nat} {tmp : Option Nat} {A : sA} (h : RY σ0 B tmp σ A) {n : Nat} (hn : n < 7) (v : Int32) : RY σ0 B tmp (sI σ 142 n v) (uA A 25 n 0 v) := h.set (t := 25) (i := n) (j := 0) (yV_n (by decide) (by decide) hn) (by decide) v
theorem gy_interval {σ0 σ : tm_S} {B : Nat} {tmp : Option Nat} {A : sA} (h : RY σ0 B tmp σ A) {n : Nat} (hn : n < 7) : σ.1 143 n = A.1 26 n 0 := h.1 26 n 0 (yV_n (by decide) (by decide) hn)
theorem sy_interval {σ0 σ : tm_S} {B : Nat} {tmp : Option Nat} {A : sA} (h : RY σ0 B tmp σ A) {n : Nat} (hn : n < 7) (v : Int32) : RY σ0 B tmp (sI σ 143 n v) (uA A 26 n 0 v) := h.set (t := 26) (i := n) (j := 0) (yV_n (by decide) (by decide) hn) (by decide) v
theorem gy_clock {σ0 σ : tm_S} {B : Nat} {tmp : Option Nat} {A : sA} (h : RY σ0 B tmp σ A) {n : Nat} (hn : n < 7) : σ.1 144 n = A.1 27 n 0 := h.1 27 n 0 (yV_n (by decide) (by decide) hn)
theorem sy_clock {σ0 σ : tm_S} {B : Nat} {tmp : Option Nat} {A : sA} (h : RY σ0 B tmp σ A) {n : Nat} (hn : n < 7) (v : Int32) : RY σ0 B tmp (sI σ 144 n v) (uA A 27 n 0 v) := h.set (t := 27) (i := n) (j := 0) (yV_n (by decide) (by decide) hn) (by decide) v
theorem gy_point {σ0 σ : tm_S} {B : Nat} {tmp : Option Nat} {A : sA} (h : RY σ0 B tmp σ A) {n : Nat} (hn : n < 7) : σ.1 145 n = A.1 28 n 0 := h.1 28 n 0 (yV_n (by decide) (by decide) hn)
theorem sy_point {σ0 σ : tm_S} {B : Nat} {tmp : Option Nat} {A : sA} (h : RY σ0 B tmp σ A) {n : Nat} (hn : n < 7) (v : Int32) : RY σ0 B tmp (sI σ 145 n v) (uA A 28 n 0 v) := h.set (t := 28) (i := n) (j := 0) (yV_n (by decide) (by decide) hn) (by decide) v
theorem gy_count {σ0 σ : tm_S} {B : Nat} {tmp : Option Nat} {A : sA} (h : RY σ0 B tmp σ A) {n : Nat} (hn : n < 7) : σ.1 146 n = A.1 29 n 0 := h.1 29 n 0 (yV_n (by decide) (by decide) hn)
theorem sy_count {σ0 σ : tm_S} {B : Nat} {tmp : Option Nat} {A : sA} (h : RY σ0 B tmp σ A) {n : Nat} (hn : n < 7) (v : Int32) : RY σ0 B tmp (sI σ 146 n v) (uA A 29 n 0 v) := h.set (t := 29) (i := n) (j := 0) (yV_n (by decide) (by decide) hn) (by decide) v
theorem gy_nexts {σ0 σ : tm_S} {B : Nat} {tmp : Option Nat} {A : sA} (h : RY σ0 B tmp σ A) {n j : Nat} (hn : n < 7) (hj : j < 7) : σ.1 134 (7 * n + j) = A.1 31 n j := h.1 31 n j (yV_2 (by decide) (by decide) hn hj)
theorem sy_nexts {σ0 σ : tm_S} {B : Nat} {tmp : Option Nat} {A : sA} (h : RY σ0 B tmp σ A) {n j : Nat} (hn : n < 7) (hj : j < 7) (v : Int32) : RY σ0 B tmp (sI σ 134 (7 * n + j) v) (uA A 31 n j v) := h.set (t := 31) (i := n) (j := j) (yV_2 (by decide) (by decide) hn hj) (by decide) v
theorem gy_numbers {σ0 σ : tm_S} {B : Nat} {tmp : Option Nat} {A : sA} (h : RY σ0 B tmp σ A) {n j : Nat} (hn : n < 7) (hj : j < 7) : σ.1 135 (7 * n + j) = A.1 32 n j := h.1 32 n j (yV_2 (by decide) (by decide) hn hj)
theorem sy_numbers {σ0 σ : tm_S} {B : Nat} {tmp : Option Nat} {A : sA} (h : RY σ0 B tmp σ A) {n j : Nat} (hn : n < 7) (hj : j < 7) (v : Int32) : RY σ0 B tmp (sI σ 135 (7 * n + j) v) (uA A 32 n j v) := h.set (t := 32) (i := n) (j := j) (yV_2 (by decide) (by decide) hn hj) (by decide) v
theorem gy_cost {σ0 σ : tm_S} {B : Nat} {tmp : Option Nat} {A : sA} (h : RY σ0 B tmp σ A) {n j : Nat} (hn : n < 7) (hj : j < 7) : σ.1 131 (7 * n + j) = A.1 35 n j := h.1 35 n j (yV_2 (by decide) (by decide) hn hj)
theorem sy_cost {σ0 σ : tm_S} {B : Nat} {tmp : Option Nat} {A : sA} (h : RY σ0 B tmp σ A) {n j : Nat} (hn : n < 7) (hj : j < 7) (v : Int32) : RY σ0 B tmp (sI σ 131 (7 * n + j) v) (uA A 35 n j v) := h.set (t := 35) (i := n) (j := j) (yV_2 (by decide) (by decide) hn hj) (by decide) v
