/-! the class: each tag read and written (by program, wip/whole/l2/gen_gs.py) -/
theorem gx_rise {σ0 σ : tm_S} {A : sA} (h : RX σ0 σ A) : σ.1 1 0 = A.1 0 0 0 := h.1 0 0 0 (xV_m (by decide))
theorem sx_rise {σ0 σ : tm_S} {A : sA} (h : RX σ0 σ A) (v : Int32) : RX σ0 (sI σ 1 0 v) (uA A 0 0 0 v) := h.set (t := 0) (i := 0) (j := 0) (xV_m (by decide)) v
theorem gx_redundant {σ0 σ : tm_S} {A : sA} (h : RX σ0 σ A) : σ.1 1 1 = A.1 1 0 0 := h.1 1 0 0 (xV_m (by decide))
theorem sx_redundant {σ0 σ : tm_S} {A : sA} (h : RX σ0 σ A) (v : Int32) : RX σ0 (sI σ 1 1 v) (uA A 1 0 0 v) := h.set (t := 1) (i := 0) (j := 0) (xV_m (by decide)) v
theorem gx_seed {σ0 σ : tm_S} {A : sA} (h : RX σ0 σ A) : σ.1 1 4 = A.1 2 0 0 := h.1 2 0 0 (xV_m (by decide))
theorem sx_seed {σ0 σ : tm_S} {A : sA} (h : RX σ0 σ A) (v : Int32) : RX σ0 (sI σ 1 4 v) (uA A 2 0 0 v) := h.set (t := 2) (i := 0) (j := 0) (xV_m (by decide)) v
theorem gx_ticks {σ0 σ : tm_S} {A : sA} (h : RX σ0 σ A) : σ.1 1 5 = A.1 3 0 0 := h.1 3 0 0 (xV_m (by decide))
theorem sx_ticks {σ0 σ : tm_S} {A : sA} (h : RX σ0 σ A) (v : Int32) : RX σ0 (sI σ 1 5 v) (uA A 3 0 0 v) := h.set (t := 3) (i := 0) (j := 0) (xV_m (by decide)) v
theorem gx_serials {σ0 σ : tm_S} {A : sA} (h : RX σ0 σ A) : σ.1 1 6 = A.1 4 0 0 := h.1 4 0 0 (xV_m (by decide))
theorem sx_serials {σ0 σ : tm_S} {A : sA} (h : RX σ0 σ A) (v : Int32) : RX σ0 (sI σ 1 6 v) (uA A 4 0 0 v) := h.set (t := 4) (i := 0) (j := 0) (xV_m (by decide)) v
theorem gx_sent {σ0 σ : tm_S} {A : sA} (h : RX σ0 σ A) : σ.1 1 7 = A.1 5 0 0 := h.1 5 0 0 (xV_m (by decide))
theorem sx_sent {σ0 σ : tm_S} {A : sA} (h : RX σ0 σ A) (v : Int32) : RX σ0 (sI σ 1 7 v) (uA A 5 0 0 v) := h.set (t := 5) (i := 0) (j := 0) (xV_m (by decide)) v
theorem gx_dropped {σ0 σ : tm_S} {A : sA} (h : RX σ0 σ A) : σ.1 1 8 = A.1 6 0 0 := h.1 6 0 0 (xV_m (by decide))
theorem sx_dropped {σ0 σ : tm_S} {A : sA} (h : RX σ0 σ A) (v : Int32) : RX σ0 (sI σ 1 8 v) (uA A 6 0 0 v) := h.set (t := 6) (i := 0) (j := 0) (xV_m (by decide)) v
theorem gx_all {σ0 σ : tm_S} {A : sA} (h : RX σ0 σ A) : σ.1 1 9 = A.1 7 0 0 := h.1 7 0 0 (xV_m (by decide))
theorem sx_all {σ0 σ : tm_S} {A : sA} (h : RX σ0 σ A) (v : Int32) : RX σ0 (sI σ 1 9 v) (uA A 7 0 0 v) := h.set (t := 7) (i := 0) (j := 0) (xV_m (by decide)) v
theorem gx_aired {σ0 σ : tm_S} {A : sA} (h : RX σ0 σ A) : σ.1 1 10 = A.1 8 0 0 := h.1 8 0 0 (xV_m (by decide))
theorem sx_aired {σ0 σ : tm_S} {A : sA} (h : RX σ0 σ A) (v : Int32) : RX σ0 (sI σ 1 10 v) (uA A 8 0 0 v) := h.set (t := 8) (i := 0) (j := 0) (xV_m (by decide)) v
theorem gx_id {σ0 σ : tm_S} {A : sA} (h : RX σ0 σ A) {n : Nat} (hn : n < 7) : σ.1 (11 + 17 * n) 0 = A.1 9 n 0 := h.1 9 n 0 (xV_n (by decide) hn)
theorem sx_id {σ0 σ : tm_S} {A : sA} (h : RX σ0 σ A) {n : Nat} (hn : n < 7) (v : Int32) : RX σ0 (sI σ (11 + 17 * n) 0 v) (uA A 9 n 0 v) := h.set (t := 9) (i := n) (j := 0) (xV_n (by decide) hn) v
theorem gx_arrived {σ0 σ : tm_S} {A : sA} (h : RX σ0 σ A) {n : Nat} (hn : n < 7) : σ.1 (11 + 17 * n) 8 = A.1 10 n 0 := h.1 10 n 0 (xV_n (by decide) hn)
theorem sx_arrived {σ0 σ : tm_S} {A : sA} (h : RX σ0 σ A) {n : Nat} (hn : n < 7) (v : Int32) : RX σ0 (sI σ (11 + 17 * n) 8 v) (uA A 10 n 0 v) := h.set (t := 10) (i := n) (j := 0) (xV_n (by decide) hn) v
theorem gx_alive {σ0 σ : tm_S} {A : sA} (h : RX σ0 σ A) {n : Nat} (hn : n < 7) : σ.1 (11 + 17 * n) 9 = A.1 11 n 0 := h.1 11 n 0 (xV_n (by decide) hn)
theorem sx_alive {σ0 σ : tm_S} {A : sA} (h : RX σ0 σ A) {n : Nat} (hn : n < 7) (v : Int32) : RX σ0 (sI σ (11 + 17 * n) 9 v) (uA A 11 n 0 v) := h.set (t := 11) (i := n) (j := 0) (xV_n (by decide) hn) v
theorem gx_version {σ0 σ : tm_S} {A : sA} (h : RX σ0 σ A) {n : Nat} (hn : n < 7) : σ.1 (11 + 17 * n) 10 = A.1 12 n 0 := h.1 12 n 0 (xV_n (by decide) hn)
theorem sx_version {σ0 σ : tm_S} {A : sA} (h : RX σ0 σ A) {n : Nat} (hn : n < 7) (v : Int32) : RX σ0 (sI σ (11 + 17 * n) 10 v) (uA A 12 n 0 v) := h.set (t := 12) (i := n) (j := 0) (xV_n (by decide) hn) v
theorem gx_rank {σ0 σ : tm_S} {A : sA} (h : RX σ0 σ A) {n : Nat} (hn : n < 7) : σ.1 (11 + 17 * n) 11 = A.1 13 n 0 := h.1 13 n 0 (xV_n (by decide) hn)
theorem sx_rank {σ0 σ : tm_S} {A : sA} (h : RX σ0 σ A) {n : Nat} (hn : n < 7) (v : Int32) : RX σ0 (sI σ (11 + 17 * n) 11 v) (uA A 13 n 0 v) := h.set (t := 13) (i := n) (j := 0) (xV_n (by decide) hn) v
theorem gx_parent {σ0 σ : tm_S} {A : sA} (h : RX σ0 σ A) {n : Nat} (hn : n < 7) : σ.1 (11 + 17 * n) 12 = A.1 14 n 0 := h.1 14 n 0 (xV_n (by decide) hn)
theorem sx_parent {σ0 σ : tm_S} {A : sA} (h : RX σ0 σ A) {n : Nat} (hn : n < 7) (v : Int32) : RX σ0 (sI σ (11 + 17 * n) 12 v) (uA A 14 n 0 v) := h.set (t := 14) (i := n) (j := 0) (xV_n (by decide) hn) v
theorem gx_least {σ0 σ : tm_S} {A : sA} (h : RX σ0 σ A) {n : Nat} (hn : n < 7) : σ.1 (11 + 17 * n) 13 = A.1 15 n 0 := h.1 15 n 0 (xV_n (by decide) hn)
theorem sx_least {σ0 σ : tm_S} {A : sA} (h : RX σ0 σ A) {n : Nat} (hn : n < 7) (v : Int32) : RX σ0 (sI σ (11 + 17 * n) 13 v) (uA A 15 n 0 v) := h.set (t := 15) (i := n) (j := 0) (xV_n (by decide) hn) v
theorem gx_wait {σ0 σ : tm_S} {A : sA} (h : RX σ0 σ A) {n : Nat} (hn : n < 7) : σ.1 (11 + 17 * n + 1) 2 = A.1 16 n 0 := h.1 16 n 0 (xV_n (by decide) hn)
theorem sx_wait {σ0 σ : tm_S} {A : sA} (h : RX σ0 σ A) {n : Nat} (hn : n < 7) (v : Int32) : RX σ0 (sI σ (11 + 17 * n + 1) 2 v) (uA A 16 n 0 v) := h.set (t := 16) (i := n) (j := 0) (xV_n (by decide) hn) v
theorem gx_busy {σ0 σ : tm_S} {A : sA} (h : RX σ0 σ A) {n : Nat} (hn : n < 7) : σ.1 (11 + 17 * n + 1) 3 = A.1 17 n 0 := h.1 17 n 0 (xV_n (by decide) hn)
theorem sx_busy {σ0 σ : tm_S} {A : sA} (h : RX σ0 σ A) {n : Nat} (hn : n < 7) (v : Int32) : RX σ0 (sI σ (11 + 17 * n + 1) 3 v) (uA A 17 n 0 v) := h.set (t := 17) (i := n) (j := 0) (xV_n (by decide) hn) v
theorem gx_tries {σ0 σ : tm_S} {A : sA} (h : RX σ0 σ A) {n : Nat} (hn : n < 7) : σ.1 (11 + 17 * n + 1) 4 = A.1 18 n 0 := h.1 18 n 0 (xV_n (by decide) hn)
theorem sx_tries {σ0 σ : tm_S} {A : sA} (h : RX σ0 σ A) {n : Nat} (hn : n < 7) (v : Int32) : RX σ0 (sI σ (11 + 17 * n + 1) 4 v) (uA A 18 n 0 v) := h.set (t := 18) (i := n) (j := 0) (xV_n (by decide) hn) v
theorem gx_air {σ0 σ : tm_S} {A : sA} (h : RX σ0 σ A) {n : Nat} (hn : n < 7) : σ.1 (11 + 17 * n + 1) 5 = A.1 19 n 0 := h.1 19 n 0 (xV_n (by decide) hn)
theorem sx_air {σ0 σ : tm_S} {A : sA} (h : RX σ0 σ A) {n : Nat} (hn : n < 7) (v : Int32) : RX σ0 (sI σ (11 + 17 * n + 1) 5 v) (uA A 19 n 0 v) := h.set (t := 19) (i := n) (j := 0) (xV_n (by decide) hn) v
theorem gx_wasOn {σ0 σ : tm_S} {A : sA} (h : RX σ0 σ A) {n : Nat} (hn : n < 7) : σ.1 (11 + 17 * n + 1) 6 = A.1 20 n 0 := h.1 20 n 0 (xV_n (by decide) hn)
theorem sx_wasOn {σ0 σ : tm_S} {A : sA} (h : RX σ0 σ A) {n : Nat} (hn : n < 7) (v : Int32) : RX σ0 (sI σ (11 + 17 * n + 1) 6 v) (uA A 20 n 0 v) := h.set (t := 20) (i := n) (j := 0) (xV_n (by decide) hn) v
theorem gx_ackTo {σ0 σ : tm_S} {A : sA} (h : RX σ0 σ A) {n : Nat} (hn : n < 7) : σ.1 (11 + 17 * n + 1) 7 = A.1 21 n 0 := h.1 21 n 0 (xV_n (by decide) hn)
theorem sx_ackTo {σ0 σ : tm_S} {A : sA} (h : RX σ0 σ A) {n : Nat} (hn : n < 7) (v : Int32) : RX σ0 (sI σ (11 + 17 * n + 1) 7 v) (uA A 21 n 0 v) := h.set (t := 21) (i := n) (j := 0) (xV_n (by decide) hn) v
theorem gx_owes {σ0 σ : tm_S} {A : sA} (h : RX σ0 σ A) {n : Nat} (hn : n < 7) : σ.1 (11 + 17 * n + 1) 8 = A.1 22 n 0 := h.1 22 n 0 (xV_n (by decide) hn)
theorem sx_owes {σ0 σ : tm_S} {A : sA} (h : RX σ0 σ A) {n : Nat} (hn : n < 7) (v : Int32) : RX σ0 (sI σ (11 + 17 * n + 1) 8 v) (uA A 22 n 0 v) := h.set (t := 22) (i := n) (j := 0) (xV_n (by decide) hn) v
theorem gx_listens {σ0 σ : tm_S} {A : sA} (h : RX σ0 σ A) {n : Nat} (hn : n < 7) : σ.1 (11 + 17 * n + 1) 9 = A.1 23 n 0 := h.1 23 n 0 (xV_n (by decide) hn)
theorem sx_listens {σ0 σ : tm_S} {A : sA} (h : RX σ0 σ A) {n : Nat} (hn : n < 7) (v : Int32) : RX σ0 (sI σ (11 + 17 * n + 1) 9 v) (uA A 23 n 0 v) := h.set (t := 23) (i := n) (j := 0) (xV_n (by decide) hn) v
theorem gx_hears {σ0 σ : tm_S} {A : sA} (h : RX σ0 σ A) {n : Nat} (hn : n < 7) : σ.1 (11 + 17 * n + 1) 10 = A.1 24 n 0 := h.1 24 n 0 (xV_n (by decide) hn)
theorem sx_hears {σ0 σ : tm_S} {A : sA} (h : RX σ0 σ A) {n : Nat} (hn : n < 7) (v : Int32) : RX σ0 (sI σ (11 + 17 * n + 1) 10 v) (uA A 24 n 0 v) := h.set (t := 24) (i := n) (j := 0) (xV_n (by decide) hn) v
theorem gx_started {σ0 σ : tm_S} {A : sA} (h : RX σ0 σ A) {n : Nat} (hn : n < 7) : σ.1 (11 + 17 * n + 11) 0 = A.1 25 n 0 := h.1 25 n 0 (xV_n (by decide) hn)
theorem sx_started {σ0 σ : tm_S} {A : sA} (h : RX σ0 σ A) {n : Nat} (hn : n < 7) (v : Int32) : RX σ0 (sI σ (11 + 17 * n + 11) 0 v) (uA A 25 n 0 v) := h.set (t := 25) (i := n) (j := 0) (xV_n (by decide) hn) v
theorem gx_interval {σ0 σ : tm_S} {A : sA} (h : RX σ0 σ A) {n : Nat} (hn : n < 7) : σ.1 (11 + 17 * n + 11) 1 = A.1 26 n 0 := h.1 26 n 0 (xV_n (by decide) hn)
theorem sx_interval {σ0 σ : tm_S} {A : sA} (h : RX σ0 σ A) {n : Nat} (hn : n < 7) (v : Int32) : RX σ0 (sI σ (11 + 17 * n + 11) 1 v) (uA A 26 n 0 v) := h.set (t := 26) (i := n) (j := 0) (xV_n (by decide) hn) v
theorem gx_clock {σ0 σ : tm_S} {A : sA} (h : RX σ0 σ A) {n : Nat} (hn : n < 7) : σ.1 (11 + 17 * n + 11) 2 = A.1 27 n 0 := h.1 27 n 0 (xV_n (by decide) hn)
theorem sx_clock {σ0 σ : tm_S} {A : sA} (h : RX σ0 σ A) {n : Nat} (hn : n < 7) (v : Int32) : RX σ0 (sI σ (11 + 17 * n + 11) 2 v) (uA A 27 n 0 v) := h.set (t := 27) (i := n) (j := 0) (xV_n (by decide) hn) v
theorem gx_point {σ0 σ : tm_S} {A : sA} (h : RX σ0 σ A) {n : Nat} (hn : n < 7) : σ.1 (11 + 17 * n + 11) 3 = A.1 28 n 0 := h.1 28 n 0 (xV_n (by decide) hn)
theorem sx_point {σ0 σ : tm_S} {A : sA} (h : RX σ0 σ A) {n : Nat} (hn : n < 7) (v : Int32) : RX σ0 (sI σ (11 + 17 * n + 11) 3 v) (uA A 28 n 0 v) := h.set (t := 28) (i := n) (j := 0) (xV_n (by decide) hn) v
theorem gx_count {σ0 σ : tm_S} {A : sA} (h : RX σ0 σ A) {n : Nat} (hn : n < 7) : σ.1 (11 + 17 * n + 11) 4 = A.1 29 n 0 := h.1 29 n 0 (xV_n (by decide) hn)
theorem sx_count {σ0 σ : tm_S} {A : sA} (h : RX σ0 σ A) {n : Nat} (hn : n < 7) (v : Int32) : RX σ0 (sI σ (11 + 17 * n + 11) 4 v) (uA A 29 n 0 v) := h.set (t := 29) (i := n) (j := 0) (xV_n (by decide) hn) v
theorem gx_ranks {σ0 σ : tm_S} {A : sA} (h : RX σ0 σ A) {n j : Nat} (hn : n < 7) (hj : j < 7) : σ.1 (11 + 17 * n + 12) j = A.1 30 n j := h.1 30 n j (xV_a (by decide) hn hj)
theorem sx_ranks {σ0 σ : tm_S} {A : sA} (h : RX σ0 σ A) {n j : Nat} (hn : n < 7) (hj : j < 7) (v : Int32) : RX σ0 (sI σ (11 + 17 * n + 12) j v) (uA A 30 n j v) := h.set (t := 30) (i := n) (j := j) (xV_a (by decide) hn hj) v
theorem gx_nexts {σ0 σ : tm_S} {A : sA} (h : RX σ0 σ A) {n j : Nat} (hn : n < 7) (hj : j < 7) : σ.1 (11 + 17 * n + 13) j = A.1 31 n j := h.1 31 n j (xV_a (by decide) hn hj)
theorem sx_nexts {σ0 σ : tm_S} {A : sA} (h : RX σ0 σ A) {n j : Nat} (hn : n < 7) (hj : j < 7) (v : Int32) : RX σ0 (sI σ (11 + 17 * n + 13) j v) (uA A 31 n j v) := h.set (t := 31) (i := n) (j := j) (xV_a (by decide) hn hj) v
theorem gx_numbers {σ0 σ : tm_S} {A : sA} (h : RX σ0 σ A) {n j : Nat} (hn : n < 7) (hj : j < 7) : σ.1 (11 + 17 * n + 14) j = A.1 32 n j := h.1 32 n j (xV_a (by decide) hn hj)
theorem sx_numbers {σ0 σ : tm_S} {A : sA} (h : RX σ0 σ A) {n j : Nat} (hn : n < 7) (hj : j < 7) (v : Int32) : RX σ0 (sI σ (11 + 17 * n + 14) j v) (uA A 32 n j v) := h.set (t := 32) (i := n) (j := j) (xV_a (by decide) hn hj) v
theorem gx_received {σ0 σ : tm_S} {A : sA} (h : RX σ0 σ A) {n j : Nat} (hn : n < 7) (hj : j < 7) : σ.1 (11 + 17 * n + 15) j = A.1 33 n j := h.1 33 n j (xV_a (by decide) hn hj)
theorem sx_received {σ0 σ : tm_S} {A : sA} (h : RX σ0 σ A) {n j : Nat} (hn : n < 7) (hj : j < 7) (v : Int32) : RX σ0 (sI σ (11 + 17 * n + 15) j v) (uA A 33 n j v) := h.set (t := 33) (i := n) (j := j) (xV_a (by decide) hn hj) v
theorem gx_arrivals {σ0 σ : tm_S} {A : sA} (h : RX σ0 σ A) {n j : Nat} (hn : n < 7) (hj : j < 8) : σ.1 (11 + 17 * n + 16) j = A.1 34 n j := h.1 34 n j (xV_8 hn hj)
theorem sx_arrivals {σ0 σ : tm_S} {A : sA} (h : RX σ0 σ A) {n j : Nat} (hn : n < 7) (hj : j < 8) (v : Int32) : RX σ0 (sI σ (11 + 17 * n + 16) j v) (uA A 34 n j v) := h.set (t := 34) (i := n) (j := j) (xV_8 hn hj) v
theorem gx_cost {σ0 σ : tm_S} {A : sA} (h : RX σ0 σ A) {n j : Nat} (hn : n < 7) (hj : j < 7) : σ.1 (4 + n) j = A.1 35 n j := h.1 35 n j (xV_a (by decide) hn hj)
theorem sx_cost {σ0 σ : tm_S} {A : sA} (h : RX σ0 σ A) {n j : Nat} (hn : n < 7) (hj : j < 7) (v : Int32) : RX σ0 (sI σ (4 + n) j v) (uA A 35 n j v) := h.set (t := 35) (i := n) (j := j) (xV_a (by decide) hn hj) v
