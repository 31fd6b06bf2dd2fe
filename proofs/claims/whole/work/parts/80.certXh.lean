set_option maxHeartbeats 4000000 in
set_option maxRecDepth 100000 in
theorem c_X_node_L35 {X : tv_X} {r : Int32 × tm_S} (hC : tv_K X tb_X_node 6 "TrickleMesh" tm_wg tm_ns tm_cl tm_ty { frames := 1, cells := 0, slots := 0, locals := 20 }) (hr : tv_ret X (some .int)) (hE : tv_end X (tm_P (some (.int r.1)) r.2) 0 0) (σ : tm_S) (l1 : Int32) (l2 : Int32) (l3 : Nat) (l4 : Nat) (s0 : Int32) (kl3 : kd l3 = 5) (kl4 : kd l4 = 6) (hf : f_X_node_L35 σ l1 l2 l3 l4 s0 = some r) : V X 0 0 tm_n (hp σ) 35 [some (.ref 1), some (.int l1), some (.int l2), some (.ref l3), some (.ref l4), none] [.int s0] := by
  unfold f_X_node_L35 at hf
  refine V.blk hC [(.istore 5, 2), (.iload_n 2, 1)] 35 [some (.ref 1), some (.int l1), some (.int l2), some (.ref l3), some (.ref l4), none] [.int s0] ⟨d_X_node_35, d_X_node_37, trivial⟩ (show tv_run _ _ _ _ = some (38, [some (.ref 1), some (.int l1), some (.int l2), some (.ref l3), some (.ref l4), some (.int s0)], [.int l2]) from rfl) ?_
  by_cases hw0 : l2 = (0 : Int32)
  · rw [if_pos hw0] at hf
    refine V.tableIn hC d_X_node_38 (tgt := 104) (by rw [hw0]; decide) (by rw [hw0]; decide) (by rw [hw0]; rfl) (by decide) ?_
    refine V.blk hC [(.aload_n 3, 1)] 104 [some (.ref 1), some (.int l1), some (.int l2), some (.ref l3), some (.ref l4), some (.int s0)] [] ⟨d_X_node_104, trivial⟩ (show tv_run _ _ _ _ = some (105, [some (.ref 1), some (.int l1), some (.int l2), some (.ref l3), some (.ref l4), some (.int s0)], [.ref l3]) from rfl) ?_
    refine V.getf hC tf_X_45 (kd_in kl3 (by decide)) (hp_at kl3) rfl d_X_node_105 ?_
    show V X 0 0 tm_n (hp σ) 108 [some (.ref 1), some (.int l1), some (.int l2), some (.ref l3), some (.ref l4), some (.int s0)] [.int (σ.1 l3 11)]
    obtain rfl := Option.some.inj hf
    exact V.iret hC hr hE d_X_node_108 ⟨rfl, rfl, rfl⟩
  rw [if_neg hw0] at hf
  by_cases hw1 : l2 = (1 : Int32)
  · rw [if_pos hw1] at hf
    refine V.tableIn hC d_X_node_38 (tgt := 109) (by rw [hw1]; decide) (by rw [hw1]; decide) (by rw [hw1]; rfl) (by decide) ?_
    refine V.blk hC [(.aload_n 3, 1)] 109 [some (.ref 1), some (.int l1), some (.int l2), some (.ref l3), some (.ref l4), some (.int s0)] [] ⟨d_X_node_109, trivial⟩ (show tv_run _ _ _ _ = some (110, [some (.ref 1), some (.int l1), some (.int l2), some (.ref l3), some (.ref l4), some (.int s0)], [.ref l3]) from rfl) ?_
    refine V.getf hC tf_X_115 (kd_in kl3 (by decide)) (hp_at kl3) rfl d_X_node_110 ?_
    show V X 0 0 tm_n (hp σ) 113 [some (.ref 1), some (.int l1), some (.int l2), some (.ref l3), some (.ref l4), some (.int s0)] [.int (σ.1 l3 12)]
    refine V.blk hC [(.iconst 1, 1), (.iadd, 1)] 113 [some (.ref 1), some (.int l1), some (.int l2), some (.ref l3), some (.ref l4), some (.int s0)] [.int (σ.1 l3 12)] ⟨d_X_node_113, d_X_node_114, trivial⟩ (show tv_run _ _ _ _ = some (115, [some (.ref 1), some (.int l1), some (.int l2), some (.ref l3), some (.ref l4), some (.int s0)], [.int ((σ.1 l3 12) + (1 : Int32))]) from rfl) ?_
    obtain rfl := Option.some.inj hf
    exact V.iret hC hr hE d_X_node_115 ⟨rfl, rfl, rfl⟩
  rw [if_neg hw1] at hf
  by_cases hw2 : l2 = (2 : Int32)
  · rw [if_pos hw2] at hf
    refine V.tableIn hC d_X_node_38 (tgt := 116) (by rw [hw2]; decide) (by rw [hw2]; decide) (by rw [hw2]; rfl) (by decide) ?_
    refine V.blk hC [(.aload_n 3, 1)] 116 [some (.ref 1), some (.int l1), some (.int l2), some (.ref l3), some (.ref l4), some (.int s0)] [] ⟨d_X_node_116, trivial⟩ (show tv_run _ _ _ _ = some (117, [some (.ref 1), some (.int l1), some (.int l2), some (.ref l3), some (.ref l4), some (.int s0)], [.ref l3]) from rfl) ?_
    refine V.getf hC tf_X_42 (kd_in kl3 (by decide)) (hp_at kl3) rfl d_X_node_117 ?_
    show V X 0 0 tm_n (hp σ) 120 [some (.ref 1), some (.int l1), some (.int l2), some (.ref l3), some (.ref l4), some (.int s0)] [.int (σ.1 l3 10)]
    obtain rfl := Option.some.inj hf
    exact V.iret hC hr hE d_X_node_120 ⟨rfl, rfl, rfl⟩
  rw [if_neg hw2] at hf
  by_cases hw3 : l2 = (3 : Int32)
  · rw [if_pos hw3] at hf
    refine V.tableIn hC d_X_node_38 (tgt := 121) (by rw [hw3]; decide) (by rw [hw3]; decide) (by rw [hw3]; rfl) (by decide) ?_
    refine V.blk hC [(.aload_n 3, 1)] 121 [some (.ref 1), some (.int l1), some (.int l2), some (.ref l3), some (.ref l4), some (.int s0)] [] ⟨d_X_node_121, trivial⟩ (show tv_run _ _ _ _ = some (122, [some (.ref 1), some (.int l1), some (.int l2), some (.ref l3), some (.ref l4), some (.int s0)], [.ref l3]) from rfl) ?_
    refine V.getf hC tf_X_48 (kd_in kl3 (by decide)) (hp_at kl3) rfl d_X_node_122 ?_
    show V X 0 0 tm_n (hp σ) 125 [some (.ref 1), some (.int l1), some (.int l2), some (.ref l3), some (.ref l4), some (.int s0)] [.ref (l3 + 11)]
    refine V.getf hC tf_X_118 (kd_in (kd_5_9 kl3) (by decide)) (hp_at (kd_5_9 kl3)) rfl d_X_node_125 ?_
    show V X 0 0 tm_n (hp σ) 128 [some (.ref 1), some (.int l1), some (.int l2), some (.ref l3), some (.ref l4), some (.int s0)] [.int (σ.1 (l3 + 11) 1)]
    obtain rfl := Option.some.inj hf
    exact V.iret hC hr hE d_X_node_128 ⟨rfl, rfl, rfl⟩
  rw [if_neg hw3] at hf
  by_cases hw4 : l2 = (4 : Int32)
  · rw [if_pos hw4] at hf
    refine V.tableIn hC d_X_node_38 (tgt := 129) (by rw [hw4]; decide) (by rw [hw4]; decide) (by rw [hw4]; rfl) (by decide) ?_
    refine V.blk hC [(.aload_n 3, 1)] 129 [some (.ref 1), some (.int l1), some (.int l2), some (.ref l3), some (.ref l4), some (.int s0)] [] ⟨d_X_node_129, trivial⟩ (show tv_run _ _ _ _ = some (130, [some (.ref 1), some (.int l1), some (.int l2), some (.ref l3), some (.ref l4), some (.int s0)], [.ref l3]) from rfl) ?_
    refine V.getf hC tf_X_48 (kd_in kl3 (by decide)) (hp_at kl3) rfl d_X_node_130 ?_
    show V X 0 0 tm_n (hp σ) 133 [some (.ref 1), some (.int l1), some (.int l2), some (.ref l3), some (.ref l4), some (.int s0)] [.ref (l3 + 11)]
    refine V.getf hC tf_X_121 (kd_in (kd_5_9 kl3) (by decide)) (hp_at (kd_5_9 kl3)) rfl d_X_node_133 ?_
    show V X 0 0 tm_n (hp σ) 136 [some (.ref 1), some (.int l1), some (.int l2), some (.ref l3), some (.ref l4), some (.int s0)] [.int (σ.1 (l3 + 11) 2)]
    obtain rfl := Option.some.inj hf
    exact V.iret hC hr hE d_X_node_136 ⟨rfl, rfl, rfl⟩
  rw [if_neg hw4] at hf
  by_cases hw5 : l2 = (5 : Int32)
  · rw [if_pos hw5] at hf
    refine V.tableIn hC d_X_node_38 (tgt := 137) (by rw [hw5]; decide) (by rw [hw5]; decide) (by rw [hw5]; rfl) (by decide) ?_
    refine V.blk hC [(.aload_n 3, 1)] 137 [some (.ref 1), some (.int l1), some (.int l2), some (.ref l3), some (.ref l4), some (.int s0)] [] ⟨d_X_node_137, trivial⟩ (show tv_run _ _ _ _ = some (138, [some (.ref 1), some (.int l1), some (.int l2), some (.ref l3), some (.ref l4), some (.int s0)], [.ref l3]) from rfl) ?_
    refine V.getf hC tf_X_48 (kd_in kl3 (by decide)) (hp_at kl3) rfl d_X_node_138 ?_
    show V X 0 0 tm_n (hp σ) 141 [some (.ref 1), some (.int l1), some (.int l2), some (.ref l3), some (.ref l4), some (.int s0)] [.ref (l3 + 11)]
    refine V.getf hC tf_X_124 (kd_in (kd_5_9 kl3) (by decide)) (hp_at (kd_5_9 kl3)) rfl d_X_node_141 ?_
    show V X 0 0 tm_n (hp σ) 144 [some (.ref 1), some (.int l1), some (.int l2), some (.ref l3), some (.ref l4), some (.int s0)] [.int (σ.1 (l3 + 11) 4)]
    obtain rfl := Option.some.inj hf
    exact V.iret hC hr hE d_X_node_144 ⟨rfl, rfl, rfl⟩
  rw [if_neg hw5] at hf
  by_cases hw6 : l2 = (6 : Int32)
  · rw [if_pos hw6] at hf
    refine V.tableIn hC d_X_node_38 (tgt := 145) (by rw [hw6]; decide) (by rw [hw6]; decide) (by rw [hw6]; rfl) (by decide) ?_
    refine V.blk hC [(.aload 4, 2)] 145 [some (.ref 1), some (.int l1), some (.int l2), some (.ref l3), some (.ref l4), some (.int s0)] [] ⟨d_X_node_145, trivial⟩ (show tv_run _ _ _ _ = some (147, [some (.ref 1), some (.int l1), some (.int l2), some (.ref l3), some (.ref l4), some (.int s0)], [.ref l4]) from rfl) ?_
    refine V.getf hC tf_X_73 (kd_in kl4 (by decide)) (hp_at kl4) rfl d_X_node_147 ?_
    show V X 0 0 tm_n (hp σ) 150 [some (.ref 1), some (.int l1), some (.int l2), some (.ref l3), some (.ref l4), some (.int s0)] [.int (σ.1 l4 1)]
    obtain rfl := Option.some.inj hf
    exact V.iret hC hr hE d_X_node_150 ⟨rfl, rfl, rfl⟩
  rw [if_neg hw6] at hf
  by_cases hw7 : l2 = (7 : Int32)
  · rw [if_pos hw7] at hf
    refine V.tableIn hC d_X_node_38 (tgt := 151) (by rw [hw7]; decide) (by rw [hw7]; decide) (by rw [hw7]; rfl) (by decide) ?_
    refine V.blk hC [(.iload 5, 2)] 151 [some (.ref 1), some (.int l1), some (.int l2), some (.ref l3), some (.ref l4), some (.int s0)] [] ⟨d_X_node_151, trivial⟩ (show tv_run _ _ _ _ = some (153, [some (.ref 1), some (.int l1), some (.int l2), some (.ref l3), some (.ref l4), some (.int s0)], [.int s0]) from rfl) ?_
    refine V.if_eq hC d_X_node_153 (tgt := 164) (by decide) (fun hc => ?_) (fun hc => ?_)
    · rw [if_pos hc] at hf
      refine V.blk hC [(.iconst 0, 1)] 164 [some (.ref 1), some (.int l1), some (.int l2), some (.ref l3), some (.ref l4), some (.int s0)] [] ⟨d_X_node_164, trivial⟩ (show tv_run _ _ _ _ = some (165, [some (.ref 1), some (.int l1), some (.int l2), some (.ref l3), some (.ref l4), some (.int s0)], [.int (0 : Int32)]) from rfl) ?_
      obtain rfl := Option.some.inj hf
      exact V.iret hC hr hE d_X_node_165 ⟨rfl, rfl, rfl⟩
    · rw [if_neg hc] at hf
      refine V.blk hC [(.aload 4, 2)] 156 [some (.ref 1), some (.int l1), some (.int l2), some (.ref l3), some (.ref l4), some (.int s0)] [] ⟨d_X_node_156, trivial⟩ (show tv_run _ _ _ _ = some (158, [some (.ref 1), some (.int l1), some (.int l2), some (.ref l3), some (.ref l4), some (.int s0)], [.ref l4]) from rfl) ?_
      refine V.getf hC tf_X_127 (kd_in kl4 (by decide)) (hp_at kl4) rfl d_X_node_158 ?_
      show V X 0 0 tm_n (hp σ) 161 [some (.ref 1), some (.int l1), some (.int l2), some (.ref l3), some (.ref l4), some (.int s0)] [.int (σ.1 l4 2)]
      refine V.goto hC d_X_node_161 (tgt := 165) (by decide) ?_
      obtain rfl := Option.some.inj hf
      exact V.iret hC hr hE d_X_node_165 ⟨rfl, rfl, rfl⟩
  rw [if_neg hw7] at hf
  by_cases hw8 : l2 = (8 : Int32)
  · rw [if_pos hw8] at hf
    refine V.tableIn hC d_X_node_38 (tgt := 166) (by rw [hw8]; decide) (by rw [hw8]; decide) (by rw [hw8]; rfl) (by decide) ?_
    refine V.blk hC [(.iload 5, 2)] 166 [some (.ref 1), some (.int l1), some (.int l2), some (.ref l3), some (.ref l4), some (.int s0)] [] ⟨d_X_node_166, trivial⟩ (show tv_run _ _ _ _ = some (168, [some (.ref 1), some (.int l1), some (.int l2), some (.ref l3), some (.ref l4), some (.int s0)], [.int s0]) from rfl) ?_
    refine V.if_eq hC d_X_node_168 (tgt := 179) (by decide) (fun hc => ?_) (fun hc => ?_)
    · rw [if_pos hc] at hf
      refine V.blk hC [(.iconst 0, 1)] 179 [some (.ref 1), some (.int l1), some (.int l2), some (.ref l3), some (.ref l4), some (.int s0)] [] ⟨d_X_node_179, trivial⟩ (show tv_run _ _ _ _ = some (180, [some (.ref 1), some (.int l1), some (.int l2), some (.ref l3), some (.ref l4), some (.int s0)], [.int (0 : Int32)]) from rfl) ?_
      obtain rfl := Option.some.inj hf
      exact V.iret hC hr hE d_X_node_180 ⟨rfl, rfl, rfl⟩
    · rw [if_neg hc] at hf
      refine V.blk hC [(.aload 4, 2)] 171 [some (.ref 1), some (.int l1), some (.int l2), some (.ref l3), some (.ref l4), some (.int s0)] [] ⟨d_X_node_171, trivial⟩ (show tv_run _ _ _ _ = some (173, [some (.ref 1), some (.int l1), some (.int l2), some (.ref l3), some (.ref l4), some (.int s0)], [.ref l4]) from rfl) ?_
      refine V.getf hC tf_X_130 (kd_in kl4 (by decide)) (hp_at kl4) rfl d_X_node_173 ?_
      show V X 0 0 tm_n (hp σ) 176 [some (.ref 1), some (.int l1), some (.int l2), some (.ref l3), some (.ref l4), some (.int s0)] [.int (σ.1 l4 3)]
      refine V.goto hC d_X_node_176 (tgt := 180) (by decide) ?_
      obtain rfl := Option.some.inj hf
      exact V.iret hC hr hE d_X_node_180 ⟨rfl, rfl, rfl⟩
  rw [if_neg hw8] at hf
  by_cases hw9 : l2 = (9 : Int32)
  · rw [if_pos hw9] at hf
    refine V.tableIn hC d_X_node_38 (tgt := 181) (by rw [hw9]; decide) (by rw [hw9]; decide) (by rw [hw9]; rfl) (by decide) ?_
    refine V.blk hC [(.iload 5, 2)] 181 [some (.ref 1), some (.int l1), some (.int l2), some (.ref l3), some (.ref l4), some (.int s0)] [] ⟨d_X_node_181, trivial⟩ (show tv_run _ _ _ _ = some (183, [some (.ref 1), some (.int l1), some (.int l2), some (.ref l3), some (.ref l4), some (.int s0)], [.int s0]) from rfl) ?_
    refine V.if_eq hC d_X_node_183 (tgt := 194) (by decide) (fun hc => ?_) (fun hc => ?_)
    · rw [if_pos hc] at hf
      refine V.blk hC [(.iconst 0, 1)] 194 [some (.ref 1), some (.int l1), some (.int l2), some (.ref l3), some (.ref l4), some (.int s0)] [] ⟨d_X_node_194, trivial⟩ (show tv_run _ _ _ _ = some (195, [some (.ref 1), some (.int l1), some (.int l2), some (.ref l3), some (.ref l4), some (.int s0)], [.int (0 : Int32)]) from rfl) ?_
      obtain rfl := Option.some.inj hf
      exact V.iret hC hr hE d_X_node_195 ⟨rfl, rfl, rfl⟩
    · rw [if_neg hc] at hf
      refine V.blk hC [(.aload 4, 2)] 186 [some (.ref 1), some (.int l1), some (.int l2), some (.ref l3), some (.ref l4), some (.int s0)] [] ⟨d_X_node_186, trivial⟩ (show tv_run _ _ _ _ = some (188, [some (.ref 1), some (.int l1), some (.int l2), some (.ref l3), some (.ref l4), some (.int s0)], [.ref l4]) from rfl) ?_
      refine V.getf hC tf_X_133 (kd_in kl4 (by decide)) (hp_at kl4) rfl d_X_node_188 ?_
      show V X 0 0 tm_n (hp σ) 191 [some (.ref 1), some (.int l1), some (.int l2), some (.ref l3), some (.ref l4), some (.int s0)] [.int (σ.1 l4 4)]
      refine V.goto hC d_X_node_191 (tgt := 195) (by decide) ?_
      obtain rfl := Option.some.inj hf
      exact V.iret hC hr hE d_X_node_195 ⟨rfl, rfl, rfl⟩
  rw [if_neg hw9] at hf
  by_cases hw10 : l2 = (10 : Int32)
  · rw [if_pos hw10] at hf
    refine V.tableIn hC d_X_node_38 (tgt := 196) (by rw [hw10]; decide) (by rw [hw10]; decide) (by rw [hw10]; rfl) (by decide) ?_
    refine V.blk hC [(.aload_n 3, 1)] 196 [some (.ref 1), some (.int l1), some (.int l2), some (.ref l3), some (.ref l4), some (.int s0)] [] ⟨d_X_node_196, trivial⟩ (show tv_run _ _ _ _ = some (197, [some (.ref 1), some (.int l1), some (.int l2), some (.ref l3), some (.ref l4), some (.int s0)], [.ref l3]) from rfl) ?_
    refine V.getf hC tf_X_136 (kd_in kl3 (by decide)) (hp_at kl3) rfl d_X_node_197 ?_
    show V X 0 0 tm_n (hp σ) 200 [some (.ref 1), some (.int l1), some (.int l2), some (.ref l3), some (.ref l4), some (.int s0)] [.int (σ.1 l3 13)]
    obtain rfl := Option.some.inj hf
    exact V.iret hC hr hE d_X_node_200 ⟨rfl, rfl, rfl⟩
  rw [if_neg hw10] at hf
  by_cases hw11 : l2 = (11 : Int32)
  · rw [if_pos hw11] at hf
    refine V.tableIn hC d_X_node_38 (tgt := 201) (by rw [hw11]; decide) (by rw [hw11]; decide) (by rw [hw11]; rfl) (by decide) ?_
    refine V.blk hC [(.aload_n 3, 1)] 201 [some (.ref 1), some (.int l1), some (.int l2), some (.ref l3), some (.ref l4), some (.int s0)] [] ⟨d_X_node_201, trivial⟩ (show tv_run _ _ _ _ = some (202, [some (.ref 1), some (.int l1), some (.int l2), some (.ref l3), some (.ref l4), some (.int s0)], [.ref l3]) from rfl) ?_
    obtain ⟨q3, hq3, hf⟩ := tm_bd hf
    refine V.callS hC tm_nest rfl (c_X_condition σ l3 kl3 hq3) (tm_gd tc_X_condition) tg_X_139 th_X_condition ⟨tm_le rfl, tm_le rfl, tm_le rfl, tm_le rfl⟩ (As := [.ref l3]) (st := []) rfl (tm_le rfl) d_X_node_202 ?_
    rintro v n2 h2 ⟨rfl, rfl, rfl⟩
    show V X 0 0 tm_n (hp q3.2) 205 [some (.ref 1), some (.int l1), some (.int l2), some (.ref l3), some (.ref l4), some (.int s0)] [.int q3.1]
    obtain rfl := Option.some.inj hf
    exact V.iret hC hr hE d_X_node_205 ⟨rfl, rfl, rfl⟩
  rw [if_neg hw11] at hf
  by_cases hw12 : l2 = (12 : Int32)
  · rw [if_pos hw12] at hf
    refine V.tableIn hC d_X_node_38 (tgt := 206) (by rw [hw12]; decide) (by rw [hw12]; decide) (by rw [hw12]; rfl) (by decide) ?_
    refine V.blk hC [(.aload_n 3, 1)] 206 [some (.ref 1), some (.int l1), some (.int l2), some (.ref l3), some (.ref l4), some (.int s0)] [] ⟨d_X_node_206, trivial⟩ (show tv_run _ _ _ _ = some (207, [some (.ref 1), some (.int l1), some (.int l2), some (.ref l3), some (.ref l4), some (.int s0)], [.ref l3]) from rfl) ?_
    refine V.getf hC tf_X_143 (kd_in kl3 (by decide)) (hp_at kl3) rfl d_X_node_207 ?_
    show V X 0 0 tm_n (hp σ) 210 [some (.ref 1), some (.int l1), some (.int l2), some (.ref l3), some (.ref l4), some (.int s0)] [.ref (l3 + 14)]
    refine V.blk hC [(.iload_n 1, 1)] 210 [some (.ref 1), some (.int l1), some (.int l2), some (.ref l3), some (.ref l4), some (.int s0)] [.ref (l3 + 14)] ⟨d_X_node_210, trivial⟩ (show tv_run _ _ _ _ = some (211, [some (.ref 1), some (.int l1), some (.int l2), some (.ref l3), some (.ref l4), some (.int s0)], [.int l1, .ref (l3 + 14)]) from rfl) ?_
    obtain ⟨hb4, hf⟩ := tm_if hf
    refine V.iald hC (kd_in (kd_5_14 kl3) (by decide)) (hp_at (kd_5_14 kl3)) rfl hb4 d_X_node_211 ?_
    show V X 0 0 tm_n (hp σ) 212 [some (.ref 1), some (.int l1), some (.int l2), some (.ref l3), some (.ref l4), some (.int s0)] [.int (σ.1 (l3 + 14) l1.toNatClampNeg)]
    obtain rfl := Option.some.inj hf
    exact V.iret hC hr hE d_X_node_212 ⟨rfl, rfl, rfl⟩
  rw [if_neg hw12] at hf
  refine V.tableOut hC d_X_node_38 (tgt := 213) (tm_out13 hw0 hw1 hw2 hw3 hw4 hw5 hw6 hw7 hw8 hw9 hw10 hw11 hw12) (by decide) ?_
  refine V.blk hC [(.iconst (-1), 1)] 213 [some (.ref 1), some (.int l1), some (.int l2), some (.ref l3), some (.ref l4), some (.int s0)] [] ⟨d_X_node_213, trivial⟩ (show tv_run _ _ _ _ = some (214, [some (.ref 1), some (.int l1), some (.int l2), some (.ref l3), some (.ref l4), some (.int s0)], [.int (-1 : Int32)]) from rfl) ?_
  obtain rfl := Option.some.inj hf
  exact V.iret hC hr hE d_X_node_214 ⟨rfl, rfl, rfl⟩
set_option maxHeartbeats 4000000 in
set_option maxRecDepth 100000 in
theorem c_X_node (σ : tm_S) (a1 : Int32) (a2 : Int32)  {r : Int32 × tm_S} (hf : f_X_node σ a1 a2 = some r) : tv_Met ty_X_node (Cond.code ty_X_node tb_X_node 6 (some .int) :: tm_wg) tm_ns tm_cl tm_ty 1 20 0 0 [.ref 1, .int a1, .int a2] tm_n (hp σ) (tm_P (some (.int r.1)) r.2) := by
  refine tv_Met.of (by decide) rfl (tm_le rfl) ?_
  intro X hC hnm hr hE
  have hC : tv_K X tb_X_node 6 "TrickleMesh" tm_wg tm_ns tm_cl tm_ty { frames := 1, cells := 0, slots := 0, locals := 20 } := hC
  show V X 0 0 tm_n (hp σ) 0 [some (.ref 1), some (.int a1), some (.int a2), none, none, none] []
  unfold f_X_node at hf
  refine V.blk hC [(.iload_n 1, 1)] 0 [some (.ref 1), some (.int a1), some (.int a2), none, none, none] [] ⟨d_X_node_0, trivial⟩ (show tv_run _ _ _ _ = some (1, [some (.ref 1), some (.int a1), some (.int a2), none, none, none], [.int a1]) from rfl) ?_
  obtain ⟨q1, hq1, hf⟩ := tm_bd hf
  refine V.callS hC tm_nest rfl (c_X_isNode σ a1  hq1) (tm_gd tc_X_isNode) tg_X_62 th_X_isNode ⟨tm_le rfl, tm_le rfl, tm_le rfl, tm_le rfl⟩ (As := [.int a1]) (st := []) rfl (tm_le rfl) d_X_node_1 ?_
  rintro v n2 h2 ⟨rfl, rfl, rfl⟩
  show V X 0 0 tm_n (hp q1.2) 4 [some (.ref 1), some (.int a1), some (.int a2), none, none, none] [.int q1.1]
  refine V.if_ne hC d_X_node_4 (tgt := 9) (by decide) (fun hc => ?_) (fun hc => ?_)
  · rw [if_neg hc] at hf
    refine V.blk hC [(.aload_n 0, 1)] 9 [some (.ref 1), some (.int a1), some (.int a2), none, none, none] [] ⟨d_X_node_9, trivial⟩ (show tv_run _ _ _ _ = some (10, [some (.ref 1), some (.int a1), some (.int a2), none, none, none], [.ref 1]) from rfl) ?_
    refine V.getf hC tf_X_11 (kd_in kd_1 (by decide)) (hp_at kd_1) rfl d_X_node_10 ?_
    show V X 0 0 tm_n (hp q1.2) 13 [some (.ref 1), some (.int a1), some (.int a2), none, none, none] [.ref 2]
    refine V.blk hC [(.iload_n 1, 1)] 13 [some (.ref 1), some (.int a1), some (.int a2), none, none, none] [.ref 2] ⟨d_X_node_13, trivial⟩ (show tv_run _ _ _ _ = some (14, [some (.ref 1), some (.int a1), some (.int a2), none, none, none], [.int a1, .ref 2]) from rfl) ?_
    obtain ⟨hb2, hf⟩ := tm_if hf
    refine V.aald hC (kd_in kd_2 (by decide)) (hp_at kd_2) rfl rfl hb2 d_X_node_14 ?_
    show V X 0 0 tm_n (hp q1.2) 15 [some (.ref 1), some (.int a1), some (.int a2), none, none, none] [.ref (11 + 17 * a1.toNatClampNeg)]
    refine V.blk hC [(.astore_n 3, 1), (.aload_n 3, 1)] 15 [some (.ref 1), some (.int a1), some (.int a2), none, none, none] [.ref (11 + 17 * a1.toNatClampNeg)] ⟨d_X_node_15, d_X_node_16, trivial⟩ (show tv_run _ _ _ _ = some (17, [some (.ref 1), some (.int a1), some (.int a2), some (.ref (11 + 17 * a1.toNatClampNeg)), none, none], [.ref (11 + 17 * a1.toNatClampNeg)]) from rfl) ?_
    refine V.getf hC tf_X_69 (kd_in (kd_nodes hb2) (by decide)) (hp_at (kd_nodes hb2)) rfl d_X_node_17 ?_
    show V X 0 0 tm_n (hp q1.2) 20 [some (.ref 1), some (.int a1), some (.int a2), some (.ref (11 + 17 * a1.toNatClampNeg)), none, none] [.ref ((11 + 17 * a1.toNatClampNeg) + 1)]
    refine V.blk hC [(.astore 4, 2), (.aload 4, 2)] 20 [some (.ref 1), some (.int a1), some (.int a2), some (.ref (11 + 17 * a1.toNatClampNeg)), none, none] [.ref ((11 + 17 * a1.toNatClampNeg) + 1)] ⟨d_X_node_20, d_X_node_22, trivial⟩ (show tv_run _ _ _ _ = some (24, [some (.ref 1), some (.int a1), some (.int a2), some (.ref (11 + 17 * a1.toNatClampNeg)), some (.ref ((11 + 17 * a1.toNatClampNeg) + 1)), none], [.ref ((11 + 17 * a1.toNatClampNeg) + 1)]) from rfl) ?_
    refine V.getf hC tf_X_73 (kd_in (kd_5_6 (kd_nodes hb2)) (by decide)) (hp_at (kd_5_6 (kd_nodes hb2))) rfl d_X_node_24 ?_
    show V X 0 0 tm_n (hp q1.2) 27 [some (.ref 1), some (.int a1), some (.int a2), some (.ref (11 + 17 * a1.toNatClampNeg)), some (.ref ((11 + 17 * a1.toNatClampNeg) + 1)), none] [.int (q1.2.1 ((11 + 17 * a1.toNatClampNeg) + 1) 1)]
    refine V.if_le hC d_X_node_27 (tgt := 34) (by decide) (fun hc => ?_) (fun hc => ?_)
    · rw [if_pos hc] at hf
      refine V.blk hC [(.iconst 0, 1)] 34 [some (.ref 1), some (.int a1), some (.int a2), some (.ref (11 + 17 * a1.toNatClampNeg)), some (.ref ((11 + 17 * a1.toNatClampNeg) + 1)), none] [] ⟨d_X_node_34, trivial⟩ (show tv_run _ _ _ _ = some (35, [some (.ref 1), some (.int a1), some (.int a2), some (.ref (11 + 17 * a1.toNatClampNeg)), some (.ref ((11 + 17 * a1.toNatClampNeg) + 1)), none], [.int (0 : Int32)]) from rfl) ?_
      exact V.less (tv_le_some (tv_le_some (tv_le_some (tv_le_some (tv_le_some (tv_le_none tv_le_nil)))))) (c_X_node_L35 hC hr hE q1.2 a1 a2 (11 + 17 * a1.toNatClampNeg) ((11 + 17 * a1.toNatClampNeg) + 1) (0 : Int32) (kd_nodes hb2) (kd_5_6 (kd_nodes hb2)) hf)
    · rw [if_neg hc] at hf
      refine V.blk hC [(.iconst 1, 1)] 30 [some (.ref 1), some (.int a1), some (.int a2), some (.ref (11 + 17 * a1.toNatClampNeg)), some (.ref ((11 + 17 * a1.toNatClampNeg) + 1)), none] [] ⟨d_X_node_30, trivial⟩ (show tv_run _ _ _ _ = some (31, [some (.ref 1), some (.int a1), some (.int a2), some (.ref (11 + 17 * a1.toNatClampNeg)), some (.ref ((11 + 17 * a1.toNatClampNeg) + 1)), none], [.int (1 : Int32)]) from rfl) ?_
      refine V.goto hC d_X_node_31 (tgt := 35) (by decide) ?_
      exact V.less (tv_le_some (tv_le_some (tv_le_some (tv_le_some (tv_le_some (tv_le_none tv_le_nil)))))) (c_X_node_L35 hC hr hE q1.2 a1 a2 (11 + 17 * a1.toNatClampNeg) ((11 + 17 * a1.toNatClampNeg) + 1) (1 : Int32) (kd_nodes hb2) (kd_5_6 (kd_nodes hb2)) hf)
  · rw [if_pos hc] at hf
    refine V.blk hC [(.iconst (-1), 1)] 7 [some (.ref 1), some (.int a1), some (.int a2), none, none, none] [] ⟨d_X_node_7, trivial⟩ (show tv_run _ _ _ _ = some (8, [some (.ref 1), some (.int a1), some (.int a2), none, none, none], [.int (-1 : Int32)]) from rfl) ?_
    obtain rfl := Option.some.inj hf
    exact V.iret hC hr hE d_X_node_8 ⟨rfl, rfl, rfl⟩
set_option maxHeartbeats 4000000 in
set_option maxRecDepth 100000 in
theorem c_X_next_L30 {X : tv_X} {r : Int32 × tm_S} (hC : tv_K X tb_X_next 3 "TrickleMesh" tm_wg tm_ns tm_cl tm_ty { frames := 1, cells := 0, slots := 0, locals := 20 }) (hr : tv_ret X (some .int)) (hE : tv_end X (tm_P (some (.int r.1)) r.2) 0 0) (σ : tm_S)   (hf : f_X_next_L30 σ  = some r) : V X 0 0 tm_n (hp σ) 30 [some (.ref 1), none, none] [] := by
  unfold f_X_next_L30 at hf
  refine V.blk hC [(.iconst 0, 1)] 30 [some (.ref 1), none, none] [] ⟨d_X_next_30, trivial⟩ (show tv_run _ _ _ _ = some (31, [some (.ref 1), none, none], [.int (0 : Int32)]) from rfl) ?_
  obtain rfl := Option.some.inj hf
  exact V.iret hC hr hE d_X_next_31 ⟨rfl, rfl, rfl⟩
set_option maxHeartbeats 4000000 in
set_option maxRecDepth 100000 in
theorem c_X_next (σ : tm_S) (a1 : Int32) (a2 : Int32)  {r : Int32 × tm_S} (hf : f_X_next σ a1 a2 = some r) : tv_Met ty_X_next (Cond.code ty_X_next tb_X_next 3 (some .int) :: tm_wg) tm_ns tm_cl tm_ty 1 20 0 0 [.ref 1, .int a1, .int a2] tm_n (hp σ) (tm_P (some (.int r.1)) r.2) := by
  refine tv_Met.of (by decide) rfl (tm_le rfl) ?_
  intro X hC hnm hr hE
  have hC : tv_K X tb_X_next 3 "TrickleMesh" tm_wg tm_ns tm_cl tm_ty { frames := 1, cells := 0, slots := 0, locals := 20 } := hC
  show V X 0 0 tm_n (hp σ) 0 [some (.ref 1), some (.int a1), some (.int a2)] []
  unfold f_X_next at hf
  refine V.blk hC [(.iload_n 1, 1)] 0 [some (.ref 1), some (.int a1), some (.int a2)] [] ⟨d_X_next_0, trivial⟩ (show tv_run _ _ _ _ = some (1, [some (.ref 1), some (.int a1), some (.int a2)], [.int a1]) from rfl) ?_
  obtain ⟨q1, hq1, hf⟩ := tm_bd hf
  refine V.callS hC tm_nest rfl (c_X_isNode σ a1  hq1) (tm_gd tc_X_isNode) tg_X_62 th_X_isNode ⟨tm_le rfl, tm_le rfl, tm_le rfl, tm_le rfl⟩ (As := [.int a1]) (st := []) rfl (tm_le rfl) d_X_next_1 ?_
  rintro v n2 h2 ⟨rfl, rfl, rfl⟩
  show V X 0 0 tm_n (hp q1.2) 4 [some (.ref 1), some (.int a1), some (.int a2)] [.int q1.1]
  refine V.if_eq hC d_X_next_4 (tgt := 30) (by decide) (fun hc => ?_) (fun hc => ?_)
  · rw [if_pos hc] at hf
    exact V.less (tv_le_some (tv_le_none (tv_le_none tv_le_nil))) (c_X_next_L30 hC hr hE q1.2   hf)
  · rw [if_neg hc] at hf
    refine V.blk hC [(.iload_n 2, 1)] 7 [some (.ref 1), some (.int a1), some (.int a2)] [] ⟨d_X_next_7, trivial⟩ (show tv_run _ _ _ _ = some (8, [some (.ref 1), some (.int a1), some (.int a2)], [.int a2]) from rfl) ?_
    obtain ⟨q2, hq2, hf⟩ := tm_bd hf
    refine V.callS hC tm_nest rfl (c_X_isNode q1.2 a2  hq2) (tm_gd tc_X_isNode) tg_X_62 th_X_isNode ⟨tm_le rfl, tm_le rfl, tm_le rfl, tm_le rfl⟩ (As := [.int a2]) (st := []) rfl (tm_le rfl) d_X_next_8 ?_
    rintro v n2 h2 ⟨rfl, rfl, rfl⟩
    show V X 0 0 tm_n (hp q2.2) 11 [some (.ref 1), some (.int a1), some (.int a2)] [.int q2.1]
    refine V.if_eq hC d_X_next_11 (tgt := 30) (by decide) (fun hc => ?_) (fun hc => ?_)
    · rw [if_pos hc] at hf
      exact V.less (tv_le_some (tv_le_none (tv_le_none tv_le_nil))) (c_X_next_L30 hC hr hE q2.2   hf)
    · rw [if_neg hc] at hf
      refine V.blk hC [(.aload_n 0, 1)] 14 [some (.ref 1), some (.int a1), some (.int a2)] [] ⟨d_X_next_14, trivial⟩ (show tv_run _ _ _ _ = some (15, [some (.ref 1), some (.int a1), some (.int a2)], [.ref 1]) from rfl) ?_
      refine V.getf hC tf_X_11 (kd_in kd_1 (by decide)) (hp_at kd_1) rfl d_X_next_15 ?_
      show V X 0 0 tm_n (hp q2.2) 18 [some (.ref 1), some (.int a1), some (.int a2)] [.ref 2]
      refine V.blk hC [(.iload_n 1, 1)] 18 [some (.ref 1), some (.int a1), some (.int a2)] [.ref 2] ⟨d_X_next_18, trivial⟩ (show tv_run _ _ _ _ = some (19, [some (.ref 1), some (.int a1), some (.int a2)], [.int a1, .ref 2]) from rfl) ?_
      obtain ⟨hb3, hf⟩ := tm_if hf
      refine V.aald hC (kd_in kd_2 (by decide)) (hp_at kd_2) rfl rfl hb3 d_X_next_19 ?_
      show V X 0 0 tm_n (hp q2.2) 20 [some (.ref 1), some (.int a1), some (.int a2)] [.ref (11 + 17 * a1.toNatClampNeg)]
      refine V.getf hC tf_X_147 (kd_in (kd_nodes hb3) (by decide)) (hp_at (kd_nodes hb3)) rfl d_X_next_20 ?_
      show V X 0 0 tm_n (hp q2.2) 23 [some (.ref 1), some (.int a1), some (.int a2)] [.ref ((11 + 17 * a1.toNatClampNeg) + 13)]
      refine V.blk hC [(.iload_n 2, 1)] 23 [some (.ref 1), some (.int a1), some (.int a2)] [.ref ((11 + 17 * a1.toNatClampNeg) + 13)] ⟨d_X_next_23, trivial⟩ (show tv_run _ _ _ _ = some (24, [some (.ref 1), some (.int a1), some (.int a2)], [.int a2, .ref ((11 + 17 * a1.toNatClampNeg) + 13)]) from rfl) ?_
      obtain ⟨hb4, hf⟩ := tm_if hf
      refine V.iald hC (kd_in (kd_5_13 (kd_nodes hb3)) (by decide)) (hp_at (kd_5_13 (kd_nodes hb3))) rfl hb4 d_X_next_24 ?_
      show V X 0 0 tm_n (hp q2.2) 25 [some (.ref 1), some (.int a1), some (.int a2)] [.int (q2.2.1 ((11 + 17 * a1.toNatClampNeg) + 13) a2.toNatClampNeg)]
      refine V.blk hC [(.iconst 1, 1), (.iadd, 1)] 25 [some (.ref 1), some (.int a1), some (.int a2)] [.int (q2.2.1 ((11 + 17 * a1.toNatClampNeg) + 13) a2.toNatClampNeg)] ⟨d_X_next_25, d_X_next_26, trivial⟩ (show tv_run _ _ _ _ = some (27, [some (.ref 1), some (.int a1), some (.int a2)], [.int ((q2.2.1 ((11 + 17 * a1.toNatClampNeg) + 13) a2.toNatClampNeg) + (1 : Int32))]) from rfl) ?_
      refine V.goto hC d_X_next_27 (tgt := 31) (by decide) ?_
      obtain rfl := Option.some.inj hf
      exact V.iret hC hr hE d_X_next_31 ⟨rfl, rfl, rfl⟩
set_option maxHeartbeats 4000000 in
set_option maxRecDepth 100000 in
theorem c_X_known_L28 {X : tv_X} {r : Int32 × tm_S} (hC : tv_K X tb_X_known 3 "TrickleMesh" tm_wg tm_ns tm_cl tm_ty { frames := 1, cells := 0, slots := 0, locals := 20 }) (hr : tv_ret X (some .int)) (hE : tv_end X (tm_P (some (.int r.1)) r.2) 0 0) (σ : tm_S)   (hf : f_X_known_L28 σ  = some r) : V X 0 0 tm_n (hp σ) 28 [some (.ref 1), none, none] [] := by
  unfold f_X_known_L28 at hf
  refine V.blk hC [(.iconst 0, 1)] 28 [some (.ref 1), none, none] [] ⟨d_X_known_28, trivial⟩ (show tv_run _ _ _ _ = some (29, [some (.ref 1), none, none], [.int (0 : Int32)]) from rfl) ?_
  obtain rfl := Option.some.inj hf
  exact V.iret hC hr hE d_X_known_29 ⟨rfl, rfl, rfl⟩
set_option maxHeartbeats 4000000 in
set_option maxRecDepth 100000 in
theorem c_X_known (σ : tm_S) (a1 : Int32) (a2 : Int32)  {r : Int32 × tm_S} (hf : f_X_known σ a1 a2 = some r) : tv_Met ty_X_known (Cond.code ty_X_known tb_X_known 3 (some .int) :: tm_wg) tm_ns tm_cl tm_ty 1 20 0 0 [.ref 1, .int a1, .int a2] tm_n (hp σ) (tm_P (some (.int r.1)) r.2) := by
  refine tv_Met.of (by decide) rfl (tm_le rfl) ?_
  intro X hC hnm hr hE
  have hC : tv_K X tb_X_known 3 "TrickleMesh" tm_wg tm_ns tm_cl tm_ty { frames := 1, cells := 0, slots := 0, locals := 20 } := hC
  show V X 0 0 tm_n (hp σ) 0 [some (.ref 1), some (.int a1), some (.int a2)] []
  unfold f_X_known at hf
  refine V.blk hC [(.iload_n 1, 1)] 0 [some (.ref 1), some (.int a1), some (.int a2)] [] ⟨d_X_known_0, trivial⟩ (show tv_run _ _ _ _ = some (1, [some (.ref 1), some (.int a1), some (.int a2)], [.int a1]) from rfl) ?_
  obtain ⟨q1, hq1, hf⟩ := tm_bd hf
  refine V.callS hC tm_nest rfl (c_X_isNode σ a1  hq1) (tm_gd tc_X_isNode) tg_X_62 th_X_isNode ⟨tm_le rfl, tm_le rfl, tm_le rfl, tm_le rfl⟩ (As := [.int a1]) (st := []) rfl (tm_le rfl) d_X_known_1 ?_
  rintro v n2 h2 ⟨rfl, rfl, rfl⟩
  show V X 0 0 tm_n (hp q1.2) 4 [some (.ref 1), some (.int a1), some (.int a2)] [.int q1.1]
  refine V.if_eq hC d_X_known_4 (tgt := 28) (by decide) (fun hc => ?_) (fun hc => ?_)
  · rw [if_pos hc] at hf
    exact V.less (tv_le_some (tv_le_none (tv_le_none tv_le_nil))) (c_X_known_L28 hC hr hE q1.2   hf)
  · rw [if_neg hc] at hf
    refine V.blk hC [(.iload_n 2, 1)] 7 [some (.ref 1), some (.int a1), some (.int a2)] [] ⟨d_X_known_7, trivial⟩ (show tv_run _ _ _ _ = some (8, [some (.ref 1), some (.int a1), some (.int a2)], [.int a2]) from rfl) ?_
    obtain ⟨q2, hq2, hf⟩ := tm_bd hf
    refine V.callS hC tm_nest rfl (c_X_isNode q1.2 a2  hq2) (tm_gd tc_X_isNode) tg_X_62 th_X_isNode ⟨tm_le rfl, tm_le rfl, tm_le rfl, tm_le rfl⟩ (As := [.int a2]) (st := []) rfl (tm_le rfl) d_X_known_8 ?_
    rintro v n2 h2 ⟨rfl, rfl, rfl⟩
    show V X 0 0 tm_n (hp q2.2) 11 [some (.ref 1), some (.int a1), some (.int a2)] [.int q2.1]
    refine V.if_eq hC d_X_known_11 (tgt := 28) (by decide) (fun hc => ?_) (fun hc => ?_)
    · rw [if_pos hc] at hf
      exact V.less (tv_le_some (tv_le_none (tv_le_none tv_le_nil))) (c_X_known_L28 hC hr hE q2.2   hf)
    · rw [if_neg hc] at hf
      refine V.blk hC [(.aload_n 0, 1)] 14 [some (.ref 1), some (.int a1), some (.int a2)] [] ⟨d_X_known_14, trivial⟩ (show tv_run _ _ _ _ = some (15, [some (.ref 1), some (.int a1), some (.int a2)], [.ref 1]) from rfl) ?_
      refine V.getf hC tf_X_11 (kd_in kd_1 (by decide)) (hp_at kd_1) rfl d_X_known_15 ?_
      show V X 0 0 tm_n (hp q2.2) 18 [some (.ref 1), some (.int a1), some (.int a2)] [.ref 2]
      refine V.blk hC [(.iload_n 1, 1)] 18 [some (.ref 1), some (.int a1), some (.int a2)] [.ref 2] ⟨d_X_known_18, trivial⟩ (show tv_run _ _ _ _ = some (19, [some (.ref 1), some (.int a1), some (.int a2)], [.int a1, .ref 2]) from rfl) ?_
      obtain ⟨hb3, hf⟩ := tm_if hf
      refine V.aald hC (kd_in kd_2 (by decide)) (hp_at kd_2) rfl rfl hb3 d_X_known_19 ?_
      show V X 0 0 tm_n (hp q2.2) 20 [some (.ref 1), some (.int a1), some (.int a2)] [.ref (11 + 17 * a1.toNatClampNeg)]
      refine V.getf hC tf_X_150 (kd_in (kd_nodes hb3) (by decide)) (hp_at (kd_nodes hb3)) rfl d_X_known_20 ?_
      show V X 0 0 tm_n (hp q2.2) 23 [some (.ref 1), some (.int a1), some (.int a2)] [.ref ((11 + 17 * a1.toNatClampNeg) + 12)]
      refine V.blk hC [(.iload_n 2, 1)] 23 [some (.ref 1), some (.int a1), some (.int a2)] [.ref ((11 + 17 * a1.toNatClampNeg) + 12)] ⟨d_X_known_23, trivial⟩ (show tv_run _ _ _ _ = some (24, [some (.ref 1), some (.int a1), some (.int a2)], [.int a2, .ref ((11 + 17 * a1.toNatClampNeg) + 12)]) from rfl) ?_
      obtain ⟨hb4, hf⟩ := tm_if hf
      refine V.iald hC (kd_in (kd_5_12 (kd_nodes hb3)) (by decide)) (hp_at (kd_5_12 (kd_nodes hb3))) rfl hb4 d_X_known_24 ?_
      show V X 0 0 tm_n (hp q2.2) 25 [some (.ref 1), some (.int a1), some (.int a2)] [.int (q2.2.1 ((11 + 17 * a1.toNatClampNeg) + 12) a2.toNatClampNeg)]
      refine V.goto hC d_X_known_25 (tgt := 29) (by decide) ?_
      obtain rfl := Option.some.inj hf
      exact V.iret hC hr hE d_X_known_29 ⟨rfl, rfl, rfl⟩
set_option maxHeartbeats 4000000 in
set_option maxRecDepth 100000 in
theorem c_X_delivered_L44 {X : tv_X} {r : Int32 × tm_S} (hC : tv_K X tb_X_delivered 4 "TrickleMesh" tm_wg tm_ns tm_cl tm_ty { frames := 1, cells := 0, slots := 0, locals := 20 }) (hr : tv_ret X (some .int)) (hE : tv_end X (tm_P (some (.int r.1)) r.2) 0 0) (σ : tm_S)   (hf : f_X_delivered_L44 σ  = some r) : V X 0 0 tm_n (hp σ) 44 [some (.ref 1), none, none, none] [] := by
  unfold f_X_delivered_L44 at hf
  refine V.blk hC [(.iconst 0, 1)] 44 [some (.ref 1), none, none, none] [] ⟨d_X_delivered_44, trivial⟩ (show tv_run _ _ _ _ = some (45, [some (.ref 1), none, none, none], [.int (0 : Int32)]) from rfl) ?_
  obtain rfl := Option.some.inj hf
  exact V.iret hC hr hE d_X_delivered_45 ⟨rfl, rfl, rfl⟩
set_option maxHeartbeats 4000000 in
set_option maxRecDepth 100000 in
theorem c_X_delivered (σ : tm_S) (a1 : Int32) (a2 : Int32)  {r : Int32 × tm_S} (hf : f_X_delivered σ a1 a2 = some r) : tv_Met ty_X_delivered (Cond.code ty_X_delivered tb_X_delivered 4 (some .int) :: tm_wg) tm_ns tm_cl tm_ty 1 20 0 0 [.ref 1, .int a1, .int a2] tm_n (hp σ) (tm_P (some (.int r.1)) r.2) := by
  refine tv_Met.of (by decide) rfl (tm_le rfl) ?_
  intro X hC hnm hr hE
  have hC : tv_K X tb_X_delivered 4 "TrickleMesh" tm_wg tm_ns tm_cl tm_ty { frames := 1, cells := 0, slots := 0, locals := 20 } := hC
  show V X 0 0 tm_n (hp σ) 0 [some (.ref 1), some (.int a1), some (.int a2), none] []
  unfold f_X_delivered at hf
  refine V.blk hC [(.iload_n 1, 1)] 0 [some (.ref 1), some (.int a1), some (.int a2), none] [] ⟨d_X_delivered_0, trivial⟩ (show tv_run _ _ _ _ = some (1, [some (.ref 1), some (.int a1), some (.int a2), none], [.int a1]) from rfl) ?_
  obtain ⟨q1, hq1, hf⟩ := tm_bd hf
  refine V.callS hC tm_nest rfl (c_X_isNode σ a1  hq1) (tm_gd tc_X_isNode) tg_X_62 th_X_isNode ⟨tm_le rfl, tm_le rfl, tm_le rfl, tm_le rfl⟩ (As := [.int a1]) (st := []) rfl (tm_le rfl) d_X_delivered_1 ?_
  rintro v n2 h2 ⟨rfl, rfl, rfl⟩
  show V X 0 0 tm_n (hp q1.2) 4 [some (.ref 1), some (.int a1), some (.int a2), none] [.int q1.1]
  refine V.if_ne hC d_X_delivered_4 (tgt := 9) (by decide) (fun hc => ?_) (fun hc => ?_)
  · rw [if_neg hc] at hf
    refine V.blk hC [(.aload_n 0, 1)] 9 [some (.ref 1), some (.int a1), some (.int a2), none] [] ⟨d_X_delivered_9, trivial⟩ (show tv_run _ _ _ _ = some (10, [some (.ref 1), some (.int a1), some (.int a2), none], [.ref 1]) from rfl) ?_
    refine V.getf hC tf_X_11 (kd_in kd_1 (by decide)) (hp_at kd_1) rfl d_X_delivered_10 ?_
    show V X 0 0 tm_n (hp q1.2) 13 [some (.ref 1), some (.int a1), some (.int a2), none] [.ref 2]
    refine V.blk hC [(.iload_n 1, 1)] 13 [some (.ref 1), some (.int a1), some (.int a2), none] [.ref 2] ⟨d_X_delivered_13, trivial⟩ (show tv_run _ _ _ _ = some (14, [some (.ref 1), some (.int a1), some (.int a2), none], [.int a1, .ref 2]) from rfl) ?_
    obtain ⟨hb2, hf⟩ := tm_if hf
    refine V.aald hC (kd_in kd_2 (by decide)) (hp_at kd_2) rfl rfl hb2 d_X_delivered_14 ?_
    show V X 0 0 tm_n (hp q1.2) 15 [some (.ref 1), some (.int a1), some (.int a2), none] [.ref (11 + 17 * a1.toNatClampNeg)]
    refine V.blk hC [(.astore_n 3, 1), (.iload_n 2, 1), (.iconst (-1), 1)] 15 [some (.ref 1), some (.int a1), some (.int a2), none] [.ref (11 + 17 * a1.toNatClampNeg)] ⟨d_X_delivered_15, d_X_delivered_16, d_X_delivered_17, trivial⟩ (show tv_run _ _ _ _ = some (18, [some (.ref 1), some (.int a1), some (.int a2), some (.ref (11 + 17 * a1.toNatClampNeg))], [.int (-1 : Int32), .int a2]) from rfl) ?_
    refine V.icmp_ne hC d_X_delivered_18 (tgt := 26) (by decide) (fun hc => ?_) (fun hc => ?_)
    · rw [if_neg hc] at hf
      refine V.blk hC [(.iload_n 2, 1)] 26 [some (.ref 1), some (.int a1), some (.int a2), some (.ref (11 + 17 * a1.toNatClampNeg))] [] ⟨d_X_delivered_26, trivial⟩ (show tv_run _ _ _ _ = some (27, [some (.ref 1), some (.int a1), some (.int a2), some (.ref (11 + 17 * a1.toNatClampNeg))], [.int a2]) from rfl) ?_
      refine V.if_lt hC d_X_delivered_27 (tgt := 44) (by decide) (fun hc => ?_) (fun hc => ?_)
      · rw [if_pos hc] at hf
        exact V.less (tv_le_some (tv_le_none (tv_le_none (tv_le_none tv_le_nil)))) (c_X_delivered_L44 hC hr hE q1.2   hf)
      · rw [if_neg hc] at hf
        refine V.blk hC [(.iload_n 2, 1), (.bipush 8, 2)] 30 [some (.ref 1), some (.int a1), some (.int a2), some (.ref (11 + 17 * a1.toNatClampNeg))] [] ⟨d_X_delivered_30, d_X_delivered_31, trivial⟩ (show tv_run _ _ _ _ = some (33, [some (.ref 1), some (.int a1), some (.int a2), some (.ref (11 + 17 * a1.toNatClampNeg))], [.int (8 : Int32), .int a2]) from rfl) ?_
        refine V.icmp_ge hC d_X_delivered_33 (tgt := 44) (by decide) (fun hc => ?_) (fun hc => ?_)
        · rw [if_pos hc] at hf
          exact V.less (tv_le_some (tv_le_none (tv_le_none (tv_le_none tv_le_nil)))) (c_X_delivered_L44 hC hr hE q1.2   hf)
        · rw [if_neg hc] at hf
          refine V.blk hC [(.iload_n 2, 1), (.aload_n 3, 1)] 36 [some (.ref 1), some (.int a1), some (.int a2), some (.ref (11 + 17 * a1.toNatClampNeg))] [] ⟨d_X_delivered_36, d_X_delivered_37, trivial⟩ (show tv_run _ _ _ _ = some (38, [some (.ref 1), some (.int a1), some (.int a2), some (.ref (11 + 17 * a1.toNatClampNeg))], [.ref (11 + 17 * a1.toNatClampNeg), .int a2]) from rfl) ?_
          refine V.getf hC tf_X_153 (kd_in (kd_nodes hb2) (by decide)) (hp_at (kd_nodes hb2)) rfl d_X_delivered_38 ?_
          show V X 0 0 tm_n (hp q1.2) 41 [some (.ref 1), some (.int a1), some (.int a2), some (.ref (11 + 17 * a1.toNatClampNeg))] [.int (q1.2.1 (11 + 17 * a1.toNatClampNeg) 8), .int a2]
          refine V.icmp_lt hC d_X_delivered_41 (tgt := 46) (by decide) (fun hc => ?_) (fun hc => ?_)
          · rw [if_pos hc] at hf
            refine V.blk hC [(.aload_n 3, 1)] 46 [some (.ref 1), some (.int a1), some (.int a2), some (.ref (11 + 17 * a1.toNatClampNeg))] [] ⟨d_X_delivered_46, trivial⟩ (show tv_run _ _ _ _ = some (47, [some (.ref 1), some (.int a1), some (.int a2), some (.ref (11 + 17 * a1.toNatClampNeg))], [.ref (11 + 17 * a1.toNatClampNeg)]) from rfl) ?_
            refine V.getf hC tf_X_156 (kd_in (kd_nodes hb2) (by decide)) (hp_at (kd_nodes hb2)) rfl d_X_delivered_47 ?_
            show V X 0 0 tm_n (hp q1.2) 50 [some (.ref 1), some (.int a1), some (.int a2), some (.ref (11 + 17 * a1.toNatClampNeg))] [.ref ((11 + 17 * a1.toNatClampNeg) + 16)]
            refine V.blk hC [(.aload_n 3, 1)] 50 [some (.ref 1), some (.int a1), some (.int a2), some (.ref (11 + 17 * a1.toNatClampNeg))] [.ref ((11 + 17 * a1.toNatClampNeg) + 16)] ⟨d_X_delivered_50, trivial⟩ (show tv_run _ _ _ _ = some (51, [some (.ref 1), some (.int a1), some (.int a2), some (.ref (11 + 17 * a1.toNatClampNeg))], [.ref (11 + 17 * a1.toNatClampNeg), .ref ((11 + 17 * a1.toNatClampNeg) + 16)]) from rfl) ?_
            refine V.getf hC tf_X_153 (kd_in (kd_nodes hb2) (by decide)) (hp_at (kd_nodes hb2)) rfl d_X_delivered_51 ?_
            show V X 0 0 tm_n (hp q1.2) 54 [some (.ref 1), some (.int a1), some (.int a2), some (.ref (11 + 17 * a1.toNatClampNeg))] [.int (q1.2.1 (11 + 17 * a1.toNatClampNeg) 8), .ref ((11 + 17 * a1.toNatClampNeg) + 16)]
            refine V.blk hC [(.iconst 1, 1), (.isub, 1), (.iload_n 2, 1), (.isub, 1), (.bipush 8, 2)] 54 [some (.ref 1), some (.int a1), some (.int a2), some (.ref (11 + 17 * a1.toNatClampNeg))] [.int (q1.2.1 (11 + 17 * a1.toNatClampNeg) 8), .ref ((11 + 17 * a1.toNatClampNeg) + 16)] ⟨d_X_delivered_54, d_X_delivered_55, d_X_delivered_56, d_X_delivered_57, d_X_delivered_58, trivial⟩ (show tv_run _ _ _ _ = some (60, [some (.ref 1), some (.int a1), some (.int a2), some (.ref (11 + 17 * a1.toNatClampNeg))], [.int (8 : Int32), .int (((q1.2.1 (11 + 17 * a1.toNatClampNeg) 8) - (1 : Int32)) - a2), .ref ((11 + 17 * a1.toNatClampNeg) + 16)]) from rfl) ?_
            refine V.irem hC d_X_delivered_60 (by decide) ?_
            obtain ⟨hb3, hf⟩ := tm_if hf
            refine V.iald hC (kd_in (kd_5_16 (kd_nodes hb2)) (by decide)) (hp_at (kd_5_16 (kd_nodes hb2))) rfl hb3 d_X_delivered_61 ?_
            show V X 0 0 tm_n (hp q1.2) 62 [some (.ref 1), some (.int a1), some (.int a2), some (.ref (11 + 17 * a1.toNatClampNeg))] [.int (q1.2.1 ((11 + 17 * a1.toNatClampNeg) + 16) ((((q1.2.1 (11 + 17 * a1.toNatClampNeg) 8) - (1 : Int32)) - a2) - (((q1.2.1 (11 + 17 * a1.toNatClampNeg) 8) - (1 : Int32)) - a2) / (8 : Int32) * (8 : Int32)).toNatClampNeg)]
            obtain rfl := Option.some.inj hf
            exact V.iret hC hr hE d_X_delivered_62 ⟨rfl, rfl, rfl⟩
          · rw [if_neg hc] at hf
            exact V.less (tv_le_some (tv_le_none (tv_le_none (tv_le_none tv_le_nil)))) (c_X_delivered_L44 hC hr hE q1.2   hf)
    · rw [if_pos hc] at hf
      refine V.blk hC [(.aload_n 3, 1)] 21 [some (.ref 1), some (.int a1), some (.int a2), some (.ref (11 + 17 * a1.toNatClampNeg))] [] ⟨d_X_delivered_21, trivial⟩ (show tv_run _ _ _ _ = some (22, [some (.ref 1), some (.int a1), some (.int a2), some (.ref (11 + 17 * a1.toNatClampNeg))], [.ref (11 + 17 * a1.toNatClampNeg)]) from rfl) ?_
      refine V.getf hC tf_X_153 (kd_in (kd_nodes hb2) (by decide)) (hp_at (kd_nodes hb2)) rfl d_X_delivered_22 ?_
      show V X 0 0 tm_n (hp q1.2) 25 [some (.ref 1), some (.int a1), some (.int a2), some (.ref (11 + 17 * a1.toNatClampNeg))] [.int (q1.2.1 (11 + 17 * a1.toNatClampNeg) 8)]
      obtain rfl := Option.some.inj hf
      exact V.iret hC hr hE d_X_delivered_25 ⟨rfl, rfl, rfl⟩
  · rw [if_pos hc] at hf
    refine V.blk hC [(.iconst 0, 1)] 7 [some (.ref 1), some (.int a1), some (.int a2), none] [] ⟨d_X_delivered_7, trivial⟩ (show tv_run _ _ _ _ = some (8, [some (.ref 1), some (.int a1), some (.int a2), none], [.int (0 : Int32)]) from rfl) ?_
    obtain rfl := Option.some.inj hf
    exact V.iret hC hr hE d_X_delivered_8 ⟨rfl, rfl, rfl⟩
set_option maxHeartbeats 4000000 in
set_option maxRecDepth 100000 in
theorem c_X_count (σ : tm_S) (a1 : Int32)  {r : Int32 × tm_S} (hf : f_X_count σ a1 = some r) : tv_Met ty_X_count (Cond.code ty_X_count tb_X_count 2 (some .int) :: tm_wg) tm_ns tm_cl tm_ty 0 0 0 0 [.ref 1, .int a1] tm_n (hp σ) (tm_P (some (.int r.1)) r.2) := by
  refine tv_Met.of (by decide) rfl (tm_le rfl) ?_
  intro X hC hnm hr hE
  have hC : tv_K X tb_X_count 2 "TrickleMesh" tm_wg tm_ns tm_cl tm_ty { frames := 0, cells := 0, slots := 0, locals := 0 } := hC
  show V X 0 0 tm_n (hp σ) 0 [some (.ref 1), some (.int a1)] []
  unfold f_X_count at hf
  refine V.blk hC [(.iload_n 1, 1)] 0 [some (.ref 1), some (.int a1)] [] ⟨d_X_count_0, trivial⟩ (show tv_run _ _ _ _ = some (1, [some (.ref 1), some (.int a1)], [.int a1]) from rfl) ?_
  by_cases hw0 : a1 = (0 : Int32)
  · rw [if_pos hw0] at hf
    refine V.tableIn hC d_X_count_1 (tgt := 28) (by rw [hw0]; decide) (by rw [hw0]; decide) (by rw [hw0]; rfl) (by decide) ?_
    refine V.blk hC [(.aload_n 0, 1)] 28 [some (.ref 1), some (.int a1)] [] ⟨d_X_count_28, trivial⟩ (show tv_run _ _ _ _ = some (29, [some (.ref 1), some (.int a1)], [.ref 1]) from rfl) ?_
    refine V.getf hC tf_X_159 (kd_in kd_1 (by decide)) (hp_at kd_1) rfl d_X_count_29 ?_
    show V X 0 0 tm_n (hp σ) 32 [some (.ref 1), some (.int a1)] [.int (σ.1 1 8)]
    obtain rfl := Option.some.inj hf
    exact V.iret hC hr hE d_X_count_32 ⟨rfl, rfl, rfl⟩
  rw [if_neg hw0] at hf
  by_cases hw1 : a1 = (1 : Int32)
  · rw [if_pos hw1] at hf
    refine V.tableIn hC d_X_count_1 (tgt := 33) (by rw [hw1]; decide) (by rw [hw1]; decide) (by rw [hw1]; rfl) (by decide) ?_
    refine V.blk hC [(.aload_n 0, 1)] 33 [some (.ref 1), some (.int a1)] [] ⟨d_X_count_33, trivial⟩ (show tv_run _ _ _ _ = some (34, [some (.ref 1), some (.int a1)], [.ref 1]) from rfl) ?_
    refine V.getf hC tf_X_162 (kd_in kd_1 (by decide)) (hp_at kd_1) rfl d_X_count_34 ?_
    show V X 0 0 tm_n (hp σ) 37 [some (.ref 1), some (.int a1)] [.int (σ.1 1 9)]
    obtain rfl := Option.some.inj hf
    exact V.iret hC hr hE d_X_count_37 ⟨rfl, rfl, rfl⟩
  rw [if_neg hw1] at hf
  by_cases hw2 : a1 = (2 : Int32)
  · rw [if_pos hw2] at hf
    refine V.tableIn hC d_X_count_1 (tgt := 38) (by rw [hw2]; decide) (by rw [hw2]; decide) (by rw [hw2]; rfl) (by decide) ?_
    refine V.blk hC [(.aload_n 0, 1)] 38 [some (.ref 1), some (.int a1)] [] ⟨d_X_count_38, trivial⟩ (show tv_run _ _ _ _ = some (39, [some (.ref 1), some (.int a1)], [.ref 1]) from rfl) ?_
    refine V.getf hC tf_X_165 (kd_in kd_1 (by decide)) (hp_at kd_1) rfl d_X_count_39 ?_
    show V X 0 0 tm_n (hp σ) 42 [some (.ref 1), some (.int a1)] [.int (σ.1 1 10)]
    obtain rfl := Option.some.inj hf
    exact V.iret hC hr hE d_X_count_42 ⟨rfl, rfl, rfl⟩
  rw [if_neg hw2] at hf
  refine V.tableOut hC d_X_count_1 (tgt := 43) (tm_out3 hw0 hw1 hw2) (by decide) ?_
  refine V.blk hC [(.iconst 0, 1)] 43 [some (.ref 1), some (.int a1)] [] ⟨d_X_count_43, trivial⟩ (show tv_run _ _ _ _ = some (44, [some (.ref 1), some (.int a1)], [.int (0 : Int32)]) from rfl) ?_
  obtain rfl := Option.some.inj hf
  exact V.iret hC hr hE d_X_count_44 ⟨rfl, rfl, rfl⟩
set_option maxHeartbeats 4000000 in
set_option maxRecDepth 100000 in
theorem c_L_cell (σ : tm_S) (a1 : Int32)  {r : Int32 × tm_S} (hf : f_L_cell σ a1 = some r) : tv_Met ty_L_cell (Cond.code ty_L_cell tb_L_cell 2 (some .int) :: tm_wg) tm_ns tm_cl tm_ty 0 0 0 0 [.ref 0, .int a1] tm_n (hp σ) (tm_P (some (.int r.1)) r.2) := by
  refine tv_Met.of (by decide) rfl (tm_le rfl) ?_
  intro X hC hnm hr hE
  have hC : tv_K X tb_L_cell 2 "TrickleMeshLaw" tm_wg tm_ns tm_cl tm_ty { frames := 0, cells := 0, slots := 0, locals := 0 } := hC
  show V X 0 0 tm_n (hp σ) 0 [some (.ref 0), some (.int a1)] []
  unfold f_L_cell at hf
  refine V.blk hC [(.iload_n 1, 1), (.aload_n 0, 1)] 0 [some (.ref 0), some (.int a1)] [] ⟨d_L_cell_0, d_L_cell_1, trivial⟩ (show tv_run _ _ _ _ = some (2, [some (.ref 0), some (.int a1)], [.ref 0, .int a1]) from rfl) ?_
  refine V.slen hC (hp_at kd_0) d_L_cell_2 ?_
  show V X 0 0 tm_n (hp σ) 3 [some (.ref 0), some (.int a1)] [.int (Int32.ofNat (σ.2 0 0)), .int a1]
  refine V.icmp_ge hC d_L_cell_3 (tgt := 12) (by decide) (fun hc => ?_) (fun hc => ?_)
  · rw [if_pos hc] at hf
    refine V.blk hC [(.iconst 0, 1)] 12 [some (.ref 0), some (.int a1)] [] ⟨d_L_cell_12, trivial⟩ (show tv_run _ _ _ _ = some (13, [some (.ref 0), some (.int a1)], [.int (0 : Int32)]) from rfl) ?_
    obtain rfl := Option.some.inj hf
    exact V.iret hC hr hE d_L_cell_13 ⟨rfl, rfl, rfl⟩
  · rw [if_neg hc] at hf
    refine V.blk hC [(.aload_n 0, 1), (.iload_n 1, 1)] 6 [some (.ref 0), some (.int a1)] [] ⟨d_L_cell_6, d_L_cell_7, trivial⟩ (show tv_run _ _ _ _ = some (8, [some (.ref 0), some (.int a1)], [.int a1, .ref 0]) from rfl) ?_
    obtain ⟨hb1, hf⟩ := tm_if hf
    refine V.sld hC (hp_at kd_0) hb1 d_L_cell_8 ?_
    show V X 0 0 tm_n (hp σ) 9 [some (.ref 0), some (.int a1)] [.int (σ.1 0 a1.toNatClampNeg)]
    refine V.goto hC d_L_cell_9 (tgt := 13) (by decide) ?_
    obtain rfl := Option.some.inj hf
    exact V.iret hC hr hE d_L_cell_13 ⟨rfl, rfl, rfl⟩
