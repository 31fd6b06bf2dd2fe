set_option maxHeartbeats 4000000 in
set_option maxRecDepth 100000 in
theorem c_Y_node_L17 {X : tv_X} {r : Int32 × tm_S} (hC : tv_K X tb_Y_node 4 "TrickleMeshModel" tm_wg tm_ns tm_cl tm_ty { frames := 1, cells := 0, slots := 0, locals := 20 }) (hr : tv_ret X (some .int)) (hE : tv_end X (tm_P (some (.int r.1)) r.2) 0 0) (σ : tm_S)   (hf : f_Y_node_L17 σ  = some r) : V X 0 0 tm_n (hp σ) 17 [some (.ref 130), none, none, none] [] := by
  unfold f_Y_node_L17 at hf
  refine V.blk hC [(.iconst (-1), 1)] 17 [some (.ref 130), none, none, none] [] ⟨d_Y_node_17, trivial⟩ (show tv_run _ _ _ _ = some (18, [some (.ref 130), none, none, none], [.int (-1 : Int32)]) from rfl) ?_
  obtain rfl := Option.some.inj hf
  exact V.iret hC hr hE d_Y_node_18 ⟨rfl, rfl, rfl⟩
set_option maxHeartbeats 4000000 in
set_option maxRecDepth 100000 in
theorem c_Y_node_L33 {X : tv_X} {r : Int32 × tm_S} (hC : tv_K X tb_Y_node 4 "TrickleMeshModel" tm_wg tm_ns tm_cl tm_ty { frames := 1, cells := 0, slots := 0, locals := 20 }) (hr : tv_ret X (some .int)) (hE : tv_end X (tm_P (some (.int r.1)) r.2) 0 0) (σ : tm_S) (l1 : Int32) (l2 : Int32) (s0 : Int32)  (hf : f_Y_node_L33 σ l1 l2 s0 = some r) : V X 0 0 tm_n (hp σ) 33 [some (.ref 130), some (.int l1), some (.int l2), none] [.int s0] := by
  unfold f_Y_node_L33 at hf
  refine V.blk hC [(.istore_n 3, 1), (.iload_n 2, 1)] 33 [some (.ref 130), some (.int l1), some (.int l2), none] [.int s0] ⟨d_Y_node_33, d_Y_node_34, trivial⟩ (show tv_run _ _ _ _ = some (35, [some (.ref 130), some (.int l1), some (.int l2), some (.int s0)], [.int l2]) from rfl) ?_
  by_cases hw0 : l2 = (0 : Int32)
  · rw [if_pos hw0] at hf
    refine V.tableIn hC d_Y_node_35 (tgt := 96) (by rw [hw0]; decide) (by rw [hw0]; decide) (by rw [hw0]; rfl) (by decide) ?_
    refine V.blk hC [(.aload_n 0, 1)] 96 [some (.ref 130), some (.int l1), some (.int l2), some (.int s0)] [] ⟨d_Y_node_96, trivial⟩ (show tv_run _ _ _ _ = some (97, [some (.ref 130), some (.int l1), some (.int l2), some (.int s0)], [.ref 130]) from rfl) ?_
    refine V.getf hC tf_Y_35 (kd_in kd_130 (by decide)) (hp_at kd_130) rfl d_Y_node_97 ?_
    show V X 0 0 tm_n (hp σ) 100 [some (.ref 130), some (.int l1), some (.int l2), some (.int s0)] [.ref 139]
    refine V.blk hC [(.iload_n 1, 1)] 100 [some (.ref 130), some (.int l1), some (.int l2), some (.int s0)] [.ref 139] ⟨d_Y_node_100, trivial⟩ (show tv_run _ _ _ _ = some (101, [some (.ref 130), some (.int l1), some (.int l2), some (.int s0)], [.int l1, .ref 139]) from rfl) ?_
    obtain ⟨hb3, hf⟩ := tm_if hf
    refine V.iald hC (kd_in kd_139 (by decide)) (hp_at kd_139) rfl hb3 d_Y_node_101 ?_
    show V X 0 0 tm_n (hp σ) 102 [some (.ref 130), some (.int l1), some (.int l2), some (.int s0)] [.int (σ.1 139 l1.toNatClampNeg)]
    obtain rfl := Option.some.inj hf
    exact V.iret hC hr hE d_Y_node_102 ⟨rfl, rfl, rfl⟩
  rw [if_neg hw0] at hf
  by_cases hw1 : l2 = (1 : Int32)
  · rw [if_pos hw1] at hf
    refine V.tableIn hC d_Y_node_35 (tgt := 103) (by rw [hw1]; decide) (by rw [hw1]; decide) (by rw [hw1]; rfl) (by decide) ?_
    refine V.blk hC [(.aload_n 0, 1)] 103 [some (.ref 130), some (.int l1), some (.int l2), some (.int s0)] [] ⟨d_Y_node_103, trivial⟩ (show tv_run _ _ _ _ = some (104, [some (.ref 130), some (.int l1), some (.int l2), some (.int s0)], [.ref 130]) from rfl) ?_
    refine V.getf hC tf_Y_38 (kd_in kd_130 (by decide)) (hp_at kd_130) rfl d_Y_node_104 ?_
    show V X 0 0 tm_n (hp σ) 107 [some (.ref 130), some (.int l1), some (.int l2), some (.int s0)] [.ref 140]
    refine V.blk hC [(.iload_n 1, 1)] 107 [some (.ref 130), some (.int l1), some (.int l2), some (.int s0)] [.ref 140] ⟨d_Y_node_107, trivial⟩ (show tv_run _ _ _ _ = some (108, [some (.ref 130), some (.int l1), some (.int l2), some (.int s0)], [.int l1, .ref 140]) from rfl) ?_
    obtain ⟨hb4, hf⟩ := tm_if hf
    refine V.iald hC (kd_in kd_140 (by decide)) (hp_at kd_140) rfl hb4 d_Y_node_108 ?_
    show V X 0 0 tm_n (hp σ) 109 [some (.ref 130), some (.int l1), some (.int l2), some (.int s0)] [.int (σ.1 140 l1.toNatClampNeg)]
    refine V.blk hC [(.iconst 1, 1), (.iadd, 1)] 109 [some (.ref 130), some (.int l1), some (.int l2), some (.int s0)] [.int (σ.1 140 l1.toNatClampNeg)] ⟨d_Y_node_109, d_Y_node_110, trivial⟩ (show tv_run _ _ _ _ = some (111, [some (.ref 130), some (.int l1), some (.int l2), some (.int s0)], [.int ((σ.1 140 l1.toNatClampNeg) + (1 : Int32))]) from rfl) ?_
    obtain rfl := Option.some.inj hf
    exact V.iret hC hr hE d_Y_node_111 ⟨rfl, rfl, rfl⟩
  rw [if_neg hw1] at hf
  by_cases hw2 : l2 = (2 : Int32)
  · rw [if_pos hw2] at hf
    refine V.tableIn hC d_Y_node_35 (tgt := 112) (by rw [hw2]; decide) (by rw [hw2]; decide) (by rw [hw2]; rfl) (by decide) ?_
    refine V.blk hC [(.aload_n 0, 1)] 112 [some (.ref 130), some (.int l1), some (.int l2), some (.int s0)] [] ⟨d_Y_node_112, trivial⟩ (show tv_run _ _ _ _ = some (113, [some (.ref 130), some (.int l1), some (.int l2), some (.int s0)], [.ref 130]) from rfl) ?_
    refine V.getf hC tf_Y_32 (kd_in kd_130 (by decide)) (hp_at kd_130) rfl d_Y_node_113 ?_
    show V X 0 0 tm_n (hp σ) 116 [some (.ref 130), some (.int l1), some (.int l2), some (.int s0)] [.ref 138]
    refine V.blk hC [(.iload_n 1, 1)] 116 [some (.ref 130), some (.int l1), some (.int l2), some (.int s0)] [.ref 138] ⟨d_Y_node_116, trivial⟩ (show tv_run _ _ _ _ = some (117, [some (.ref 130), some (.int l1), some (.int l2), some (.int s0)], [.int l1, .ref 138]) from rfl) ?_
    obtain ⟨hb5, hf⟩ := tm_if hf
    refine V.iald hC (kd_in kd_138 (by decide)) (hp_at kd_138) rfl hb5 d_Y_node_117 ?_
    show V X 0 0 tm_n (hp σ) 118 [some (.ref 130), some (.int l1), some (.int l2), some (.int s0)] [.int (σ.1 138 l1.toNatClampNeg)]
    obtain rfl := Option.some.inj hf
    exact V.iret hC hr hE d_Y_node_118 ⟨rfl, rfl, rfl⟩
  rw [if_neg hw2] at hf
  by_cases hw3 : l2 = (3 : Int32)
  · rw [if_pos hw3] at hf
    refine V.tableIn hC d_Y_node_35 (tgt := 119) (by rw [hw3]; decide) (by rw [hw3]; decide) (by rw [hw3]; rfl) (by decide) ?_
    refine V.blk hC [(.aload_n 0, 1)] 119 [some (.ref 130), some (.int l1), some (.int l2), some (.int s0)] [] ⟨d_Y_node_119, trivial⟩ (show tv_run _ _ _ _ = some (120, [some (.ref 130), some (.int l1), some (.int l2), some (.int s0)], [.ref 130]) from rfl) ?_
    refine V.getf hC tf_Y_47 (kd_in kd_130 (by decide)) (hp_at kd_130) rfl d_Y_node_120 ?_
    show V X 0 0 tm_n (hp σ) 123 [some (.ref 130), some (.int l1), some (.int l2), some (.int s0)] [.ref 143]
    refine V.blk hC [(.iload_n 1, 1)] 123 [some (.ref 130), some (.int l1), some (.int l2), some (.int s0)] [.ref 143] ⟨d_Y_node_123, trivial⟩ (show tv_run _ _ _ _ = some (124, [some (.ref 130), some (.int l1), some (.int l2), some (.int s0)], [.int l1, .ref 143]) from rfl) ?_
    obtain ⟨hb6, hf⟩ := tm_if hf
    refine V.iald hC (kd_in kd_143 (by decide)) (hp_at kd_143) rfl hb6 d_Y_node_124 ?_
    show V X 0 0 tm_n (hp σ) 125 [some (.ref 130), some (.int l1), some (.int l2), some (.int s0)] [.int (σ.1 143 l1.toNatClampNeg)]
    obtain rfl := Option.some.inj hf
    exact V.iret hC hr hE d_Y_node_125 ⟨rfl, rfl, rfl⟩
  rw [if_neg hw3] at hf
  by_cases hw4 : l2 = (4 : Int32)
  · rw [if_pos hw4] at hf
    refine V.tableIn hC d_Y_node_35 (tgt := 126) (by rw [hw4]; decide) (by rw [hw4]; decide) (by rw [hw4]; rfl) (by decide) ?_
    refine V.blk hC [(.aload_n 0, 1)] 126 [some (.ref 130), some (.int l1), some (.int l2), some (.int s0)] [] ⟨d_Y_node_126, trivial⟩ (show tv_run _ _ _ _ = some (127, [some (.ref 130), some (.int l1), some (.int l2), some (.int s0)], [.ref 130]) from rfl) ?_
    refine V.getf hC tf_Y_50 (kd_in kd_130 (by decide)) (hp_at kd_130) rfl d_Y_node_127 ?_
    show V X 0 0 tm_n (hp σ) 130 [some (.ref 130), some (.int l1), some (.int l2), some (.int s0)] [.ref 144]
    refine V.blk hC [(.iload_n 1, 1)] 130 [some (.ref 130), some (.int l1), some (.int l2), some (.int s0)] [.ref 144] ⟨d_Y_node_130, trivial⟩ (show tv_run _ _ _ _ = some (131, [some (.ref 130), some (.int l1), some (.int l2), some (.int s0)], [.int l1, .ref 144]) from rfl) ?_
    obtain ⟨hb7, hf⟩ := tm_if hf
    refine V.iald hC (kd_in kd_144 (by decide)) (hp_at kd_144) rfl hb7 d_Y_node_131 ?_
    show V X 0 0 tm_n (hp σ) 132 [some (.ref 130), some (.int l1), some (.int l2), some (.int s0)] [.int (σ.1 144 l1.toNatClampNeg)]
    obtain rfl := Option.some.inj hf
    exact V.iret hC hr hE d_Y_node_132 ⟨rfl, rfl, rfl⟩
  rw [if_neg hw4] at hf
  by_cases hw5 : l2 = (5 : Int32)
  · rw [if_pos hw5] at hf
    refine V.tableIn hC d_Y_node_35 (tgt := 133) (by rw [hw5]; decide) (by rw [hw5]; decide) (by rw [hw5]; rfl) (by decide) ?_
    refine V.blk hC [(.aload_n 0, 1)] 133 [some (.ref 130), some (.int l1), some (.int l2), some (.int s0)] [] ⟨d_Y_node_133, trivial⟩ (show tv_run _ _ _ _ = some (134, [some (.ref 130), some (.int l1), some (.int l2), some (.int s0)], [.ref 130]) from rfl) ?_
    refine V.getf hC tf_Y_56 (kd_in kd_130 (by decide)) (hp_at kd_130) rfl d_Y_node_134 ?_
    show V X 0 0 tm_n (hp σ) 137 [some (.ref 130), some (.int l1), some (.int l2), some (.int s0)] [.ref 146]
    refine V.blk hC [(.iload_n 1, 1)] 137 [some (.ref 130), some (.int l1), some (.int l2), some (.int s0)] [.ref 146] ⟨d_Y_node_137, trivial⟩ (show tv_run _ _ _ _ = some (138, [some (.ref 130), some (.int l1), some (.int l2), some (.int s0)], [.int l1, .ref 146]) from rfl) ?_
    obtain ⟨hb8, hf⟩ := tm_if hf
    refine V.iald hC (kd_in kd_146 (by decide)) (hp_at kd_146) rfl hb8 d_Y_node_138 ?_
    show V X 0 0 tm_n (hp σ) 139 [some (.ref 130), some (.int l1), some (.int l2), some (.int s0)] [.int (σ.1 146 l1.toNatClampNeg)]
    obtain rfl := Option.some.inj hf
    exact V.iret hC hr hE d_Y_node_139 ⟨rfl, rfl, rfl⟩
  rw [if_neg hw5] at hf
  by_cases hw6 : l2 = (6 : Int32)
  · rw [if_pos hw6] at hf
    refine V.tableIn hC d_Y_node_35 (tgt := 140) (by rw [hw6]; decide) (by rw [hw6]; decide) (by rw [hw6]; rfl) (by decide) ?_
    refine V.blk hC [(.aload_n 0, 1)] 140 [some (.ref 130), some (.int l1), some (.int l2), some (.int s0)] [] ⟨d_Y_node_140, trivial⟩ (show tv_run _ _ _ _ = some (141, [some (.ref 130), some (.int l1), some (.int l2), some (.int s0)], [.ref 130]) from rfl) ?_
    refine V.getf hC tf_Y_62 (kd_in kd_130 (by decide)) (hp_at kd_130) rfl d_Y_node_141 ?_
    show V X 0 0 tm_n (hp σ) 144 [some (.ref 130), some (.int l1), some (.int l2), some (.int s0)] [.ref 148]
    refine V.blk hC [(.iload_n 1, 1)] 144 [some (.ref 130), some (.int l1), some (.int l2), some (.int s0)] [.ref 148] ⟨d_Y_node_144, trivial⟩ (show tv_run _ _ _ _ = some (145, [some (.ref 130), some (.int l1), some (.int l2), some (.int s0)], [.int l1, .ref 148]) from rfl) ?_
    obtain ⟨hb9, hf⟩ := tm_if hf
    refine V.iald hC (kd_in kd_148 (by decide)) (hp_at kd_148) rfl hb9 d_Y_node_145 ?_
    show V X 0 0 tm_n (hp σ) 146 [some (.ref 130), some (.int l1), some (.int l2), some (.int s0)] [.int (σ.1 148 l1.toNatClampNeg)]
    obtain rfl := Option.some.inj hf
    exact V.iret hC hr hE d_Y_node_146 ⟨rfl, rfl, rfl⟩
  rw [if_neg hw6] at hf
  by_cases hw7 : l2 = (7 : Int32)
  · rw [if_pos hw7] at hf
    refine V.tableIn hC d_Y_node_35 (tgt := 147) (by rw [hw7]; decide) (by rw [hw7]; decide) (by rw [hw7]; rfl) (by decide) ?_
    refine V.blk hC [(.iload_n 3, 1)] 147 [some (.ref 130), some (.int l1), some (.int l2), some (.int s0)] [] ⟨d_Y_node_147, trivial⟩ (show tv_run _ _ _ _ = some (148, [some (.ref 130), some (.int l1), some (.int l2), some (.int s0)], [.int s0]) from rfl) ?_
    refine V.if_eq hC d_Y_node_148 (tgt := 160) (by decide) (fun hc => ?_) (fun hc => ?_)
    · rw [if_pos hc] at hf
      refine V.blk hC [(.iconst 0, 1)] 160 [some (.ref 130), some (.int l1), some (.int l2), some (.int s0)] [] ⟨d_Y_node_160, trivial⟩ (show tv_run _ _ _ _ = some (161, [some (.ref 130), some (.int l1), some (.int l2), some (.int s0)], [.int (0 : Int32)]) from rfl) ?_
      obtain rfl := Option.some.inj hf
      exact V.iret hC hr hE d_Y_node_161 ⟨rfl, rfl, rfl⟩
    · rw [if_neg hc] at hf
      refine V.blk hC [(.aload_n 0, 1)] 151 [some (.ref 130), some (.int l1), some (.int l2), some (.int s0)] [] ⟨d_Y_node_151, trivial⟩ (show tv_run _ _ _ _ = some (152, [some (.ref 130), some (.int l1), some (.int l2), some (.int s0)], [.ref 130]) from rfl) ?_
      refine V.getf hC tf_Y_65 (kd_in kd_130 (by decide)) (hp_at kd_130) rfl d_Y_node_152 ?_
      show V X 0 0 tm_n (hp σ) 155 [some (.ref 130), some (.int l1), some (.int l2), some (.int s0)] [.ref 149]
      refine V.blk hC [(.iload_n 1, 1)] 155 [some (.ref 130), some (.int l1), some (.int l2), some (.int s0)] [.ref 149] ⟨d_Y_node_155, trivial⟩ (show tv_run _ _ _ _ = some (156, [some (.ref 130), some (.int l1), some (.int l2), some (.int s0)], [.int l1, .ref 149]) from rfl) ?_
      obtain ⟨hb10, hf⟩ := tm_if hf
      refine V.iald hC (kd_in kd_149 (by decide)) (hp_at kd_149) rfl hb10 d_Y_node_156 ?_
      show V X 0 0 tm_n (hp σ) 157 [some (.ref 130), some (.int l1), some (.int l2), some (.int s0)] [.int (σ.1 149 l1.toNatClampNeg)]
      refine V.goto hC d_Y_node_157 (tgt := 161) (by decide) ?_
      obtain rfl := Option.some.inj hf
      exact V.iret hC hr hE d_Y_node_161 ⟨rfl, rfl, rfl⟩
  rw [if_neg hw7] at hf
  by_cases hw8 : l2 = (8 : Int32)
  · rw [if_pos hw8] at hf
    refine V.tableIn hC d_Y_node_35 (tgt := 162) (by rw [hw8]; decide) (by rw [hw8]; decide) (by rw [hw8]; rfl) (by decide) ?_
    refine V.blk hC [(.iload_n 3, 1)] 162 [some (.ref 130), some (.int l1), some (.int l2), some (.int s0)] [] ⟨d_Y_node_162, trivial⟩ (show tv_run _ _ _ _ = some (163, [some (.ref 130), some (.int l1), some (.int l2), some (.int s0)], [.int s0]) from rfl) ?_
    refine V.if_eq hC d_Y_node_163 (tgt := 175) (by decide) (fun hc => ?_) (fun hc => ?_)
    · rw [if_pos hc] at hf
      refine V.blk hC [(.iconst 0, 1)] 175 [some (.ref 130), some (.int l1), some (.int l2), some (.int s0)] [] ⟨d_Y_node_175, trivial⟩ (show tv_run _ _ _ _ = some (176, [some (.ref 130), some (.int l1), some (.int l2), some (.int s0)], [.int (0 : Int32)]) from rfl) ?_
      obtain rfl := Option.some.inj hf
      exact V.iret hC hr hE d_Y_node_176 ⟨rfl, rfl, rfl⟩
    · rw [if_neg hc] at hf
      refine V.blk hC [(.aload_n 0, 1)] 166 [some (.ref 130), some (.int l1), some (.int l2), some (.int s0)] [] ⟨d_Y_node_166, trivial⟩ (show tv_run _ _ _ _ = some (167, [some (.ref 130), some (.int l1), some (.int l2), some (.int s0)], [.ref 130]) from rfl) ?_
      refine V.getf hC tf_Y_68 (kd_in kd_130 (by decide)) (hp_at kd_130) rfl d_Y_node_167 ?_
      show V X 0 0 tm_n (hp σ) 170 [some (.ref 130), some (.int l1), some (.int l2), some (.int s0)] [.ref 150]
      refine V.blk hC [(.iload_n 1, 1)] 170 [some (.ref 130), some (.int l1), some (.int l2), some (.int s0)] [.ref 150] ⟨d_Y_node_170, trivial⟩ (show tv_run _ _ _ _ = some (171, [some (.ref 130), some (.int l1), some (.int l2), some (.int s0)], [.int l1, .ref 150]) from rfl) ?_
      obtain ⟨hb11, hf⟩ := tm_if hf
      refine V.iald hC (kd_in kd_150 (by decide)) (hp_at kd_150) rfl hb11 d_Y_node_171 ?_
      show V X 0 0 tm_n (hp σ) 172 [some (.ref 130), some (.int l1), some (.int l2), some (.int s0)] [.int (σ.1 150 l1.toNatClampNeg)]
      refine V.goto hC d_Y_node_172 (tgt := 176) (by decide) ?_
      obtain rfl := Option.some.inj hf
      exact V.iret hC hr hE d_Y_node_176 ⟨rfl, rfl, rfl⟩
  rw [if_neg hw8] at hf
  by_cases hw9 : l2 = (9 : Int32)
  · rw [if_pos hw9] at hf
    refine V.tableIn hC d_Y_node_35 (tgt := 177) (by rw [hw9]; decide) (by rw [hw9]; decide) (by rw [hw9]; rfl) (by decide) ?_
    refine V.blk hC [(.iload_n 3, 1)] 177 [some (.ref 130), some (.int l1), some (.int l2), some (.int s0)] [] ⟨d_Y_node_177, trivial⟩ (show tv_run _ _ _ _ = some (178, [some (.ref 130), some (.int l1), some (.int l2), some (.int s0)], [.int s0]) from rfl) ?_
    refine V.if_eq hC d_Y_node_178 (tgt := 190) (by decide) (fun hc => ?_) (fun hc => ?_)
    · rw [if_pos hc] at hf
      refine V.blk hC [(.iconst 0, 1)] 190 [some (.ref 130), some (.int l1), some (.int l2), some (.int s0)] [] ⟨d_Y_node_190, trivial⟩ (show tv_run _ _ _ _ = some (191, [some (.ref 130), some (.int l1), some (.int l2), some (.int s0)], [.int (0 : Int32)]) from rfl) ?_
      obtain rfl := Option.some.inj hf
      exact V.iret hC hr hE d_Y_node_191 ⟨rfl, rfl, rfl⟩
    · rw [if_neg hc] at hf
      refine V.blk hC [(.aload_n 0, 1)] 181 [some (.ref 130), some (.int l1), some (.int l2), some (.int s0)] [] ⟨d_Y_node_181, trivial⟩ (show tv_run _ _ _ _ = some (182, [some (.ref 130), some (.int l1), some (.int l2), some (.int s0)], [.ref 130]) from rfl) ?_
      refine V.getf hC tf_Y_71 (kd_in kd_130 (by decide)) (hp_at kd_130) rfl d_Y_node_182 ?_
      show V X 0 0 tm_n (hp σ) 185 [some (.ref 130), some (.int l1), some (.int l2), some (.int s0)] [.ref 151]
      refine V.blk hC [(.iload_n 1, 1)] 185 [some (.ref 130), some (.int l1), some (.int l2), some (.int s0)] [.ref 151] ⟨d_Y_node_185, trivial⟩ (show tv_run _ _ _ _ = some (186, [some (.ref 130), some (.int l1), some (.int l2), some (.int s0)], [.int l1, .ref 151]) from rfl) ?_
      obtain ⟨hb12, hf⟩ := tm_if hf
      refine V.iald hC (kd_in kd_151 (by decide)) (hp_at kd_151) rfl hb12 d_Y_node_186 ?_
      show V X 0 0 tm_n (hp σ) 187 [some (.ref 130), some (.int l1), some (.int l2), some (.int s0)] [.int (σ.1 151 l1.toNatClampNeg)]
      refine V.goto hC d_Y_node_187 (tgt := 191) (by decide) ?_
      obtain rfl := Option.some.inj hf
      exact V.iret hC hr hE d_Y_node_191 ⟨rfl, rfl, rfl⟩
  rw [if_neg hw9] at hf
  by_cases hw10 : l2 = (10 : Int32)
  · rw [if_pos hw10] at hf
    refine V.tableIn hC d_Y_node_35 (tgt := 192) (by rw [hw10]; decide) (by rw [hw10]; decide) (by rw [hw10]; rfl) (by decide) ?_
    refine V.blk hC [(.aload_n 0, 1)] 192 [some (.ref 130), some (.int l1), some (.int l2), some (.int s0)] [] ⟨d_Y_node_192, trivial⟩ (show tv_run _ _ _ _ = some (193, [some (.ref 130), some (.int l1), some (.int l2), some (.int s0)], [.ref 130]) from rfl) ?_
    refine V.getf hC tf_Y_41 (kd_in kd_130 (by decide)) (hp_at kd_130) rfl d_Y_node_193 ?_
    show V X 0 0 tm_n (hp σ) 196 [some (.ref 130), some (.int l1), some (.int l2), some (.int s0)] [.ref 141]
    refine V.blk hC [(.iload_n 1, 1)] 196 [some (.ref 130), some (.int l1), some (.int l2), some (.int s0)] [.ref 141] ⟨d_Y_node_196, trivial⟩ (show tv_run _ _ _ _ = some (197, [some (.ref 130), some (.int l1), some (.int l2), some (.int s0)], [.int l1, .ref 141]) from rfl) ?_
    obtain ⟨hb13, hf⟩ := tm_if hf
    refine V.iald hC (kd_in kd_141 (by decide)) (hp_at kd_141) rfl hb13 d_Y_node_197 ?_
    show V X 0 0 tm_n (hp σ) 198 [some (.ref 130), some (.int l1), some (.int l2), some (.int s0)] [.int (σ.1 141 l1.toNatClampNeg)]
    obtain rfl := Option.some.inj hf
    exact V.iret hC hr hE d_Y_node_198 ⟨rfl, rfl, rfl⟩
  rw [if_neg hw10] at hf
  by_cases hw11 : l2 = (11 : Int32)
  · rw [if_pos hw11] at hf
    refine V.tableIn hC d_Y_node_35 (tgt := 199) (by rw [hw11]; decide) (by rw [hw11]; decide) (by rw [hw11]; rfl) (by decide) ?_
    refine V.blk hC [(.aload_n 0, 1)] 199 [some (.ref 130), some (.int l1), some (.int l2), some (.int s0)] [] ⟨d_Y_node_199, trivial⟩ (show tv_run _ _ _ _ = some (200, [some (.ref 130), some (.int l1), some (.int l2), some (.int s0)], [.ref 130]) from rfl) ?_
    refine V.getf hC tf_Y_29 (kd_in kd_130 (by decide)) (hp_at kd_130) rfl d_Y_node_200 ?_
    show V X 0 0 tm_n (hp σ) 203 [some (.ref 130), some (.int l1), some (.int l2), some (.int s0)] [.ref 137]
    refine V.blk hC [(.iload_n 1, 1)] 203 [some (.ref 130), some (.int l1), some (.int l2), some (.int s0)] [.ref 137] ⟨d_Y_node_203, trivial⟩ (show tv_run _ _ _ _ = some (204, [some (.ref 130), some (.int l1), some (.int l2), some (.int s0)], [.int l1, .ref 137]) from rfl) ?_
    obtain ⟨hb14, hf⟩ := tm_if hf
    refine V.zald hC (kd_in kd_137 (by decide)) (hp_at kd_137) rfl hb14 d_Y_node_204 ?_
    show V X 0 0 tm_n (hp σ) 205 [some (.ref 130), some (.int l1), some (.int l2), some (.int s0)] [.int (σ.1 137 l1.toNatClampNeg)]
    refine V.if_eq hC d_Y_node_205 (tgt := 212) (by decide) (fun hc => ?_) (fun hc => ?_)
    · rw [if_pos hc] at hf
      refine V.blk hC [(.aload_n 0, 1)] 212 [some (.ref 130), some (.int l1), some (.int l2), some (.int s0)] [] ⟨d_Y_node_212, trivial⟩ (show tv_run _ _ _ _ = some (213, [some (.ref 130), some (.int l1), some (.int l2), some (.int s0)], [.ref 130]) from rfl) ?_
      refine V.getf hC tf_Y_77 (kd_in kd_130 (by decide)) (hp_at kd_130) rfl d_Y_node_213 ?_
      show V X 0 0 tm_n (hp σ) 216 [some (.ref 130), some (.int l1), some (.int l2), some (.int s0)] [.ref 153]
      refine V.blk hC [(.iload_n 1, 1)] 216 [some (.ref 130), some (.int l1), some (.int l2), some (.int s0)] [.ref 153] ⟨d_Y_node_216, trivial⟩ (show tv_run _ _ _ _ = some (217, [some (.ref 130), some (.int l1), some (.int l2), some (.int s0)], [.int l1, .ref 153]) from rfl) ?_
      obtain ⟨hb15, hf⟩ := tm_if hf
      refine V.zald hC (kd_in kd_153 (by decide)) (hp_at kd_153) rfl hb15 d_Y_node_217 ?_
      show V X 0 0 tm_n (hp σ) 218 [some (.ref 130), some (.int l1), some (.int l2), some (.int s0)] [.int (σ.1 153 l1.toNatClampNeg)]
      refine V.if_eq hC d_Y_node_218 (tgt := 225) (by decide) (fun hc => ?_) (fun hc => ?_)
      · rw [if_pos hc] at hf
        refine V.blk hC [(.aload_n 0, 1)] 225 [some (.ref 130), some (.int l1), some (.int l2), some (.int s0)] [] ⟨d_Y_node_225, trivial⟩ (show tv_run _ _ _ _ = some (226, [some (.ref 130), some (.int l1), some (.int l2), some (.int s0)], [.ref 130]) from rfl) ?_
        refine V.getf hC tf_Y_74 (kd_in kd_130 (by decide)) (hp_at kd_130) rfl d_Y_node_226 ?_
        show V X 0 0 tm_n (hp σ) 229 [some (.ref 130), some (.int l1), some (.int l2), some (.int s0)] [.ref 152]
        refine V.blk hC [(.iload_n 1, 1)] 229 [some (.ref 130), some (.int l1), some (.int l2), some (.int s0)] [.ref 152] ⟨d_Y_node_229, trivial⟩ (show tv_run _ _ _ _ = some (230, [some (.ref 130), some (.int l1), some (.int l2), some (.int s0)], [.int l1, .ref 152]) from rfl) ?_
        obtain ⟨hb16, hf⟩ := tm_if hf
        refine V.iald hC (kd_in kd_152 (by decide)) (hp_at kd_152) rfl hb16 d_Y_node_230 ?_
        show V X 0 0 tm_n (hp σ) 231 [some (.ref 130), some (.int l1), some (.int l2), some (.int s0)] [.int (σ.1 152 l1.toNatClampNeg)]
        refine V.if_lt hC d_Y_node_231 (tgt := 238) (by decide) (fun hc => ?_) (fun hc => ?_)
        · rw [if_pos hc] at hf
          refine V.blk hC [(.iconst 0, 1)] 238 [some (.ref 130), some (.int l1), some (.int l2), some (.int s0)] [] ⟨d_Y_node_238, trivial⟩ (show tv_run _ _ _ _ = some (239, [some (.ref 130), some (.int l1), some (.int l2), some (.int s0)], [.int (0 : Int32)]) from rfl) ?_
          obtain rfl := Option.some.inj hf
          exact V.iret hC hr hE d_Y_node_239 ⟨rfl, rfl, rfl⟩
        · rw [if_neg hc] at hf
          refine V.blk hC [(.iconst 3, 1)] 234 [some (.ref 130), some (.int l1), some (.int l2), some (.int s0)] [] ⟨d_Y_node_234, trivial⟩ (show tv_run _ _ _ _ = some (235, [some (.ref 130), some (.int l1), some (.int l2), some (.int s0)], [.int (3 : Int32)]) from rfl) ?_
          refine V.goto hC d_Y_node_235 (tgt := 239) (by decide) ?_
          obtain rfl := Option.some.inj hf
          exact V.iret hC hr hE d_Y_node_239 ⟨rfl, rfl, rfl⟩
      · rw [if_neg hc] at hf
        refine V.blk hC [(.iconst 2, 1)] 221 [some (.ref 130), some (.int l1), some (.int l2), some (.int s0)] [] ⟨d_Y_node_221, trivial⟩ (show tv_run _ _ _ _ = some (222, [some (.ref 130), some (.int l1), some (.int l2), some (.int s0)], [.int (2 : Int32)]) from rfl) ?_
        refine V.goto hC d_Y_node_222 (tgt := 239) (by decide) ?_
        obtain rfl := Option.some.inj hf
        exact V.iret hC hr hE d_Y_node_239 ⟨rfl, rfl, rfl⟩
    · rw [if_neg hc] at hf
      refine V.blk hC [(.iconst 1, 1)] 208 [some (.ref 130), some (.int l1), some (.int l2), some (.int s0)] [] ⟨d_Y_node_208, trivial⟩ (show tv_run _ _ _ _ = some (209, [some (.ref 130), some (.int l1), some (.int l2), some (.int s0)], [.int (1 : Int32)]) from rfl) ?_
      refine V.goto hC d_Y_node_209 (tgt := 239) (by decide) ?_
      obtain rfl := Option.some.inj hf
      exact V.iret hC hr hE d_Y_node_239 ⟨rfl, rfl, rfl⟩
  rw [if_neg hw11] at hf
  refine V.tableOut hC d_Y_node_35 (tgt := 240) (tm_out12 hw0 hw1 hw2 hw3 hw4 hw5 hw6 hw7 hw8 hw9 hw10 hw11) (by decide) ?_
  refine V.blk hC [(.aload_n 0, 1)] 240 [some (.ref 130), some (.int l1), some (.int l2), some (.int s0)] [] ⟨d_Y_node_240, trivial⟩ (show tv_run _ _ _ _ = some (241, [some (.ref 130), some (.int l1), some (.int l2), some (.int s0)], [.ref 130]) from rfl) ?_
  refine V.getf hC tf_Y_23 (kd_in kd_130 (by decide)) (hp_at kd_130) rfl d_Y_node_241 ?_
  show V X 0 0 tm_n (hp σ) 244 [some (.ref 130), some (.int l1), some (.int l2), some (.int s0)] [.ref 135]
  refine V.blk hC [(.bipush 8, 2), (.iload_n 1, 1), (.imul, 1)] 244 [some (.ref 130), some (.int l1), some (.int l2), some (.int s0)] [.ref 135] ⟨d_Y_node_244, d_Y_node_246, d_Y_node_247, trivial⟩ (show tv_run _ _ _ _ = some (248, [some (.ref 130), some (.int l1), some (.int l2), some (.int s0)], [.int ((8 : Int32) * l1), .ref 135]) from rfl) ?_
  obtain ⟨hb17, hf⟩ := tm_if hf
  refine V.iald hC (kd_in kd_135 (by decide)) (hp_at kd_135) rfl hb17 d_Y_node_248 ?_
  show V X 0 0 tm_n (hp σ) 249 [some (.ref 130), some (.int l1), some (.int l2), some (.int s0)] [.int (σ.1 135 ((8 : Int32) * l1).toNatClampNeg)]
  obtain rfl := Option.some.inj hf
  exact V.iret hC hr hE d_Y_node_249 ⟨rfl, rfl, rfl⟩
set_option maxHeartbeats 4000000 in
set_option maxRecDepth 100000 in
theorem c_Y_node (σ : tm_S) (a1 : Int32) (a2 : Int32)  {r : Int32 × tm_S} (hf : f_Y_node σ a1 a2 = some r) : tv_Met ty_Y_node (Cond.code ty_Y_node tb_Y_node 4 (some .int) :: tm_wg) tm_ns tm_cl tm_ty 1 20 0 0 [.ref 130, .int a1, .int a2] tm_n (hp σ) (tm_P (some (.int r.1)) r.2) := by
  refine tv_Met.of (by decide) rfl (tm_le rfl) ?_
  intro X hC hnm hr hE
  have hC : tv_K X tb_Y_node 4 "TrickleMeshModel" tm_wg tm_ns tm_cl tm_ty { frames := 1, cells := 0, slots := 0, locals := 20 } := hC
  show V X 0 0 tm_n (hp σ) 0 [some (.ref 130), some (.int a1), some (.int a2), none] []
  unfold f_Y_node at hf
  refine V.blk hC [(.iload_n 1, 1)] 0 [some (.ref 130), some (.int a1), some (.int a2), none] [] ⟨d_Y_node_0, trivial⟩ (show tv_run _ _ _ _ = some (1, [some (.ref 130), some (.int a1), some (.int a2), none], [.int a1]) from rfl) ?_
  obtain ⟨q1, hq1, hf⟩ := tm_bd hf
  refine V.callS hC tm_nest rfl (c_Y_isNode σ a1  hq1) (tm_gd tc_Y_isNode) tg_Y_244 th_Y_isNode ⟨tm_le rfl, tm_le rfl, tm_le rfl, tm_le rfl⟩ (As := [.int a1]) (st := []) rfl (tm_le rfl) d_Y_node_1 ?_
  rintro v n2 h2 ⟨rfl, rfl, rfl⟩
  show V X 0 0 tm_n (hp q1.2) 4 [some (.ref 130), some (.int a1), some (.int a2), none] [.int q1.1]
  refine V.if_eq hC d_Y_node_4 (tgt := 17) (by decide) (fun hc => ?_) (fun hc => ?_)
  · rw [if_pos hc] at hf
    exact V.less (tv_le_some (tv_le_none (tv_le_none (tv_le_none tv_le_nil)))) (c_Y_node_L17 hC hr hE q1.2   hf)
  · rw [if_neg hc] at hf
    refine V.blk hC [(.iload_n 2, 1)] 7 [some (.ref 130), some (.int a1), some (.int a2), none] [] ⟨d_Y_node_7, trivial⟩ (show tv_run _ _ _ _ = some (8, [some (.ref 130), some (.int a1), some (.int a2), none], [.int a2]) from rfl) ?_
    refine V.if_lt hC d_Y_node_8 (tgt := 17) (by decide) (fun hc => ?_) (fun hc => ?_)
    · rw [if_pos hc] at hf
      exact V.less (tv_le_some (tv_le_none (tv_le_none (tv_le_none tv_le_nil)))) (c_Y_node_L17 hC hr hE q1.2   hf)
    · rw [if_neg hc] at hf
      refine V.blk hC [(.iload_n 2, 1), (.bipush 12, 2)] 11 [some (.ref 130), some (.int a1), some (.int a2), none] [] ⟨d_Y_node_11, d_Y_node_12, trivial⟩ (show tv_run _ _ _ _ = some (14, [some (.ref 130), some (.int a1), some (.int a2), none], [.int (12 : Int32), .int a2]) from rfl) ?_
      refine V.icmp_le hC d_Y_node_14 (tgt := 19) (by decide) (fun hc => ?_) (fun hc => ?_)
      · rw [if_pos hc] at hf
        refine V.blk hC [(.aload_n 0, 1)] 19 [some (.ref 130), some (.int a1), some (.int a2), none] [] ⟨d_Y_node_19, trivial⟩ (show tv_run _ _ _ _ = some (20, [some (.ref 130), some (.int a1), some (.int a2), none], [.ref 130]) from rfl) ?_
        refine V.getf hC tf_Y_62 (kd_in kd_130 (by decide)) (hp_at kd_130) rfl d_Y_node_20 ?_
        show V X 0 0 tm_n (hp q1.2) 23 [some (.ref 130), some (.int a1), some (.int a2), none] [.ref 148]
        refine V.blk hC [(.iload_n 1, 1)] 23 [some (.ref 130), some (.int a1), some (.int a2), none] [.ref 148] ⟨d_Y_node_23, trivial⟩ (show tv_run _ _ _ _ = some (24, [some (.ref 130), some (.int a1), some (.int a2), none], [.int a1, .ref 148]) from rfl) ?_
        obtain ⟨hb2, hf⟩ := tm_if hf
        refine V.iald hC (kd_in kd_148 (by decide)) (hp_at kd_148) rfl hb2 d_Y_node_24 ?_
        show V X 0 0 tm_n (hp q1.2) 25 [some (.ref 130), some (.int a1), some (.int a2), none] [.int (q1.2.1 148 a1.toNatClampNeg)]
        refine V.if_le hC d_Y_node_25 (tgt := 32) (by decide) (fun hc => ?_) (fun hc => ?_)
        · rw [if_pos hc] at hf
          refine V.blk hC [(.iconst 0, 1)] 32 [some (.ref 130), some (.int a1), some (.int a2), none] [] ⟨d_Y_node_32, trivial⟩ (show tv_run _ _ _ _ = some (33, [some (.ref 130), some (.int a1), some (.int a2), none], [.int (0 : Int32)]) from rfl) ?_
          exact V.less (tv_le_some (tv_le_some (tv_le_some (tv_le_none tv_le_nil)))) (c_Y_node_L33 hC hr hE q1.2 a1 a2 (0 : Int32)  hf)
        · rw [if_neg hc] at hf
          refine V.blk hC [(.iconst 1, 1)] 28 [some (.ref 130), some (.int a1), some (.int a2), none] [] ⟨d_Y_node_28, trivial⟩ (show tv_run _ _ _ _ = some (29, [some (.ref 130), some (.int a1), some (.int a2), none], [.int (1 : Int32)]) from rfl) ?_
          refine V.goto hC d_Y_node_29 (tgt := 33) (by decide) ?_
          exact V.less (tv_le_some (tv_le_some (tv_le_some (tv_le_none tv_le_nil)))) (c_Y_node_L33 hC hr hE q1.2 a1 a2 (1 : Int32)  hf)
      · rw [if_neg hc] at hf
        exact V.less (tv_le_some (tv_le_none (tv_le_none (tv_le_none tv_le_nil)))) (c_Y_node_L17 hC hr hE q1.2   hf)
set_option maxHeartbeats 4000000 in
set_option maxRecDepth 100000 in
theorem c_Y_next_L19 {X : tv_X} {r : Int32 × tm_S} (hC : tv_K X tb_Y_next 3 "TrickleMeshModel" tm_wg tm_ns tm_cl tm_ty { frames := 1, cells := 0, slots := 0, locals := 20 }) (hr : tv_ret X (some .int)) (hE : tv_end X (tm_P (some (.int r.1)) r.2) 0 0) (σ : tm_S)   (hf : f_Y_next_L19 σ  = some r) : V X 0 0 tm_n (hp σ) 19 [some (.ref 130), none, none] [] := by
  unfold f_Y_next_L19 at hf
  refine V.blk hC [(.iconst 0, 1)] 19 [some (.ref 130), none, none] [] ⟨d_Y_next_19, trivial⟩ (show tv_run _ _ _ _ = some (20, [some (.ref 130), none, none], [.int (0 : Int32)]) from rfl) ?_
  refine V.goto hC d_Y_next_20 (tgt := 36) (by decide) ?_
  obtain rfl := Option.some.inj hf
  exact V.iret hC hr hE d_Y_next_36 ⟨rfl, rfl, rfl⟩
set_option maxHeartbeats 4000000 in
set_option maxRecDepth 100000 in
theorem c_Y_next (σ : tm_S) (a1 : Int32) (a2 : Int32)  {r : Int32 × tm_S} (hf : f_Y_next σ a1 a2 = some r) : tv_Met ty_Y_next (Cond.code ty_Y_next tb_Y_next 3 (some .int) :: tm_wg) tm_ns tm_cl tm_ty 1 20 0 0 [.ref 130, .int a1, .int a2] tm_n (hp σ) (tm_P (some (.int r.1)) r.2) := by
  refine tv_Met.of (by decide) rfl (tm_le rfl) ?_
  intro X hC hnm hr hE
  have hC : tv_K X tb_Y_next 3 "TrickleMeshModel" tm_wg tm_ns tm_cl tm_ty { frames := 1, cells := 0, slots := 0, locals := 20 } := hC
  show V X 0 0 tm_n (hp σ) 0 [some (.ref 130), some (.int a1), some (.int a2)] []
  unfold f_Y_next at hf
  refine V.blk hC [(.iload_n 1, 1)] 0 [some (.ref 130), some (.int a1), some (.int a2)] [] ⟨d_Y_next_0, trivial⟩ (show tv_run _ _ _ _ = some (1, [some (.ref 130), some (.int a1), some (.int a2)], [.int a1]) from rfl) ?_
  obtain ⟨q1, hq1, hf⟩ := tm_bd hf
  refine V.callS hC tm_nest rfl (c_Y_isNode σ a1  hq1) (tm_gd tc_Y_isNode) tg_Y_244 th_Y_isNode ⟨tm_le rfl, tm_le rfl, tm_le rfl, tm_le rfl⟩ (As := [.int a1]) (st := []) rfl (tm_le rfl) d_Y_next_1 ?_
  rintro v n2 h2 ⟨rfl, rfl, rfl⟩
  show V X 0 0 tm_n (hp q1.2) 4 [some (.ref 130), some (.int a1), some (.int a2)] [.int q1.1]
  refine V.if_eq hC d_Y_next_4 (tgt := 19) (by decide) (fun hc => ?_) (fun hc => ?_)
  · rw [if_pos hc] at hf
    exact V.less (tv_le_some (tv_le_none (tv_le_none tv_le_nil))) (c_Y_next_L19 hC hr hE q1.2   hf)
  · rw [if_neg hc] at hf
    refine V.blk hC [(.iload_n 2, 1)] 7 [some (.ref 130), some (.int a1), some (.int a2)] [] ⟨d_Y_next_7, trivial⟩ (show tv_run _ _ _ _ = some (8, [some (.ref 130), some (.int a1), some (.int a2)], [.int a2]) from rfl) ?_
    obtain ⟨q2, hq2, hf⟩ := tm_bd hf
    refine V.callS hC tm_nest rfl (c_Y_isNode q1.2 a2  hq2) (tm_gd tc_Y_isNode) tg_Y_244 th_Y_isNode ⟨tm_le rfl, tm_le rfl, tm_le rfl, tm_le rfl⟩ (As := [.int a2]) (st := []) rfl (tm_le rfl) d_Y_next_8 ?_
    rintro v n2 h2 ⟨rfl, rfl, rfl⟩
    show V X 0 0 tm_n (hp q2.2) 11 [some (.ref 130), some (.int a1), some (.int a2)] [.int q2.1]
    refine V.if_eq hC d_Y_next_11 (tgt := 19) (by decide) (fun hc => ?_) (fun hc => ?_)
    · rw [if_pos hc] at hf
      exact V.less (tv_le_some (tv_le_none (tv_le_none tv_le_nil))) (c_Y_next_L19 hC hr hE q2.2   hf)
    · rw [if_neg hc] at hf
      refine V.blk hC [(.iload_n 1, 1), (.iload_n 2, 1)] 14 [some (.ref 130), some (.int a1), some (.int a2)] [] ⟨d_Y_next_14, d_Y_next_15, trivial⟩ (show tv_run _ _ _ _ = some (16, [some (.ref 130), some (.int a1), some (.int a2)], [.int a2, .int a1]) from rfl) ?_
      refine V.icmp_ne hC d_Y_next_16 (tgt := 23) (by decide) (fun hc => ?_) (fun hc => ?_)
      · rw [if_neg hc] at hf
        refine V.blk hC [(.aload_n 0, 1)] 23 [some (.ref 130), some (.int a1), some (.int a2)] [] ⟨d_Y_next_23, trivial⟩ (show tv_run _ _ _ _ = some (24, [some (.ref 130), some (.int a1), some (.int a2)], [.ref 130]) from rfl) ?_
        refine V.getf hC tf_Y_20 (kd_in kd_130 (by decide)) (hp_at kd_130) rfl d_Y_next_24 ?_
        show V X 0 0 tm_n (hp q2.2) 27 [some (.ref 130), some (.int a1), some (.int a2)] [.ref 134]
        refine V.blk hC [(.bipush 7, 2), (.iload_n 1, 1), (.imul, 1), (.iload_n 2, 1), (.iadd, 1)] 27 [some (.ref 130), some (.int a1), some (.int a2)] [.ref 134] ⟨d_Y_next_27, d_Y_next_29, d_Y_next_30, d_Y_next_31, d_Y_next_32, trivial⟩ (show tv_run _ _ _ _ = some (33, [some (.ref 130), some (.int a1), some (.int a2)], [.int (((7 : Int32) * a1) + a2), .ref 134]) from rfl) ?_
        obtain ⟨hb3, hf⟩ := tm_if hf
        refine V.iald hC (kd_in kd_134 (by decide)) (hp_at kd_134) rfl hb3 d_Y_next_33 ?_
        show V X 0 0 tm_n (hp q2.2) 34 [some (.ref 130), some (.int a1), some (.int a2)] [.int (q2.2.1 134 (((7 : Int32) * a1) + a2).toNatClampNeg)]
        refine V.blk hC [(.iconst 1, 1), (.iadd, 1)] 34 [some (.ref 130), some (.int a1), some (.int a2)] [.int (q2.2.1 134 (((7 : Int32) * a1) + a2).toNatClampNeg)] ⟨d_Y_next_34, d_Y_next_35, trivial⟩ (show tv_run _ _ _ _ = some (36, [some (.ref 130), some (.int a1), some (.int a2)], [.int ((q2.2.1 134 (((7 : Int32) * a1) + a2).toNatClampNeg) + (1 : Int32))]) from rfl) ?_
        obtain rfl := Option.some.inj hf
        exact V.iret hC hr hE d_Y_next_36 ⟨rfl, rfl, rfl⟩
      · rw [if_pos hc] at hf
        exact V.less (tv_le_some (tv_le_none (tv_le_none tv_le_nil))) (c_Y_next_L19 hC hr hE q2.2   hf)
set_option maxHeartbeats 4000000 in
set_option maxRecDepth 100000 in
theorem c_Y_known_L33 {X : tv_X} {r : Int32 × tm_S} (hC : tv_K X tb_Y_known 3 "TrickleMeshModel" tm_wg tm_ns tm_cl tm_ty { frames := 1, cells := 0, slots := 0, locals := 20 }) (hr : tv_ret X (some .int)) (hE : tv_end X (tm_P (some (.int r.1)) r.2) 0 0) (σ : tm_S)   (hf : f_Y_known_L33 σ  = some r) : V X 0 0 tm_n (hp σ) 33 [some (.ref 130), none, none] [] := by
  unfold f_Y_known_L33 at hf
  refine V.blk hC [(.iconst 0, 1)] 33 [some (.ref 130), none, none] [] ⟨d_Y_known_33, trivial⟩ (show tv_run _ _ _ _ = some (34, [some (.ref 130), none, none], [.int (0 : Int32)]) from rfl) ?_
  refine V.goto hC d_Y_known_34 (tgt := 48) (by decide) ?_
  obtain rfl := Option.some.inj hf
  exact V.iret hC hr hE d_Y_known_48 ⟨rfl, rfl, rfl⟩
set_option maxHeartbeats 4000000 in
set_option maxRecDepth 100000 in
theorem c_Y_known (σ : tm_S) (a1 : Int32) (a2 : Int32)  {r : Int32 × tm_S} (hf : f_Y_known σ a1 a2 = some r) : tv_Met ty_Y_known (Cond.code ty_Y_known tb_Y_known 3 (some .int) :: tm_wg) tm_ns tm_cl tm_ty 1 20 0 0 [.ref 130, .int a1, .int a2] tm_n (hp σ) (tm_P (some (.int r.1)) r.2) := by
  refine tv_Met.of (by decide) rfl (tm_le rfl) ?_
  intro X hC hnm hr hE
  have hC : tv_K X tb_Y_known 3 "TrickleMeshModel" tm_wg tm_ns tm_cl tm_ty { frames := 1, cells := 0, slots := 0, locals := 20 } := hC
  show V X 0 0 tm_n (hp σ) 0 [some (.ref 130), some (.int a1), some (.int a2)] []
  unfold f_Y_known at hf
  refine V.blk hC [(.iload_n 1, 1)] 0 [some (.ref 130), some (.int a1), some (.int a2)] [] ⟨d_Y_known_0, trivial⟩ (show tv_run _ _ _ _ = some (1, [some (.ref 130), some (.int a1), some (.int a2)], [.int a1]) from rfl) ?_
  obtain ⟨q1, hq1, hf⟩ := tm_bd hf
  refine V.callS hC tm_nest rfl (c_Y_isNode σ a1  hq1) (tm_gd tc_Y_isNode) tg_Y_244 th_Y_isNode ⟨tm_le rfl, tm_le rfl, tm_le rfl, tm_le rfl⟩ (As := [.int a1]) (st := []) rfl (tm_le rfl) d_Y_known_1 ?_
  rintro v n2 h2 ⟨rfl, rfl, rfl⟩
  show V X 0 0 tm_n (hp q1.2) 4 [some (.ref 130), some (.int a1), some (.int a2)] [.int q1.1]
  refine V.if_eq hC d_Y_known_4 (tgt := 33) (by decide) (fun hc => ?_) (fun hc => ?_)
  · rw [if_pos hc] at hf
    exact V.less (tv_le_some (tv_le_none (tv_le_none tv_le_nil))) (c_Y_known_L33 hC hr hE q1.2   hf)
  · rw [if_neg hc] at hf
    refine V.blk hC [(.iload_n 2, 1)] 7 [some (.ref 130), some (.int a1), some (.int a2)] [] ⟨d_Y_known_7, trivial⟩ (show tv_run _ _ _ _ = some (8, [some (.ref 130), some (.int a1), some (.int a2)], [.int a2]) from rfl) ?_
    obtain ⟨q2, hq2, hf⟩ := tm_bd hf
    refine V.callS hC tm_nest rfl (c_Y_isNode q1.2 a2  hq2) (tm_gd tc_Y_isNode) tg_Y_244 th_Y_isNode ⟨tm_le rfl, tm_le rfl, tm_le rfl, tm_le rfl⟩ (As := [.int a2]) (st := []) rfl (tm_le rfl) d_Y_known_8 ?_
    rintro v n2 h2 ⟨rfl, rfl, rfl⟩
    show V X 0 0 tm_n (hp q2.2) 11 [some (.ref 130), some (.int a1), some (.int a2)] [.int q2.1]
    refine V.if_eq hC d_Y_known_11 (tgt := 33) (by decide) (fun hc => ?_) (fun hc => ?_)
    · rw [if_pos hc] at hf
      exact V.less (tv_le_some (tv_le_none (tv_le_none tv_le_nil))) (c_Y_known_L33 hC hr hE q2.2   hf)
    · rw [if_neg hc] at hf
      refine V.blk hC [(.iload_n 1, 1), (.iload_n 2, 1)] 14 [some (.ref 130), some (.int a1), some (.int a2)] [] ⟨d_Y_known_14, d_Y_known_15, trivial⟩ (show tv_run _ _ _ _ = some (16, [some (.ref 130), some (.int a1), some (.int a2)], [.int a2, .int a1]) from rfl) ?_
      refine V.icmp_eq hC d_Y_known_16 (tgt := 33) (by decide) (fun hc => ?_) (fun hc => ?_)
      · rw [if_pos hc] at hf
        exact V.less (tv_le_some (tv_le_none (tv_le_none tv_le_nil))) (c_Y_known_L33 hC hr hE q2.2   hf)
      · rw [if_neg hc] at hf
        refine V.blk hC [(.aload_n 0, 1)] 19 [some (.ref 130), some (.int a1), some (.int a2)] [] ⟨d_Y_known_19, trivial⟩ (show tv_run _ _ _ _ = some (20, [some (.ref 130), some (.int a1), some (.int a2)], [.ref 130]) from rfl) ?_
        refine V.getf hC tf_Y_16 (kd_in kd_130 (by decide)) (hp_at kd_130) rfl d_Y_known_20 ?_
        show V X 0 0 tm_n (hp q2.2) 23 [some (.ref 130), some (.int a1), some (.int a2)] [.ref 133]
        refine V.blk hC [(.bipush 7, 2), (.iload_n 1, 1), (.imul, 1), (.iload_n 2, 1), (.iadd, 1)] 23 [some (.ref 130), some (.int a1), some (.int a2)] [.ref 133] ⟨d_Y_known_23, d_Y_known_25, d_Y_known_26, d_Y_known_27, d_Y_known_28, trivial⟩ (show tv_run _ _ _ _ = some (29, [some (.ref 130), some (.int a1), some (.int a2)], [.int (((7 : Int32) * a1) + a2), .ref 133]) from rfl) ?_
        obtain ⟨hb3, hf⟩ := tm_if hf
        refine V.zald hC (kd_in kd_133 (by decide)) (hp_at kd_133) rfl hb3 d_Y_known_29 ?_
        show V X 0 0 tm_n (hp q2.2) 30 [some (.ref 130), some (.int a1), some (.int a2)] [.int (q2.2.1 133 (((7 : Int32) * a1) + a2).toNatClampNeg)]
        refine V.if_ne hC d_Y_known_30 (tgt := 37) (by decide) (fun hc => ?_) (fun hc => ?_)
        · rw [if_neg hc] at hf
          refine V.blk hC [(.aload_n 0, 1)] 37 [some (.ref 130), some (.int a1), some (.int a2)] [] ⟨d_Y_known_37, trivial⟩ (show tv_run _ _ _ _ = some (38, [some (.ref 130), some (.int a1), some (.int a2)], [.ref 130]) from rfl) ?_
          refine V.getf hC tf_Y_13 (kd_in kd_130 (by decide)) (hp_at kd_130) rfl d_Y_known_38 ?_
          show V X 0 0 tm_n (hp q2.2) 41 [some (.ref 130), some (.int a1), some (.int a2)] [.ref 132]
          refine V.blk hC [(.bipush 7, 2), (.iload_n 1, 1), (.imul, 1), (.iload_n 2, 1), (.iadd, 1)] 41 [some (.ref 130), some (.int a1), some (.int a2)] [.ref 132] ⟨d_Y_known_41, d_Y_known_43, d_Y_known_44, d_Y_known_45, d_Y_known_46, trivial⟩ (show tv_run _ _ _ _ = some (47, [some (.ref 130), some (.int a1), some (.int a2)], [.int (((7 : Int32) * a1) + a2), .ref 132]) from rfl) ?_
          obtain ⟨hb4, hf⟩ := tm_if hf
          refine V.iald hC (kd_in kd_132 (by decide)) (hp_at kd_132) rfl hb4 d_Y_known_47 ?_
          show V X 0 0 tm_n (hp q2.2) 48 [some (.ref 130), some (.int a1), some (.int a2)] [.int (q2.2.1 132 (((7 : Int32) * a1) + a2).toNatClampNeg)]
          obtain rfl := Option.some.inj hf
          exact V.iret hC hr hE d_Y_known_48 ⟨rfl, rfl, rfl⟩
        · rw [if_pos hc] at hf
          exact V.less (tv_le_some (tv_le_none (tv_le_none tv_le_nil))) (c_Y_known_L33 hC hr hE q2.2   hf)
set_option maxHeartbeats 4000000 in
set_option maxRecDepth 100000 in
theorem c_Y_delivered_L18 {X : tv_X} {r : Int32 × tm_S} (hC : tv_K X tb_Y_delivered 3 "TrickleMeshModel" tm_wg tm_ns tm_cl tm_ty { frames := 1, cells := 0, slots := 0, locals := 20 }) (hr : tv_ret X (some .int)) (hE : tv_end X (tm_P (some (.int r.1)) r.2) 0 0) (σ : tm_S)   (hf : f_Y_delivered_L18 σ  = some r) : V X 0 0 tm_n (hp σ) 18 [some (.ref 130), none, none] [] := by
  unfold f_Y_delivered_L18 at hf
  refine V.blk hC [(.iconst 0, 1)] 18 [some (.ref 130), none, none] [] ⟨d_Y_delivered_18, trivial⟩ (show tv_run _ _ _ _ = some (19, [some (.ref 130), none, none], [.int (0 : Int32)]) from rfl) ?_
  obtain rfl := Option.some.inj hf
  exact V.iret hC hr hE d_Y_delivered_19 ⟨rfl, rfl, rfl⟩
set_option maxHeartbeats 4000000 in
set_option maxRecDepth 100000 in
theorem c_Y_delivered (σ : tm_S) (a1 : Int32) (a2 : Int32)  {r : Int32 × tm_S} (hf : f_Y_delivered σ a1 a2 = some r) : tv_Met ty_Y_delivered (Cond.code ty_Y_delivered tb_Y_delivered 3 (some .int) :: tm_wg) tm_ns tm_cl tm_ty 1 20 0 0 [.ref 130, .int a1, .int a2] tm_n (hp σ) (tm_P (some (.int r.1)) r.2) := by
  refine tv_Met.of (by decide) rfl (tm_le rfl) ?_
  intro X hC hnm hr hE
  have hC : tv_K X tb_Y_delivered 3 "TrickleMeshModel" tm_wg tm_ns tm_cl tm_ty { frames := 1, cells := 0, slots := 0, locals := 20 } := hC
  show V X 0 0 tm_n (hp σ) 0 [some (.ref 130), some (.int a1), some (.int a2)] []
  unfold f_Y_delivered at hf
  refine V.blk hC [(.iload_n 1, 1)] 0 [some (.ref 130), some (.int a1), some (.int a2)] [] ⟨d_Y_delivered_0, trivial⟩ (show tv_run _ _ _ _ = some (1, [some (.ref 130), some (.int a1), some (.int a2)], [.int a1]) from rfl) ?_
  obtain ⟨q1, hq1, hf⟩ := tm_bd hf
  refine V.callS hC tm_nest rfl (c_Y_isNode σ a1  hq1) (tm_gd tc_Y_isNode) tg_Y_244 th_Y_isNode ⟨tm_le rfl, tm_le rfl, tm_le rfl, tm_le rfl⟩ (As := [.int a1]) (st := []) rfl (tm_le rfl) d_Y_delivered_1 ?_
  rintro v n2 h2 ⟨rfl, rfl, rfl⟩
  show V X 0 0 tm_n (hp q1.2) 4 [some (.ref 130), some (.int a1), some (.int a2)] [.int q1.1]
  refine V.if_eq hC d_Y_delivered_4 (tgt := 18) (by decide) (fun hc => ?_) (fun hc => ?_)
  · rw [if_pos hc] at hf
    exact V.less (tv_le_some (tv_le_none (tv_le_none tv_le_nil))) (c_Y_delivered_L18 hC hr hE q1.2   hf)
  · rw [if_neg hc] at hf
    refine V.blk hC [(.iload_n 2, 1), (.iconst (-1), 1)] 7 [some (.ref 130), some (.int a1), some (.int a2)] [] ⟨d_Y_delivered_7, d_Y_delivered_8, trivial⟩ (show tv_run _ _ _ _ = some (9, [some (.ref 130), some (.int a1), some (.int a2)], [.int (-1 : Int32), .int a2]) from rfl) ?_
    refine V.icmp_lt hC d_Y_delivered_9 (tgt := 18) (by decide) (fun hc => ?_) (fun hc => ?_)
    · rw [if_pos hc] at hf
      exact V.less (tv_le_some (tv_le_none (tv_le_none tv_le_nil))) (c_Y_delivered_L18 hC hr hE q1.2   hf)
    · rw [if_neg hc] at hf
      refine V.blk hC [(.iload_n 2, 1), (.bipush 7, 2)] 12 [some (.ref 130), some (.int a1), some (.int a2)] [] ⟨d_Y_delivered_12, d_Y_delivered_13, trivial⟩ (show tv_run _ _ _ _ = some (15, [some (.ref 130), some (.int a1), some (.int a2)], [.int (7 : Int32), .int a2]) from rfl) ?_
      refine V.icmp_le hC d_Y_delivered_15 (tgt := 20) (by decide) (fun hc => ?_) (fun hc => ?_)
      · rw [if_pos hc] at hf
        refine V.blk hC [(.iload_n 2, 1), (.iconst (-1), 1)] 20 [some (.ref 130), some (.int a1), some (.int a2)] [] ⟨d_Y_delivered_20, d_Y_delivered_21, trivial⟩ (show tv_run _ _ _ _ = some (22, [some (.ref 130), some (.int a1), some (.int a2)], [.int (-1 : Int32), .int a2]) from rfl) ?_
        refine V.icmp_ne hC d_Y_delivered_22 (tgt := 32) (by decide) (fun hc => ?_) (fun hc => ?_)
        · rw [if_neg hc] at hf
          refine V.blk hC [(.iload_n 2, 1), (.aload_n 0, 1)] 32 [some (.ref 130), some (.int a1), some (.int a2)] [] ⟨d_Y_delivered_32, d_Y_delivered_33, trivial⟩ (show tv_run _ _ _ _ = some (34, [some (.ref 130), some (.int a1), some (.int a2)], [.ref 130, .int a2]) from rfl) ?_
          refine V.getf hC tf_Y_134 (kd_in kd_130 (by decide)) (hp_at kd_130) rfl d_Y_delivered_34 ?_
          show V X 0 0 tm_n (hp q1.2) 37 [some (.ref 130), some (.int a1), some (.int a2)] [.ref 172, .int a2]
          refine V.blk hC [(.iload_n 1, 1)] 37 [some (.ref 130), some (.int a1), some (.int a2)] [.ref 172, .int a2] ⟨d_Y_delivered_37, trivial⟩ (show tv_run _ _ _ _ = some (38, [some (.ref 130), some (.int a1), some (.int a2)], [.int a1, .ref 172, .int a2]) from rfl) ?_
          obtain ⟨hb2, hf⟩ := tm_if hf
          refine V.iald hC (kd_in kd_172 (by decide)) (hp_at kd_172) rfl hb2 d_Y_delivered_38 ?_
          show V X 0 0 tm_n (hp q1.2) 39 [some (.ref 130), some (.int a1), some (.int a2)] [.int (q1.2.1 172 a1.toNatClampNeg), .int a2]
          refine V.icmp_ge hC d_Y_delivered_39 (tgt := 56) (by decide) (fun hc => ?_) (fun hc => ?_)
          · rw [if_pos hc] at hf
            refine V.blk hC [(.iconst 0, 1)] 56 [some (.ref 130), some (.int a1), some (.int a2)] [] ⟨d_Y_delivered_56, trivial⟩ (show tv_run _ _ _ _ = some (57, [some (.ref 130), some (.int a1), some (.int a2)], [.int (0 : Int32)]) from rfl) ?_
            obtain rfl := Option.some.inj hf
            exact V.iret hC hr hE d_Y_delivered_57 ⟨rfl, rfl, rfl⟩
          · rw [if_neg hc] at hf
            refine V.blk hC [(.aload_n 0, 1)] 42 [some (.ref 130), some (.int a1), some (.int a2)] [] ⟨d_Y_delivered_42, trivial⟩ (show tv_run _ _ _ _ = some (43, [some (.ref 130), some (.int a1), some (.int a2)], [.ref 130]) from rfl) ?_
            refine V.getf hC tf_Y_137 (kd_in kd_130 (by decide)) (hp_at kd_130) rfl d_Y_delivered_43 ?_
            show V X 0 0 tm_n (hp q1.2) 46 [some (.ref 130), some (.int a1), some (.int a2)] [.ref 173]
            refine V.blk hC [(.bipush 8, 2), (.iload_n 1, 1), (.imul, 1), (.iload_n 2, 1), (.iadd, 1)] 46 [some (.ref 130), some (.int a1), some (.int a2)] [.ref 173] ⟨d_Y_delivered_46, d_Y_delivered_48, d_Y_delivered_49, d_Y_delivered_50, d_Y_delivered_51, trivial⟩ (show tv_run _ _ _ _ = some (52, [some (.ref 130), some (.int a1), some (.int a2)], [.int (((8 : Int32) * a1) + a2), .ref 173]) from rfl) ?_
            obtain ⟨hb3, hf⟩ := tm_if hf
            refine V.iald hC (kd_in kd_173 (by decide)) (hp_at kd_173) rfl hb3 d_Y_delivered_52 ?_
            show V X 0 0 tm_n (hp q1.2) 53 [some (.ref 130), some (.int a1), some (.int a2)] [.int (q1.2.1 173 (((8 : Int32) * a1) + a2).toNatClampNeg)]
            refine V.goto hC d_Y_delivered_53 (tgt := 57) (by decide) ?_
            obtain rfl := Option.some.inj hf
            exact V.iret hC hr hE d_Y_delivered_57 ⟨rfl, rfl, rfl⟩
        · rw [if_pos hc] at hf
          refine V.blk hC [(.aload_n 0, 1)] 25 [some (.ref 130), some (.int a1), some (.int a2)] [] ⟨d_Y_delivered_25, trivial⟩ (show tv_run _ _ _ _ = some (26, [some (.ref 130), some (.int a1), some (.int a2)], [.ref 130]) from rfl) ?_
          refine V.getf hC tf_Y_134 (kd_in kd_130 (by decide)) (hp_at kd_130) rfl d_Y_delivered_26 ?_
          show V X 0 0 tm_n (hp q1.2) 29 [some (.ref 130), some (.int a1), some (.int a2)] [.ref 172]
          refine V.blk hC [(.iload_n 1, 1)] 29 [some (.ref 130), some (.int a1), some (.int a2)] [.ref 172] ⟨d_Y_delivered_29, trivial⟩ (show tv_run _ _ _ _ = some (30, [some (.ref 130), some (.int a1), some (.int a2)], [.int a1, .ref 172]) from rfl) ?_
          obtain ⟨hb4, hf⟩ := tm_if hf
          refine V.iald hC (kd_in kd_172 (by decide)) (hp_at kd_172) rfl hb4 d_Y_delivered_30 ?_
          show V X 0 0 tm_n (hp q1.2) 31 [some (.ref 130), some (.int a1), some (.int a2)] [.int (q1.2.1 172 a1.toNatClampNeg)]
          obtain rfl := Option.some.inj hf
          exact V.iret hC hr hE d_Y_delivered_31 ⟨rfl, rfl, rfl⟩
      · rw [if_neg hc] at hf
        exact V.less (tv_le_some (tv_le_none (tv_le_none tv_le_nil))) (c_Y_delivered_L18 hC hr hE q1.2   hf)
set_option maxHeartbeats 4000000 in
set_option maxRecDepth 100000 in
theorem c_Y_count (σ : tm_S) (a1 : Int32)  {r : Int32 × tm_S} (hf : f_Y_count σ a1 = some r) : tv_Met ty_Y_count (Cond.code ty_Y_count tb_Y_count 2 (some .int) :: tm_wg) tm_ns tm_cl tm_ty 0 0 0 0 [.ref 130, .int a1] tm_n (hp σ) (tm_P (some (.int r.1)) r.2) := by
  refine tv_Met.of (by decide) rfl (tm_le rfl) ?_
  intro X hC hnm hr hE
  have hC : tv_K X tb_Y_count 2 "TrickleMeshModel" tm_wg tm_ns tm_cl tm_ty { frames := 0, cells := 0, slots := 0, locals := 0 } := hC
  show V X 0 0 tm_n (hp σ) 0 [some (.ref 130), some (.int a1)] []
  unfold f_Y_count at hf
  refine V.blk hC [(.iload_n 1, 1)] 0 [some (.ref 130), some (.int a1)] [] ⟨d_Y_count_0, trivial⟩ (show tv_run _ _ _ _ = some (1, [some (.ref 130), some (.int a1)], [.int a1]) from rfl) ?_
  refine V.if_ne hC d_Y_count_1 (tgt := 11) (by decide) (fun hc => ?_) (fun hc => ?_)
  · rw [if_neg hc] at hf
    refine V.blk hC [(.iload_n 1, 1), (.iconst 1, 1)] 11 [some (.ref 130), some (.int a1)] [] ⟨d_Y_count_11, d_Y_count_12, trivial⟩ (show tv_run _ _ _ _ = some (13, [some (.ref 130), some (.int a1)], [.int (1 : Int32), .int a1]) from rfl) ?_
    refine V.icmp_ne hC d_Y_count_13 (tgt := 23) (by decide) (fun hc => ?_) (fun hc => ?_)
    · rw [if_neg hc] at hf
      refine V.blk hC [(.iload_n 1, 1), (.iconst 2, 1)] 23 [some (.ref 130), some (.int a1)] [] ⟨d_Y_count_23, d_Y_count_24, trivial⟩ (show tv_run _ _ _ _ = some (25, [some (.ref 130), some (.int a1)], [.int (2 : Int32), .int a1]) from rfl) ?_
      refine V.icmp_ne hC d_Y_count_25 (tgt := 35) (by decide) (fun hc => ?_) (fun hc => ?_)
      · rw [if_neg hc] at hf
        refine V.blk hC [(.iconst 0, 1)] 35 [some (.ref 130), some (.int a1)] [] ⟨d_Y_count_35, trivial⟩ (show tv_run _ _ _ _ = some (36, [some (.ref 130), some (.int a1)], [.int (0 : Int32)]) from rfl) ?_
        obtain rfl := Option.some.inj hf
        exact V.iret hC hr hE d_Y_count_36 ⟨rfl, rfl, rfl⟩
      · rw [if_pos hc] at hf
        refine V.blk hC [(.aload_n 0, 1)] 28 [some (.ref 130), some (.int a1)] [] ⟨d_Y_count_28, trivial⟩ (show tv_run _ _ _ _ = some (29, [some (.ref 130), some (.int a1)], [.ref 130]) from rfl) ?_
        refine V.getf hC tf_Y_210 (kd_in kd_130 (by decide)) (hp_at kd_130) rfl d_Y_count_29 ?_
        show V X 0 0 tm_n (hp σ) 32 [some (.ref 130), some (.int a1)] [.int (σ.1 130 49)]
        refine V.goto hC d_Y_count_32 (tgt := 36) (by decide) ?_
        obtain rfl := Option.some.inj hf
        exact V.iret hC hr hE d_Y_count_36 ⟨rfl, rfl, rfl⟩
    · rw [if_pos hc] at hf
      refine V.blk hC [(.aload_n 0, 1)] 16 [some (.ref 130), some (.int a1)] [] ⟨d_Y_count_16, trivial⟩ (show tv_run _ _ _ _ = some (17, [some (.ref 130), some (.int a1)], [.ref 130]) from rfl) ?_
      refine V.getf hC tf_Y_197 (kd_in kd_130 (by decide)) (hp_at kd_130) rfl d_Y_count_17 ?_
      show V X 0 0 tm_n (hp σ) 20 [some (.ref 130), some (.int a1)] [.int (σ.1 130 48)]
      refine V.goto hC d_Y_count_20 (tgt := 36) (by decide) ?_
      obtain rfl := Option.some.inj hf
      exact V.iret hC hr hE d_Y_count_36 ⟨rfl, rfl, rfl⟩
  · rw [if_pos hc] at hf
    refine V.blk hC [(.aload_n 0, 1)] 4 [some (.ref 130), some (.int a1)] [] ⟨d_Y_count_4, trivial⟩ (show tv_run _ _ _ _ = some (5, [some (.ref 130), some (.int a1)], [.ref 130]) from rfl) ?_
    refine V.getf hC tf_Y_162 (kd_in kd_130 (by decide)) (hp_at kd_130) rfl d_Y_count_5 ?_
    show V X 0 0 tm_n (hp σ) 8 [some (.ref 130), some (.int a1)] [.int (σ.1 130 47)]
    refine V.goto hC d_Y_count_8 (tgt := 36) (by decide) ?_
    obtain rfl := Option.some.inj hf
    exact V.iret hC hr hE d_Y_count_36 ⟨rfl, rfl, rfl⟩
