set_option maxHeartbeats 4000000 in
set_option maxRecDepth 100000 in
theorem c_L_law_L426 {X : tv_X} {r : Int32 × tm_S} (hC : tv_K X code 4 "TrickleMeshLaw" tm_wg tm_ns tm_cl tm_ty room_1) (hE : tv_law X) (h1 : r.1 = 1) {rc : tm_S → Int32 → Option (Int32 × tm_S)} (hrc : ∀ (σ : tm_S) (l3 : Int32), rc σ l3 = some r → V X tm_lc tm_ls tm_n (hp σ) 48 [some (.ref 0), some (.ref 1), some (.ref 130), some (.int l3)] []) (σ : tm_S) (l3 : Int32)  (hf : f_L_law_L426 rc σ l3 = some r) : V X tm_lc tm_ls tm_n (hp σ) 426 [some (.ref 0), some (.ref 1), some (.ref 130), some (.int l3)] [] := by
  unfold f_L_law_L426 at hf
  refine V.blk hC [(.iinc 3 5, 3)] 426 [some (.ref 0), some (.ref 1), some (.ref 130), some (.int l3)] [] ⟨d_L_law_426, trivial⟩ (show tv_run _ _ _ _ = some (429, [some (.ref 0), some (.ref 1), some (.ref 130), some (.int (l3 + (5 : Int32)))], []) from rfl) ?_
  refine V.goto hC d_L_law_429 (tgt := 48) (by decide) ?_
  exact V.less (tv_le_some (tv_le_some (tv_le_some (tv_le_some tv_le_nil)))) (hrc σ (l3 + (5 : Int32))  hf)
set_option maxHeartbeats 4000000 in
set_option maxRecDepth 100000 in
theorem c_L_law_L48 {X : tv_X} {r : Int32 × tm_S} (hC : tv_K X code 4 "TrickleMeshLaw" tm_wg tm_ns tm_cl tm_ty room_1) (hE : tv_law X) (h1 : r.1 = 1) : ∀ (k : Nat) (σ : tm_S) (l3 : Int32), f_L_law_L48 k σ l3 = some r → V X tm_lc tm_ls tm_n (hp σ) 48 [some (.ref 0), some (.ref 1), some (.ref 130), some (.int l3)] [] := by
  intro k
  induction k with
  | zero => intro σ l3  hf; simp only [f_L_law_L48] at hf; cases hf
  | succ k hrc =>
    intro σ l3  hf
    rw [f_L_law_L48] at hf
    refine V.blk hC [(.iload_n 3, 1), (.aload_n 0, 1)] 48 [some (.ref 0), some (.ref 1), some (.ref 130), some (.int l3)] [] ⟨d_L_law_48, d_L_law_49, trivial⟩ (show tv_run _ _ _ _ = some (50, [some (.ref 0), some (.ref 1), some (.ref 130), some (.int l3)], [.ref 0, .int l3]) from rfl) ?_
    refine V.slen hC (hp_at kd_0) d_L_law_50 ?_
    show V X tm_lc tm_ls tm_n (hp σ) 51 [some (.ref 0), some (.ref 1), some (.ref 130), some (.int l3)] [.int (Int32.ofNat (σ.2 0 0)), .int l3]
    refine V.blk hC [(.iconst 5, 1), (.isub, 1)] 51 [some (.ref 0), some (.ref 1), some (.ref 130), some (.int l3)] [.int (Int32.ofNat (σ.2 0 0)), .int l3] ⟨d_L_law_51, d_L_law_52, trivial⟩ (show tv_run _ _ _ _ = some (53, [some (.ref 0), some (.ref 1), some (.ref 130), some (.int l3)], [.int ((Int32.ofNat (σ.2 0 0)) - (5 : Int32)), .int l3]) from rfl) ?_
    refine V.icmp_gt hC d_L_law_53 (tgt := 432) (by decide) (fun hc => ?_) (fun hc => ?_)
    · rw [if_pos hc] at hf
      refine V.blk hC [(.iconst 1, 1)] 432 [some (.ref 0), some (.ref 1), some (.ref 130), some (.int l3)] [] ⟨d_L_law_432, trivial⟩ (show tv_run _ _ _ _ = some (433, [some (.ref 0), some (.ref 1), some (.ref 130), some (.int l3)], [.int (1 : Int32)]) from rfl) ?_
      obtain rfl := Option.some.inj hf
      exact V.lret hC hE d_L_law_433 h1
    · rw [if_neg hc] at hf
      refine V.blk hC [(.aload_n 0, 1), (.iload_n 3, 1)] 56 [some (.ref 0), some (.ref 1), some (.ref 130), some (.int l3)] [] ⟨d_L_law_56, d_L_law_57, trivial⟩ (show tv_run _ _ _ _ = some (58, [some (.ref 0), some (.ref 1), some (.ref 130), some (.int l3)], [.int l3, .ref 0]) from rfl) ?_
      obtain ⟨hb1, hf⟩ := tm_if hf
      refine V.sld hC (hp_at kd_0) hb1 d_L_law_58 ?_
      show V X tm_lc tm_ls tm_n (hp σ) 59 [some (.ref 0), some (.ref 1), some (.ref 130), some (.int l3)] [.int (σ.1 0 l3.toNatClampNeg)]
      refine V.blk hC [(.bipush 15, 2), (.iand, 1)] 59 [some (.ref 0), some (.ref 1), some (.ref 130), some (.int l3)] [.int (σ.1 0 l3.toNatClampNeg)] ⟨d_L_law_59, d_L_law_61, trivial⟩ (show tv_run _ _ _ _ = some (62, [some (.ref 0), some (.ref 1), some (.ref 130), some (.int l3)], [.int ((σ.1 0 l3.toNatClampNeg) &&& (15 : Int32))]) from rfl) ?_
      by_cases hw0 : ((σ.1 0 l3.toNatClampNeg) &&& (15 : Int32)) = (0 : Int32)
      · rw [if_pos hw0] at hf
        refine V.tableIn hC d_L_law_62 (tgt := 116) (by rw [hw0]; decide) (by rw [hw0]; decide) (by rw [hw0]; rfl) (by decide) ?_
        refine V.blk hC [(.aload_n 1, 1), (.aload_n 0, 1), (.iload_n 3, 1), (.iconst 1, 1), (.iadd, 1)] 116 [some (.ref 0), some (.ref 1), some (.ref 130), some (.int l3)] [] ⟨d_L_law_116, d_L_law_117, d_L_law_118, d_L_law_119, d_L_law_120, trivial⟩ (show tv_run _ _ _ _ = some (121, [some (.ref 0), some (.ref 1), some (.ref 130), some (.int l3)], [.int (l3 + (1 : Int32)), .ref 0, .ref 1]) from rfl) ?_
        obtain ⟨hb2, hf⟩ := tm_if hf
        refine V.sld hC (hp_at kd_0) hb2 d_L_law_121 ?_
        show V X tm_lc tm_ls tm_n (hp σ) 122 [some (.ref 0), some (.ref 1), some (.ref 130), some (.int l3)] [.int (σ.1 0 (l3 + (1 : Int32)).toNatClampNeg), .ref 1]
        refine V.blk hC [(.aload_n 0, 1), (.iload_n 3, 1), (.iconst 2, 1), (.iadd, 1)] 122 [some (.ref 0), some (.ref 1), some (.ref 130), some (.int l3)] [.int (σ.1 0 (l3 + (1 : Int32)).toNatClampNeg), .ref 1] ⟨d_L_law_122, d_L_law_123, d_L_law_124, d_L_law_125, trivial⟩ (show tv_run _ _ _ _ = some (126, [some (.ref 0), some (.ref 1), some (.ref 130), some (.int l3)], [.int (l3 + (2 : Int32)), .ref 0, .int (σ.1 0 (l3 + (1 : Int32)).toNatClampNeg), .ref 1]) from rfl) ?_
        obtain ⟨hb3, hf⟩ := tm_if hf
        refine V.sld hC (hp_at kd_0) hb3 d_L_law_126 ?_
        show V X tm_lc tm_ls tm_n (hp σ) 127 [some (.ref 0), some (.ref 1), some (.ref 130), some (.int l3)] [.int (σ.1 0 (l3 + (2 : Int32)).toNatClampNeg), .int (σ.1 0 (l3 + (1 : Int32)).toNatClampNeg), .ref 1]
        refine V.blk hC [(.aload_n 0, 1), (.iload_n 3, 1), (.iconst 3, 1), (.iadd, 1)] 127 [some (.ref 0), some (.ref 1), some (.ref 130), some (.int l3)] [.int (σ.1 0 (l3 + (2 : Int32)).toNatClampNeg), .int (σ.1 0 (l3 + (1 : Int32)).toNatClampNeg), .ref 1] ⟨d_L_law_127, d_L_law_128, d_L_law_129, d_L_law_130, trivial⟩ (show tv_run _ _ _ _ = some (131, [some (.ref 0), some (.ref 1), some (.ref 130), some (.int l3)], [.int (l3 + (3 : Int32)), .ref 0, .int (σ.1 0 (l3 + (2 : Int32)).toNatClampNeg), .int (σ.1 0 (l3 + (1 : Int32)).toNatClampNeg), .ref 1]) from rfl) ?_
        obtain ⟨hb4, hf⟩ := tm_if hf
        refine V.sld hC (hp_at kd_0) hb4 d_L_law_131 ?_
        show V X tm_lc tm_ls tm_n (hp σ) 132 [some (.ref 0), some (.ref 1), some (.ref 130), some (.int l3)] [.int (σ.1 0 (l3 + (3 : Int32)).toNatClampNeg), .int (σ.1 0 (l3 + (2 : Int32)).toNatClampNeg), .int (σ.1 0 (l3 + (1 : Int32)).toNatClampNeg), .ref 1]
        obtain ⟨q5, hq5, hf⟩ := tm_bd hf
        refine V.callV hC tm_nest rfl (c_X_link σ (σ.1 0 (l3 + (1 : Int32)).toNatClampNeg) (σ.1 0 (l3 + (2 : Int32)).toNatClampNeg) (σ.1 0 (l3 + (3 : Int32)).toNatClampNeg)  hq5) (tm_gd tc_X_link) tg_L_21 th_X_link ⟨tm_le rfl, tm_le rfl, tm_le rfl, tm_le rfl⟩ rfl (kd_in kd_1 (by decide)) (hp_at kd_1) (As := [.int (σ.1 0 (l3 + (1 : Int32)).toNatClampNeg), .int (σ.1 0 (l3 + (2 : Int32)).toNatClampNeg), .int (σ.1 0 (l3 + (3 : Int32)).toNatClampNeg)]) (st := []) rfl (tm_le rfl) d_L_law_132 ?_
        rintro v n2 h2 ⟨rfl, rfl, rfl⟩
        show V X tm_lc tm_ls tm_n (hp q5.2) 135 [some (.ref 0), some (.ref 1), some (.ref 130), some (.int l3)] [.int q5.1]
        refine V.blk hC [(.aload_n 2, 1), (.aload_n 0, 1), (.iload_n 3, 1), (.iconst 1, 1), (.iadd, 1)] 135 [some (.ref 0), some (.ref 1), some (.ref 130), some (.int l3)] [.int q5.1] ⟨d_L_law_135, d_L_law_136, d_L_law_137, d_L_law_138, d_L_law_139, trivial⟩ (show tv_run _ _ _ _ = some (140, [some (.ref 0), some (.ref 1), some (.ref 130), some (.int l3)], [.int (l3 + (1 : Int32)), .ref 0, .ref 130, .int q5.1]) from rfl) ?_
        obtain ⟨hb6, hf⟩ := tm_if hf
        refine V.sld hC (hp_at kd_0) hb6 d_L_law_140 ?_
        show V X tm_lc tm_ls tm_n (hp q5.2) 141 [some (.ref 0), some (.ref 1), some (.ref 130), some (.int l3)] [.int (q5.2.1 0 (l3 + (1 : Int32)).toNatClampNeg), .ref 130, .int q5.1]
        refine V.blk hC [(.aload_n 0, 1), (.iload_n 3, 1), (.iconst 2, 1), (.iadd, 1)] 141 [some (.ref 0), some (.ref 1), some (.ref 130), some (.int l3)] [.int (q5.2.1 0 (l3 + (1 : Int32)).toNatClampNeg), .ref 130, .int q5.1] ⟨d_L_law_141, d_L_law_142, d_L_law_143, d_L_law_144, trivial⟩ (show tv_run _ _ _ _ = some (145, [some (.ref 0), some (.ref 1), some (.ref 130), some (.int l3)], [.int (l3 + (2 : Int32)), .ref 0, .int (q5.2.1 0 (l3 + (1 : Int32)).toNatClampNeg), .ref 130, .int q5.1]) from rfl) ?_
        obtain ⟨hb7, hf⟩ := tm_if hf
        refine V.sld hC (hp_at kd_0) hb7 d_L_law_145 ?_
        show V X tm_lc tm_ls tm_n (hp q5.2) 146 [some (.ref 0), some (.ref 1), some (.ref 130), some (.int l3)] [.int (q5.2.1 0 (l3 + (2 : Int32)).toNatClampNeg), .int (q5.2.1 0 (l3 + (1 : Int32)).toNatClampNeg), .ref 130, .int q5.1]
        refine V.blk hC [(.aload_n 0, 1), (.iload_n 3, 1), (.iconst 3, 1), (.iadd, 1)] 146 [some (.ref 0), some (.ref 1), some (.ref 130), some (.int l3)] [.int (q5.2.1 0 (l3 + (2 : Int32)).toNatClampNeg), .int (q5.2.1 0 (l3 + (1 : Int32)).toNatClampNeg), .ref 130, .int q5.1] ⟨d_L_law_146, d_L_law_147, d_L_law_148, d_L_law_149, trivial⟩ (show tv_run _ _ _ _ = some (150, [some (.ref 0), some (.ref 1), some (.ref 130), some (.int l3)], [.int (l3 + (3 : Int32)), .ref 0, .int (q5.2.1 0 (l3 + (2 : Int32)).toNatClampNeg), .int (q5.2.1 0 (l3 + (1 : Int32)).toNatClampNeg), .ref 130, .int q5.1]) from rfl) ?_
        obtain ⟨hb8, hf⟩ := tm_if hf
        refine V.sld hC (hp_at kd_0) hb8 d_L_law_150 ?_
        show V X tm_lc tm_ls tm_n (hp q5.2) 151 [some (.ref 0), some (.ref 1), some (.ref 130), some (.int l3)] [.int (q5.2.1 0 (l3 + (3 : Int32)).toNatClampNeg), .int (q5.2.1 0 (l3 + (2 : Int32)).toNatClampNeg), .int (q5.2.1 0 (l3 + (1 : Int32)).toNatClampNeg), .ref 130, .int q5.1]
        obtain ⟨q9, hq9, hf⟩ := tm_bd hf
        refine V.callV hC tm_nest rfl (c_Y_link q5.2 (q5.2.1 0 (l3 + (1 : Int32)).toNatClampNeg) (q5.2.1 0 (l3 + (2 : Int32)).toNatClampNeg) (q5.2.1 0 (l3 + (3 : Int32)).toNatClampNeg)  hq9) (tm_gd tc_Y_link) tg_L_25 th_Y_link ⟨tm_le rfl, tm_le rfl, tm_le rfl, tm_le rfl⟩ rfl (kd_in kd_130 (by decide)) (hp_at kd_130) (As := [.int (q5.2.1 0 (l3 + (1 : Int32)).toNatClampNeg), .int (q5.2.1 0 (l3 + (2 : Int32)).toNatClampNeg), .int (q5.2.1 0 (l3 + (3 : Int32)).toNatClampNeg)]) (st := [.int q5.1]) rfl (tm_le rfl) d_L_law_151 ?_
        rintro v n2 h2 ⟨rfl, rfl, rfl⟩
        show V X tm_lc tm_ls tm_n (hp q9.2) 154 [some (.ref 0), some (.ref 1), some (.ref 130), some (.int l3)] [.int q9.1, .int q5.1]
        refine V.icmp_eq hC d_L_law_154 (tgt := 426) (by decide) (fun hc => ?_) (fun hc => ?_)
        · rw [if_pos hc] at hf
          exact V.less (tv_le_some (tv_le_some (tv_le_some (tv_le_some tv_le_nil)))) (c_L_law_L426 hC hE h1 hrc q9.2 l3  hf)
        · rw [if_neg hc] at hf
          refine V.blk hC [(.iconst 0, 1)] 157 [some (.ref 0), some (.ref 1), some (.ref 130), some (.int l3)] [] ⟨d_L_law_157, trivial⟩ (show tv_run _ _ _ _ = some (158, [some (.ref 0), some (.ref 1), some (.ref 130), some (.int l3)], [.int (0 : Int32)]) from rfl) ?_
          obtain rfl := Option.some.inj hf
          exact V.lret hC hE d_L_law_158 h1
      rw [if_neg hw0] at hf
      by_cases hw1 : ((σ.1 0 l3.toNatClampNeg) &&& (15 : Int32)) = (1 : Int32)
      · rw [if_pos hw1] at hf
        refine V.tableIn hC d_L_law_62 (tgt := 159) (by rw [hw1]; decide) (by rw [hw1]; decide) (by rw [hw1]; rfl) (by decide) ?_
        refine V.blk hC [(.aload_n 1, 1), (.aload_n 0, 1), (.iload_n 3, 1), (.iconst 1, 1), (.iadd, 1)] 159 [some (.ref 0), some (.ref 1), some (.ref 130), some (.int l3)] [] ⟨d_L_law_159, d_L_law_160, d_L_law_161, d_L_law_162, d_L_law_163, trivial⟩ (show tv_run _ _ _ _ = some (164, [some (.ref 0), some (.ref 1), some (.ref 130), some (.int l3)], [.int (l3 + (1 : Int32)), .ref 0, .ref 1]) from rfl) ?_
        obtain ⟨hb10, hf⟩ := tm_if hf
        refine V.sld hC (hp_at kd_0) hb10 d_L_law_164 ?_
        show V X tm_lc tm_ls tm_n (hp σ) 165 [some (.ref 0), some (.ref 1), some (.ref 130), some (.int l3)] [.int (σ.1 0 (l3 + (1 : Int32)).toNatClampNeg), .ref 1]
        obtain ⟨q11, hq11, hf⟩ := tm_bd hf
        refine V.callV hC tm_nest rfl (c_X_kill σ (σ.1 0 (l3 + (1 : Int32)).toNatClampNeg)  hq11) (tm_gd tc_X_kill) tg_L_26 th_X_kill ⟨tm_le rfl, tm_le rfl, tm_le rfl, tm_le rfl⟩ rfl (kd_in kd_1 (by decide)) (hp_at kd_1) (As := [.int (σ.1 0 (l3 + (1 : Int32)).toNatClampNeg)]) (st := []) rfl (tm_le rfl) d_L_law_165 ?_
        rintro v n2 h2 ⟨rfl, rfl, rfl⟩
        show V X tm_lc tm_ls tm_n (hp q11.2) 168 [some (.ref 0), some (.ref 1), some (.ref 130), some (.int l3)] [.int q11.1]
        refine V.blk hC [(.aload_n 2, 1), (.aload_n 0, 1), (.iload_n 3, 1), (.iconst 1, 1), (.iadd, 1)] 168 [some (.ref 0), some (.ref 1), some (.ref 130), some (.int l3)] [.int q11.1] ⟨d_L_law_168, d_L_law_169, d_L_law_170, d_L_law_171, d_L_law_172, trivial⟩ (show tv_run _ _ _ _ = some (173, [some (.ref 0), some (.ref 1), some (.ref 130), some (.int l3)], [.int (l3 + (1 : Int32)), .ref 0, .ref 130, .int q11.1]) from rfl) ?_
        obtain ⟨hb12, hf⟩ := tm_if hf
        refine V.sld hC (hp_at kd_0) hb12 d_L_law_173 ?_
        show V X tm_lc tm_ls tm_n (hp q11.2) 174 [some (.ref 0), some (.ref 1), some (.ref 130), some (.int l3)] [.int (q11.2.1 0 (l3 + (1 : Int32)).toNatClampNeg), .ref 130, .int q11.1]
        obtain ⟨q13, hq13, hf⟩ := tm_bd hf
        refine V.callV hC tm_nest rfl (c_Y_kill q11.2 (q11.2.1 0 (l3 + (1 : Int32)).toNatClampNeg)  hq13) (tm_gd tc_Y_kill) tg_L_30 th_Y_kill ⟨tm_le rfl, tm_le rfl, tm_le rfl, tm_le rfl⟩ rfl (kd_in kd_130 (by decide)) (hp_at kd_130) (As := [.int (q11.2.1 0 (l3 + (1 : Int32)).toNatClampNeg)]) (st := [.int q11.1]) rfl (tm_le rfl) d_L_law_174 ?_
        rintro v n2 h2 ⟨rfl, rfl, rfl⟩
        show V X tm_lc tm_ls tm_n (hp q13.2) 177 [some (.ref 0), some (.ref 1), some (.ref 130), some (.int l3)] [.int q13.1, .int q11.1]
        refine V.icmp_eq hC d_L_law_177 (tgt := 426) (by decide) (fun hc => ?_) (fun hc => ?_)
        · rw [if_pos hc] at hf
          exact V.less (tv_le_some (tv_le_some (tv_le_some (tv_le_some tv_le_nil)))) (c_L_law_L426 hC hE h1 hrc q13.2 l3  hf)
        · rw [if_neg hc] at hf
          refine V.blk hC [(.iconst 0, 1)] 180 [some (.ref 0), some (.ref 1), some (.ref 130), some (.int l3)] [] ⟨d_L_law_180, trivial⟩ (show tv_run _ _ _ _ = some (181, [some (.ref 0), some (.ref 1), some (.ref 130), some (.int l3)], [.int (0 : Int32)]) from rfl) ?_
          obtain rfl := Option.some.inj hf
          exact V.lret hC hE d_L_law_181 h1
      rw [if_neg hw1] at hf
      by_cases hw2 : ((σ.1 0 l3.toNatClampNeg) &&& (15 : Int32)) = (2 : Int32)
      · rw [if_pos hw2] at hf
        refine V.tableIn hC d_L_law_62 (tgt := 182) (by rw [hw2]; decide) (by rw [hw2]; decide) (by rw [hw2]; rfl) (by decide) ?_
        refine V.blk hC [(.aload_n 1, 1)] 182 [some (.ref 0), some (.ref 1), some (.ref 130), some (.int l3)] [] ⟨d_L_law_182, trivial⟩ (show tv_run _ _ _ _ = some (183, [some (.ref 0), some (.ref 1), some (.ref 130), some (.int l3)], [.ref 1]) from rfl) ?_
        obtain ⟨q14, hq14, hf⟩ := tm_bd hf
        refine V.callV hC tm_nest rfl (c_X_repair σ   hq14) (tm_gd tc_X_repair) tg_L_31 th_X_repair ⟨tm_le rfl, tm_le rfl, tm_le rfl, tm_le rfl⟩ rfl (kd_in kd_1 (by decide)) (hp_at kd_1) (As := []) (st := []) rfl (tm_le rfl) d_L_law_183 ?_
        rintro v n2 h2 ⟨rfl, rfl, rfl⟩
        show V X tm_lc tm_ls tm_n (hp q14.2) 186 [some (.ref 0), some (.ref 1), some (.ref 130), some (.int l3)] [.int q14.1]
        refine V.blk hC [(.aload_n 2, 1)] 186 [some (.ref 0), some (.ref 1), some (.ref 130), some (.int l3)] [.int q14.1] ⟨d_L_law_186, trivial⟩ (show tv_run _ _ _ _ = some (187, [some (.ref 0), some (.ref 1), some (.ref 130), some (.int l3)], [.ref 130, .int q14.1]) from rfl) ?_
        obtain ⟨q15, hq15, hf⟩ := tm_bd hf
        refine V.callV hC tm_nest rfl (c_Y_repair q14.2   hq15) (tm_gd tc_Y_repair) tg_L_35 th_Y_repair ⟨tm_le rfl, tm_le rfl, tm_le rfl, tm_le rfl⟩ rfl (kd_in kd_130 (by decide)) (hp_at kd_130) (As := []) (st := [.int q14.1]) rfl (tm_le rfl) d_L_law_187 ?_
        rintro v n2 h2 ⟨rfl, rfl, rfl⟩
        show V X tm_lc tm_ls tm_n (hp q15.2) 190 [some (.ref 0), some (.ref 1), some (.ref 130), some (.int l3)] [.int q15.1, .int q14.1]
        refine V.icmp_eq hC d_L_law_190 (tgt := 426) (by decide) (fun hc => ?_) (fun hc => ?_)
        · rw [if_pos hc] at hf
          exact V.less (tv_le_some (tv_le_some (tv_le_some (tv_le_some tv_le_nil)))) (c_L_law_L426 hC hE h1 hrc q15.2 l3  hf)
        · rw [if_neg hc] at hf
          refine V.blk hC [(.iconst 0, 1)] 193 [some (.ref 0), some (.ref 1), some (.ref 130), some (.int l3)] [] ⟨d_L_law_193, trivial⟩ (show tv_run _ _ _ _ = some (194, [some (.ref 0), some (.ref 1), some (.ref 130), some (.int l3)], [.int (0 : Int32)]) from rfl) ?_
          obtain rfl := Option.some.inj hf
          exact V.lret hC hE d_L_law_194 h1
      rw [if_neg hw2] at hf
      by_cases hw3 : ((σ.1 0 l3.toNatClampNeg) &&& (15 : Int32)) = (3 : Int32)
      · rw [if_pos hw3] at hf
        refine V.tableIn hC d_L_law_62 (tgt := 195) (by rw [hw3]; decide) (by rw [hw3]; decide) (by rw [hw3]; rfl) (by decide) ?_
        refine V.blk hC [(.aload_n 1, 1), (.aload_n 0, 1), (.iload_n 3, 1), (.iconst 1, 1), (.iadd, 1)] 195 [some (.ref 0), some (.ref 1), some (.ref 130), some (.int l3)] [] ⟨d_L_law_195, d_L_law_196, d_L_law_197, d_L_law_198, d_L_law_199, trivial⟩ (show tv_run _ _ _ _ = some (200, [some (.ref 0), some (.ref 1), some (.ref 130), some (.int l3)], [.int (l3 + (1 : Int32)), .ref 0, .ref 1]) from rfl) ?_
        obtain ⟨hb16, hf⟩ := tm_if hf
        refine V.sld hC (hp_at kd_0) hb16 d_L_law_200 ?_
        show V X tm_lc tm_ls tm_n (hp σ) 201 [some (.ref 0), some (.ref 1), some (.ref 130), some (.int l3)] [.int (σ.1 0 (l3 + (1 : Int32)).toNatClampNeg), .ref 1]
        refine V.blk hC [(.aload_n 0, 1), (.iload_n 3, 1), (.iconst 2, 1), (.iadd, 1)] 201 [some (.ref 0), some (.ref 1), some (.ref 130), some (.int l3)] [.int (σ.1 0 (l3 + (1 : Int32)).toNatClampNeg), .ref 1] ⟨d_L_law_201, d_L_law_202, d_L_law_203, d_L_law_204, trivial⟩ (show tv_run _ _ _ _ = some (205, [some (.ref 0), some (.ref 1), some (.ref 130), some (.int l3)], [.int (l3 + (2 : Int32)), .ref 0, .int (σ.1 0 (l3 + (1 : Int32)).toNatClampNeg), .ref 1]) from rfl) ?_
        obtain ⟨hb17, hf⟩ := tm_if hf
        refine V.sld hC (hp_at kd_0) hb17 d_L_law_205 ?_
        show V X tm_lc tm_ls tm_n (hp σ) 206 [some (.ref 0), some (.ref 1), some (.ref 130), some (.int l3)] [.int (σ.1 0 (l3 + (2 : Int32)).toNatClampNeg), .int (σ.1 0 (l3 + (1 : Int32)).toNatClampNeg), .ref 1]
        refine V.blk hC [(.aload_n 0, 1), (.iload_n 3, 1), (.iconst 3, 1), (.iadd, 1)] 206 [some (.ref 0), some (.ref 1), some (.ref 130), some (.int l3)] [.int (σ.1 0 (l3 + (2 : Int32)).toNatClampNeg), .int (σ.1 0 (l3 + (1 : Int32)).toNatClampNeg), .ref 1] ⟨d_L_law_206, d_L_law_207, d_L_law_208, d_L_law_209, trivial⟩ (show tv_run _ _ _ _ = some (210, [some (.ref 0), some (.ref 1), some (.ref 130), some (.int l3)], [.int (l3 + (3 : Int32)), .ref 0, .int (σ.1 0 (l3 + (2 : Int32)).toNatClampNeg), .int (σ.1 0 (l3 + (1 : Int32)).toNatClampNeg), .ref 1]) from rfl) ?_
        obtain ⟨hb18, hf⟩ := tm_if hf
        refine V.sld hC (hp_at kd_0) hb18 d_L_law_210 ?_
        show V X tm_lc tm_ls tm_n (hp σ) 211 [some (.ref 0), some (.ref 1), some (.ref 130), some (.int l3)] [.int (σ.1 0 (l3 + (3 : Int32)).toNatClampNeg), .int (σ.1 0 (l3 + (2 : Int32)).toNatClampNeg), .int (σ.1 0 (l3 + (1 : Int32)).toNatClampNeg), .ref 1]
        refine V.blk hC [(.aload_n 0, 1), (.iload_n 3, 1), (.iconst 4, 1), (.iadd, 1)] 211 [some (.ref 0), some (.ref 1), some (.ref 130), some (.int l3)] [.int (σ.1 0 (l3 + (3 : Int32)).toNatClampNeg), .int (σ.1 0 (l3 + (2 : Int32)).toNatClampNeg), .int (σ.1 0 (l3 + (1 : Int32)).toNatClampNeg), .ref 1] ⟨d_L_law_211, d_L_law_212, d_L_law_213, d_L_law_214, trivial⟩ (show tv_run _ _ _ _ = some (215, [some (.ref 0), some (.ref 1), some (.ref 130), some (.int l3)], [.int (l3 + (4 : Int32)), .ref 0, .int (σ.1 0 (l3 + (3 : Int32)).toNatClampNeg), .int (σ.1 0 (l3 + (2 : Int32)).toNatClampNeg), .int (σ.1 0 (l3 + (1 : Int32)).toNatClampNeg), .ref 1]) from rfl) ?_
        obtain ⟨hb19, hf⟩ := tm_if hf
        refine V.sld hC (hp_at kd_0) hb19 d_L_law_215 ?_
        show V X tm_lc tm_ls tm_n (hp σ) 216 [some (.ref 0), some (.ref 1), some (.ref 130), some (.int l3)] [.int (σ.1 0 (l3 + (4 : Int32)).toNatClampNeg), .int (σ.1 0 (l3 + (3 : Int32)).toNatClampNeg), .int (σ.1 0 (l3 + (2 : Int32)).toNatClampNeg), .int (σ.1 0 (l3 + (1 : Int32)).toNatClampNeg), .ref 1]
        obtain ⟨q20, hq20, hf⟩ := tm_bd hf
        refine V.callV hC tm_nest rfl (c_X_send σ (σ.1 0 (l3 + (1 : Int32)).toNatClampNeg) (σ.1 0 (l3 + (2 : Int32)).toNatClampNeg) (σ.1 0 (l3 + (3 : Int32)).toNatClampNeg) (σ.1 0 (l3 + (4 : Int32)).toNatClampNeg)  hq20) (tm_gd tc_X_send) tg_L_36 th_X_send ⟨tm_le rfl, tm_le rfl, tm_le rfl, tm_le rfl⟩ rfl (kd_in kd_1 (by decide)) (hp_at kd_1) (As := [.int (σ.1 0 (l3 + (1 : Int32)).toNatClampNeg), .int (σ.1 0 (l3 + (2 : Int32)).toNatClampNeg), .int (σ.1 0 (l3 + (3 : Int32)).toNatClampNeg), .int (σ.1 0 (l3 + (4 : Int32)).toNatClampNeg)]) (st := []) rfl (tm_le rfl) d_L_law_216 ?_
        rintro v n2 h2 ⟨rfl, rfl, rfl⟩
        show V X tm_lc tm_ls tm_n (hp q20.2) 219 [some (.ref 0), some (.ref 1), some (.ref 130), some (.int l3)] [.int q20.1]
        refine V.blk hC [(.aload_n 2, 1), (.aload_n 0, 1), (.iload_n 3, 1), (.iconst 1, 1), (.iadd, 1)] 219 [some (.ref 0), some (.ref 1), some (.ref 130), some (.int l3)] [.int q20.1] ⟨d_L_law_219, d_L_law_220, d_L_law_221, d_L_law_222, d_L_law_223, trivial⟩ (show tv_run _ _ _ _ = some (224, [some (.ref 0), some (.ref 1), some (.ref 130), some (.int l3)], [.int (l3 + (1 : Int32)), .ref 0, .ref 130, .int q20.1]) from rfl) ?_
        obtain ⟨hb21, hf⟩ := tm_if hf
        refine V.sld hC (hp_at kd_0) hb21 d_L_law_224 ?_
        show V X tm_lc tm_ls tm_n (hp q20.2) 225 [some (.ref 0), some (.ref 1), some (.ref 130), some (.int l3)] [.int (q20.2.1 0 (l3 + (1 : Int32)).toNatClampNeg), .ref 130, .int q20.1]
        refine V.blk hC [(.aload_n 0, 1), (.iload_n 3, 1), (.iconst 2, 1), (.iadd, 1)] 225 [some (.ref 0), some (.ref 1), some (.ref 130), some (.int l3)] [.int (q20.2.1 0 (l3 + (1 : Int32)).toNatClampNeg), .ref 130, .int q20.1] ⟨d_L_law_225, d_L_law_226, d_L_law_227, d_L_law_228, trivial⟩ (show tv_run _ _ _ _ = some (229, [some (.ref 0), some (.ref 1), some (.ref 130), some (.int l3)], [.int (l3 + (2 : Int32)), .ref 0, .int (q20.2.1 0 (l3 + (1 : Int32)).toNatClampNeg), .ref 130, .int q20.1]) from rfl) ?_
        obtain ⟨hb22, hf⟩ := tm_if hf
        refine V.sld hC (hp_at kd_0) hb22 d_L_law_229 ?_
        show V X tm_lc tm_ls tm_n (hp q20.2) 230 [some (.ref 0), some (.ref 1), some (.ref 130), some (.int l3)] [.int (q20.2.1 0 (l3 + (2 : Int32)).toNatClampNeg), .int (q20.2.1 0 (l3 + (1 : Int32)).toNatClampNeg), .ref 130, .int q20.1]
        refine V.blk hC [(.aload_n 0, 1), (.iload_n 3, 1), (.iconst 3, 1), (.iadd, 1)] 230 [some (.ref 0), some (.ref 1), some (.ref 130), some (.int l3)] [.int (q20.2.1 0 (l3 + (2 : Int32)).toNatClampNeg), .int (q20.2.1 0 (l3 + (1 : Int32)).toNatClampNeg), .ref 130, .int q20.1] ⟨d_L_law_230, d_L_law_231, d_L_law_232, d_L_law_233, trivial⟩ (show tv_run _ _ _ _ = some (234, [some (.ref 0), some (.ref 1), some (.ref 130), some (.int l3)], [.int (l3 + (3 : Int32)), .ref 0, .int (q20.2.1 0 (l3 + (2 : Int32)).toNatClampNeg), .int (q20.2.1 0 (l3 + (1 : Int32)).toNatClampNeg), .ref 130, .int q20.1]) from rfl) ?_
        obtain ⟨hb23, hf⟩ := tm_if hf
        refine V.sld hC (hp_at kd_0) hb23 d_L_law_234 ?_
        show V X tm_lc tm_ls tm_n (hp q20.2) 235 [some (.ref 0), some (.ref 1), some (.ref 130), some (.int l3)] [.int (q20.2.1 0 (l3 + (3 : Int32)).toNatClampNeg), .int (q20.2.1 0 (l3 + (2 : Int32)).toNatClampNeg), .int (q20.2.1 0 (l3 + (1 : Int32)).toNatClampNeg), .ref 130, .int q20.1]
        refine V.blk hC [(.aload_n 0, 1), (.iload_n 3, 1), (.iconst 4, 1), (.iadd, 1)] 235 [some (.ref 0), some (.ref 1), some (.ref 130), some (.int l3)] [.int (q20.2.1 0 (l3 + (3 : Int32)).toNatClampNeg), .int (q20.2.1 0 (l3 + (2 : Int32)).toNatClampNeg), .int (q20.2.1 0 (l3 + (1 : Int32)).toNatClampNeg), .ref 130, .int q20.1] ⟨d_L_law_235, d_L_law_236, d_L_law_237, d_L_law_238, trivial⟩ (show tv_run _ _ _ _ = some (239, [some (.ref 0), some (.ref 1), some (.ref 130), some (.int l3)], [.int (l3 + (4 : Int32)), .ref 0, .int (q20.2.1 0 (l3 + (3 : Int32)).toNatClampNeg), .int (q20.2.1 0 (l3 + (2 : Int32)).toNatClampNeg), .int (q20.2.1 0 (l3 + (1 : Int32)).toNatClampNeg), .ref 130, .int q20.1]) from rfl) ?_
        obtain ⟨hb24, hf⟩ := tm_if hf
        refine V.sld hC (hp_at kd_0) hb24 d_L_law_239 ?_
        show V X tm_lc tm_ls tm_n (hp q20.2) 240 [some (.ref 0), some (.ref 1), some (.ref 130), some (.int l3)] [.int (q20.2.1 0 (l3 + (4 : Int32)).toNatClampNeg), .int (q20.2.1 0 (l3 + (3 : Int32)).toNatClampNeg), .int (q20.2.1 0 (l3 + (2 : Int32)).toNatClampNeg), .int (q20.2.1 0 (l3 + (1 : Int32)).toNatClampNeg), .ref 130, .int q20.1]
        obtain ⟨q25, hq25, hf⟩ := tm_bd hf
        refine V.callV hC tm_nest rfl (c_Y_send q20.2 (q20.2.1 0 (l3 + (1 : Int32)).toNatClampNeg) (q20.2.1 0 (l3 + (2 : Int32)).toNatClampNeg) (q20.2.1 0 (l3 + (3 : Int32)).toNatClampNeg) (q20.2.1 0 (l3 + (4 : Int32)).toNatClampNeg)  hq25) (tm_gd tc_Y_send) tg_L_40 th_Y_send ⟨tm_le rfl, tm_le rfl, tm_le rfl, tm_le rfl⟩ rfl (kd_in kd_130 (by decide)) (hp_at kd_130) (As := [.int (q20.2.1 0 (l3 + (1 : Int32)).toNatClampNeg), .int (q20.2.1 0 (l3 + (2 : Int32)).toNatClampNeg), .int (q20.2.1 0 (l3 + (3 : Int32)).toNatClampNeg), .int (q20.2.1 0 (l3 + (4 : Int32)).toNatClampNeg)]) (st := [.int q20.1]) rfl (tm_le rfl) d_L_law_240 ?_
        rintro v n2 h2 ⟨rfl, rfl, rfl⟩
        show V X tm_lc tm_ls tm_n (hp q25.2) 243 [some (.ref 0), some (.ref 1), some (.ref 130), some (.int l3)] [.int q25.1, .int q20.1]
        refine V.icmp_eq hC d_L_law_243 (tgt := 426) (by decide) (fun hc => ?_) (fun hc => ?_)
        · rw [if_pos hc] at hf
          exact V.less (tv_le_some (tv_le_some (tv_le_some (tv_le_some tv_le_nil)))) (c_L_law_L426 hC hE h1 hrc q25.2 l3  hf)
        · rw [if_neg hc] at hf
          refine V.blk hC [(.iconst 0, 1)] 246 [some (.ref 0), some (.ref 1), some (.ref 130), some (.int l3)] [] ⟨d_L_law_246, trivial⟩ (show tv_run _ _ _ _ = some (247, [some (.ref 0), some (.ref 1), some (.ref 130), some (.int l3)], [.int (0 : Int32)]) from rfl) ?_
          obtain rfl := Option.some.inj hf
          exact V.lret hC hE d_L_law_247 h1
      rw [if_neg hw3] at hf
      by_cases hw4 : ((σ.1 0 l3.toNatClampNeg) &&& (15 : Int32)) = (4 : Int32)
      · rw [if_pos hw4] at hf
        refine V.tableIn hC d_L_law_62 (tgt := 248) (by rw [hw4]; decide) (by rw [hw4]; decide) (by rw [hw4]; rfl) (by decide) ?_
        refine V.blk hC [(.aload_n 1, 1), (.aload_n 0, 1), (.iload_n 3, 1), (.iconst 1, 1), (.iadd, 1)] 248 [some (.ref 0), some (.ref 1), some (.ref 130), some (.int l3)] [] ⟨d_L_law_248, d_L_law_249, d_L_law_250, d_L_law_251, d_L_law_252, trivial⟩ (show tv_run _ _ _ _ = some (253, [some (.ref 0), some (.ref 1), some (.ref 130), some (.int l3)], [.int (l3 + (1 : Int32)), .ref 0, .ref 1]) from rfl) ?_
        obtain ⟨hb26, hf⟩ := tm_if hf
        refine V.sld hC (hp_at kd_0) hb26 d_L_law_253 ?_
        show V X tm_lc tm_ls tm_n (hp σ) 254 [some (.ref 0), some (.ref 1), some (.ref 130), some (.int l3)] [.int (σ.1 0 (l3 + (1 : Int32)).toNatClampNeg), .ref 1]
        obtain ⟨q27, hq27, hf⟩ := tm_bd hf
        refine V.callV hC tm_nest rfl (c_X_tick σ (σ.1 0 (l3 + (1 : Int32)).toNatClampNeg)  hq27) (tm_gd tc_X_tick) tg_L_41 th_X_tick ⟨tm_le rfl, tm_le rfl, tm_le rfl, tm_le rfl⟩ rfl (kd_in kd_1 (by decide)) (hp_at kd_1) (As := [.int (σ.1 0 (l3 + (1 : Int32)).toNatClampNeg)]) (st := []) rfl (tm_le rfl) d_L_law_254 ?_
        rintro v n2 h2 ⟨rfl, rfl, rfl⟩
        show V X tm_lc tm_ls tm_n (hp q27.2) 257 [some (.ref 0), some (.ref 1), some (.ref 130), some (.int l3)] [.int q27.1]
        refine V.blk hC [(.aload_n 2, 1), (.aload_n 0, 1), (.iload_n 3, 1), (.iconst 1, 1), (.iadd, 1)] 257 [some (.ref 0), some (.ref 1), some (.ref 130), some (.int l3)] [.int q27.1] ⟨d_L_law_257, d_L_law_258, d_L_law_259, d_L_law_260, d_L_law_261, trivial⟩ (show tv_run _ _ _ _ = some (262, [some (.ref 0), some (.ref 1), some (.ref 130), some (.int l3)], [.int (l3 + (1 : Int32)), .ref 0, .ref 130, .int q27.1]) from rfl) ?_
        obtain ⟨hb28, hf⟩ := tm_if hf
        refine V.sld hC (hp_at kd_0) hb28 d_L_law_262 ?_
        show V X tm_lc tm_ls tm_n (hp q27.2) 263 [some (.ref 0), some (.ref 1), some (.ref 130), some (.int l3)] [.int (q27.2.1 0 (l3 + (1 : Int32)).toNatClampNeg), .ref 130, .int q27.1]
        obtain ⟨q29, hq29, hf⟩ := tm_bd hf
        refine V.callV hC tm_nest rfl (c_Y_tick q27.2 (q27.2.1 0 (l3 + (1 : Int32)).toNatClampNeg)  hq29) (tm_gd tc_Y_tick) tg_L_45 th_Y_tick ⟨tm_le rfl, tm_le rfl, tm_le rfl, tm_le rfl⟩ rfl (kd_in kd_130 (by decide)) (hp_at kd_130) (As := [.int (q27.2.1 0 (l3 + (1 : Int32)).toNatClampNeg)]) (st := [.int q27.1]) rfl (tm_le rfl) d_L_law_263 ?_
        rintro v n2 h2 ⟨rfl, rfl, rfl⟩
        show V X tm_lc tm_ls tm_n (hp q29.2) 266 [some (.ref 0), some (.ref 1), some (.ref 130), some (.int l3)] [.int q29.1, .int q27.1]
        refine V.icmp_eq hC d_L_law_266 (tgt := 426) (by decide) (fun hc => ?_) (fun hc => ?_)
        · rw [if_pos hc] at hf
          exact V.less (tv_le_some (tv_le_some (tv_le_some (tv_le_some tv_le_nil)))) (c_L_law_L426 hC hE h1 hrc q29.2 l3  hf)
        · rw [if_neg hc] at hf
          refine V.blk hC [(.iconst 0, 1)] 269 [some (.ref 0), some (.ref 1), some (.ref 130), some (.int l3)] [] ⟨d_L_law_269, trivial⟩ (show tv_run _ _ _ _ = some (270, [some (.ref 0), some (.ref 1), some (.ref 130), some (.int l3)], [.int (0 : Int32)]) from rfl) ?_
          obtain rfl := Option.some.inj hf
          exact V.lret hC hE d_L_law_270 h1
      rw [if_neg hw4] at hf
      by_cases hw5 : ((σ.1 0 l3.toNatClampNeg) &&& (15 : Int32)) = (5 : Int32)
      · rw [if_pos hw5] at hf
        refine V.tableIn hC d_L_law_62 (tgt := 271) (by rw [hw5]; decide) (by rw [hw5]; decide) (by rw [hw5]; rfl) (by decide) ?_
        refine V.blk hC [(.aload_n 1, 1), (.aload_n 0, 1), (.iload_n 3, 1), (.iconst 1, 1), (.iadd, 1)] 271 [some (.ref 0), some (.ref 1), some (.ref 130), some (.int l3)] [] ⟨d_L_law_271, d_L_law_272, d_L_law_273, d_L_law_274, d_L_law_275, trivial⟩ (show tv_run _ _ _ _ = some (276, [some (.ref 0), some (.ref 1), some (.ref 130), some (.int l3)], [.int (l3 + (1 : Int32)), .ref 0, .ref 1]) from rfl) ?_
        obtain ⟨hb30, hf⟩ := tm_if hf
        refine V.sld hC (hp_at kd_0) hb30 d_L_law_276 ?_
        show V X tm_lc tm_ls tm_n (hp σ) 277 [some (.ref 0), some (.ref 1), some (.ref 130), some (.int l3)] [.int (σ.1 0 (l3 + (1 : Int32)).toNatClampNeg), .ref 1]
        refine V.blk hC [(.aload_n 0, 1), (.iload_n 3, 1), (.iconst 2, 1), (.iadd, 1)] 277 [some (.ref 0), some (.ref 1), some (.ref 130), some (.int l3)] [.int (σ.1 0 (l3 + (1 : Int32)).toNatClampNeg), .ref 1] ⟨d_L_law_277, d_L_law_278, d_L_law_279, d_L_law_280, trivial⟩ (show tv_run _ _ _ _ = some (281, [some (.ref 0), some (.ref 1), some (.ref 130), some (.int l3)], [.int (l3 + (2 : Int32)), .ref 0, .int (σ.1 0 (l3 + (1 : Int32)).toNatClampNeg), .ref 1]) from rfl) ?_
        obtain ⟨hb31, hf⟩ := tm_if hf
        refine V.sld hC (hp_at kd_0) hb31 d_L_law_281 ?_
        show V X tm_lc tm_ls tm_n (hp σ) 282 [some (.ref 0), some (.ref 1), some (.ref 130), some (.int l3)] [.int (σ.1 0 (l3 + (2 : Int32)).toNatClampNeg), .int (σ.1 0 (l3 + (1 : Int32)).toNatClampNeg), .ref 1]
        obtain ⟨q32, hq32, hf⟩ := tm_bd hf
        refine V.callV hC tm_nest rfl (c_X_node σ (σ.1 0 (l3 + (1 : Int32)).toNatClampNeg) (σ.1 0 (l3 + (2 : Int32)).toNatClampNeg)  hq32) (tm_gd tc_X_node) tg_L_46 th_X_node ⟨tm_le rfl, tm_le rfl, tm_le rfl, tm_le rfl⟩ rfl (kd_in kd_1 (by decide)) (hp_at kd_1) (As := [.int (σ.1 0 (l3 + (1 : Int32)).toNatClampNeg), .int (σ.1 0 (l3 + (2 : Int32)).toNatClampNeg)]) (st := []) rfl (tm_le rfl) d_L_law_282 ?_
        rintro v n2 h2 ⟨rfl, rfl, rfl⟩
        show V X tm_lc tm_ls tm_n (hp q32.2) 285 [some (.ref 0), some (.ref 1), some (.ref 130), some (.int l3)] [.int q32.1]
        refine V.blk hC [(.aload_n 2, 1), (.aload_n 0, 1), (.iload_n 3, 1), (.iconst 1, 1), (.iadd, 1)] 285 [some (.ref 0), some (.ref 1), some (.ref 130), some (.int l3)] [.int q32.1] ⟨d_L_law_285, d_L_law_286, d_L_law_287, d_L_law_288, d_L_law_289, trivial⟩ (show tv_run _ _ _ _ = some (290, [some (.ref 0), some (.ref 1), some (.ref 130), some (.int l3)], [.int (l3 + (1 : Int32)), .ref 0, .ref 130, .int q32.1]) from rfl) ?_
        obtain ⟨hb33, hf⟩ := tm_if hf
        refine V.sld hC (hp_at kd_0) hb33 d_L_law_290 ?_
        show V X tm_lc tm_ls tm_n (hp q32.2) 291 [some (.ref 0), some (.ref 1), some (.ref 130), some (.int l3)] [.int (q32.2.1 0 (l3 + (1 : Int32)).toNatClampNeg), .ref 130, .int q32.1]
        refine V.blk hC [(.aload_n 0, 1), (.iload_n 3, 1), (.iconst 2, 1), (.iadd, 1)] 291 [some (.ref 0), some (.ref 1), some (.ref 130), some (.int l3)] [.int (q32.2.1 0 (l3 + (1 : Int32)).toNatClampNeg), .ref 130, .int q32.1] ⟨d_L_law_291, d_L_law_292, d_L_law_293, d_L_law_294, trivial⟩ (show tv_run _ _ _ _ = some (295, [some (.ref 0), some (.ref 1), some (.ref 130), some (.int l3)], [.int (l3 + (2 : Int32)), .ref 0, .int (q32.2.1 0 (l3 + (1 : Int32)).toNatClampNeg), .ref 130, .int q32.1]) from rfl) ?_
        obtain ⟨hb34, hf⟩ := tm_if hf
        refine V.sld hC (hp_at kd_0) hb34 d_L_law_295 ?_
        show V X tm_lc tm_ls tm_n (hp q32.2) 296 [some (.ref 0), some (.ref 1), some (.ref 130), some (.int l3)] [.int (q32.2.1 0 (l3 + (2 : Int32)).toNatClampNeg), .int (q32.2.1 0 (l3 + (1 : Int32)).toNatClampNeg), .ref 130, .int q32.1]
        obtain ⟨q35, hq35, hf⟩ := tm_bd hf
        refine V.callV hC tm_nest rfl (c_Y_node q32.2 (q32.2.1 0 (l3 + (1 : Int32)).toNatClampNeg) (q32.2.1 0 (l3 + (2 : Int32)).toNatClampNeg)  hq35) (tm_gd tc_Y_node) tg_L_50 th_Y_node ⟨tm_le rfl, tm_le rfl, tm_le rfl, tm_le rfl⟩ rfl (kd_in kd_130 (by decide)) (hp_at kd_130) (As := [.int (q32.2.1 0 (l3 + (1 : Int32)).toNatClampNeg), .int (q32.2.1 0 (l3 + (2 : Int32)).toNatClampNeg)]) (st := [.int q32.1]) rfl (tm_le rfl) d_L_law_296 ?_
        rintro v n2 h2 ⟨rfl, rfl, rfl⟩
        show V X tm_lc tm_ls tm_n (hp q35.2) 299 [some (.ref 0), some (.ref 1), some (.ref 130), some (.int l3)] [.int q35.1, .int q32.1]
        refine V.icmp_eq hC d_L_law_299 (tgt := 426) (by decide) (fun hc => ?_) (fun hc => ?_)
        · rw [if_pos hc] at hf
          exact V.less (tv_le_some (tv_le_some (tv_le_some (tv_le_some tv_le_nil)))) (c_L_law_L426 hC hE h1 hrc q35.2 l3  hf)
        · rw [if_neg hc] at hf
          refine V.blk hC [(.iconst 0, 1)] 302 [some (.ref 0), some (.ref 1), some (.ref 130), some (.int l3)] [] ⟨d_L_law_302, trivial⟩ (show tv_run _ _ _ _ = some (303, [some (.ref 0), some (.ref 1), some (.ref 130), some (.int l3)], [.int (0 : Int32)]) from rfl) ?_
          obtain rfl := Option.some.inj hf
          exact V.lret hC hE d_L_law_303 h1
      rw [if_neg hw5] at hf
      by_cases hw6 : ((σ.1 0 l3.toNatClampNeg) &&& (15 : Int32)) = (6 : Int32)
      · rw [if_pos hw6] at hf
        refine V.tableIn hC d_L_law_62 (tgt := 304) (by rw [hw6]; decide) (by rw [hw6]; decide) (by rw [hw6]; rfl) (by decide) ?_
        refine V.blk hC [(.aload_n 1, 1), (.aload_n 0, 1), (.iload_n 3, 1), (.iconst 1, 1), (.iadd, 1)] 304 [some (.ref 0), some (.ref 1), some (.ref 130), some (.int l3)] [] ⟨d_L_law_304, d_L_law_305, d_L_law_306, d_L_law_307, d_L_law_308, trivial⟩ (show tv_run _ _ _ _ = some (309, [some (.ref 0), some (.ref 1), some (.ref 130), some (.int l3)], [.int (l3 + (1 : Int32)), .ref 0, .ref 1]) from rfl) ?_
        obtain ⟨hb36, hf⟩ := tm_if hf
        refine V.sld hC (hp_at kd_0) hb36 d_L_law_309 ?_
        show V X tm_lc tm_ls tm_n (hp σ) 310 [some (.ref 0), some (.ref 1), some (.ref 130), some (.int l3)] [.int (σ.1 0 (l3 + (1 : Int32)).toNatClampNeg), .ref 1]
        refine V.blk hC [(.aload_n 0, 1), (.iload_n 3, 1), (.iconst 2, 1), (.iadd, 1)] 310 [some (.ref 0), some (.ref 1), some (.ref 130), some (.int l3)] [.int (σ.1 0 (l3 + (1 : Int32)).toNatClampNeg), .ref 1] ⟨d_L_law_310, d_L_law_311, d_L_law_312, d_L_law_313, trivial⟩ (show tv_run _ _ _ _ = some (314, [some (.ref 0), some (.ref 1), some (.ref 130), some (.int l3)], [.int (l3 + (2 : Int32)), .ref 0, .int (σ.1 0 (l3 + (1 : Int32)).toNatClampNeg), .ref 1]) from rfl) ?_
        obtain ⟨hb37, hf⟩ := tm_if hf
        refine V.sld hC (hp_at kd_0) hb37 d_L_law_314 ?_
        show V X tm_lc tm_ls tm_n (hp σ) 315 [some (.ref 0), some (.ref 1), some (.ref 130), some (.int l3)] [.int (σ.1 0 (l3 + (2 : Int32)).toNatClampNeg), .int (σ.1 0 (l3 + (1 : Int32)).toNatClampNeg), .ref 1]
        obtain ⟨q38, hq38, hf⟩ := tm_bd hf
        refine V.callV hC tm_nest rfl (c_X_next σ (σ.1 0 (l3 + (1 : Int32)).toNatClampNeg) (σ.1 0 (l3 + (2 : Int32)).toNatClampNeg)  hq38) (tm_gd tc_X_next) tg_L_51 th_X_next ⟨tm_le rfl, tm_le rfl, tm_le rfl, tm_le rfl⟩ rfl (kd_in kd_1 (by decide)) (hp_at kd_1) (As := [.int (σ.1 0 (l3 + (1 : Int32)).toNatClampNeg), .int (σ.1 0 (l3 + (2 : Int32)).toNatClampNeg)]) (st := []) rfl (tm_le rfl) d_L_law_315 ?_
        rintro v n2 h2 ⟨rfl, rfl, rfl⟩
        show V X tm_lc tm_ls tm_n (hp q38.2) 318 [some (.ref 0), some (.ref 1), some (.ref 130), some (.int l3)] [.int q38.1]
        refine V.blk hC [(.aload_n 2, 1), (.aload_n 0, 1), (.iload_n 3, 1), (.iconst 1, 1), (.iadd, 1)] 318 [some (.ref 0), some (.ref 1), some (.ref 130), some (.int l3)] [.int q38.1] ⟨d_L_law_318, d_L_law_319, d_L_law_320, d_L_law_321, d_L_law_322, trivial⟩ (show tv_run _ _ _ _ = some (323, [some (.ref 0), some (.ref 1), some (.ref 130), some (.int l3)], [.int (l3 + (1 : Int32)), .ref 0, .ref 130, .int q38.1]) from rfl) ?_
        obtain ⟨hb39, hf⟩ := tm_if hf
        refine V.sld hC (hp_at kd_0) hb39 d_L_law_323 ?_
        show V X tm_lc tm_ls tm_n (hp q38.2) 324 [some (.ref 0), some (.ref 1), some (.ref 130), some (.int l3)] [.int (q38.2.1 0 (l3 + (1 : Int32)).toNatClampNeg), .ref 130, .int q38.1]
        refine V.blk hC [(.aload_n 0, 1), (.iload_n 3, 1), (.iconst 2, 1), (.iadd, 1)] 324 [some (.ref 0), some (.ref 1), some (.ref 130), some (.int l3)] [.int (q38.2.1 0 (l3 + (1 : Int32)).toNatClampNeg), .ref 130, .int q38.1] ⟨d_L_law_324, d_L_law_325, d_L_law_326, d_L_law_327, trivial⟩ (show tv_run _ _ _ _ = some (328, [some (.ref 0), some (.ref 1), some (.ref 130), some (.int l3)], [.int (l3 + (2 : Int32)), .ref 0, .int (q38.2.1 0 (l3 + (1 : Int32)).toNatClampNeg), .ref 130, .int q38.1]) from rfl) ?_
        obtain ⟨hb40, hf⟩ := tm_if hf
        refine V.sld hC (hp_at kd_0) hb40 d_L_law_328 ?_
        show V X tm_lc tm_ls tm_n (hp q38.2) 329 [some (.ref 0), some (.ref 1), some (.ref 130), some (.int l3)] [.int (q38.2.1 0 (l3 + (2 : Int32)).toNatClampNeg), .int (q38.2.1 0 (l3 + (1 : Int32)).toNatClampNeg), .ref 130, .int q38.1]
        obtain ⟨q41, hq41, hf⟩ := tm_bd hf
        refine V.callV hC tm_nest rfl (c_Y_next q38.2 (q38.2.1 0 (l3 + (1 : Int32)).toNatClampNeg) (q38.2.1 0 (l3 + (2 : Int32)).toNatClampNeg)  hq41) (tm_gd tc_Y_next) tg_L_54 th_Y_next ⟨tm_le rfl, tm_le rfl, tm_le rfl, tm_le rfl⟩ rfl (kd_in kd_130 (by decide)) (hp_at kd_130) (As := [.int (q38.2.1 0 (l3 + (1 : Int32)).toNatClampNeg), .int (q38.2.1 0 (l3 + (2 : Int32)).toNatClampNeg)]) (st := [.int q38.1]) rfl (tm_le rfl) d_L_law_329 ?_
        rintro v n2 h2 ⟨rfl, rfl, rfl⟩
        show V X tm_lc tm_ls tm_n (hp q41.2) 332 [some (.ref 0), some (.ref 1), some (.ref 130), some (.int l3)] [.int q41.1, .int q38.1]
        refine V.icmp_eq hC d_L_law_332 (tgt := 426) (by decide) (fun hc => ?_) (fun hc => ?_)
        · rw [if_pos hc] at hf
          exact V.less (tv_le_some (tv_le_some (tv_le_some (tv_le_some tv_le_nil)))) (c_L_law_L426 hC hE h1 hrc q41.2 l3  hf)
        · rw [if_neg hc] at hf
          refine V.blk hC [(.iconst 0, 1)] 335 [some (.ref 0), some (.ref 1), some (.ref 130), some (.int l3)] [] ⟨d_L_law_335, trivial⟩ (show tv_run _ _ _ _ = some (336, [some (.ref 0), some (.ref 1), some (.ref 130), some (.int l3)], [.int (0 : Int32)]) from rfl) ?_
          obtain rfl := Option.some.inj hf
          exact V.lret hC hE d_L_law_336 h1
      rw [if_neg hw6] at hf
      by_cases hw7 : ((σ.1 0 l3.toNatClampNeg) &&& (15 : Int32)) = (7 : Int32)
      · rw [if_pos hw7] at hf
        refine V.tableIn hC d_L_law_62 (tgt := 337) (by rw [hw7]; decide) (by rw [hw7]; decide) (by rw [hw7]; rfl) (by decide) ?_
        refine V.blk hC [(.aload_n 1, 1), (.aload_n 0, 1), (.iload_n 3, 1), (.iconst 1, 1), (.iadd, 1)] 337 [some (.ref 0), some (.ref 1), some (.ref 130), some (.int l3)] [] ⟨d_L_law_337, d_L_law_338, d_L_law_339, d_L_law_340, d_L_law_341, trivial⟩ (show tv_run _ _ _ _ = some (342, [some (.ref 0), some (.ref 1), some (.ref 130), some (.int l3)], [.int (l3 + (1 : Int32)), .ref 0, .ref 1]) from rfl) ?_
        obtain ⟨hb42, hf⟩ := tm_if hf
        refine V.sld hC (hp_at kd_0) hb42 d_L_law_342 ?_
        show V X tm_lc tm_ls tm_n (hp σ) 343 [some (.ref 0), some (.ref 1), some (.ref 130), some (.int l3)] [.int (σ.1 0 (l3 + (1 : Int32)).toNatClampNeg), .ref 1]
        refine V.blk hC [(.aload_n 0, 1), (.iload_n 3, 1), (.iconst 2, 1), (.iadd, 1)] 343 [some (.ref 0), some (.ref 1), some (.ref 130), some (.int l3)] [.int (σ.1 0 (l3 + (1 : Int32)).toNatClampNeg), .ref 1] ⟨d_L_law_343, d_L_law_344, d_L_law_345, d_L_law_346, trivial⟩ (show tv_run _ _ _ _ = some (347, [some (.ref 0), some (.ref 1), some (.ref 130), some (.int l3)], [.int (l3 + (2 : Int32)), .ref 0, .int (σ.1 0 (l3 + (1 : Int32)).toNatClampNeg), .ref 1]) from rfl) ?_
        obtain ⟨hb43, hf⟩ := tm_if hf
        refine V.sld hC (hp_at kd_0) hb43 d_L_law_347 ?_
        show V X tm_lc tm_ls tm_n (hp σ) 348 [some (.ref 0), some (.ref 1), some (.ref 130), some (.int l3)] [.int (σ.1 0 (l3 + (2 : Int32)).toNatClampNeg), .int (σ.1 0 (l3 + (1 : Int32)).toNatClampNeg), .ref 1]
        obtain ⟨q44, hq44, hf⟩ := tm_bd hf
        refine V.callV hC tm_nest rfl (c_X_known σ (σ.1 0 (l3 + (1 : Int32)).toNatClampNeg) (σ.1 0 (l3 + (2 : Int32)).toNatClampNeg)  hq44) (tm_gd tc_X_known) tg_L_55 th_X_known ⟨tm_le rfl, tm_le rfl, tm_le rfl, tm_le rfl⟩ rfl (kd_in kd_1 (by decide)) (hp_at kd_1) (As := [.int (σ.1 0 (l3 + (1 : Int32)).toNatClampNeg), .int (σ.1 0 (l3 + (2 : Int32)).toNatClampNeg)]) (st := []) rfl (tm_le rfl) d_L_law_348 ?_
        rintro v n2 h2 ⟨rfl, rfl, rfl⟩
        show V X tm_lc tm_ls tm_n (hp q44.2) 351 [some (.ref 0), some (.ref 1), some (.ref 130), some (.int l3)] [.int q44.1]
        refine V.blk hC [(.aload_n 2, 1), (.aload_n 0, 1), (.iload_n 3, 1), (.iconst 1, 1), (.iadd, 1)] 351 [some (.ref 0), some (.ref 1), some (.ref 130), some (.int l3)] [.int q44.1] ⟨d_L_law_351, d_L_law_352, d_L_law_353, d_L_law_354, d_L_law_355, trivial⟩ (show tv_run _ _ _ _ = some (356, [some (.ref 0), some (.ref 1), some (.ref 130), some (.int l3)], [.int (l3 + (1 : Int32)), .ref 0, .ref 130, .int q44.1]) from rfl) ?_
        obtain ⟨hb45, hf⟩ := tm_if hf
        refine V.sld hC (hp_at kd_0) hb45 d_L_law_356 ?_
        show V X tm_lc tm_ls tm_n (hp q44.2) 357 [some (.ref 0), some (.ref 1), some (.ref 130), some (.int l3)] [.int (q44.2.1 0 (l3 + (1 : Int32)).toNatClampNeg), .ref 130, .int q44.1]
        refine V.blk hC [(.aload_n 0, 1), (.iload_n 3, 1), (.iconst 2, 1), (.iadd, 1)] 357 [some (.ref 0), some (.ref 1), some (.ref 130), some (.int l3)] [.int (q44.2.1 0 (l3 + (1 : Int32)).toNatClampNeg), .ref 130, .int q44.1] ⟨d_L_law_357, d_L_law_358, d_L_law_359, d_L_law_360, trivial⟩ (show tv_run _ _ _ _ = some (361, [some (.ref 0), some (.ref 1), some (.ref 130), some (.int l3)], [.int (l3 + (2 : Int32)), .ref 0, .int (q44.2.1 0 (l3 + (1 : Int32)).toNatClampNeg), .ref 130, .int q44.1]) from rfl) ?_
        obtain ⟨hb46, hf⟩ := tm_if hf
        refine V.sld hC (hp_at kd_0) hb46 d_L_law_361 ?_
        show V X tm_lc tm_ls tm_n (hp q44.2) 362 [some (.ref 0), some (.ref 1), some (.ref 130), some (.int l3)] [.int (q44.2.1 0 (l3 + (2 : Int32)).toNatClampNeg), .int (q44.2.1 0 (l3 + (1 : Int32)).toNatClampNeg), .ref 130, .int q44.1]
        obtain ⟨q47, hq47, hf⟩ := tm_bd hf
        refine V.callV hC tm_nest rfl (c_Y_known q44.2 (q44.2.1 0 (l3 + (1 : Int32)).toNatClampNeg) (q44.2.1 0 (l3 + (2 : Int32)).toNatClampNeg)  hq47) (tm_gd tc_Y_known) tg_L_58 th_Y_known ⟨tm_le rfl, tm_le rfl, tm_le rfl, tm_le rfl⟩ rfl (kd_in kd_130 (by decide)) (hp_at kd_130) (As := [.int (q44.2.1 0 (l3 + (1 : Int32)).toNatClampNeg), .int (q44.2.1 0 (l3 + (2 : Int32)).toNatClampNeg)]) (st := [.int q44.1]) rfl (tm_le rfl) d_L_law_362 ?_
        rintro v n2 h2 ⟨rfl, rfl, rfl⟩
        show V X tm_lc tm_ls tm_n (hp q47.2) 365 [some (.ref 0), some (.ref 1), some (.ref 130), some (.int l3)] [.int q47.1, .int q44.1]
        refine V.icmp_eq hC d_L_law_365 (tgt := 426) (by decide) (fun hc => ?_) (fun hc => ?_)
        · rw [if_pos hc] at hf
          exact V.less (tv_le_some (tv_le_some (tv_le_some (tv_le_some tv_le_nil)))) (c_L_law_L426 hC hE h1 hrc q47.2 l3  hf)
        · rw [if_neg hc] at hf
          refine V.blk hC [(.iconst 0, 1)] 368 [some (.ref 0), some (.ref 1), some (.ref 130), some (.int l3)] [] ⟨d_L_law_368, trivial⟩ (show tv_run _ _ _ _ = some (369, [some (.ref 0), some (.ref 1), some (.ref 130), some (.int l3)], [.int (0 : Int32)]) from rfl) ?_
          obtain rfl := Option.some.inj hf
          exact V.lret hC hE d_L_law_369 h1
      rw [if_neg hw7] at hf
      by_cases hw8 : ((σ.1 0 l3.toNatClampNeg) &&& (15 : Int32)) = (8 : Int32)
      · rw [if_pos hw8] at hf
        refine V.tableIn hC d_L_law_62 (tgt := 370) (by rw [hw8]; decide) (by rw [hw8]; decide) (by rw [hw8]; rfl) (by decide) ?_
        refine V.blk hC [(.aload_n 1, 1), (.aload_n 0, 1), (.iload_n 3, 1), (.iconst 1, 1), (.iadd, 1)] 370 [some (.ref 0), some (.ref 1), some (.ref 130), some (.int l3)] [] ⟨d_L_law_370, d_L_law_371, d_L_law_372, d_L_law_373, d_L_law_374, trivial⟩ (show tv_run _ _ _ _ = some (375, [some (.ref 0), some (.ref 1), some (.ref 130), some (.int l3)], [.int (l3 + (1 : Int32)), .ref 0, .ref 1]) from rfl) ?_
        obtain ⟨hb48, hf⟩ := tm_if hf
        refine V.sld hC (hp_at kd_0) hb48 d_L_law_375 ?_
        show V X tm_lc tm_ls tm_n (hp σ) 376 [some (.ref 0), some (.ref 1), some (.ref 130), some (.int l3)] [.int (σ.1 0 (l3 + (1 : Int32)).toNatClampNeg), .ref 1]
        refine V.blk hC [(.aload_n 0, 1), (.iload_n 3, 1), (.iconst 2, 1), (.iadd, 1)] 376 [some (.ref 0), some (.ref 1), some (.ref 130), some (.int l3)] [.int (σ.1 0 (l3 + (1 : Int32)).toNatClampNeg), .ref 1] ⟨d_L_law_376, d_L_law_377, d_L_law_378, d_L_law_379, trivial⟩ (show tv_run _ _ _ _ = some (380, [some (.ref 0), some (.ref 1), some (.ref 130), some (.int l3)], [.int (l3 + (2 : Int32)), .ref 0, .int (σ.1 0 (l3 + (1 : Int32)).toNatClampNeg), .ref 1]) from rfl) ?_
        obtain ⟨hb49, hf⟩ := tm_if hf
        refine V.sld hC (hp_at kd_0) hb49 d_L_law_380 ?_
        show V X tm_lc tm_ls tm_n (hp σ) 381 [some (.ref 0), some (.ref 1), some (.ref 130), some (.int l3)] [.int (σ.1 0 (l3 + (2 : Int32)).toNatClampNeg), .int (σ.1 0 (l3 + (1 : Int32)).toNatClampNeg), .ref 1]
        obtain ⟨q50, hq50, hf⟩ := tm_bd hf
        refine V.callV hC tm_nest rfl (c_X_delivered σ (σ.1 0 (l3 + (1 : Int32)).toNatClampNeg) (σ.1 0 (l3 + (2 : Int32)).toNatClampNeg)  hq50) (tm_gd tc_X_delivered) tg_L_59 th_X_delivered ⟨tm_le rfl, tm_le rfl, tm_le rfl, tm_le rfl⟩ rfl (kd_in kd_1 (by decide)) (hp_at kd_1) (As := [.int (σ.1 0 (l3 + (1 : Int32)).toNatClampNeg), .int (σ.1 0 (l3 + (2 : Int32)).toNatClampNeg)]) (st := []) rfl (tm_le rfl) d_L_law_381 ?_
        rintro v n2 h2 ⟨rfl, rfl, rfl⟩
        show V X tm_lc tm_ls tm_n (hp q50.2) 384 [some (.ref 0), some (.ref 1), some (.ref 130), some (.int l3)] [.int q50.1]
        refine V.blk hC [(.aload_n 2, 1), (.aload_n 0, 1), (.iload_n 3, 1), (.iconst 1, 1), (.iadd, 1)] 384 [some (.ref 0), some (.ref 1), some (.ref 130), some (.int l3)] [.int q50.1] ⟨d_L_law_384, d_L_law_385, d_L_law_386, d_L_law_387, d_L_law_388, trivial⟩ (show tv_run _ _ _ _ = some (389, [some (.ref 0), some (.ref 1), some (.ref 130), some (.int l3)], [.int (l3 + (1 : Int32)), .ref 0, .ref 130, .int q50.1]) from rfl) ?_
        obtain ⟨hb51, hf⟩ := tm_if hf
        refine V.sld hC (hp_at kd_0) hb51 d_L_law_389 ?_
        show V X tm_lc tm_ls tm_n (hp q50.2) 390 [some (.ref 0), some (.ref 1), some (.ref 130), some (.int l3)] [.int (q50.2.1 0 (l3 + (1 : Int32)).toNatClampNeg), .ref 130, .int q50.1]
        refine V.blk hC [(.aload_n 0, 1), (.iload_n 3, 1), (.iconst 2, 1), (.iadd, 1)] 390 [some (.ref 0), some (.ref 1), some (.ref 130), some (.int l3)] [.int (q50.2.1 0 (l3 + (1 : Int32)).toNatClampNeg), .ref 130, .int q50.1] ⟨d_L_law_390, d_L_law_391, d_L_law_392, d_L_law_393, trivial⟩ (show tv_run _ _ _ _ = some (394, [some (.ref 0), some (.ref 1), some (.ref 130), some (.int l3)], [.int (l3 + (2 : Int32)), .ref 0, .int (q50.2.1 0 (l3 + (1 : Int32)).toNatClampNeg), .ref 130, .int q50.1]) from rfl) ?_
        obtain ⟨hb52, hf⟩ := tm_if hf
        refine V.sld hC (hp_at kd_0) hb52 d_L_law_394 ?_
        show V X tm_lc tm_ls tm_n (hp q50.2) 395 [some (.ref 0), some (.ref 1), some (.ref 130), some (.int l3)] [.int (q50.2.1 0 (l3 + (2 : Int32)).toNatClampNeg), .int (q50.2.1 0 (l3 + (1 : Int32)).toNatClampNeg), .ref 130, .int q50.1]
        obtain ⟨q53, hq53, hf⟩ := tm_bd hf
        refine V.callV hC tm_nest rfl (c_Y_delivered q50.2 (q50.2.1 0 (l3 + (1 : Int32)).toNatClampNeg) (q50.2.1 0 (l3 + (2 : Int32)).toNatClampNeg)  hq53) (tm_gd tc_Y_delivered) tg_L_62 th_Y_delivered ⟨tm_le rfl, tm_le rfl, tm_le rfl, tm_le rfl⟩ rfl (kd_in kd_130 (by decide)) (hp_at kd_130) (As := [.int (q50.2.1 0 (l3 + (1 : Int32)).toNatClampNeg), .int (q50.2.1 0 (l3 + (2 : Int32)).toNatClampNeg)]) (st := [.int q50.1]) rfl (tm_le rfl) d_L_law_395 ?_
        rintro v n2 h2 ⟨rfl, rfl, rfl⟩
        show V X tm_lc tm_ls tm_n (hp q53.2) 398 [some (.ref 0), some (.ref 1), some (.ref 130), some (.int l3)] [.int q53.1, .int q50.1]
        refine V.icmp_eq hC d_L_law_398 (tgt := 426) (by decide) (fun hc => ?_) (fun hc => ?_)
        · rw [if_pos hc] at hf
          exact V.less (tv_le_some (tv_le_some (tv_le_some (tv_le_some tv_le_nil)))) (c_L_law_L426 hC hE h1 hrc q53.2 l3  hf)
        · rw [if_neg hc] at hf
          refine V.blk hC [(.iconst 0, 1)] 401 [some (.ref 0), some (.ref 1), some (.ref 130), some (.int l3)] [] ⟨d_L_law_401, trivial⟩ (show tv_run _ _ _ _ = some (402, [some (.ref 0), some (.ref 1), some (.ref 130), some (.int l3)], [.int (0 : Int32)]) from rfl) ?_
          obtain rfl := Option.some.inj hf
          exact V.lret hC hE d_L_law_402 h1
      rw [if_neg hw8] at hf
      by_cases hw9 : ((σ.1 0 l3.toNatClampNeg) &&& (15 : Int32)) = (9 : Int32)
      · rw [if_pos hw9] at hf
        refine V.tableIn hC d_L_law_62 (tgt := 403) (by rw [hw9]; decide) (by rw [hw9]; decide) (by rw [hw9]; rfl) (by decide) ?_
        refine V.blk hC [(.aload_n 1, 1), (.aload_n 0, 1), (.iload_n 3, 1), (.iconst 1, 1), (.iadd, 1)] 403 [some (.ref 0), some (.ref 1), some (.ref 130), some (.int l3)] [] ⟨d_L_law_403, d_L_law_404, d_L_law_405, d_L_law_406, d_L_law_407, trivial⟩ (show tv_run _ _ _ _ = some (408, [some (.ref 0), some (.ref 1), some (.ref 130), some (.int l3)], [.int (l3 + (1 : Int32)), .ref 0, .ref 1]) from rfl) ?_
        obtain ⟨hb54, hf⟩ := tm_if hf
        refine V.sld hC (hp_at kd_0) hb54 d_L_law_408 ?_
        show V X tm_lc tm_ls tm_n (hp σ) 409 [some (.ref 0), some (.ref 1), some (.ref 130), some (.int l3)] [.int (σ.1 0 (l3 + (1 : Int32)).toNatClampNeg), .ref 1]
        obtain ⟨q55, hq55, hf⟩ := tm_bd hf
        refine V.callV hC tm_nest rfl (c_X_count σ (σ.1 0 (l3 + (1 : Int32)).toNatClampNeg)  hq55) (tm_gd tc_X_count) tg_L_63 th_X_count ⟨tm_le rfl, tm_le rfl, tm_le rfl, tm_le rfl⟩ rfl (kd_in kd_1 (by decide)) (hp_at kd_1) (As := [.int (σ.1 0 (l3 + (1 : Int32)).toNatClampNeg)]) (st := []) rfl (tm_le rfl) d_L_law_409 ?_
        rintro v n2 h2 ⟨rfl, rfl, rfl⟩
        show V X tm_lc tm_ls tm_n (hp q55.2) 412 [some (.ref 0), some (.ref 1), some (.ref 130), some (.int l3)] [.int q55.1]
        refine V.blk hC [(.aload_n 2, 1), (.aload_n 0, 1), (.iload_n 3, 1), (.iconst 1, 1), (.iadd, 1)] 412 [some (.ref 0), some (.ref 1), some (.ref 130), some (.int l3)] [.int q55.1] ⟨d_L_law_412, d_L_law_413, d_L_law_414, d_L_law_415, d_L_law_416, trivial⟩ (show tv_run _ _ _ _ = some (417, [some (.ref 0), some (.ref 1), some (.ref 130), some (.int l3)], [.int (l3 + (1 : Int32)), .ref 0, .ref 130, .int q55.1]) from rfl) ?_
        obtain ⟨hb56, hf⟩ := tm_if hf
        refine V.sld hC (hp_at kd_0) hb56 d_L_law_417 ?_
        show V X tm_lc tm_ls tm_n (hp q55.2) 418 [some (.ref 0), some (.ref 1), some (.ref 130), some (.int l3)] [.int (q55.2.1 0 (l3 + (1 : Int32)).toNatClampNeg), .ref 130, .int q55.1]
        obtain ⟨q57, hq57, hf⟩ := tm_bd hf
        refine V.callV hC tm_nest rfl (c_Y_count q55.2 (q55.2.1 0 (l3 + (1 : Int32)).toNatClampNeg)  hq57) (tm_gd tc_Y_count) tg_L_66 th_Y_count ⟨tm_le rfl, tm_le rfl, tm_le rfl, tm_le rfl⟩ rfl (kd_in kd_130 (by decide)) (hp_at kd_130) (As := [.int (q55.2.1 0 (l3 + (1 : Int32)).toNatClampNeg)]) (st := [.int q55.1]) rfl (tm_le rfl) d_L_law_418 ?_
        rintro v n2 h2 ⟨rfl, rfl, rfl⟩
        show V X tm_lc tm_ls tm_n (hp q57.2) 421 [some (.ref 0), some (.ref 1), some (.ref 130), some (.int l3)] [.int q57.1, .int q55.1]
        refine V.icmp_eq hC d_L_law_421 (tgt := 426) (by decide) (fun hc => ?_) (fun hc => ?_)
        · rw [if_pos hc] at hf
          exact V.less (tv_le_some (tv_le_some (tv_le_some (tv_le_some tv_le_nil)))) (c_L_law_L426 hC hE h1 hrc q57.2 l3  hf)
        · rw [if_neg hc] at hf
          refine V.blk hC [(.iconst 0, 1)] 424 [some (.ref 0), some (.ref 1), some (.ref 130), some (.int l3)] [] ⟨d_L_law_424, trivial⟩ (show tv_run _ _ _ _ = some (425, [some (.ref 0), some (.ref 1), some (.ref 130), some (.int l3)], [.int (0 : Int32)]) from rfl) ?_
          obtain rfl := Option.some.inj hf
          exact V.lret hC hE d_L_law_425 h1
      rw [if_neg hw9] at hf
      refine V.tableOut hC d_L_law_62 (tgt := 426) (tm_out10 hw0 hw1 hw2 hw3 hw4 hw5 hw6 hw7 hw8 hw9) (by decide) ?_
      exact V.less (tv_le_some (tv_le_some (tv_le_some (tv_le_some tv_le_nil)))) (c_L_law_L426 hC hE h1 hrc σ l3  hf)
theorem c_L_law {X : tv_X} {r : Int32 × tm_S} (hC : tv_K X code 4 "TrickleMeshLaw" tm_wg tm_ns tm_cl tm_ty room_1) (hE : tv_law X) (h1 : r.1 = 1) (σ : tm_S) (hf : f_L_law σ = some r) : V X tm_lc tm_ls tm_n (hp σ) 46 [some (.ref 0), some (.ref 1), some (.ref 130), none] [] := by
  unfold f_L_law at hf
  refine V.blk hC [(.iconst 3, 1), (.istore_n 3, 1)] 46 [some (.ref 0), some (.ref 1), some (.ref 130), none] [] ⟨d_L_law_46, d_L_law_47, trivial⟩ (show tv_run _ _ _ _ = some (48, [some (.ref 0), some (.ref 1), some (.ref 130), some (.int (3 : Int32))], []) from rfl) ?_
  exact V.less (tv_le_some (tv_le_some (tv_le_some (tv_le_some tv_le_nil)))) (c_L_law_L48 hC hE h1 tm_fl σ (3 : Int32)  hf)
