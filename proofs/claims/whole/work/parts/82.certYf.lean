set_option maxHeartbeats 4000000 in
set_option maxRecDepth 100000 in
theorem c_Y_valued_L52 {X : tv_X} {r : tm_S} (hC : tv_K X tb_Y_valued 6 "TrickleMeshModel" tm_wg tm_ns tm_cl tm_ty { frames := 4, cells := 0, slots := 0, locals := 93 }) (hr : tv_ret X none) (hE : tv_end X (tm_P none r) 0 0) (σ : tm_S) (l1 : Int32) (l3 : Int32) (s0 : Int32)  (hf : f_Y_valued_L52 σ l1 l3 s0 = some r) : V X 0 0 tm_n (hp σ) 52 [some (.ref 130), some (.int l1), none, some (.int l3), none, none] [.int s0] := by
  unfold f_Y_valued_L52 at hf
  refine V.blk hC [(.istore 4, 2), (.iload 4, 2)] 52 [some (.ref 130), some (.int l1), none, some (.int l3), none, none] [.int s0] ⟨d_Y_valued_52, d_Y_valued_54, trivial⟩ (show tv_run _ _ _ _ = some (56, [some (.ref 130), some (.int l1), none, some (.int l3), some (.int s0), none], [.int s0]) from rfl) ?_
  refine V.if_eq hC d_Y_valued_56 (tgt := 84) (by decide) (fun hc => ?_) (fun hc => ?_)
  · rw [if_pos hc] at hf
    exact V.less (tv_le_some (tv_le_some (tv_le_none (tv_le_some (tv_le_some (tv_le_none tv_le_nil)))))) (c_Y_valued_L84 hC hr hE σ l1 l3 s0  hf)
  · rw [if_neg hc] at hf
    refine V.blk hC [(.aload_n 0, 1)] 59 [some (.ref 130), some (.int l1), none, some (.int l3), some (.int s0), none] [] ⟨d_Y_valued_59, trivial⟩ (show tv_run _ _ _ _ = some (60, [some (.ref 130), some (.int l1), none, some (.int l3), some (.int s0), none], [.ref 130]) from rfl) ?_
    refine V.getf hC tf_Y_116 (kd_in kd_130 (by decide)) (hp_at kd_130) rfl d_Y_valued_60 ?_
    show V X 0 0 tm_n (hp σ) 63 [some (.ref 130), some (.int l1), none, some (.int l3), some (.int s0), none] [.ref 166]
    refine V.blk hC [(.iload_n 3, 1)] 63 [some (.ref 130), some (.int l1), none, some (.int l3), some (.int s0), none] [.ref 166] ⟨d_Y_valued_63, trivial⟩ (show tv_run _ _ _ _ = some (64, [some (.ref 130), some (.int l1), none, some (.int l3), some (.int s0), none], [.int l3, .ref 166]) from rfl) ?_
    obtain ⟨hb6, hf⟩ := tm_if hf
    refine V.zald hC (kd_in kd_166 (by decide)) (hp_at kd_166) rfl hb6 d_Y_valued_64 ?_
    show V X 0 0 tm_n (hp σ) 65 [some (.ref 130), some (.int l1), none, some (.int l3), some (.int s0), none] [.int (σ.1 166 l3.toNatClampNeg)]
    refine V.if_eq hC d_Y_valued_65 (tgt := 84) (by decide) (fun hc => ?_) (fun hc => ?_)
    · rw [if_pos hc] at hf
      exact V.less (tv_le_some (tv_le_some (tv_le_none (tv_le_some (tv_le_some (tv_le_none tv_le_nil)))))) (c_Y_valued_L84 hC hr hE σ l1 l3 s0  hf)
    · rw [if_neg hc] at hf
      refine V.blk hC [(.aload_n 0, 1), (.dup, 1)] 68 [some (.ref 130), some (.int l1), none, some (.int l3), some (.int s0), none] [] ⟨d_Y_valued_68, d_Y_valued_69, trivial⟩ (show tv_run _ _ _ _ = some (70, [some (.ref 130), some (.int l1), none, some (.int l3), some (.int s0), none], [.ref 130, .ref 130]) from rfl) ?_
      refine V.getf hC tf_Y_162 (kd_in kd_130 (by decide)) (hp_at kd_130) rfl d_Y_valued_70 ?_
      show V X 0 0 tm_n (hp σ) 73 [some (.ref 130), some (.int l1), none, some (.int l3), some (.int s0), none] [.int (σ.1 130 47), .ref 130]
      refine V.blk hC [(.iconst 1, 1), (.iadd, 1)] 73 [some (.ref 130), some (.int l1), none, some (.int l3), some (.int s0), none] [.int (σ.1 130 47), .ref 130] ⟨d_Y_valued_73, d_Y_valued_74, trivial⟩ (show tv_run _ _ _ _ = some (75, [some (.ref 130), some (.int l1), none, some (.int l3), some (.int s0), none], [.int ((σ.1 130 47) + (1 : Int32)), .ref 130]) from rfl) ?_
      obtain ⟨σ7, hσ7, hf⟩ := tm_ww hf
      refine V.seti hC tf_Y_162 tt_Y to_Y tn_Y rfl (by decide +kernel) tm_fi kd_130 (kd_in kd_130 (by decide)) rfl rfl (tm_le rfl) d_Y_valued_75 ?_
      rw [← hσ7]
      refine V.blk hC [(.aload_n 0, 1), (.iload_n 1, 1)] 78 [some (.ref 130), some (.int l1), none, some (.int l3), some (.int s0), none] [] ⟨d_Y_valued_78, d_Y_valued_79, trivial⟩ (show tv_run _ _ _ _ = some (80, [some (.ref 130), some (.int l1), none, some (.int l3), some (.int s0), none], [.int l1, .ref 130]) from rfl) ?_
      obtain ⟨q8, hq8, hf⟩ := tm_bd hf
      refine V.callV hC tm_nest rfl (c_Y_reset σ7 l1  hq8) (tm_gd tc_Y_reset) tg_Y_150 th_Y_reset ⟨tm_le rfl, tm_le rfl, tm_le rfl, tm_le rfl⟩ rfl (kd_in kd_130 (by decide)) (hp_at kd_130) (As := [.int l1]) (st := []) rfl (tm_le rfl) d_Y_valued_80 ?_
      rintro v n2 h2 ⟨rfl, rfl, rfl⟩
      show V X 0 0 tm_n (hp q8) 83 [some (.ref 130), some (.int l1), none, some (.int l3), some (.int s0), none] []
      obtain rfl := Option.some.inj hf
      exact V.vret hC hr hE d_Y_valued_83 ⟨rfl, rfl, rfl⟩
set_option maxHeartbeats 4000000 in
set_option maxRecDepth 100000 in
theorem c_Y_valued (σ : tm_S) (a1 : Int32) (a2 : Int32) (a3 : Int32)  {r : tm_S} (hf : f_Y_valued σ a1 a2 a3 = some r) : tv_Met ty_Y_valued (Cond.code ty_Y_valued tb_Y_valued 6 none :: tm_wg) tm_ns tm_cl tm_ty 4 93 0 0 [.ref 130, .int a1, .int a2, .int a3] tm_n (hp σ) (tm_P none r) := by
  refine tv_Met.of (by decide) rfl (tm_le rfl) ?_
  intro X hC hnm hr hE
  have hC : tv_K X tb_Y_valued 6 "TrickleMeshModel" tm_wg tm_ns tm_cl tm_ty { frames := 4, cells := 0, slots := 0, locals := 93 } := hC
  show V X 0 0 tm_n (hp σ) 0 [some (.ref 130), some (.int a1), some (.int a2), some (.int a3), none, none] []
  unfold f_Y_valued at hf
  refine V.blk hC [(.aload_n 0, 1)] 0 [some (.ref 130), some (.int a1), some (.int a2), some (.int a3), none, none] [] ⟨d_Y_valued_0, trivial⟩ (show tv_run _ _ _ _ = some (1, [some (.ref 130), some (.int a1), some (.int a2), some (.int a3), none, none], [.ref 130]) from rfl) ?_
  refine V.getf hC tf_Y_113 (kd_in kd_130 (by decide)) (hp_at kd_130) rfl d_Y_valued_1 ?_
  show V X 0 0 tm_n (hp σ) 4 [some (.ref 130), some (.int a1), some (.int a2), some (.int a3), none, none] [.ref 165]
  refine V.blk hC [(.iload_n 3, 1)] 4 [some (.ref 130), some (.int a1), some (.int a2), some (.int a3), none, none] [.ref 165] ⟨d_Y_valued_4, trivial⟩ (show tv_run _ _ _ _ = some (5, [some (.ref 130), some (.int a1), some (.int a2), some (.int a3), none, none], [.int a3, .ref 165]) from rfl) ?_
  obtain ⟨hb1, hf⟩ := tm_if hf
  refine V.zald hC (kd_in kd_165 (by decide)) (hp_at kd_165) rfl hb1 d_Y_valued_5 ?_
  show V X 0 0 tm_n (hp σ) 6 [some (.ref 130), some (.int a1), some (.int a2), some (.int a3), none, none] [.int (σ.1 165 a3.toNatClampNeg)]
  refine V.if_eq hC d_Y_valued_6 (tgt := 32) (by decide) (fun hc => ?_) (fun hc => ?_)
  · rw [if_pos hc] at hf
    refine V.blk hC [(.aload_n 0, 1)] 32 [some (.ref 130), some (.int a1), some (.int a2), some (.int a3), none, none] [] ⟨d_Y_valued_32, trivial⟩ (show tv_run _ _ _ _ = some (33, [some (.ref 130), some (.int a1), some (.int a2), some (.int a3), none, none], [.ref 130]) from rfl) ?_
    refine V.getf hC tf_Y_35 (kd_in kd_130 (by decide)) (hp_at kd_130) rfl d_Y_valued_33 ?_
    show V X 0 0 tm_n (hp σ) 36 [some (.ref 130), some (.int a1), some (.int a2), some (.int a3), none, none] [.ref 139]
    refine V.blk hC [(.iload_n 2, 1)] 36 [some (.ref 130), some (.int a1), some (.int a2), some (.int a3), none, none] [.ref 139] ⟨d_Y_valued_36, trivial⟩ (show tv_run _ _ _ _ = some (37, [some (.ref 130), some (.int a1), some (.int a2), some (.int a3), none, none], [.int a2, .ref 139]) from rfl) ?_
    obtain ⟨hb2, hf⟩ := tm_if hf
    refine V.iald hC (kd_in kd_139 (by decide)) (hp_at kd_139) rfl hb2 d_Y_valued_37 ?_
    show V X 0 0 tm_n (hp σ) 38 [some (.ref 130), some (.int a1), some (.int a2), some (.int a3), none, none] [.int (σ.1 139 a2.toNatClampNeg)]
    refine V.blk hC [(.aload_n 0, 1)] 38 [some (.ref 130), some (.int a1), some (.int a2), some (.int a3), none, none] [.int (σ.1 139 a2.toNatClampNeg)] ⟨d_Y_valued_38, trivial⟩ (show tv_run _ _ _ _ = some (39, [some (.ref 130), some (.int a1), some (.int a2), some (.int a3), none, none], [.ref 130, .int (σ.1 139 a2.toNatClampNeg)]) from rfl) ?_
    refine V.getf hC tf_Y_35 (kd_in kd_130 (by decide)) (hp_at kd_130) rfl d_Y_valued_39 ?_
    show V X 0 0 tm_n (hp σ) 42 [some (.ref 130), some (.int a1), some (.int a2), some (.int a3), none, none] [.ref 139, .int (σ.1 139 a2.toNatClampNeg)]
    refine V.blk hC [(.iload_n 1, 1)] 42 [some (.ref 130), some (.int a1), some (.int a2), some (.int a3), none, none] [.ref 139, .int (σ.1 139 a2.toNatClampNeg)] ⟨d_Y_valued_42, trivial⟩ (show tv_run _ _ _ _ = some (43, [some (.ref 130), some (.int a1), some (.int a2), some (.int a3), none, none], [.int a1, .ref 139, .int (σ.1 139 a2.toNatClampNeg)]) from rfl) ?_
    obtain ⟨hb3, hf⟩ := tm_if hf
    refine V.iald hC (kd_in kd_139 (by decide)) (hp_at kd_139) rfl hb3 d_Y_valued_43 ?_
    show V X 0 0 tm_n (hp σ) 44 [some (.ref 130), some (.int a1), some (.int a2), some (.int a3), none, none] [.int (σ.1 139 a1.toNatClampNeg), .int (σ.1 139 a2.toNatClampNeg)]
    refine V.icmp_gt hC d_Y_valued_44 (tgt := 51) (by decide) (fun hc => ?_) (fun hc => ?_)
    · rw [if_pos hc] at hf
      refine V.blk hC [(.iconst 0, 1)] 51 [some (.ref 130), some (.int a1), some (.int a2), some (.int a3), none, none] [] ⟨d_Y_valued_51, trivial⟩ (show tv_run _ _ _ _ = some (52, [some (.ref 130), some (.int a1), some (.int a2), some (.int a3), none, none], [.int (0 : Int32)]) from rfl) ?_
      exact V.less (tv_le_some (tv_le_some (tv_le_none (tv_le_some (tv_le_none (tv_le_none tv_le_nil)))))) (c_Y_valued_L52 hC hr hE σ a1 a3 (0 : Int32)  hf)
    · rw [if_neg hc] at hf
      refine V.blk hC [(.iconst 1, 1)] 47 [some (.ref 130), some (.int a1), some (.int a2), some (.int a3), none, none] [] ⟨d_Y_valued_47, trivial⟩ (show tv_run _ _ _ _ = some (48, [some (.ref 130), some (.int a1), some (.int a2), some (.int a3), none, none], [.int (1 : Int32)]) from rfl) ?_
      refine V.goto hC d_Y_valued_48 (tgt := 52) (by decide) ?_
      exact V.less (tv_le_some (tv_le_some (tv_le_none (tv_le_some (tv_le_none (tv_le_none tv_le_nil)))))) (c_Y_valued_L52 hC hr hE σ a1 a3 (1 : Int32)  hf)
  · rw [if_neg hc] at hf
    refine V.blk hC [(.aload_n 0, 1)] 9 [some (.ref 130), some (.int a1), some (.int a2), some (.int a3), none, none] [] ⟨d_Y_valued_9, trivial⟩ (show tv_run _ _ _ _ = some (10, [some (.ref 130), some (.int a1), some (.int a2), some (.int a3), none, none], [.ref 130]) from rfl) ?_
    refine V.getf hC tf_Y_35 (kd_in kd_130 (by decide)) (hp_at kd_130) rfl d_Y_valued_10 ?_
    show V X 0 0 tm_n (hp σ) 13 [some (.ref 130), some (.int a1), some (.int a2), some (.int a3), none, none] [.ref 139]
    refine V.blk hC [(.iload_n 2, 1)] 13 [some (.ref 130), some (.int a1), some (.int a2), some (.int a3), none, none] [.ref 139] ⟨d_Y_valued_13, trivial⟩ (show tv_run _ _ _ _ = some (14, [some (.ref 130), some (.int a1), some (.int a2), some (.int a3), none, none], [.int a2, .ref 139]) from rfl) ?_
    obtain ⟨hb4, hf⟩ := tm_if hf
    refine V.iald hC (kd_in kd_139 (by decide)) (hp_at kd_139) rfl hb4 d_Y_valued_14 ?_
    show V X 0 0 tm_n (hp σ) 15 [some (.ref 130), some (.int a1), some (.int a2), some (.int a3), none, none] [.int (σ.1 139 a2.toNatClampNeg)]
    refine V.blk hC [(.aload_n 0, 1)] 15 [some (.ref 130), some (.int a1), some (.int a2), some (.int a3), none, none] [.int (σ.1 139 a2.toNatClampNeg)] ⟨d_Y_valued_15, trivial⟩ (show tv_run _ _ _ _ = some (16, [some (.ref 130), some (.int a1), some (.int a2), some (.int a3), none, none], [.ref 130, .int (σ.1 139 a2.toNatClampNeg)]) from rfl) ?_
    refine V.getf hC tf_Y_35 (kd_in kd_130 (by decide)) (hp_at kd_130) rfl d_Y_valued_16 ?_
    show V X 0 0 tm_n (hp σ) 19 [some (.ref 130), some (.int a1), some (.int a2), some (.int a3), none, none] [.ref 139, .int (σ.1 139 a2.toNatClampNeg)]
    refine V.blk hC [(.iload_n 1, 1)] 19 [some (.ref 130), some (.int a1), some (.int a2), some (.int a3), none, none] [.ref 139, .int (σ.1 139 a2.toNatClampNeg)] ⟨d_Y_valued_19, trivial⟩ (show tv_run _ _ _ _ = some (20, [some (.ref 130), some (.int a1), some (.int a2), some (.int a3), none, none], [.int a1, .ref 139, .int (σ.1 139 a2.toNatClampNeg)]) from rfl) ?_
    obtain ⟨hb5, hf⟩ := tm_if hf
    refine V.iald hC (kd_in kd_139 (by decide)) (hp_at kd_139) rfl hb5 d_Y_valued_20 ?_
    show V X 0 0 tm_n (hp σ) 21 [some (.ref 130), some (.int a1), some (.int a2), some (.int a3), none, none] [.int (σ.1 139 a1.toNatClampNeg), .int (σ.1 139 a2.toNatClampNeg)]
    refine V.icmp_lt hC d_Y_valued_21 (tgt := 28) (by decide) (fun hc => ?_) (fun hc => ?_)
    · rw [if_pos hc] at hf
      refine V.blk hC [(.iconst 0, 1)] 28 [some (.ref 130), some (.int a1), some (.int a2), some (.int a3), none, none] [] ⟨d_Y_valued_28, trivial⟩ (show tv_run _ _ _ _ = some (29, [some (.ref 130), some (.int a1), some (.int a2), some (.int a3), none, none], [.int (0 : Int32)]) from rfl) ?_
      refine V.goto hC d_Y_valued_29 (tgt := 52) (by decide) ?_
      exact V.less (tv_le_some (tv_le_some (tv_le_none (tv_le_some (tv_le_none (tv_le_none tv_le_nil)))))) (c_Y_valued_L52 hC hr hE σ a1 a3 (0 : Int32)  hf)
    · rw [if_neg hc] at hf
      refine V.blk hC [(.iconst 1, 1)] 24 [some (.ref 130), some (.int a1), some (.int a2), some (.int a3), none, none] [] ⟨d_Y_valued_24, trivial⟩ (show tv_run _ _ _ _ = some (25, [some (.ref 130), some (.int a1), some (.int a2), some (.int a3), none, none], [.int (1 : Int32)]) from rfl) ?_
      refine V.goto hC d_Y_valued_25 (tgt := 52) (by decide) ?_
      exact V.less (tv_le_some (tv_le_some (tv_le_none (tv_le_some (tv_le_none (tv_le_none tv_le_nil)))))) (c_Y_valued_L52 hC hr hE σ a1 a3 (1 : Int32)  hf)
set_option maxHeartbeats 4000000 in
set_option maxRecDepth 100000 in
theorem c_Y_nearWasOn_L42 {X : tv_X} {r : Int32 × tm_S} (hC : tv_K X tb_Y_nearWasOn 4 "TrickleMeshModel" tm_wg tm_ns tm_cl tm_ty { frames := 0, cells := 0, slots := 0, locals := 0 }) (hr : tv_ret X (some .boolean)) (hE : tv_end X (tm_P (some (.int r.1)) r.2) 0 0) {rc : tm_S → Int32 → Int32 → Int32 → Option (Int32 × tm_S)} (hrc : ∀ (σ : tm_S) (l1 : Int32) (l2 : Int32) (l3 : Int32), rc σ l1 l2 l3 = some r → V X 0 0 tm_n (hp σ) 4 [some (.ref 130), some (.int l1), some (.int l2), some (.int l3)] []) (σ : tm_S) (l1 : Int32) (l3 : Int32) (s0 : Int32)  (hf : f_Y_nearWasOn_L42 rc σ l1 l3 s0 = some r) : V X 0 0 tm_n (hp σ) 42 [some (.ref 130), some (.int l1), none, some (.int l3)] [.int s0] := by
  unfold f_Y_nearWasOn_L42 at hf
  refine V.blk hC [(.istore_n 2, 1), (.iinc 3 1, 3)] 42 [some (.ref 130), some (.int l1), none, some (.int l3)] [.int s0] ⟨d_Y_nearWasOn_42, d_Y_nearWasOn_43, trivial⟩ (show tv_run _ _ _ _ = some (46, [some (.ref 130), some (.int l1), some (.int s0), some (.int (l3 + (1 : Int32)))], []) from rfl) ?_
  refine V.goto hC d_Y_nearWasOn_46 (tgt := 4) (by decide) ?_
  exact V.less (tv_le_some (tv_le_some (tv_le_some (tv_le_some tv_le_nil)))) (hrc σ l1 s0 (l3 + (1 : Int32))  hf)
set_option maxHeartbeats 4000000 in
set_option maxRecDepth 100000 in
theorem c_Y_nearWasOn_L37 {X : tv_X} {r : Int32 × tm_S} (hC : tv_K X tb_Y_nearWasOn 4 "TrickleMeshModel" tm_wg tm_ns tm_cl tm_ty { frames := 0, cells := 0, slots := 0, locals := 0 }) (hr : tv_ret X (some .boolean)) (hE : tv_end X (tm_P (some (.int r.1)) r.2) 0 0) {rc : tm_S → Int32 → Int32 → Int32 → Option (Int32 × tm_S)} (hrc : ∀ (σ : tm_S) (l1 : Int32) (l2 : Int32) (l3 : Int32), rc σ l1 l2 l3 = some r → V X 0 0 tm_n (hp σ) 4 [some (.ref 130), some (.int l1), some (.int l2), some (.int l3)] []) (σ : tm_S) (l1 : Int32) (l3 : Int32)  (hf : f_Y_nearWasOn_L37 rc σ l1 l3 = some r) : V X 0 0 tm_n (hp σ) 37 [some (.ref 130), some (.int l1), none, some (.int l3)] [] := by
  unfold f_Y_nearWasOn_L37 at hf
  refine V.blk hC [(.iconst 1, 1)] 37 [some (.ref 130), some (.int l1), none, some (.int l3)] [] ⟨d_Y_nearWasOn_37, trivial⟩ (show tv_run _ _ _ _ = some (38, [some (.ref 130), some (.int l1), none, some (.int l3)], [.int (1 : Int32)]) from rfl) ?_
  refine V.goto hC d_Y_nearWasOn_38 (tgt := 42) (by decide) ?_
  exact V.less (tv_le_some (tv_le_some (tv_le_none (tv_le_some tv_le_nil)))) (c_Y_nearWasOn_L42 hC hr hE hrc σ l1 l3 (1 : Int32)  hf)
set_option maxHeartbeats 4000000 in
set_option maxRecDepth 100000 in
theorem c_Y_nearWasOn_L41 {X : tv_X} {r : Int32 × tm_S} (hC : tv_K X tb_Y_nearWasOn 4 "TrickleMeshModel" tm_wg tm_ns tm_cl tm_ty { frames := 0, cells := 0, slots := 0, locals := 0 }) (hr : tv_ret X (some .boolean)) (hE : tv_end X (tm_P (some (.int r.1)) r.2) 0 0) {rc : tm_S → Int32 → Int32 → Int32 → Option (Int32 × tm_S)} (hrc : ∀ (σ : tm_S) (l1 : Int32) (l2 : Int32) (l3 : Int32), rc σ l1 l2 l3 = some r → V X 0 0 tm_n (hp σ) 4 [some (.ref 130), some (.int l1), some (.int l2), some (.int l3)] []) (σ : tm_S) (l1 : Int32) (l3 : Int32)  (hf : f_Y_nearWasOn_L41 rc σ l1 l3 = some r) : V X 0 0 tm_n (hp σ) 41 [some (.ref 130), some (.int l1), none, some (.int l3)] [] := by
  unfold f_Y_nearWasOn_L41 at hf
  refine V.blk hC [(.iconst 0, 1)] 41 [some (.ref 130), some (.int l1), none, some (.int l3)] [] ⟨d_Y_nearWasOn_41, trivial⟩ (show tv_run _ _ _ _ = some (42, [some (.ref 130), some (.int l1), none, some (.int l3)], [.int (0 : Int32)]) from rfl) ?_
  exact V.less (tv_le_some (tv_le_some (tv_le_none (tv_le_some tv_le_nil)))) (c_Y_nearWasOn_L42 hC hr hE hrc σ l1 l3 (0 : Int32)  hf)
set_option maxHeartbeats 4000000 in
set_option maxRecDepth 100000 in
theorem c_Y_nearWasOn_L4 {X : tv_X} {r : Int32 × tm_S} (hC : tv_K X tb_Y_nearWasOn 4 "TrickleMeshModel" tm_wg tm_ns tm_cl tm_ty { frames := 0, cells := 0, slots := 0, locals := 0 }) (hr : tv_ret X (some .boolean)) (hE : tv_end X (tm_P (some (.int r.1)) r.2) 0 0) : ∀ (k : Nat) (σ : tm_S) (l1 : Int32) (l2 : Int32) (l3 : Int32), f_Y_nearWasOn_L4 k σ l1 l2 l3 = some r → V X 0 0 tm_n (hp σ) 4 [some (.ref 130), some (.int l1), some (.int l2), some (.int l3)] [] := by
  intro k
  induction k with
  | zero => intro σ l1 l2 l3  hf; simp only [f_Y_nearWasOn_L4] at hf; cases hf
  | succ k hrc =>
    intro σ l1 l2 l3  hf
    rw [f_Y_nearWasOn_L4] at hf
    refine V.blk hC [(.iload_n 3, 1), (.bipush 7, 2)] 4 [some (.ref 130), some (.int l1), some (.int l2), some (.int l3)] [] ⟨d_Y_nearWasOn_4, d_Y_nearWasOn_5, trivial⟩ (show tv_run _ _ _ _ = some (7, [some (.ref 130), some (.int l1), some (.int l2), some (.int l3)], [.int (7 : Int32), .int l3]) from rfl) ?_
    refine V.icmp_ge hC d_Y_nearWasOn_7 (tgt := 49) (by decide) (fun hc => ?_) (fun hc => ?_)
    · rw [if_pos hc] at hf
      refine V.blk hC [(.iload_n 2, 1)] 49 [some (.ref 130), some (.int l1), some (.int l2), some (.int l3)] [] ⟨d_Y_nearWasOn_49, trivial⟩ (show tv_run _ _ _ _ = some (50, [some (.ref 130), some (.int l1), some (.int l2), some (.int l3)], [.int l2]) from rfl) ?_
      obtain ⟨hz1, hf⟩ := tm_if hf
      obtain rfl := Option.some.inj hf
      exact V.zret hC hr hE (tm_nz hz1) d_Y_nearWasOn_50 ⟨rfl, rfl, rfl⟩
    · rw [if_neg hc] at hf
      refine V.blk hC [(.iload_n 2, 1)] 10 [some (.ref 130), some (.int l1), some (.int l2), some (.int l3)] [] ⟨d_Y_nearWasOn_10, trivial⟩ (show tv_run _ _ _ _ = some (11, [some (.ref 130), some (.int l1), some (.int l2), some (.int l3)], [.int l2]) from rfl) ?_
      refine V.if_ne hC d_Y_nearWasOn_11 (tgt := 37) (by decide) (fun hc => ?_) (fun hc => ?_)
      · rw [if_neg hc] at hf
        exact V.less (tv_le_some (tv_le_some (tv_le_none (tv_le_some tv_le_nil)))) (c_Y_nearWasOn_L37 hC hr hE hrc σ l1 l3  hf)
      · rw [if_pos hc] at hf
        refine V.blk hC [(.aload_n 0, 1)] 14 [some (.ref 130), some (.int l1), some (.int l2), some (.int l3)] [] ⟨d_Y_nearWasOn_14, trivial⟩ (show tv_run _ _ _ _ = some (15, [some (.ref 130), some (.int l1), some (.int l2), some (.int l3)], [.ref 130]) from rfl) ?_
        refine V.getf hC tf_Y_7 (kd_in kd_130 (by decide)) (hp_at kd_130) rfl d_Y_nearWasOn_15 ?_
        show V X 0 0 tm_n (hp σ) 18 [some (.ref 130), some (.int l1), some (.int l2), some (.int l3)] [.ref 131]
        refine V.blk hC [(.bipush 7, 2), (.iload_n 1, 1), (.imul, 1), (.iload_n 3, 1), (.iadd, 1)] 18 [some (.ref 130), some (.int l1), some (.int l2), some (.int l3)] [.ref 131] ⟨d_Y_nearWasOn_18, d_Y_nearWasOn_20, d_Y_nearWasOn_21, d_Y_nearWasOn_22, d_Y_nearWasOn_23, trivial⟩ (show tv_run _ _ _ _ = some (24, [some (.ref 130), some (.int l1), some (.int l2), some (.int l3)], [.int (((7 : Int32) * l1) + l3), .ref 131]) from rfl) ?_
        obtain ⟨hb2, hf⟩ := tm_if hf
        refine V.iald hC (kd_in kd_131 (by decide)) (hp_at kd_131) rfl hb2 d_Y_nearWasOn_24 ?_
        show V X 0 0 tm_n (hp σ) 25 [some (.ref 130), some (.int l1), some (.int l2), some (.int l3)] [.int (σ.1 131 (((7 : Int32) * l1) + l3).toNatClampNeg)]
        refine V.if_le hC d_Y_nearWasOn_25 (tgt := 41) (by decide) (fun hc => ?_) (fun hc => ?_)
        · rw [if_pos hc] at hf
          exact V.less (tv_le_some (tv_le_some (tv_le_none (tv_le_some tv_le_nil)))) (c_Y_nearWasOn_L41 hC hr hE hrc σ l1 l3  hf)
        · rw [if_neg hc] at hf
          refine V.blk hC [(.aload_n 0, 1)] 28 [some (.ref 130), some (.int l1), some (.int l2), some (.int l3)] [] ⟨d_Y_nearWasOn_28, trivial⟩ (show tv_run _ _ _ _ = some (29, [some (.ref 130), some (.int l1), some (.int l2), some (.int l3)], [.ref 130]) from rfl) ?_
          refine V.getf hC tf_Y_125 (kd_in kd_130 (by decide)) (hp_at kd_130) rfl d_Y_nearWasOn_29 ?_
          show V X 0 0 tm_n (hp σ) 32 [some (.ref 130), some (.int l1), some (.int l2), some (.int l3)] [.ref 169]
          refine V.blk hC [(.iload_n 3, 1)] 32 [some (.ref 130), some (.int l1), some (.int l2), some (.int l3)] [.ref 169] ⟨d_Y_nearWasOn_32, trivial⟩ (show tv_run _ _ _ _ = some (33, [some (.ref 130), some (.int l1), some (.int l2), some (.int l3)], [.int l3, .ref 169]) from rfl) ?_
          obtain ⟨hb3, hf⟩ := tm_if hf
          refine V.zald hC (kd_in kd_169 (by decide)) (hp_at kd_169) rfl hb3 d_Y_nearWasOn_33 ?_
          show V X 0 0 tm_n (hp σ) 34 [some (.ref 130), some (.int l1), some (.int l2), some (.int l3)] [.int (σ.1 169 l3.toNatClampNeg)]
          refine V.if_eq hC d_Y_nearWasOn_34 (tgt := 41) (by decide) (fun hc => ?_) (fun hc => ?_)
          · rw [if_pos hc] at hf
            exact V.less (tv_le_some (tv_le_some (tv_le_none (tv_le_some tv_le_nil)))) (c_Y_nearWasOn_L41 hC hr hE hrc σ l1 l3  hf)
          · rw [if_neg hc] at hf
            exact V.less (tv_le_some (tv_le_some (tv_le_none (tv_le_some tv_le_nil)))) (c_Y_nearWasOn_L37 hC hr hE hrc σ l1 l3  hf)
set_option maxHeartbeats 4000000 in
set_option maxRecDepth 100000 in
theorem c_Y_nearWasOn (σ : tm_S) (a1 : Int32)  {r : Int32 × tm_S} (hf : f_Y_nearWasOn σ a1 = some r) : tv_Met ty_Y_nearWasOn (Cond.code ty_Y_nearWasOn tb_Y_nearWasOn 4 (some .boolean) :: tm_wg) tm_ns tm_cl tm_ty 0 0 0 0 [.ref 130, .int a1] tm_n (hp σ) (tm_P (some (.int r.1)) r.2) := by
  refine tv_Met.of (by decide) rfl (tm_le rfl) ?_
  intro X hC hnm hr hE
  have hC : tv_K X tb_Y_nearWasOn 4 "TrickleMeshModel" tm_wg tm_ns tm_cl tm_ty { frames := 0, cells := 0, slots := 0, locals := 0 } := hC
  show V X 0 0 tm_n (hp σ) 0 [some (.ref 130), some (.int a1), none, none] []
  unfold f_Y_nearWasOn at hf
  refine V.blk hC [(.iconst 0, 1), (.istore_n 2, 1), (.iconst 0, 1), (.istore_n 3, 1)] 0 [some (.ref 130), some (.int a1), none, none] [] ⟨d_Y_nearWasOn_0, d_Y_nearWasOn_1, d_Y_nearWasOn_2, d_Y_nearWasOn_3, trivial⟩ (show tv_run _ _ _ _ = some (4, [some (.ref 130), some (.int a1), some (.int (0 : Int32)), some (.int (0 : Int32))], []) from rfl) ?_
  exact V.less (tv_le_some (tv_le_some (tv_le_some (tv_le_some tv_le_nil)))) (c_Y_nearWasOn_L4 hC hr hE tm_fu σ a1 (0 : Int32) (0 : Int32)  hf)
set_option maxHeartbeats 4000000 in
set_option maxRecDepth 100000 in
theorem c_Y_air_L148 {X : tv_X} {r : tm_S} (hC : tv_K X tb_Y_air 3 "TrickleMeshModel" tm_wg tm_ns tm_cl tm_ty { frames := 6, cells := 0, slots := 0, locals := 142 }) (hr : tv_ret X none) (hE : tv_end X (tm_P none r) 0 0) (σ : tm_S) (s0 : Int32) (s2 : Int32)  (hf : f_Y_air_L148 σ s0 s2 = some r) : V X 0 0 tm_n (hp σ) 148 [some (.ref 130), none, none] [.int s0, .ref 130, .int s2, .ref 149] := by
  unfold f_Y_air_L148 at hf
  obtain ⟨q27, hq27, hf⟩ := tm_bd hf
  refine V.callV hC tm_nest rfl (c_Y_draw σ s0  hq27) (tm_gd tc_Y_draw) tg_Y_158 th_Y_draw ⟨tm_le rfl, tm_le rfl, tm_le rfl, tm_le rfl⟩ rfl (kd_in kd_130 (by decide)) (hp_at kd_130) (As := [.int s0]) (st := [.int s2, .ref 149]) rfl (tm_le rfl) d_Y_air_148 ?_
  rintro v n2 h2 ⟨rfl, rfl, rfl⟩
  show V X 0 0 tm_n (hp q27.2) 151 [some (.ref 130), none, none] [.int q27.1, .int s2, .ref 149]
  obtain ⟨hb28, hf⟩ := tm_if hf
  obtain ⟨σ29, hσ29, hf⟩ := tm_ww hf
  refine V.seta hC kd_149 (kd_in kd_149 (by decide)) rfl rfl rfl hb28 d_Y_air_151 ?_
  rw [← hσ29]
  refine V.goto hC d_Y_air_152 (tgt := 172) (by decide) ?_
  obtain rfl := Option.some.inj hf
  exact V.vret hC hr hE d_Y_air_172 ⟨rfl, rfl, rfl⟩
set_option maxHeartbeats 4000000 in
set_option maxRecDepth 100000 in
theorem c_Y_air (σ : tm_S) (a1 : Int32)  {r : tm_S} (hf : f_Y_air σ a1 = some r) : tv_Met ty_Y_air (Cond.code ty_Y_air tb_Y_air 3 none :: tm_wg) tm_ns tm_cl tm_ty 6 142 0 0 [.ref 130, .int a1] tm_n (hp σ) (tm_P none r) := by
  refine tv_Met.of (by decide) rfl (tm_le rfl) ?_
  intro X hC hnm hr hE
  have hC : tv_K X tb_Y_air 3 "TrickleMeshModel" tm_wg tm_ns tm_cl tm_ty { frames := 6, cells := 0, slots := 0, locals := 142 } := hC
  show V X 0 0 tm_n (hp σ) 0 [some (.ref 130), some (.int a1), none] []
  unfold f_Y_air at hf
  refine V.blk hC [(.aload_n 0, 1)] 0 [some (.ref 130), some (.int a1), none] [] ⟨d_Y_air_0, trivial⟩ (show tv_run _ _ _ _ = some (1, [some (.ref 130), some (.int a1), none], [.ref 130]) from rfl) ?_
  refine V.getf hC tf_Y_119 (kd_in kd_130 (by decide)) (hp_at kd_130) rfl d_Y_air_1 ?_
  show V X 0 0 tm_n (hp σ) 4 [some (.ref 130), some (.int a1), none] [.ref 167]
  refine V.blk hC [(.iload_n 1, 1), (.iconst 0, 1)] 4 [some (.ref 130), some (.int a1), none] [.ref 167] ⟨d_Y_air_4, d_Y_air_5, trivial⟩ (show tv_run _ _ _ _ = some (6, [some (.ref 130), some (.int a1), none], [.int (0 : Int32), .int a1, .ref 167]) from rfl) ?_
  obtain ⟨hb1, hf⟩ := tm_if hf
  obtain ⟨σ2, hσ2, hf⟩ := tm_ww hf
  refine V.seta hC kd_167 (kd_in kd_167 (by decide)) rfl rfl rfl hb1 d_Y_air_6 ?_
  rw [← hσ2]
  refine V.blk hC [(.aload_n 0, 1)] 7 [some (.ref 130), some (.int a1), none] [] ⟨d_Y_air_7, trivial⟩ (show tv_run _ _ _ _ = some (8, [some (.ref 130), some (.int a1), none], [.ref 130]) from rfl) ?_
  refine V.getf hC tf_Y_74 (kd_in kd_130 (by decide)) (hp_at kd_130) rfl d_Y_air_8 ?_
  show V X 0 0 tm_n (hp σ2) 11 [some (.ref 130), some (.int a1), none] [.ref 152]
  refine V.blk hC [(.iload_n 1, 1)] 11 [some (.ref 130), some (.int a1), none] [.ref 152] ⟨d_Y_air_11, trivial⟩ (show tv_run _ _ _ _ = some (12, [some (.ref 130), some (.int a1), none], [.int a1, .ref 152]) from rfl) ?_
  obtain ⟨hb3, hf⟩ := tm_if hf
  refine V.iald hC (kd_in kd_152 (by decide)) (hp_at kd_152) rfl hb3 d_Y_air_12 ?_
  show V X 0 0 tm_n (hp σ2) 13 [some (.ref 130), some (.int a1), none] [.int (σ2.1 152 a1.toNatClampNeg)]
  refine V.if_lt hC d_Y_air_13 (tgt := 45) (by decide) (fun hc => ?_) (fun hc => ?_)
  · rw [if_pos hc] at hf
    refine V.blk hC [(.aload_n 0, 1)] 45 [some (.ref 130), some (.int a1), none] [] ⟨d_Y_air_45, trivial⟩ (show tv_run _ _ _ _ = some (46, [some (.ref 130), some (.int a1), none], [.ref 130]) from rfl) ?_
    refine V.getf hC tf_Y_77 (kd_in kd_130 (by decide)) (hp_at kd_130) rfl d_Y_air_46 ?_
    show V X 0 0 tm_n (hp σ2) 49 [some (.ref 130), some (.int a1), none] [.ref 153]
    refine V.blk hC [(.iload_n 1, 1)] 49 [some (.ref 130), some (.int a1), none] [.ref 153] ⟨d_Y_air_49, trivial⟩ (show tv_run _ _ _ _ = some (50, [some (.ref 130), some (.int a1), none], [.int a1, .ref 153]) from rfl) ?_
    obtain ⟨hb4, hf⟩ := tm_if hf
    refine V.zald hC (kd_in kd_153 (by decide)) (hp_at kd_153) rfl hb4 d_Y_air_50 ?_
    show V X 0 0 tm_n (hp σ2) 51 [some (.ref 130), some (.int a1), none] [.int (σ2.1 153 a1.toNatClampNeg)]
    refine V.if_ne hC d_Y_air_51 (tgt := 172) (by decide) (fun hc => ?_) (fun hc => ?_)
    · rw [if_neg hc] at hf
      obtain rfl := Option.some.inj hf
      exact V.vret hC hr hE d_Y_air_172 ⟨rfl, rfl, rfl⟩
    · rw [if_pos hc] at hf
      refine V.blk hC [(.aload_n 0, 1)] 54 [some (.ref 130), some (.int a1), none] [] ⟨d_Y_air_54, trivial⟩ (show tv_run _ _ _ _ = some (55, [some (.ref 130), some (.int a1), none], [.ref 130]) from rfl) ?_
      refine V.getf hC tf_Y_62 (kd_in kd_130 (by decide)) (hp_at kd_130) rfl d_Y_air_55 ?_
      show V X 0 0 tm_n (hp σ2) 58 [some (.ref 130), some (.int a1), none] [.ref 148]
      refine V.blk hC [(.iload_n 1, 1)] 58 [some (.ref 130), some (.int a1), none] [.ref 148] ⟨d_Y_air_58, trivial⟩ (show tv_run _ _ _ _ = some (59, [some (.ref 130), some (.int a1), none], [.int a1, .ref 148]) from rfl) ?_
      obtain ⟨hb5, hf⟩ := tm_if hf
      refine V.iald hC (kd_in kd_148 (by decide)) (hp_at kd_148) rfl hb5 d_Y_air_59 ?_
      show V X 0 0 tm_n (hp σ2) 60 [some (.ref 130), some (.int a1), none] [.int (σ2.1 148 a1.toNatClampNeg)]
      refine V.if_le hC d_Y_air_60 (tgt := 172) (by decide) (fun hc => ?_) (fun hc => ?_)
      · rw [if_pos hc] at hf
        obtain rfl := Option.some.inj hf
        exact V.vret hC hr hE d_Y_air_172 ⟨rfl, rfl, rfl⟩
      · rw [if_neg hc] at hf
        refine V.blk hC [(.aload_n 0, 1)] 63 [some (.ref 130), some (.int a1), none] [] ⟨d_Y_air_63, trivial⟩ (show tv_run _ _ _ _ = some (64, [some (.ref 130), some (.int a1), none], [.ref 130]) from rfl) ?_
        refine V.getf hC tf_Y_65 (kd_in kd_130 (by decide)) (hp_at kd_130) rfl d_Y_air_64 ?_
        show V X 0 0 tm_n (hp σ2) 67 [some (.ref 130), some (.int a1), none] [.ref 149]
        refine V.blk hC [(.iload_n 1, 1)] 67 [some (.ref 130), some (.int a1), none] [.ref 149] ⟨d_Y_air_67, trivial⟩ (show tv_run _ _ _ _ = some (68, [some (.ref 130), some (.int a1), none], [.int a1, .ref 149]) from rfl) ?_
        obtain ⟨hb6, hf⟩ := tm_if hf
        refine V.iald hC (kd_in kd_149 (by decide)) (hp_at kd_149) rfl hb6 d_Y_air_68 ?_
        show V X 0 0 tm_n (hp σ2) 69 [some (.ref 130), some (.int a1), none] [.int (σ2.1 149 a1.toNatClampNeg)]
        refine V.if_le hC d_Y_air_69 (tgt := 85) (by decide) (fun hc => ?_) (fun hc => ?_)
        · rw [if_pos hc] at hf
          refine V.blk hC [(.aload_n 0, 1), (.iload_n 1, 1)] 85 [some (.ref 130), some (.int a1), none] [] ⟨d_Y_air_85, d_Y_air_86, trivial⟩ (show tv_run _ _ _ _ = some (87, [some (.ref 130), some (.int a1), none], [.int a1, .ref 130]) from rfl) ?_
          obtain ⟨q7, hq7, hf⟩ := tm_bd hf
          refine V.callV hC tm_nest rfl (c_Y_nearWasOn σ2 a1  hq7) (tm_gd tc_Y_nearWasOn) tg_Y_204 th_Y_nearWasOn ⟨tm_le rfl, tm_le rfl, tm_le rfl, tm_le rfl⟩ rfl (kd_in kd_130 (by decide)) (hp_at kd_130) (As := [.int a1]) (st := []) rfl (tm_le rfl) d_Y_air_87 ?_
          rintro v n2 h2 ⟨rfl, rfl, rfl⟩
          show V X 0 0 tm_n (hp q7.2) 90 [some (.ref 130), some (.int a1), none] [.int q7.1]
          refine V.if_eq hC d_Y_air_90 (tgt := 155) (by decide) (fun hc => ?_) (fun hc => ?_)
          · rw [if_pos hc] at hf
            refine V.blk hC [(.aload_n 0, 1)] 155 [some (.ref 130), some (.int a1), none] [] ⟨d_Y_air_155, trivial⟩ (show tv_run _ _ _ _ = some (156, [some (.ref 130), some (.int a1), none], [.ref 130]) from rfl) ?_
            refine V.getf hC tf_Y_119 (kd_in kd_130 (by decide)) (hp_at kd_130) rfl d_Y_air_156 ?_
            show V X 0 0 tm_n (hp q7.2) 159 [some (.ref 130), some (.int a1), none] [.ref 167]
            refine V.blk hC [(.iload_n 1, 1), (.iconst 1, 1)] 159 [some (.ref 130), some (.int a1), none] [.ref 167] ⟨d_Y_air_159, d_Y_air_160, trivial⟩ (show tv_run _ _ _ _ = some (161, [some (.ref 130), some (.int a1), none], [.int (1 : Int32), .int a1, .ref 167]) from rfl) ?_
            obtain ⟨hb8, hf⟩ := tm_if hf
            obtain ⟨σ9, hσ9, hf⟩ := tm_ww hf
            refine V.seta hC kd_167 (kd_in kd_167 (by decide)) rfl rfl rfl hb8 d_Y_air_161 ?_
            rw [← hσ9]
            refine V.blk hC [(.aload_n 0, 1), (.dup, 1)] 162 [some (.ref 130), some (.int a1), none] [] ⟨d_Y_air_162, d_Y_air_163, trivial⟩ (show tv_run _ _ _ _ = some (164, [some (.ref 130), some (.int a1), none], [.ref 130, .ref 130]) from rfl) ?_
            refine V.getf hC tf_Y_210 (kd_in kd_130 (by decide)) (hp_at kd_130) rfl d_Y_air_164 ?_
            show V X 0 0 tm_n (hp σ9) 167 [some (.ref 130), some (.int a1), none] [.int (σ9.1 130 49), .ref 130]
            refine V.blk hC [(.iconst 1, 1), (.iadd, 1)] 167 [some (.ref 130), some (.int a1), none] [.int (σ9.1 130 49), .ref 130] ⟨d_Y_air_167, d_Y_air_168, trivial⟩ (show tv_run _ _ _ _ = some (169, [some (.ref 130), some (.int a1), none], [.int ((σ9.1 130 49) + (1 : Int32)), .ref 130]) from rfl) ?_
            obtain ⟨σ10, hσ10, hf⟩ := tm_ww hf
            refine V.seti hC tf_Y_210 tt_Y to_Y tn_Y rfl (by decide +kernel) tm_fi kd_130 (kd_in kd_130 (by decide)) rfl rfl (tm_le rfl) d_Y_air_169 ?_
            rw [← hσ10]
            obtain rfl := Option.some.inj hf
            exact V.vret hC hr hE d_Y_air_172 ⟨rfl, rfl, rfl⟩
          · rw [if_neg hc] at hf
            refine V.blk hC [(.aload_n 0, 1)] 93 [some (.ref 130), some (.int a1), none] [] ⟨d_Y_air_93, trivial⟩ (show tv_run _ _ _ _ = some (94, [some (.ref 130), some (.int a1), none], [.ref 130]) from rfl) ?_
            refine V.getf hC tf_Y_68 (kd_in kd_130 (by decide)) (hp_at kd_130) rfl d_Y_air_94 ?_
            show V X 0 0 tm_n (hp q7.2) 97 [some (.ref 130), some (.int a1), none] [.ref 150]
            refine V.blk hC [(.iload_n 1, 1), (.dup2, 1)] 97 [some (.ref 130), some (.int a1), none] [.ref 150] ⟨d_Y_air_97, d_Y_air_98, trivial⟩ (show tv_run _ _ _ _ = some (99, [some (.ref 130), some (.int a1), none], [.int a1, .ref 150, .int a1, .ref 150]) from rfl) ?_
            obtain ⟨hb11, hf⟩ := tm_if hf
            refine V.iald hC (kd_in kd_150 (by decide)) (hp_at kd_150) rfl hb11 d_Y_air_99 ?_
            show V X 0 0 tm_n (hp q7.2) 100 [some (.ref 130), some (.int a1), none] [.int (q7.2.1 150 a1.toNatClampNeg), .int a1, .ref 150]
            refine V.blk hC [(.iconst 1, 1), (.iadd, 1)] 100 [some (.ref 130), some (.int a1), none] [.int (q7.2.1 150 a1.toNatClampNeg), .int a1, .ref 150] ⟨d_Y_air_100, d_Y_air_101, trivial⟩ (show tv_run _ _ _ _ = some (102, [some (.ref 130), some (.int a1), none], [.int ((q7.2.1 150 a1.toNatClampNeg) + (1 : Int32)), .int a1, .ref 150]) from rfl) ?_
            obtain ⟨hb12, hf⟩ := tm_if hf
            obtain ⟨σ13, hσ13, hf⟩ := tm_ww hf
            refine V.seta hC kd_150 (kd_in kd_150 (by decide)) rfl rfl rfl hb12 d_Y_air_102 ?_
            rw [← hσ13]
            refine V.blk hC [(.aload_n 0, 1)] 103 [some (.ref 130), some (.int a1), none] [] ⟨d_Y_air_103, trivial⟩ (show tv_run _ _ _ _ = some (104, [some (.ref 130), some (.int a1), none], [.ref 130]) from rfl) ?_
            refine V.getf hC tf_Y_68 (kd_in kd_130 (by decide)) (hp_at kd_130) rfl d_Y_air_104 ?_
            show V X 0 0 tm_n (hp σ13) 107 [some (.ref 130), some (.int a1), none] [.ref 150]
            refine V.blk hC [(.iload_n 1, 1)] 107 [some (.ref 130), some (.int a1), none] [.ref 150] ⟨d_Y_air_107, trivial⟩ (show tv_run _ _ _ _ = some (108, [some (.ref 130), some (.int a1), none], [.int a1, .ref 150]) from rfl) ?_
            obtain ⟨hb14, hf⟩ := tm_if hf
            refine V.iald hC (kd_in kd_150 (by decide)) (hp_at kd_150) rfl hb14 d_Y_air_108 ?_
            show V X 0 0 tm_n (hp σ13) 109 [some (.ref 130), some (.int a1), none] [.int (σ13.1 150 a1.toNatClampNeg)]
            refine V.blk hC [(.iconst 5, 1)] 109 [some (.ref 130), some (.int a1), none] [.int (σ13.1 150 a1.toNatClampNeg)] ⟨d_Y_air_109, trivial⟩ (show tv_run _ _ _ _ = some (110, [some (.ref 130), some (.int a1), none], [.int (5 : Int32), .int (σ13.1 150 a1.toNatClampNeg)]) from rfl) ?_
            refine V.icmp_ne hC d_Y_air_110 (tgt := 121) (by decide) (fun hc => ?_) (fun hc => ?_)
            · rw [if_neg hc] at hf
              refine V.blk hC [(.iconst 4, 1), (.aload_n 0, 1)] 121 [some (.ref 130), some (.int a1), none] [] ⟨d_Y_air_121, d_Y_air_122, trivial⟩ (show tv_run _ _ _ _ = some (123, [some (.ref 130), some (.int a1), none], [.ref 130, .int (4 : Int32)]) from rfl) ?_
              refine V.getf hC tf_Y_68 (kd_in kd_130 (by decide)) (hp_at kd_130) rfl d_Y_air_123 ?_
              show V X 0 0 tm_n (hp σ13) 126 [some (.ref 130), some (.int a1), none] [.ref 150, .int (4 : Int32)]
              refine V.blk hC [(.iload_n 1, 1)] 126 [some (.ref 130), some (.int a1), none] [.ref 150, .int (4 : Int32)] ⟨d_Y_air_126, trivial⟩ (show tv_run _ _ _ _ = some (127, [some (.ref 130), some (.int a1), none], [.int a1, .ref 150, .int (4 : Int32)]) from rfl) ?_
              obtain ⟨hb15, hf⟩ := tm_if hf
              refine V.iald hC (kd_in kd_150 (by decide)) (hp_at kd_150) rfl hb15 d_Y_air_127 ?_
              show V X 0 0 tm_n (hp σ13) 128 [some (.ref 130), some (.int a1), none] [.int (σ13.1 150 a1.toNatClampNeg), .int (4 : Int32)]
              refine V.blk hC [(.ishl, 1), (.istore_n 2, 1), (.aload_n 0, 1)] 128 [some (.ref 130), some (.int a1), none] [.int (σ13.1 150 a1.toNatClampNeg), .int (4 : Int32)] ⟨d_Y_air_128, d_Y_air_129, d_Y_air_130, trivial⟩ (show tv_run _ _ _ _ = some (131, [some (.ref 130), some (.int a1), some (.int ((4 : Int32) <<< ((σ13.1 150 a1.toNatClampNeg) &&& 31)))], [.ref 130]) from rfl) ?_
              refine V.getf hC tf_Y_65 (kd_in kd_130 (by decide)) (hp_at kd_130) rfl d_Y_air_131 ?_
              show V X 0 0 tm_n (hp σ13) 134 [some (.ref 130), some (.int a1), some (.int ((4 : Int32) <<< ((σ13.1 150 a1.toNatClampNeg) &&& 31)))] [.ref 149]
              refine V.blk hC [(.iload_n 1, 1), (.aload_n 0, 1), (.iload_n 2, 1), (.bipush 32, 2)] 134 [some (.ref 130), some (.int a1), some (.int ((4 : Int32) <<< ((σ13.1 150 a1.toNatClampNeg) &&& 31)))] [.ref 149] ⟨d_Y_air_134, d_Y_air_135, d_Y_air_136, d_Y_air_137, trivial⟩ (show tv_run _ _ _ _ = some (139, [some (.ref 130), some (.int a1), some (.int ((4 : Int32) <<< ((σ13.1 150 a1.toNatClampNeg) &&& 31)))], [.int (32 : Int32), .int ((4 : Int32) <<< ((σ13.1 150 a1.toNatClampNeg) &&& 31)), .ref 130, .int a1, .ref 149]) from rfl) ?_
              refine V.icmp_le hC d_Y_air_139 (tgt := 147) (by decide) (fun hc => ?_) (fun hc => ?_)
              · rw [if_pos hc] at hf
                refine V.blk hC [(.iload_n 2, 1)] 147 [some (.ref 130), some (.int a1), some (.int ((4 : Int32) <<< ((σ13.1 150 a1.toNatClampNeg) &&& 31)))] [.ref 130, .int a1, .ref 149] ⟨d_Y_air_147, trivial⟩ (show tv_run _ _ _ _ = some (148, [some (.ref 130), some (.int a1), some (.int ((4 : Int32) <<< ((σ13.1 150 a1.toNatClampNeg) &&& 31)))], [.int ((4 : Int32) <<< ((σ13.1 150 a1.toNatClampNeg) &&& 31)), .ref 130, .int a1, .ref 149]) from rfl) ?_
                exact V.less (tv_le_some (tv_le_none (tv_le_none tv_le_nil))) (c_Y_air_L148 hC hr hE σ13 ((4 : Int32) <<< ((σ13.1 150 a1.toNatClampNeg) &&& 31)) a1  hf)
              · rw [if_neg hc] at hf
                refine V.blk hC [(.bipush 32, 2)] 142 [some (.ref 130), some (.int a1), some (.int ((4 : Int32) <<< ((σ13.1 150 a1.toNatClampNeg) &&& 31)))] [.ref 130, .int a1, .ref 149] ⟨d_Y_air_142, trivial⟩ (show tv_run _ _ _ _ = some (144, [some (.ref 130), some (.int a1), some (.int ((4 : Int32) <<< ((σ13.1 150 a1.toNatClampNeg) &&& 31)))], [.int (32 : Int32), .ref 130, .int a1, .ref 149]) from rfl) ?_
                refine V.goto hC d_Y_air_144 (tgt := 148) (by decide) ?_
                exact V.less (tv_le_some (tv_le_none (tv_le_none tv_le_nil))) (c_Y_air_L148 hC hr hE σ13 (32 : Int32) a1  hf)
            · rw [if_pos hc] at hf
              refine V.blk hC [(.aload_n 0, 1), (.iload_n 1, 1)] 113 [some (.ref 130), some (.int a1), none] [] ⟨d_Y_air_113, d_Y_air_114, trivial⟩ (show tv_run _ _ _ _ = some (115, [some (.ref 130), some (.int a1), none], [.int a1, .ref 130]) from rfl) ?_
              obtain ⟨q16, hq16, hf⟩ := tm_bd hf
              refine V.callV hC tm_nest rfl (c_Y_fails σ13 a1  hq16) (tm_gd tc_Y_fails) tg_Y_207 th_Y_fails ⟨tm_le rfl, tm_le rfl, tm_le rfl, tm_le rfl⟩ rfl (kd_in kd_130 (by decide)) (hp_at kd_130) (As := [.int a1]) (st := []) rfl (tm_le rfl) d_Y_air_115 ?_
              rintro v n2 h2 ⟨rfl, rfl, rfl⟩
              show V X 0 0 tm_n (hp q16) 118 [some (.ref 130), some (.int a1), none] []
              refine V.goto hC d_Y_air_118 (tgt := 172) (by decide) ?_
              obtain rfl := Option.some.inj hf
              exact V.vret hC hr hE d_Y_air_172 ⟨rfl, rfl, rfl⟩
        · rw [if_neg hc] at hf
          refine V.blk hC [(.aload_n 0, 1)] 72 [some (.ref 130), some (.int a1), none] [] ⟨d_Y_air_72, trivial⟩ (show tv_run _ _ _ _ = some (73, [some (.ref 130), some (.int a1), none], [.ref 130]) from rfl) ?_
          refine V.getf hC tf_Y_65 (kd_in kd_130 (by decide)) (hp_at kd_130) rfl d_Y_air_73 ?_
          show V X 0 0 tm_n (hp σ2) 76 [some (.ref 130), some (.int a1), none] [.ref 149]
          refine V.blk hC [(.iload_n 1, 1), (.dup2, 1)] 76 [some (.ref 130), some (.int a1), none] [.ref 149] ⟨d_Y_air_76, d_Y_air_77, trivial⟩ (show tv_run _ _ _ _ = some (78, [some (.ref 130), some (.int a1), none], [.int a1, .ref 149, .int a1, .ref 149]) from rfl) ?_
          obtain ⟨hb17, hf⟩ := tm_if hf
          refine V.iald hC (kd_in kd_149 (by decide)) (hp_at kd_149) rfl hb17 d_Y_air_78 ?_
          show V X 0 0 tm_n (hp σ2) 79 [some (.ref 130), some (.int a1), none] [.int (σ2.1 149 a1.toNatClampNeg), .int a1, .ref 149]
          refine V.blk hC [(.iconst 1, 1), (.isub, 1)] 79 [some (.ref 130), some (.int a1), none] [.int (σ2.1 149 a1.toNatClampNeg), .int a1, .ref 149] ⟨d_Y_air_79, d_Y_air_80, trivial⟩ (show tv_run _ _ _ _ = some (81, [some (.ref 130), some (.int a1), none], [.int ((σ2.1 149 a1.toNatClampNeg) - (1 : Int32)), .int a1, .ref 149]) from rfl) ?_
          obtain ⟨hb18, hf⟩ := tm_if hf
          obtain ⟨σ19, hσ19, hf⟩ := tm_ww hf
          refine V.seta hC kd_149 (kd_in kd_149 (by decide)) rfl rfl rfl hb18 d_Y_air_81 ?_
          rw [← hσ19]
          refine V.goto hC d_Y_air_82 (tgt := 172) (by decide) ?_
          obtain rfl := Option.some.inj hf
          exact V.vret hC hr hE d_Y_air_172 ⟨rfl, rfl, rfl⟩
  · rw [if_neg hc] at hf
    refine V.blk hC [(.aload_n 0, 1)] 16 [some (.ref 130), some (.int a1), none] [] ⟨d_Y_air_16, trivial⟩ (show tv_run _ _ _ _ = some (17, [some (.ref 130), some (.int a1), none], [.ref 130]) from rfl) ?_
    refine V.getf hC tf_Y_119 (kd_in kd_130 (by decide)) (hp_at kd_130) rfl d_Y_air_17 ?_
    show V X 0 0 tm_n (hp σ2) 20 [some (.ref 130), some (.int a1), none] [.ref 167]
    refine V.blk hC [(.iload_n 1, 1), (.iconst 2, 1)] 20 [some (.ref 130), some (.int a1), none] [.ref 167] ⟨d_Y_air_20, d_Y_air_21, trivial⟩ (show tv_run _ _ _ _ = some (22, [some (.ref 130), some (.int a1), none], [.int (2 : Int32), .int a1, .ref 167]) from rfl) ?_
    obtain ⟨hb20, hf⟩ := tm_if hf
    obtain ⟨σ21, hσ21, hf⟩ := tm_ww hf
    refine V.seta hC kd_167 (kd_in kd_167 (by decide)) rfl rfl rfl hb20 d_Y_air_22 ?_
    rw [← hσ21]
    refine V.blk hC [(.aload_n 0, 1)] 23 [some (.ref 130), some (.int a1), none] [] ⟨d_Y_air_23, trivial⟩ (show tv_run _ _ _ _ = some (24, [some (.ref 130), some (.int a1), none], [.ref 130]) from rfl) ?_
    refine V.getf hC tf_Y_122 (kd_in kd_130 (by decide)) (hp_at kd_130) rfl d_Y_air_24 ?_
    show V X 0 0 tm_n (hp σ21) 27 [some (.ref 130), some (.int a1), none] [.ref 168]
    refine V.blk hC [(.iload_n 1, 1), (.aload_n 0, 1)] 27 [some (.ref 130), some (.int a1), none] [.ref 168] ⟨d_Y_air_27, d_Y_air_28, trivial⟩ (show tv_run _ _ _ _ = some (29, [some (.ref 130), some (.int a1), none], [.ref 130, .int a1, .ref 168]) from rfl) ?_
    refine V.getf hC tf_Y_74 (kd_in kd_130 (by decide)) (hp_at kd_130) rfl d_Y_air_29 ?_
    show V X 0 0 tm_n (hp σ21) 32 [some (.ref 130), some (.int a1), none] [.ref 152, .int a1, .ref 168]
    refine V.blk hC [(.iload_n 1, 1)] 32 [some (.ref 130), some (.int a1), none] [.ref 152, .int a1, .ref 168] ⟨d_Y_air_32, trivial⟩ (show tv_run _ _ _ _ = some (33, [some (.ref 130), some (.int a1), none], [.int a1, .ref 152, .int a1, .ref 168]) from rfl) ?_
    obtain ⟨hb22, hf⟩ := tm_if hf
    refine V.iald hC (kd_in kd_152 (by decide)) (hp_at kd_152) rfl hb22 d_Y_air_33 ?_
    show V X 0 0 tm_n (hp σ21) 34 [some (.ref 130), some (.int a1), none] [.int (σ21.1 152 a1.toNatClampNeg), .int a1, .ref 168]
    obtain ⟨hb23, hf⟩ := tm_if hf
    obtain ⟨σ24, hσ24, hf⟩ := tm_ww hf
    refine V.seta hC kd_168 (kd_in kd_168 (by decide)) rfl rfl rfl hb23 d_Y_air_34 ?_
    rw [← hσ24]
    refine V.blk hC [(.aload_n 0, 1)] 35 [some (.ref 130), some (.int a1), none] [] ⟨d_Y_air_35, trivial⟩ (show tv_run _ _ _ _ = some (36, [some (.ref 130), some (.int a1), none], [.ref 130]) from rfl) ?_
    refine V.getf hC tf_Y_74 (kd_in kd_130 (by decide)) (hp_at kd_130) rfl d_Y_air_36 ?_
    show V X 0 0 tm_n (hp σ24) 39 [some (.ref 130), some (.int a1), none] [.ref 152]
    refine V.blk hC [(.iload_n 1, 1), (.iconst (-1), 1)] 39 [some (.ref 130), some (.int a1), none] [.ref 152] ⟨d_Y_air_39, d_Y_air_40, trivial⟩ (show tv_run _ _ _ _ = some (41, [some (.ref 130), some (.int a1), none], [.int (-1 : Int32), .int a1, .ref 152]) from rfl) ?_
    obtain ⟨hb25, hf⟩ := tm_if hf
    obtain ⟨σ26, hσ26, hf⟩ := tm_ww hf
    refine V.seta hC kd_152 (kd_in kd_152 (by decide)) rfl rfl rfl hb25 d_Y_air_41 ?_
    rw [← hσ26]
    refine V.goto hC d_Y_air_42 (tgt := 172) (by decide) ?_
    obtain rfl := Option.some.inj hf
    exact V.vret hC hr hE d_Y_air_172 ⟨rfl, rfl, rfl⟩
set_option maxHeartbeats 4000000 in
set_option maxRecDepth 100000 in
theorem c_Y_heardFrom_L45 {X : tv_X} {r : Int32 × tm_S} (hC : tv_K X tb_Y_heardFrom 5 "TrickleMeshModel" tm_wg tm_ns tm_cl tm_ty { frames := 0, cells := 0, slots := 0, locals := 0 }) (hr : tv_ret X (some .int)) (hE : tv_end X (tm_P (some (.int r.1)) r.2) 0 0) {rc : tm_S → Int32 → Int32 → Int32 → Int32 → Option (Int32 × tm_S)} (hrc : ∀ (σ : tm_S) (l1 : Int32) (l2 : Int32) (l3 : Int32) (l4 : Int32), rc σ l1 l2 l3 l4 = some r → V X 0 0 tm_n (hp σ) 7 [some (.ref 130), some (.int l1), some (.int l2), some (.int l3), some (.int l4)] []) (σ : tm_S) (l1 : Int32) (l2 : Int32) (l3 : Int32) (l4 : Int32)  (hf : f_Y_heardFrom_L45 rc σ l1 l2 l3 l4 = some r) : V X 0 0 tm_n (hp σ) 45 [some (.ref 130), some (.int l1), some (.int l2), some (.int l3), some (.int l4)] [] := by
  unfold f_Y_heardFrom_L45 at hf
  refine V.blk hC [(.iinc 4 1, 3)] 45 [some (.ref 130), some (.int l1), some (.int l2), some (.int l3), some (.int l4)] [] ⟨d_Y_heardFrom_45, trivial⟩ (show tv_run _ _ _ _ = some (48, [some (.ref 130), some (.int l1), some (.int l2), some (.int l3), some (.int (l4 + (1 : Int32)))], []) from rfl) ?_
  refine V.goto hC d_Y_heardFrom_48 (tgt := 7) (by decide) ?_
  exact V.less (tv_le_some (tv_le_some (tv_le_some (tv_le_some (tv_le_some tv_le_nil))))) (hrc σ l1 l2 l3 (l4 + (1 : Int32))  hf)
set_option maxHeartbeats 4000000 in
set_option maxRecDepth 100000 in
theorem c_Y_heardFrom_L69 {X : tv_X} {r : Int32 × tm_S} (hC : tv_K X tb_Y_heardFrom 5 "TrickleMeshModel" tm_wg tm_ns tm_cl tm_ty { frames := 0, cells := 0, slots := 0, locals := 0 }) (hr : tv_ret X (some .int)) (hE : tv_end X (tm_P (some (.int r.1)) r.2) 0 0) (σ : tm_S)   (hf : f_Y_heardFrom_L69 σ  = some r) : V X 0 0 tm_n (hp σ) 69 [some (.ref 130), none, none, none, none] [] := by
  unfold f_Y_heardFrom_L69 at hf
  refine V.blk hC [(.iconst (-1), 1)] 69 [some (.ref 130), none, none, none, none] [] ⟨d_Y_heardFrom_69, trivial⟩ (show tv_run _ _ _ _ = some (70, [some (.ref 130), none, none, none, none], [.int (-1 : Int32)]) from rfl) ?_
  obtain rfl := Option.some.inj hf
  exact V.iret hC hr hE d_Y_heardFrom_70 ⟨rfl, rfl, rfl⟩
set_option maxHeartbeats 4000000 in
set_option maxRecDepth 100000 in
theorem c_Y_heardFrom_L7 {X : tv_X} {r : Int32 × tm_S} (hC : tv_K X tb_Y_heardFrom 5 "TrickleMeshModel" tm_wg tm_ns tm_cl tm_ty { frames := 0, cells := 0, slots := 0, locals := 0 }) (hr : tv_ret X (some .int)) (hE : tv_end X (tm_P (some (.int r.1)) r.2) 0 0) : ∀ (k : Nat) (σ : tm_S) (l1 : Int32) (l2 : Int32) (l3 : Int32) (l4 : Int32), f_Y_heardFrom_L7 k σ l1 l2 l3 l4 = some r → V X 0 0 tm_n (hp σ) 7 [some (.ref 130), some (.int l1), some (.int l2), some (.int l3), some (.int l4)] [] := by
  intro k
  induction k with
  | zero => intro σ l1 l2 l3 l4  hf; simp only [f_Y_heardFrom_L7] at hf; cases hf
  | succ k hrc =>
    intro σ l1 l2 l3 l4  hf
    rw [f_Y_heardFrom_L7] at hf
    refine V.blk hC [(.iload 4, 2), (.bipush 7, 2)] 7 [some (.ref 130), some (.int l1), some (.int l2), some (.int l3), some (.int l4)] [] ⟨d_Y_heardFrom_7, d_Y_heardFrom_9, trivial⟩ (show tv_run _ _ _ _ = some (11, [some (.ref 130), some (.int l1), some (.int l2), some (.int l3), some (.int l4)], [.int (7 : Int32), .int l4]) from rfl) ?_
    refine V.icmp_ge hC d_Y_heardFrom_11 (tgt := 51) (by decide) (fun hc => ?_) (fun hc => ?_)
    · rw [if_pos hc] at hf
      refine V.blk hC [(.iload_n 3, 1), (.iconst 1, 1)] 51 [some (.ref 130), some (.int l1), some (.int l2), some (.int l3), some (.int l4)] [] ⟨d_Y_heardFrom_51, d_Y_heardFrom_52, trivial⟩ (show tv_run _ _ _ _ = some (53, [some (.ref 130), some (.int l1), some (.int l2), some (.int l3), some (.int l4)], [.int (1 : Int32), .int l3]) from rfl) ?_
      refine V.icmp_ne hC d_Y_heardFrom_53 (tgt := 69) (by decide) (fun hc => ?_) (fun hc => ?_)
      · rw [if_neg hc] at hf
        exact V.less (tv_le_some (tv_le_none (tv_le_none (tv_le_none (tv_le_none tv_le_nil))))) (c_Y_heardFrom_L69 hC hr hE σ   hf)
      · rw [if_pos hc] at hf
        refine V.blk hC [(.aload_n 0, 1)] 56 [some (.ref 130), some (.int l1), some (.int l2), some (.int l3), some (.int l4)] [] ⟨d_Y_heardFrom_56, trivial⟩ (show tv_run _ _ _ _ = some (57, [some (.ref 130), some (.int l1), some (.int l2), some (.int l3), some (.int l4)], [.ref 130]) from rfl) ?_
        refine V.getf hC tf_Y_119 (kd_in kd_130 (by decide)) (hp_at kd_130) rfl d_Y_heardFrom_57 ?_
        show V X 0 0 tm_n (hp σ) 60 [some (.ref 130), some (.int l1), some (.int l2), some (.int l3), some (.int l4)] [.ref 167]
        refine V.blk hC [(.iload_n 1, 1)] 60 [some (.ref 130), some (.int l1), some (.int l2), some (.int l3), some (.int l4)] [.ref 167] ⟨d_Y_heardFrom_60, trivial⟩ (show tv_run _ _ _ _ = some (61, [some (.ref 130), some (.int l1), some (.int l2), some (.int l3), some (.int l4)], [.int l1, .ref 167]) from rfl) ?_
        obtain ⟨hb1, hf⟩ := tm_if hf
        refine V.iald hC (kd_in kd_167 (by decide)) (hp_at kd_167) rfl hb1 d_Y_heardFrom_61 ?_
        show V X 0 0 tm_n (hp σ) 62 [some (.ref 130), some (.int l1), some (.int l2), some (.int l3), some (.int l4)] [.int (σ.1 167 l1.toNatClampNeg)]
        refine V.if_ne hC d_Y_heardFrom_62 (tgt := 69) (by decide) (fun hc => ?_) (fun hc => ?_)
        · rw [if_neg hc] at hf
          exact V.less (tv_le_some (tv_le_none (tv_le_none (tv_le_none (tv_le_none tv_le_nil))))) (c_Y_heardFrom_L69 hC hr hE σ   hf)
        · rw [if_pos hc] at hf
          refine V.blk hC [(.iload_n 2, 1)] 65 [some (.ref 130), some (.int l1), some (.int l2), some (.int l3), some (.int l4)] [] ⟨d_Y_heardFrom_65, trivial⟩ (show tv_run _ _ _ _ = some (66, [some (.ref 130), some (.int l1), some (.int l2), some (.int l3), some (.int l4)], [.int l2]) from rfl) ?_
          refine V.goto hC d_Y_heardFrom_66 (tgt := 70) (by decide) ?_
          obtain rfl := Option.some.inj hf
          exact V.iret hC hr hE d_Y_heardFrom_70 ⟨rfl, rfl, rfl⟩
    · rw [if_neg hc] at hf
      refine V.blk hC [(.aload_n 0, 1)] 14 [some (.ref 130), some (.int l1), some (.int l2), some (.int l3), some (.int l4)] [] ⟨d_Y_heardFrom_14, trivial⟩ (show tv_run _ _ _ _ = some (15, [some (.ref 130), some (.int l1), some (.int l2), some (.int l3), some (.int l4)], [.ref 130]) from rfl) ?_
      refine V.getf hC tf_Y_7 (kd_in kd_130 (by decide)) (hp_at kd_130) rfl d_Y_heardFrom_15 ?_
      show V X 0 0 tm_n (hp σ) 18 [some (.ref 130), some (.int l1), some (.int l2), some (.int l3), some (.int l4)] [.ref 131]
      refine V.blk hC [(.bipush 7, 2), (.iload_n 1, 1), (.imul, 1), (.iload 4, 2), (.iadd, 1)] 18 [some (.ref 130), some (.int l1), some (.int l2), some (.int l3), some (.int l4)] [.ref 131] ⟨d_Y_heardFrom_18, d_Y_heardFrom_20, d_Y_heardFrom_21, d_Y_heardFrom_22, d_Y_heardFrom_24, trivial⟩ (show tv_run _ _ _ _ = some (25, [some (.ref 130), some (.int l1), some (.int l2), some (.int l3), some (.int l4)], [.int (((7 : Int32) * l1) + l4), .ref 131]) from rfl) ?_
      obtain ⟨hb2, hf⟩ := tm_if hf
      refine V.iald hC (kd_in kd_131 (by decide)) (hp_at kd_131) rfl hb2 d_Y_heardFrom_25 ?_
      show V X 0 0 tm_n (hp σ) 26 [some (.ref 130), some (.int l1), some (.int l2), some (.int l3), some (.int l4)] [.int (σ.1 131 (((7 : Int32) * l1) + l4).toNatClampNeg)]
      refine V.if_le hC d_Y_heardFrom_26 (tgt := 45) (by decide) (fun hc => ?_) (fun hc => ?_)
      · rw [if_pos hc] at hf
        exact V.less (tv_le_some (tv_le_some (tv_le_some (tv_le_some (tv_le_some tv_le_nil))))) (c_Y_heardFrom_L45 hC hr hE hrc σ l1 l2 l3 l4  hf)
      · rw [if_neg hc] at hf
        refine V.blk hC [(.aload_n 0, 1)] 29 [some (.ref 130), some (.int l1), some (.int l2), some (.int l3), some (.int l4)] [] ⟨d_Y_heardFrom_29, trivial⟩ (show tv_run _ _ _ _ = some (30, [some (.ref 130), some (.int l1), some (.int l2), some (.int l3), some (.int l4)], [.ref 130]) from rfl) ?_
        refine V.getf hC tf_Y_119 (kd_in kd_130 (by decide)) (hp_at kd_130) rfl d_Y_heardFrom_30 ?_
        show V X 0 0 tm_n (hp σ) 33 [some (.ref 130), some (.int l1), some (.int l2), some (.int l3), some (.int l4)] [.ref 167]
        refine V.blk hC [(.iload 4, 2)] 33 [some (.ref 130), some (.int l1), some (.int l2), some (.int l3), some (.int l4)] [.ref 167] ⟨d_Y_heardFrom_33, trivial⟩ (show tv_run _ _ _ _ = some (35, [some (.ref 130), some (.int l1), some (.int l2), some (.int l3), some (.int l4)], [.int l4, .ref 167]) from rfl) ?_
        obtain ⟨hb3, hf⟩ := tm_if hf
        refine V.iald hC (kd_in kd_167 (by decide)) (hp_at kd_167) rfl hb3 d_Y_heardFrom_35 ?_
        show V X 0 0 tm_n (hp σ) 36 [some (.ref 130), some (.int l1), some (.int l2), some (.int l3), some (.int l4)] [.int (σ.1 167 l4.toNatClampNeg)]
        refine V.if_le hC d_Y_heardFrom_36 (tgt := 45) (by decide) (fun hc => ?_) (fun hc => ?_)
        · rw [if_pos hc] at hf
          exact V.less (tv_le_some (tv_le_some (tv_le_some (tv_le_some (tv_le_some tv_le_nil))))) (c_Y_heardFrom_L45 hC hr hE hrc σ l1 l2 l3 l4  hf)
        · rw [if_neg hc] at hf
          refine V.blk hC [(.iload 4, 2), (.istore_n 2, 1), (.iinc 3 1, 3)] 39 [some (.ref 130), some (.int l1), some (.int l2), some (.int l3), some (.int l4)] [] ⟨d_Y_heardFrom_39, d_Y_heardFrom_41, d_Y_heardFrom_42, trivial⟩ (show tv_run _ _ _ _ = some (45, [some (.ref 130), some (.int l1), some (.int l4), some (.int (l3 + (1 : Int32))), some (.int l4)], []) from rfl) ?_
          exact V.less (tv_le_some (tv_le_some (tv_le_some (tv_le_some (tv_le_some tv_le_nil))))) (c_Y_heardFrom_L45 hC hr hE hrc σ l1 l4 (l3 + (1 : Int32)) l4  hf)
set_option maxHeartbeats 4000000 in
set_option maxRecDepth 100000 in
theorem c_Y_heardFrom (σ : tm_S) (a1 : Int32)  {r : Int32 × tm_S} (hf : f_Y_heardFrom σ a1 = some r) : tv_Met ty_Y_heardFrom (Cond.code ty_Y_heardFrom tb_Y_heardFrom 5 (some .int) :: tm_wg) tm_ns tm_cl tm_ty 0 0 0 0 [.ref 130, .int a1] tm_n (hp σ) (tm_P (some (.int r.1)) r.2) := by
  refine tv_Met.of (by decide) rfl (tm_le rfl) ?_
  intro X hC hnm hr hE
  have hC : tv_K X tb_Y_heardFrom 5 "TrickleMeshModel" tm_wg tm_ns tm_cl tm_ty { frames := 0, cells := 0, slots := 0, locals := 0 } := hC
  show V X 0 0 tm_n (hp σ) 0 [some (.ref 130), some (.int a1), none, none, none] []
  unfold f_Y_heardFrom at hf
  refine V.blk hC [(.iconst (-1), 1), (.istore_n 2, 1), (.iconst 0, 1), (.istore_n 3, 1), (.iconst 0, 1), (.istore 4, 2)] 0 [some (.ref 130), some (.int a1), none, none, none] [] ⟨d_Y_heardFrom_0, d_Y_heardFrom_1, d_Y_heardFrom_2, d_Y_heardFrom_3, d_Y_heardFrom_4, d_Y_heardFrom_5, trivial⟩ (show tv_run _ _ _ _ = some (7, [some (.ref 130), some (.int a1), some (.int (-1 : Int32)), some (.int (0 : Int32)), some (.int (0 : Int32))], []) from rfl) ?_
  exact V.less (tv_le_some (tv_le_some (tv_le_some (tv_le_some (tv_le_some tv_le_nil))))) (c_Y_heardFrom_L7 hC hr hE tm_fu σ a1 (-1 : Int32) (0 : Int32) (0 : Int32)  hf)
set_option maxHeartbeats 4000000 in
set_option maxRecDepth 100000 in
theorem c_Y_takes_L124 {X : tv_X} {r : tm_S} (hC : tv_K X tb_Y_takes 4 "TrickleMeshModel" tm_wg tm_ns tm_cl tm_ty { frames := 6, cells := 0, slots := 0, locals := 141 }) (hr : tv_ret X none) (hE : tv_end X (tm_P none r) 0 0) (σ : tm_S) (l1 : Int32) (l2 : Int32) (l3 : Int32)  (hf : f_Y_takes_L124 σ l1 l2 l3 = some r) : V X 0 0 tm_n (hp σ) 124 [some (.ref 130), some (.int l1), some (.int l2), some (.int l3)] [] := by
  unfold f_Y_takes_L124 at hf
  refine V.blk hC [(.aload_n 0, 1)] 124 [some (.ref 130), some (.int l1), some (.int l2), some (.int l3)] [] ⟨d_Y_takes_124, trivial⟩ (show tv_run _ _ _ _ = some (125, [some (.ref 130), some (.int l1), some (.int l2), some (.int l3)], [.ref 130]) from rfl) ?_
  refine V.getf hC tf_Y_89 (kd_in kd_130 (by decide)) (hp_at kd_130) rfl d_Y_takes_125 ?_
  show V X 0 0 tm_n (hp σ) 128 [some (.ref 130), some (.int l1), some (.int l2), some (.int l3)] [.ref 157]
  refine V.blk hC [(.iload_n 3, 1)] 128 [some (.ref 130), some (.int l1), some (.int l2), some (.int l3)] [.ref 157] ⟨d_Y_takes_128, trivial⟩ (show tv_run _ _ _ _ = some (129, [some (.ref 130), some (.int l1), some (.int l2), some (.int l3)], [.int l3, .ref 157]) from rfl) ?_
  obtain ⟨hb17, hf⟩ := tm_if hf
  refine V.iald hC (kd_in kd_157 (by decide)) (hp_at kd_157) rfl hb17 d_Y_takes_129 ?_
  show V X 0 0 tm_n (hp σ) 130 [some (.ref 130), some (.int l1), some (.int l2), some (.int l3)] [.int (σ.1 157 l3.toNatClampNeg)]
  refine V.blk hC [(.iload_n 1, 1)] 130 [some (.ref 130), some (.int l1), some (.int l2), some (.int l3)] [.int (σ.1 157 l3.toNatClampNeg)] ⟨d_Y_takes_130, trivial⟩ (show tv_run _ _ _ _ = some (131, [some (.ref 130), some (.int l1), some (.int l2), some (.int l3)], [.int l1, .int (σ.1 157 l3.toNatClampNeg)]) from rfl) ?_
  refine V.icmp_ne hC d_Y_takes_131 (tgt := 206) (by decide) (fun hc => ?_) (fun hc => ?_)
  · rw [if_neg hc] at hf
    obtain rfl := Option.some.inj hf
    exact V.vret hC hr hE d_Y_takes_206 ⟨rfl, rfl, rfl⟩
  · rw [if_pos hc] at hf
    refine V.blk hC [(.aload_n 0, 1)] 134 [some (.ref 130), some (.int l1), some (.int l2), some (.int l3)] [] ⟨d_Y_takes_134, trivial⟩ (show tv_run _ _ _ _ = some (135, [some (.ref 130), some (.int l1), some (.int l2), some (.int l3)], [.ref 130]) from rfl) ?_
    refine V.getf hC tf_Y_74 (kd_in kd_130 (by decide)) (hp_at kd_130) rfl d_Y_takes_135 ?_
    show V X 0 0 tm_n (hp σ) 138 [some (.ref 130), some (.int l1), some (.int l2), some (.int l3)] [.ref 152]
    refine V.blk hC [(.iload_n 1, 1), (.iload_n 2, 1)] 138 [some (.ref 130), some (.int l1), some (.int l2), some (.int l3)] [.ref 152] ⟨d_Y_takes_138, d_Y_takes_139, trivial⟩ (show tv_run _ _ _ _ = some (140, [some (.ref 130), some (.int l1), some (.int l2), some (.int l3)], [.int l2, .int l1, .ref 152]) from rfl) ?_
    obtain ⟨hb18, hf⟩ := tm_if hf
    obtain ⟨σ19, hσ19, hf⟩ := tm_ww hf
    refine V.seta hC kd_152 (kd_in kd_152 (by decide)) rfl rfl rfl hb18 d_Y_takes_140 ?_
    rw [← hσ19]
    refine V.blk hC [(.aload_n 0, 1)] 141 [some (.ref 130), some (.int l1), some (.int l2), some (.int l3)] [] ⟨d_Y_takes_141, trivial⟩ (show tv_run _ _ _ _ = some (142, [some (.ref 130), some (.int l1), some (.int l2), some (.int l3)], [.ref 130]) from rfl) ?_
    refine V.getf hC tf_Y_26 (kd_in kd_130 (by decide)) (hp_at kd_130) rfl d_Y_takes_142 ?_
    show V X 0 0 tm_n (hp σ19) 145 [some (.ref 130), some (.int l1), some (.int l2), some (.int l3)] [.ref 136]
    refine V.blk hC [(.bipush 7, 2), (.iload_n 1, 1), (.imul, 1), (.iload_n 2, 1), (.iadd, 1)] 145 [some (.ref 130), some (.int l1), some (.int l2), some (.int l3)] [.ref 136] ⟨d_Y_takes_145, d_Y_takes_147, d_Y_takes_148, d_Y_takes_149, d_Y_takes_150, trivial⟩ (show tv_run _ _ _ _ = some (151, [some (.ref 130), some (.int l1), some (.int l2), some (.int l3)], [.int (((7 : Int32) * l1) + l2), .ref 136]) from rfl) ?_
    obtain ⟨hb20, hf⟩ := tm_if hf
    refine V.iald hC (kd_in kd_136 (by decide)) (hp_at kd_136) rfl hb20 d_Y_takes_151 ?_
    show V X 0 0 tm_n (hp σ19) 152 [some (.ref 130), some (.int l1), some (.int l2), some (.int l3)] [.int (σ19.1 136 (((7 : Int32) * l1) + l2).toNatClampNeg)]
    refine V.blk hC [(.aload_n 0, 1)] 152 [some (.ref 130), some (.int l1), some (.int l2), some (.int l3)] [.int (σ19.1 136 (((7 : Int32) * l1) + l2).toNatClampNeg)] ⟨d_Y_takes_152, trivial⟩ (show tv_run _ _ _ _ = some (153, [some (.ref 130), some (.int l1), some (.int l2), some (.int l3)], [.ref 130, .int (σ19.1 136 (((7 : Int32) * l1) + l2).toNatClampNeg)]) from rfl) ?_
    refine V.getf hC tf_Y_83 (kd_in kd_130 (by decide)) (hp_at kd_130) rfl d_Y_takes_153 ?_
    show V X 0 0 tm_n (hp σ19) 156 [some (.ref 130), some (.int l1), some (.int l2), some (.int l3)] [.ref 155, .int (σ19.1 136 (((7 : Int32) * l1) + l2).toNatClampNeg)]
    refine V.blk hC [(.iload_n 3, 1)] 156 [some (.ref 130), some (.int l1), some (.int l2), some (.int l3)] [.ref 155, .int (σ19.1 136 (((7 : Int32) * l1) + l2).toNatClampNeg)] ⟨d_Y_takes_156, trivial⟩ (show tv_run _ _ _ _ = some (157, [some (.ref 130), some (.int l1), some (.int l2), some (.int l3)], [.int l3, .ref 155, .int (σ19.1 136 (((7 : Int32) * l1) + l2).toNatClampNeg)]) from rfl) ?_
    obtain ⟨hb21, hf⟩ := tm_if hf
    refine V.iald hC (kd_in kd_155 (by decide)) (hp_at kd_155) rfl hb21 d_Y_takes_157 ?_
    show V X 0 0 tm_n (hp σ19) 158 [some (.ref 130), some (.int l1), some (.int l2), some (.int l3)] [.int (σ19.1 155 l3.toNatClampNeg), .int (σ19.1 136 (((7 : Int32) * l1) + l2).toNatClampNeg)]
    refine V.icmp_ne hC d_Y_takes_158 (tgt := 162) (by decide) (fun hc => ?_) (fun hc => ?_)
    · rw [if_neg hc] at hf
      refine V.blk hC [(.aload_n 0, 1)] 162 [some (.ref 130), some (.int l1), some (.int l2), some (.int l3)] [] ⟨d_Y_takes_162, trivial⟩ (show tv_run _ _ _ _ = some (163, [some (.ref 130), some (.int l1), some (.int l2), some (.int l3)], [.ref 130]) from rfl) ?_
      refine V.getf hC tf_Y_26 (kd_in kd_130 (by decide)) (hp_at kd_130) rfl d_Y_takes_163 ?_
      show V X 0 0 tm_n (hp σ19) 166 [some (.ref 130), some (.int l1), some (.int l2), some (.int l3)] [.ref 136]
      refine V.blk hC [(.bipush 7, 2), (.iload_n 1, 1), (.imul, 1), (.iload_n 2, 1), (.iadd, 1), (.aload_n 0, 1)] 166 [some (.ref 130), some (.int l1), some (.int l2), some (.int l3)] [.ref 136] ⟨d_Y_takes_166, d_Y_takes_168, d_Y_takes_169, d_Y_takes_170, d_Y_takes_171, d_Y_takes_172, trivial⟩ (show tv_run _ _ _ _ = some (173, [some (.ref 130), some (.int l1), some (.int l2), some (.int l3)], [.ref 130, .int (((7 : Int32) * l1) + l2), .ref 136]) from rfl) ?_
      refine V.getf hC tf_Y_83 (kd_in kd_130 (by decide)) (hp_at kd_130) rfl d_Y_takes_173 ?_
      show V X 0 0 tm_n (hp σ19) 176 [some (.ref 130), some (.int l1), some (.int l2), some (.int l3)] [.ref 155, .int (((7 : Int32) * l1) + l2), .ref 136]
      refine V.blk hC [(.iload_n 3, 1)] 176 [some (.ref 130), some (.int l1), some (.int l2), some (.int l3)] [.ref 155, .int (((7 : Int32) * l1) + l2), .ref 136] ⟨d_Y_takes_176, trivial⟩ (show tv_run _ _ _ _ = some (177, [some (.ref 130), some (.int l1), some (.int l2), some (.int l3)], [.int l3, .ref 155, .int (((7 : Int32) * l1) + l2), .ref 136]) from rfl) ?_
      obtain ⟨hb22, hf⟩ := tm_if hf
      refine V.iald hC (kd_in kd_155 (by decide)) (hp_at kd_155) rfl hb22 d_Y_takes_177 ?_
      show V X 0 0 tm_n (hp σ19) 178 [some (.ref 130), some (.int l1), some (.int l2), some (.int l3)] [.int (σ19.1 155 l3.toNatClampNeg), .int (((7 : Int32) * l1) + l2), .ref 136]
      obtain ⟨hb23, hf⟩ := tm_if hf
      obtain ⟨σ24, hσ24, hf⟩ := tm_ww hf
      refine V.seta hC kd_136 (kd_in kd_136 (by decide)) rfl rfl rfl hb23 d_Y_takes_178 ?_
      rw [← hσ24]
      refine V.blk hC [(.aload_n 0, 1)] 179 [some (.ref 130), some (.int l1), some (.int l2), some (.int l3)] [] ⟨d_Y_takes_179, trivial⟩ (show tv_run _ _ _ _ = some (180, [some (.ref 130), some (.int l1), some (.int l2), some (.int l3)], [.ref 130]) from rfl) ?_
      refine V.getf hC tf_Y_86 (kd_in kd_130 (by decide)) (hp_at kd_130) rfl d_Y_takes_180 ?_
      show V X 0 0 tm_n (hp σ24) 183 [some (.ref 130), some (.int l1), some (.int l2), some (.int l3)] [.ref 156]
      refine V.blk hC [(.iload_n 3, 1)] 183 [some (.ref 130), some (.int l1), some (.int l2), some (.int l3)] [.ref 156] ⟨d_Y_takes_183, trivial⟩ (show tv_run _ _ _ _ = some (184, [some (.ref 130), some (.int l1), some (.int l2), some (.int l3)], [.int l3, .ref 156]) from rfl) ?_
      obtain ⟨hb25, hf⟩ := tm_if hf
      refine V.iald hC (kd_in kd_156 (by decide)) (hp_at kd_156) rfl hb25 d_Y_takes_184 ?_
      show V X 0 0 tm_n (hp σ24) 185 [some (.ref 130), some (.int l1), some (.int l2), some (.int l3)] [.int (σ24.1 156 l3.toNatClampNeg)]
      refine V.blk hC [(.iconst 3, 1)] 185 [some (.ref 130), some (.int l1), some (.int l2), some (.int l3)] [.int (σ24.1 156 l3.toNatClampNeg)] ⟨d_Y_takes_185, trivial⟩ (show tv_run _ _ _ _ = some (186, [some (.ref 130), some (.int l1), some (.int l2), some (.int l3)], [.int (3 : Int32), .int (σ24.1 156 l3.toNatClampNeg)]) from rfl) ?_
      refine V.icmp_ne hC d_Y_takes_186 (tgt := 199) (by decide) (fun hc => ?_) (fun hc => ?_)
      · rw [if_neg hc] at hf
        refine V.blk hC [(.aload_n 0, 1), (.iload_n 1, 1), (.iload_n 2, 1), (.iload_n 3, 1)] 199 [some (.ref 130), some (.int l1), some (.int l2), some (.int l3)] [] ⟨d_Y_takes_199, d_Y_takes_200, d_Y_takes_201, d_Y_takes_202, trivial⟩ (show tv_run _ _ _ _ = some (203, [some (.ref 130), some (.int l1), some (.int l2), some (.int l3)], [.int l3, .int l2, .int l1, .ref 130]) from rfl) ?_
        obtain ⟨q26, hq26, hf⟩ := tm_bd hf
        refine V.callV hC tm_nest rfl (c_Y_valued σ24 l1 l2 l3  hq26) (tm_gd tc_Y_valued) tg_Y_220 th_Y_valued ⟨tm_le rfl, tm_le rfl, tm_le rfl, tm_le rfl⟩ rfl (kd_in kd_130 (by decide)) (hp_at kd_130) (As := [.int l1, .int l2, .int l3]) (st := []) rfl (tm_le rfl) d_Y_takes_203 ?_
        rintro v n2 h2 ⟨rfl, rfl, rfl⟩
        show V X 0 0 tm_n (hp q26) 206 [some (.ref 130), some (.int l1), some (.int l2), some (.int l3)] []
        obtain rfl := Option.some.inj hf
        exact V.vret hC hr hE d_Y_takes_206 ⟨rfl, rfl, rfl⟩
      · rw [if_pos hc] at hf
        refine V.blk hC [(.aload_n 0, 1), (.iload_n 1, 1), (.iload_n 2, 1), (.iload_n 3, 1)] 189 [some (.ref 130), some (.int l1), some (.int l2), some (.int l3)] [] ⟨d_Y_takes_189, d_Y_takes_190, d_Y_takes_191, d_Y_takes_192, trivial⟩ (show tv_run _ _ _ _ = some (193, [some (.ref 130), some (.int l1), some (.int l2), some (.int l3)], [.int l3, .int l2, .int l1, .ref 130]) from rfl) ?_
        obtain ⟨q27, hq27, hf⟩ := tm_bd hf
        refine V.callV hC tm_nest rfl (c_Y_announced σ24 l1 l2 l3  hq27) (tm_gd tc_Y_announced) tg_Y_216 th_Y_announced ⟨tm_le rfl, tm_le rfl, tm_le rfl, tm_le rfl⟩ rfl (kd_in kd_130 (by decide)) (hp_at kd_130) (As := [.int l1, .int l2, .int l3]) (st := []) rfl (tm_le rfl) d_Y_takes_193 ?_
        rintro v n2 h2 ⟨rfl, rfl, rfl⟩
        show V X 0 0 tm_n (hp q27) 196 [some (.ref 130), some (.int l1), some (.int l2), some (.int l3)] []
        refine V.goto hC d_Y_takes_196 (tgt := 206) (by decide) ?_
        obtain rfl := Option.some.inj hf
        exact V.vret hC hr hE d_Y_takes_206 ⟨rfl, rfl, rfl⟩
    · rw [if_pos hc] at hf
      obtain rfl := Option.some.inj hf
      exact V.vret hC hr hE d_Y_takes_161 ⟨rfl, rfl, rfl⟩
