/-! the reference's constructor: its loops, its contract -/
theorem fill_c : ∀ k, k < 7 → (Int32.ofNat k = 0 ↔ k = 0) := by decide
section MOD
variable {X : tv_X} {σ : tm_S} {a r c a1 a2 a3 : Int32}
set_option maxHeartbeats 4000000 in
set_option maxRecDepth 100000 in
theorem k_Yl (hC : tv_K X tb_Y_init 5 "TrickleMeshModel" tm_wg tm_ns tm_cl tm_ty rmY) (kk : V X 43 1140 173 (hp (yJ σ a r c 7 0)) 492 [some (.ref 130), some (.int a1), some (.int a2), some (.int a3), some (.int (Int32.ofNat 7))] []) : ∀ d k, k + d = 7 → V X 43 1140 173 (hp (yJ σ a r c k 0)) 408 [some (.ref 130), some (.int a1), some (.int a2), some (.int a3), some (.int (Int32.ofNat k))] []
  | 0, k, hk0 => by
    obtain rfl : k = 7 := by omega
    refine V.blk hC [(.iload 4, 2), (.bipush 7, 2)] 408 _ _ ⟨d_Y_init_408, d_Y_init_410, trivial⟩ (show tv_run _ _ _ _ = some (412, _, [.int (Int32.ofNat 7), .int (Int32.ofNat 7)]) from rfl) ?_
    exact V.icmp_ge hC d_Y_init_412 (tgt := 492) (by decide) (fun _ => kk) (fun hc => absurd (by decide) hc)
  | d + 1, k, hk0 => by
    have hk7 : k < 7 := by omega
    obtain ⟨b1, b2, b3, b4⟩ := fill_a k hk7
    have b5 := fill_c k hk7
    refine V.blk hC [(.iload 4, 2), (.bipush 7, 2)] 408 _ _ ⟨d_Y_init_408, d_Y_init_410, trivial⟩ (show tv_run _ _ _ _ = some (412, _, [.int (Int32.ofNat 7), .int (Int32.ofNat k)]) from rfl) ?_
    refine V.icmp_ge hC d_Y_init_412 (tgt := 492) (by decide) (fun hc => absurd hc b1) (fun _ => ?_)
    refine V.blk hC [(.aload_n 0, 1)] 415 _ _ ⟨d_Y_init_415, trivial⟩ (show tv_run _ _ _ _ = some (416, [some (.ref 130), some (.int a1), some (.int a2), some (.int a3), some (.int (Int32.ofNat k))], [.ref 130]) from rfl) ?_
    refine V.getf hC tf_Y_32 (v := .ref 138) ⟨by omega, by omega⟩ (hp_at kd_130) rfl d_Y_init_416 ?_
    refine V.blk hC [(.iload 4, 2), (.iload 4, 2)] 419 _ _ ⟨d_Y_init_419, d_Y_init_421, trivial⟩ (show tv_run _ _ _ _ = some (423, [some (.ref 130), some (.int a1), some (.int a2), some (.int a3), some (.int (Int32.ofNat k))], [.int (Int32.ofNat k), .int (Int32.ofNat k), .ref 138]) from rfl) ?_
    suffices k1 : V X 43 1140 173 (hp (yJ σ a r c k 0)) 431 [some (.ref 130), some (.int a1), some (.int a2), some (.int a3), some (.int (Int32.ofNat k))] [.int (if k = 0 then 1 else 0), .int (Int32.ofNat k), .ref 138] by
      refine V.if_ne hC d_Y_init_423 (tgt := 430) (by decide) (fun hc => ?_) (fun hc => ?_)
      · rw [if_neg (fun e => hc (b5.mpr e))] at k1
        exact V.blk hC [(.iconst 0, 1)] 430 _ _ ⟨d_Y_init_430, trivial⟩ rfl k1
      · rw [if_pos (b5.mp hc)] at k1
        exact V.blk hC [(.iconst 1, 1)] 426 _ _ ⟨d_Y_init_426, trivial⟩ rfl (V.goto hC d_Y_init_427 (tgt := 431) (by decide) k1)
    refine V.seta hC kd_138 ⟨by omega, by omega⟩ rfl rfl rfl b2 d_Y_init_431 ?_
    rw [b3]
    refine V.blk hC [(.aload_n 0, 1)] 432 _ _ ⟨d_Y_init_432, trivial⟩ (show tv_run _ _ _ _ = some (433, [some (.ref 130), some (.int a1), some (.int a2), some (.int a3), some (.int (Int32.ofNat k))], [.ref 130]) from rfl) ?_
    refine V.getf hC tf_Y_35 (v := .ref 139) ⟨by omega, by omega⟩ (hp_at kd_130) rfl d_Y_init_433 ?_
    refine V.blk hC [(.iload 4, 2), (.iload 4, 2)] 436 _ _ ⟨d_Y_init_436, d_Y_init_438, trivial⟩ (show tv_run _ _ _ _ = some (440, [some (.ref 130), some (.int a1), some (.int a2), some (.int a3), some (.int (Int32.ofNat k))], [.int (Int32.ofNat k), .int (Int32.ofNat k), .ref 139]) from rfl) ?_
    suffices k2 : V X 43 1140 173 (hp (sI (yJ σ a r c k 0) 138 k (if k = 0 then 1 else 0))) 450 [some (.ref 130), some (.int a1), some (.int a2), some (.int a3), some (.int (Int32.ofNat k))] [.int (if k = 0 then 1 else 255), .int (Int32.ofNat k), .ref 139] by
      refine V.if_ne hC d_Y_init_440 (tgt := 447) (by decide) (fun hc => ?_) (fun hc => ?_)
      · rw [if_neg (c := k = 0) (t := (1 : Int32)) (e := (255 : Int32)) (fun e => hc (b5.mpr e))] at k2
        exact V.blk hC [(.sipush 255, 3)] 447 _ _ ⟨d_Y_init_447, trivial⟩ rfl k2
      · rw [if_pos (c := k = 0) (t := (1 : Int32)) (e := (255 : Int32)) (b5.mp hc)] at k2
        exact V.blk hC [(.iconst 1, 1)] 443 _ _ ⟨d_Y_init_443, trivial⟩ rfl (V.goto hC d_Y_init_444 (tgt := 450) (by decide) k2)
    refine V.seta hC kd_139 ⟨by omega, by omega⟩ rfl rfl rfl b2 d_Y_init_450 ?_
    rw [b3]
    refine V.blk hC [(.aload_n 0, 1)] 451 _ _ ⟨d_Y_init_451, trivial⟩ (show tv_run _ _ _ _ = some (452, [some (.ref 130), some (.int a1), some (.int a2), some (.int a3), some (.int (Int32.ofNat k))], [.ref 130]) from rfl) ?_
    refine V.getf hC tf_Y_38 (v := .ref 140) ⟨by omega, by omega⟩ (hp_at kd_130) rfl d_Y_init_452 ?_
    refine V.blk hC [(.iload 4, 2), (.iconst (-1), 1)] 455 _ _ ⟨d_Y_init_455, d_Y_init_457, trivial⟩ (show tv_run _ _ _ _ = some (458, [some (.ref 130), some (.int a1), some (.int a2), some (.int a3), some (.int (Int32.ofNat k))], [.int (-1 : Int32), .int (Int32.ofNat k), .ref 140]) from rfl) ?_
    refine V.seta hC kd_140 ⟨by omega, by omega⟩ rfl rfl rfl b2 d_Y_init_458 ?_
    rw [b3]
    refine V.blk hC [(.aload_n 0, 1)] 459 _ _ ⟨d_Y_init_459, trivial⟩ (show tv_run _ _ _ _ = some (460, [some (.ref 130), some (.int a1), some (.int a2), some (.int a3), some (.int (Int32.ofNat k))], [.ref 130]) from rfl) ?_
    refine V.getf hC tf_Y_41 (v := .ref 141) ⟨by omega, by omega⟩ (hp_at kd_130) rfl d_Y_init_460 ?_
    refine V.blk hC [(.iload 4, 2), (.sipush 255, 3)] 463 _ _ ⟨d_Y_init_463, d_Y_init_465, trivial⟩ (show tv_run _ _ _ _ = some (468, [some (.ref 130), some (.int a1), some (.int a2), some (.int a3), some (.int (Int32.ofNat k))], [.int (255 : Int32), .int (Int32.ofNat k), .ref 141]) from rfl) ?_
    refine V.seta hC kd_141 ⟨by omega, by omega⟩ rfl rfl rfl b2 d_Y_init_468 ?_
    rw [b3]
    refine V.blk hC [(.aload_n 0, 1)] 469 _ _ ⟨d_Y_init_469, trivial⟩ (show tv_run _ _ _ _ = some (470, [some (.ref 130), some (.int a1), some (.int a2), some (.int a3), some (.int (Int32.ofNat k))], [.ref 130]) from rfl) ?_
    refine V.getf hC tf_Y_47 (v := .ref 143) ⟨by omega, by omega⟩ (hp_at kd_130) rfl d_Y_init_470 ?_
    refine V.blk hC [(.iload 4, 2), (.bipush 64, 2)] 473 _ _ ⟨d_Y_init_473, d_Y_init_475, trivial⟩ (show tv_run _ _ _ _ = some (477, [some (.ref 130), some (.int a1), some (.int a2), some (.int a3), some (.int (Int32.ofNat k))], [.int (64 : Int32), .int (Int32.ofNat k), .ref 143]) from rfl) ?_
    refine V.seta hC kd_143 ⟨by omega, by omega⟩ rfl rfl rfl b2 d_Y_init_477 ?_
    rw [b3]
    refine V.blk hC [(.aload_n 0, 1)] 478 _ _ ⟨d_Y_init_478, trivial⟩ (show tv_run _ _ _ _ = some (479, [some (.ref 130), some (.int a1), some (.int a2), some (.int a3), some (.int (Int32.ofNat k))], [.ref 130]) from rfl) ?_
    refine V.getf hC tf_Y_74 (v := .ref 152) ⟨by omega, by omega⟩ (hp_at kd_130) rfl d_Y_init_479 ?_
    refine V.blk hC [(.iload 4, 2), (.iconst (-1), 1)] 482 _ _ ⟨d_Y_init_482, d_Y_init_484, trivial⟩ (show tv_run _ _ _ _ = some (485, [some (.ref 130), some (.int a1), some (.int a2), some (.int a3), some (.int (Int32.ofNat k))], [.int (-1 : Int32), .int (Int32.ofNat k), .ref 152]) from rfl) ?_
    refine V.seta hC kd_152 ⟨by omega, by omega⟩ rfl rfl rfl b2 d_Y_init_485 ?_
    rw [b3]
    rw [yJ_k]
    refine V.blk hC [(.iinc 4 1, 3)] 486 _ _ ⟨d_Y_init_486, trivial⟩ (show tv_run _ _ _ _ = some (489, [some (.ref 130), some (.int a1), some (.int a2), some (.int a3), some (.int (Int32.ofNat k + 1))], []) from rfl) ?_
    rw [b4]
    exact V.goto hC d_Y_init_489 (tgt := 408) (by decide) (k_Yl hC kk d (k + 1) (by omega))
set_option maxHeartbeats 4000000 in
set_option maxRecDepth 100000 in
theorem k_Ym (hC : tv_K X tb_Y_init 5 "TrickleMeshModel" tm_wg tm_ns tm_cl tm_ty rmY) (kk : V X 43 1140 173 (hp (yJ σ a r c 7 49)) 516 [some (.ref 130), some (.int a1), some (.int a2), some (.int a3), some (.int (Int32.ofNat 49))] []) : ∀ d k, k + d = 49 → V X 43 1140 173 (hp (yJ σ a r c 7 k)) 495 [some (.ref 130), some (.int a1), some (.int a2), some (.int a3), some (.int (Int32.ofNat k))] []
  | 0, k, hk0 => by
    obtain rfl : k = 49 := by omega
    refine V.blk hC [(.iload 4, 2), (.bipush 49, 2)] 495 _ _ ⟨d_Y_init_495, d_Y_init_497, trivial⟩ (show tv_run _ _ _ _ = some (499, _, [.int (Int32.ofNat 49), .int (Int32.ofNat 49)]) from rfl) ?_
    exact V.icmp_ge hC d_Y_init_499 (tgt := 516) (by decide) (fun _ => kk) (fun hc => absurd (by decide) hc)
  | d + 1, k, hk0 => by
    obtain ⟨b1, b2, b3, b4⟩ := fill_b k (by omega)
    refine V.blk hC [(.iload 4, 2), (.bipush 49, 2)] 495 _ _ ⟨d_Y_init_495, d_Y_init_497, trivial⟩ (show tv_run _ _ _ _ = some (499, _, [.int (Int32.ofNat 49), .int (Int32.ofNat k)]) from rfl) ?_
    refine V.icmp_ge hC d_Y_init_499 (tgt := 516) (by decide) (fun hc => absurd hc b1) (fun _ => ?_)
    refine V.blk hC [(.aload_n 0, 1)] 502 _ _ ⟨d_Y_init_502, trivial⟩ (show tv_run _ _ _ _ = some (503, [some (.ref 130), some (.int a1), some (.int a2), some (.int a3), some (.int (Int32.ofNat k))], [.ref 130]) from rfl) ?_
    refine V.getf hC tf_Y_20 (v := .ref 134) ⟨by omega, by omega⟩ (hp_at kd_130) rfl d_Y_init_503 ?_
    refine V.blk hC [(.iload 4, 2), (.iconst (-1), 1)] 506 _ _ ⟨d_Y_init_506, d_Y_init_508, trivial⟩ (show tv_run _ _ _ _ = some (509, [some (.ref 130), some (.int a1), some (.int a2), some (.int a3), some (.int (Int32.ofNat k))], [.int (-1 : Int32), .int (Int32.ofNat k), .ref 134]) from rfl) ?_
    refine V.seta hC kd_134 ⟨by omega, by omega⟩ rfl rfl rfl b2 d_Y_init_509 ?_
    rw [b3]
    rw [yJ_m]
    refine V.blk hC [(.iinc 4 1, 3)] 510 _ _ ⟨d_Y_init_510, trivial⟩ (show tv_run _ _ _ _ = some (513, [some (.ref 130), some (.int a1), some (.int a2), some (.int a3), some (.int (Int32.ofNat k + 1))], []) from rfl) ?_
    rw [b4]
    exact V.goto hC d_Y_init_513 (tgt := 495) (by decide) (k_Ym hC kk d (k + 1) (by omega))
set_option maxHeartbeats 4000000 in
set_option maxRecDepth 100000 in
theorem k_Y1 {τ : tm_S} (hC : tv_K X tb_Y_init 5 "TrickleMeshModel" tm_wg tm_ns tm_cl tm_ty rmY) (hnm : tv_nm X = "<init>") (kk : V X 43 1140 173 (hp (sI τ 130 0 a1)) 356 [some (.ref 130), some (.int a1), some (.int a2), some (.int a3), none] [.int a2, .ref 130]) : V X 43 1140 173 (hp τ) 349 [some (.ref 130), some (.int a1), some (.int a2), some (.int a3), none] [] := by
  refine V.blk hC [(.aload_n 0, 1), (.iload_n 1, 1)] 349 _ _ ⟨d_Y_init_349, d_Y_init_350, trivial⟩ (show tv_run _ _ _ _ = some (351, [some (.ref 130), some (.int a1), some (.int a2), some (.int a3), none], [.int a1, .ref 130]) from rfl) ?_
  refine V.seti hC tf_Y_140 tt_Y to_Y tn_Y rfl (by decide +kernel) tm_fi kd_130 ⟨by omega, by omega⟩ rfl rfl (tm_le rfl) d_Y_init_351 ?_
  refine V.blk hC [(.aload_n 0, 1), (.iload_n 2, 1)] 354 _ _ ⟨d_Y_init_354, d_Y_init_355, trivial⟩ (show tv_run _ _ _ _ = some (356, [some (.ref 130), some (.int a1), some (.int a2), some (.int a3), none], [.int a2, .ref 130]) from rfl) ?_
  exact kk
set_option maxHeartbeats 4000000 in
set_option maxRecDepth 100000 in
theorem k_Y2 {τ : tm_S} (hC : tv_K X tb_Y_init 5 "TrickleMeshModel" tm_wg tm_ns tm_cl tm_ty rmY) (hnm : tv_nm X = "<init>") (kk : V X 43 1140 173 (hp τ) 377 [some (.ref 130), some (.int a1), some (.int a2), some (.int a3), none] [.int (clR a2), .ref 130]) : V X 43 1140 173 (hp τ) 356 [some (.ref 130), some (.int a1), some (.int a2), some (.int a3), none] [.int a2, .ref 130] := by
  suffices k1 : V X 43 1140 173 (hp τ) 377 [some (.ref 130), some (.int a1), some (.int a2), some (.int a3), none] [.int (clR a2), .ref 130] by
    refine V.if_ge hC d_Y_init_356 (tgt := 363) (by decide) (fun hc => ?_) (fun hc => ?_)
    · refine V.blk hC [(.iload_n 2, 1), (.sipush 200, 3)] 363 _ _ ⟨d_Y_init_363, d_Y_init_364, trivial⟩ (show tv_run _ _ _ _ = some (367, [some (.ref 130), some (.int a1), some (.int a2), some (.int a3), none], [.int (200 : Int32), .int a2, .ref 130]) from rfl) ?_
      refine V.icmp_le hC d_Y_init_367 (tgt := 376) (by decide) (fun hd => ?_) (fun hd => ?_)
      · rw [cl_R2 hc hd] at k1
        refine V.blk hC [(.iload_n 2, 1)] 376 _ _ ⟨d_Y_init_376, trivial⟩ (show tv_run _ _ _ _ = some (377, [some (.ref 130), some (.int a1), some (.int a2), some (.int a3), none], [.int a2, .ref 130]) from rfl) ?_
        exact k1
      · rw [cl_R3 hc hd] at k1
        refine V.blk hC [(.sipush 200, 3)] 370 _ _ ⟨d_Y_init_370, trivial⟩ (show tv_run _ _ _ _ = some (373, [some (.ref 130), some (.int a1), some (.int a2), some (.int a3), none], [.int (200 : Int32), .ref 130]) from rfl) ?_
        exact (V.goto hC d_Y_init_373 (tgt := 377) (by decide) k1)
    · rw [cl_R1 hc] at k1
      refine V.blk hC [(.iconst 0, 1)] 359 _ _ ⟨d_Y_init_359, trivial⟩ (show tv_run _ _ _ _ = some (360, [some (.ref 130), some (.int a1), some (.int a2), some (.int a3), none], [.int (0 : Int32), .ref 130]) from rfl) ?_
      exact (V.goto hC d_Y_init_360 (tgt := 377) (by decide) k1)
  exact kk
set_option maxHeartbeats 4000000 in
set_option maxRecDepth 100000 in
theorem k_Y3 {τ : tm_S} (hC : tv_K X tb_Y_init 5 "TrickleMeshModel" tm_wg tm_ns tm_cl tm_ty rmY) (hnm : tv_nm X = "<init>") (kk : V X 43 1140 173 (hp (sI τ 130 1 (clR a2))) 383 [some (.ref 130), some (.int a1), some (.int a2), some (.int a3), none] [.int (1 : Int32), .int a3, .ref 130]) : V X 43 1140 173 (hp τ) 377 [some (.ref 130), some (.int a1), some (.int a2), some (.int a3), none] [.int (clR a2), .ref 130] := by
  refine V.setF hC hnm (ci := 5) (k := 1) (C := tR_Y) (T := tT_Y) (N := 52) ⟨rfl, by decide, tl_Y, tq_Y_144⟩ tt_Y to_Y tn_Y rfl rfl (by decide +kernel) tm_fi kd_130 ⟨by omega, by omega⟩ rfl rfl (tm_le rfl) d_Y_init_377 ?_
  refine V.blk hC [(.aload_n 0, 1), (.iload_n 3, 1), (.iconst 1, 1)] 380 _ _ ⟨d_Y_init_380, d_Y_init_381, d_Y_init_382, trivial⟩ (show tv_run _ _ _ _ = some (383, [some (.ref 130), some (.int a1), some (.int a2), some (.int a3), none], [.int (1 : Int32), .int a3, .ref 130]) from rfl) ?_
  exact kk
set_option maxHeartbeats 4000000 in
set_option maxRecDepth 100000 in
theorem k_Y4 {τ : tm_S} (hC : tv_K X tb_Y_init 5 "TrickleMeshModel" tm_wg tm_ns tm_cl tm_ty rmY) (hnm : tv_nm X = "<init>") (kk : V X 43 1140 173 (hp τ) 402 [some (.ref 130), some (.int a1), some (.int a2), some (.int a3), none] [.int (clK a3), .ref 130]) : V X 43 1140 173 (hp τ) 383 [some (.ref 130), some (.int a1), some (.int a2), some (.int a3), none] [.int (1 : Int32), .int a3, .ref 130] := by
  suffices k2 : V X 43 1140 173 (hp τ) 402 [some (.ref 130), some (.int a1), some (.int a2), some (.int a3), none] [.int (clK a3), .ref 130] by
    refine V.icmp_ge hC d_Y_init_383 (tgt := 390) (by decide) (fun hc => ?_) (fun hc => ?_)
    · refine V.blk hC [(.iload_n 3, 1), (.bipush 9, 2)] 390 _ _ ⟨d_Y_init_390, d_Y_init_391, trivial⟩ (show tv_run _ _ _ _ = some (393, [some (.ref 130), some (.int a1), some (.int a2), some (.int a3), none], [.int (9 : Int32), .int a3, .ref 130]) from rfl) ?_
      refine V.icmp_le hC d_Y_init_393 (tgt := 401) (by decide) (fun hd => ?_) (fun hd => ?_)
      · rw [cl_K2 hc hd] at k2
        refine V.blk hC [(.iload_n 3, 1)] 401 _ _ ⟨d_Y_init_401, trivial⟩ (show tv_run _ _ _ _ = some (402, [some (.ref 130), some (.int a1), some (.int a2), some (.int a3), none], [.int a3, .ref 130]) from rfl) ?_
        exact k2
      · rw [cl_K3 hc hd] at k2
        refine V.blk hC [(.bipush 9, 2)] 396 _ _ ⟨d_Y_init_396, trivial⟩ (show tv_run _ _ _ _ = some (398, [some (.ref 130), some (.int a1), some (.int a2), some (.int a3), none], [.int (9 : Int32), .ref 130]) from rfl) ?_
        exact (V.goto hC d_Y_init_398 (tgt := 402) (by decide) k2)
    · rw [cl_K1 hc] at k2
      refine V.blk hC [(.iconst 1, 1)] 386 _ _ ⟨d_Y_init_386, trivial⟩ (show tv_run _ _ _ _ = some (387, [some (.ref 130), some (.int a1), some (.int a2), some (.int a3), none], [.int (1 : Int32), .ref 130]) from rfl) ?_
      exact (V.goto hC d_Y_init_387 (tgt := 402) (by decide) k2)
  exact kk
theorem k_Y5 {τ : tm_S} (hC : tv_K X tb_Y_init 5 "TrickleMeshModel" tm_wg tm_ns tm_cl tm_ty rmY) (hnm : tv_nm X = "<init>") (kk : V X 43 1140 173 (hp (sI τ 130 2 (clK a3))) 405 [some (.ref 130), some (.int a1), some (.int a2), some (.int a3), none] []) : V X 43 1140 173 (hp τ) 402 [some (.ref 130), some (.int a1), some (.int a2), some (.int a3), none] [.int (clK a3), .ref 130] := by
  refine V.setF hC hnm (ci := 5) (k := 2) (C := tR_Y) (T := tT_Y) (N := 52) ⟨rfl, by decide, tl_Y, tq_Y_147⟩ tt_Y to_Y tn_Y rfl rfl (by decide +kernel) tm_fi kd_130 ⟨by omega, by omega⟩ rfl rfl (tm_le rfl) d_Y_init_402 ?_
  exact kk
theorem k_Yb {τ : tm_S} (hC : tv_K X tb_Y_init 5 "TrickleMeshModel" tm_wg tm_ns tm_cl tm_ty rmY) (hnm : tv_nm X = "<init>") (kk : V X 43 1140 173 (hp (sI (sI (sI τ 130 0 a1) 130 1 (clR a2)) 130 2 (clK a3))) 405 [some (.ref 130), some (.int a1), some (.int a2), some (.int a3), none] []) : V X 43 1140 173 (hp τ) 349 [some (.ref 130), some (.int a1), some (.int a2), some (.int a3), none] [] := k_Y1 hC hnm (k_Y2 hC hnm (k_Y3 hC hnm (k_Y4 hC hnm (k_Y5 hC hnm kk))))
set_option maxHeartbeats 4000000 in
set_option maxRecDepth 100000 in
theorem k_Yd {τ σ' : tm_S} (hC : tv_K X tb_Y_init 5 "TrickleMeshModel" tm_wg tm_ns tm_cl tm_ty rmY) (hr : tv_ret X none) (hE : tv_end X (tm_P none σ') 43 1140) (hf : f_Y_reset (sI τ 142 0 1) 0 = some σ') : V X 43 1140 173 (hp τ) 516 [some (.ref 130), some (.int a1), some (.int a2), some (.int a3), some (.int (Int32.ofNat 49))] [] := by
  refine V.blk hC [(.aload_n 0, 1)] 516 _ _ ⟨d_Y_init_516, trivial⟩ (show tv_run _ _ _ _ = some (517, [some (.ref 130), some (.int a1), some (.int a2), some (.int a3), some (.int (Int32.ofNat 49))], [.ref 130]) from rfl) ?_
  refine V.getf hC tf_Y_44 (v := .ref 142) ⟨by omega, by omega⟩ (hp_at kd_130) rfl d_Y_init_517 ?_
  refine V.blk hC [(.iconst 0, 1), (.iconst 1, 1)] 520 _ _ ⟨d_Y_init_520, d_Y_init_521, trivial⟩ (show tv_run _ _ _ _ = some (522, [some (.ref 130), some (.int a1), some (.int a2), some (.int a3), some (.int (Int32.ofNat 49))], [.int (1 : Int32), .int (0 : Int32), .ref 142]) from rfl) ?_
  refine V.setz hC kd_142 ⟨by omega, by omega⟩ rfl rfl rfl (show ¬ ((0 : Int32) < 0 ∨ 7 ≤ (0 : Int32).toNatClampNeg) by decide) (Or.inr rfl) d_Y_init_522 ?_
  rw [show (0 : Int32).toNatClampNeg = 0 by decide]
  refine V.blk hC [(.aload_n 0, 1), (.iconst 0, 1)] 523 _ _ ⟨d_Y_init_523, d_Y_init_524, trivial⟩ (show tv_run _ _ _ _ = some (525, [some (.ref 130), some (.int a1), some (.int a2), some (.int a3), some (.int (Int32.ofNat 49))], [.int (0 : Int32), .ref 130]) from rfl) ?_
  refine V.callV hC tm_nest rfl (c_Y_reset (sI τ 142 0 1) 0 hf) (tm_gd tc_Y_reset) tg_Y_150 th_Y_reset ⟨tm_le rfl, tm_le rfl, tm_le rfl, tm_le rfl⟩ (ci := 5) (T := tT_Y) (N := 52) rfl ⟨by omega, by omega⟩ (hp_at kd_130) (As := [.int 0]) (st := []) rfl (tm_le rfl) d_Y_init_525 ?_
  rintro v n2 h2 ⟨rfl, rfl, rfl⟩
  exact V.vret hC hr hE d_Y_init_528 ⟨rfl, rfl, rfl⟩
set_option maxHeartbeats 4000000 in
set_option maxRecDepth 100000 in
theorem k_Y {σ' : tm_S} (hf : f_Y_reset (sI (yJ σ a1 (clR a2) (clK a3) 7 49) 142 0 1) 0 = some σ') : tv_Met ty_Y_init (Cond.code ty_Y_init tb_Y_init 5 none :: tm_wg) tm_ns tm_cl tm_ty 3 63 43 1140 [.ref 130, .int a1, .int a2, .int a3] 130 (va_up (hp σ) 130 (.inr (5, yf 0))) (tm_P none σ') := by
  refine tv_Met.of (by decide) rfl (tm_le rfl) ?_
  intro X hC hnm hr hE
  have hC : tv_K X tb_Y_init 5 "TrickleMeshModel" tm_wg tm_ns tm_cl tm_ty rmY := hC
  refine V.congr (hy_0 rfl) ?_
  refine k_Ya hC ?_
  refine k_Yb hC hnm ?_
  rw [yJ_0]
  refine V.blk hC [(.iconst 0, 1), (.istore 4, 2)] 405 _ _ ⟨d_Y_init_405, d_Y_init_406, trivial⟩ (show tv_run _ _ _ _ = some (408, [some (.ref 130), some (.int a1), some (.int a2), some (.int a3), some (.int (Int32.ofNat 0))], []) from rfl) ?_
  refine k_Yl hC ?_ 7 0 (by omega)
  refine V.blk hC [(.iconst 0, 1), (.istore 4, 2)] 492 _ _ ⟨d_Y_init_492, d_Y_init_493, trivial⟩ (show tv_run _ _ _ _ = some (495, [some (.ref 130), some (.int a1), some (.int a2), some (.int a3), some (.int (Int32.ofNat 0))], []) from rfl) ?_
  refine k_Ym hC ?_ 49 0 (by omega)
  exact k_Yd hC hr hE hf
end MOD
