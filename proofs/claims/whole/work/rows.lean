section
-- ===== PART A: goes FIRST, ahead of the names: the tables' words, and 'selects' of the private methods out of them =====
/-- a private method of a class that the tables say can be made, by its rows of tables_1 -/
def lw_okq (q : MethodName × Nat) : Prop := (q.1.cls ≠ "java/lang/invoke/MethodHandle" ∧ q.1.cls ≠ "java/lang/invoke/VarHandle") ∧ Cond.instantiable q.1.cls q.2 ∈ tables_1 ∧ Cond.privateMethod q.1 ∈ tables_1 ∧ Cond.instanceMethod q.1 ∈ tables_1
theorem lw_p0 : lw_okq (⟨"TrickleMesh", "resetTimer", "(LTrickleMesh$Node;)V"⟩, 11) := ⟨⟨by decide +kernel, by decide +kernel⟩, List.mem_of_getElem? (i := 11) (by decide +kernel), List.mem_of_getElem? (i := 210) (by decide +kernel), List.mem_of_getElem? (i := 211) (by decide +kernel)⟩
theorem lw_p1 : lw_okq (⟨"TrickleMesh", "beginInterval", "(LTrickleMesh$Timer;I)V"⟩, 11) := ⟨⟨by decide +kernel, by decide +kernel⟩, List.mem_of_getElem? (i := 11) (by decide +kernel), List.mem_of_getElem? (i := 214) (by decide +kernel), List.mem_of_getElem? (i := 215) (by decide +kernel)⟩
theorem lw_p2 : lw_okq (⟨"TrickleMesh", "draw", "(I)I"⟩, 11) := ⟨⟨by decide +kernel, by decide +kernel⟩, List.mem_of_getElem? (i := 11) (by decide +kernel), List.mem_of_getElem? (i := 218) (by decide +kernel), List.mem_of_getElem? (i := 219) (by decide +kernel)⟩
theorem lw_p3 : lw_okq (⟨"TrickleMesh", "sendOn", "(LTrickleMesh$Node;IIIIZ)V"⟩, 11) := ⟨⟨by decide +kernel, by decide +kernel⟩, List.mem_of_getElem? (i := 11) (by decide +kernel), List.mem_of_getElem? (i := 276) (by decide +kernel), List.mem_of_getElem? (i := 277) (by decide +kernel)⟩
theorem lw_p4 : lw_okq (⟨"TrickleMesh", "enqueue", "(LTrickleMesh$Node;II)LTrickleMesh$Frame;"⟩, 11) := ⟨⟨by decide +kernel, by decide +kernel⟩, List.mem_of_getElem? (i := 11) (by decide +kernel), List.mem_of_getElem? (i := 280) (by decide +kernel), List.mem_of_getElem? (i := 281) (by decide +kernel)⟩
theorem lw_p5 : lw_okq (⟨"TrickleMesh", "rememberTheAir", "()V"⟩, 11) := ⟨⟨by decide +kernel, by decide +kernel⟩, List.mem_of_getElem? (i := 11) (by decide +kernel), List.mem_of_getElem? (i := 292) (by decide +kernel), List.mem_of_getElem? (i := 293) (by decide +kernel)⟩
theorem lw_p6 : lw_okq (⟨"TrickleMesh", "goOnTheAir", "()V"⟩, 11) := ⟨⟨by decide +kernel, by decide +kernel⟩, List.mem_of_getElem? (i := 11) (by decide +kernel), List.mem_of_getElem? (i := 296) (by decide +kernel), List.mem_of_getElem? (i := 297) (by decide +kernel)⟩
theorem lw_p7 : lw_okq (⟨"TrickleMesh", "seemsBusy", "(LTrickleMesh$Node;)Z"⟩, 11) := ⟨⟨by decide +kernel, by decide +kernel⟩, List.mem_of_getElem? (i := 11) (by decide +kernel), List.mem_of_getElem? (i := 300) (by decide +kernel), List.mem_of_getElem? (i := 301) (by decide +kernel)⟩
theorem lw_p8 : lw_okq (⟨"TrickleMesh", "failFirst", "(LTrickleMesh$Node;)V"⟩, 11) := ⟨⟨by decide +kernel, by decide +kernel⟩, List.mem_of_getElem? (i := 11) (by decide +kernel), List.mem_of_getElem? (i := 304) (by decide +kernel), List.mem_of_getElem? (i := 305) (by decide +kernel)⟩
theorem lw_p9 : lw_okq (⟨"TrickleMesh", "removeFirst", "(LTrickleMesh$Radio;)V"⟩, 11) := ⟨⟨by decide +kernel, by decide +kernel⟩, List.mem_of_getElem? (i := 11) (by decide +kernel), List.mem_of_getElem? (i := 308) (by decide +kernel), List.mem_of_getElem? (i := 309) (by decide +kernel)⟩
theorem lw_p10 : lw_okq (⟨"TrickleMesh", "choose", "(LTrickleMesh$Node;)V"⟩, 11) := ⟨⟨by decide +kernel, by decide +kernel⟩, List.mem_of_getElem? (i := 11) (by decide +kernel), List.mem_of_getElem? (i := 312) (by decide +kernel), List.mem_of_getElem? (i := 313) (by decide +kernel)⟩
theorem lw_p11 : lw_okq (⟨"TrickleMesh", "bestParent", "(LTrickleMesh$Node;)I"⟩, 11) := ⟨⟨by decide +kernel, by decide +kernel⟩, List.mem_of_getElem? (i := 11) (by decide +kernel), List.mem_of_getElem? (i := 316) (by decide +kernel), List.mem_of_getElem? (i := 317) (by decide +kernel)⟩
theorem lw_p12 : lw_okq (⟨"TrickleMesh", "isBetter", "(LTrickleMesh$Node;II)Z"⟩, 11) := ⟨⟨by decide +kernel, by decide +kernel⟩, List.mem_of_getElem? (i := 11) (by decide +kernel), List.mem_of_getElem? (i := 320) (by decide +kernel), List.mem_of_getElem? (i := 321) (by decide +kernel)⟩
theorem lw_p13 : lw_okq (⟨"TrickleMesh", "rankBelow", "(LTrickleMesh$Node;I)I"⟩, 11) := ⟨⟨by decide +kernel, by decide +kernel⟩, List.mem_of_getElem? (i := 11) (by decide +kernel), List.mem_of_getElem? (i := 324) (by decide +kernel), List.mem_of_getElem? (i := 325) (by decide +kernel)⟩
theorem lw_p14 : lw_okq (⟨"TrickleMesh", "announce", "(LTrickleMesh$Node;IIZ)V"⟩, 11) := ⟨⟨by decide +kernel, by decide +kernel⟩, List.mem_of_getElem? (i := 11) (by decide +kernel), List.mem_of_getElem? (i := 331) (by decide +kernel), List.mem_of_getElem? (i := 332) (by decide +kernel)⟩
theorem lw_p15 : lw_okq (⟨"TrickleMesh", "hearTheAir", "()V"⟩, 11) := ⟨⟨by decide +kernel, by decide +kernel⟩, List.mem_of_getElem? (i := 11) (by decide +kernel), List.mem_of_getElem? (i := 338) (by decide +kernel), List.mem_of_getElem? (i := 339) (by decide +kernel)⟩
def lw_privs_1 : List (MethodName × Nat) := [(⟨"TrickleMesh", "resetTimer", "(LTrickleMesh$Node;)V"⟩, 11), (⟨"TrickleMesh", "beginInterval", "(LTrickleMesh$Timer;I)V"⟩, 11), (⟨"TrickleMesh", "draw", "(I)I"⟩, 11), (⟨"TrickleMesh", "sendOn", "(LTrickleMesh$Node;IIIIZ)V"⟩, 11), (⟨"TrickleMesh", "enqueue", "(LTrickleMesh$Node;II)LTrickleMesh$Frame;"⟩, 11), (⟨"TrickleMesh", "rememberTheAir", "()V"⟩, 11), (⟨"TrickleMesh", "goOnTheAir", "()V"⟩, 11), (⟨"TrickleMesh", "seemsBusy", "(LTrickleMesh$Node;)Z"⟩, 11), (⟨"TrickleMesh", "failFirst", "(LTrickleMesh$Node;)V"⟩, 11), (⟨"TrickleMesh", "removeFirst", "(LTrickleMesh$Radio;)V"⟩, 11), (⟨"TrickleMesh", "choose", "(LTrickleMesh$Node;)V"⟩, 11), (⟨"TrickleMesh", "bestParent", "(LTrickleMesh$Node;)I"⟩, 11), (⟨"TrickleMesh", "isBetter", "(LTrickleMesh$Node;II)Z"⟩, 11), (⟨"TrickleMesh", "rankBelow", "(LTrickleMesh$Node;I)I"⟩, 11), (⟨"TrickleMesh", "announce", "(LTrickleMesh$Node;IIZ)V"⟩, 11), (⟨"TrickleMesh", "hearTheAir", "()V"⟩, 11)]
theorem lw_r1 : ∀ q ∈ lw_privs_1, lw_okq q := List.forall_mem_cons.mpr ⟨lw_p0, List.forall_mem_cons.mpr ⟨lw_p1, List.forall_mem_cons.mpr ⟨lw_p2, List.forall_mem_cons.mpr ⟨lw_p3, List.forall_mem_cons.mpr ⟨lw_p4, List.forall_mem_cons.mpr ⟨lw_p5, List.forall_mem_cons.mpr ⟨lw_p6, List.forall_mem_cons.mpr ⟨lw_p7, List.forall_mem_cons.mpr ⟨lw_p8, List.forall_mem_cons.mpr ⟨lw_p9, List.forall_mem_cons.mpr ⟨lw_p10, List.forall_mem_cons.mpr ⟨lw_p11, List.forall_mem_cons.mpr ⟨lw_p12, List.forall_mem_cons.mpr ⟨lw_p13, List.forall_mem_cons.mpr ⟨lw_p14, List.forall_mem_cons.mpr ⟨lw_p15, fun _ h => absurd h List.not_mem_nil⟩⟩⟩⟩⟩⟩⟩⟩⟩⟩⟩⟩⟩⟩⟩⟩
theorem lw_p16 : lw_okq (⟨"TrickleMesh", "onlySpeaker", "(I)I"⟩, 11) := ⟨⟨by decide +kernel, by decide +kernel⟩, List.mem_of_getElem? (i := 11) (by decide +kernel), List.mem_of_getElem? (i := 342) (by decide +kernel), List.mem_of_getElem? (i := 343) (by decide +kernel)⟩
theorem lw_p17 : lw_okq (⟨"TrickleMesh", "takeWhatWasHeard", "()V"⟩, 11) := ⟨⟨by decide +kernel, by decide +kernel⟩, List.mem_of_getElem? (i := 11) (by decide +kernel), List.mem_of_getElem? (i := 346) (by decide +kernel), List.mem_of_getElem? (i := 347) (by decide +kernel)⟩
theorem lw_p18 : lw_okq (⟨"TrickleMesh", "takeAck", "(LTrickleMesh$Node;LTrickleMesh$Node;)V"⟩, 11) := ⟨⟨by decide +kernel, by decide +kernel⟩, List.mem_of_getElem? (i := 11) (by decide +kernel), List.mem_of_getElem? (i := 350) (by decide +kernel), List.mem_of_getElem? (i := 351) (by decide +kernel)⟩
theorem lw_p19 : lw_okq (⟨"TrickleMesh", "takeSolicit", "(LTrickleMesh$Node;)V"⟩, 11) := ⟨⟨by decide +kernel, by decide +kernel⟩, List.mem_of_getElem? (i := 11) (by decide +kernel), List.mem_of_getElem? (i := 354) (by decide +kernel), List.mem_of_getElem? (i := 355) (by decide +kernel)⟩
theorem lw_p20 : lw_okq (⟨"TrickleMesh", "takeAdvert", "(LTrickleMesh$Node;LTrickleMesh$Node;)V"⟩, 11) := ⟨⟨by decide +kernel, by decide +kernel⟩, List.mem_of_getElem? (i := 11) (by decide +kernel), List.mem_of_getElem? (i := 358) (by decide +kernel), List.mem_of_getElem? (i := 359) (by decide +kernel)⟩
theorem lw_p21 : lw_okq (⟨"TrickleMesh", "takeVersion", "(LTrickleMesh$Node;I)V"⟩, 11) := ⟨⟨by decide +kernel, by decide +kernel⟩, List.mem_of_getElem? (i := 11) (by decide +kernel), List.mem_of_getElem? (i := 362) (by decide +kernel), List.mem_of_getElem? (i := 363) (by decide +kernel)⟩
theorem lw_p22 : lw_okq (⟨"TrickleMesh", "takeOwn", "(LTrickleMesh$Node;LTrickleMesh$Node;LTrickleMesh$Frame;)V"⟩, 11) := ⟨⟨by decide +kernel, by decide +kernel⟩, List.mem_of_getElem? (i := 11) (by decide +kernel), List.mem_of_getElem? (i := 367) (by decide +kernel), List.mem_of_getElem? (i := 368) (by decide +kernel)⟩
theorem lw_p23 : lw_okq (⟨"TrickleMesh", "receiveAnnounce", "(LTrickleMesh$Node;ILTrickleMesh$Frame;)V"⟩, 11) := ⟨⟨by decide +kernel, by decide +kernel⟩, List.mem_of_getElem? (i := 11) (by decide +kernel), List.mem_of_getElem? (i := 371) (by decide +kernel), List.mem_of_getElem? (i := 372) (by decide +kernel)⟩
theorem lw_p24 : lw_okq (⟨"TrickleMesh", "receiveValue", "(LTrickleMesh$Node;ILTrickleMesh$Frame;)V"⟩, 11) := ⟨⟨by decide +kernel, by decide +kernel⟩, List.mem_of_getElem? (i := 11) (by decide +kernel), List.mem_of_getElem? (i := 378) (by decide +kernel), List.mem_of_getElem? (i := 379) (by decide +kernel)⟩
theorem lw_p25 : lw_okq (⟨"TrickleMesh", "deliver", "(LTrickleMesh$Node;LTrickleMesh$Frame;)V"⟩, 11) := ⟨⟨by decide +kernel, by decide +kernel⟩, List.mem_of_getElem? (i := 11) (by decide +kernel), List.mem_of_getElem? (i := 382) (by decide +kernel), List.mem_of_getElem? (i := 383) (by decide +kernel)⟩
theorem lw_p26 : lw_okq (⟨"TrickleMesh", "settleWhatWasOnTheAir", "()V"⟩, 11) := ⟨⟨by decide +kernel, by decide +kernel⟩, List.mem_of_getElem? (i := 11) (by decide +kernel), List.mem_of_getElem? (i := 386) (by decide +kernel), List.mem_of_getElem? (i := 387) (by decide +kernel)⟩
theorem lw_p27 : lw_okq (⟨"TrickleMesh", "settleWhatWasListenedFor", "()V"⟩, 11) := ⟨⟨by decide +kernel, by decide +kernel⟩, List.mem_of_getElem? (i := 11) (by decide +kernel), List.mem_of_getElem? (i := 390) (by decide +kernel), List.mem_of_getElem? (i := 391) (by decide +kernel)⟩
theorem lw_p28 : lw_okq (⟨"TrickleMesh", "runTimers", "()V"⟩, 11) := ⟨⟨by decide +kernel, by decide +kernel⟩, List.mem_of_getElem? (i := 11) (by decide +kernel), List.mem_of_getElem? (i := 394) (by decide +kernel), List.mem_of_getElem? (i := 395) (by decide +kernel)⟩
theorem lw_p29 : lw_okq (⟨"TrickleMesh", "runTimer", "(LTrickleMesh$Node;)V"⟩, 11) := ⟨⟨by decide +kernel, by decide +kernel⟩, List.mem_of_getElem? (i := 11) (by decide +kernel), List.mem_of_getElem? (i := 398) (by decide +kernel), List.mem_of_getElem? (i := 399) (by decide +kernel)⟩
theorem lw_p30 : lw_okq (⟨"TrickleMesh", "enqueueOnce", "(LTrickleMesh$Node;I)V"⟩, 11) := ⟨⟨by decide +kernel, by decide +kernel⟩, List.mem_of_getElem? (i := 11) (by decide +kernel), List.mem_of_getElem? (i := 402) (by decide +kernel), List.mem_of_getElem? (i := 403) (by decide +kernel)⟩
theorem lw_p31 : lw_okq (⟨"TrickleMeshModel", "reset", "(I)V"⟩, 52) := ⟨⟨by decide +kernel, by decide +kernel⟩, List.mem_of_getElem? (i := 432) (by decide +kernel), List.mem_of_getElem? (i := 438) (by decide +kernel), List.mem_of_getElem? (i := 439) (by decide +kernel)⟩
def lw_privs_2 : List (MethodName × Nat) := [(⟨"TrickleMesh", "onlySpeaker", "(I)I"⟩, 11), (⟨"TrickleMesh", "takeWhatWasHeard", "()V"⟩, 11), (⟨"TrickleMesh", "takeAck", "(LTrickleMesh$Node;LTrickleMesh$Node;)V"⟩, 11), (⟨"TrickleMesh", "takeSolicit", "(LTrickleMesh$Node;)V"⟩, 11), (⟨"TrickleMesh", "takeAdvert", "(LTrickleMesh$Node;LTrickleMesh$Node;)V"⟩, 11), (⟨"TrickleMesh", "takeVersion", "(LTrickleMesh$Node;I)V"⟩, 11), (⟨"TrickleMesh", "takeOwn", "(LTrickleMesh$Node;LTrickleMesh$Node;LTrickleMesh$Frame;)V"⟩, 11), (⟨"TrickleMesh", "receiveAnnounce", "(LTrickleMesh$Node;ILTrickleMesh$Frame;)V"⟩, 11), (⟨"TrickleMesh", "receiveValue", "(LTrickleMesh$Node;ILTrickleMesh$Frame;)V"⟩, 11), (⟨"TrickleMesh", "deliver", "(LTrickleMesh$Node;LTrickleMesh$Frame;)V"⟩, 11), (⟨"TrickleMesh", "settleWhatWasOnTheAir", "()V"⟩, 11), (⟨"TrickleMesh", "settleWhatWasListenedFor", "()V"⟩, 11), (⟨"TrickleMesh", "runTimers", "()V"⟩, 11), (⟨"TrickleMesh", "runTimer", "(LTrickleMesh$Node;)V"⟩, 11), (⟨"TrickleMesh", "enqueueOnce", "(LTrickleMesh$Node;I)V"⟩, 11), (⟨"TrickleMeshModel", "reset", "(I)V"⟩, 52)]
theorem lw_r2 : ∀ q ∈ lw_privs_2, lw_okq q := List.forall_mem_cons.mpr ⟨lw_p16, List.forall_mem_cons.mpr ⟨lw_p17, List.forall_mem_cons.mpr ⟨lw_p18, List.forall_mem_cons.mpr ⟨lw_p19, List.forall_mem_cons.mpr ⟨lw_p20, List.forall_mem_cons.mpr ⟨lw_p21, List.forall_mem_cons.mpr ⟨lw_p22, List.forall_mem_cons.mpr ⟨lw_p23, List.forall_mem_cons.mpr ⟨lw_p24, List.forall_mem_cons.mpr ⟨lw_p25, List.forall_mem_cons.mpr ⟨lw_p26, List.forall_mem_cons.mpr ⟨lw_p27, List.forall_mem_cons.mpr ⟨lw_p28, List.forall_mem_cons.mpr ⟨lw_p29, List.forall_mem_cons.mpr ⟨lw_p30, List.forall_mem_cons.mpr ⟨lw_p31, fun _ h => absurd h List.not_mem_nil⟩⟩⟩⟩⟩⟩⟩⟩⟩⟩⟩⟩⟩⟩⟩⟩
theorem lw_p32 : lw_okq (⟨"TrickleMeshModel", "begin", "(I)V"⟩, 52) := ⟨⟨by decide +kernel, by decide +kernel⟩, List.mem_of_getElem? (i := 432) (by decide +kernel), List.mem_of_getElem? (i := 442) (by decide +kernel), List.mem_of_getElem? (i := 443) (by decide +kernel)⟩
theorem lw_p33 : lw_okq (⟨"TrickleMeshModel", "draw", "(I)I"⟩, 52) := ⟨⟨by decide +kernel, by decide +kernel⟩, List.mem_of_getElem? (i := 432) (by decide +kernel), List.mem_of_getElem? (i := 446) (by decide +kernel), List.mem_of_getElem? (i := 447) (by decide +kernel)⟩
theorem lw_p34 : lw_okq (⟨"TrickleMeshModel", "sendOn", "(IIIIIZ)V"⟩, 52) := ⟨⟨by decide +kernel, by decide +kernel⟩, List.mem_of_getElem? (i := 432) (by decide +kernel), List.mem_of_getElem? (i := 628) (by decide +kernel), List.mem_of_getElem? (i := 629) (by decide +kernel)⟩
theorem lw_p35 : lw_okq (⟨"TrickleMeshModel", "makeFrame", "(II)I"⟩, 52) := ⟨⟨by decide +kernel, by decide +kernel⟩, List.mem_of_getElem? (i := 432) (by decide +kernel), List.mem_of_getElem? (i := 632) (by decide +kernel), List.mem_of_getElem? (i := 633) (by decide +kernel)⟩
theorem lw_p36 : lw_okq (⟨"TrickleMeshModel", "queue", "(II)V"⟩, 52) := ⟨⟨by decide +kernel, by decide +kernel⟩, List.mem_of_getElem? (i := 432) (by decide +kernel), List.mem_of_getElem? (i := 636) (by decide +kernel), List.mem_of_getElem? (i := 637) (by decide +kernel)⟩
theorem lw_p37 : lw_okq (⟨"TrickleMeshModel", "first", "(I)V"⟩, 52) := ⟨⟨by decide +kernel, by decide +kernel⟩, List.mem_of_getElem? (i := 432) (by decide +kernel), List.mem_of_getElem? (i := 640) (by decide +kernel), List.mem_of_getElem? (i := 641) (by decide +kernel)⟩
theorem lw_p38 : lw_okq (⟨"TrickleMeshModel", "slot", "()V"⟩, 52) := ⟨⟨by decide +kernel, by decide +kernel⟩, List.mem_of_getElem? (i := 432) (by decide +kernel), List.mem_of_getElem? (i := 648) (by decide +kernel), List.mem_of_getElem? (i := 649) (by decide +kernel)⟩
theorem lw_p39 : lw_okq (⟨"TrickleMeshModel", "air", "(I)V"⟩, 52) := ⟨⟨by decide +kernel, by decide +kernel⟩, List.mem_of_getElem? (i := 432) (by decide +kernel), List.mem_of_getElem? (i := 652) (by decide +kernel), List.mem_of_getElem? (i := 653) (by decide +kernel)⟩
theorem lw_p40 : lw_okq (⟨"TrickleMeshModel", "nearWasOn", "(I)Z"⟩, 52) := ⟨⟨by decide +kernel, by decide +kernel⟩, List.mem_of_getElem? (i := 432) (by decide +kernel), List.mem_of_getElem? (i := 656) (by decide +kernel), List.mem_of_getElem? (i := 657) (by decide +kernel)⟩
theorem lw_p41 : lw_okq (⟨"TrickleMeshModel", "fails", "(I)V"⟩, 52) := ⟨⟨by decide +kernel, by decide +kernel⟩, List.mem_of_getElem? (i := 432) (by decide +kernel), List.mem_of_getElem? (i := 660) (by decide +kernel), List.mem_of_getElem? (i := 661) (by decide +kernel)⟩
theorem lw_p42 : lw_okq (⟨"TrickleMeshModel", "done", "(I)V"⟩, 52) := ⟨⟨by decide +kernel, by decide +kernel⟩, List.mem_of_getElem? (i := 432) (by decide +kernel), List.mem_of_getElem? (i := 664) (by decide +kernel), List.mem_of_getElem? (i := 665) (by decide +kernel)⟩
theorem lw_p43 : lw_okq (⟨"TrickleMeshModel", "choose", "(I)Z"⟩, 52) := ⟨⟨by decide +kernel, by decide +kernel⟩, List.mem_of_getElem? (i := 432) (by decide +kernel), List.mem_of_getElem? (i := 668) (by decide +kernel), List.mem_of_getElem? (i := 669) (by decide +kernel)⟩
theorem lw_p44 : lw_okq (⟨"TrickleMeshModel", "allGoals", "(I)I"⟩, 52) := ⟨⟨by decide +kernel, by decide +kernel⟩, List.mem_of_getElem? (i := 432) (by decide +kernel), List.mem_of_getElem? (i := 672) (by decide +kernel), List.mem_of_getElem? (i := 673) (by decide +kernel)⟩
theorem lw_p45 : lw_okq (⟨"TrickleMeshModel", "announce", "(IIIZ)V"⟩, 52) := ⟨⟨by decide +kernel, by decide +kernel⟩, List.mem_of_getElem? (i := 432) (by decide +kernel), List.mem_of_getElem? (i := 676) (by decide +kernel), List.mem_of_getElem? (i := 677) (by decide +kernel)⟩
theorem lw_p46 : lw_okq (⟨"TrickleMeshModel", "heardFrom", "(I)I"⟩, 52) := ⟨⟨by decide +kernel, by decide +kernel⟩, List.mem_of_getElem? (i := 432) (by decide +kernel), List.mem_of_getElem? (i := 680) (by decide +kernel), List.mem_of_getElem? (i := 681) (by decide +kernel)⟩
theorem lw_p47 : lw_okq (⟨"TrickleMeshModel", "takes", "(II)V"⟩, 52) := ⟨⟨by decide +kernel, by decide +kernel⟩, List.mem_of_getElem? (i := 432) (by decide +kernel), List.mem_of_getElem? (i := 684) (by decide +kernel), List.mem_of_getElem? (i := 685) (by decide +kernel)⟩
def lw_privs_3 : List (MethodName × Nat) := [(⟨"TrickleMeshModel", "begin", "(I)V"⟩, 52), (⟨"TrickleMeshModel", "draw", "(I)I"⟩, 52), (⟨"TrickleMeshModel", "sendOn", "(IIIIIZ)V"⟩, 52), (⟨"TrickleMeshModel", "makeFrame", "(II)I"⟩, 52), (⟨"TrickleMeshModel", "queue", "(II)V"⟩, 52), (⟨"TrickleMeshModel", "first", "(I)V"⟩, 52), (⟨"TrickleMeshModel", "slot", "()V"⟩, 52), (⟨"TrickleMeshModel", "air", "(I)V"⟩, 52), (⟨"TrickleMeshModel", "nearWasOn", "(I)Z"⟩, 52), (⟨"TrickleMeshModel", "fails", "(I)V"⟩, 52), (⟨"TrickleMeshModel", "done", "(I)V"⟩, 52), (⟨"TrickleMeshModel", "choose", "(I)Z"⟩, 52), (⟨"TrickleMeshModel", "allGoals", "(I)I"⟩, 52), (⟨"TrickleMeshModel", "announce", "(IIIZ)V"⟩, 52), (⟨"TrickleMeshModel", "heardFrom", "(I)I"⟩, 52), (⟨"TrickleMeshModel", "takes", "(II)V"⟩, 52)]
theorem lw_r3 : ∀ q ∈ lw_privs_3, lw_okq q := List.forall_mem_cons.mpr ⟨lw_p32, List.forall_mem_cons.mpr ⟨lw_p33, List.forall_mem_cons.mpr ⟨lw_p34, List.forall_mem_cons.mpr ⟨lw_p35, List.forall_mem_cons.mpr ⟨lw_p36, List.forall_mem_cons.mpr ⟨lw_p37, List.forall_mem_cons.mpr ⟨lw_p38, List.forall_mem_cons.mpr ⟨lw_p39, List.forall_mem_cons.mpr ⟨lw_p40, List.forall_mem_cons.mpr ⟨lw_p41, List.forall_mem_cons.mpr ⟨lw_p42, List.forall_mem_cons.mpr ⟨lw_p43, List.forall_mem_cons.mpr ⟨lw_p44, List.forall_mem_cons.mpr ⟨lw_p45, List.forall_mem_cons.mpr ⟨lw_p46, List.forall_mem_cons.mpr ⟨lw_p47, fun _ h => absurd h List.not_mem_nil⟩⟩⟩⟩⟩⟩⟩⟩⟩⟩⟩⟩⟩⟩⟩⟩
theorem lw_p48 : lw_okq (⟨"TrickleMeshModel", "advert", "(II)V"⟩, 52) := ⟨⟨by decide +kernel, by decide +kernel⟩, List.mem_of_getElem? (i := 432) (by decide +kernel), List.mem_of_getElem? (i := 688) (by decide +kernel), List.mem_of_getElem? (i := 689) (by decide +kernel)⟩
theorem lw_p49 : lw_okq (⟨"TrickleMeshModel", "announced", "(III)V"⟩, 52) := ⟨⟨by decide +kernel, by decide +kernel⟩, List.mem_of_getElem? (i := 432) (by decide +kernel), List.mem_of_getElem? (i := 692) (by decide +kernel), List.mem_of_getElem? (i := 693) (by decide +kernel)⟩
theorem lw_p50 : lw_okq (⟨"TrickleMeshModel", "valued", "(III)V"⟩, 52) := ⟨⟨by decide +kernel, by decide +kernel⟩, List.mem_of_getElem? (i := 432) (by decide +kernel), List.mem_of_getElem? (i := 696) (by decide +kernel), List.mem_of_getElem? (i := 697) (by decide +kernel)⟩
theorem lw_p51 : lw_okq (⟨"TrickleMeshModel", "unheard", "(I)V"⟩, 52) := ⟨⟨by decide +kernel, by decide +kernel⟩, List.mem_of_getElem? (i := 432) (by decide +kernel), List.mem_of_getElem? (i := 700) (by decide +kernel), List.mem_of_getElem? (i := 701) (by decide +kernel)⟩
theorem lw_p52 : lw_okq (⟨"TrickleMeshModel", "later", "(I)V"⟩, 52) := ⟨⟨by decide +kernel, by decide +kernel⟩, List.mem_of_getElem? (i := 432) (by decide +kernel), List.mem_of_getElem? (i := 704) (by decide +kernel), List.mem_of_getElem? (i := 705) (by decide +kernel)⟩
theorem lw_p53 : lw_okq (⟨"TrickleMeshModel", "timer", "(I)V"⟩, 52) := ⟨⟨by decide +kernel, by decide +kernel⟩, List.mem_of_getElem? (i := 432) (by decide +kernel), List.mem_of_getElem? (i := 708) (by decide +kernel), List.mem_of_getElem? (i := 709) (by decide +kernel)⟩
theorem lw_p54 : lw_okq (⟨"TrickleMeshModel", "queues", "(II)Z"⟩, 52) := ⟨⟨by decide +kernel, by decide +kernel⟩, List.mem_of_getElem? (i := 432) (by decide +kernel), List.mem_of_getElem? (i := 712) (by decide +kernel), List.mem_of_getElem? (i := 713) (by decide +kernel)⟩
def lw_privs_4 : List (MethodName × Nat) := [(⟨"TrickleMeshModel", "advert", "(II)V"⟩, 52), (⟨"TrickleMeshModel", "announced", "(III)V"⟩, 52), (⟨"TrickleMeshModel", "valued", "(III)V"⟩, 52), (⟨"TrickleMeshModel", "unheard", "(I)V"⟩, 52), (⟨"TrickleMeshModel", "later", "(I)V"⟩, 52), (⟨"TrickleMeshModel", "timer", "(I)V"⟩, 52), (⟨"TrickleMeshModel", "queues", "(II)Z"⟩, 52)]
theorem lw_r4 : ∀ q ∈ lw_privs_4, lw_okq q := List.forall_mem_cons.mpr ⟨lw_p48, List.forall_mem_cons.mpr ⟨lw_p49, List.forall_mem_cons.mpr ⟨lw_p50, List.forall_mem_cons.mpr ⟨lw_p51, List.forall_mem_cons.mpr ⟨lw_p52, List.forall_mem_cons.mpr ⟨lw_p53, List.forall_mem_cons.mpr ⟨lw_p54, fun _ h => absurd h List.not_mem_nil⟩⟩⟩⟩⟩⟩⟩
def lw_privs : List (MethodName × Nat) := lw_privs_1 ++ (lw_privs_2 ++ (lw_privs_3 ++ (lw_privs_4)))
def lw_tbl : List Cond := k2_sels lw_privs ++ tables_1
theorem lw_privs_ok : ∀ q ∈ lw_privs, lw_okq q := by
  show ∀ q ∈ lw_privs_1 ++ (lw_privs_2 ++ (lw_privs_3 ++ (lw_privs_4))), lw_okq q
  exact List.forall_mem_append.mpr ⟨lw_r1, List.forall_mem_append.mpr ⟨lw_r2, List.forall_mem_append.mpr ⟨lw_r3, lw_r4⟩⟩⟩
end
section
/-! THE CLAIM OUT OF ONE WALK OF THE LAW'S BODY. Your part is whole_start (and what it stands on); all else here is the same for every law, but numbers. -/
def R_law : String := "TrickleMeshLaw"
def lw_P (b : Addr) (xs : List Int32) (args : Array Value) (s : State) : Prop := args = #[.ref b] ∧ s.IntsAt b xs ∧ xs.length ≤ 2563 ∧ (Jvm.Cond.and given_1 narrow_1).before args s = true
def lw_Q (_ : Array Value) (s : State) (o : Outcome) (t : State) : Prop := o = .returned (some (.int 1)) ∧ Framed s o t [] 600000 7302250
def lw_Z (below : List Frame) (a : Array Value) (s : State) : State → Prop := fun t => ∃ o, t.status = .running ∧ Ended t below o ∧ lw_Q a s o t
/-- the law's own end, with 1 on the stack, nothing written that was there before, its room as the claim has it -/
theorem lw_ret {p : Program} {l : Launch} {e : Env} {s : State} {m : MethodId} {below : List Frame} {meth : Method} {c : Code} {b : Nat} (hx : p.tables.exec = Jvm.exec) (hb : c.code = code) (hr : meth.sig.returnType = ret) (hlocks : meth.locks = false) {pc : Nat} {H : Heap} {ls : Array Slot} (hdg : decode code pc = .ok (.ireturn, 1)) : W p l e room_1 s m #[Value.ref b] below meth c H [] 600000 7302250 (lw_Z below #[Value.ref b] s) (F0 m pc ls [.int 1]) := by
  intro T hT X
  obtain ⟨fs, hret, hrun, hended, hW, hframe⟩ := X.leave (v := some (.int 1)) (hlocks := hlocks) (fun h => by rw [hr] at h; cases h)
  have hmeth' : T.vm.method? m = some meth := X.method'
  refine ⟨T.setFrames fs, ?_, .returned (some (.int 1)), hrun, hended, rfl, ⟨_, rfl⟩, hW, hframe⟩
  jvm_step X.here [X.here.top, hx, hb, hdg, hmeth', hr, ret, narrow_b1]
  (try refine ⟨rfl, ?_⟩); (try refine ⟨rfl, ?_⟩)
  first | (intro acts; rw [hret _ acts rfl rfl rfl]) | rw [hret _ _ rfl rfl rfl]
  exact Steps.refl _
/-- what holds at the law's entry: the machine, the code, the tables' words (any of lw_tbl by 'hts w (by decide +kernel)'), the script of L ints xs at the cell b, what the Statement gives of the start (any of its parts by flat_of_before) -/
def lw_At (p : Program) (s : State) (m : MethodId) (meth : Method) (c : Code) (b L : Nat) (xs : Nat → Int32) : Prop :=
  p.tables.exec = Jvm.exec ∧ c.code = code ∧ meth.sig.returnType = ret ∧ c.maxLocals = 4 ∧ s.vm.findClass R_law = some m.cls ∧ (∀ w ∈ lw_tbl, w.before #[Value.ref b] s = true) ∧ va_X b L xs s s.heap ∧ b < s.heap.size ∧ meth.locks = false ∧ (Jvm.Cond.and given_1 narrow_1).before #[Value.ref b] s = true
end
section
/-! A judgement over W: the heap is a function from small addresses to cells (0: the script; a + 1: the cell b + a), the locals are a list. -/
def tv_r (bs b : Nat) : Nat → Nat := fun a => match a with
  | 0 => bs
  | a + 1 => b + a
def tv_v (bs b : Nat) (v : Value) : Value := match v with
  | .int x => .int x
  | .long x => .long x
  | .float x => .float x
  | .double x => .double x
  | .null => .null
  | .ref a => .ref (tv_r bs b a)
  | .retAddr x => .retAddr x
theorem tv_v_cat (bs b : Nat) (v : Value) : (tv_v bs b v).category = v.category := by cases v <;> rfl
theorem tv_v_sum (bs b : Nat) (st : List Value) : ((st.map (tv_v bs b)).map fun v => v.category).sum = (st.map fun v => v.category).sum := by
  induction st with
  | nil => rfl
  | cons v t ih => simp only [List.map_cons, List.sum_cons, tv_v_cat, ih]
/-- a cell: an array (the number of its element type, its contents) or an object (the number of its class, its fields) -/
abbrev tv_C : Type := (Nat × vp_A) ⊕ (Nat × List Value)
def tv_A (bs b : Nat) (a : vp_A) : vp_A := (a.1, match a.2 with
  | .inl f => .inl f
  | .inr (.inl f) => .inr (.inl f)
  | .inr (.inr (.inl f)) => .inr (.inr (.inl f))
  | .inr (.inr (.inr (.inl f))) => .inr (.inr (.inr (.inl f)))
  | .inr (.inr (.inr (.inr f))) => .inr (.inr (.inr (.inr (fun j => (f j).map (tv_r bs b))))))
def tv_E (G : Nat → ClassId) (bs b : Nat) (c : tv_C) : va_E := match c with
  | .inl q => .inl (G q.1, tv_A bs b q.2)
  | .inr q => .inr (q.1, q.2.map (tv_v bs b))
def tv_W (G : Nat → ClassId) (bs b n : Nat) (h : Nat → tv_C) : va_W := (List.range n).map fun a => (b + a, tv_E G bs b (h (a + 1)))
theorem tv_W_at {G : Nat → ClassId} {bs b n a : Nat} {h : Nat → tv_C} (ha : a < n) : (tv_W G bs b n h)[a]? = some (b + a, tv_E G bs b (h (a + 1))) := by
  unfold tv_W
  rw [List.getElem?_map, List.getElem?_range ha]
  rfl
theorem tv_W_len (G : Nat → ClassId) (bs b n : Nat) (h : Nat → tv_C) : (tv_W G bs b n h).length = n := by simp [tv_W]
theorem tv_W_inv {G : Nat → ClassId} {bs b n a : Nat} {h : Nat → tv_C} {q : Nat × va_E} (hq : (tv_W G bs b n h)[a]? = some q) : a < n ∧ q = (b + a, tv_E G bs b (h (a + 1))) := by
  have ha : a < n := by
    have h1 := (List.getElem?_eq_some_iff.mp hq).1
    rw [tv_W_len] at h1
    exact h1
  rw [tv_W_at ha] at hq
  exact ⟨ha, (Option.some.inj hq).symm⟩
theorem tv_W_set {G : Nat → ClassId} {bs b n a : Nat} {h : Nat → tv_C} (ha : a < n) (c : tv_C) : (tv_W G bs b n h).set a (b + a, tv_E G bs b c) = tv_W G bs b n (va_up h (a + 1) c) := by
  apply List.ext_getElem?
  intro i
  by_cases hi : i = a
  · subst hi
    rw [List.getElem?_set_self (by rw [tv_W_len]; exact ha), tv_W_at ha, va_up_self]
  · rw [List.getElem?_set_ne (Ne.symm hi)]
    by_cases hn : i < n
    · rw [tv_W_at hn, tv_W_at hn, va_up_ne _ _ (by omega)]
    · rw [List.getElem?_eq_none (by rw [tv_W_len]; omega), List.getElem?_eq_none (by rw [tv_W_len]; omega)]
theorem tv_W_push (G : Nat → ClassId) (bs b n : Nat) (h : Nat → tv_C) (c : tv_C) : tv_W G bs b n h ++ [(b + n, tv_E G bs b c)] = tv_W G bs b (n + 1) (va_up h (n + 1) c) := by
  apply List.ext_getElem?
  intro i
  by_cases hi : i < n
  · rw [List.getElem?_append_left (by rw [tv_W_len]; exact hi), tv_W_at hi, tv_W_at (Nat.lt_succ_of_lt hi), va_up_ne _ _ (by omega)]
  · by_cases he : i = n
    · subst he
      rw [List.getElem?_append_right (by rw [tv_W_len]; omega), tv_W_len, tv_W_at (Nat.lt_succ_self _), va_up_self, Nat.sub_self]
      rfl
    · rw [List.getElem?_eq_none (by rw [List.length_append, tv_W_len]; simp; omega), List.getElem?_eq_none (by rw [tv_W_len]; omega)]
theorem tv_D (G : Nat → ClassId) (bs b n : Nat) (h : Nat → tv_C) : va_D (fun q => b ≤ q) (tv_W G bs b n h) := by
  refine ⟨fun i j p q hi hj he => ?_, fun k q hk => ?_⟩
  · obtain ⟨_, rfl⟩ := tv_W_inv hi
    obtain ⟨_, rfl⟩ := tv_W_inv hj
    have he : b + i = b + j := he
    omega
  · obtain ⟨_, rfl⟩ := tv_W_inv hk
    exact Nat.le_add_right _ _
/-- the heap H holds the cells h 1 .. h n, no more; the script is h 0 -/
def tv_R (cl : List vw_C) (D : va_G) (G : Nat → ClassId) (bs b n : Nat) (h : Nat → tv_C) (s : State) (H : Heap) : Prop :=
  H.size = b + n ∧ va_P D cl (tv_W G bs b n h) H ∧ ∀ (L : Nat) (xs : Nat → Int32), h 0 = .inl (0, (L, .inl xs)) → va_X bs L xs s H
def tv_ok (v : Value) : Bool := match v with
  | .int _ => true
  | .null => true
  | .ref _ => true
  | _ => false
theorem tv_ok_cat {v : Value} (h : tv_ok v = true) : v.category = 1 := by cases v <;> first | rfl | cases h
def tv_g (bs b : Nat) (ls : List (Option Value)) (i : Nat) : Option (Nat × Value) := match ls[i]? with
  | some (some v) => if tv_ok v = true then some (i, tv_v bs b v) else none
  | _ => none
def tv_ps (bs b : Nat) (ls : List (Option Value)) : List (Nat × Value) := (List.range ls.length).filterMap (tv_g bs b ls)
theorem tv_g_some {bs b i : Nat} {ls : List (Option Value)} {q : Nat × Value} (h : tv_g bs b ls i = some q) : ∃ v, ls[i]? = some (some v) ∧ tv_ok v = true ∧ q = (i, tv_v bs b v) := by
  unfold tv_g at h
  cases hc : ls[i]? with
  | none => rw [hc] at h; cases h
  | some o =>
    rw [hc] at h
    cases o with
    | none => cases h
    | some v =>
      by_cases ho : tv_ok v = true
      · simp only [ho, if_true] at h
        exact ⟨v, rfl, ho, (Option.some.inj h).symm⟩
      · simp only [ho] at h
        cases h
theorem tv_ps_mem {bs b i : Nat} {ls : List (Option Value)} {v : Value} (h : ls[i]? = some (some v)) (ho : tv_ok v = true) : (i, tv_v bs b v) ∈ tv_ps bs b ls := by
  refine List.mem_filterMap.mpr ⟨i, List.mem_range.mpr (List.getElem?_eq_some_iff.mp h).1, ?_⟩
  unfold tv_g
  rw [h]
  simp only [ho, if_true]
theorem tv_ps_inv {bs b : Nat} {ls : List (Option Value)} {q : Nat × Value} (h : q ∈ tv_ps bs b ls) : ∃ v, ls[q.1]? = some (some v) ∧ tv_ok v = true ∧ q.2 = tv_v bs b v := by
  obtain ⟨i, _, hi⟩ := List.mem_filterMap.mp h
  obtain ⟨v, h1, h2, rfl⟩ := tv_g_some hi
  exact ⟨v, h1, h2, rfl⟩
theorem tv_at {real : Array Slot} {N bs b i : Nat} {ls : List (Option Value)} {v : Value} (hl : lv_has real N (tv_ps bs b ls)) (h : ls[i]? = some (some v)) (ho : tv_ok v = true) : real[i]? = some (.val (tv_v bs b v)) := hl.2.2 _ (tv_ps_mem h ho)
/-- a store into a local -/
theorem tv_set {real : Array Slot} {N bs b i : Nat} {ls : List (Option Value)} {v : Value} (hl : lv_has real N ((i, tv_v bs b v) :: (tv_ps bs b ls).filter (fun q => !(q.1 == i) && !(q.1 + 1 == i && q.2.category == 2)))) : lv_has real N (tv_ps bs b (ls.set i (some v))) := by
  refine ⟨hl.1, hl.2.1, fun q hq => ?_⟩
  obtain ⟨w, h1, h2, h3⟩ := tv_ps_inv hq
  obtain ⟨j, u⟩ := q
  dsimp only at h1 h3 ⊢
  subst h3
  by_cases hj : j = i
  · subst hj
    have hlt : j < (ls.set j (some v)).length := (List.getElem?_eq_some_iff.mp h1).1
    rw [List.length_set] at hlt
    rw [List.getElem?_set_self hlt] at h1
    have hw : v = w := Option.some.inj (Option.some.inj h1)
    subst hw
    exact hl.2.2 _ List.mem_cons_self
  · rw [List.getElem?_set_ne (Ne.symm hj)] at h1
    refine hl.2.2 (j, tv_v bs b w) (List.mem_cons_of_mem _ (List.mem_filter.mpr ⟨tv_ps_mem h1 h2, ?_⟩))
    have hc : ((tv_v bs b w).category == 2) = false := by rw [tv_v_cat, tv_ok_cat h2]; rfl
    simp only [hc, Bool.and_false, Bool.not_false, Bool.and_true, Bool.not_eq_true', beq_eq_false_iff_ne, ne_eq]
    exact hj
/-- one activation of a method: the machine, the wanted end, the tables -/
abbrev tv_X : Type := (Program × Launch × Env × Room × State × MethodId × Array Value × List Frame × Method × Code) × (State → Prop) × (List vw_C × List FieldType × va_G × (Nat → ClassId) × Nat × Nat)
def tv_T (G : Nat → ClassId) (tys : List FieldType) : List (ClassId × FieldType) := (List.range tys.length).map fun t => (G t, tys.getD t .int)
theorem tv_T_at {G : Nat → ClassId} {tys : List FieldType} {t : Nat} {ty : FieldType} (h : tys[t]? = some ty) : (tv_T G tys)[t]? = some (G t, ty) := by
  have hlt : t < tys.length := (List.getElem?_eq_some_iff.mp h).1
  unfold tv_T
  rw [List.getElem?_map, List.getElem?_range hlt]
  simp [h]
/-- what a row takes of the activation: the code, the words Ts, the words of nest mates Ns, the room -/
def tv_K (X : tv_X) (cc : ByteArray) (nL : Nat) (own : String) (Ts Ns : List Cond) (CL : List vw_C) (TY : List FieldType) (rm : Room) : Prop := match X with
  | ((p, l, e, R, s, m, args, below, meth, c), Q, (cl, tys, D, G, bs, b)) =>
    p.tables.exec = Jvm.exec ∧ c.code = cc ∧ c.maxLocals = nL ∧ s.vm.findClass own = some m.cls ∧ (∀ w ∈ Ts, w.before args s = true) ∧ (∀ w ∈ Ns, va_Nw w s) ∧ va_K D cl (tv_T G tys) s ∧ meth.locks = false ∧ bs < b ∧ b ≤ s.heap.size ∧ R = rm ∧ cl = CL ∧ tys = TY
def V (X : tv_X) (cells slots n : Nat) (h : Nat → tv_C) (pc : Nat) (ls : List (Option Value)) (st : List Value) : Prop := match X with
  | ((p, l, e, R, s, m, args, below, meth, c), Q, (cl, tys, D, G, bs, b)) =>
    ∀ (H : Heap) (locs : List Loc) (real : Array Slot), tv_R cl D G bs b n h s H → va_S (fun q => b ≤ q) s.heap H locs → lv_has real ls.length (tv_ps bs b ls) → W p l e R s m args below meth c H locs cells slots Q (F0 m pc real (st.map (tv_v bs b)))
end
section
/-! straight stretches: constants, locals, stack and arithmetic in one step -/
def tv_li (ls : List (Option Value)) (k : Nat) : Option Int32 := match ls[k]? with
  | some (some (.int x)) => some x
  | _ => none
theorem tv_li_at {ls : List (Option Value)} {k : Nat} {x : Int32} (h : tv_li ls k = some x) : ls[k]? = some (some (.int x)) := by
  unfold tv_li at h
  split at h
  · rename_i y hy
    rw [hy, Option.some.inj h]
  · cases h
def tv_la (ls : List (Option Value)) (k : Nat) : Option Value := match ls[k]? with
  | some (some (.ref a)) => some (.ref a)
  | some (some .null) => some .null
  | _ => none
theorem tv_la_at {ls : List (Option Value)} {k : Nat} {v : Value} (h : tv_la ls k = some v) : ls[k]? = some (some v) ∧ (v = .null ∨ ∃ a, v = .ref a) := by
  unfold tv_la at h
  split at h
  · rename_i a ha
    obtain rfl := Option.some.inj h
    exact ⟨ha, Or.inr ⟨a, rfl⟩⟩
  · rename_i ha
    obtain rfl := Option.some.inj h
    exact ⟨ha, Or.inl rfl⟩
  · cases h
def tv_st (ls : List (Option Value)) (k : Nat) (v : Value) : Option (List (Option Value)) := if k < ls.length then some (ls.set k (some v)) else none
theorem tv_st_at {ls ls' : List (Option Value)} {k : Nat} {v : Value} (h : tv_st ls k v = some ls') : k < ls.length ∧ ls' = ls.set k (some v) := by
  unfold tv_st at h
  split at h
  · rename_i hk
    exact ⟨hk, (Option.some.inj h).symm⟩
  · cases h
/-- one instruction: its length, the locals and the stack behind it -/
def tv_s1 (i : Instr) (ls : List (Option Value)) (st : List Value) : Option (Nat × List (Option Value) × List Value) := match i, st with
  | .iconst k, st => some (1, ls, .int (Int32.ofInt k) :: st)
  | .bipush k, st => some (2, ls, .int (Int8.ofInt k).toInt32 :: st)
  | .sipush k, st => some (3, ls, .int (Int16.ofInt k).toInt32 :: st)
  | .aconst_null, st => some (1, ls, .null :: st)
  | .iload_n k, st => (tv_li ls (k : Nat)).map fun x => (1, ls, .int x :: st)
  | .iload k, st => (tv_li ls k).map fun x => (2, ls, .int x :: st)
  | .aload_n k, st => (tv_la ls (k : Nat)).map fun v => (1, ls, v :: st)
  | .aload k, st => (tv_la ls k).map fun v => (2, ls, v :: st)
  | .istore_n k, .int x :: st => (tv_st ls (k : Nat) (.int x)).map fun ls' => (1, ls', st)
  | .istore k, .int x :: st => (tv_st ls k (.int x)).map fun ls' => (2, ls', st)
  | .astore_n k, .ref x :: st => (tv_st ls (k : Nat) (.ref x)).map fun ls' => (1, ls', st)
  | .astore k, .ref x :: st => (tv_st ls k (.ref x)).map fun ls' => (2, ls', st)
  | .astore_n k, .null :: st => (tv_st ls (k : Nat) .null).map fun ls' => (1, ls', st)
  | .astore k, .null :: st => (tv_st ls k .null).map fun ls' => (2, ls', st)
  | .iinc k d, st => (tv_li ls k).map fun x => (3, ls.set k (some (.int (x + Int32.ofInt d))), st)
  | .iadd, .int y :: .int x :: st => some (1, ls, .int (x + y) :: st)
  | .isub, .int y :: .int x :: st => some (1, ls, .int (x - y) :: st)
  | .imul, .int y :: .int x :: st => some (1, ls, .int (x * y) :: st)
  | .iand, .int y :: .int x :: st => some (1, ls, .int (x &&& y) :: st)
  | .ior, .int y :: .int x :: st => some (1, ls, .int (x ||| y) :: st)
  | .ixor, .int y :: .int x :: st => some (1, ls, .int (x ^^^ y) :: st)
  | .ishl, .int y :: .int x :: st => some (1, ls, .int (x <<< (y &&& 31)) :: st)
  | .ishr, .int y :: .int x :: st => some (1, ls, .int (x >>> (y &&& 31)) :: st)
  | .iushr, .int y :: .int x :: st => some (1, ls, .int (x.toUInt32 >>> (y.toUInt32 &&& Int32.toUInt32 31)).toInt32 :: st)
  | .ineg, .int x :: st => some (1, ls, .int (-x) :: st)
  | .dup, v :: st => if tv_ok v = true then some (1, ls, v :: v :: st) else none
  | .pop, v :: st => if tv_ok v = true then some (1, ls, st) else none
  | .dup_x1, v :: w :: st => if tv_ok v = true ∧ tv_ok w = true then some (1, ls, v :: w :: v :: st) else none
  | .dup_x2, v :: w :: u :: st => if tv_ok v = true ∧ tv_ok w = true ∧ tv_ok u = true then some (1, ls, v :: w :: u :: v :: st) else none
  | .dup2, v :: w :: st => if tv_ok v = true ∧ tv_ok w = true then some (1, ls, v :: w :: v :: w :: st) else none
  | _, _ => none
def tv_dec (cc : ByteArray) (pc : Nat) (is : List (Instr × Nat)) : Prop := match is with
  | [] => True
  | i :: t => decode cc pc = .ok i ∧ tv_dec cc (pc + i.2) t
def tv_run (is : List (Instr × Nat)) (pc : Nat) (ls : List (Option Value)) (st : List Value) : Option (Nat × List (Option Value) × List Value) := match is with
  | [] => some (pc, ls, st)
  | i :: t => match tv_s1 i.1 ls st with
    | none => none
    | some r => if r.1 = i.2 then tv_run t (pc + i.2) r.2.1 r.2.2 else none
theorem tv_cat1 {v : Value} (bs b : Nat) (h : tv_ok v = true) : (tv_v bs b v).category = 1 := by rw [tv_v_cat]; exact tv_ok_cat h
section TVB
variable {X : tv_X} {cells slots n : Nat} {h : Nat → tv_C} {pc : Nat} {ls ls' : List (Option Value)} {st st' : List Value} {cc : ByteArray} {nL : Nat} {own : String} {Ts Ns : List Cond} {CL : List vw_C} {TY : List FieldType} {rm : Room}
theorem tv_len {real : Array Slot} {k : Nat} {v : Option Value} {l : List (Nat × Value)} (hl : lv_has real ls.length l) : lv_has real (ls.set k v).length l := by rw [List.length_set]; exact hl
set_option maxHeartbeats 4000000 in
theorem V.one (hC : tv_K X cc nL own Ts Ns CL TY rm) {i : Instr} {len : Nat} (hd : decode cc pc = .ok (i, len)) (hs : tv_s1 i ls st = some (len, ls', st')) (k : V X cells slots n h (pc + len) ls' st') : V X cells slots n h pc ls st := by
  obtain ⟨⟨p, l, e, R, s, m, args, below, meth, c⟩, Q, ⟨cl, tys, D, G, bs, b⟩⟩ := X
  obtain ⟨hx, hb, -⟩ := hC
  intro H locs real hR hS hl
  unfold tv_s1 at hs
  split at hs
  · cases hs; exact lv_iconst hx hb hd rfl (k H locs real hR hS hl)
  · cases hs; exact lv_bipush hx hb hd rfl (k H locs real hR hS hl)
  · cases hs; exact lv_sipush hx hb hd rfl (k H locs real hR hS hl)
  · cases hs; exact lv_null hx hb hd (k H locs real hR hS hl)
  · obtain ⟨x, h1, h2⟩ := Option.map_eq_some_iff.mp hs
    cases h2
    exact lv_iload_n hx hb hd rfl (tv_at hl (tv_li_at h1) rfl) (k H locs real hR hS hl)
  · obtain ⟨x, h1, h2⟩ := Option.map_eq_some_iff.mp hs
    cases h2
    exact lv_iload hx hb hd (tv_at hl (tv_li_at h1) rfl) (k H locs real hR hS hl)
  · obtain ⟨v, h1, h2⟩ := Option.map_eq_some_iff.mp hs
    cases h2
    obtain ⟨h3, rfl | ⟨a, rfl⟩⟩ := tv_la_at h1
    · exact lv_aload_nN hx hb hd rfl (tv_at hl h3 rfl) (k H locs real hR hS hl)
    · exact lv_aload_n hx hb hd rfl (tv_at hl h3 rfl) (k H locs real hR hS hl)
  · obtain ⟨v, h1, h2⟩ := Option.map_eq_some_iff.mp hs
    cases h2
    obtain ⟨h3, rfl | ⟨a, rfl⟩⟩ := tv_la_at h1
    · exact lv_aloadN hx hb hd (tv_at hl h3 rfl) (k H locs real hR hS hl)
    · exact lv_aload hx hb hd (tv_at hl h3 rfl) (k H locs real hR hS hl)
  · obtain ⟨l2, h1, h2⟩ := Option.map_eq_some_iff.mp hs
    cases h2
    obtain ⟨h3, rfl⟩ := tv_st_at h1
    exact lv_istore_n hx hb hd rfl hl h3 rfl (fun r2 h4 => k H locs r2 hR hS (tv_len (tv_set h4)))
  · obtain ⟨l2, h1, h2⟩ := Option.map_eq_some_iff.mp hs
    cases h2
    obtain ⟨h3, rfl⟩ := tv_st_at h1
    exact lv_istore hx hb hd hl h3 rfl (fun r2 h4 => k H locs r2 hR hS (tv_len (tv_set h4)))
  · obtain ⟨l2, h1, h2⟩ := Option.map_eq_some_iff.mp hs
    cases h2
    obtain ⟨h3, rfl⟩ := tv_st_at h1
    exact lv_astore_n hx hb hd rfl hl h3 rfl (fun r2 h4 => k H locs r2 hR hS (tv_len (tv_set h4)))
  · obtain ⟨l2, h1, h2⟩ := Option.map_eq_some_iff.mp hs
    cases h2
    obtain ⟨h3, rfl⟩ := tv_st_at h1
    exact lv_astore hx hb hd hl h3 rfl (fun r2 h4 => k H locs r2 hR hS (tv_len (tv_set h4)))
  · obtain ⟨l2, h1, h2⟩ := Option.map_eq_some_iff.mp hs
    cases h2
    obtain ⟨h3, rfl⟩ := tv_st_at h1
    exact lv_astore_nN hx hb hd rfl hl h3 rfl (fun r2 h4 => k H locs r2 hR hS (tv_len (tv_set h4)))
  · obtain ⟨l2, h1, h2⟩ := Option.map_eq_some_iff.mp hs
    cases h2
    obtain ⟨h3, rfl⟩ := tv_st_at h1
    exact lv_astoreN hx hb hd hl h3 rfl (fun r2 h4 => k H locs r2 hR hS (tv_len (tv_set h4)))
  · obtain ⟨x, h1, h2⟩ := Option.map_eq_some_iff.mp hs
    cases h2
    obtain ⟨q, hq⟩ := List.getElem?_of_mem (tv_ps_mem (bs := bs) (b := b) (tv_li_at h1) rfl)
    exact lv_iinc hx hb hd hl hq rfl (List.getElem?_eq_some_iff.mp (tv_li_at h1)).1 rfl (fun r2 h4 => k H locs r2 hR hS (tv_len (tv_set h4)))
  · cases hs; exact lv_iadd hx hb hd (k H locs real hR hS hl)
  · cases hs; exact lv_isub hx hb hd (k H locs real hR hS hl)
  · cases hs; exact lv_imul hx hb hd (k H locs real hR hS hl)
  · cases hs; exact lv_iand hx hb hd (k H locs real hR hS hl)
  · cases hs; exact lv_ior hx hb hd (k H locs real hR hS hl)
  · cases hs; exact lv_ixor hx hb hd (k H locs real hR hS hl)
  · cases hs; exact lv_ishl hx hb hd (k H locs real hR hS hl)
  · cases hs; exact lv_ishr hx hb hd (k H locs real hR hS hl)
  · cases hs; exact lv_iushr hx hb hd rfl (k H locs real hR hS hl)
  · cases hs; exact lv_ineg hx hb hd (k H locs real hR hS hl)
  · split at hs
    · rename_i h1; cases hs; exact lv_dup hx hb hd (tv_cat1 bs b h1) (k H locs real hR hS hl)
    · cases hs
  · split at hs
    · rename_i h1; cases hs; exact lv_pop hx hb hd (tv_cat1 bs b h1) (k H locs real hR hS hl)
    · cases hs
  · split at hs
    · rename_i h1; cases hs; exact lv_dup_x1 hx hb hd (tv_cat1 bs b h1.1) (tv_cat1 bs b h1.2) (k H locs real hR hS hl)
    · cases hs
  · split at hs
    · rename_i h1; cases hs; exact lv_dup_x2 hx hb hd (tv_cat1 bs b h1.1) (tv_cat1 bs b h1.2.1) (tv_cat1 bs b h1.2.2) (k H locs real hR hS hl)
    · cases hs
  · split at hs
    · rename_i h1; cases hs; exact lv_dup2_11 hx hb hd (tv_cat1 bs b h1.1) (tv_cat1 bs b h1.2) (k H locs real hR hS hl)
    · cases hs
  · cases hs
theorem V.blk (hC : tv_K X cc nL own Ts Ns CL TY rm) {pc' : Nat} : ∀ (is : List (Instr × Nat)) (pc : Nat) (ls : List (Option Value)) (st : List Value), tv_dec cc pc is → tv_run is pc ls st = some (pc', ls', st') → V X cells slots n h pc' ls' st' → V X cells slots n h pc ls st
  | [], pc, ls, st, _, hr, k => by
    cases hr
    exact k
  | i :: t, pc, ls, st, hd, hr, k => by
    unfold tv_run at hr
    split at hr
    · cases hr
    · rename_i r hs
      split at hr
      · rename_i he
        refine V.one hC (i := i.1) (len := i.2) hd.1 (hs.trans ?_) (V.blk hC t _ _ _ hd.2 hr k)
        rw [← he]
      · cases hr
end TVB
end
section
/-! rows over V: branches -/
section TVC
variable {X : tv_X} {cells slots n : Nat} {h : Nat → tv_C} {pc : Nat} {ls : List (Option Value)} {st : List Value} {cc : ByteArray} {nL : Nat} {own : String} {Ts Ns : List Cond} {CL : List vw_C} {TY : List FieldType} {rm : Room}
theorem V.if_eq (hC : tv_K X cc nL own Ts Ns CL TY rm) {x : Int32} {off : Int} {tgt : Nat} (hd : decode cc pc = .ok (.ifCond .eq off, 3)) (ht : (pc : Int) + off = (tgt : Int)) (kt : x = 0 → V X cells slots n h tgt ls st) (kf : ¬ x = 0 → V X cells slots n h (pc + 3) ls st) : V X cells slots n h pc ls (.int x :: st) := by
  obtain ⟨⟨p, l, e, R, s, m, args, below, meth, c⟩, Q, ⟨cl, tys, D, G, bs, b⟩⟩ := X
  obtain ⟨hx, hb, -⟩ := hC
  intro H locs real hR hS hl
  exact lv_if_eq hx hb hd ht (fun q => kt q H locs real hR hS hl) (fun q => kf q H locs real hR hS hl)
theorem V.icmp_eq (hC : tv_K X cc nL own Ts Ns CL TY rm) {x y : Int32} {off : Int} {tgt : Nat} (hd : decode cc pc = .ok (.if_icmp .eq off, 3)) (ht : (pc : Int) + off = (tgt : Int)) (kt : x = y → V X cells slots n h tgt ls st) (kf : ¬ x = y → V X cells slots n h (pc + 3) ls st) : V X cells slots n h pc ls (.int y :: .int x :: st) := by
  obtain ⟨⟨p, l, e, R, s, m, args, below, meth, c⟩, Q, ⟨cl, tys, D, G, bs, b⟩⟩ := X
  obtain ⟨hx, hb, -⟩ := hC
  intro H locs real hR hS hl
  exact lv_icmp_eq hx hb hd ht (fun q => kt q H locs real hR hS hl) (fun q => kf q H locs real hR hS hl)
theorem V.if_ne (hC : tv_K X cc nL own Ts Ns CL TY rm) {x : Int32} {off : Int} {tgt : Nat} (hd : decode cc pc = .ok (.ifCond .ne off, 3)) (ht : (pc : Int) + off = (tgt : Int)) (kt : ¬ x = 0 → V X cells slots n h tgt ls st) (kf : x = 0 → V X cells slots n h (pc + 3) ls st) : V X cells slots n h pc ls (.int x :: st) := by
  obtain ⟨⟨p, l, e, R, s, m, args, below, meth, c⟩, Q, ⟨cl, tys, D, G, bs, b⟩⟩ := X
  obtain ⟨hx, hb, -⟩ := hC
  intro H locs real hR hS hl
  exact lv_if_ne hx hb hd ht (fun q => kt q H locs real hR hS hl) (fun q => kf q H locs real hR hS hl)
theorem V.icmp_ne (hC : tv_K X cc nL own Ts Ns CL TY rm) {x y : Int32} {off : Int} {tgt : Nat} (hd : decode cc pc = .ok (.if_icmp .ne off, 3)) (ht : (pc : Int) + off = (tgt : Int)) (kt : ¬ x = y → V X cells slots n h tgt ls st) (kf : x = y → V X cells slots n h (pc + 3) ls st) : V X cells slots n h pc ls (.int y :: .int x :: st) := by
  obtain ⟨⟨p, l, e, R, s, m, args, below, meth, c⟩, Q, ⟨cl, tys, D, G, bs, b⟩⟩ := X
  obtain ⟨hx, hb, -⟩ := hC
  intro H locs real hR hS hl
  exact lv_icmp_ne hx hb hd ht (fun q => kt q H locs real hR hS hl) (fun q => kf q H locs real hR hS hl)
theorem V.if_lt (hC : tv_K X cc nL own Ts Ns CL TY rm) {x : Int32} {off : Int} {tgt : Nat} (hd : decode cc pc = .ok (.ifCond .lt off, 3)) (ht : (pc : Int) + off = (tgt : Int)) (kt : x < 0 → V X cells slots n h tgt ls st) (kf : ¬ x < 0 → V X cells slots n h (pc + 3) ls st) : V X cells slots n h pc ls (.int x :: st) := by
  obtain ⟨⟨p, l, e, R, s, m, args, below, meth, c⟩, Q, ⟨cl, tys, D, G, bs, b⟩⟩ := X
  obtain ⟨hx, hb, -⟩ := hC
  intro H locs real hR hS hl
  exact lv_if_lt hx hb hd ht (fun q => kt q H locs real hR hS hl) (fun q => kf q H locs real hR hS hl)
theorem V.icmp_lt (hC : tv_K X cc nL own Ts Ns CL TY rm) {x y : Int32} {off : Int} {tgt : Nat} (hd : decode cc pc = .ok (.if_icmp .lt off, 3)) (ht : (pc : Int) + off = (tgt : Int)) (kt : x < y → V X cells slots n h tgt ls st) (kf : ¬ x < y → V X cells slots n h (pc + 3) ls st) : V X cells slots n h pc ls (.int y :: .int x :: st) := by
  obtain ⟨⟨p, l, e, R, s, m, args, below, meth, c⟩, Q, ⟨cl, tys, D, G, bs, b⟩⟩ := X
  obtain ⟨hx, hb, -⟩ := hC
  intro H locs real hR hS hl
  exact lv_icmp_lt hx hb hd ht (fun q => kt q H locs real hR hS hl) (fun q => kf q H locs real hR hS hl)
theorem V.if_ge (hC : tv_K X cc nL own Ts Ns CL TY rm) {x : Int32} {off : Int} {tgt : Nat} (hd : decode cc pc = .ok (.ifCond .ge off, 3)) (ht : (pc : Int) + off = (tgt : Int)) (kt : 0 ≤ x → V X cells slots n h tgt ls st) (kf : ¬ 0 ≤ x → V X cells slots n h (pc + 3) ls st) : V X cells slots n h pc ls (.int x :: st) := by
  obtain ⟨⟨p, l, e, R, s, m, args, below, meth, c⟩, Q, ⟨cl, tys, D, G, bs, b⟩⟩ := X
  obtain ⟨hx, hb, -⟩ := hC
  intro H locs real hR hS hl
  exact lv_if_ge hx hb hd ht (fun q => kt q H locs real hR hS hl) (fun q => kf q H locs real hR hS hl)
theorem V.icmp_ge (hC : tv_K X cc nL own Ts Ns CL TY rm) {x y : Int32} {off : Int} {tgt : Nat} (hd : decode cc pc = .ok (.if_icmp .ge off, 3)) (ht : (pc : Int) + off = (tgt : Int)) (kt : y ≤ x → V X cells slots n h tgt ls st) (kf : ¬ y ≤ x → V X cells slots n h (pc + 3) ls st) : V X cells slots n h pc ls (.int y :: .int x :: st) := by
  obtain ⟨⟨p, l, e, R, s, m, args, below, meth, c⟩, Q, ⟨cl, tys, D, G, bs, b⟩⟩ := X
  obtain ⟨hx, hb, -⟩ := hC
  intro H locs real hR hS hl
  exact lv_icmp_ge hx hb hd ht (fun q => kt q H locs real hR hS hl) (fun q => kf q H locs real hR hS hl)
theorem V.if_gt (hC : tv_K X cc nL own Ts Ns CL TY rm) {x : Int32} {off : Int} {tgt : Nat} (hd : decode cc pc = .ok (.ifCond .gt off, 3)) (ht : (pc : Int) + off = (tgt : Int)) (kt : 0 < x → V X cells slots n h tgt ls st) (kf : ¬ 0 < x → V X cells slots n h (pc + 3) ls st) : V X cells slots n h pc ls (.int x :: st) := by
  obtain ⟨⟨p, l, e, R, s, m, args, below, meth, c⟩, Q, ⟨cl, tys, D, G, bs, b⟩⟩ := X
  obtain ⟨hx, hb, -⟩ := hC
  intro H locs real hR hS hl
  exact lv_if_gt hx hb hd ht (fun q => kt q H locs real hR hS hl) (fun q => kf q H locs real hR hS hl)
theorem V.icmp_gt (hC : tv_K X cc nL own Ts Ns CL TY rm) {x y : Int32} {off : Int} {tgt : Nat} (hd : decode cc pc = .ok (.if_icmp .gt off, 3)) (ht : (pc : Int) + off = (tgt : Int)) (kt : y < x → V X cells slots n h tgt ls st) (kf : ¬ y < x → V X cells slots n h (pc + 3) ls st) : V X cells slots n h pc ls (.int y :: .int x :: st) := by
  obtain ⟨⟨p, l, e, R, s, m, args, below, meth, c⟩, Q, ⟨cl, tys, D, G, bs, b⟩⟩ := X
  obtain ⟨hx, hb, -⟩ := hC
  intro H locs real hR hS hl
  exact lv_icmp_gt hx hb hd ht (fun q => kt q H locs real hR hS hl) (fun q => kf q H locs real hR hS hl)
theorem V.if_le (hC : tv_K X cc nL own Ts Ns CL TY rm) {x : Int32} {off : Int} {tgt : Nat} (hd : decode cc pc = .ok (.ifCond .le off, 3)) (ht : (pc : Int) + off = (tgt : Int)) (kt : x ≤ 0 → V X cells slots n h tgt ls st) (kf : ¬ x ≤ 0 → V X cells slots n h (pc + 3) ls st) : V X cells slots n h pc ls (.int x :: st) := by
  obtain ⟨⟨p, l, e, R, s, m, args, below, meth, c⟩, Q, ⟨cl, tys, D, G, bs, b⟩⟩ := X
  obtain ⟨hx, hb, -⟩ := hC
  intro H locs real hR hS hl
  exact lv_if_le hx hb hd ht (fun q => kt q H locs real hR hS hl) (fun q => kf q H locs real hR hS hl)
theorem V.icmp_le (hC : tv_K X cc nL own Ts Ns CL TY rm) {x y : Int32} {off : Int} {tgt : Nat} (hd : decode cc pc = .ok (.if_icmp .le off, 3)) (ht : (pc : Int) + off = (tgt : Int)) (kt : x ≤ y → V X cells slots n h tgt ls st) (kf : ¬ x ≤ y → V X cells slots n h (pc + 3) ls st) : V X cells slots n h pc ls (.int y :: .int x :: st) := by
  obtain ⟨⟨p, l, e, R, s, m, args, below, meth, c⟩, Q, ⟨cl, tys, D, G, bs, b⟩⟩ := X
  obtain ⟨hx, hb, -⟩ := hC
  intro H locs real hR hS hl
  exact lv_icmp_le hx hb hd ht (fun q => kt q H locs real hR hS hl) (fun q => kf q H locs real hR hS hl)
theorem V.goto (hC : tv_K X cc nL own Ts Ns CL TY rm) {off : Int} {tgt : Nat} (hd : decode cc pc = .ok (.goto off, 3)) (ht : (pc : Int) + off = (tgt : Int)) (k : V X cells slots n h tgt ls st) : V X cells slots n h pc ls st := by
  obtain ⟨⟨p, l, e, R, s, m, args, below, meth, c⟩, Q, ⟨cl, tys, D, G, bs, b⟩⟩ := X
  obtain ⟨hx, hb, -⟩ := hC
  intro H locs real hR hS hl
  exact lv_goto hx hb hd ht (k H locs real hR hS hl)
theorem V.ifnonnull (hC : tv_K X cc nL own Ts Ns CL TY rm) {x : Nat} {off : Int} {tgt : Nat} (hd : decode cc pc = .ok (.ifnonnull off, 3)) (ht : (pc : Int) + off = (tgt : Int)) (k : V X cells slots n h tgt ls st) : V X cells slots n h pc ls (.ref x :: st) := by
  obtain ⟨⟨p, l, e, R, s, m, args, below, meth, c⟩, Q, ⟨cl, tys, D, G, bs, b⟩⟩ := X
  obtain ⟨hx, hb, -⟩ := hC
  intro H locs real hR hS hl
  exact lv_ifnonnull hx hb hd ht (k H locs real hR hS hl)
theorem V.ifnull (hC : tv_K X cc nL own Ts Ns CL TY rm) {x : Nat} {off : Int} (hd : decode cc pc = .ok (.ifnull off, 3)) (k : V X cells slots n h (pc + 3) ls st) : V X cells slots n h pc ls (.ref x :: st) := by
  obtain ⟨⟨p, l, e, R, s, m, args, below, meth, c⟩, Q, ⟨cl, tys, D, G, bs, b⟩⟩ := X
  obtain ⟨hx, hb, -⟩ := hC
  intro H locs real hR hS hl
  exact lv_ifnull hx hb hd (k H locs real hR hS hl)
theorem V.ifnullN (hC : tv_K X cc nL own Ts Ns CL TY rm) {off : Int} {tgt : Nat} (hd : decode cc pc = .ok (.ifnull off, 3)) (ht : (pc : Int) + off = (tgt : Int)) (k : V X cells slots n h tgt ls st) : V X cells slots n h pc ls (.null :: st) := by
  obtain ⟨⟨p, l, e, R, s, m, args, below, meth, c⟩, Q, ⟨cl, tys, D, G, bs, b⟩⟩ := X
  obtain ⟨hx, hb, -⟩ := hC
  intro H locs real hR hS hl
  exact lv_ifnullN hx hb hd ht (k H locs real hR hS hl)
theorem V.ifnonnullN (hC : tv_K X cc nL own Ts Ns CL TY rm) {off : Int} (hd : decode cc pc = .ok (.ifnonnull off, 3)) (k : V X cells slots n h (pc + 3) ls st) : V X cells slots n h pc ls (.null :: st) := by
  obtain ⟨⟨p, l, e, R, s, m, args, below, meth, c⟩, Q, ⟨cl, tys, D, G, bs, b⟩⟩ := X
  obtain ⟨hx, hb, -⟩ := hC
  intro H locs real hR hS hl
  exact lv_ifnonnullN hx hb hd (k H locs real hR hS hl)
theorem V.lookup (hC : tv_K X cc nL own Ts Ns CL TY rm) {dflt : Int} {ps : Array (Int × Int)} {len : Nat} {x : Int32} {off : Int} {tgt : Nat} (hd : decode cc pc = .ok (.lookupswitch dflt ps, len)) (hp : (ps.toList.zip (ps.toList.drop 1)).all (fun (a, next) => a.1 < next.1) = true) (ho : Op.lookupswitch.offset ps.toList dflt x.toInt = off) (ht : (pc : Int) + off = (tgt : Int)) (k : V X cells slots n h tgt ls st) : V X cells slots n h pc ls (.int x :: st) := by
  obtain ⟨⟨p, l, e, R, s, m, args, below, meth, c⟩, Q, ⟨cl, tys, D, G, bs, b⟩⟩ := X
  obtain ⟨hx, hb, -⟩ := hC
  intro H locs real hR hS hl
  exact lv_lookup hx hb hd hp ho ht (k H locs real hR hS hl)
theorem V.tableOut (hC : tv_K X cc nL own Ts Ns CL TY rm) {dflt lo hi : Int} {offs : Array Int} {len : Nat} {x : Int32} {tgt : Nat} (hd : decode cc pc = .ok (.tableswitch dflt lo hi offs, len)) (hq : x.toInt < lo ∨ hi < x.toInt) (ht : (pc : Int) + dflt = (tgt : Int)) (k : V X cells slots n h tgt ls st) : V X cells slots n h pc ls (.int x :: st) := by
  obtain ⟨⟨p, l, e, R, s, m, args, below, meth, c⟩, Q, ⟨cl, tys, D, G, bs, b⟩⟩ := X
  obtain ⟨hx, hb, -⟩ := hC
  intro H locs real hR hS hl
  exact lv_tableOut hx hb hd hq ht (k H locs real hR hS hl)
theorem V.tableIn (hC : tv_K X cc nL own Ts Ns CL TY rm) {dflt lo hi : Int} {offs : Array Int} {len : Nat} {x : Int32} {off : Int} {tgt : Nat} (hd : decode cc pc = .ok (.tableswitch dflt lo hi offs, len)) (h1 : ¬ x.toInt < lo) (h2 : ¬ hi < x.toInt) (ho : offs[(x.toInt - lo).toNat]? = some off) (ht : (pc : Int) + off = (tgt : Int)) (k : V X cells slots n h tgt ls st) : V X cells slots n h pc ls (.int x :: st) := by
  obtain ⟨⟨p, l, e, R, s, m, args, below, meth, c⟩, Q, ⟨cl, tys, D, G, bs, b⟩⟩ := X
  obtain ⟨hx, hb, -⟩ := hC
  intro H locs real hR hS hl
  exact lv_tableIn hx hb hd h1 h2 ho ht (k H locs real hR hS hl)
theorem V.ldc (hC : tv_K X cc nL own Ts Ns CL TY rm) {index : Nat} {v : Int32} (hw : Cond.constant own index v ∈ Ts) (hd : decode cc pc = .ok (.ldc index, 2)) (k : V X cells slots n h (pc + 2) ls (.int v :: st)) : V X cells slots n h pc ls st := by
  obtain ⟨⟨p, l, e, R, s, m, args, below, meth, c⟩, Q, ⟨cl, tys, D, G, bs, b⟩⟩ := X
  obtain ⟨hx, hb, -, hown, hts, -⟩ := hC
  intro H locs real hR hS hl
  exact lv_ldc hx hb hown (hts _ hw) hd (k H locs real hR hS hl)
theorem V.idiv (hC : tv_K X cc nL own Ts Ns CL TY rm) {x y : Int32} (hd : decode cc pc = .ok (.idiv, 1)) (hne : ¬ y = 0) (k : V X cells slots n h (pc + 1) ls (.int (x / y) :: st)) : V X cells slots n h pc ls (.int y :: .int x :: st) := by
  obtain ⟨⟨p, l, e, R, s, m, args, below, meth, c⟩, Q, ⟨cl, tys, D, G, bs, b⟩⟩ := X
  obtain ⟨hx, hb, -⟩ := hC
  intro H locs real hR hS hl
  exact lv_idiv hx hb hd hne (k H locs real hR hS hl)
theorem V.irem (hC : tv_K X cc nL own Ts Ns CL TY rm) {x y : Int32} (hd : decode cc pc = .ok (.irem, 1)) (hne : ¬ y = 0) (k : V X cells slots n h (pc + 1) ls (.int (x - x / y * y) :: st)) : V X cells slots n h pc ls (.int y :: .int x :: st) := by
  obtain ⟨⟨p, l, e, R, s, m, args, below, meth, c⟩, Q, ⟨cl, tys, D, G, bs, b⟩⟩ := X
  obtain ⟨hx, hb, -⟩ := hC
  intro H locs real hR hS hl
  exact lv_irem hx hb hd hne (k H locs real hR hS hl)
theorem V.mmax (hC : tv_K X cc nL own Ts Ns CL TY rm) (hn : ls.length = nL) {index : Nat} (hw : Cond.methodLink own index Lib.Math.max.name ∈ Ts ∧ Cond.static Lib.Math.max.name ∈ Ts ∧ Cond.initialized "java/lang/Math" ∈ Ts ∧ Cond.code Lib.Math.max.name Lib.Math.max.code 2 (some .int) ∈ Ts) (hr : 1 ≤ rm.frames ∧ (st.map fun v => v.category).sum + 13 ≤ rm.locals ∧ cells ≤ rm.cells ∧ slots ≤ rm.slots) {x y : Int32} (hd : decode cc pc = .ok (.invokestatic index, 3)) (k : V X cells slots n h (pc + 3) ls (.int (if x < y then y else x) :: st)) : V X cells slots n h pc ls (.int y :: .int x :: st) := by
  obtain ⟨⟨p, l, e, R, s, m, args, below, meth, c⟩, Q, ⟨cl, tys, D, G, bs, b⟩⟩ := X
  obtain ⟨hx, hb, hml, hown, hts, -, -, -, -, -, rfl, rfl, rfl⟩ := hC
  intro H locs real hR hS hl
  exact va_mmax hx hb (by rw [hml, ← hn, hl.1]) hown (hts _ hw.1) (hts _ hw.2.1) (hts _ hw.2.2.1) (hts _ hw.2.2.2) hr.1 (by rw [tv_v_sum]; exact hr.2.1) hr.2.2.1 hr.2.2.2 hd (k H locs real hR hS hl)
theorem V.mmin (hC : tv_K X cc nL own Ts Ns CL TY rm) (hn : ls.length = nL) {index : Nat} (hw : Cond.methodLink own index Lib.Math.min.name ∈ Ts ∧ Cond.static Lib.Math.min.name ∈ Ts ∧ Cond.initialized "java/lang/Math" ∈ Ts ∧ Cond.code Lib.Math.min.name Lib.Math.min.code 2 (some .int) ∈ Ts) (hr : 1 ≤ rm.frames ∧ (st.map fun v => v.category).sum + 13 ≤ rm.locals ∧ cells ≤ rm.cells ∧ slots ≤ rm.slots) {x y : Int32} (hd : decode cc pc = .ok (.invokestatic index, 3)) (k : V X cells slots n h (pc + 3) ls (.int (if y < x then y else x) :: st)) : V X cells slots n h pc ls (.int y :: .int x :: st) := by
  obtain ⟨⟨p, l, e, R, s, m, args, below, meth, c⟩, Q, ⟨cl, tys, D, G, bs, b⟩⟩ := X
  obtain ⟨hx, hb, hml, hown, hts, -, -, -, -, -, rfl, rfl, rfl⟩ := hC
  intro H locs real hR hS hl
  exact va_mmin hx hb (by rw [hml, ← hn, hl.1]) hown (hts _ hw.1) (hts _ hw.2.1) (hts _ hw.2.2.1) (hts _ hw.2.2.2) hr.1 (by rw [tv_v_sum]; exact hr.2.1) hr.2.2.1 hr.2.2.2 hd (k H locs real hR hS hl)
end TVC
end
section
/-! rows over V: fields and arrays -/
/-- a field that an instruction names: the place idx of own's pool is slot k of the class ci -/
def tv_F (Ts Ns : List Cond) (CL : List vw_C) (own : String) (idx ci k : Nat) (C : String) (T : u_T) (N : Nat) : Prop :=
  CL[ci]? = some (C, T, N) ∧ k < N ∧ (∀ w ∈ u_ws C T N, w ∈ Ts) ∧ (Cond.fieldLink own idx (T k).1 (T k).2.1 (T k).2.2.1 ∈ Ts ∨ ∃ host, Cond.fieldLinkNest own idx (T k).1 (T k).2.1 (T k).2.2.1 host ∈ Ns)
theorem tv_rf (bs b : Nat) (r : Option Nat) : tv_v bs b (va_rf r) = va_rf (r.map (tv_r bs b)) := by cases r <;> rfl
theorem tv_sc {bs a : Nat} {h : Nat → tv_C} {s : State} {H H1 : Heap} {x : tv_C} (ha : 0 < a) (hs : ∀ (L : Nat) (xs : Nat → Int32), h 0 = .inl (0, (L, .inl xs)) → va_X bs L xs s H) (hk : H1[bs]? = H[bs]?) : ∀ (L : Nat) (xs : Nat → Int32), va_up h a x 0 = .inl (0, (L, .inl xs)) → va_X bs L xs s H1 := by
  intro L xs h0
  rw [va_up_ne _ _ (by omega)] at h0
  exact (hs L xs h0).kept hk
section TVH
variable {X : tv_X} {cells slots n : Nat} {h : Nat → tv_C} {pc : Nat} {ls : List (Option Value)} {st : List Value} {cc : ByteArray} {nL : Nat} {own : String} {Ts Ns : List Cond} {CL : List vw_C} {TY : List FieldType} {rm : Room}
theorem V.getf (hC : tv_K X cc nL own Ts Ns CL TY rm) {idx ci k a : Nat} {C : String} {T : u_T} {N : Nat} {fs : List Value} {v : Value} (hF : tv_F Ts Ns CL own idx ci k C T N) (ha : 0 < a ∧ a ≤ n) (hh : h a = .inr (ci, fs)) (hv : fs[k]? = some v) (hd : decode cc pc = .ok (.getfield idx, 3)) (kk : V X cells slots n h (pc + 3) ls (v :: st)) : V X cells slots n h pc ls (.ref a :: st) := by
  obtain ⟨⟨p, l, e, R, s, m, args, below, meth, c⟩, Q, ⟨cl, tys, D, G, bs, b⟩⟩ := X
  obtain ⟨hx, hb, hml, hown, hts, hns, hK, hlk, hbs, hbz, rfl, rfl, rfl⟩ := hC
  obtain ⟨hc, hk, hin, hlink⟩ := hF
  obtain ⟨a, rfl⟩ : ∃ a', a = a' + 1 := ⟨a - 1, by omega⟩
  intro H locs real hR hS hl
  have he : (tv_W G bs b n h)[a]? = some (b + a, .inr (ci, fs.map (tv_v bs b))) := by rw [tv_W_at (by omega), hh]; rfl
  have hv' : (fs.map (tv_v bs b))[k]? = some (tv_v bs b v) := by rw [List.getElem?_map, hv]; rfl
  rcases hlink with hw | ⟨host, hw⟩
  · exact va_get hx hb hts hin hown hK hR.2.1 a he hc k hk (hts _ hw) (fun _ h9 => h9) hv' hd (kk H locs real hR hS hl)
  · exact va_getN hx hb hts hin hown hK hR.2.1 a he hc k hk (va_Nw.use rfl (hns _ hw)) (fun _ h9 => h9) hv' hd (kk H locs real hR hS hl)
theorem V.putf (hC : tv_K X cc nL own Ts Ns CL TY rm) {idx ci k a : Nat} {C : String} {T : u_T} {N : Nat} {fs : List Value} {v : Value} {ty : FieldType} (hF : tv_F Ts Ns CL own idx ci k C T N) (tyT : Nat → FieldType) (hty : ∀ k, k < N → parseFieldDescriptor (T k).2.2.1 = some (tyT k)) (hnm : ∀ a, a < N → ∀ b, b < N → a ≠ b → (T a).2.1 ≠ (T b).2.1) (hfin : (T k).2.2.2 = false) (hds : parseFieldDescriptor (T k).2.2.1 = some ty) (hfit : ∀ bs b, narrow ty (tv_v bs b v) = tv_v bs b v ∧ fits ty (tv_v bs b v) = true) (ha : 0 < a ∧ a ≤ n) (hh : h a = .inr (ci, fs)) (hlen : k < fs.length) (hd : decode cc pc = .ok (.putfield idx, 3)) (kk : V X cells slots n (va_up h a (.inr (ci, fs.set k v))) (pc + 3) ls st) : V X cells slots n h pc ls (v :: .ref a :: st) := by
  obtain ⟨⟨p, l, e, R, s, m, args, below, meth, c⟩, Q, ⟨cl, tys, D, G, bs, b⟩⟩ := X
  obtain ⟨hx, hb, hml, hown, hts, hns, hK, hlk, hbs, hbz, rfl, rfl, rfl⟩ := hC
  obtain ⟨hc, hk, hin, hlink⟩ := hF
  obtain ⟨a, rfl⟩ : ∃ a', a = a' + 1 := ⟨a - 1, by omega⟩
  intro H locs real hR hS hl
  have he : (tv_W G bs b n h)[a]? = some (b + a, .inr (ci, fs.map (tv_v bs b))) := by rw [tv_W_at (by omega), hh]; rfl
  have hap := va_apart (own := own) hts hin tyT hty hnm hK hc
  obtain ⟨r, h1, cell, q1, q2, q3, q4⟩ := hR.2.1 a _ he
  have hr : r = (C, T, N) := Option.some.inj (h1.symm.trans hc)
  subst hr
  obtain ⟨hSl, hfc, kC, hkC, hkind⟩ := hK.1 ci _ hc
  obtain ⟨cf, kf, fi, f, hi, hsl⟩ := hSl k hk
  have hlay := hts _ (hin _ (u_in_lay hk))
  unfold u_lay at hlay
  rw [if_neg (by rw [hfin]; decide)] at hlay
  have hst := (u_facts hfc hkC (u_lays hts hin hk) hi).1
  have h6 := u_store hfc hkC hkind hlay hi hds (hfit bs b).1 (hfit bs b).2
  have fin : ∀ H1 : Heap, H1[b + a]? = some (cell.setSlot f.slot (tv_v bs b v)) → H1.size = H.size → (∀ q, q ≠ b + a → H1[q]? = H[q]?) → W p l e R s m args below meth c H1 (locs ++ [⟨b + a, f.slot⟩]) cells slots Q (F0 m (pc + 3) real (st.map (tv_v bs b))) := by
    intro H1 e1 e2 e3
    rw [hsl] at e1 ⊢
    refine kk H1 _ real ⟨e2.trans hR.1, ?_, tv_sc (by omega) hR.2.2 (e3 bs (by omega))⟩ (hS.put e2 e3 (Nat.le_add_right _ _)) hl
    have hm : tv_E G bs b (.inr (ci, fs.set k v)) = .inr (ci, (fs.map (tv_v bs b)).set k (tv_v bs b v)) := by
      show (Sum.inr (ci, (fs.set k v).map (tv_v bs b)) : va_E) = _
      rw [List.map_set]
    rw [← tv_W_set (by omega), hm]
    exact hR.2.1.set (tv_D G bs b n h) he ⟨_, hc, t_OB.to (V := updV (vp_V (fs.map (tv_v bs b))) k (tv_v bs b v)) ⟨_, e1, q2, q3, t_set q4 hap hk _⟩ (fun j _ => vp_updV_set (by rw [List.length_map]; exact hlen) _ j)⟩ e3
  rcases hlink with hw | ⟨host, hw⟩
  · exact W.putK hx hb (f := f) ⟨hown, hts _ hw, ⟨_, _, _, hi⟩, hst⟩ (by rw [q2]; exact h6) q1 q3 (by rw [hsl]; exact k2_hasslot (q4 k hk)) rfl rfl hd fin
  · exact va_WputK hx hb (f := f) hown (va_Nw.use rfl (hns _ hw)) hi hst (by rw [q2]; exact h6) q1 q3 (by rw [hsl]; exact k2_hasslot (q4 k hk)) rfl rfl hd fin
def tv_nm (X : tv_X) : String := match X with
  | ((p, l, e, R, s, m, args, below, meth, c), Q, (cl, tys, D, G, bs, b)) => meth.name
/-- a final field, in the constructor of its class -/
theorem V.putF (hC : tv_K X cc nL own Ts Ns CL TY rm) (hinit : tv_nm X = "<init>") {idx ci k a : Nat} {C : String} {T : u_T} {N : Nat} {fs : List Value} {v : Value} {ty : FieldType} (hF : CL[ci]? = some (C, T, N) ∧ k < N ∧ (∀ w ∈ u_ws C T N, w ∈ Ts) ∧ Cond.fieldLink own idx (T k).1 (T k).2.1 (T k).2.2.1 ∈ Ts) (tyT : Nat → FieldType) (hty : ∀ k, k < N → parseFieldDescriptor (T k).2.2.1 = some (tyT k)) (hnm : ∀ a, a < N → ∀ b, b < N → a ≠ b → (T a).2.1 ≠ (T b).2.1) (hfin : (T k).2.2.2 = true) (hdecl : (T k).1 = own) (hds : parseFieldDescriptor (T k).2.2.1 = some ty) (hfit : ∀ bs b, narrow ty (tv_v bs b v) = tv_v bs b v ∧ fits ty (tv_v bs b v) = true) (ha : 0 < a ∧ a ≤ n) (hh : h a = .inr (ci, fs)) (hlen : k < fs.length) (hd : decode cc pc = .ok (.putfield idx, 3)) (kk : V X cells slots n (va_up h a (.inr (ci, fs.set k v))) (pc + 3) ls st) : V X cells slots n h pc ls (v :: .ref a :: st) := by
  obtain ⟨⟨p, l, e, R, s, m, args, below, meth, c⟩, Q, ⟨cl, tys, D, G, bs, b⟩⟩ := X
  obtain ⟨hx, hb, hml, hown, hts, hns, hK, hlk, hbs, hbz, rfl, rfl, rfl⟩ := hC
  obtain ⟨hc, hk, hin, hw⟩ := hF
  obtain ⟨a, rfl⟩ : ∃ a', a = a' + 1 := ⟨a - 1, by omega⟩
  intro H locs real hR hS hl
  have he : (tv_W G bs b n h)[a]? = some (b + a, .inr (ci, fs.map (tv_v bs b))) := by rw [tv_W_at (by omega), hh]; rfl
  have hap := va_apart (own := own) hts hin tyT hty hnm hK hc
  obtain ⟨r, h1, cell, q1, q2, q3, q4⟩ := hR.2.1 a _ he
  have hr : r = (C, T, N) := Option.some.inj (h1.symm.trans hc)
  subst hr
  obtain ⟨hSl, hfc, kC, hkC, hkind⟩ := hK.1 ci _ hc
  obtain ⟨cf, kf, fi, f, hi, hsl⟩ := hSl k hk
  have hlay := hts _ (hin _ (u_in_lay hk))
  unfold u_lay at hlay
  rw [if_pos hfin] at hlay
  have hst := (u_facts hfc hkC (u_lays hts hin hk) hi).1
  have hcf : m.cls = cf := by
    obtain ⟨_, _, c2, _, _, _, -, -, hf2, -, -, -, hown2, -⟩ := Cond.laysFinal_spec hlay
    have e1 : c2 = cf := by have := hi.symm.trans hf2; simp at this; exact this.1.symm
    rw [hdecl] at hown2
    rw [← e1]; exact Option.some.inj (hown.symm.trans hown2)
  have h6 := u_fits hfc hkC hkind (Or.inr hlay) hi hds (hfit bs b).1 (hfit bs b).2
  refine W.putFinK hx hb hown (hts _ hw) hi hst hcf hinit (by rw [q2]; exact h6) q1 q3 (by rw [hsl]; exact k2_hasslot (q4 k hk)) rfl rfl hd fun H1 e1 e2 e3 => ?_
  have e3 : ∀ q : Nat, q ≠ b + a → H1[q]? = H[q]? := e3
  rw [hsl] at e1 ⊢
  refine kk H1 _ real ⟨e2.trans hR.1, ?_, tv_sc (by omega) hR.2.2 (e3 bs (by omega))⟩ (hS.put e2 e3 (Nat.le_add_right _ _)) hl
  have hm : tv_E G bs b (.inr (ci, fs.set k v)) = .inr (ci, (fs.map (tv_v bs b)).set k (tv_v bs b v)) := by
    show (Sum.inr (ci, (fs.set k v).map (tv_v bs b)) : va_E) = _
    rw [List.map_set]
  rw [← tv_W_set (by omega), hm]
  exact hR.2.1.set (tv_D G bs b n h) he ⟨_, hc, t_OB.to (V := updV (vp_V (fs.map (tv_v bs b))) k (tv_v bs b v)) ⟨_, e1, q2, q3, t_set q4 hap hk _⟩ (fun j _ => vp_updV_set (by rw [List.length_map]; exact hlen) _ j)⟩ e3
theorem V.iald (hC : tv_K X cc nL own Ts Ns CL TY rm) {t a len : Nat} {f : Nat → Int32} {i : Int32} (ha : 0 < a ∧ a ≤ n) (hh : h a = .inl (t, (len, .inl f))) (ht : TY[t]? = some .int) (hin : vp_in i len) (hd : decode cc pc = .ok (.iaload, 1)) (kk : V X cells slots n h (pc + 1) ls (.int (f i.toNatClampNeg) :: st)) : V X cells slots n h pc ls (.int i :: .ref a :: st) := by
  obtain ⟨⟨p, l, e, R, s, m, args, below, meth, c⟩, Q, ⟨cl, tys, D, G, bs, b⟩⟩ := X
  obtain ⟨hx, hb, hml, hown, hts, hns, hK, hlk, hbs, hbz, rfl, rfl, rfl⟩ := hC
  obtain ⟨a, rfl⟩ : ∃ a', a = a' + 1 := ⟨a - 1, by omega⟩
  intro H locs real hR hS hl
  have he : (tv_W G bs b n h)[a]? = some (b + a, .inl (G t, (len, .inl f))) := by rw [tv_W_at (by omega), hh]; rfl
  exact va_iald hx hb hK hR.2.1 a t he (tv_T_at ht) hin hd (kk H locs real hR hS hl)
theorem V.zald (hC : tv_K X cc nL own Ts Ns CL TY rm) {t a len : Nat} {f : Nat → Int32} {i : Int32} (ha : 0 < a ∧ a ≤ n) (hh : h a = .inl (t, (len, .inl f))) (ht : TY[t]? = some .boolean) (hin : vp_in i len) (hd : decode cc pc = .ok (.baload, 1)) (kk : V X cells slots n h (pc + 1) ls (.int (f i.toNatClampNeg) :: st)) : V X cells slots n h pc ls (.int i :: .ref a :: st) := by
  obtain ⟨⟨p, l, e, R, s, m, args, below, meth, c⟩, Q, ⟨cl, tys, D, G, bs, b⟩⟩ := X
  obtain ⟨hx, hb, hml, hown, hts, hns, hK, hlk, hbs, hbz, rfl, rfl, rfl⟩ := hC
  obtain ⟨a, rfl⟩ : ∃ a', a = a' + 1 := ⟨a - 1, by omega⟩
  intro H locs real hR hS hl
  have he : (tv_W G bs b n h)[a]? = some (b + a, .inl (G t, (len, .inl f))) := by rw [tv_W_at (by omega), hh]; rfl
  exact va_zald hx hb hK hR.2.1 a t he (tv_T_at ht) hin hd (kk H locs real hR hS hl)
/-- the script's own ints -/
theorem V.sld (hC : tv_K X cc nL own Ts Ns CL TY rm) {L : Nat} {xs : Nat → Int32} {i : Int32} (hh : h 0 = .inl (0, (L, .inl xs))) (hin : vp_in i L) (hd : decode cc pc = .ok (.iaload, 1)) (kk : V X cells slots n h (pc + 1) ls (.int (xs i.toNatClampNeg) :: st)) : V X cells slots n h pc ls (.int i :: .ref 0 :: st) := by
  obtain ⟨⟨p, l, e, R, s, m, args, below, meth, c⟩, Q, ⟨cl, tys, D, G, bs, b⟩⟩ := X
  obtain ⟨hx, hb, -⟩ := hC
  intro H locs real hR hS hl
  obtain ⟨scr, h1, h2, h3, h4, h5⟩ := hR.2.2 L xs hh
  have hlt : i.toNatClampNeg < L := Nat.not_le.mp fun q => hin (Or.inr q)
  exact W.iald (v := .int (xs i.toNatClampNeg)) hx hb h1 h2 h3 (by rw [h4]; exact hin) (h5 _ hlt) rfl rfl hd (kk H locs real hR hS hl)
theorem V.slen (hC : tv_K X cc nL own Ts Ns CL TY rm) {L : Nat} {xs : Nat → Int32} (hh : h 0 = .inl (0, (L, .inl xs))) (hd : decode cc pc = .ok (.arraylength, 1)) (kk : V X cells slots n h (pc + 1) ls (.int (Int32.ofNat L) :: st)) : V X cells slots n h pc ls (.ref 0 :: st) := by
  obtain ⟨⟨p, l, e, R, s, m, args, below, meth, c⟩, Q, ⟨cl, tys, D, G, bs, b⟩⟩ := X
  obtain ⟨hx, hb, -⟩ := hC
  intro H locs real hR hS hl
  obtain ⟨scr, h1, h2, h3, h4, h5⟩ := hR.2.2 L xs hh
  exact W.alen (n := Int32.ofNat L) hx hb h1 h2 (by rw [h4] <;> rfl) rfl rfl hd (kk H locs real hR hS hl)
theorem V.alen (hC : tv_K X cc nL own Ts Ns CL TY rm) {t a : Nat} {x : vp_A} {ty : FieldType} (ha : 0 < a ∧ a ≤ n) (hh : h a = .inl (t, x)) (ht : TY[t]? = some ty) (hd : decode cc pc = .ok (.arraylength, 1)) (kk : V X cells slots n h (pc + 1) ls (.int (Int32.ofNat x.1) :: st)) : V X cells slots n h pc ls (.ref a :: st) := by
  obtain ⟨⟨p, l, e, R, s, m, args, below, meth, c⟩, Q, ⟨cl, tys, D, G, bs, b⟩⟩ := X
  obtain ⟨hx, hb, hml, hown, hts, hns, hK, hlk, hbs, hbz, rfl, rfl, rfl⟩ := hC
  obtain ⟨a, rfl⟩ : ∃ a', a = a' + 1 := ⟨a - 1, by omega⟩
  intro H locs real hR hS hl
  have he : (tv_W G bs b n h)[a]? = some (b + a, .inl (G t, tv_A bs b x)) := by rw [tv_W_at (by omega), hh]; rfl
  exact va_alen hx hb hK hR.2.1 a t he (tv_T_at ht) rfl hd (kk H locs real hR hS hl)
theorem V.iast (hC : tv_K X cc nL own Ts Ns CL TY rm) {t a len : Nat} {f : Nat → Int32} {i x : Int32} (ha : 0 < a ∧ a ≤ n) (hh : h a = .inl (t, (len, .inl f))) (ht : TY[t]? = some .int) (hin : vp_in i len) (hd : decode cc pc = .ok (.iastore, 1)) (kk : V X cells slots n (va_up h a (.inl (t, (len, .inl (upd f i.toNatClampNeg x))))) (pc + 1) ls st) : V X cells slots n h pc ls (.int x :: .int i :: .ref a :: st) := by
  obtain ⟨⟨p, l, e, R, s, m, args, below, meth, c⟩, Q, ⟨cl, tys, D, G, bs, b⟩⟩ := X
  obtain ⟨hx, hb, hml, hown, hts, hns, hK, hlk, hbs, hbz, rfl, rfl, rfl⟩ := hC
  obtain ⟨a, rfl⟩ : ∃ a', a = a' + 1 := ⟨a - 1, by omega⟩
  intro H locs real hR hS hl
  have he : (tv_W G bs b n h)[a]? = some (b + a, .inl (G t, (len, .inl f))) := by rw [tv_W_at (by omega), hh]; rfl
  refine W.iast hx hb (hR.2.1 a _ he) ((hK.2 t _ (tv_T_at ht)).1 len (fun j => .int (f j))) (fun q => by cases q) (by show ¬ (i < 0 ∨ (arrV _ _ _).slots.size ≤ _); rw [arrV_size]; exact hin) rfl rfl hd fun H1 e1 e2 e3 => ?_
  have e3 : ∀ q : Nat, q ≠ b + a → H1[q]? = H[q]? := e3
  refine kk H1 _ real ⟨e2.trans hR.1, ?_, tv_sc (by omega) hR.2.2 (e3 bs (by omega))⟩ (hS.put e2 e3 (Nat.le_add_right _ _)) hl
  rw [← tv_W_set (by omega)]
  refine hR.2.1.set (tv_D G bs b n h) he ?_ e3
  show H1[b + a]? = some (vp_cell _ _)
  rw [e1]
  show some ((vp_cell _ (len, .inl f)).setSlot _ _) = some (vp_cell _ (len, .inl _))
  rw [vp_cell_i, vp_cell_i, arrV_store]
  congr 2
  funext q
  by_cases hq : q = i.toNatClampNeg
  · subst hq
    simp [updV, upd]
  · simp [updV, upd, hq]
theorem V.zast (hC : tv_K X cc nL own Ts Ns CL TY rm) {t a len : Nat} {f : Nat → Int32} {i x : Int32} (ha : 0 < a ∧ a ≤ n) (hh : h a = .inl (t, (len, .inl f))) (ht : TY[t]? = some .boolean) (hin : vp_in i len) (hz : x = 0 ∨ x = 1) (hd : decode cc pc = .ok (.bastore, 1)) (kk : V X cells slots n (va_up h a (.inl (t, (len, .inl (upd f i.toNatClampNeg x))))) (pc + 1) ls st) : V X cells slots n h pc ls (.int x :: .int i :: .ref a :: st) := by
  obtain ⟨⟨p, l, e, R, s, m, args, below, meth, c⟩, Q, ⟨cl, tys, D, G, bs, b⟩⟩ := X
  obtain ⟨hx, hb, hml, hown, hts, hns, hK, hlk, hbs, hbz, rfl, rfl, rfl⟩ := hC
  obtain ⟨a, rfl⟩ : ∃ a', a = a' + 1 := ⟨a - 1, by omega⟩
  intro H locs real hR hS hl
  have he : (tv_W G bs b n h)[a]? = some (b + a, .inl (G t, (len, .inl f))) := by rw [tv_W_at (by omega), hh]; rfl
  refine W.zast hx hb (hR.2.1 a _ he) ((hK.2 t _ (tv_T_at ht)).1 len (fun j => .int (f j))) (fun q => by cases q) (by show ¬ (i < 0 ∨ (arrV _ _ _).slots.size ≤ _); rw [arrV_size]; exact hin) rfl rfl hd fun H1 e1 e2 e3 => ?_
  have e3 : ∀ q : Nat, q ≠ b + a → H1[q]? = H[q]? := e3
  refine kk H1 _ real ⟨e2.trans hR.1, ?_, tv_sc (by omega) hR.2.2 (e3 bs (by omega))⟩ (hS.put e2 e3 (Nat.le_add_right _ _)) hl
  rw [← tv_W_set (by omega)]
  refine hR.2.1.set (tv_D G bs b n h) he ?_ e3
  show H1[b + a]? = some (vp_cell _ _)
  rw [e1]
  show some ((vp_cell _ (len, .inl f)).setSlot _ _) = some (vp_cell _ (len, .inl _))
  rw [vp_cell_i, vp_cell_i, arrV_store]
  congr 2
  funext q
  by_cases hq : q = i.toNatClampNeg
  · subst hq
    have hn : narrow .boolean (.int x) = .int x := by rcases hz with rfl | rfl <;> decide
    simp [updV, upd, hn]
  · simp [updV, upd, hq]
theorem V.aald (hC : tv_K X cc nL own Ts Ns CL TY rm) {t a len : Nat} {f : Nat → Option Nat} {i : Int32} {ty : FieldType} (ha : 0 < a ∧ a ≤ n) (hh : h a = .inl (t, (len, .inr (.inr (.inr (.inr f)))))) (ht : TY[t]? = some ty) (href : ty.isReference = true) (hin : vp_in i len) (hd : decode cc pc = .ok (.aaload, 1)) (kk : V X cells slots n h (pc + 1) ls (va_rf (f i.toNatClampNeg) :: st)) : V X cells slots n h pc ls (.int i :: .ref a :: st) := by
  obtain ⟨⟨p, l, e, R, s, m, args, below, meth, c⟩, Q, ⟨cl, tys, D, G, bs, b⟩⟩ := X
  obtain ⟨hx, hb, hml, hown, hts, hns, hK, hlk, hbs, hbz, rfl, rfl, rfl⟩ := hC
  obtain ⟨a, rfl⟩ : ∃ a', a = a' + 1 := ⟨a - 1, by omega⟩
  intro H locs real hR hS hl
  have he : (tv_W G bs b n h)[a]? = some (b + a, .inl (G t, (len, .inr (.inr (.inr (.inr (fun j => (f j).map (tv_r bs b)))))))) := by rw [tv_W_at (by omega), hh]; rfl
  have hlt : i.toNatClampNeg < len := Nat.not_le.mp fun q => hin (Or.inr q)
  have k1 := kk H locs real hR hS hl
  rw [List.map_cons, tv_rf] at k1
  exact W.aald (v := va_rf ((f i.toNatClampNeg).map (tv_r bs b))) (ty := ty) hx hb (hR.2.1 a _ he) ((hK.2 t _ (tv_T_at ht)).1 len (fun j => va_rf ((f j).map (tv_r bs b)))) href (fun q => by cases q) (by show ¬ (i < 0 ∨ (arrV _ _ _).slots.size ≤ _); rw [arrV_size]; exact hin) (by show (arrV _ _ _).slots[_]? = _; rw [arrV_read _ _ hlt]) rfl rfl hd k1
theorem V.aast (hC : tv_K X cc nL own Ts Ns CL TY rm) {t a len ci v : Nat} {f : Nat → Option Nat} {i : Int32} {r : vw_C} {vs : List Value} (ht : TY[t]? = some (.object r.1)) (hcl : CL[ci]? = some r) (ha : 0 < a ∧ a ≤ n) (hh : h a = .inl (t, (len, .inr (.inr (.inr (.inr f)))))) (hv : 0 < v ∧ v ≤ n) (hhv : h v = .inr (ci, vs)) (hin : vp_in i len) (hd : decode cc pc = .ok (.aastore, 1)) (kk : V X cells slots n (va_up h a (.inl (t, (len, .inr (.inr (.inr (.inr (va_up f i.toNatClampNeg (some v))))))))) (pc + 1) ls st) : V X cells slots n h pc ls (.ref v :: .int i :: .ref a :: st) := by
  obtain ⟨⟨p, l, e, R, s, m, args, below, meth, c⟩, Q, ⟨cl, tys, D, G, bs, b⟩⟩ := X
  obtain ⟨hx, hb, hml, hown, hts, hns, hK, hlk, hbs, hbz, rfl, rfl, rfl⟩ := hC
  obtain ⟨a, rfl⟩ : ∃ a', a = a' + 1 := ⟨a - 1, by omega⟩
  obtain ⟨v, rfl⟩ : ∃ a', v = a' + 1 := ⟨v - 1, by omega⟩
  intro H locs real hR hS hl
  have he : (tv_W G bs b n h)[a]? = some (b + a, .inl (G t, (len, .inr (.inr (.inr (.inr (fun j => (f j).map (tv_r bs b)))))))) := by rw [tv_W_at (by omega), hh]; rfl
  have hev : (tv_W G bs b n h)[v]? = some (b + v, .inr (ci, vs.map (tv_v bs b))) := by rw [tv_W_at (by omega), hhv]; rfl
  have hlt : i.toNatClampNeg < len := Nat.not_le.mp fun q => hin (Or.inr q)
  have h0 : ¬ i < 0 := fun q => hin (Or.inl q)
  obtain ⟨r2, hr2, cellV, g1, g2, g3, -⟩ := hR.2.1 v _ hev
  have hcls := (hK.1 ci r hcl).2
  obtain ⟨kA, comp, k1, k2, k3, -⟩ := (hK.2 t _ (tv_T_at ht)).2
  have hcomp : comp = D.1 ci := Option.some.inj (k3.symm.trans hcls.1)
  subst hcomp
  obtain ⟨kC, hkC, -⟩ := hcls.2
  refine W.aast hx hb (hR.2.1 a _ he) (fun q h => by cases h) (fun h => by cases h) k1 k2 rfl hkC ⟨h0, by show _ < (arrV _ _ _).slots.size; rw [arrV_size]; exact hlt⟩ g1 (fun q h => by rw [g3] at h; cases h) (by rw [g2]; exact hkC) (by rw [g2]; exact va_assign hcls) rfl rfl hd fun H1 e1 e2 e3 => ?_
  have e3 : ∀ q : Nat, q ≠ b + a → H1[q]? = H[q]? := e3
  refine kk H1 _ real ⟨e2.trans hR.1, ?_, tv_sc (by omega) hR.2.2 (e3 bs (by omega))⟩ (hS.put e2 e3 (Nat.le_add_right _ _)) hl
  rw [← tv_W_set (by omega)]
  refine hR.2.1.set (tv_D G bs b n h) he ?_ e3
  show H1[b + a]? = some (vp_cell _ _)
  rw [e1]
  show some ((vp_cell _ (len, .inr (.inr (.inr (.inr _))))).setSlot _ _) = some (vp_cell _ (len, .inr (.inr (.inr (.inr _)))))
  rw [vp_cell_q, vp_cell_q, arrV_store]
  congr 2
  funext q
  by_cases hq : q = i.toNatClampNeg
  · subst hq
    simp [updV, va_up, va_rf, tv_r]
  · simp [updV, va_up, hq]
end TVH
end
section
/-! rows over V: new cells -/
section TVN
variable {X : tv_X} {cells slots n : Nat} {h : Nat → tv_C} {pc : Nat} {ls : List (Option Value)} {st : List Value} {cc : ByteArray} {nL : Nat} {own : String} {Ts Ns : List Cond} {CL : List vw_C} {TY : List FieldType} {rm : Room}
/-- a cell more at the heap's end -/
theorem tv_more {cl : List vw_C} {D : va_G} {G : Nat → ClassId} {bs b n : Nat} {h : Nat → tv_C} {s : State} {H H1 : Heap} {x : tv_C} (hbs : bs < b) (hR : tv_R cl D G bs b n h s H) (he : va_at D cl (b + n, tv_E G bs b x) H1) (hz : H1.size = b + n + 1) (ho : ∀ q, q < b + n → H1[q]? = H[q]?) : tv_R cl D G bs b (n + 1) (va_up h (n + 1) x) s H1 := by
  refine ⟨hz, ?_, tv_sc (by omega) hR.2.2 (ho bs (by omega))⟩
  rw [← tv_W_push]
  refine (hR.2.1.kept (fun k q hq => ho q.1 ?_)).app (fun k q hq => ?_)
  · have := (hR.2.1 k q hq).lt
    rw [hR.1] at this
    exact this
  · have hk : k < 1 := (List.getElem?_eq_some_iff.mp hq).1
    obtain rfl : k = 0 := by omega
    cases hq
    exact he
theorem tv_S_more {A : Nat → Prop} {H0 H H1 : Heap} {locs : List Loc} {k : Nat} (hS : va_S A H0 H locs) (hk : H.size = k) (hz : H1.size = k + 1) (ho : ∀ q, q < k → H1[q]? = H[q]?) : va_S A H0 H1 locs := by
  subst hk
  exact ⟨Nat.le_trans hS.1 (by omega), fun q h1 h2 => (ho q (Nat.lt_of_lt_of_le h1 hS.1)).trans (hS.2.1 q h1 h2), hS.2.2⟩
theorem V.new (hC : tv_K X cc nL own Ts Ns CL TY rm) {idx ci : Nat} {C : String} {T : u_T} {N : Nat} {fs : List Value} (tyT : Nat → FieldType) (hty : ∀ k, k < N → parseFieldDescriptor (T k).2.2.1 = some (tyT k)) (hc : CL[ci]? = some (C, T, N)) (hin : ∀ w ∈ u_ws C T N, w ∈ Ts) (hw : Cond.classLink own idx C ∈ Ts ∧ Cond.instantiable C N ∈ Ts ∧ Cond.initialized C ∈ Ts) (hfs : ∀ bs b j, j < N → defaultValue (tyT j) = vp_V (fs.map (tv_v bs b)) j) (hrm : cells + 1 ≤ rm.cells ∧ slots + N ≤ rm.slots) (hd : decode cc pc = .ok (.new idx, 3)) (kk : V X (cells + 1) (slots + N) (n + 1) (va_up h (n + 1) (.inr (ci, fs))) (pc + 3) ls (.ref (n + 1) :: st)) : V X cells slots n h pc ls st := by
  obtain ⟨⟨p, l, e, R, s, m, args, below, meth, c⟩, Q, ⟨cl, tys, D, G, bs, b⟩⟩ := X
  obtain ⟨hx, hb, hml, hown, hts, hns, hK, hlk, hbs, hbz, rfl, rfl, rfl⟩ := hC
  intro H locs real hR hS hl
  have hKn := hK.1 ci _ hc
  refine W.newcK hx hb hown (hts _ hw.1) (hts _ hw.2.1) (hts _ hw.2.2) rfl hd hrm.1 hrm.2 hKn.2.1 hR.1 fun H1 kC hkC e1 z1 o1 => ?_
  exact kk H1 locs real (tv_more hbs hR ⟨_, hc, (u_born tyT hts hin hKn hkC e1 hty).to (hfs bs b)⟩ z1 o1) (tv_S_more hS hR.1 z1 o1) hl
theorem V.newi (hC : tv_K X cc nL own Ts Ns CL TY rm) {t N : Nat} {k : Int32} (ht : TY[t]? = some .int) (hw : Cond.arrayClass .int ∈ Ts) (hk : ¬ k < 0) (hN : k.toNatClampNeg = N) (hby : N * 4 ≤ 536870912) (hrm : cells + 1 ≤ rm.cells ∧ slots + N ≤ rm.slots) (hd : decode cc pc = .ok (.newarray .int, 2)) (kk : V X (cells + 1) (slots + N) (n + 1) (va_up h (n + 1) (.inl (t, (N, .inl (fun _ => 0))))) (pc + 2) ls (.ref (n + 1) :: st)) : V X cells slots n h pc ls (.int k :: st) := by
  obtain ⟨⟨p, l, e, R, s, m, args, below, meth, c⟩, Q, ⟨cl, tys, D, G, bs, b⟩⟩ := X
  obtain ⟨hx, hb, hml, hown, hts, hns, hK, hlk, hbs, hbz, rfl, rfl, rfl⟩ := hC
  intro H locs real hR hS hl
  refine va_newaK hx hb (atype := .int) (hts _ hw) rfl hd rfl hk hN hby hrm.1 hrm.2 hR.1 fun H1 cA e1 z1 o1 hAr hNm => ?_
  have hG : cA = G t := Option.some.inj (hNm.symm.trans (hK.2 t _ (tv_T_at ht)).2)
  subst hG
  exact kk H1 locs real (tv_more hbs hR e1 z1 o1) (tv_S_more hS hR.1 z1 o1) hl
theorem V.newz (hC : tv_K X cc nL own Ts Ns CL TY rm) {t N : Nat} {k : Int32} (ht : TY[t]? = some .boolean) (hw : Cond.arrayClass .boolean ∈ Ts) (hk : ¬ k < 0) (hN : k.toNatClampNeg = N) (hby : N * 1 ≤ 536870912) (hrm : cells + 1 ≤ rm.cells ∧ slots + N ≤ rm.slots) (hd : decode cc pc = .ok (.newarray .boolean, 2)) (kk : V X (cells + 1) (slots + N) (n + 1) (va_up h (n + 1) (.inl (t, (N, .inl (fun _ => 0))))) (pc + 2) ls (.ref (n + 1) :: st)) : V X cells slots n h pc ls (.int k :: st) := by
  obtain ⟨⟨p, l, e, R, s, m, args, below, meth, c⟩, Q, ⟨cl, tys, D, G, bs, b⟩⟩ := X
  obtain ⟨hx, hb, hml, hown, hts, hns, hK, hlk, hbs, hbz, rfl, rfl, rfl⟩ := hC
  intro H locs real hR hS hl
  refine va_newaK hx hb (atype := .boolean) (hts _ hw) rfl hd rfl hk hN hby hrm.1 hrm.2 hR.1 fun H1 cA e1 z1 o1 hAr hNm => ?_
  have hG : cA = G t := Option.some.inj (hNm.symm.trans (hK.2 t _ (tv_T_at ht)).2)
  subst hG
  exact kk H1 locs real (tv_more hbs hR e1 z1 o1) (tv_S_more hS hR.1 z1 o1) hl
theorem V.newq (hC : tv_K X cc nL own Ts Ns CL TY rm) {t N idx : Nat} {C : String} {k : Int32} (ht : TY[t]? = some (.object C)) (hw : Cond.classLink own idx C ∈ Ts ∧ Cond.arrayOver (.object C) ∈ Ns) (hk : ¬ k < 0) (hN : k.toNatClampNeg = N) (hby : N * 4 ≤ 536870912) (hrm : cells + 1 ≤ rm.cells ∧ slots + N ≤ rm.slots) (hd : decode cc pc = .ok (.anewarray idx, 3)) (kk : V X (cells + 1) (slots + N) (n + 1) (va_up h (n + 1) (.inl (t, (N, .inr (.inr (.inr (.inr (fun _ => none)))))))) (pc + 3) ls (.ref (n + 1) :: st)) : V X cells slots n h pc ls (.int k :: st) := by
  obtain ⟨⟨p, l, e, R, s, m, args, below, meth, c⟩, Q, ⟨cl, tys, D, G, bs, b⟩⟩ := X
  obtain ⟨hx, hb, hml, hown, hts, hns, hK, hlk, hbs, hbz, rfl, rfl, rfl⟩ := hC
  intro H locs real hR hS hl
  subst hN
  refine W.anew hx hb hown (hts _ hw.1) (hns _ hw.2) rfl hd rfl hk hby hrm.1 hrm.2 fun cA kA comp f1 f2 f3 f4 => ?_
  have hG : cA = G t := by
    obtain ⟨kA', comp', -, -, -, g4⟩ := (hK.2 t _ (tv_T_at ht)).2
    exact Option.some.inj (f1.symm.trans g4)
  subst hG
  generalize hH1 : H.push ({ cls := G t, slots := Array.replicate k.toNatClampNeg .null, vm := .none } : Cell) = H1
  have z1 : H1.size = b + n + 1 := by rw [← hH1, Array.size_push, hR.1]
  have e1 : H1[b + n]? = some (arrV (G t) k.toNatClampNeg (fun _ => .null)) := by rw [← hH1, ← hR.1, Array.getElem?_push_size, ← arrV_new]
  have o1 : ∀ q : Nat, q < b + n → H1[q]? = H[q]? := fun q hq => by rw [← hH1, Array.getElem?_push, if_neg (by rw [hR.1]; omega)]
  have k1 := kk H1 locs real (tv_more hbs hR (show H1[b + n]? = some (vp_cell _ _) by rw [tv_A, vp_cell_q]; exact e1) z1 o1) (tv_S_more hS hR.1 z1 o1) hl
  rw [hR.1]
  exact k1
end TVN
end
section
/-! contracts over V, calls, ends -/
/-- a method's end: an answer v and a heap h with P -/
def tv_Q (CL : List vw_C) (D : va_G) (G : Nat → ClassId) (bs b : Nat) (P : Option Value → Nat → (Nat → tv_C) → Prop) : Array Value → State → Outcome → State → Prop := fun _ st oc t =>
  (∃ (v : Option Value) (n : Nat) (h : Nat → tv_C), oc = .returned (v.map (tv_v bs b)) ∧ P v n h ∧ tv_R CL D G bs b n h t t.heap) ∧ va_F (fun q => b ≤ q) st t
def tv_Pc (Ns : List Cond) (CL : List vw_C) (TY : List FieldType) (D : va_G) (G : Nat → ClassId) (bs b n : Nat) (h : Nat → tv_C) (U : State) : Prop :=
  tv_R CL D G bs b n h U U.heap ∧ (∀ w ∈ Ns, va_Nw w U) ∧ va_K D CL (tv_T G TY) U ∧ bs < b
/-- the contract of y at the arguments av and the heap h -/
def tv_Met (y : MethodName) (ws Ns : List Cond) (CL : List vw_C) (TY : List FieldType) (fr lo mc ms : Nat) (av : List Value) (n : Nat) (h : Nat → tv_C) (P : Option Value → Nat → (Nat → tv_C) → Prop) : Prop :=
  ∀ (l : Launch) (D : va_G) (G : Nat → ClassId) (bs b : Nat), Met l y ws { frames := fr, cells := mc, slots := ms, locals := lo } (va_Pc (av.map (tv_v bs b)) (tv_Pc Ns CL TY D G bs b n h)) (tv_Q CL D G bs b P) mc ms (fun q => b ≤ q)
theorem tv_R.moved {cl : List vw_C} {D : va_G} {G : Nat → ClassId} {bs b n : Nat} {h : Nat → tv_C} {u U : State} {H : Heap} (hvm : u.vm.Alike U.vm) (hR : tv_R cl D G bs b n h u H) : tv_R cl D G bs b n h U H :=
  ⟨hR.1, hR.2.1, fun L xs h0 => (hR.2.2 L xs h0).moved hvm⟩
def tv_ret (X : tv_X) (ret : Option FieldType) : Prop := match X with
  | ((p, l, e, R, s, m, args, below, meth, c), Q, (cl, tys, D, G, bs, b)) => meth.sig.returnType = ret
/-- the wanted end is that of a contract -/
def tv_end (X : tv_X) (P : Option Value → Nat → (Nat → tv_C) → Prop) (mc ms : Nat) : Prop := match X with
  | ((p, l, e, R, s, m, args, below, meth, c), Q, (cl, tys, D, G, bs, b)) => Q = MQ below (tv_Q cl D G bs b P) args s mc ms (fun q => b ≤ q)
theorem tv_args {bs b : Nat} : ∀ (av : List Value) (i j : Nat) (v : Value), (∀ w ∈ av, tv_ok w = true) → av[j]? = some v → (i + j, tv_v bs b v) ∈ lv_args i (av.map (tv_v bs b))
  | [], i, j, v, _, h => by simp at h
  | w :: t, i, j, v, ho, h => by
    have hw : (tv_v bs b w).category = 1 := tv_cat1 bs b (ho w List.mem_cons_self)
    rw [List.map_cons, lv_args, if_neg (by rw [hw]; decide)]
    cases j with
    | zero =>
      have : w = v := by simpa using h
      subst this
      exact List.mem_cons_self
    | succ j =>
      have h1 : t[j]? = some v := by simpa using h
      have := tv_args (bs := bs) (b := b) t (i + 1) j v (fun u hu => ho u (List.mem_cons_of_mem _ hu)) h1
      rw [show i + (j + 1) = i + 1 + j by omega]
      exact List.mem_cons_of_mem _ this
theorem tv_sl {bs b : Nat} : ∀ (av : List Value), (∀ w ∈ av, tv_ok w = true) → (lg_sl (av.map (tv_v bs b))).length = av.length
  | [], _ => rfl
  | w :: t, ho => by
    have hw : (tv_v bs b w).category = 1 := tv_cat1 bs b (ho w List.mem_cons_self)
    have ih := tv_sl (bs := bs) (b := b) t (fun u hu => ho u (List.mem_cons_of_mem _ hu))
    unfold lg_sl at ih ⊢
    rw [List.map_cons, List.flatMap_cons, if_neg (by rw [hw]; decide), List.length_append, ih]
    simp; omega
/-- the locals at a method's entry -/
def tv_in (av : List Value) (nL : Nat) : List (Option Value) := av.map some ++ List.replicate (nL - av.length) none
theorem tv_Met.of {y : MethodName} {bytes : ByteArray} {maxL : Nat} {ret : Option FieldType} {ws' Ns : List Cond} {CL : List vw_C} {TY : List FieldType} {fr lo mc ms : Nat} {av : List Value} {n : Nat} {h : Nat → tv_C} {P : Option Value → Nat → (Nat → tv_C) → Prop}
    (hy : plainName y.cls = true) (hav0 : av.all tv_ok = true) (hlen : av.length ≤ maxL)
    (body : ∀ X : tv_X, tv_K X bytes maxL y.cls ws' Ns CL TY { frames := fr, cells := mc, slots := ms, locals := lo } → tv_nm X = y.name → tv_ret X ret → tv_end X P mc ms → V X 0 0 n h 0 (tv_in av maxL) []) :
    tv_Met y (Cond.code y bytes maxL ret :: ws') Ns CL TY fr lo mc ms av n h P := by
  have hav : ∀ w ∈ av, tv_ok w = true := List.all_eq_true.mp hav0
  intro l D G bs b
  refine Met.ofW (cc := bytes) (maxL := maxL) (ret := ret) hy rfl ?_
  intro p e s m args below meth c s₁ B hml hv
  obtain ⟨rfl, hR, hN, hK, hbs⟩ := hv
  have hts := atoms_spec (ws := Cond.code y bytes maxL ret :: ws') B.pre
  have hown : s.vm.findClass y.cls = some m.cls := findClass_of_methodNamed B.named
  have hb0 := body ((p, l, e, (headSpec (Cond.code y bytes maxL ret :: ws') { frames := fr, cells := mc, slots := ms, locals := lo }).room, s, m, (av.map (tv_v bs b)).toArray, below, meth, c), MQ below (tv_Q CL D G bs b P) (av.map (tv_v bs b)).toArray s mc ms (fun q => b ≤ q), (CL, TY, D, G, bs, b))
    ⟨B.exec, B.bytes, hml, hown, fun w hw => hts w (List.mem_cons_of_mem _ hw), hN, hK, B.notSynchronized, hbs, by rw [hR.1]; exact Nat.le_add_right _ _, rfl, rfl, rfl⟩ (name_of_methodNamed B.named B.method).1 B.returns rfl
  have hl := lv_entry (av.map (tv_v bs b)) (n := maxL) (by rw [tv_sl av hav]; exact hlen)
  rw [lg_entry_eq]
  refine hb0 s.heap [] _ hR va_S.rf ?_
  have hlen2 : (tv_in av maxL).length = maxL := by simp [tv_in]; omega
  rw [hlen2]
  refine ⟨hl.1, hl.2.1, fun q hq => hl.2.2 q ?_⟩
  obtain ⟨v, h1, h2, h3⟩ := tv_ps_inv hq
  obtain ⟨j, u⟩ := q
  dsimp only at h1 h3
  subst h3
  have h4 : av[j]? = some v := by
    unfold tv_in at h1
    by_cases hj : j < av.length
    · rw [List.getElem?_append_left (by rw [List.length_map]; exact hj), List.getElem?_map] at h1
      cases hc : av[j]? with
      | none => rw [hc] at h1; cases h1
      | some w => rw [hc] at h1; exact Option.some.inj h1
    · rw [List.getElem?_append_right (by rw [List.length_map]; omega)] at h1
      have := List.mem_of_getElem? h1
      have := List.eq_of_mem_replicate this
      cases this
  have := tv_args (bs := bs) (b := b) av 0 j v hav h4
  rw [Nat.zero_add] at this
  exact this
section TVE
variable {X : tv_X} {cells slots n : Nat} {h : Nat → tv_C} {pc : Nat} {ls : List (Option Value)} {st : List Value} {cc : ByteArray} {nL : Nat} {own : String} {Ts Ns : List Cond} {CL : List vw_C} {TY : List FieldType} {rm : Room} {P : Option Value → Nat → (Nat → tv_C) → Prop}
theorem V.iret (hC : tv_K X cc nL own Ts Ns CL TY rm) (hr : tv_ret X (some .int)) (hE : tv_end X P cells slots) {v : Int32} (hd : decode cc pc = .ok (.ireturn, 1)) (hp : P (some (.int v)) n h) : V X cells slots n h pc ls [.int v] := by
  obtain ⟨⟨p, l, e, R, s, m, args, below, meth, c⟩, Q, ⟨cl, tys, D, G, bs, b⟩⟩ := X
  obtain ⟨hx, hb, hml, hown, hts, hns, hK, hlk, hbs, hbz, rfl, rfl, rfl⟩ := hC
  obtain rfl : Q = _ := hE
  intro H locs real hR hS hl
  exact W.iret hx hb hr (fun t ht hW => ⟨⟨some (.int v), n, h, rfl, hp, (by rw [ht]; exact hR.moved hW.alike)⟩, hS.F ht⟩) hS.2.2 hd
theorem V.zret (hC : tv_K X cc nL own Ts Ns CL TY rm) (hr : tv_ret X (some .boolean)) (hE : tv_end X P cells slots) {v : Int32} (hv : narrow .boolean (.int v) = .int v) (hd : decode cc pc = .ok (.ireturn, 1)) (hp : P (some (.int v)) n h) : V X cells slots n h pc ls [.int v] := by
  obtain ⟨⟨p, l, e, R, s, m, args, below, meth, c⟩, Q, ⟨cl, tys, D, G, bs, b⟩⟩ := X
  obtain ⟨hx, hb, hml, hown, hts, hns, hK, hlk, hbs, hbz, rfl, rfl, rfl⟩ := hC
  obtain rfl : Q = _ := hE
  intro H locs real hR hS hl
  exact W.zret hx hb hr hv (fun t ht hW => ⟨⟨some (.int v), n, h, rfl, hp, (by rw [ht]; exact hR.moved hW.alike)⟩, hS.F ht⟩) hS.2.2 hd
theorem V.vret (hC : tv_K X cc nL own Ts Ns CL TY rm) (hr : tv_ret X none) (hE : tv_end X P cells slots) (hd : decode cc pc = .ok (.return_, 1)) (hp : P none n h) : V X cells slots n h pc ls [] := by
  obtain ⟨⟨p, l, e, R, s, m, args, below, meth, c⟩, Q, ⟨cl, tys, D, G, bs, b⟩⟩ := X
  obtain ⟨hx, hb, hml, hown, hts, hns, hK, hlk, hbs, hbz, rfl, rfl, rfl⟩ := hC
  obtain rfl : Q = _ := hE
  intro H locs real hR hS hl
  exact W.vret hx hb hr (fun t ht hW => ⟨⟨none, n, h, rfl, hp, (by rw [ht]; exact hR.moved hW.alike)⟩, hS.F ht⟩) hS.2.2 hd
theorem V.aret (hC : tv_K X cc nL own Ts Ns CL TY rm) {rt : FieldType} (hr : tv_ret X (some rt)) (hrt : (∃ n, rt = .object n) ∨ ∃ t, rt = .array t) (hE : tv_end X P cells slots) {v : Value} (hv : v = .null ∨ ∃ a, v = .ref a) (hd : decode cc pc = .ok (.areturn, 1)) (hp : P (some v) n h) : V X cells slots n h pc ls [v] := by
  obtain ⟨⟨p, l, e, R, s, m, args, below, meth, c⟩, Q, ⟨cl, tys, D, G, bs, b⟩⟩ := X
  obtain ⟨hx, hb, hml, hown, hts, hns, hK, hlk, hbs, hbz, rfl, rfl, rfl⟩ := hC
  obtain rfl : Q = _ := hE
  intro H locs real hR hS hl
  have hv2 : tv_v bs b v = .null ∨ ∃ a, tv_v bs b v = .ref a := by
    rcases hv with rfl | ⟨a, rfl⟩
    · exact Or.inl rfl
    · exact Or.inr ⟨_, rfl⟩
  exact W.aret hx hb hr hrt hv2 (fun t ht hW => ⟨⟨some v, n, h, rfl, hp, (by rw [ht]; exact hR.moved hW.alike)⟩, hS.F ht⟩) hS.2.2 hd
/-- behind a call -/
theorem tv_go {p : Program} {l : Launch} {e : Env} {R : Room} {s : State} {m : MethodId} {args : Array Value} {below : List Frame} {meth : Method} {c : Code} {H : Heap} {locs : List Loc} {mc ms : Nat} {Q : State → Prop} {cl : List vw_C} {D : va_G} {G : Nat → ClassId} {bs b : Nat} {real : Array Slot} {st0 rest : List Value} {a : Array Value}
    (hr : va_Run p l e R s m args below meth c H locs cells slots mc ms (F0 m pc real st0) rest (tv_Q cl D G bs b P a) (fun q => b ≤ q)) (hS : va_S (fun q => b ≤ q) s.heap H locs)
    (kk : ∀ (v : Option Value) (n' : Nat) (h' : Nat → tv_C) (H1 : Heap) (locs1 : List Loc), P v n' h' → tv_R cl D G bs b n' h' s H1 → va_S (fun q => b ≤ q) s.heap H1 locs1 → W p l e R s m args below meth c H1 locs1 (cells + mc) (slots + ms) Q (F0 m (pc + 3) real ((v.map (tv_v bs b)).toList ++ rest))) :
    W p l e R s m args below meth c H locs cells slots Q (F0 m pc real st0) := by
  intro T hT X
  obtain ⟨v, st₀, t, T', L, h0, X', hL, e1, e2, ⟨⟨v', n', h', hv, hp, hR1⟩, hz, hk⟩, st⟩ := hr T hT X
  have hv2 : v = v'.map (tv_v bs b) := Outcome.returned.inj hv
  subst hv2
  rw [h0] at hz hk
  have hal : t.vm.Alike s.vm := by rw [← e2]; exact X'.warmed.alike.symm
  obtain ⟨t2, a1, b1⟩ := kk v' n' h' T'.heap (locs ++ L) hp (by rw [e1]; exact hR1.moved hal)
    ⟨Nat.le_trans hS.1 (by rw [e1]; exact hz), fun q h1 h2 => by rw [e1, hk q (Nat.lt_of_lt_of_le h1 hS.1) h2]; exact hS.2.1 q h1 h2, fun q hq => by
      rcases List.mem_append.mp hq with h | h
      · exact hS.2.2 q h
      · exact hL q h⟩ T' rfl X'
  exact ⟨t2, st t2 a1, b1⟩
/-- an array type over arrays stays as the tables move -/
theorem tv_AOA {t : FieldType} {u U : State} (hvm : u.vm.Alike U.vm) (h : va_Nw (.arrayOver (.array t)) u) : va_Nw (.arrayOver (.array t)) U := by
  obtain ⟨comp, c, k, h1, h2, h3, h4, h5⟩ := arrayOverA_spec h
  obtain ⟨k', hk', he⟩ := hvm.2.2 _ _ h3
  have hi : (U.vm.classes.findIdx? fun (x : Class) => match x.kind with | .array component _ => component == comp | _ => false) = some c := by
    rw [hvm.findIdx?_eq _ (fun _ => rfl)]
    exact h2
  have hkind : k'.kind = .array comp (.array t) := by rw [he]; exact h4
  have f1 : U.vm.findClass (FieldType.array t).toString = some comp := by rw [hvm.findClass]; exact h1
  have f2 : U.vm.findClass ("[" ++ (FieldType.array t).toString) = some c := by rw [hvm.findClass]; exact h5
  unfold va_Nw Cond.before Cond.holds
  simp only [Cond.value]
  rw [f1, Option.bind_some]
  refine (congrArg (fun o : Option Nat => (o.bind (fun c => (U.vm.classes[c]?).map fun (k : Class) => match k.kind with | .array _ ty => decide (ty = FieldType.array t) && decide (U.vm.findClass ("[" ++ (FieldType.array t).toString) = some c) | _ => false) == some true)) hi).trans ?_
  simp [hk', hkind, f2]
/-- a word of a nest mate: it stays as the tables warm -/
def tv_nest (w : Cond) : Prop := (∃ a i b n d h, w = .fieldLinkNest a i b n d h) ∨ (∃ a i x h, w = .methodLinkNest a i x h) ∨ (∃ C, w = .arrayOver (.object C)) ∨ ∃ t, w = .arrayOver (.array t)
theorem tv_nest_warm {w : Cond} {s U : State} (hw : tv_nest w) (hW : s.WarmedH U.vm) (hZ : va_Nw w s) : va_Nw w U := by
  rcases hw with ⟨a, i, b, n, d, h, rfl⟩ | ⟨a, i, x, h, rfl⟩ | ⟨C, rfl⟩ | ⟨t, rfl⟩
  · exact va_Nw.warmF hW hZ
  · exact va_Nw.warmM hW hZ
  · exact va_AO.moved hW.alike hZ
  · exact tv_AOA hW.alike hZ
theorem tv_nest_same {w : Cond} {u U : State} (hw : tv_nest w) (h : u.vm = U.vm) (hZ : va_Nw w u) : va_Nw w U := by
  rcases hw with ⟨a, i, b, n, d, h1, rfl⟩ | ⟨a, i, x, h1, rfl⟩ | ⟨C, rfl⟩ | ⟨t, rfl⟩
  · exact va_Nw.same rfl h hZ
  · exact va_Nw.same rfl h hZ
  · exact va_AO.moved (h ▸ Vm.Alike.refl u.vm) hZ
  · exact tv_AOA (h ▸ Vm.Alike.refl u.vm) hZ
theorem tv_blind {D : va_G} {G : Nat → ClassId} {bs b : Nat} {av : List Value} (hNs : ∀ w ∈ Ns, tv_nest w) : FrameBlind (va_Pc av (tv_Pc Ns CL TY D G bs b n h)) := by
  intro a U g mk q
  obtain ⟨q0, qR, qN, qK, qb⟩ := q
  exact ⟨q0, qR.moved (U := U.calling g mk a) (Vm.Alike.refl U.vm), fun w hw => tv_nest_same (u := U) (U := U.calling g mk a) (hNs w hw) rfl (qN w hw), va_K.moved (u := U) (U := U.calling g mk a) (Vm.Alike.refl U.vm) qK, qb⟩
theorem V.callVN (hC : tv_K X cc nL own Ts Ns CL TY rm) (hNs : ∀ w ∈ Ns, tv_nest w) (hnl : ls.length = nL) {y : MethodName} {bytes : ByteArray} {maxL : Nat} {ret : Option FieldType} {ws' : List Cond} {fr lo mc ms idx : Nat} {host : String} {C : String} {T : u_T} {N ci a : Nat} {fs : List Value} {As stk : List Value} (hM : tv_Met y (Cond.code y bytes maxL ret :: ws') Ns CL TY fr lo mc ms (.ref a :: As) n h P) (hG : GoodIn Ts (Cond.code y bytes maxL ret :: ws')) (hw : Cond.methodLinkNest own idx y host ∈ Ns ∧ Cond.initialized y.cls ∈ Ts ∧ Cond.instanceMethod y ∈ Ts ∧ Cond.selects C y y ∈ Ts) (hy : y.cls ≠ "java/lang/invoke/MethodHandle" ∧ y.cls ≠ "java/lang/invoke/VarHandle" ∧ (parseMethodDescriptor y.desc).map (fun d => d.parameters.length) = some As.length) (hrm : fr + 1 ≤ rm.frames ∧ 8 + (maxL + 11) + lo ≤ rm.locals ∧ cells + mc ≤ rm.cells ∧ slots + ms ≤ rm.slots) (hcl : CL[ci]? = some (C, T, N)) (ha : 0 < a ∧ a ≤ n) (hh : h a = .inr (ci, fs)) (hstk : stk = As.reverse ++ .ref a :: st) (hsum : (st.map fun v => v.category).sum ≤ 8) (hd : decode cc pc = .ok (.invokevirtual idx, 3)) (kk : ∀ (v : Option Value) (n' : Nat) (h' : Nat → tv_C), P v n' h' → V X (cells + mc) (slots + ms) n' h' (pc + 3) ls (v.toList ++ st)) : V X cells slots n h pc ls stk := by
  obtain ⟨⟨p, l, e, R, s, m, args, below, meth, c⟩, Q, ⟨cl, tys, D, G, bs, b⟩⟩ := X
  obtain ⟨hx, hb, hml, hown, hts, hns, hK, hlk, hbs, hbz, rfl, rfl, rfl⟩ := hC
  obtain ⟨a, rfl⟩ : ∃ a', a = a' + 1 := ⟨a - 1, by omega⟩
  subst hstk
  intro H locs real hR hS hl
  have he : (tv_W G bs b n h)[a]? = some (b + a, .inr (ci, fs.map (tv_v bs b))) := by rw [tv_W_at (by omega), hh]; rfl
  have hp : PreV s H C (b + a) (va_Pc ((Value.ref (a + 1) :: As).map (tv_v bs b)) (tv_Pc Ns cl tys D G bs b n h)) (As.map (tv_v bs b)) := ⟨tv_blind hNs, va_recv hK hR.2.1 hcl he, fun U hU hW => ⟨rfl, (by rw [hU]; exact hR.moved hW.alike), fun w hw => tv_nest_warm (hNs w hw) hW (hns w hw), va_K.moved hW.alike hK, hbs⟩⟩
  refine tv_go (va_runVN (As := As.map (tv_v bs b)) (rest := st.map (tv_v bs b)) ⟨hx, hb, hml, hown, hts⟩ (hM l D G bs b) ⟨va_cnB As.length hts hG rfl rfl rfl (hns _ hw.1) (hts _ hw.2.1) hy ⟨hrm.1, hrm.2.1⟩, hts _ hw.2.2.1, hts _ hw.2.2.2⟩ hp rfl (by rw [List.length_map]) (hl.1.trans hnl) (by show List.map _ _ = _; rw [List.map_append, List.map_reverse]; rfl) (lv_room (by rw [tv_v_sum]; exact hsum)) hd ⟨hrm.2.2.1, hrm.2.2.2⟩) hS (fun v n' h' H1 locs1 hp1 hR1 hS1 => ?_)
  have k1 := kk v n' h' hp1 H1 locs1 real hR1 hS1 hl
  cases v <;> exact k1
theorem V.callSN (hC : tv_K X cc nL own Ts Ns CL TY rm) (hNs : ∀ w ∈ Ns, tv_nest w) (hnl : ls.length = nL) {y : MethodName} {bytes : ByteArray} {maxL : Nat} {ret : Option FieldType} {ws' : List Cond} {fr lo mc ms idx : Nat} {host : String} {As stk : List Value} (hM : tv_Met y (Cond.code y bytes maxL ret :: ws') Ns CL TY fr lo mc ms (As) n h P) (hG : GoodIn Ts (Cond.code y bytes maxL ret :: ws')) (hw : Cond.methodLinkNest own idx y host ∈ Ns ∧ Cond.initialized y.cls ∈ Ts ∧ Cond.static y ∈ Ts) (hy : y.cls ≠ "java/lang/invoke/MethodHandle" ∧ y.cls ≠ "java/lang/invoke/VarHandle" ∧ (parseMethodDescriptor y.desc).map (fun d => d.parameters.length) = some As.length) (hrm : fr + 1 ≤ rm.frames ∧ 8 + (maxL + 11) + lo ≤ rm.locals ∧ cells + mc ≤ rm.cells ∧ slots + ms ≤ rm.slots) (hstk : stk = As.reverse ++ st) (hsum : (st.map fun v => v.category).sum ≤ 8) (hd : decode cc pc = .ok (.invokestatic idx, 3)) (kk : ∀ (v : Option Value) (n' : Nat) (h' : Nat → tv_C), P v n' h' → V X (cells + mc) (slots + ms) n' h' (pc + 3) ls (v.toList ++ st)) : V X cells slots n h pc ls stk := by
  obtain ⟨⟨p, l, e, R, s, m, args, below, meth, c⟩, Q, ⟨cl, tys, D, G, bs, b⟩⟩ := X
  obtain ⟨hx, hb, hml, hown, hts, hns, hK, hlk, hbs, hbz, rfl, rfl, rfl⟩ := hC
  subst hstk
  intro H locs real hR hS hl
  have hp : PreS s H (va_Pc (As.map (tv_v bs b)) (tv_Pc Ns cl tys D G bs b n h)) (As.map (tv_v bs b)) := ⟨tv_blind hNs, fun U hU hW => ⟨rfl, (by rw [hU]; exact hR.moved hW.alike), fun w hw => tv_nest_warm (hNs w hw) hW (hns w hw), va_K.moved hW.alike hK, hbs⟩⟩
  refine tv_go (va_runSN (As := As.map (tv_v bs b)) (rest := st.map (tv_v bs b)) ⟨hx, hb, hml, hown, hts⟩ (hM l D G bs b) ⟨va_cnB As.length hts hG rfl rfl rfl (hns _ hw.1) (hts _ hw.2.1) hy ⟨hrm.1, hrm.2.1⟩, hts _ hw.2.2, trivial⟩ hp rfl (by rw [List.length_map]) (hl.1.trans hnl) (by show List.map _ _ = _; rw [List.map_append, List.map_reverse]) (lv_room (by rw [tv_v_sum]; exact hsum)) hd ⟨hrm.2.2.1, hrm.2.2.2⟩) hS (fun v n' h' H1 locs1 hp1 hR1 hS1 => ?_)
  have k1 := kk v n' h' hp1 H1 locs1 real hR1 hS1 hl
  cases v <;> exact k1
theorem V.callIN (hC : tv_K X cc nL own Ts Ns CL TY rm) (hNs : ∀ w ∈ Ns, tv_nest w) (hnl : ls.length = nL) {y : MethodName} {bytes : ByteArray} {maxL : Nat} {ws' : List Cond} {fr lo mc ms idx : Nat} {host : String} {a : Nat} {As stk : List Value} (hM : tv_Met y (Cond.code y bytes maxL none :: ws') Ns CL TY fr lo mc ms (.ref a :: As) n h P) (hG : GoodIn Ts (Cond.code y bytes maxL none :: ws')) (hw : Cond.methodLinkNest own idx y host ∈ Ns ∧ Cond.initialized y.cls ∈ Ts ∧ Cond.instanceMethod y ∈ Ts) (hnm : y.name = "<init>") (hy : y.cls ≠ "java/lang/invoke/MethodHandle" ∧ y.cls ≠ "java/lang/invoke/VarHandle" ∧ (parseMethodDescriptor y.desc).map (fun d => d.parameters.length) = some As.length) (hrm : fr + 1 ≤ rm.frames ∧ 8 + (maxL + 11) + lo ≤ rm.locals ∧ cells + mc ≤ rm.cells ∧ slots + ms ≤ rm.slots) (ha : 0 < a ∧ a ≤ n) (hstk : stk = As.reverse ++ .ref a :: st) (hsum : (st.map fun v => v.category).sum ≤ 8) (hd : decode cc pc = .ok (.invokespecial idx, 3)) (kk : ∀ (v : Option Value) (n' : Nat) (h' : Nat → tv_C), P v n' h' → V X (cells + mc) (slots + ms) n' h' (pc + 3) ls (v.toList ++ st)) : V X cells slots n h pc ls stk := by
  obtain ⟨⟨p, l, e, R, s, m, args, below, meth, c⟩, Q, ⟨cl, tys, D, G, bs, b⟩⟩ := X
  obtain ⟨hx, hb, hml, hown, hts, hns, hK, hlk, hbs, hbz, rfl, rfl, rfl⟩ := hC
  obtain ⟨a, rfl⟩ : ∃ a', a = a' + 1 := ⟨a - 1, by omega⟩
  subst hstk
  intro H locs real hR hS hl
  have hp : PreS s H (va_Pc ((Value.ref (a + 1) :: As).map (tv_v bs b)) (tv_Pc Ns cl tys D G bs b n h)) (.ref (b + a) :: As.map (tv_v bs b)) := ⟨tv_blind hNs, fun U hU hW => ⟨rfl, (by rw [hU]; exact hR.moved hW.alike), fun w hw => tv_nest_warm (hNs w hw) hW (hns w hw), va_K.moved hW.alike hK, hbs⟩⟩
  refine tv_go (va_runIN (As := As.map (tv_v bs b)) (rest := st.map (tv_v bs b)) ⟨hx, hb, hml, hown, hts⟩ (hM l D G bs b) ⟨va_cnB As.length hts hG rfl rfl rfl (hns _ hw.1) (hts _ hw.2.1) hy ⟨hrm.1, hrm.2.1⟩, hnm, hts _ hw.2.2⟩ hp rfl (by rw [List.length_map]) (hl.1.trans hnl) (by show List.map _ _ = _; rw [List.map_append, List.map_reverse]; rfl) (lv_room (by rw [tv_v_sum]; exact hsum)) hd ⟨hrm.2.2.1, hrm.2.2.2⟩) hS (fun v n' h' H1 locs1 hp1 hR1 hS1 => ?_)
  have k1 := kk v n' h' hp1 H1 locs1 real hR1 hS1 hl
  cases v <;> exact k1
theorem V.callV (hC : tv_K X cc nL own Ts Ns CL TY rm) (hNs : ∀ w ∈ Ns, tv_nest w) (hnl : ls.length = nL) {y : MethodName} {bytes : ByteArray} {maxL : Nat} {ret : Option FieldType} {ws' : List Cond} {fr lo mc ms idx : Nat} {C : String} {T : u_T} {N ci a : Nat} {fs : List Value} {As stk : List Value} (hM : tv_Met y (Cond.code y bytes maxL ret :: ws') Ns CL TY fr lo mc ms (.ref a :: As) n h P) (hG : GoodIn Ts (Cond.code y bytes maxL ret :: ws')) (hw : Cond.methodLink own idx y ∈ Ts ∧ Cond.initialized y.cls ∈ Ts ∧ Cond.instanceMethod y ∈ Ts ∧ Cond.selects C y y ∈ Ts) (hy : y.cls ≠ "java/lang/invoke/MethodHandle" ∧ y.cls ≠ "java/lang/invoke/VarHandle" ∧ (parseMethodDescriptor y.desc).map (fun d => d.parameters.length) = some As.length) (hrm : fr + 1 ≤ rm.frames ∧ 8 + (maxL + 11) + lo ≤ rm.locals ∧ cells + mc ≤ rm.cells ∧ slots + ms ≤ rm.slots) (hcl : CL[ci]? = some (C, T, N)) (ha : 0 < a ∧ a ≤ n) (hh : h a = .inr (ci, fs)) (hstk : stk = As.reverse ++ .ref a :: st) (hsum : (st.map fun v => v.category).sum ≤ 8) (hd : decode cc pc = .ok (.invokevirtual idx, 3)) (kk : ∀ (v : Option Value) (n' : Nat) (h' : Nat → tv_C), P v n' h' → V X (cells + mc) (slots + ms) n' h' (pc + 3) ls (v.toList ++ st)) : V X cells slots n h pc ls stk := by
  obtain ⟨⟨p, l, e, R, s, m, args, below, meth, c⟩, Q, ⟨cl, tys, D, G, bs, b⟩⟩ := X
  obtain ⟨hx, hb, hml, hown, hts, hns, hK, hlk, hbs, hbz, rfl, rfl, rfl⟩ := hC
  obtain ⟨a, rfl⟩ : ∃ a', a = a' + 1 := ⟨a - 1, by omega⟩
  subst hstk
  intro H locs real hR hS hl
  have he : (tv_W G bs b n h)[a]? = some (b + a, .inr (ci, fs.map (tv_v bs b))) := by rw [tv_W_at (by omega), hh]; rfl
  have hp : PreV s H C (b + a) (va_Pc ((Value.ref (a + 1) :: As).map (tv_v bs b)) (tv_Pc Ns cl tys D G bs b n h)) (As.map (tv_v bs b)) := ⟨tv_blind hNs, va_recv hK hR.2.1 hcl he, fun U hU hW => ⟨rfl, (by rw [hU]; exact hR.moved hW.alike), fun w hw => tv_nest_warm (hNs w hw) hW (hns w hw), va_K.moved hW.alike hK, hbs⟩⟩
  refine tv_go (va_runV (As := As.map (tv_v bs b)) (rest := st.map (tv_v bs b)) ⟨hx, hb, hml, hown, hts⟩ (hM l D G bs b) ⟨callB_of As.length hts hG rfl rfl rfl (hts _ hw.2.1) (hts _ hw.1) hy ⟨hrm.1, hrm.2.1⟩, hts _ hw.2.2.1, hts _ hw.2.2.2⟩ hp rfl (by rw [List.length_map]) (hl.1.trans hnl) (by show List.map _ _ = _; rw [List.map_append, List.map_reverse]; rfl) (lv_room (by rw [tv_v_sum]; exact hsum)) hd ⟨hrm.2.2.1, hrm.2.2.2⟩) hS (fun v n' h' H1 locs1 hp1 hR1 hS1 => ?_)
  have k1 := kk v n' h' hp1 H1 locs1 real hR1 hS1 hl
  cases v <;> exact k1
theorem V.callS (hC : tv_K X cc nL own Ts Ns CL TY rm) (hNs : ∀ w ∈ Ns, tv_nest w) (hnl : ls.length = nL) {y : MethodName} {bytes : ByteArray} {maxL : Nat} {ret : Option FieldType} {ws' : List Cond} {fr lo mc ms idx : Nat} {As stk : List Value} (hM : tv_Met y (Cond.code y bytes maxL ret :: ws') Ns CL TY fr lo mc ms (As) n h P) (hG : GoodIn Ts (Cond.code y bytes maxL ret :: ws')) (hw : Cond.methodLink own idx y ∈ Ts ∧ Cond.initialized y.cls ∈ Ts ∧ Cond.static y ∈ Ts) (hy : y.cls ≠ "java/lang/invoke/MethodHandle" ∧ y.cls ≠ "java/lang/invoke/VarHandle" ∧ (parseMethodDescriptor y.desc).map (fun d => d.parameters.length) = some As.length) (hrm : fr + 1 ≤ rm.frames ∧ 8 + (maxL + 11) + lo ≤ rm.locals ∧ cells + mc ≤ rm.cells ∧ slots + ms ≤ rm.slots) (hstk : stk = As.reverse ++ st) (hsum : (st.map fun v => v.category).sum ≤ 8) (hd : decode cc pc = .ok (.invokestatic idx, 3)) (kk : ∀ (v : Option Value) (n' : Nat) (h' : Nat → tv_C), P v n' h' → V X (cells + mc) (slots + ms) n' h' (pc + 3) ls (v.toList ++ st)) : V X cells slots n h pc ls stk := by
  obtain ⟨⟨p, l, e, R, s, m, args, below, meth, c⟩, Q, ⟨cl, tys, D, G, bs, b⟩⟩ := X
  obtain ⟨hx, hb, hml, hown, hts, hns, hK, hlk, hbs, hbz, rfl, rfl, rfl⟩ := hC
  subst hstk
  intro H locs real hR hS hl
  have hp : PreS s H (va_Pc (As.map (tv_v bs b)) (tv_Pc Ns cl tys D G bs b n h)) (As.map (tv_v bs b)) := ⟨tv_blind hNs, fun U hU hW => ⟨rfl, (by rw [hU]; exact hR.moved hW.alike), fun w hw => tv_nest_warm (hNs w hw) hW (hns w hw), va_K.moved hW.alike hK, hbs⟩⟩
  refine tv_go (va_runS (As := As.map (tv_v bs b)) (rest := st.map (tv_v bs b)) ⟨hx, hb, hml, hown, hts⟩ (hM l D G bs b) ⟨callB_of As.length hts hG rfl rfl rfl (hts _ hw.2.1) (hts _ hw.1) hy ⟨hrm.1, hrm.2.1⟩, hts _ hw.2.2⟩ hp rfl (by rw [List.length_map]) (hl.1.trans hnl) (by show List.map _ _ = _; rw [List.map_append, List.map_reverse]) (lv_room (by rw [tv_v_sum]; exact hsum)) hd ⟨hrm.2.2.1, hrm.2.2.2⟩) hS (fun v n' h' H1 locs1 hp1 hR1 hS1 => ?_)
  have k1 := kk v n' h' hp1 H1 locs1 real hR1 hS1 hl
  cases v <;> exact k1
theorem V.callI (hC : tv_K X cc nL own Ts Ns CL TY rm) (hNs : ∀ w ∈ Ns, tv_nest w) (hnl : ls.length = nL) {y : MethodName} {bytes : ByteArray} {maxL : Nat} {ws' : List Cond} {fr lo mc ms idx : Nat} {a : Nat} {As stk : List Value} (hM : tv_Met y (Cond.code y bytes maxL none :: ws') Ns CL TY fr lo mc ms (.ref a :: As) n h P) (hG : GoodIn Ts (Cond.code y bytes maxL none :: ws')) (hw : Cond.methodLink own idx y ∈ Ts ∧ Cond.initialized y.cls ∈ Ts ∧ Cond.instanceMethod y ∈ Ts) (hnm : y.name = "<init>") (hy : y.cls ≠ "java/lang/invoke/MethodHandle" ∧ y.cls ≠ "java/lang/invoke/VarHandle" ∧ (parseMethodDescriptor y.desc).map (fun d => d.parameters.length) = some As.length) (hrm : fr + 1 ≤ rm.frames ∧ 8 + (maxL + 11) + lo ≤ rm.locals ∧ cells + mc ≤ rm.cells ∧ slots + ms ≤ rm.slots) (ha : 0 < a ∧ a ≤ n) (hstk : stk = As.reverse ++ .ref a :: st) (hsum : (st.map fun v => v.category).sum ≤ 8) (hd : decode cc pc = .ok (.invokespecial idx, 3)) (kk : ∀ (v : Option Value) (n' : Nat) (h' : Nat → tv_C), P v n' h' → V X (cells + mc) (slots + ms) n' h' (pc + 3) ls (v.toList ++ st)) : V X cells slots n h pc ls stk := by
  obtain ⟨⟨p, l, e, R, s, m, args, below, meth, c⟩, Q, ⟨cl, tys, D, G, bs, b⟩⟩ := X
  obtain ⟨hx, hb, hml, hown, hts, hns, hK, hlk, hbs, hbz, rfl, rfl, rfl⟩ := hC
  obtain ⟨a, rfl⟩ : ∃ a', a = a' + 1 := ⟨a - 1, by omega⟩
  subst hstk
  intro H locs real hR hS hl
  have hp : PreS s H (va_Pc ((Value.ref (a + 1) :: As).map (tv_v bs b)) (tv_Pc Ns cl tys D G bs b n h)) (.ref (b + a) :: As.map (tv_v bs b)) := ⟨tv_blind hNs, fun U hU hW => ⟨rfl, (by rw [hU]; exact hR.moved hW.alike), fun w hw => tv_nest_warm (hNs w hw) hW (hns w hw), va_K.moved hW.alike hK, hbs⟩⟩
  refine tv_go (va_runI (As := As.map (tv_v bs b)) (rest := st.map (tv_v bs b)) ⟨hx, hb, hml, hown, hts⟩ (hM l D G bs b) ⟨callB_of As.length hts hG rfl rfl rfl (hts _ hw.2.1) (hts _ hw.1) hy ⟨hrm.1, hrm.2.1⟩, hnm, hts _ hw.2.2⟩ hp rfl (by rw [List.length_map]) (hl.1.trans hnl) (by show List.map _ _ = _; rw [List.map_append, List.map_reverse]; rfl) (lv_room (by rw [tv_v_sum]; exact hsum)) hd ⟨hrm.2.2.1, hrm.2.2.2⟩) hS (fun v n' h' H1 locs1 hp1 hR1 hS1 => ?_)
  have k1 := kk v n' h' hp1 H1 locs1 real hR1 hS1 hl
  cases v <;> exact k1
theorem V.objInit (hC : tv_K X cc nL own Ts Ns CL TY rm) (hnl : ls.length = nL) {idx a : Nat} (hw : Cond.methodLink own idx Lib.objectInit ∈ Ts ∧ Cond.instanceMethod Lib.objectInit ∈ Ts ∧ Cond.code Lib.objectInit ⟨#[0xb1]⟩ 1 none ∈ Ts) (hrm : 1 ≤ rm.frames ∧ (st.map fun v => v.category).sum + 12 ≤ rm.locals) (hd : decode cc pc = .ok (.invokespecial idx, 3)) (kk : V X cells slots n h (pc + 3) ls st) : V X cells slots n h pc ls (.ref a :: st) := by
  obtain ⟨⟨p, l, e, R, s, m, args, below, meth, c⟩, Q, ⟨cl, tys, D, G, bs, b⟩⟩ := X
  obtain ⟨hx, hb, hml, hown, hts, hns, hK, hlk, hbs, hbz, rfl, rfl, rfl⟩ := hC
  intro H locs real hR hS hl
  exact W.objInit hx hb hown (hts _ hw.1) (hts _ hw.2.1) (hts _ hw.2.2) rfl (by rw [hml, ← hnl]; exact hl.1) rfl hd hrm.1 (by show 2 * 0 + _ + 12 ≤ _; rw [tv_v_sum]; omega) (kk H locs real hR hS hl)
end TVE
end
section
/-! forgetting locals; System.arraycopy of ints over V -/
def tv_le (a b : List (Option Value)) : Prop := a.length = b.length ∧ ∀ (i : Nat) (v : Value), a[i]? = some (some v) → b[i]? = some (some v)
theorem tv_le_nil : tv_le [] [] := ⟨rfl, fun _ _ h => h⟩
theorem tv_le_none {a b : List (Option Value)} {x : Option Value} (h : tv_le a b) : tv_le (none :: a) (x :: b) := by
  refine ⟨by rw [List.length_cons, List.length_cons, h.1], fun i v hi => ?_⟩
  cases i with
  | zero => simp at hi
  | succ i => simpa using h.2 i v (by simpa using hi)
theorem tv_le_some {a b : List (Option Value)} {x : Option Value} (h : tv_le a b) : tv_le (x :: a) (x :: b) := by
  refine ⟨by rw [List.length_cons, List.length_cons, h.1], fun i v hi => ?_⟩
  cases i with
  | zero => simpa using hi
  | succ i => simpa using h.2 i v (by simpa using hi)
theorem V.less {X : tv_X} {cells slots n : Nat} {h : Nat → tv_C} {pc : Nat} {ls ls' : List (Option Value)} {st : List Value} (hle : tv_le ls' ls) (k : V X cells slots n h pc ls' st) : V X cells slots n h pc ls st := by
  obtain ⟨⟨p, l, e, R, s, m, args, below, meth, c⟩, Q, ⟨cl, tys, D, G, bs, b⟩⟩ := X
  intro H locs real hR hS hl
  refine k H locs real hR hS ⟨by rw [hle.1]; exact hl.1, hl.2.1, fun q hq => ?_⟩
  obtain ⟨v, h1, h2, h3⟩ := tv_ps_inv hq
  have h4 := hl.2.2 (q.1, tv_v bs b v) (tv_ps_mem (hle.2 _ _ h1) h2)
  rw [h3]
  exact h4
section TVCP
variable {X : tv_X} {cells slots n : Nat} {h : Nat → tv_C} {pc : Nat} {ls : List (Option Value)} {st : List Value} {cc : ByteArray} {nL : Nat} {own : String} {Ts Ns : List Cond} {CL : List vw_C} {TY : List FieldType} {rm : Room}
theorem V.acopy (hC : tv_K X cc nL own Ts Ns CL TY rm) (hnl : ls.length = nL) {idx t sa da len : Nat} {f g : Nat → Int32} (hw : Cond.methodLink own idx arraycopyName ∈ Ts ∧ Cond.native arraycopyName ∈ Ts ∧ Cond.static arraycopyName ∈ Ts ∧ Cond.initialized "java/lang/System" ∈ Ts) (hsa : 0 < sa ∧ sa ≤ n) (hhs : h sa = .inl (t, (len, .inl f))) (hda : 0 < da ∧ da ≤ n) (hhd : h da = .inl (t, (len, .inl g))) (ht : TY[t]? = some .int) {sp dp k : Int32} (h1 : ¬ sp < 0) (h2 : ¬ dp < 0) (h3 : ¬ k < 0) (h4 : sp.toNatClampNeg + k.toNatClampNeg ≤ len) (h5 : dp.toNatClampNeg + k.toNatClampNeg ≤ len) (hrm : 1 ≤ rm.frames ∧ (st.map fun v => v.category).sum + (nativeFrameWords "java/lang/System" "arraycopy" 5 + 11) ≤ rm.locals) (hd : decode cc pc = .ok (.invokestatic idx, 3)) (kk : V X cells slots n (va_up h da (.inl (t, (len, .inl (va_cpy f g sp.toNatClampNeg dp.toNatClampNeg k.toNatClampNeg))))) (pc + 3) ls st) : V X cells slots n h pc ls (.int k :: .int dp :: .ref da :: .int sp :: .ref sa :: st) := by
  obtain ⟨⟨p, l, e, R, s, m, args, below, meth, c⟩, Q, ⟨cl, tys, D, G, bs, b⟩⟩ := X
  obtain ⟨hx, hb, hml, hown, hts, hns, hK, hlk, hbs, hbz, rfl, rfl, rfl⟩ := hC
  obtain ⟨sa, rfl⟩ : ∃ a', sa = a' + 1 := ⟨sa - 1, by omega⟩
  obtain ⟨da, rfl⟩ : ∃ a', da = a' + 1 := ⟨da - 1, by omega⟩
  have nn : ∀ z : Int32, ¬ z < 0 → z.toInt = (z.toNatClampNeg : Int) := by
    intro z hz
    have hz0 : (0 : Int) ≤ z.toInt := by
      have := Int32.not_lt.mp hz
      simpa using Int32.le_iff_toInt_le.mp this
    show z.toInt = ((z.toInt.toNat : Nat) : Int)
    omega
  intro H locs real hR hS hl T hT XX
  have hes : (tv_W G bs b n h)[sa]? = some (b + sa, .inl (G t, (len, .inl f))) := by rw [tv_W_at (by omega), hhs]; rfl
  have hed : (tv_W G bs b n h)[da]? = some (b + da, .inl (G t, (len, .inl g))) := by rw [tv_W_at (by omega), hhd]; rfl
  have hc0 : H[b + sa]? = some (vp_cell (G t) (len, .inl f)) := hR.2.1 sa _ hes
  have hc1 : H[b + da]? = some (vp_cell (G t) (len, .inl g)) := hR.2.1 da _ hed
  obtain ⟨-, k0, hk0, cm0, hkk0⟩ := (hK.2 t _ (tv_T_at ht)).1 len (fun j => .int (f j))
  obtain ⟨-, k1, hk1, cm1, hkk1⟩ := (hK.2 t _ (tv_T_at ht)).1 len (fun j => .int (g j))
  obtain ⟨vm', X', step⟩ := XX.arraycopy hx hown (hts _ hw.1) (hts _ hw.2.1) (hts _ hw.2.2.1) (hts _ hw.2.2.2) (src := b + sa) (dst := b + da) (cs := vp_cell (G t) (len, .inl f)) (cd := vp_cell (G t) (len, .inl g)) (srcPos := sp) (destPos := dp) (n := k) (by rw [hT]; exact hc0) (by rw [hT]; exact hc1)
    (fun _ h => by cases h) (fun _ h => by cases h) (fun h => by cases h) (fun h => by cases h) hk0 hk1 hkk0 hkk1 (by rfl) h1 h2 h3
    (by rw [nn sp h1, nn k h3]; show ¬ _ > ((arrV (G t) len (fun j => .int (f j))).slots.size : Int); rw [arrV_size]; omega)
    (by rw [nn dp h2, nn k h3]; show ¬ _ > ((arrV (G t) len (fun j => .int (g j))).slots.size : Int); rw [arrV_size]; omega)
    (fun vm₁ _ i hi => by
      have e : (vp_cell (G t) (len, .inl f)).slots.getD (sp.toNatClampNeg + i) .null = .int (f (sp.toNatClampNeg + i)) := by
        show (arrV (G t) len (fun j => .int (f j))).slots.getD _ _ = _
        rw [Array.getD_eq_getD_getElem?, arrV_read _ _ (by omega)]
        rfl
      refine ⟨?_, ?_⟩
      · rw [e]; rfl
      · rw [e]; exact trivial)
    (g := F0 m pc real (.int k :: .int dp :: .ref (b + da) :: .int sp :: .ref (b + sa) :: st.map (tv_v bs b))) rfl (by rw [hml, ← hnl]; exact hl.1) (rest := st.map (tv_v bs b)) rfl (by rw [hb]; exact hd) hrm.1 (by show 2 * 0 + _ + _ ≤ _; rw [tv_v_sum]; have := hrm.2; omega)
  have e1 : copied (vp_cell (G t) (len, .inl f)) (vp_cell (G t) (len, .inl g)) sp dp k = vp_cell (G t) (len, .inl (va_cpy f g sp.toNatClampNeg dp.toNatClampNeg k.toNatClampNeg)) := va_copied (fun z => .int z) (G t) (G t) f g h4
  rw [e1] at X' step
  have hlt : b + da < H.size := (Array.getElem?_eq_some_iff.mp hc1).1
  generalize hcell : vp_cell (G t) (len, .inl (va_cpy f g sp.toNatClampNeg dp.toNatClampNeg k.toNatClampNeg)) = cell at X' step e1
  have hheap : ((T.setVm vm').setCell (b + da) cell).heap = H.setIfInBounds (b + da) cell := by rw [← hT]; rfl
  have oq : ∀ q : Nat, q ≠ b + da → (H.setIfInBounds (b + da) cell)[q]? = H[q]? := fun q hq => by simp [Array.getElem?_setIfInBounds, Ne.symm hq]
  have oa : (H.setIfInBounds (b + da) cell)[b + da]? = some cell := by simp [Array.getElem?_setIfInBounds, hlt]
  have hP1 : va_P D cl (tv_W G bs b n (va_up h (da + 1) (.inl (t, (len, .inl (va_cpy f g sp.toNatClampNeg dp.toNatClampNeg k.toNatClampNeg)))))) (H.setIfInBounds (b + da) cell) := by
    rw [← tv_W_set (by omega)]
    exact hR.2.1.set (tv_D G bs b n h) hed (by show (H.setIfInBounds (b + da) cell)[b + da]? = some (vp_cell _ _); rw [oa, ← hcell]; rfl) oq
  obtain ⟨t2, a1, b1⟩ := kk (H.setIfInBounds (b + da) cell) _ real ⟨by rw [Array.size_setIfInBounds]; exact hR.1, hP1, tv_sc (by omega) hR.2.2 (oq bs (by omega))⟩ ⟨by rw [Array.size_setIfInBounds]; exact hS.1, fun q g1 g2 => by
      rw [oq q (fun e => g2 (by show b ≤ q; omega))]
      exact hS.2.1 q g1 g2, fun q hq => by
      rcases List.mem_append.mp hq with h | h
      · exact hS.2.2 q h
      · obtain ⟨z, -, hz⟩ := List.mem_map.mp h
        rw [← hz]
        exact Nat.le_add_right _ _⟩ hl _ hheap X'
  exact ⟨t2, step t2 a1, b1⟩
end TVCP
end
