section
-- ===== PART A: goes FIRST, ahead of the names: the tables' words, and 'selects' of the private methods out of them =====
/-- a private method of a class that the tables say can be made, by its rows of tables_1 -/
def lw_okq (q : MethodName × Nat) : Prop := (q.1.cls ≠ "java/lang/invoke/MethodHandle" ∧ q.1.cls ≠ "java/lang/invoke/VarHandle") ∧ Cond.instantiable q.1.cls q.2 ∈ tables_1 ∧ Cond.privateMethod q.1 ∈ tables_1 ∧ Cond.instanceMethod q.1 ∈ tables_1
theorem lw_p0 : lw_okq (⟨"TrickleMesh", "resetTimer", "(LTrickleMesh$Node;)V"⟩, 11) := ⟨⟨by decide +kernel, by decide +kernel⟩, List.mem_of_getElem? (i := 11) (by decide +kernel), List.mem_of_getElem? (i := 210) (by decide +kernel), List.mem_of_getElem? (i := 211) (by decide +kernel)⟩
theorem lw_p1 : lw_okq (⟨"TrickleMesh", "beginInterval", "(LTrickleMesh$Timer;I)V"⟩, 11) := ⟨⟨by decide +kernel, by decide +kernel⟩, List.mem_of_getElem? (i := 11) (by decide +kernel), List.mem_of_getElem? (i := 214) (by decide +kernel), List.mem_of_getElem? (i := 215) (by decide +kernel)⟩
theorem lw_p2 : lw_okq (⟨"TrickleMesh", "draw", "(I)I"⟩, 11) := ⟨⟨by decide +kernel, by decide +kernel⟩, List.mem_of_getElem? (i := 11) (by decide +kernel), List.mem_of_getElem? (i := 218) (by decide +kernel), List.mem_of_getElem? (i := 219) (by decide +kernel)⟩
theorem lw_p3 : lw_okq (⟨"TrickleMesh", "sendOn", "(LTrickleMesh$Node;IIIIZ)V"⟩, 11) := ⟨⟨by decide +kernel, by decide +kernel⟩, List.mem_of_getElem? (i := 11) (by decide +kernel), List.mem_of_getElem? (i := 276) (by decide +kernel), List.mem_of_getElem? (i := 277) (by decide +kernel)⟩
theorem lw_p4 : lw_okq (⟨"TrickleMesh", "enqueue", "(LTrickleMesh$Node;II)LTrickleMesh$Frame;"⟩, 11) := ⟨⟨by decide +kernel, by decide +kernel⟩, List.mem_of_getElem? (i := 11) (by decide +kernel), List.mem_of_getElem? (i := 280) (by decide +kernel), List.mem_of_getElem? (i := 281) (by decide +kernel)⟩
theorem lw_p5 : lw_okq (⟨"TrickleMesh", "rememberTheAir", "()V"⟩, 11) := ⟨⟨by decide +kernel, by decide +kernel⟩, List.mem_of_getElem? (i := 11) (by decide +kernel), List.mem_of_getElem? (i := 292) (by decide +kernel), List.mem_of_getElem? (i := 293) (by decide +kernel)⟩
theorem lw_p6 : lw_okq (⟨"TrickleMesh", "goOnTheAir", "()V"⟩, 11) := ⟨⟨by decide +kernel, by decide +kernel⟩, List.mem_of_getElem? (i := 11) (by decide +kernel), List.mem_of_getElem? (i := 296) (by decide +kernel), List.mem_of_getElem? (i := 297) (by decide +kernel)⟩
theorem lw_p7 : lw_okq (⟨"TrickleMesh", "seemsBusy", "(LTrickleMesh$Node;)Z"⟩, 11) := ⟨⟨by decide +kernel, by decide +kernel⟩, List.mem_of_getElem? (i := 11) (by decide +kernel), List.mem_of_getElem? (i := 300) (by decide +kernel), List.mem_of_getElem? (i := 301) (by decide +kernel)⟩
theorem lw_p8 : lw_okq (⟨"TrickleMesh", "failFirst", "(LTrickleMesh$Node;)V"⟩, 11) := ⟨⟨by decide +kernel, by decide +kernel⟩, List.mem_of_getElem? (i := 11) (by decide +kernel), List.mem_of_getElem? (i := 304) (by decide +kernel), List.mem_of_getElem? (i := 305) (by decide +kernel)⟩
theorem lw_p9 : lw_okq (⟨"TrickleMesh", "removeFirst", "(LTrickleMesh$Radio;)V"⟩, 11) := ⟨⟨by decide +kernel, by decide +kernel⟩, List.mem_of_getElem? (i := 11) (by decide +kernel), List.mem_of_getElem? (i := 308) (by decide +kernel), List.mem_of_getElem? (i := 309) (by decide +kernel)⟩
theorem lw_p10 : lw_okq (⟨"TrickleMesh", "choose", "(LTrickleMesh$Node;)V"⟩, 11) := ⟨⟨by decide +kernel, by decide +kernel⟩, List.mem_of_getElem? (i := 11) (by decide +kernel), List.mem_of_getElem? (i := 312) (by decide +kernel), List.mem_of_getElem? (i := 313) (by decide +kernel)⟩
theorem lw_p11 : lw_okq (⟨"TrickleMesh", "bestParent", "(LTrickleMesh$Node;)I"⟩, 11) := ⟨⟨by decide +kernel, by decide +kernel⟩, List.mem_of_getElem? (i := 11) (by decide +kernel), List.mem_of_getElem? (i := 316) (by decide +kernel), List.mem_of_getElem? (i := 317) (by decide +kernel)⟩
theorem lw_p12 : lw_okq (⟨"TrickleMesh", "isBetter", "(LTrickleMesh$Node;II)Z"⟩, 11) := ⟨⟨by decide +kernel, by decide +kernel⟩, List.mem_of_getElem? (i := 11) (by decide +kernel), List.mem_of_getElem? (i := 320) (by decide +kernel), List.mem_of_getElem? (i := 321) (by decide +kernel)⟩
theorem lw_p13 : lw_okq (⟨"TrickleMesh", "rankBelow", "(LTrickleMesh$Node;I)I"⟩, 11) := ⟨⟨by decide +kernel, by decide +kernel⟩, List.mem_of_getElem? (i := 11) (by decide +kernel), List.mem_of_getElem? (i := 324) (by decide +kernel), List.mem_of_getElem? (i := 325) (by decide +kernel)⟩
theorem lw_p14 : lw_okq (⟨"TrickleMesh", "announce", "(LTrickleMesh$Node;IIZ)V"⟩, 11) := ⟨⟨by decide +kernel, by decide +kernel⟩, List.mem_of_getElem? (i := 11) (by decide +kernel), List.mem_of_getElem? (i := 331) (by decide +kernel), List.mem_of_getElem? (i := 332) (by decide +kernel)⟩
theorem lw_p15 : lw_okq (⟨"TrickleMesh", "hearTheAir", "()V"⟩, 11) := ⟨⟨by decide +kernel, by decide +kernel⟩, List.mem_of_getElem? (i := 11) (by decide +kernel), List.mem_of_getElem? (i := 338) (by decide +kernel), List.mem_of_getElem? (i := 339) (by decide +kernel)⟩
def lw_privs_1 : List (MethodName × Nat) := [(⟨"TrickleMesh", "resetTimer", "(LTrickleMesh$Node;)V"⟩, 11), (⟨"TrickleMesh", "beginInterval", "(LTrickleMesh$Timer;I)V"⟩, 11), (⟨"TrickleMesh", "draw", "(I)I"⟩, 11), (⟨"TrickleMesh", "sendOn", "(LTrickleMesh$Node;IIIIZ)V"⟩, 11), (⟨"TrickleMesh", "enqueue", "(LTrickleMesh$Node;II)LTrickleMesh$Frame;"⟩, 11), (⟨"TrickleMesh", "rememberTheAir", "()V"⟩, 11), (⟨"TrickleMesh", "goOnTheAir", "()V"⟩, 11), (⟨"TrickleMesh", "seemsBusy", "(LTrickleMesh$Node;)Z"⟩, 11), (⟨"TrickleMesh", "failFirst", "(LTrickleMesh$Node;)V"⟩, 11), (⟨"TrickleMesh", "removeFirst", "(LTrickleMesh$Radio;)V"⟩, 11), (⟨"TrickleMesh", "choose", "(LTrickleMesh$Node;)V"⟩, 11), (⟨"TrickleMesh", "bestParent", "(LTrickleMesh$Node;)I"⟩, 11), (⟨"TrickleMesh", "isBetter", "(LTrickleMesh$Node;II)Z"⟩, 11), (⟨"TrickleMesh", "rankBelow", "(LTrickleMesh$Node;I)I"⟩, 11), (⟨"TrickleMesh", "announce", "(LTrickleMesh$Node;IIZ)V"⟩, 11), (⟨"TrickleMesh", "hearTheAir", "()V"⟩, 11)]
theorem lw_r1 : ∀ q ∈ lw_privs_1, lw_okq q := List.forall_mem_cons.mpr ⟨lw_p0, List.forall_mem_cons.mpr ⟨lw_p1, List.forall_mem_cons.mpr ⟨lw_p2, List.forall_mem_cons.mpr ⟨lw_p3, List.forall_mem_cons.mpr ⟨lw_p4, List.forall_mem_cons.mpr ⟨lw_p5, List.forall_mem_cons.mpr ⟨lw_p6, List.forall_mem_cons.mpr ⟨lw_p7, List.forall_mem_cons.mpr ⟨lw_p8, List.forall_mem_cons.mpr ⟨lw_p9, List.forall_mem_cons.mpr ⟨lw_p10, List.forall_mem_cons.mpr ⟨lw_p11, List.forall_mem_cons.mpr ⟨lw_p12, List.forall_mem_cons.mpr ⟨lw_p13, List.forall_mem_cons.mpr ⟨lw_p14, List.forall_mem_cons.mpr ⟨lw_p15, fun _ h => absurd h List.not_mem_nil⟩⟩⟩⟩⟩⟩⟩⟩⟩⟩⟩⟩⟩⟩⟩⟩
theorem lw_p16 : lw_okq (⟨"TrickleMesh", "onlySpeaker", "(I)I"⟩, 11) := ⟨⟨by decide +kernel, by decide +kernel⟩, List.mem_of_getElem? (i := 11) (by decide +kernel), List.mem_of_getElem? (i := 342) (by decide +kernel), List.mem_of_getElem? (i := 343) (by decide +kernel)⟩
theorem lw_p17 : lw_okq (⟨"TrickleMesh", "takeWhatWasHeard", "()V"⟩, 11) := ⟨⟨by decide +kernel, by decide +kernel⟩, List.mem_of_getElem? (i := 11) (by decide +kernel), List.mem_of_getElem? (i := 346) (by decide +kernel), List.mem_of_getElem? (i := 347) (by decide +kernel)⟩
theorem lw_p18 : lw_okq (⟨"TrickleMesh", "takeAck", "(LTrickleMesh$Node;LTrickleMesh$Node;)V"⟩, 11) := ⟨⟨by decide +kernel, by decide +kernel⟩, List.mem_of_getElem? (i := 11) (by decide +kernel), List.mem_of_getElem? (i := 350) (by decide +kernel), List.mem_of_getElem? (i := 351) (by decide +kernel)⟩
theorem lw_p19 : lw_okq (⟨"TrickleMesh", "takeSolicit", "(LTrickleMesh$Node;)V"⟩, 11) := ⟨⟨by decide +kernel, by decide +kernel⟩, List.mem_of_getElem? (i := 11) (by decide +kernel), List.mem_of_getElem? (i := 354) (by decide +kernel), List.mem_of_getElem? (i := 355) (by decide +kernel)⟩
theorem lw_p20 : lw_okq (⟨"TrickleMesh", "takeAdvert", "(LTrickleMesh$Node;LTrickleMesh$Node;)V"⟩, 11) := ⟨⟨by decide +kernel, by decide +kernel⟩, List.mem_of_getElem? (i := 11) (by decide +kernel), List.mem_of_getElem? (i := 358) (by decide +kernel), List.mem_of_getElem? (i := 359) (by decide +kernel)⟩
theorem lw_p21 : lw_okq (⟨"TrickleMesh", "takeVersion", "(LTrickleMesh$Node;I)V"⟩, 11) := ⟨⟨by decide +kernel, by decide +kernel⟩, List.mem_of_getElem? (i := 11) (by decide +kernel), List.mem_of_getElem? (i := 362) (by decide +kernel), List.mem_of_getElem? (i := 363) (by decide +kernel)⟩
theorem lw_p22 : lw_okq (⟨"TrickleMesh", "takeOwn", "(LTrickleMesh$Node;LTrickleMesh$Node;LTrickleMesh$Frame;)V"⟩, 11) := ⟨⟨by decide +kernel, by decide +kernel⟩, List.mem_of_getElem? (i := 11) (by decide +kernel), List.mem_of_getElem? (i := 367) (by decide +kernel), List.mem_of_getElem? (i := 368) (by decide +kernel)⟩
theorem lw_p23 : lw_okq (⟨"TrickleMesh", "receiveAnnounce", "(LTrickleMesh$Node;ILTrickleMesh$Frame;)V"⟩, 11) := ⟨⟨by decide +kernel, by decide +kernel⟩, List.mem_of_getElem? (i := 11) (by decide +kernel), List.mem_of_getElem? (i := 371) (by decide +kernel), List.mem_of_getElem? (i := 372) (by decide +kernel)⟩
theorem lw_p24 : lw_okq (⟨"TrickleMesh", "receiveValue", "(LTrickleMesh$Node;ILTrickleMesh$Frame;)V"⟩, 11) := ⟨⟨by decide +kernel, by decide +kernel⟩, List.mem_of_getElem? (i := 11) (by decide +kernel), List.mem_of_getElem? (i := 378) (by decide +kernel), List.mem_of_getElem? (i := 379) (by decide +kernel)⟩
theorem lw_p25 : lw_okq (⟨"TrickleMesh", "deliver", "(LTrickleMesh$Node;LTrickleMesh$Frame;)V"⟩, 11) := ⟨⟨by decide +kernel, by decide +kernel⟩, List.mem_of_getElem? (i := 11) (by decide +kernel), List.mem_of_getElem? (i := 382) (by decide +kernel), List.mem_of_getElem? (i := 383) (by decide +kernel)⟩
theorem lw_p26 : lw_okq (⟨"TrickleMesh", "settleWhatWasOnTheAir", "()V"⟩, 11) := ⟨⟨by decide +kernel, by decide +kernel⟩, List.mem_of_getElem? (i := 11) (by decide +kernel), List.mem_of_getElem? (i := 386) (by decide +kernel), List.mem_of_getElem? (i := 387) (by decide +kernel)⟩
theorem lw_p27 : lw_okq (⟨"TrickleMesh", "settleWhatWasListenedFor", "()V"⟩, 11) := ⟨⟨by decide +kernel, by decide +kernel⟩, List.mem_of_getElem? (i := 11) (by decide +kernel), List.mem_of_getElem? (i := 390) (by decide +kernel), List.mem_of_getElem? (i := 391) (by decide +kernel)⟩
theorem lw_p28 : lw_okq (⟨"TrickleMesh", "runTimers", "()V"⟩, 11) := ⟨⟨by decide +kernel, by decide +kernel⟩, List.mem_of_getElem? (i := 11) (by decide +kernel), List.mem_of_getElem? (i := 394) (by decide +kernel), List.mem_of_getElem? (i := 395) (by decide +kernel)⟩
theorem lw_p29 : lw_okq (⟨"TrickleMesh", "runTimer", "(LTrickleMesh$Node;)V"⟩, 11) := ⟨⟨by decide +kernel, by decide +kernel⟩, List.mem_of_getElem? (i := 11) (by decide +kernel), List.mem_of_getElem? (i := 398) (by decide +kernel), List.mem_of_getElem? (i := 399) (by decide +kernel)⟩
theorem lw_p30 : lw_okq (⟨"TrickleMesh", "enqueueOnce", "(LTrickleMesh$Node;I)V"⟩, 11) := ⟨⟨by decide +kernel, by decide +kernel⟩, List.mem_of_getElem? (i := 11) (by decide +kernel), List.mem_of_getElem? (i := 402) (by decide +kernel), List.mem_of_getElem? (i := 403) (by decide +kernel)⟩
theorem lw_p31 : lw_okq (⟨"TrickleMeshModel", "reset", "(I)V"⟩, 52) := ⟨⟨by decide +kernel, by decide +kernel⟩, List.mem_of_getElem? (i := 432) (by decide +kernel), List.mem_of_getElem? (i := 438) (by decide +kernel), List.mem_of_getElem? (i := 439) (by decide +kernel)⟩
def lw_privs_2 : List (MethodName × Nat) := [(⟨"TrickleMesh", "onlySpeaker", "(I)I"⟩, 11), (⟨"TrickleMesh", "takeWhatWasHeard", "()V"⟩, 11), (⟨"TrickleMesh", "takeAck", "(LTrickleMesh$Node;LTrickleMesh$Node;)V"⟩, 11), (⟨"TrickleMesh", "takeSolicit", "(LTrickleMesh$Node;)V"⟩, 11), (⟨"TrickleMesh", "takeAdvert", "(LTrickleMesh$Node;LTrickleMesh$Node;)V"⟩, 11), (⟨"TrickleMesh", "takeVersion", "(LTrickleMesh$Node;I)V"⟩, 11), (⟨"TrickleMesh", "takeOwn", "(LTrickleMesh$Node;LTrickleMesh$Node;LTrickleMesh$Frame;)V"⟩, 11), (⟨"TrickleMesh", "receiveAnnounce", "(LTrickleMesh$Node;ILTrickleMesh$Frame;)V"⟩, 11), (⟨"TrickleMesh", "receiveValue", "(LTrickleMesh$Node;ILTrickleMesh$Frame;)V"⟩, 11), (⟨"TrickleMesh", "deliver", "(LTrickleMesh$Node;LTrickleMesh$Frame;)V"⟩, 11), (⟨"TrickleMesh", "settleWhatWasOnTheAir", "()V"⟩, 11), (⟨"TrickleMesh", "settleWhatWasListenedFor", "()V"⟩, 11), (⟨"TrickleMesh", "runTimers", "()V"⟩, 11), (⟨"TrickleMesh", "runTimer", "(LTrickleMesh$Node;)V"⟩, 11), (⟨"TrickleMesh", "enqueueOnce", "(LTrickleMesh$Node;I)V"⟩, 11), (⟨"TrickleMeshModel", "reset", "(I)V"⟩, 52)]
theorem lw_r2 : ∀ q ∈ lw_privs_2, lw_okq q := List.forall_mem_cons.mpr ⟨lw_p16, List.forall_mem_cons.mpr ⟨lw_p17, List.forall_mem_cons.mpr ⟨lw_p18, List.forall_mem_cons.mpr ⟨lw_p19, List.forall_mem_cons.mpr ⟨lw_p20, List.forall_mem_cons.mpr ⟨lw_p21, List.forall_mem_cons.mpr ⟨lw_p22, List.forall_mem_cons.mpr ⟨lw_p23, List.forall_mem_cons.mpr ⟨lw_p24, List.forall_mem_cons.mpr ⟨lw_p25, List.forall_mem_cons.mpr ⟨lw_p26, List.forall_mem_cons.mpr ⟨lw_p27, List.forall_mem_cons.mpr ⟨lw_p28, List.forall_mem_cons.mpr ⟨lw_p29, List.forall_mem_cons.mpr ⟨lw_p30, List.forall_mem_cons.mpr ⟨lw_p31, fun _ h => absurd h List.not_mem_nil⟩⟩⟩⟩⟩⟩⟩⟩⟩⟩⟩⟩⟩⟩⟩⟩
theorem lw_p32 : lw_okq (⟨"TrickleMeshModel", "begin", "(I)V"⟩, 52) := ⟨⟨by decide +kernel, by decide +kernel⟩, List.mem_of_getElem? (i := 432) (by decide +kernel), List.mem_of_getElem? (i := 442) (by decide +kernel), List.mem_of_getElem? (i := 443) (by decide +kernel)⟩
theorem lw_p33 : lw_okq (⟨"TrickleMeshModel", "draw", "(I)I"⟩, 52) := ⟨⟨by decide +kernel, by decide +kernel⟩, List.mem_of_getElem? (i := 432) (by decide +kernel), List.mem_of_getElem? (i := 446) (by decide +kernel), List.mem_of_getElem? (i := 447) (by decide +kernel)⟩
theorem lw_p34 : lw_okq (⟨"TrickleMeshModel", "sendOn", "(IIIIIZ)V"⟩, 52) := ⟨⟨by decide +kernel, by decide +kernel⟩, List.mem_of_getElem? (i := 432) (by decide +kernel), List.mem_of_getElem? (i := 628) (by decide +kernel), List.mem_of_getElem? (i := 629) (by decide +kernel)⟩
theorem lw_p35 : lw_okq (⟨"TrickleMeshModel", "makeFrame", "(II)I"⟩, 52) := ⟨⟨by decide +kernel, by decide +kernel⟩, List.mem_of_getElem? (i := 432) (by decide +kernel), List.mem_of_getElem? (i := 632) (by decide +kernel), List.mem_of_getElem? (i := 633) (by decide +kernel)⟩
theorem lw_p36 : lw_okq (⟨"TrickleMeshModel", "queue", "(II)V"⟩, 52) := ⟨⟨by decide +kernel, by decide +kernel⟩, List.mem_of_getElem? (i := 432) (by decide +kernel), List.mem_of_getElem? (i := 636) (by decide +kernel), List.mem_of_getElem? (i := 637) (by decide +kernel)⟩
theorem lw_p37 : lw_okq (⟨"TrickleMeshModel", "first", "(I)V"⟩, 52) := ⟨⟨by decide +kernel, by decide +kernel⟩, List.mem_of_getElem? (i := 432) (by decide +kernel), List.mem_of_getElem? (i := 640) (by decide +kernel), List.mem_of_getElem? (i := 641) (by decide +kernel)⟩
theorem lw_p38 : lw_okq (⟨"TrickleMeshModel", "slot", "()V"⟩, 52) := ⟨⟨by decide +kernel, by decide +kernel⟩, List.mem_of_getElem? (i := 432) (by decide +kernel), List.mem_of_getElem? (i := 648) (by decide +kernel), List.mem_of_getElem? (i := 649) (by decide +kernel)⟩
theorem lw_p39 : lw_okq (⟨"TrickleMeshModel", "air", "(I)V"⟩, 52) := ⟨⟨by decide +kernel, by decide +kernel⟩, List.mem_of_getElem? (i := 432) (by decide +kernel), List.mem_of_getElem? (i := 652) (by decide +kernel), List.mem_of_getElem? (i := 653) (by decide +kernel)⟩
theorem lw_p40 : lw_okq (⟨"TrickleMeshModel", "nearWasOn", "(I)Z"⟩, 52) := ⟨⟨by decide +kernel, by decide +kernel⟩, List.mem_of_getElem? (i := 432) (by decide +kernel), List.mem_of_getElem? (i := 656) (by decide +kernel), List.mem_of_getElem? (i := 657) (by decide +kernel)⟩
theorem lw_p41 : lw_okq (⟨"TrickleMeshModel", "fails", "(I)V"⟩, 52) := ⟨⟨by decide +kernel, by decide +kernel⟩, List.mem_of_getElem? (i := 432) (by decide +kernel), List.mem_of_getElem? (i := 660) (by decide +kernel), List.mem_of_getElem? (i := 661) (by decide +kernel)⟩
theorem lw_p42 : lw_okq (⟨"TrickleMeshModel", "done", "(I)V"⟩, 52) := ⟨⟨by decide +kernel, by decide +kernel⟩, List.mem_of_getElem? (i := 432) (by decide +kernel), List.mem_of_getElem? (i := 664) (by decide +kernel), List.mem_of_getElem? (i := 665) (by decide +kernel)⟩
theorem lw_p43 : lw_okq (⟨"TrickleMeshModel", "choose", "(I)Z"⟩, 52) := ⟨⟨by decide +kernel, by decide +kernel⟩, List.mem_of_getElem? (i := 432) (by decide +kernel), List.mem_of_getElem? (i := 668) (by decide +kernel), List.mem_of_getElem? (i := 669) (by decide +kernel)⟩
theorem lw_p44 : lw_okq (⟨"TrickleMeshModel", "allGoals", "(I)I"⟩, 52) := ⟨⟨by decide +kernel, by decide +kernel⟩, List.mem_of_getElem? (i := 432) (by decide +kernel), List.mem_of_getElem? (i := 672) (by decide +kernel), List.mem_of_getElem? (i := 673) (by decide +kernel)⟩
theorem lw_p45 : lw_okq (⟨"TrickleMeshModel", "announce", "(IIIZ)V"⟩, 52) := ⟨⟨by decide +kernel, by decide +kernel⟩, List.mem_of_getElem? (i := 432) (by decide +kernel), List.mem_of_getElem? (i := 676) (by decide +kernel), List.mem_of_getElem? (i := 677) (by decide +kernel)⟩
theorem lw_p46 : lw_okq (⟨"TrickleMeshModel", "heardFrom", "(I)I"⟩, 52) := ⟨⟨by decide +kernel, by decide +kernel⟩, List.mem_of_getElem? (i := 432) (by decide +kernel), List.mem_of_getElem? (i := 680) (by decide +kernel), List.mem_of_getElem? (i := 681) (by decide +kernel)⟩
theorem lw_p47 : lw_okq (⟨"TrickleMeshModel", "takes", "(II)V"⟩, 52) := ⟨⟨by decide +kernel, by decide +kernel⟩, List.mem_of_getElem? (i := 432) (by decide +kernel), List.mem_of_getElem? (i := 684) (by decide +kernel), List.mem_of_getElem? (i := 685) (by decide +kernel)⟩
def lw_privs_3 : List (MethodName × Nat) := [(⟨"TrickleMeshModel", "begin", "(I)V"⟩, 52), (⟨"TrickleMeshModel", "draw", "(I)I"⟩, 52), (⟨"TrickleMeshModel", "sendOn", "(IIIIIZ)V"⟩, 52), (⟨"TrickleMeshModel", "makeFrame", "(II)I"⟩, 52), (⟨"TrickleMeshModel", "queue", "(II)V"⟩, 52), (⟨"TrickleMeshModel", "first", "(I)V"⟩, 52), (⟨"TrickleMeshModel", "slot", "()V"⟩, 52), (⟨"TrickleMeshModel", "air", "(I)V"⟩, 52), (⟨"TrickleMeshModel", "nearWasOn", "(I)Z"⟩, 52), (⟨"TrickleMeshModel", "fails", "(I)V"⟩, 52), (⟨"TrickleMeshModel", "done", "(I)V"⟩, 52), (⟨"TrickleMeshModel", "choose", "(I)Z"⟩, 52), (⟨"TrickleMeshModel", "allGoals", "(I)I"⟩, 52), (⟨"TrickleMeshModel", "announce", "(IIIZ)V"⟩, 52), (⟨"TrickleMeshModel", "heardFrom", "(I)I"⟩, 52), (⟨"TrickleMeshModel", "takes", "(II)V"⟩, 52)]
theorem lw_r3 : ∀ q ∈ lw_privs_3, lw_okq q := List.forall_mem_cons.mpr ⟨lw_p32, List.forall_mem_cons.mpr ⟨lw_p33, List.forall_mem_cons.mpr ⟨lw_p34, List.forall_mem_cons.mpr ⟨lw_p35, List.forall_mem_cons.mpr ⟨lw_p36, List.forall_mem_cons.mpr ⟨lw_p37, List.forall_mem_cons.mpr ⟨lw_p38, List.forall_mem_cons.mpr ⟨lw_p39, List.forall_mem_cons.mpr ⟨lw_p40, List.forall_mem_cons.mpr ⟨lw_p41, List.forall_mem_cons.mpr ⟨lw_p42, List.forall_mem_cons.mpr ⟨lw_p43, List.forall_mem_cons.mpr ⟨lw_p44, List.forall_mem_cons.mpr ⟨lw_p45, List.forall_mem_cons.mpr ⟨lw_p46, List.forall_mem_cons.mpr ⟨lw_p47, fun _ h => absurd h List.not_mem_nil⟩⟩⟩⟩⟩⟩⟩⟩⟩⟩⟩⟩⟩⟩⟩⟩
theorem lw_p48 : lw_okq (⟨"TrickleMeshModel", "advert", "(II)V"⟩, 52) := ⟨⟨by decide +kernel, by decide +kernel⟩, List.mem_of_getElem? (i := 432) (by decide +kernel), List.mem_of_getElem? (i := 688) (by decide +kernel), List.mem_of_getElem? (i := 689) (by decide +kernel)⟩
theorem lw_p49 : lw_okq (⟨"TrickleMeshModel", "announced", "(III)V"⟩, 52) := ⟨⟨by decide +kernel, by decide +kernel⟩, List.mem_of_getElem? (i := 432) (by decide +kernel), List.mem_of_getElem? (i := 692) (by decide +kernel), List.mem_of_getElem? (i := 693) (by decide +kernel)⟩
theorem lw_p50 : lw_okq (⟨"TrickleMeshModel", "valued", "(III)V"⟩, 52) := ⟨⟨by decide +kernel, by decide +kernel⟩, List.mem_of_getElem? (i := 432) (by decide +kernel), List.mem_of_getElem? (i := 696) (by decide +kernel), List.mem_of_getElem? (i := 697) (by decide +kernel)⟩
theorem lw_p51 : lw_okq (⟨"TrickleMeshModel", "unheard", "(I)V"⟩, 52) := ⟨⟨by decide +kernel, by decide +kernel⟩, List.mem_of_getElem? (i := 432) (by decide +kernel), List.mem_of_getElem? (i := 700) (by decide +kernel), List.mem_of_getElem? (i := 701) (by decide +kernel)⟩
theorem lw_p52 : lw_okq (⟨"TrickleMeshModel", "later", "(I)V"⟩, 52) := ⟨⟨by decide +kernel, by decide +kernel⟩, List.mem_of_getElem? (i := 432) (by decide +kernel), List.mem_of_getElem? (i := 704) (by decide +kernel), List.mem_of_getElem? (i := 705) (by decide +kernel)⟩
theorem lw_p53 : lw_okq (⟨"TrickleMeshModel", "timer", "(I)V"⟩, 52) := ⟨⟨by decide +kernel, by decide +kernel⟩, List.mem_of_getElem? (i := 432) (by decide +kernel), List.mem_of_getElem? (i := 708) (by decide +kernel), List.mem_of_getElem? (i := 709) (by decide +kernel)⟩
theorem lw_p54 : lw_okq (⟨"TrickleMeshModel", "queues", "(II)Z"⟩, 52) := ⟨⟨by decide +kernel, by decide +kernel⟩, List.mem_of_getElem? (i := 432) (by decide +kernel), List.mem_of_getElem? (i := 712) (by decide +kernel), List.mem_of_getElem? (i := 713) (by decide +kernel)⟩
def lw_privs_4 : List (MethodName × Nat) := [(⟨"TrickleMeshModel", "advert", "(II)V"⟩, 52), (⟨"TrickleMeshModel", "announced", "(III)V"⟩, 52), (⟨"TrickleMeshModel", "valued", "(III)V"⟩, 52), (⟨"TrickleMeshModel", "unheard", "(I)V"⟩, 52), (⟨"TrickleMeshModel", "later", "(I)V"⟩, 52), (⟨"TrickleMeshModel", "timer", "(I)V"⟩, 52), (⟨"TrickleMeshModel", "queues", "(II)Z"⟩, 52)]
theorem lw_r4 : ∀ q ∈ lw_privs_4, lw_okq q := List.forall_mem_cons.mpr ⟨lw_p48, List.forall_mem_cons.mpr ⟨lw_p49, List.forall_mem_cons.mpr ⟨lw_p50, List.forall_mem_cons.mpr ⟨lw_p51, List.forall_mem_cons.mpr ⟨lw_p52, List.forall_mem_cons.mpr ⟨lw_p53, List.forall_mem_cons.mpr ⟨lw_p54, fun _ h => absurd h List.not_mem_nil⟩⟩⟩⟩⟩⟩⟩
def lw_privs : List (MethodName × Nat) := lw_privs_1 ++ (lw_privs_2 ++ (lw_privs_3 ++ (lw_privs_4)))
def lw_tbl : List Cond := k2_sels lw_privs ++ tables_1
theorem lw_privs_ok : ∀ q ∈ lw_privs, lw_okq q := by
  show ∀ q ∈ lw_privs_1 ++ (lw_privs_2 ++ (lw_privs_3 ++ (lw_privs_4))), lw_okq q
  exact List.forall_mem_append.mpr ⟨lw_r1, List.forall_mem_append.mpr ⟨lw_r2, List.forall_mem_append.mpr ⟨lw_r3, lw_r4⟩⟩⟩
end
section
/-! THE CLAIM OUT OF ONE WALK OF THE LAW'S BODY. Your part is whole_start (and what it stands on); all else here is the same for every law, but numbers. -/
def R_law : String := "TrickleMeshLaw"
def lw_P (b : Addr) (xs : List Int32) (args : Array Value) (s : State) : Prop := args = #[.ref b] ∧ s.IntsAt b xs ∧ xs.length ≤ 2563 ∧ (Jvm.Cond.and given_1 narrow_1).before args s = true
def lw_Q (_ : Array Value) (s : State) (o : Outcome) (t : State) : Prop := o = .returned (some (.int 1)) ∧ Framed s o t [] 600000 7302250
def lw_Z (below : List Frame) (a : Array Value) (s : State) : State → Prop := fun t => ∃ o, t.status = .running ∧ Ended t below o ∧ lw_Q a s o t
/-- the law's own end, with 1 on the stack, nothing written that was there before, its room as the claim has it -/
theorem lw_ret {p : Program} {l : Launch} {e : Env} {s : State} {m : MethodId} {below : List Frame} {meth : Method} {c : Code} {b : Nat} (hx : p.tables.exec = Jvm.exec) (hb : c.code = code) (hr : meth.sig.returnType = ret) (hlocks : meth.locks = false) {pc : Nat} {H : Heap} {ls : Array Slot} (hdg : decode code pc = .ok (.ireturn, 1)) : W p l e room_1 s m #[Value.ref b] below meth c H [] 600000 7302250 (lw_Z below #[Value.ref b] s) (F0 m pc ls [.int 1]) := by
  intro T hT X
  obtain ⟨fs, hret, hrun, hended, hW, hframe⟩ := X.leave (v := some (.int 1)) (hlocks := hlocks) (fun h => by rw [hr] at h; cases h)
  have hmeth' : T.vm.method? m = some meth := X.method'
  refine ⟨T.setFrames fs, ?_, .returned (some (.int 1)), hrun, hended, rfl, ⟨_, rfl⟩, hW, hframe⟩
  jvm_step X.here [X.here.top, hx, hb, hdg, hmeth', hr, ret, narrow_b1]
  (try refine ⟨rfl, ?_⟩); (try refine ⟨rfl, ?_⟩)
  first | (intro acts; rw [hret _ acts rfl rfl rfl]) | rw [hret _ _ rfl rfl rfl]
  exact Steps.refl _
/-- what holds at the law's entry: the machine, the code, the tables' words (any of lw_tbl by 'hts w (by decide +kernel)'), the script of L ints xs at the cell b, what the Statement gives of the start (any of its parts by flat_of_before) -/
def lw_At (p : Program) (s : State) (m : MethodId) (meth : Method) (c : Code) (b L : Nat) (xs : Nat → Int32) : Prop :=
  p.tables.exec = Jvm.exec ∧ c.code = code ∧ meth.sig.returnType = ret ∧ c.maxLocals = 4 ∧ s.vm.findClass R_law = some m.cls ∧ (∀ w ∈ lw_tbl, w.before #[Value.ref b] s = true) ∧ va_X b L xs s s.heap ∧ b < s.heap.size ∧ meth.locks = false ∧ (Jvm.Cond.and given_1 narrow_1).before #[Value.ref b] s = true
end
section
/-! A judgement over W: the heap is a function from small addresses to cells (0: the script; a + 1: the cell b + a), the locals are a list. -/
def tv_r (bs b : Nat) : Nat → Nat := fun a => match a with
  | 0 => bs
  | a + 1 => b + a
def tv_v (bs b : Nat) (v : Value) : Value := match v with
  | .int x => .int x
  | .long x => .long x
  | .float x => .float x
  | .double x => .double x
  | .null => .null
  | .ref a => .ref (tv_r bs b a)
  | .retAddr x => .retAddr x
theorem tv_v_cat (bs b : Nat) (v : Value) : (tv_v bs b v).category = v.category := by cases v <;> rfl
theorem tv_v_sum (bs b : Nat) (st : List Value) : ((st.map (tv_v bs b)).map fun v => v.category).sum = (st.map fun v => v.category).sum := by
  induction st with
  | nil => rfl
  | cons v t ih => simp only [List.map_cons, List.sum_cons, tv_v_cat, ih]
/-- a cell: an array (the number of its element type, its contents) or an object (the number of its class, its fields) -/
abbrev tv_C : Type := (Nat × vp_A) ⊕ (Nat × List Value)
def tv_A (bs b : Nat) (a : vp_A) : vp_A := (a.1, match a.2 with
  | .inl f => .inl f
  | .inr (.inl f) => .inr (.inl f)
  | .inr (.inr (.inl f)) => .inr (.inr (.inl f))
  | .inr (.inr (.inr (.inl f))) => .inr (.inr (.inr (.inl f)))
  | .inr (.inr (.inr (.inr f))) => .inr (.inr (.inr (.inr (fun j => (f j).map (tv_r bs b))))))
def tv_E (G : Nat → ClassId) (bs b : Nat) (c : tv_C) : va_E := match c with
  | .inl q => .inl (G q.1, tv_A bs b q.2)
  | .inr q => .inr (q.1, q.2.map (tv_v bs b))
def tv_W (G : Nat → ClassId) (bs b n : Nat) (h : Nat → tv_C) : va_W := (List.range n).map fun a => (b + a, tv_E G bs b (h (a + 1)))
theorem tv_W_at {G : Nat → ClassId} {bs b n a : Nat} {h : Nat → tv_C} (ha : a < n) : (tv_W G bs b n h)[a]? = some (b + a, tv_E G bs b (h (a + 1))) := by
  unfold tv_W
  rw [List.getElem?_map, List.getElem?_range ha]
  rfl
theorem tv_W_len (G : Nat → ClassId) (bs b n : Nat) (h : Nat → tv_C) : (tv_W G bs b n h).length = n := by simp [tv_W]
theorem tv_W_inv {G : Nat → ClassId} {bs b n a : Nat} {h : Nat → tv_C} {q : Nat × va_E} (hq : (tv_W G bs b n h)[a]? = some q) : a < n ∧ q = (b + a, tv_E G bs b (h (a + 1))) := by
  have ha : a < n := by
    have h1 := (List.getElem?_eq_some_iff.mp hq).1
    rw [tv_W_len] at h1
    exact h1
  rw [tv_W_at ha] at hq
  exact ⟨ha, (Option.some.inj hq).symm⟩
theorem tv_W_set {G : Nat → ClassId} {bs b n a : Nat} {h : Nat → tv_C} (ha : a < n) (c : tv_C) : (tv_W G bs b n h).set a (b + a, tv_E G bs b c) = tv_W G bs b n (va_up h (a + 1) c) := by
  apply List.ext_getElem?
  intro i
  by_cases hi : i = a
  · subst hi
    rw [List.getElem?_set_self (by rw [tv_W_len]; exact ha), tv_W_at ha, va_up_self]
  · rw [List.getElem?_set_ne (Ne.symm hi)]
    by_cases hn : i < n
    · rw [tv_W_at hn, tv_W_at hn, va_up_ne _ _ (by omega)]
    · rw [List.getElem?_eq_none (by rw [tv_W_len]; omega), List.getElem?_eq_none (by rw [tv_W_len]; omega)]
theorem tv_W_push (G : Nat → ClassId) (bs b n : Nat) (h : Nat → tv_C) (c : tv_C) : tv_W G bs b n h ++ [(b + n, tv_E G bs b c)] = tv_W G bs b (n + 1) (va_up h (n + 1) c) := by
  apply List.ext_getElem?
  intro i
  by_cases hi : i < n
  · rw [List.getElem?_append_left (by rw [tv_W_len]; exact hi), tv_W_at hi, tv_W_at (Nat.lt_succ_of_lt hi), va_up_ne _ _ (by omega)]
  · by_cases he : i = n
    · subst he
      rw [List.getElem?_append_right (by rw [tv_W_len]; omega), tv_W_len, tv_W_at (Nat.lt_succ_self _), va_up_self, Nat.sub_self]
      rfl
    · rw [List.getElem?_eq_none (by rw [List.length_append, tv_W_len]; simp; omega), List.getElem?_eq_none (by rw [tv_W_len]; omega)]
theorem tv_D (G : Nat → ClassId) (bs b n : Nat) (h : Nat → tv_C) : va_D (fun q => b ≤ q) (tv_W G bs b n h) := by
  refine ⟨fun i j p q hi hj he => ?_, fun k q hk => ?_⟩
  · obtain ⟨_, rfl⟩ := tv_W_inv hi
    obtain ⟨_, rfl⟩ := tv_W_inv hj
    have he : b + i = b + j := he
    omega
  · obtain ⟨_, rfl⟩ := tv_W_inv hk
    exact Nat.le_add_right _ _
/-- the heap H holds the cells h 1 .. h n, no more; the script is h 0 -/
def tv_R (cl : List vw_C) (D : va_G) (G : Nat → ClassId) (bs b n : Nat) (h : Nat → tv_C) (s : State) (H : Heap) : Prop :=
  H.size = b + n ∧ va_P D cl (tv_W G bs b n h) H ∧ ∀ (L : Nat) (xs : Nat → Int32), h 0 = .inl (0, (L, .inl xs)) → va_X bs L xs s H
def tv_ok (v : Value) : Bool := match v with
  | .int _ => true
  | .null => true
  | .ref _ => true
  | _ => false
theorem tv_ok_cat {v : Value} (h : tv_ok v = true) : v.category = 1 := by cases v <;> first | rfl | cases h
def tv_g (bs b : Nat) (ls : List (Option Value)) (i : Nat) : Option (Nat × Value) := match ls[i]? with
  | some (some v) => if tv_ok v = true then some (i, tv_v bs b v) else none
  | _ => none
def tv_ps (bs b : Nat) (ls : List (Option Value)) : List (Nat × Value) := (List.range ls.length).filterMap (tv_g bs b ls)
theorem tv_g_some {bs b i : Nat} {ls : List (Option Value)} {q : Nat × Value} (h : tv_g bs b ls i = some q) : ∃ v, ls[i]? = some (some v) ∧ tv_ok v = true ∧ q = (i, tv_v bs b v) := by
  unfold tv_g at h
  cases hc : ls[i]? with
  | none => rw [hc] at h; cases h
  | some o =>
    rw [hc] at h
    cases o with
    | none => cases h
    | some v =>
      by_cases ho : tv_ok v = true
      · simp only [ho, if_true] at h
        exact ⟨v, rfl, ho, (Option.some.inj h).symm⟩
      · simp only [ho] at h
        cases h
theorem tv_ps_mem {bs b i : Nat} {ls : List (Option Value)} {v : Value} (h : ls[i]? = some (some v)) (ho : tv_ok v = true) : (i, tv_v bs b v) ∈ tv_ps bs b ls := by
  refine List.mem_filterMap.mpr ⟨i, List.mem_range.mpr (List.getElem?_eq_some_iff.mp h).1, ?_⟩
  unfold tv_g
  rw [h]
  simp only [ho, if_true]
theorem tv_ps_inv {bs b : Nat} {ls : List (Option Value)} {q : Nat × Value} (h : q ∈ tv_ps bs b ls) : ∃ v, ls[q.1]? = some (some v) ∧ tv_ok v = true ∧ q.2 = tv_v bs b v := by
  obtain ⟨i, _, hi⟩ := List.mem_filterMap.mp h
  obtain ⟨v, h1, h2, rfl⟩ := tv_g_some hi
  exact ⟨v, h1, h2, rfl⟩
theorem tv_at {real : Array Slot} {N bs b i : Nat} {ls : List (Option Value)} {v : Value} (hl : lv_has real N (tv_ps bs b ls)) (h : ls[i]? = some (some v)) (ho : tv_ok v = true) : real[i]? = some (.val (tv_v bs b v)) := hl.2.2 _ (tv_ps_mem h ho)
/-- a store into a local -/
theorem tv_set {real : Array Slot} {N bs b i : Nat} {ls : List (Option Value)} {v : Value} (hl : lv_has real N ((i, tv_v bs b v) :: (tv_ps bs b ls).filter (fun q => !(q.1 == i) && !(q.1 + 1 == i && q.2.category == 2)))) : lv_has real N (tv_ps bs b (ls.set i (some v))) := by
  refine ⟨hl.1, hl.2.1, fun q hq => ?_⟩
  obtain ⟨w, h1, h2, h3⟩ := tv_ps_inv hq
  obtain ⟨j, u⟩ := q
  dsimp only at h1 h3 ⊢
  subst h3
  by_cases hj : j = i
  · subst hj
    have hlt : j < (ls.set j (some v)).length := (List.getElem?_eq_some_iff.mp h1).1
    rw [List.length_set] at hlt
    rw [List.getElem?_set_self hlt] at h1
    have hw : v = w := Option.some.inj (Option.some.inj h1)
    subst hw
    exact hl.2.2 _ List.mem_cons_self
  · rw [List.getElem?_set_ne (Ne.symm hj)] at h1
    refine hl.2.2 (j, tv_v bs b w) (List.mem_cons_of_mem _ (List.mem_filter.mpr ⟨tv_ps_mem h1 h2, ?_⟩))
    have hc : ((tv_v bs b w).category == 2) = false := by rw [tv_v_cat, tv_ok_cat h2]; rfl
    simp only [hc, Bool.and_false, Bool.not_false, Bool.and_true, Bool.not_eq_true', beq_eq_false_iff_ne, ne_eq]
    exact hj
/-- one activation of a method: the machine, the wanted end, the tables -/
abbrev tv_X : Type := (Program × Launch × Env × Room × State × MethodId × Array Value × List Frame × Method × Code) × (State → Prop) × (List vw_C × List FieldType × va_G × (Nat → ClassId) × Nat × Nat)
def tv_T (G : Nat → ClassId) (tys : List FieldType) : List (ClassId × FieldType) := (List.range tys.length).map fun t => (G t, tys.getD t .int)
theorem tv_T_at {G : Nat → ClassId} {tys : List FieldType} {t : Nat} {ty : FieldType} (h : tys[t]? = some ty) : (tv_T G tys)[t]? = some (G t, ty) := by
  have hlt : t < tys.length := (List.getElem?_eq_some_iff.mp h).1
  unfold tv_T
  rw [List.getElem?_map, List.getElem?_range hlt]
  simp [h]
/-- what a row takes of the activation: the code, the words Ts, the words of nest mates Ns, the room -/
def tv_K (X : tv_X) (cc : ByteArray) (nL : Nat) (own : String) (Ts Ns : List Cond) (CL : List vw_C) (TY : List FieldType) (rm : Room) : Prop := match X with
  | ((p, l, e, R, s, m, args, below, meth, c), Q, (cl, tys, D, G, bs, b)) =>
    p.tables.exec = Jvm.exec ∧ c.code = cc ∧ c.maxLocals = nL ∧ s.vm.findClass own = some m.cls ∧ (∀ w ∈ Ts, w.before args s = true) ∧ (∀ w ∈ Ns, va_Nw w s) ∧ va_K D cl (tv_T G tys) s ∧ meth.locks = false ∧ bs < b ∧ b ≤ s.heap.size ∧ R = rm ∧ cl = CL ∧ tys = TY
def V (X : tv_X) (cells slots n : Nat) (h : Nat → tv_C) (pc : Nat) (ls : List (Option Value)) (st : List Value) : Prop := match X with
  | ((p, l, e, R, s, m, args, below, meth, c), Q, (cl, tys, D, G, bs, b)) =>
    ∀ (H : Heap) (locs : List Loc) (real : Array Slot), tv_R cl D G bs b n h s H → va_S (fun q => b ≤ q) s.heap H locs → lv_has real ls.length (tv_ps bs b ls) → W p l e R s m args below meth c H locs cells slots Q (F0 m pc real (st.map (tv_v bs b)))
end
section
/-! straight stretches: constants, locals, stack and arithmetic in one step -/
def tv_li (ls : List (Option Value)) (k : Nat) : Option Int32 := match ls[k]? with
  | some (some (.int x)) => some x
  | _ => none
theorem tv_li_at {ls : List (Option Value)} {k : Nat} {x : Int32} (h : tv_li ls k = some x) : ls[k]? = some (some (.int x)) := by
  unfold tv_li at h
  split at h
  · rename_i y hy
    rw [hy, Option.some.inj h]
  · cases h
def tv_la (ls : List (Option Value)) (k : Nat) : Option Value := match ls[k]? with
  | some (some (.ref a)) => some (.ref a)
  | some (some .null) => some .null
  | _ => none
theorem tv_la_at {ls : List (Option Value)} {k : Nat} {v : Value} (h : tv_la ls k = some v) : ls[k]? = some (some v) ∧ (v = .null ∨ ∃ a, v = .ref a) := by
  unfold tv_la at h
  split at h
  · rename_i a ha
    obtain rfl := Option.some.inj h
    exact ⟨ha, Or.inr ⟨a, rfl⟩⟩
  · rename_i ha
    obtain rfl := Option.some.inj h
    exact ⟨ha, Or.inl rfl⟩
  · cases h
def tv_st (ls : List (Option Value)) (k : Nat) (v : Value) : Option (List (Option Value)) := if k < ls.length then some (ls.set k (some v)) else none
theorem tv_st_at {ls ls' : List (Option Value)} {k : Nat} {v : Value} (h : tv_st ls k v = some ls') : k < ls.length ∧ ls' = ls.set k (some v) := by
  unfold tv_st at h
  split at h
  · rename_i hk
    exact ⟨hk, (Option.some.inj h).symm⟩
  · cases h
/-- one instruction: its length, the locals and the stack behind it -/
def tv_s1 (i : Instr) (ls : List (Option Value)) (st : List Value) : Option (Nat × List (Option Value) × List Value) := match i, st with
  | .iconst k, st => some (1, ls, .int (Int32.ofInt k) :: st)
  | .bipush k, st => some (2, ls, .int (Int8.ofInt k).toInt32 :: st)
  | .sipush k, st => some (3, ls, .int (Int16.ofInt k).toInt32 :: st)
  | .aconst_null, st => some (1, ls, .null :: st)
  | .iload_n k, st => (tv_li ls (k : Nat)).map fun x => (1, ls, .int x :: st)
  | .iload k, st => (tv_li ls k).map fun x => (2, ls, .int x :: st)
  | .aload_n k, st => (tv_la ls (k : Nat)).map fun v => (1, ls, v :: st)
  | .aload k, st => (tv_la ls k).map fun v => (2, ls, v :: st)
  | .istore_n k, .int x :: st => (tv_st ls (k : Nat) (.int x)).map fun ls' => (1, ls', st)
  | .istore k, .int x :: st => (tv_st ls k (.int x)).map fun ls' => (2, ls', st)
  | .astore_n k, .ref x :: st => (tv_st ls (k : Nat) (.ref x)).map fun ls' => (1, ls', st)
  | .astore k, .ref x :: st => (tv_st ls k (.ref x)).map fun ls' => (2, ls', st)
  | .astore_n k, .null :: st => (tv_st ls (k : Nat) .null).map fun ls' => (1, ls', st)
  | .astore k, .null :: st => (tv_st ls k .null).map fun ls' => (2, ls', st)
  | .iinc k d, st => (tv_li ls k).map fun x => (3, ls.set k (some (.int (x + Int32.ofInt d))), st)
  | .iadd, .int y :: .int x :: st => some (1, ls, .int (x + y) :: st)
  | .isub, .int y :: .int x :: st => some (1, ls, .int (x - y) :: st)
  | .imul, .int y :: .int x :: st => some (1, ls, .int (x * y) :: st)
  | .iand, .int y :: .int x :: st => some (1, ls, .int (x &&& y) :: st)
  | .ior, .int y :: .int x :: st => some (1, ls, .int (x ||| y) :: st)
  | .ixor, .int y :: .int x :: st => some (1, ls, .int (x ^^^ y) :: st)
  | .ishl, .int y :: .int x :: st => some (1, ls, .int (x <<< (y &&& 31)) :: st)
  | .ishr, .int y :: .int x :: st => some (1, ls, .int (x >>> (y &&& 31)) :: st)
  | .iushr, .int y :: .int x :: st => some (1, ls, .int (x.toUInt32 >>> (y.toUInt32 &&& Int32.toUInt32 31)).toInt32 :: st)
  | .ineg, .int x :: st => some (1, ls, .int (-x) :: st)
  | .dup, v :: st => if tv_ok v = true then some (1, ls, v :: v :: st) else none
  | .pop, v :: st => if tv_ok v = true then some (1, ls, st) else none
  | .dup_x1, v :: w :: st => if tv_ok v = true ∧ tv_ok w = true then some (1, ls, v :: w :: v :: st) else none
  | .dup_x2, v :: w :: u :: st => if tv_ok v = true ∧ tv_ok w = true ∧ tv_ok u = true then some (1, ls, v :: w :: u :: v :: st) else none
  | .dup2, v :: w :: st => if tv_ok v = true ∧ tv_ok w = true then some (1, ls, v :: w :: v :: w :: st) else none
  | _, _ => none
def tv_dec (cc : ByteArray) (pc : Nat) (is : List (Instr × Nat)) : Prop := match is with
  | [] => True
  | i :: t => decode cc pc = .ok i ∧ tv_dec cc (pc + i.2) t
def tv_run (is : List (Instr × Nat)) (pc : Nat) (ls : List (Option Value)) (st : List Value) : Option (Nat × List (Option Value) × List Value) := match is with
  | [] => some (pc, ls, st)
  | i :: t => match tv_s1 i.1 ls st with
    | none => none
    | some r => if r.1 = i.2 then tv_run t (pc + i.2) r.2.1 r.2.2 else none
theorem tv_cat1 {v : Value} (bs b : Nat) (h : tv_ok v = true) : (tv_v bs b v).category = 1 := by rw [tv_v_cat]; exact tv_ok_cat h
section TVB
variable {X : tv_X} {cells slots n : Nat} {h : Nat → tv_C} {pc : Nat} {ls ls' : List (Option Value)} {st st' : List Value} {cc : ByteArray} {nL : Nat} {own : String} {Ts Ns : List Cond} {CL : List vw_C} {TY : List FieldType} {rm : Room}
theorem tv_len {real : Array Slot} {k : Nat} {v : Option Value} {l : List (Nat × Value)} (hl : lv_has real ls.length l) : lv_has real (ls.set k v).length l := by rw [List.length_set]; exact hl
set_option maxHeartbeats 4000000 in
theorem V.one (hC : tv_K X cc nL own Ts Ns CL TY rm) {i : Instr} {len : Nat} (hd : decode cc pc = .ok (i, len)) (hs : tv_s1 i ls st = some (len, ls', st')) (k : V X cells slots n h (pc + len) ls' st') : V X cells slots n h pc ls st := by
  obtain ⟨⟨p, l, e, R, s, m, args, below, meth, c⟩, Q, ⟨cl, tys, D, G, bs, b⟩⟩ := X
  obtain ⟨hx, hb, -⟩ := hC
  intro H locs real hR hS hl
  unfold tv_s1 at hs
  split at hs
  · cases hs; exact lv_iconst hx hb hd rfl (k H locs real hR hS hl)
  · cases hs; exact lv_bipush hx hb hd rfl (k H locs real hR hS hl)
  · cases hs; exact lv_sipush hx hb hd rfl (k H locs real hR hS hl)
  · cases hs; exact lv_null hx hb hd (k H locs real hR hS hl)
  · obtain ⟨x, h1, h2⟩ := Option.map_eq_some_iff.mp hs
    cases h2
    exact lv_iload_n hx hb hd rfl (tv_at hl (tv_li_at h1) rfl) (k H locs real hR hS hl)
  · obtain ⟨x, h1, h2⟩ := Option.map_eq_some_iff.mp hs
    cases h2
    exact lv_iload hx hb hd (tv_at hl (tv_li_at h1) rfl) (k H locs real hR hS hl)
  · obtain ⟨v, h1, h2⟩ := Option.map_eq_some_iff.mp hs
    cases h2
    obtain ⟨h3, rfl | ⟨a, rfl⟩⟩ := tv_la_at h1
    · exact lv_aload_nN hx hb hd rfl (tv_at hl h3 rfl) (k H locs real hR hS hl)
    · exact lv_aload_n hx hb hd rfl (tv_at hl h3 rfl) (k H locs real hR hS hl)
  · obtain ⟨v, h1, h2⟩ := Option.map_eq_some_iff.mp hs
    cases h2
    obtain ⟨h3, rfl | ⟨a, rfl⟩⟩ := tv_la_at h1
    · exact lv_aloadN hx hb hd (tv_at hl h3 rfl) (k H locs real hR hS hl)
    · exact lv_aload hx hb hd (tv_at hl h3 rfl) (k H locs real hR hS hl)
  · obtain ⟨l2, h1, h2⟩ := Option.map_eq_some_iff.mp hs
    cases h2
    obtain ⟨h3, rfl⟩ := tv_st_at h1
    exact lv_istore_n hx hb hd rfl hl h3 rfl (fun r2 h4 => k H locs r2 hR hS (tv_len (tv_set h4)))
  · obtain ⟨l2, h1, h2⟩ := Option.map_eq_some_iff.mp hs
    cases h2
    obtain ⟨h3, rfl⟩ := tv_st_at h1
    exact lv_istore hx hb hd hl h3 rfl (fun r2 h4 => k H locs r2 hR hS (tv_len (tv_set h4)))
  · obtain ⟨l2, h1, h2⟩ := Option.map_eq_some_iff.mp hs
    cases h2
    obtain ⟨h3, rfl⟩ := tv_st_at h1
    exact lv_astore_n hx hb hd rfl hl h3 rfl (fun r2 h4 => k H locs r2 hR hS (tv_len (tv_set h4)))
  · obtain ⟨l2, h1, h2⟩ := Option.map_eq_some_iff.mp hs
    cases h2
    obtain ⟨h3, rfl⟩ := tv_st_at h1
    exact lv_astore hx hb hd hl h3 rfl (fun r2 h4 => k H locs r2 hR hS (tv_len (tv_set h4)))
  · obtain ⟨l2, h1, h2⟩ := Option.map_eq_some_iff.mp hs
    cases h2
    obtain ⟨h3, rfl⟩ := tv_st_at h1
    exact lv_astore_nN hx hb hd rfl hl h3 rfl (fun r2 h4 => k H locs r2 hR hS (tv_len (tv_set h4)))
  · obtain ⟨l2, h1, h2⟩ := Option.map_eq_some_iff.mp hs
    cases h2
    obtain ⟨h3, rfl⟩ := tv_st_at h1
    exact lv_astoreN hx hb hd hl h3 rfl (fun r2 h4 => k H locs r2 hR hS (tv_len (tv_set h4)))
  · obtain ⟨x, h1, h2⟩ := Option.map_eq_some_iff.mp hs
    cases h2
    obtain ⟨q, hq⟩ := List.getElem?_of_mem (tv_ps_mem (bs := bs) (b := b) (tv_li_at h1) rfl)
    exact lv_iinc hx hb hd hl hq rfl (List.getElem?_eq_some_iff.mp (tv_li_at h1)).1 rfl (fun r2 h4 => k H locs r2 hR hS (tv_len (tv_set h4)))
  · cases hs; exact lv_iadd hx hb hd (k H locs real hR hS hl)
  · cases hs; exact lv_isub hx hb hd (k H locs real hR hS hl)
  · cases hs; exact lv_imul hx hb hd (k H locs real hR hS hl)
  · cases hs; exact lv_iand hx hb hd (k H locs real hR hS hl)
  · cases hs; exact lv_ior hx hb hd (k H locs real hR hS hl)
  · cases hs; exact lv_ixor hx hb hd (k H locs real hR hS hl)
  · cases hs; exact lv_ishl hx hb hd (k H locs real hR hS hl)
  · cases hs; exact lv_ishr hx hb hd (k H locs real hR hS hl)
  · cases hs; exact lv_iushr hx hb hd rfl (k H locs real hR hS hl)
  · cases hs; exact lv_ineg hx hb hd (k H locs real hR hS hl)
  · split at hs
    · rename_i h1; cases hs; exact lv_dup hx hb hd (tv_cat1 bs b h1) (k H locs real hR hS hl)
    · cases hs
  · split at hs
    · rename_i h1; cases hs; exact lv_pop hx hb hd (tv_cat1 bs b h1) (k H locs real hR hS hl)
    · cases hs
  · split at hs
    · rename_i h1; cases hs; exact lv_dup_x1 hx hb hd (tv_cat1 bs b h1.1) (tv_cat1 bs b h1.2) (k H locs real hR hS hl)
    · cases hs
  · split at hs
    · rename_i h1; cases hs; exact lv_dup_x2 hx hb hd (tv_cat1 bs b h1.1) (tv_cat1 bs b h1.2.1) (tv_cat1 bs b h1.2.2) (k H locs real hR hS hl)
    · cases hs
  · split at hs
    · rename_i h1; cases hs; exact lv_dup2_11 hx hb hd (tv_cat1 bs b h1.1) (tv_cat1 bs b h1.2) (k H locs real hR hS hl)
    · cases hs
  · cases hs
theorem V.blk (hC : tv_K X cc nL own Ts Ns CL TY rm) {pc' : Nat} : ∀ (is : List (Instr × Nat)) (pc : Nat) (ls : List (Option Value)) (st : List Value), tv_dec cc pc is → tv_run is pc ls st = some (pc', ls', st') → V X cells slots n h pc' ls' st' → V X cells slots n h pc ls st
  | [], pc, ls, st, _, hr, k => by
    cases hr
    exact k
  | i :: t, pc, ls, st, hd, hr, k => by
    unfold tv_run at hr
    split at hr
    · cases hr
    · rename_i r hs
      split at hr
      · rename_i he
        refine V.one hC (i := i.1) (len := i.2) hd.1 (hs.trans ?_) (V.blk hC t _ _ _ hd.2 hr k)
        rw [← he]
      · cases hr
end TVB
end
section
/-! rows over V: branches -/
section TVC
variable {X : tv_X} {cells slots n : Nat} {h : Nat → tv_C} {pc : Nat} {ls : List (Option Value)} {st : List Value} {cc : ByteArray} {nL : Nat} {own : String} {Ts Ns : List Cond} {CL : List vw_C} {TY : List FieldType} {rm : Room}
theorem V.if_eq (hC : tv_K X cc nL own Ts Ns CL TY rm) {x : Int32} {off : Int} {tgt : Nat} (hd : decode cc pc = .ok (.ifCond .eq off, 3)) (ht : (pc : Int) + off = (tgt : Int)) (kt : x = 0 → V X cells slots n h tgt ls st) (kf : ¬ x = 0 → V X cells slots n h (pc + 3) ls st) : V X cells slots n h pc ls (.int x :: st) := by
  obtain ⟨⟨p, l, e, R, s, m, args, below, meth, c⟩, Q, ⟨cl, tys, D, G, bs, b⟩⟩ := X
  obtain ⟨hx, hb, -⟩ := hC
  intro H locs real hR hS hl
  exact lv_if_eq hx hb hd ht (fun q => kt q H locs real hR hS hl) (fun q => kf q H locs real hR hS hl)
theorem V.icmp_eq (hC : tv_K X cc nL own Ts Ns CL TY rm) {x y : Int32} {off : Int} {tgt : Nat} (hd : decode cc pc = .ok (.if_icmp .eq off, 3)) (ht : (pc : Int) + off = (tgt : Int)) (kt : x = y → V X cells slots n h tgt ls st) (kf : ¬ x = y → V X cells slots n h (pc + 3) ls st) : V X cells slots n h pc ls (.int y :: .int x :: st) := by
  obtain ⟨⟨p, l, e, R, s, m, args, below, meth, c⟩, Q, ⟨cl, tys, D, G, bs, b⟩⟩ := X
  obtain ⟨hx, hb, -⟩ := hC
  intro H locs real hR hS hl
  exact lv_icmp_eq hx hb hd ht (fun q => kt q H locs real hR hS hl) (fun q => kf q H locs real hR hS hl)
theorem V.if_ne (hC : tv_K X cc nL own Ts Ns CL TY rm) {x : Int32} {off : Int} {tgt : Nat} (hd : decode cc pc = .ok (.ifCond .ne off, 3)) (ht : (pc : Int) + off = (tgt : Int)) (kt : ¬ x = 0 → V X cells slots n h tgt ls st) (kf : x = 0 → V X cells slots n h (pc + 3) ls st) : V X cells slots n h pc ls (.int x :: st) := by
  obtain ⟨⟨p, l, e, R, s, m, args, below, meth, c⟩, Q, ⟨cl, tys, D, G, bs, b⟩⟩ := X
  obtain ⟨hx, hb, -⟩ := hC
  intro H locs real hR hS hl
  exact lv_if_ne hx hb hd ht (fun q => kt q H locs real hR hS hl) (fun q => kf q H locs real hR hS hl)
theorem V.icmp_ne (hC : tv_K X cc nL own Ts Ns CL TY rm) {x y : Int32} {off : Int} {tgt : Nat} (hd : decode cc pc = .ok (.if_icmp .ne off, 3)) (ht : (pc : Int) + off = (tgt : Int)) (kt : ¬ x = y → V X cells slots n h tgt ls st) (kf : x = y → V X cells slots n h (pc + 3) ls st) : V X cells slots n h pc ls (.int y :: .int x :: st) := by
  obtain ⟨⟨p, l, e, R, s, m, args, below, meth, c⟩, Q, ⟨cl, tys, D, G, bs, b⟩⟩ := X
  obtain ⟨hx, hb, -⟩ := hC
  intro H locs real hR hS hl
  exact lv_icmp_ne hx hb hd ht (fun q => kt q H locs real hR hS hl) (fun q => kf q H locs real hR hS hl)
theorem V.if_lt (hC : tv_K X cc nL own Ts Ns CL TY rm) {x : Int32} {off : Int} {tgt : Nat} (hd : decode cc pc = .ok (.ifCond .lt off, 3)) (ht : (pc : Int) + off = (tgt : Int)) (kt : x < 0 → V X cells slots n h tgt ls st) (kf : ¬ x < 0 → V X cells slots n h (pc + 3) ls st) : V X cells slots n h pc ls (.int x :: st) := by
  obtain ⟨⟨p, l, e, R, s, m, args, below, meth, c⟩, Q, ⟨cl, tys, D, G, bs, b⟩⟩ := X
  obtain ⟨hx, hb, -⟩ := hC
  intro H locs real hR hS hl
  exact lv_if_lt hx hb hd ht (fun q => kt q H locs real hR hS hl) (fun q => kf q H locs real hR hS hl)
theorem V.icmp_lt (hC : tv_K X cc nL own Ts Ns CL TY rm) {x y : Int32} {off : Int} {tgt : Nat} (hd : decode cc pc = .ok (.if_icmp .lt off, 3)) (ht : (pc : Int) + off = (tgt : Int)) (kt : x < y → V X cells slots n h tgt ls st) (kf : ¬ x < y → V X cells slots n h (pc + 3) ls st) : V X cells slots n h pc ls (.int y :: .int x :: st) := by
  obtain ⟨⟨p, l, e, R, s, m, args, below, meth, c⟩, Q, ⟨cl, tys, D, G, bs, b⟩⟩ := X
  obtain ⟨hx, hb, -⟩ := hC
  intro H locs real hR hS hl
  exact lv_icmp_lt hx hb hd ht (fun q => kt q H locs real hR hS hl) (fun q => kf q H locs real hR hS hl)
theorem V.if_ge (hC : tv_K X cc nL own Ts Ns CL TY rm) {x : Int32} {off : Int} {tgt : Nat} (hd : decode cc pc = .ok (.ifCond .ge off, 3)) (ht : (pc : Int) + off = (tgt : Int)) (kt : 0 ≤ x → V X cells slots n h tgt ls st) (kf : ¬ 0 ≤ x → V X cells slots n h (pc + 3) ls st) : V X cells slots n h pc ls (.int x :: st) := by
  obtain ⟨⟨p, l, e, R, s, m, args, below, meth, c⟩, Q, ⟨cl, tys, D, G, bs, b⟩⟩ := X
  obtain ⟨hx, hb, -⟩ := hC
  intro H locs real hR hS hl
  exact lv_if_ge hx hb hd ht (fun q => kt q H locs real hR hS hl) (fun q => kf q H locs real hR hS hl)
theorem V.icmp_ge (hC : tv_K X cc nL own Ts Ns CL TY rm) {x y : Int32} {off : Int} {tgt : Nat} (hd : decode cc pc = .ok (.if_icmp .ge off, 3)) (ht : (pc : Int) + off = (tgt : Int)) (kt : y ≤ x → V X cells slots n h tgt ls st) (kf : ¬ y ≤ x → V X cells slots n h (pc + 3) ls st) : V X cells slots n h pc ls (.int y :: .int x :: st) := by
  obtain ⟨⟨p, l, e, R, s, m, args, below, meth, c⟩, Q, ⟨cl, tys, D, G, bs, b⟩⟩ := X
  obtain ⟨hx, hb, -⟩ := hC
  intro H locs real hR hS hl
  exact lv_icmp_ge hx hb hd ht (fun q => kt q H locs real hR hS hl) (fun q => kf q H locs real hR hS hl)
theorem V.if_gt (hC : tv_K X cc nL own Ts Ns CL TY rm) {x : Int32} {off : Int} {tgt : Nat} (hd : decode cc pc = .ok (.ifCond .gt off, 3)) (ht : (pc : Int) + off = (tgt : Int)) (kt : 0 < x → V X cells slots n h tgt ls st) (kf : ¬ 0 < x → V X cells slots n h (pc + 3) ls st) : V X cells slots n h pc ls (.int x :: st) := by
  obtain ⟨⟨p, l, e, R, s, m, args, below, meth, c⟩, Q, ⟨cl, tys, D, G, bs, b⟩⟩ := X
  obtain ⟨hx, hb, -⟩ := hC
  intro H locs real hR hS hl
  exact lv_if_gt hx hb hd ht (fun q => kt q H locs real hR hS hl) (fun q => kf q H locs real hR hS hl)
theorem V.icmp_gt (hC : tv_K X cc nL own Ts Ns CL TY rm) {x y : Int32} {off : Int} {tgt : Nat} (hd : decode cc pc = .ok (.if_icmp .gt off, 3)) (ht : (pc : Int) + off = (tgt : Int)) (kt : y < x → V X cells slots n h tgt ls st) (kf : ¬ y < x → V X cells slots n h (pc + 3) ls st) : V X cells slots n h pc ls (.int y :: .int x :: st) := by
  obtain ⟨⟨p, l, e, R, s, m, args, below, meth, c⟩, Q, ⟨cl, tys, D, G, bs, b⟩⟩ := X
  obtain ⟨hx, hb, -⟩ := hC
  intro H locs real hR hS hl
  exact lv_icmp_gt hx hb hd ht (fun q => kt q H locs real hR hS hl) (fun q => kf q H locs real hR hS hl)
theorem V.if_le (hC : tv_K X cc nL own Ts Ns CL TY rm) {x : Int32} {off : Int} {tgt : Nat} (hd : decode cc pc = .ok (.ifCond .le off, 3)) (ht : (pc : Int) + off = (tgt : Int)) (kt : x ≤ 0 → V X cells slots n h tgt ls st) (kf : ¬ x ≤ 0 → V X cells slots n h (pc + 3) ls st) : V X cells slots n h pc ls (.int x :: st) := by
  obtain ⟨⟨p, l, e, R, s, m, args, below, meth, c⟩, Q, ⟨cl, tys, D, G, bs, b⟩⟩ := X
  obtain ⟨hx, hb, -⟩ := hC
  intro H locs real hR hS hl
  exact lv_if_le hx hb hd ht (fun q => kt q H locs real hR hS hl) (fun q => kf q H locs real hR hS hl)
theorem V.icmp_le (hC : tv_K X cc nL own Ts Ns CL TY rm) {x y : Int32} {off : Int} {tgt : Nat} (hd : decode cc pc = .ok (.if_icmp .le off, 3)) (ht : (pc : Int) + off = (tgt : Int)) (kt : x ≤ y → V X cells slots n h tgt ls st) (kf : ¬ x ≤ y → V X cells slots n h (pc + 3) ls st) : V X cells slots n h pc ls (.int y :: .int x :: st) := by
  obtain ⟨⟨p, l, e, R, s, m, args, below, meth, c⟩, Q, ⟨cl, tys, D, G, bs, b⟩⟩ := X
  obtain ⟨hx, hb, -⟩ := hC
  intro H locs real hR hS hl
  exact lv_icmp_le hx hb hd ht (fun q => kt q H locs real hR hS hl) (fun q => kf q H locs real hR hS hl)
theorem V.goto (hC : tv_K X cc nL own Ts Ns CL TY rm) {off : Int} {tgt : Nat} (hd : decode cc pc = .ok (.goto off, 3)) (ht : (pc : Int) + off = (tgt : Int)) (k : V X cells slots n h tgt ls st) : V X cells slots n h pc ls st := by
  obtain ⟨⟨p, l, e, R, s, m, args, below, meth, c⟩, Q, ⟨cl, tys, D, G, bs, b⟩⟩ := X
  obtain ⟨hx, hb, -⟩ := hC
  intro H locs real hR hS hl
  exact lv_goto hx hb hd ht (k H locs real hR hS hl)
theorem V.ifnonnull (hC : tv_K X cc nL own Ts Ns CL TY rm) {x : Nat} {off : Int} {tgt : Nat} (hd : decode cc pc = .ok (.ifnonnull off, 3)) (ht : (pc : Int) + off = (tgt : Int)) (k : V X cells slots n h tgt ls st) : V X cells slots n h pc ls (.ref x :: st) := by
  obtain ⟨⟨p, l, e, R, s, m, args, below, meth, c⟩, Q, ⟨cl, tys, D, G, bs, b⟩⟩ := X
  obtain ⟨hx, hb, -⟩ := hC
  intro H locs real hR hS hl
  exact lv_ifnonnull hx hb hd ht (k H locs real hR hS hl)
theorem V.ifnull (hC : tv_K X cc nL own Ts Ns CL TY rm) {x : Nat} {off : Int} (hd : decode cc pc = .ok (.ifnull off, 3)) (k : V X cells slots n h (pc + 3) ls st) : V X cells slots n h pc ls (.ref x :: st) := by
  obtain ⟨⟨p, l, e, R, s, m, args, below, meth, c⟩, Q, ⟨cl, tys, D, G, bs, b⟩⟩ := X
  obtain ⟨hx, hb, -⟩ := hC
  intro H locs real hR hS hl
  exact lv_ifnull hx hb hd (k H locs real hR hS hl)
theorem V.ifnullN (hC : tv_K X cc nL own Ts Ns CL TY rm) {off : Int} {tgt : Nat} (hd : decode cc pc = .ok (.ifnull off, 3)) (ht : (pc : Int) + off = (tgt : Int)) (k : V X cells slots n h tgt ls st) : V X cells slots n h pc ls (.null :: st) := by
  obtain ⟨⟨p, l, e, R, s, m, args, below, meth, c⟩, Q, ⟨cl, tys, D, G, bs, b⟩⟩ := X
  obtain ⟨hx, hb, -⟩ := hC
  intro H locs real hR hS hl
  exact lv_ifnullN hx hb hd ht (k H locs real hR hS hl)
theorem V.ifnonnullN (hC : tv_K X cc nL own Ts Ns CL TY rm) {off : Int} (hd : decode cc pc = .ok (.ifnonnull off, 3)) (k : V X cells slots n h (pc + 3) ls st) : V X cells slots n h pc ls (.null :: st) := by
  obtain ⟨⟨p, l, e, R, s, m, args, below, meth, c⟩, Q, ⟨cl, tys, D, G, bs, b⟩⟩ := X
  obtain ⟨hx, hb, -⟩ := hC
  intro H locs real hR hS hl
  exact lv_ifnonnullN hx hb hd (k H locs real hR hS hl)
theorem V.lookup (hC : tv_K X cc nL own Ts Ns CL TY rm) {dflt : Int} {ps : Array (Int × Int)} {len : Nat} {x : Int32} {off : Int} {tgt : Nat} (hd : decode cc pc = .ok (.lookupswitch dflt ps, len)) (hp : (ps.toList.zip (ps.toList.drop 1)).all (fun (a, next) => a.1 < next.1) = true) (ho : Op.lookupswitch.offset ps.toList dflt x.toInt = off) (ht : (pc : Int) + off = (tgt : Int)) (k : V X cells slots n h tgt ls st) : V X cells slots n h pc ls (.int x :: st) := by
  obtain ⟨⟨p, l, e, R, s, m, args, below, meth, c⟩, Q, ⟨cl, tys, D, G, bs, b⟩⟩ := X
  obtain ⟨hx, hb, -⟩ := hC
  intro H locs real hR hS hl
  exact lv_lookup hx hb hd hp ho ht (k H locs real hR hS hl)
theorem V.tableOut (hC : tv_K X cc nL own Ts Ns CL TY rm) {dflt lo hi : Int} {offs : Array Int} {len : Nat} {x : Int32} {tgt : Nat} (hd : decode cc pc = .ok (.tableswitch dflt lo hi offs, len)) (hq : x.toInt < lo ∨ hi < x.toInt) (ht : (pc : Int) + dflt = (tgt : Int)) (k : V X cells slots n h tgt ls st) : V X cells slots n h pc ls (.int x :: st) := by
  obtain ⟨⟨p, l, e, R, s, m, args, below, meth, c⟩, Q, ⟨cl, tys, D, G, bs, b⟩⟩ := X
  obtain ⟨hx, hb, -⟩ := hC
  intro H locs real hR hS hl
  exact lv_tableOut hx hb hd hq ht (k H locs real hR hS hl)
theorem V.tableIn (hC : tv_K X cc nL own Ts Ns CL TY rm) {dflt lo hi : Int} {offs : Array Int} {len : Nat} {x : Int32} {off : Int} {tgt : Nat} (hd : decode cc pc = .ok (.tableswitch dflt lo hi offs, len)) (h1 : ¬ x.toInt < lo) (h2 : ¬ hi < x.toInt) (ho : offs[(x.toInt - lo).toNat]? = some off) (ht : (pc : Int) + off = (tgt : Int)) (k : V X cells slots n h tgt ls st) : V X cells slots n h pc ls (.int x :: st) := by
  obtain ⟨⟨p, l, e, R, s, m, args, below, meth, c⟩, Q, ⟨cl, tys, D, G, bs, b⟩⟩ := X
  obtain ⟨hx, hb, -⟩ := hC
  intro H locs real hR hS hl
  exact lv_tableIn hx hb hd h1 h2 ho ht (k H locs real hR hS hl)
theorem V.ldc (hC : tv_K X cc nL own Ts Ns CL TY rm) {index : Nat} {v : Int32} (hw : Cond.constant own index v ∈ Ts) (hd : decode cc pc = .ok (.ldc index, 2)) (k : V X cells slots n h (pc + 2) ls (.int v :: st)) : V X cells slots n h pc ls st := by
  obtain ⟨⟨p, l, e, R, s, m, args, below, meth, c⟩, Q, ⟨cl, tys, D, G, bs, b⟩⟩ := X
  obtain ⟨hx, hb, -, hown, hts, -⟩ := hC
  intro H locs real hR hS hl
  exact lv_ldc hx hb hown (hts _ hw) hd (k H locs real hR hS hl)
theorem V.idiv (hC : tv_K X cc nL own Ts Ns CL TY rm) {x y : Int32} (hd : decode cc pc = .ok (.idiv, 1)) (hne : ¬ y = 0) (k : V X cells slots n h (pc + 1) ls (.int (x / y) :: st)) : V X cells slots n h pc ls (.int y :: .int x :: st) := by
  obtain ⟨⟨p, l, e, R, s, m, args, below, meth, c⟩, Q, ⟨cl, tys, D, G, bs, b⟩⟩ := X
  obtain ⟨hx, hb, -⟩ := hC
  intro H locs real hR hS hl
  exact lv_idiv hx hb hd hne (k H locs real hR hS hl)
theorem V.irem (hC : tv_K X cc nL own Ts Ns CL TY rm) {x y : Int32} (hd : decode cc pc = .ok (.irem, 1)) (hne : ¬ y = 0) (k : V X cells slots n h (pc + 1) ls (.int (x - x / y * y) :: st)) : V X cells slots n h pc ls (.int y :: .int x :: st) := by
  obtain ⟨⟨p, l, e, R, s, m, args, below, meth, c⟩, Q, ⟨cl, tys, D, G, bs, b⟩⟩ := X
  obtain ⟨hx, hb, -⟩ := hC
  intro H locs real hR hS hl
  exact lv_irem hx hb hd hne (k H locs real hR hS hl)
theorem V.mmax (hC : tv_K X cc nL own Ts Ns CL TY rm) (hn : ls.length = nL) {index : Nat} (hw : Cond.methodLink own index Lib.Math.max.name ∈ Ts ∧ Cond.static Lib.Math.max.name ∈ Ts ∧ Cond.initialized "java/lang/Math" ∈ Ts ∧ Cond.code Lib.Math.max.name Lib.Math.max.code 2 (some .int) ∈ Ts) (hr : 1 ≤ rm.frames ∧ (st.map fun v => v.category).sum + 13 ≤ rm.locals ∧ cells ≤ rm.cells ∧ slots ≤ rm.slots) {x y : Int32} (hd : decode cc pc = .ok (.invokestatic index, 3)) (k : V X cells slots n h (pc + 3) ls (.int (if x < y then y else x) :: st)) : V X cells slots n h pc ls (.int y :: .int x :: st) := by
  obtain ⟨⟨p, l, e, R, s, m, args, below, meth, c⟩, Q, ⟨cl, tys, D, G, bs, b⟩⟩ := X
  obtain ⟨hx, hb, hml, hown, hts, -, -, -, -, -, rfl, rfl, rfl⟩ := hC
  intro H locs real hR hS hl
  exact va_mmax hx hb (by rw [hml, ← hn, hl.1]) hown (hts _ hw.1) (hts _ hw.2.1) (hts _ hw.2.2.1) (hts _ hw.2.2.2) hr.1 (by rw [tv_v_sum]; exact hr.2.1) hr.2.2.1 hr.2.2.2 hd (k H locs real hR hS hl)
theorem V.mmin (hC : tv_K X cc nL own Ts Ns CL TY rm) (hn : ls.length = nL) {index : Nat} (hw : Cond.methodLink own index Lib.Math.min.name ∈ Ts ∧ Cond.static Lib.Math.min.name ∈ Ts ∧ Cond.initialized "java/lang/Math" ∈ Ts ∧ Cond.code Lib.Math.min.name Lib.Math.min.code 2 (some .int) ∈ Ts) (hr : 1 ≤ rm.frames ∧ (st.map fun v => v.category).sum + 13 ≤ rm.locals ∧ cells ≤ rm.cells ∧ slots ≤ rm.slots) {x y : Int32} (hd : decode cc pc = .ok (.invokestatic index, 3)) (k : V X cells slots n h (pc + 3) ls (.int (if y < x then y else x) :: st)) : V X cells slots n h pc ls (.int y :: .int x :: st) := by
  obtain ⟨⟨p, l, e, R, s, m, args, below, meth, c⟩, Q, ⟨cl, tys, D, G, bs, b⟩⟩ := X
  obtain ⟨hx, hb, hml, hown, hts, -, -, -, -, -, rfl, rfl, rfl⟩ := hC
  intro H locs real hR hS hl
  exact va_mmin hx hb (by rw [hml, ← hn, hl.1]) hown (hts _ hw.1) (hts _ hw.2.1) (hts _ hw.2.2.1) (hts _ hw.2.2.2) hr.1 (by rw [tv_v_sum]; exact hr.2.1) hr.2.2.1 hr.2.2.2 hd (k H locs real hR hS hl)
end TVC
end
section
/-! rows over V: fields and arrays -/
/-- a field that an instruction names: the place idx of own's pool is slot k of the class ci -/
def tv_F (Ts Ns : List Cond) (CL : List vw_C) (own : String) (idx ci k : Nat) (C : String) (T : u_T) (N : Nat) : Prop :=
  CL[ci]? = some (C, T, N) ∧ k < N ∧ (∀ w ∈ u_ws C T N, w ∈ Ts) ∧ (Cond.fieldLink own idx (T k).1 (T k).2.1 (T k).2.2.1 ∈ Ts ∨ ∃ host, Cond.fieldLinkNest own idx (T k).1 (T k).2.1 (T k).2.2.1 host ∈ Ns)
theorem tv_rf (bs b : Nat) (r : Option Nat) : tv_v bs b (va_rf r) = va_rf (r.map (tv_r bs b)) := by cases r <;> rfl
theorem tv_sc {bs a : Nat} {h : Nat → tv_C} {s : State} {H H1 : Heap} {x : tv_C} (ha : 0 < a) (hs : ∀ (L : Nat) (xs : Nat → Int32), h 0 = .inl (0, (L, .inl xs)) → va_X bs L xs s H) (hk : H1[bs]? = H[bs]?) : ∀ (L : Nat) (xs : Nat → Int32), va_up h a x 0 = .inl (0, (L, .inl xs)) → va_X bs L xs s H1 := by
  intro L xs h0
  rw [va_up_ne _ _ (by omega)] at h0
  exact (hs L xs h0).kept hk
section TVH
variable {X : tv_X} {cells slots n : Nat} {h : Nat → tv_C} {pc : Nat} {ls : List (Option Value)} {st : List Value} {cc : ByteArray} {nL : Nat} {own : String} {Ts Ns : List Cond} {CL : List vw_C} {TY : List FieldType} {rm : Room}
theorem V.getf (hC : tv_K X cc nL own Ts Ns CL TY rm) {idx ci k a : Nat} {C : String} {T : u_T} {N : Nat} {fs : List Value} {v : Value} (hF : tv_F Ts Ns CL own idx ci k C T N) (ha : 0 < a ∧ a ≤ n) (hh : h a = .inr (ci, fs)) (hv : fs[k]? = some v) (hd : decode cc pc = .ok (.getfield idx, 3)) (kk : V X cells slots n h (pc + 3) ls (v :: st)) : V X cells slots n h pc ls (.ref a :: st) := by
  obtain ⟨⟨p, l, e, R, s, m, args, below, meth, c⟩, Q, ⟨cl, tys, D, G, bs, b⟩⟩ := X
  obtain ⟨hx, hb, hml, hown, hts, hns, hK, hlk, hbs, hbz, rfl, rfl, rfl⟩ := hC
  obtain ⟨hc, hk, hin, hlink⟩ := hF
  obtain ⟨a, rfl⟩ : ∃ a', a = a' + 1 := ⟨a - 1, by omega⟩
  intro H locs real hR hS hl
  have he : (tv_W G bs b n h)[a]? = some (b + a, .inr (ci, fs.map (tv_v bs b))) := by rw [tv_W_at (by omega), hh]; rfl
  have hv' : (fs.map (tv_v bs b))[k]? = some (tv_v bs b v) := by rw [List.getElem?_map, hv]; rfl
  rcases hlink with hw | ⟨host, hw⟩
  · exact va_get hx hb hts hin hown hK hR.2.1 a he hc k hk (hts _ hw) (fun _ h9 => h9) hv' hd (kk H locs real hR hS hl)
  · exact va_getN hx hb hts hin hown hK hR.2.1 a he hc k hk (va_Nw.use rfl (hns _ hw)) (fun _ h9 => h9) hv' hd (kk H locs real hR hS hl)
theorem V.putf (hC : tv_K X cc nL own Ts Ns CL TY rm) {idx ci k a : Nat} {C : String} {T : u_T} {N : Nat} {fs : List Value} {v : Value} {ty : FieldType} (hF : tv_F Ts Ns CL own idx ci k C T N) (tyT : Nat → FieldType) (hty : ∀ k, k < N → parseFieldDescriptor (T k).2.2.1 = some (tyT k)) (hnm : ∀ a, a < N → ∀ b, b < N → a ≠ b → (T a).2.1 ≠ (T b).2.1) (hfin : (T k).2.2.2 = false) (hds : parseFieldDescriptor (T k).2.2.1 = some ty) (hfit : ∀ bs b, narrow ty (tv_v bs b v) = tv_v bs b v ∧ fits ty (tv_v bs b v) = true) (ha : 0 < a ∧ a ≤ n) (hh : h a = .inr (ci, fs)) (hlen : k < fs.length) (hd : decode cc pc = .ok (.putfield idx, 3)) (kk : V X cells slots n (va_up h a (.inr (ci, fs.set k v))) (pc + 3) ls st) : V X cells slots n h pc ls (v :: .ref a :: st) := by
  obtain ⟨⟨p, l, e, R, s, m, args, below, meth, c⟩, Q, ⟨cl, tys, D, G, bs, b⟩⟩ := X
  obtain ⟨hx, hb, hml, hown, hts, hns, hK, hlk, hbs, hbz, rfl, rfl, rfl⟩ := hC
  obtain ⟨hc, hk, hin, hlink⟩ := hF
  obtain ⟨a, rfl⟩ : ∃ a', a = a' + 1 := ⟨a - 1, by omega⟩
  intro H locs real hR hS hl
  have he : (tv_W G bs b n h)[a]? = some (b + a, .inr (ci, fs.map (tv_v bs b))) := by rw [tv_W_at (by omega), hh]; rfl
  have hap := va_apart (own := own) hts hin tyT hty hnm hK hc
  obtain ⟨r, h1, cell, q1, q2, q3, q4⟩ := hR.2.1 a _ he
  have hr : r = (C, T, N) := Option.some.inj (h1.symm.trans hc)
  subst hr
  obtain ⟨hSl, hfc, kC, hkC, hkind⟩ := hK.1 ci _ hc
  obtain ⟨cf, kf, fi, f, hi, hsl⟩ := hSl k hk
  have hlay := hts _ (hin _ (u_in_lay hk))
  unfold u_lay at hlay
  rw [if_neg (by rw [hfin]; decide)] at hlay
  have hst := (u_facts hfc hkC (u_lays hts hin hk) hi).1
  have h6 := u_store hfc hkC hkind hlay hi hds (hfit bs b).1 (hfit bs b).2
  have fin : ∀ H1 : Heap, H1[b + a]? = some (cell.setSlot f.slot (tv_v bs b v)) → H1.size = H.size → (∀ q, q ≠ b + a → H1[q]? = H[q]?) → W p l e R s m args below meth c H1 (locs ++ [⟨b + a, f.slot⟩]) cells slots Q (F0 m (pc + 3) real (st.map (tv_v bs b))) := by
    intro H1 e1 e2 e3
    rw [hsl] at e1 ⊢
    refine kk H1 _ real ⟨e2.trans hR.1, ?_, tv_sc (by omega) hR.2.2 (e3 bs (by omega))⟩ (hS.put e2 e3 (Nat.le_add_right _ _)) hl
    have hm : tv_E G bs b (.inr (ci, fs.set k v)) = .inr (ci, (fs.map (tv_v bs b)).set k (tv_v bs b v)) := by
      show (Sum.inr (ci, (fs.set k v).map (tv_v bs b)) : va_E) = _
      rw [List.map_set]
    rw [← tv_W_set (by omega), hm]
    exact hR.2.1.set (tv_D G bs b n h) he ⟨_, hc, t_OB.to (V := updV (vp_V (fs.map (tv_v bs b))) k (tv_v bs b v)) ⟨_, e1, q2, q3, t_set q4 hap hk _⟩ (fun j _ => vp_updV_set (by rw [List.length_map]; exact hlen) _ j)⟩ e3
  rcases hlink with hw | ⟨host, hw⟩
  · exact W.putK hx hb (f := f) ⟨hown, hts _ hw, ⟨_, _, _, hi⟩, hst⟩ (by rw [q2]; exact h6) q1 q3 (by rw [hsl]; exact k2_hasslot (q4 k hk)) rfl rfl hd fin
  · exact va_WputK hx hb (f := f) hown (va_Nw.use rfl (hns _ hw)) hi hst (by rw [q2]; exact h6) q1 q3 (by rw [hsl]; exact k2_hasslot (q4 k hk)) rfl rfl hd fin
def tv_nm (X : tv_X) : String := match X with
  | ((p, l, e, R, s, m, args, below, meth, c), Q, (cl, tys, D, G, bs, b)) => meth.name
/-- a final field, in the constructor of its class -/
theorem V.putF (hC : tv_K X cc nL own Ts Ns CL TY rm) (hinit : tv_nm X = "<init>") {idx ci k a : Nat} {C : String} {T : u_T} {N : Nat} {fs : List Value} {v : Value} {ty : FieldType} (hF : CL[ci]? = some (C, T, N) ∧ k < N ∧ (∀ w ∈ u_ws C T N, w ∈ Ts) ∧ Cond.fieldLink own idx (T k).1 (T k).2.1 (T k).2.2.1 ∈ Ts) (tyT : Nat → FieldType) (hty : ∀ k, k < N → parseFieldDescriptor (T k).2.2.1 = some (tyT k)) (hnm : ∀ a, a < N → ∀ b, b < N → a ≠ b → (T a).2.1 ≠ (T b).2.1) (hfin : (T k).2.2.2 = true) (hdecl : (T k).1 = own) (hds : parseFieldDescriptor (T k).2.2.1 = some ty) (hfit : ∀ bs b, narrow ty (tv_v bs b v) = tv_v bs b v ∧ fits ty (tv_v bs b v) = true) (ha : 0 < a ∧ a ≤ n) (hh : h a = .inr (ci, fs)) (hlen : k < fs.length) (hd : decode cc pc = .ok (.putfield idx, 3)) (kk : V X cells slots n (va_up h a (.inr (ci, fs.set k v))) (pc + 3) ls st) : V X cells slots n h pc ls (v :: .ref a :: st) := by
  obtain ⟨⟨p, l, e, R, s, m, args, below, meth, c⟩, Q, ⟨cl, tys, D, G, bs, b⟩⟩ := X
  obtain ⟨hx, hb, hml, hown, hts, hns, hK, hlk, hbs, hbz, rfl, rfl, rfl⟩ := hC
  obtain ⟨hc, hk, hin, hw⟩ := hF
  obtain ⟨a, rfl⟩ : ∃ a', a = a' + 1 := ⟨a - 1, by omega⟩
  intro H locs real hR hS hl
  have he : (tv_W G bs b n h)[a]? = some (b + a, .inr (ci, fs.map (tv_v bs b))) := by rw [tv_W_at (by omega), hh]; rfl
  have hap := va_apart (own := own) hts hin tyT hty hnm hK hc
  obtain ⟨r, h1, cell, q1, q2, q3, q4⟩ := hR.2.1 a _ he
  have hr : r = (C, T, N) := Option.some.inj (h1.symm.trans hc)
  subst hr
  obtain ⟨hSl, hfc, kC, hkC, hkind⟩ := hK.1 ci _ hc
  obtain ⟨cf, kf, fi, f, hi, hsl⟩ := hSl k hk
  have hlay := hts _ (hin _ (u_in_lay hk))
  unfold u_lay at hlay
  rw [if_pos hfin] at hlay
  have hst := (u_facts hfc hkC (u_lays hts hin hk) hi).1
  have hcf : m.cls = cf := by
    obtain ⟨_, _, c2, _, _, _, -, -, hf2, -, -, -, hown2, -⟩ := Cond.laysFinal_spec hlay
    have e1 : c2 = cf := by have := hi.symm.trans hf2; simp at this; exact this.1.symm
    rw [hdecl] at hown2
    rw [← e1]; exact Option.some.inj (hown.symm.trans hown2)
  have h6 := u_fits hfc hkC hkind (Or.inr hlay) hi hds (hfit bs b).1 (hfit bs b).2
  refine W.putFinK hx hb hown (hts _ hw) hi hst hcf hinit (by rw [q2]; exact h6) q1 q3 (by rw [hsl]; exact k2_hasslot (q4 k hk)) rfl rfl hd fun H1 e1 e2 e3 => ?_
  have e3 : ∀ q : Nat, q ≠ b + a → H1[q]? = H[q]? := e3
  rw [hsl] at e1 ⊢
  refine kk H1 _ real ⟨e2.trans hR.1, ?_, tv_sc (by omega) hR.2.2 (e3 bs (by omega))⟩ (hS.put e2 e3 (Nat.le_add_right _ _)) hl
  have hm : tv_E G bs b (.inr (ci, fs.set k v)) = .inr (ci, (fs.map (tv_v bs b)).set k (tv_v bs b v)) := by
    show (Sum.inr (ci, (fs.set k v).map (tv_v bs b)) : va_E) = _
    rw [List.map_set]
  rw [← tv_W_set (by omega), hm]
  exact hR.2.1.set (tv_D G bs b n h) he ⟨_, hc, t_OB.to (V := updV (vp_V (fs.map (tv_v bs b))) k (tv_v bs b v)) ⟨_, e1, q2, q3, t_set q4 hap hk _⟩ (fun j _ => vp_updV_set (by rw [List.length_map]; exact hlen) _ j)⟩ e3
theorem V.iald (hC : tv_K X cc nL own Ts Ns CL TY rm) {t a len : Nat} {f : Nat → Int32} {i : Int32} (ha : 0 < a ∧ a ≤ n) (hh : h a = .inl (t, (len, .inl f))) (ht : TY[t]? = some .int) (hin : vp_in i len) (hd : decode cc pc = .ok (.iaload, 1)) (kk : V X cells slots n h (pc + 1) ls (.int (f i.toNatClampNeg) :: st)) : V X cells slots n h pc ls (.int i :: .ref a :: st) := by
  obtain ⟨⟨p, l, e, R, s, m, args, below, meth, c⟩, Q, ⟨cl, tys, D, G, bs, b⟩⟩ := X
  obtain ⟨hx, hb, hml, hown, hts, hns, hK, hlk, hbs, hbz, rfl, rfl, rfl⟩ := hC
  obtain ⟨a, rfl⟩ : ∃ a', a = a' + 1 := ⟨a - 1, by omega⟩
  intro H locs real hR hS hl
  have he : (tv_W G bs b n h)[a]? = some (b + a, .inl (G t, (len, .inl f))) := by rw [tv_W_at (by omega), hh]; rfl
  exact va_iald hx hb hK hR.2.1 a t he (tv_T_at ht) hin hd (kk H locs real hR hS hl)
theorem V.zald (hC : tv_K X cc nL own Ts Ns CL TY rm) {t a len : Nat} {f : Nat → Int32} {i : Int32} (ha : 0 < a ∧ a ≤ n) (hh : h a = .inl (t, (len, .inl f))) (ht : TY[t]? = some .boolean) (hin : vp_in i len) (hd : decode cc pc = .ok (.baload, 1)) (kk : V X cells slots n h (pc + 1) ls (.int (f i.toNatClampNeg) :: st)) : V X cells slots n h pc ls (.int i :: .ref a :: st) := by
  obtain ⟨⟨p, l, e, R, s, m, args, below, meth, c⟩, Q, ⟨cl, tys, D, G, bs, b⟩⟩ := X
  obtain ⟨hx, hb, hml, hown, hts, hns, hK, hlk, hbs, hbz, rfl, rfl, rfl⟩ := hC
  obtain ⟨a, rfl⟩ : ∃ a', a = a' + 1 := ⟨a - 1, by omega⟩
  intro H locs real hR hS hl
  have he : (tv_W G bs b n h)[a]? = some (b + a, .inl (G t, (len, .inl f))) := by rw [tv_W_at (by omega), hh]; rfl
  exact va_zald hx hb hK hR.2.1 a t he (tv_T_at ht) hin hd (kk H locs real hR hS hl)
/-- the script's own ints -/
theorem V.sld (hC : tv_K X cc nL own Ts Ns CL TY rm) {L : Nat} {xs : Nat → Int32} {i : Int32} (hh : h 0 = .inl (0, (L, .inl xs))) (hin : vp_in i L) (hd : decode cc pc = .ok (.iaload, 1)) (kk : V X cells slots n h (pc + 1) ls (.int (xs i.toNatClampNeg) :: st)) : V X cells slots n h pc ls (.int i :: .ref 0 :: st) := by
  obtain ⟨⟨p, l, e, R, s, m, args, below, meth, c⟩, Q, ⟨cl, tys, D, G, bs, b⟩⟩ := X
  obtain ⟨hx, hb, -⟩ := hC
  intro H locs real hR hS hl
  obtain ⟨scr, h1, h2, h3, h4, h5⟩ := hR.2.2 L xs hh
  have hlt : i.toNatClampNeg < L := Nat.not_le.mp fun q => hin (Or.inr q)
  exact W.iald (v := .int (xs i.toNatClampNeg)) hx hb h1 h2 h3 (by rw [h4]; exact hin) (h5 _ hlt) rfl rfl hd (kk H locs real hR hS hl)
theorem V.slen (hC : tv_K X cc nL own Ts Ns CL TY rm) {L : Nat} {xs : Nat → Int32} (hh : h 0 = .inl (0, (L, .inl xs))) (hd : decode cc pc = .ok (.arraylength, 1)) (kk : V X cells slots n h (pc + 1) ls (.int (Int32.ofNat L) :: st)) : V X cells slots n h pc ls (.ref 0 :: st) := by
  obtain ⟨⟨p, l, e, R, s, m, args, below, meth, c⟩, Q, ⟨cl, tys, D, G, bs, b⟩⟩ := X
  obtain ⟨hx, hb, -⟩ := hC
  intro H locs real hR hS hl
  obtain ⟨scr, h1, h2, h3, h4, h5⟩ := hR.2.2 L xs hh
  exact W.alen (n := Int32.ofNat L) hx hb h1 h2 (by rw [h4] <;> rfl) rfl rfl hd (kk H locs real hR hS hl)
theorem V.alen (hC : tv_K X cc nL own Ts Ns CL TY rm) {t a : Nat} {x : vp_A} {ty : FieldType} (ha : 0 < a ∧ a ≤ n) (hh : h a = .inl (t, x)) (ht : TY[t]? = some ty) (hd : decode cc pc = .ok (.arraylength, 1)) (kk : V X cells slots n h (pc + 1) ls (.int (Int32.ofNat x.1) :: st)) : V X cells slots n h pc ls (.ref a :: st) := by
  obtain ⟨⟨p, l, e, R, s, m, args, below, meth, c⟩, Q, ⟨cl, tys, D, G, bs, b⟩⟩ := X
  obtain ⟨hx, hb, hml, hown, hts, hns, hK, hlk, hbs, hbz, rfl, rfl, rfl⟩ := hC
  obtain ⟨a, rfl⟩ : ∃ a', a = a' + 1 := ⟨a - 1, by omega⟩
  intro H locs real hR hS hl
  have he : (tv_W G bs b n h)[a]? = some (b + a, .inl (G t, tv_A bs b x)) := by rw [tv_W_at (by omega), hh]; rfl
  exact va_alen hx hb hK hR.2.1 a t he (tv_T_at ht) rfl hd (kk H locs real hR hS hl)
theorem V.iast (hC : tv_K X cc nL own Ts Ns CL TY rm) {t a len : Nat} {f : Nat → Int32} {i x : Int32} (ha : 0 < a ∧ a ≤ n) (hh : h a = .inl (t, (len, .inl f))) (ht : TY[t]? = some .int) (hin : vp_in i len) (hd : decode cc pc = .ok (.iastore, 1)) (kk : V X cells slots n (va_up h a (.inl (t, (len, .inl (upd f i.toNatClampNeg x))))) (pc + 1) ls st) : V X cells slots n h pc ls (.int x :: .int i :: .ref a :: st) := by
  obtain ⟨⟨p, l, e, R, s, m, args, below, meth, c⟩, Q, ⟨cl, tys, D, G, bs, b⟩⟩ := X
  obtain ⟨hx, hb, hml, hown, hts, hns, hK, hlk, hbs, hbz, rfl, rfl, rfl⟩ := hC
  obtain ⟨a, rfl⟩ : ∃ a', a = a' + 1 := ⟨a - 1, by omega⟩
  intro H locs real hR hS hl
  have he : (tv_W G bs b n h)[a]? = some (b + a, .inl (G t, (len, .inl f))) := by rw [tv_W_at (by omega), hh]; rfl
  refine W.iast hx hb (hR.2.1 a _ he) ((hK.2 t _ (tv_T_at ht)).1 len (fun j => .int (f j))) (fun q => by cases q) (by show ¬ (i < 0 ∨ (arrV _ _ _).slots.size ≤ _); rw [arrV_size]; exact hin) rfl rfl hd fun H1 e1 e2 e3 => ?_
  have e3 : ∀ q : Nat, q ≠ b + a → H1[q]? = H[q]? := e3
  refine kk H1 _ real ⟨e2.trans hR.1, ?_, tv_sc (by omega) hR.2.2 (e3 bs (by omega))⟩ (hS.put e2 e3 (Nat.le_add_right _ _)) hl
  rw [← tv_W_set (by omega)]
  refine hR.2.1.set (tv_D G bs b n h) he ?_ e3
  show H1[b + a]? = some (vp_cell _ _)
  rw [e1]
  show some ((vp_cell _ (len, .inl f)).setSlot _ _) = some (vp_cell _ (len, .inl _))
  rw [vp_cell_i, vp_cell_i, arrV_store]
  congr 2
  funext q
  by_cases hq : q = i.toNatClampNeg
  · subst hq
    simp [updV, upd]
  · simp [updV, upd, hq]
theorem V.zast (hC : tv_K X cc nL own Ts Ns CL TY rm) {t a len : Nat} {f : Nat → Int32} {i x : Int32} (ha : 0 < a ∧ a ≤ n) (hh : h a = .inl (t, (len, .inl f))) (ht : TY[t]? = some .boolean) (hin : vp_in i len) (hz : x = 0 ∨ x = 1) (hd : decode cc pc = .ok (.bastore, 1)) (kk : V X cells slots n (va_up h a (.inl (t, (len, .inl (upd f i.toNatClampNeg x))))) (pc + 1) ls st) : V X cells slots n h pc ls (.int x :: .int i :: .ref a :: st) := by
  obtain ⟨⟨p, l, e, R, s, m, args, below, meth, c⟩, Q, ⟨cl, tys, D, G, bs, b⟩⟩ := X
  obtain ⟨hx, hb, hml, hown, hts, hns, hK, hlk, hbs, hbz, rfl, rfl, rfl⟩ := hC
  obtain ⟨a, rfl⟩ : ∃ a', a = a' + 1 := ⟨a - 1, by omega⟩
  intro H locs real hR hS hl
  have he : (tv_W G bs b n h)[a]? = some (b + a, .inl (G t, (len, .inl f))) := by rw [tv_W_at (by omega), hh]; rfl
  refine W.zast hx hb (hR.2.1 a _ he) ((hK.2 t _ (tv_T_at ht)).1 len (fun j => .int (f j))) (fun q => by cases q) (by show ¬ (i < 0 ∨ (arrV _ _ _).slots.size ≤ _); rw [arrV_size]; exact hin) rfl rfl hd fun H1 e1 e2 e3 => ?_
  have e3 : ∀ q : Nat, q ≠ b + a → H1[q]? = H[q]? := e3
  refine kk H1 _ real ⟨e2.trans hR.1, ?_, tv_sc (by omega) hR.2.2 (e3 bs (by omega))⟩ (hS.put e2 e3 (Nat.le_add_right _ _)) hl
  rw [← tv_W_set (by omega)]
  refine hR.2.1.set (tv_D G bs b n h) he ?_ e3
  show H1[b + a]? = some (vp_cell _ _)
  rw [e1]
  show some ((vp_cell _ (len, .inl f)).setSlot _ _) = some (vp_cell _ (len, .inl _))
  rw [vp_cell_i, vp_cell_i, arrV_store]
  congr 2
  funext q
  by_cases hq : q = i.toNatClampNeg
  · subst hq
    have hn : narrow .boolean (.int x) = .int x := by rcases hz with rfl | rfl <;> decide
    simp [updV, upd, hn]
  · simp [updV, upd, hq]
theorem V.aald (hC : tv_K X cc nL own Ts Ns CL TY rm) {t a len : Nat} {f : Nat → Option Nat} {i : Int32} {ty : FieldType} (ha : 0 < a ∧ a ≤ n) (hh : h a = .inl (t, (len, .inr (.inr (.inr (.inr f)))))) (ht : TY[t]? = some ty) (href : ty.isReference = true) (hin : vp_in i len) (hd : decode cc pc = .ok (.aaload, 1)) (kk : V X cells slots n h (pc + 1) ls (va_rf (f i.toNatClampNeg) :: st)) : V X cells slots n h pc ls (.int i :: .ref a :: st) := by
  obtain ⟨⟨p, l, e, R, s, m, args, below, meth, c⟩, Q, ⟨cl, tys, D, G, bs, b⟩⟩ := X
  obtain ⟨hx, hb, hml, hown, hts, hns, hK, hlk, hbs, hbz, rfl, rfl, rfl⟩ := hC
  obtain ⟨a, rfl⟩ : ∃ a', a = a' + 1 := ⟨a - 1, by omega⟩
  intro H locs real hR hS hl
  have he : (tv_W G bs b n h)[a]? = some (b + a, .inl (G t, (len, .inr (.inr (.inr (.inr (fun j => (f j).map (tv_r bs b)))))))) := by rw [tv_W_at (by omega), hh]; rfl
  have hlt : i.toNatClampNeg < len := Nat.not_le.mp fun q => hin (Or.inr q)
  have k1 := kk H locs real hR hS hl
  rw [List.map_cons, tv_rf] at k1
  exact W.aald (v := va_rf ((f i.toNatClampNeg).map (tv_r bs b))) (ty := ty) hx hb (hR.2.1 a _ he) ((hK.2 t _ (tv_T_at ht)).1 len (fun j => va_rf ((f j).map (tv_r bs b)))) href (fun q => by cases q) (by show ¬ (i < 0 ∨ (arrV _ _ _).slots.size ≤ _); rw [arrV_size]; exact hin) (by show (arrV _ _ _).slots[_]? = _; rw [arrV_read _ _ hlt]) rfl rfl hd k1
theorem V.aast (hC : tv_K X cc nL own Ts Ns CL TY rm) {t a len ci v : Nat} {f : Nat → Option Nat} {i : Int32} {r : vw_C} {vs : List Value} (ht : TY[t]? = some (.object r.1)) (hcl : CL[ci]? = some r) (ha : 0 < a ∧ a ≤ n) (hh : h a = .inl (t, (len, .inr (.inr (.inr (.inr f)))))) (hv : 0 < v ∧ v ≤ n) (hhv : h v = .inr (ci, vs)) (hin : vp_in i len) (hd : decode cc pc = .ok (.aastore, 1)) (kk : V X cells slots n (va_up h a (.inl (t, (len, .inr (.inr (.inr (.inr (va_up f i.toNatClampNeg (some v))))))))) (pc + 1) ls st) : V X cells slots n h pc ls (.ref v :: .int i :: .ref a :: st) := by
  obtain ⟨⟨p, l, e, R, s, m, args, below, meth, c⟩, Q, ⟨cl, tys, D, G, bs, b⟩⟩ := X
  obtain ⟨hx, hb, hml, hown, hts, hns, hK, hlk, hbs, hbz, rfl, rfl, rfl⟩ := hC
  obtain ⟨a, rfl⟩ : ∃ a', a = a' + 1 := ⟨a - 1, by omega⟩
  obtain ⟨v, rfl⟩ : ∃ a', v = a' + 1 := ⟨v - 1, by omega⟩
  intro H locs real hR hS hl
  have he : (tv_W G bs b n h)[a]? = some (b + a, .inl (G t, (len, .inr (.inr (.inr (.inr (fun j => (f j).map (tv_r bs b)))))))) := by rw [tv_W_at (by omega), hh]; rfl
  have hev : (tv_W G bs b n h)[v]? = some (b + v, .inr (ci, vs.map (tv_v bs b))) := by rw [tv_W_at (by omega), hhv]; rfl
  have hlt : i.toNatClampNeg < len := Nat.not_le.mp fun q => hin (Or.inr q)
  have h0 : ¬ i < 0 := fun q => hin (Or.inl q)
  obtain ⟨r2, hr2, cellV, g1, g2, g3, -⟩ := hR.2.1 v _ hev
  have hcls := (hK.1 ci r hcl).2
  obtain ⟨kA, comp, k1, k2, k3, -⟩ := (hK.2 t _ (tv_T_at ht)).2
  have hcomp : comp = D.1 ci := Option.some.inj (k3.symm.trans hcls.1)
  subst hcomp
  obtain ⟨kC, hkC, -⟩ := hcls.2
  refine W.aast hx hb (hR.2.1 a _ he) (fun q h => by cases h) (fun h => by cases h) k1 k2 rfl hkC ⟨h0, by show _ < (arrV _ _ _).slots.size; rw [arrV_size]; exact hlt⟩ g1 (fun q h => by rw [g3] at h; cases h) (by rw [g2]; exact hkC) (by rw [g2]; exact va_assign hcls) rfl rfl hd fun H1 e1 e2 e3 => ?_
  have e3 : ∀ q : Nat, q ≠ b + a → H1[q]? = H[q]? := e3
  refine kk H1 _ real ⟨e2.trans hR.1, ?_, tv_sc (by omega) hR.2.2 (e3 bs (by omega))⟩ (hS.put e2 e3 (Nat.le_add_right _ _)) hl
  rw [← tv_W_set (by omega)]
  refine hR.2.1.set (tv_D G bs b n h) he ?_ e3
  show H1[b + a]? = some (vp_cell _ _)
  rw [e1]
  show some ((vp_cell _ (len, .inr (.inr (.inr (.inr _))))).setSlot _ _) = some (vp_cell _ (len, .inr (.inr (.inr (.inr _)))))
  rw [vp_cell_q, vp_cell_q, arrV_store]
  congr 2
  funext q
  by_cases hq : q = i.toNatClampNeg
  · subst hq
    simp [updV, va_up, va_rf, tv_r]
  · simp [updV, va_up, hq]
end TVH
end
section
/-! rows over V: new cells -/
section TVN
variable {X : tv_X} {cells slots n : Nat} {h : Nat → tv_C} {pc : Nat} {ls : List (Option Value)} {st : List Value} {cc : ByteArray} {nL : Nat} {own : String} {Ts Ns : List Cond} {CL : List vw_C} {TY : List FieldType} {rm : Room}
/-- a cell more at the heap's end -/
theorem tv_more {cl : List vw_C} {D : va_G} {G : Nat → ClassId} {bs b n : Nat} {h : Nat → tv_C} {s : State} {H H1 : Heap} {x : tv_C} (hbs : bs < b) (hR : tv_R cl D G bs b n h s H) (he : va_at D cl (b + n, tv_E G bs b x) H1) (hz : H1.size = b + n + 1) (ho : ∀ q, q < b + n → H1[q]? = H[q]?) : tv_R cl D G bs b (n + 1) (va_up h (n + 1) x) s H1 := by
  refine ⟨hz, ?_, tv_sc (by omega) hR.2.2 (ho bs (by omega))⟩
  rw [← tv_W_push]
  refine (hR.2.1.kept (fun k q hq => ho q.1 ?_)).app (fun k q hq => ?_)
  · have := (hR.2.1 k q hq).lt
    rw [hR.1] at this
    exact this
  · have hk : k < 1 := (List.getElem?_eq_some_iff.mp hq).1
    obtain rfl : k = 0 := by omega
    cases hq
    exact he
theorem tv_S_more {A : Nat → Prop} {H0 H H1 : Heap} {locs : List Loc} {k : Nat} (hS : va_S A H0 H locs) (hk : H.size = k) (hz : H1.size = k + 1) (ho : ∀ q, q < k → H1[q]? = H[q]?) : va_S A H0 H1 locs := by
  subst hk
  exact ⟨Nat.le_trans hS.1 (by omega), fun q h1 h2 => (ho q (Nat.lt_of_lt_of_le h1 hS.1)).trans (hS.2.1 q h1 h2), hS.2.2⟩
theorem V.new (hC : tv_K X cc nL own Ts Ns CL TY rm) {idx ci : Nat} {C : String} {T : u_T} {N : Nat} {fs : List Value} (tyT : Nat → FieldType) (hty : ∀ k, k < N → parseFieldDescriptor (T k).2.2.1 = some (tyT k)) (hc : CL[ci]? = some (C, T, N)) (hin : ∀ w ∈ u_ws C T N, w ∈ Ts) (hw : Cond.classLink own idx C ∈ Ts ∧ Cond.instantiable C N ∈ Ts ∧ Cond.initialized C ∈ Ts) (hfs : ∀ bs b j, j < N → defaultValue (tyT j) = vp_V (fs.map (tv_v bs b)) j) (hrm : cells + 1 ≤ rm.cells ∧ slots + N ≤ rm.slots) (hd : decode cc pc = .ok (.new idx, 3)) (kk : V X (cells + 1) (slots + N) (n + 1) (va_up h (n + 1) (.inr (ci, fs))) (pc + 3) ls (.ref (n + 1) :: st)) : V X cells slots n h pc ls st := by
  obtain ⟨⟨p, l, e, R, s, m, args, below, meth, c⟩, Q, ⟨cl, tys, D, G, bs, b⟩⟩ := X
  obtain ⟨hx, hb, hml, hown, hts, hns, hK, hlk, hbs, hbz, rfl, rfl, rfl⟩ := hC
  intro H locs real hR hS hl
  have hKn := hK.1 ci _ hc
  refine W.newcK hx hb hown (hts _ hw.1) (hts _ hw.2.1) (hts _ hw.2.2) rfl hd hrm.1 hrm.2 hKn.2.1 hR.1 fun H1 kC hkC e1 z1 o1 => ?_
  exact kk H1 locs real (tv_more hbs hR ⟨_, hc, (u_born tyT hts hin hKn hkC e1 hty).to (hfs bs b)⟩ z1 o1) (tv_S_more hS hR.1 z1 o1) hl
theorem V.newi (hC : tv_K X cc nL own Ts Ns CL TY rm) {t N : Nat} {k : Int32} (ht : TY[t]? = some .int) (hw : Cond.arrayClass .int ∈ Ts) (hk : ¬ k < 0) (hN : k.toNatClampNeg = N) (hby : N * 4 ≤ 536870912) (hrm : cells + 1 ≤ rm.cells ∧ slots + N ≤ rm.slots) (hd : decode cc pc = .ok (.newarray .int, 2)) (kk : V X (cells + 1) (slots + N) (n + 1) (va_up h (n + 1) (.inl (t, (N, .inl (fun _ => 0))))) (pc + 2) ls (.ref (n + 1) :: st)) : V X cells slots n h pc ls (.int k :: st) := by
  obtain ⟨⟨p, l, e, R, s, m, args, below, meth, c⟩, Q, ⟨cl, tys, D, G, bs, b⟩⟩ := X
  obtain ⟨hx, hb, hml, hown, hts, hns, hK, hlk, hbs, hbz, rfl, rfl, rfl⟩ := hC
  intro H locs real hR hS hl
  refine va_newaK hx hb (atype := .int) (hts _ hw) rfl hd rfl hk hN hby hrm.1 hrm.2 hR.1 fun H1 cA e1 z1 o1 hAr hNm => ?_
  have hG : cA = G t := Option.some.inj (hNm.symm.trans (hK.2 t _ (tv_T_at ht)).2)
  subst hG
  exact kk H1 locs real (tv_more hbs hR e1 z1 o1) (tv_S_more hS hR.1 z1 o1) hl
theorem V.newz (hC : tv_K X cc nL own Ts Ns CL TY rm) {t N : Nat} {k : Int32} (ht : TY[t]? = some .boolean) (hw : Cond.arrayClass .boolean ∈ Ts) (hk : ¬ k < 0) (hN : k.toNatClampNeg = N) (hby : N * 1 ≤ 536870912) (hrm : cells + 1 ≤ rm.cells ∧ slots + N ≤ rm.slots) (hd : decode cc pc = .ok (.newarray .boolean, 2)) (kk : V X (cells + 1) (slots + N) (n + 1) (va_up h (n + 1) (.inl (t, (N, .inl (fun _ => 0))))) (pc + 2) ls (.ref (n + 1) :: st)) : V X cells slots n h pc ls (.int k :: st) := by
  obtain ⟨⟨p, l, e, R, s, m, args, below, meth, c⟩, Q, ⟨cl, tys, D, G, bs, b⟩⟩ := X
  obtain ⟨hx, hb, hml, hown, hts, hns, hK, hlk, hbs, hbz, rfl, rfl, rfl⟩ := hC
  intro H locs real hR hS hl
  refine va_newaK hx hb (atype := .boolean) (hts _ hw) rfl hd rfl hk hN hby hrm.1 hrm.2 hR.1 fun H1 cA e1 z1 o1 hAr hNm => ?_
  have hG : cA = G t := Option.some.inj (hNm.symm.trans (hK.2 t _ (tv_T_at ht)).2)
  subst hG
  exact kk H1 locs real (tv_more hbs hR e1 z1 o1) (tv_S_more hS hR.1 z1 o1) hl
theorem V.newq (hC : tv_K X cc nL own Ts Ns CL TY rm) {t N idx : Nat} {C : String} {k : Int32} (ht : TY[t]? = some (.object C)) (hw : Cond.classLink own idx C ∈ Ts ∧ Cond.arrayOver (.object C) ∈ Ns) (hk : ¬ k < 0) (hN : k.toNatClampNeg = N) (hby : N * 4 ≤ 536870912) (hrm : cells + 1 ≤ rm.cells ∧ slots + N ≤ rm.slots) (hd : decode cc pc = .ok (.anewarray idx, 3)) (kk : V X (cells + 1) (slots + N) (n + 1) (va_up h (n + 1) (.inl (t, (N, .inr (.inr (.inr (.inr (fun _ => none)))))))) (pc + 3) ls (.ref (n + 1) :: st)) : V X cells slots n h pc ls (.int k :: st) := by
  obtain ⟨⟨p, l, e, R, s, m, args, below, meth, c⟩, Q, ⟨cl, tys, D, G, bs, b⟩⟩ := X
  obtain ⟨hx, hb, hml, hown, hts, hns, hK, hlk, hbs, hbz, rfl, rfl, rfl⟩ := hC
  intro H locs real hR hS hl
  subst hN
  refine W.anew hx hb hown (hts _ hw.1) (hns _ hw.2) rfl hd rfl hk hby hrm.1 hrm.2 fun cA kA comp f1 f2 f3 f4 => ?_
  have hG : cA = G t := by
    obtain ⟨kA', comp', -, -, -, g4⟩ := (hK.2 t _ (tv_T_at ht)).2
    exact Option.some.inj (f1.symm.trans g4)
  subst hG
  generalize hH1 : H.push ({ cls := G t, slots := Array.replicate k.toNatClampNeg .null, vm := .none } : Cell) = H1
  have z1 : H1.size = b + n + 1 := by rw [← hH1, Array.size_push, hR.1]
  have e1 : H1[b + n]? = some (arrV (G t) k.toNatClampNeg (fun _ => .null)) := by rw [← hH1, ← hR.1, Array.getElem?_push_size, ← arrV_new]
  have o1 : ∀ q : Nat, q < b + n → H1[q]? = H[q]? := fun q hq => by rw [← hH1, Array.getElem?_push, if_neg (by rw [hR.1]; omega)]
  have k1 := kk H1 locs real (tv_more hbs hR (show H1[b + n]? = some (vp_cell _ _) by rw [tv_A, vp_cell_q]; exact e1) z1 o1) (tv_S_more hS hR.1 z1 o1) hl
  rw [hR.1]
  exact k1
end TVN
end
section
/-! contracts over V, calls, ends -/
/-- a method's end: an answer v and a heap h with P -/
def tv_Q (CL : List vw_C) (D : va_G) (G : Nat → ClassId) (bs b : Nat) (P : Option Value → Nat → (Nat → tv_C) → Prop) : Array Value → State → Outcome → State → Prop := fun _ st oc t =>
  (∃ (v : Option Value) (n : Nat) (h : Nat → tv_C), oc = .returned (v.map (tv_v bs b)) ∧ P v n h ∧ tv_R CL D G bs b n h t t.heap) ∧ va_F (fun q => b ≤ q) st t
def tv_Pc (Ns : List Cond) (CL : List vw_C) (TY : List FieldType) (D : va_G) (G : Nat → ClassId) (bs b n : Nat) (h : Nat → tv_C) (U : State) : Prop :=
  tv_R CL D G bs b n h U U.heap ∧ (∀ w ∈ Ns, va_Nw w U) ∧ va_K D CL (tv_T G TY) U ∧ bs < b
/-- the contract of y at the arguments av and the heap h -/
def tv_Met (y : MethodName) (ws Ns : List Cond) (CL : List vw_C) (TY : List FieldType) (fr lo mc ms : Nat) (av : List Value) (n : Nat) (h : Nat → tv_C) (P : Option Value → Nat → (Nat → tv_C) → Prop) : Prop :=
  ∀ (l : Launch) (D : va_G) (G : Nat → ClassId) (bs b : Nat), Met l y ws { frames := fr, cells := mc, slots := ms, locals := lo } (va_Pc (av.map (tv_v bs b)) (tv_Pc Ns CL TY D G bs b n h)) (tv_Q CL D G bs b P) mc ms (fun q => b ≤ q)
theorem tv_R.moved {cl : List vw_C} {D : va_G} {G : Nat → ClassId} {bs b n : Nat} {h : Nat → tv_C} {u U : State} {H : Heap} (hvm : u.vm.Alike U.vm) (hR : tv_R cl D G bs b n h u H) : tv_R cl D G bs b n h U H :=
  ⟨hR.1, hR.2.1, fun L xs h0 => (hR.2.2 L xs h0).moved hvm⟩
def tv_ret (X : tv_X) (ret : Option FieldType) : Prop := match X with
  | ((p, l, e, R, s, m, args, below, meth, c), Q, (cl, tys, D, G, bs, b)) => meth.sig.returnType = ret
/-- the wanted end is that of a contract -/
def tv_end (X : tv_X) (P : Option Value → Nat → (Nat → tv_C) → Prop) (mc ms : Nat) : Prop := match X with
  | ((p, l, e, R, s, m, args, below, meth, c), Q, (cl, tys, D, G, bs, b)) => Q = MQ below (tv_Q cl D G bs b P) args s mc ms (fun q => b ≤ q)
theorem tv_args {bs b : Nat} : ∀ (av : List Value) (i j : Nat) (v : Value), (∀ w ∈ av, tv_ok w = true) → av[j]? = some v → (i + j, tv_v bs b v) ∈ lv_args i (av.map (tv_v bs b))
  | [], i, j, v, _, h => by simp at h
  | w :: t, i, j, v, ho, h => by
    have hw : (tv_v bs b w).category = 1 := tv_cat1 bs b (ho w List.mem_cons_self)
    rw [List.map_cons, lv_args, if_neg (by rw [hw]; decide)]
    cases j with
    | zero =>
      have : w = v := by simpa using h
      subst this
      exact List.mem_cons_self
    | succ j =>
      have h1 : t[j]? = some v := by simpa using h
      have := tv_args (bs := bs) (b := b) t (i + 1) j v (fun u hu => ho u (List.mem_cons_of_mem _ hu)) h1
      rw [show i + (j + 1) = i + 1 + j by omega]
      exact List.mem_cons_of_mem _ this
theorem tv_sl {bs b : Nat} : ∀ (av : List Value), (∀ w ∈ av, tv_ok w = true) → (lg_sl (av.map (tv_v bs b))).length = av.length
  | [], _ => rfl
  | w :: t, ho => by
    have hw : (tv_v bs b w).category = 1 := tv_cat1 bs b (ho w List.mem_cons_self)
    have ih := tv_sl (bs := bs) (b := b) t (fun u hu => ho u (List.mem_cons_of_mem _ hu))
    unfold lg_sl at ih ⊢
    rw [List.map_cons, List.flatMap_cons, if_neg (by rw [hw]; decide), List.length_append, ih]
    simp; omega
/-- the locals at a method's entry -/
def tv_in (av : List Value) (nL : Nat) : List (Option Value) := av.map some ++ List.replicate (nL - av.length) none
theorem tv_Met.of {y : MethodName} {bytes : ByteArray} {maxL : Nat} {ret : Option FieldType} {ws' Ns : List Cond} {CL : List vw_C} {TY : List FieldType} {fr lo mc ms : Nat} {av : List Value} {n : Nat} {h : Nat → tv_C} {P : Option Value → Nat → (Nat → tv_C) → Prop}
    (hy : plainName y.cls = true) (hav0 : av.all tv_ok = true) (hlen : av.length ≤ maxL)
    (body : ∀ X : tv_X, tv_K X bytes maxL y.cls ws' Ns CL TY { frames := fr, cells := mc, slots := ms, locals := lo } → tv_nm X = y.name → tv_ret X ret → tv_end X P mc ms → V X 0 0 n h 0 (tv_in av maxL) []) :
    tv_Met y (Cond.code y bytes maxL ret :: ws') Ns CL TY fr lo mc ms av n h P := by
  have hav : ∀ w ∈ av, tv_ok w = true := List.all_eq_true.mp hav0
  intro l D G bs b
  refine Met.ofW (cc := bytes) (maxL := maxL) (ret := ret) hy rfl ?_
  intro p e s m args below meth c s₁ B hml hv
  obtain ⟨rfl, hR, hN, hK, hbs⟩ := hv
  have hts := atoms_spec (ws := Cond.code y bytes maxL ret :: ws') B.pre
  have hown : s.vm.findClass y.cls = some m.cls := findClass_of_methodNamed B.named
  have hb0 := body ((p, l, e, (headSpec (Cond.code y bytes maxL ret :: ws') { frames := fr, cells := mc, slots := ms, locals := lo }).room, s, m, (av.map (tv_v bs b)).toArray, below, meth, c), MQ below (tv_Q CL D G bs b P) (av.map (tv_v bs b)).toArray s mc ms (fun q => b ≤ q), (CL, TY, D, G, bs, b))
    ⟨B.exec, B.bytes, hml, hown, fun w hw => hts w (List.mem_cons_of_mem _ hw), hN, hK, B.notSynchronized, hbs, by rw [hR.1]; exact Nat.le_add_right _ _, rfl, rfl, rfl⟩ (name_of_methodNamed B.named B.method).1 B.returns rfl
  have hl := lv_entry (av.map (tv_v bs b)) (n := maxL) (by rw [tv_sl av hav]; exact hlen)
  rw [lg_entry_eq]
  refine hb0 s.heap [] _ hR va_S.rf ?_
  have hlen2 : (tv_in av maxL).length = maxL := by simp [tv_in]; omega
  rw [hlen2]
  refine ⟨hl.1, hl.2.1, fun q hq => hl.2.2 q ?_⟩
  obtain ⟨v, h1, h2, h3⟩ := tv_ps_inv hq
  obtain ⟨j, u⟩ := q
  dsimp only at h1 h3
  subst h3
  have h4 : av[j]? = some v := by
    unfold tv_in at h1
    by_cases hj : j < av.length
    · rw [List.getElem?_append_left (by rw [List.length_map]; exact hj), List.getElem?_map] at h1
      cases hc : av[j]? with
      | none => rw [hc] at h1; cases h1
      | some w => rw [hc] at h1; exact Option.some.inj h1
    · rw [List.getElem?_append_right (by rw [List.length_map]; omega)] at h1
      have := List.mem_of_getElem? h1
      have := List.eq_of_mem_replicate this
      cases this
  have := tv_args (bs := bs) (b := b) av 0 j v hav h4
  rw [Nat.zero_add] at this
  exact this
section TVE
variable {X : tv_X} {cells slots n : Nat} {h : Nat → tv_C} {pc : Nat} {ls : List (Option Value)} {st : List Value} {cc : ByteArray} {nL : Nat} {own : String} {Ts Ns : List Cond} {CL : List vw_C} {TY : List FieldType} {rm : Room} {P : Option Value → Nat → (Nat → tv_C) → Prop}
theorem V.iret (hC : tv_K X cc nL own Ts Ns CL TY rm) (hr : tv_ret X (some .int)) (hE : tv_end X P cells slots) {v : Int32} (hd : decode cc pc = .ok (.ireturn, 1)) (hp : P (some (.int v)) n h) : V X cells slots n h pc ls [.int v] := by
  obtain ⟨⟨p, l, e, R, s, m, args, below, meth, c⟩, Q, ⟨cl, tys, D, G, bs, b⟩⟩ := X
  obtain ⟨hx, hb, hml, hown, hts, hns, hK, hlk, hbs, hbz, rfl, rfl, rfl⟩ := hC
  obtain rfl : Q = _ := hE
  intro H locs real hR hS hl
  exact W.iret hx hb hr (fun t ht hW => ⟨⟨some (.int v), n, h, rfl, hp, (by rw [ht]; exact hR.moved hW.alike)⟩, hS.F ht⟩) hS.2.2 hd
theorem V.zret (hC : tv_K X cc nL own Ts Ns CL TY rm) (hr : tv_ret X (some .boolean)) (hE : tv_end X P cells slots) {v : Int32} (hv : narrow .boolean (.int v) = .int v) (hd : decode cc pc = .ok (.ireturn, 1)) (hp : P (some (.int v)) n h) : V X cells slots n h pc ls [.int v] := by
  obtain ⟨⟨p, l, e, R, s, m, args, below, meth, c⟩, Q, ⟨cl, tys, D, G, bs, b⟩⟩ := X
  obtain ⟨hx, hb, hml, hown, hts, hns, hK, hlk, hbs, hbz, rfl, rfl, rfl⟩ := hC
  obtain rfl : Q = _ := hE
  intro H locs real hR hS hl
  exact W.zret hx hb hr hv (fun t ht hW => ⟨⟨some (.int v), n, h, rfl, hp, (by rw [ht]; exact hR.moved hW.alike)⟩, hS.F ht⟩) hS.2.2 hd
theorem V.vret (hC : tv_K X cc nL own Ts Ns CL TY rm) (hr : tv_ret X none) (hE : tv_end X P cells slots) (hd : decode cc pc = .ok (.return_, 1)) (hp : P none n h) : V X cells slots n h pc ls [] := by
  obtain ⟨⟨p, l, e, R, s, m, args, below, meth, c⟩, Q, ⟨cl, tys, D, G, bs, b⟩⟩ := X
  obtain ⟨hx, hb, hml, hown, hts, hns, hK, hlk, hbs, hbz, rfl, rfl, rfl⟩ := hC
  obtain rfl : Q = _ := hE
  intro H locs real hR hS hl
  exact W.vret hx hb hr (fun t ht hW => ⟨⟨none, n, h, rfl, hp, (by rw [ht]; exact hR.moved hW.alike)⟩, hS.F ht⟩) hS.2.2 hd
theorem V.aret (hC : tv_K X cc nL own Ts Ns CL TY rm) {rt : FieldType} (hr : tv_ret X (some rt)) (hrt : (∃ n, rt = .object n) ∨ ∃ t, rt = .array t) (hE : tv_end X P cells slots) {v : Value} (hv : v = .null ∨ ∃ a, v = .ref a) (hd : decode cc pc = .ok (.areturn, 1)) (hp : P (some v) n h) : V X cells slots n h pc ls [v] := by
  obtain ⟨⟨p, l, e, R, s, m, args, below, meth, c⟩, Q, ⟨cl, tys, D, G, bs, b⟩⟩ := X
  obtain ⟨hx, hb, hml, hown, hts, hns, hK, hlk, hbs, hbz, rfl, rfl, rfl⟩ := hC
  obtain rfl : Q = _ := hE
  intro H locs real hR hS hl
  have hv2 : tv_v bs b v = .null ∨ ∃ a, tv_v bs b v = .ref a := by
    rcases hv with rfl | ⟨a, rfl⟩
    · exact Or.inl rfl
    · exact Or.inr ⟨_, rfl⟩
  exact W.aret hx hb hr hrt hv2 (fun t ht hW => ⟨⟨some v, n, h, rfl, hp, (by rw [ht]; exact hR.moved hW.alike)⟩, hS.F ht⟩) hS.2.2 hd
/-- behind a call -/
theorem tv_go {p : Program} {l : Launch} {e : Env} {R : Room} {s : State} {m : MethodId} {args : Array Value} {below : List Frame} {meth : Method} {c : Code} {H : Heap} {locs : List Loc} {mc ms : Nat} {Q : State → Prop} {cl : List vw_C} {D : va_G} {G : Nat → ClassId} {bs b : Nat} {real : Array Slot} {st0 rest : List Value} {a : Array Value}
    (hr : va_Run p l e R s m args below meth c H locs cells slots mc ms (F0 m pc real st0) rest (tv_Q cl D G bs b P a) (fun q => b ≤ q)) (hS : va_S (fun q => b ≤ q) s.heap H locs)
    (kk : ∀ (v : Option Value) (n' : Nat) (h' : Nat → tv_C) (H1 : Heap) (locs1 : List Loc), P v n' h' → tv_R cl D G bs b n' h' s H1 → va_S (fun q => b ≤ q) s.heap H1 locs1 → W p l e R s m args below meth c H1 locs1 (cells + mc) (slots + ms) Q (F0 m (pc + 3) real ((v.map (tv_v bs b)).toList ++ rest))) :
    W p l e R s m args below meth c H locs cells slots Q (F0 m pc real st0) := by
  intro T hT X
  obtain ⟨v, st₀, t, T', L, h0, X', hL, e1, e2, ⟨⟨v', n', h', hv, hp, hR1⟩, hz, hk⟩, st⟩ := hr T hT X
  have hv2 : v = v'.map (tv_v bs b) := Outcome.returned.inj hv
  subst hv2
  rw [h0] at hz hk
  have hal : t.vm.Alike s.vm := by rw [← e2]; exact X'.warmed.alike.symm
  obtain ⟨t2, a1, b1⟩ := kk v' n' h' T'.heap (locs ++ L) hp (by rw [e1]; exact hR1.moved hal)
    ⟨Nat.le_trans hS.1 (by rw [e1]; exact hz), fun q h1 h2 => by rw [e1, hk q (Nat.lt_of_lt_of_le h1 hS.1) h2]; exact hS.2.1 q h1 h2, fun q hq => by
      rcases List.mem_append.mp hq with h | h
      · exact hS.2.2 q h
      · exact hL q h⟩ T' rfl X'
  exact ⟨t2, st t2 a1, b1⟩
/-- an array type over arrays stays as the tables move -/
theorem tv_AOA {t : FieldType} {u U : State} (hvm : u.vm.Alike U.vm) (h : va_Nw (.arrayOver (.array t)) u) : va_Nw (.arrayOver (.array t)) U := by
  obtain ⟨comp, c, k, h1, h2, h3, h4, h5⟩ := arrayOverA_spec h
  obtain ⟨k', hk', he⟩ := hvm.2.2 _ _ h3
  have hi : (U.vm.classes.findIdx? fun (x : Class) => match x.kind with | .array component _ => component == comp | _ => false) = some c := by
    rw [hvm.findIdx?_eq _ (fun _ => rfl)]
    exact h2
  have hkind : k'.kind = .array comp (.array t) := by rw [he]; exact h4
  have f1 : U.vm.findClass (FieldType.array t).toString = some comp := by rw [hvm.findClass]; exact h1
  have f2 : U.vm.findClass ("[" ++ (FieldType.array t).toString) = some c := by rw [hvm.findClass]; exact h5
  unfold va_Nw Cond.before Cond.holds
  simp only [Cond.value]
  rw [f1, Option.bind_some]
  refine (congrArg (fun o : Option Nat => (o.bind (fun c => (U.vm.classes[c]?).map fun (k : Class) => match k.kind with | .array _ ty => decide (ty = FieldType.array t) && decide (U.vm.findClass ("[" ++ (FieldType.array t).toString) = some c) | _ => false) == some true)) hi).trans ?_
  simp [hk', hkind, f2]
/-- a word of a nest mate: it stays as the tables warm -/
def tv_nest (w : Cond) : Prop := (∃ a i b n d h, w = .fieldLinkNest a i b n d h) ∨ (∃ a i x h, w = .methodLinkNest a i x h) ∨ (∃ C, w = .arrayOver (.object C)) ∨ ∃ t, w = .arrayOver (.array t)
theorem tv_nest_warm {w : Cond} {s U : State} (hw : tv_nest w) (hW : s.WarmedH U.vm) (hZ : va_Nw w s) : va_Nw w U := by
  rcases hw with ⟨a, i, b, n, d, h, rfl⟩ | ⟨a, i, x, h, rfl⟩ | ⟨C, rfl⟩ | ⟨t, rfl⟩
  · exact va_Nw.warmF hW hZ
  · exact va_Nw.warmM hW hZ
  · exact va_AO.moved hW.alike hZ
  · exact tv_AOA hW.alike hZ
theorem tv_nest_same {w : Cond} {u U : State} (hw : tv_nest w) (h : u.vm = U.vm) (hZ : va_Nw w u) : va_Nw w U := by
  rcases hw with ⟨a, i, b, n, d, h1, rfl⟩ | ⟨a, i, x, h1, rfl⟩ | ⟨C, rfl⟩ | ⟨t, rfl⟩
  · exact va_Nw.same rfl h hZ
  · exact va_Nw.same rfl h hZ
  · exact va_AO.moved (h ▸ Vm.Alike.refl u.vm) hZ
  · exact tv_AOA (h ▸ Vm.Alike.refl u.vm) hZ
theorem tv_blind {D : va_G} {G : Nat → ClassId} {bs b : Nat} {av : List Value} (hNs : ∀ w ∈ Ns, tv_nest w) : FrameBlind (va_Pc av (tv_Pc Ns CL TY D G bs b n h)) := by
  intro a U g mk q
  obtain ⟨q0, qR, qN, qK, qb⟩ := q
  exact ⟨q0, qR.moved (U := U.calling g mk a) (Vm.Alike.refl U.vm), fun w hw => tv_nest_same (u := U) (U := U.calling g mk a) (hNs w hw) rfl (qN w hw), va_K.moved (u := U) (U := U.calling g mk a) (Vm.Alike.refl U.vm) qK, qb⟩
theorem V.callVN (hC : tv_K X cc nL own Ts Ns CL TY rm) (hNs : ∀ w ∈ Ns, tv_nest w) (hnl : ls.length = nL) {y : MethodName} {bytes : ByteArray} {maxL : Nat} {ret : Option FieldType} {ws' : List Cond} {fr lo mc ms idx : Nat} {host : String} {C : String} {T : u_T} {N ci a : Nat} {fs : List Value} {As stk : List Value} (hM : tv_Met y (Cond.code y bytes maxL ret :: ws') Ns CL TY fr lo mc ms (.ref a :: As) n h P) (hG : GoodIn Ts (Cond.code y bytes maxL ret :: ws')) (hw : Cond.methodLinkNest own idx y host ∈ Ns ∧ Cond.initialized y.cls ∈ Ts ∧ Cond.instanceMethod y ∈ Ts ∧ Cond.selects C y y ∈ Ts) (hy : y.cls ≠ "java/lang/invoke/MethodHandle" ∧ y.cls ≠ "java/lang/invoke/VarHandle" ∧ (parseMethodDescriptor y.desc).map (fun d => d.parameters.length) = some As.length) (hrm : fr + 1 ≤ rm.frames ∧ 8 + (maxL + 11) + lo ≤ rm.locals ∧ cells + mc ≤ rm.cells ∧ slots + ms ≤ rm.slots) (hcl : CL[ci]? = some (C, T, N)) (ha : 0 < a ∧ a ≤ n) (hh : h a = .inr (ci, fs)) (hstk : stk = As.reverse ++ .ref a :: st) (hsum : (st.map fun v => v.category).sum ≤ 8) (hd : decode cc pc = .ok (.invokevirtual idx, 3)) (kk : ∀ (v : Option Value) (n' : Nat) (h' : Nat → tv_C), P v n' h' → V X (cells + mc) (slots + ms) n' h' (pc + 3) ls (v.toList ++ st)) : V X cells slots n h pc ls stk := by
  obtain ⟨⟨p, l, e, R, s, m, args, below, meth, c⟩, Q, ⟨cl, tys, D, G, bs, b⟩⟩ := X
  obtain ⟨hx, hb, hml, hown, hts, hns, hK, hlk, hbs, hbz, rfl, rfl, rfl⟩ := hC
  obtain ⟨a, rfl⟩ : ∃ a', a = a' + 1 := ⟨a - 1, by omega⟩
  subst hstk
  intro H locs real hR hS hl
  have he : (tv_W G bs b n h)[a]? = some (b + a, .inr (ci, fs.map (tv_v bs b))) := by rw [tv_W_at (by omega), hh]; rfl
  have hp : PreV s H C (b + a) (va_Pc ((Value.ref (a + 1) :: As).map (tv_v bs b)) (tv_Pc Ns cl tys D G bs b n h)) (As.map (tv_v bs b)) := ⟨tv_blind hNs, va_recv hK hR.2.1 hcl he, fun U hU hW => ⟨rfl, (by rw [hU]; exact hR.moved hW.alike), fun w hw => tv_nest_warm (hNs w hw) hW (hns w hw), va_K.moved hW.alike hK, hbs⟩⟩
  refine tv_go (va_runVN (As := As.map (tv_v bs b)) (rest := st.map (tv_v bs b)) ⟨hx, hb, hml, hown, hts⟩ (hM l D G bs b) ⟨va_cnB As.length hts hG rfl rfl rfl (hns _ hw.1) (hts _ hw.2.1) hy ⟨hrm.1, hrm.2.1⟩, hts _ hw.2.2.1, hts _ hw.2.2.2⟩ hp rfl (by rw [List.length_map]) (hl.1.trans hnl) (by show List.map _ _ = _; rw [List.map_append, List.map_reverse]; rfl) (lv_room (by rw [tv_v_sum]; exact hsum)) hd ⟨hrm.2.2.1, hrm.2.2.2⟩) hS (fun v n' h' H1 locs1 hp1 hR1 hS1 => ?_)
  have k1 := kk v n' h' hp1 H1 locs1 real hR1 hS1 hl
  cases v <;> exact k1
theorem V.callSN (hC : tv_K X cc nL own Ts Ns CL TY rm) (hNs : ∀ w ∈ Ns, tv_nest w) (hnl : ls.length = nL) {y : MethodName} {bytes : ByteArray} {maxL : Nat} {ret : Option FieldType} {ws' : List Cond} {fr lo mc ms idx : Nat} {host : String} {As stk : List Value} (hM : tv_Met y (Cond.code y bytes maxL ret :: ws') Ns CL TY fr lo mc ms (As) n h P) (hG : GoodIn Ts (Cond.code y bytes maxL ret :: ws')) (hw : Cond.methodLinkNest own idx y host ∈ Ns ∧ Cond.initialized y.cls ∈ Ts ∧ Cond.static y ∈ Ts) (hy : y.cls ≠ "java/lang/invoke/MethodHandle" ∧ y.cls ≠ "java/lang/invoke/VarHandle" ∧ (parseMethodDescriptor y.desc).map (fun d => d.parameters.length) = some As.length) (hrm : fr + 1 ≤ rm.frames ∧ 8 + (maxL + 11) + lo ≤ rm.locals ∧ cells + mc ≤ rm.cells ∧ slots + ms ≤ rm.slots) (hstk : stk = As.reverse ++ st) (hsum : (st.map fun v => v.category).sum ≤ 8) (hd : decode cc pc = .ok (.invokestatic idx, 3)) (kk : ∀ (v : Option Value) (n' : Nat) (h' : Nat → tv_C), P v n' h' → V X (cells + mc) (slots + ms) n' h' (pc + 3) ls (v.toList ++ st)) : V X cells slots n h pc ls stk := by
  obtain ⟨⟨p, l, e, R, s, m, args, below, meth, c⟩, Q, ⟨cl, tys, D, G, bs, b⟩⟩ := X
  obtain ⟨hx, hb, hml, hown, hts, hns, hK, hlk, hbs, hbz, rfl, rfl, rfl⟩ := hC
  subst hstk
  intro H locs real hR hS hl
  have hp : PreS s H (va_Pc (As.map (tv_v bs b)) (tv_Pc Ns cl tys D G bs b n h)) (As.map (tv_v bs b)) := ⟨tv_blind hNs, fun U hU hW => ⟨rfl, (by rw [hU]; exact hR.moved hW.alike), fun w hw => tv_nest_warm (hNs w hw) hW (hns w hw), va_K.moved hW.alike hK, hbs⟩⟩
  refine tv_go (va_runSN (As := As.map (tv_v bs b)) (rest := st.map (tv_v bs b)) ⟨hx, hb, hml, hown, hts⟩ (hM l D G bs b) ⟨va_cnB As.length hts hG rfl rfl rfl (hns _ hw.1) (hts _ hw.2.1) hy ⟨hrm.1, hrm.2.1⟩, hts _ hw.2.2, trivial⟩ hp rfl (by rw [List.length_map]) (hl.1.trans hnl) (by show List.map _ _ = _; rw [List.map_append, List.map_reverse]) (lv_room (by rw [tv_v_sum]; exact hsum)) hd ⟨hrm.2.2.1, hrm.2.2.2⟩) hS (fun v n' h' H1 locs1 hp1 hR1 hS1 => ?_)
  have k1 := kk v n' h' hp1 H1 locs1 real hR1 hS1 hl
  cases v <;> exact k1
theorem V.callIN (hC : tv_K X cc nL own Ts Ns CL TY rm) (hNs : ∀ w ∈ Ns, tv_nest w) (hnl : ls.length = nL) {y : MethodName} {bytes : ByteArray} {maxL : Nat} {ws' : List Cond} {fr lo mc ms idx : Nat} {host : String} {a : Nat} {As stk : List Value} (hM : tv_Met y (Cond.code y bytes maxL none :: ws') Ns CL TY fr lo mc ms (.ref a :: As) n h P) (hG : GoodIn Ts (Cond.code y bytes maxL none :: ws')) (hw : Cond.methodLinkNest own idx y host ∈ Ns ∧ Cond.initialized y.cls ∈ Ts ∧ Cond.instanceMethod y ∈ Ts) (hnm : y.name = "<init>") (hy : y.cls ≠ "java/lang/invoke/MethodHandle" ∧ y.cls ≠ "java/lang/invoke/VarHandle" ∧ (parseMethodDescriptor y.desc).map (fun d => d.parameters.length) = some As.length) (hrm : fr + 1 ≤ rm.frames ∧ 8 + (maxL + 11) + lo ≤ rm.locals ∧ cells + mc ≤ rm.cells ∧ slots + ms ≤ rm.slots) (ha : 0 < a ∧ a ≤ n) (hstk : stk = As.reverse ++ .ref a :: st) (hsum : (st.map fun v => v.category).sum ≤ 8) (hd : decode cc pc = .ok (.invokespecial idx, 3)) (kk : ∀ (v : Option Value) (n' : Nat) (h' : Nat → tv_C), P v n' h' → V X (cells + mc) (slots + ms) n' h' (pc + 3) ls (v.toList ++ st)) : V X cells slots n h pc ls stk := by
  obtain ⟨⟨p, l, e, R, s, m, args, below, meth, c⟩, Q, ⟨cl, tys, D, G, bs, b⟩⟩ := X
  obtain ⟨hx, hb, hml, hown, hts, hns, hK, hlk, hbs, hbz, rfl, rfl, rfl⟩ := hC
  obtain ⟨a, rfl⟩ : ∃ a', a = a' + 1 := ⟨a - 1, by omega⟩
  subst hstk
  intro H locs real hR hS hl
  have hp : PreS s H (va_Pc ((Value.ref (a + 1) :: As).map (tv_v bs b)) (tv_Pc Ns cl tys D G bs b n h)) (.ref (b + a) :: As.map (tv_v bs b)) := ⟨tv_blind hNs, fun U hU hW => ⟨rfl, (by rw [hU]; exact hR.moved hW.alike), fun w hw => tv_nest_warm (hNs w hw) hW (hns w hw), va_K.moved hW.alike hK, hbs⟩⟩
  refine tv_go (va_runIN (As := As.map (tv_v bs b)) (rest := st.map (tv_v bs b)) ⟨hx, hb, hml, hown, hts⟩ (hM l D G bs b) ⟨va_cnB As.length hts hG rfl rfl rfl (hns _ hw.1) (hts _ hw.2.1) hy ⟨hrm.1, hrm.2.1⟩, hnm, hts _ hw.2.2⟩ hp rfl (by rw [List.length_map]) (hl.1.trans hnl) (by show List.map _ _ = _; rw [List.map_append, List.map_reverse]; rfl) (lv_room (by rw [tv_v_sum]; exact hsum)) hd ⟨hrm.2.2.1, hrm.2.2.2⟩) hS (fun v n' h' H1 locs1 hp1 hR1 hS1 => ?_)
  have k1 := kk v n' h' hp1 H1 locs1 real hR1 hS1 hl
  cases v <;> exact k1
theorem V.callV (hC : tv_K X cc nL own Ts Ns CL TY rm) (hNs : ∀ w ∈ Ns, tv_nest w) (hnl : ls.length = nL) {y : MethodName} {bytes : ByteArray} {maxL : Nat} {ret : Option FieldType} {ws' : List Cond} {fr lo mc ms idx : Nat} {C : String} {T : u_T} {N ci a : Nat} {fs : List Value} {As stk : List Value} (hM : tv_Met y (Cond.code y bytes maxL ret :: ws') Ns CL TY fr lo mc ms (.ref a :: As) n h P) (hG : GoodIn Ts (Cond.code y bytes maxL ret :: ws')) (hw : Cond.methodLink own idx y ∈ Ts ∧ Cond.initialized y.cls ∈ Ts ∧ Cond.instanceMethod y ∈ Ts ∧ Cond.selects C y y ∈ Ts) (hy : y.cls ≠ "java/lang/invoke/MethodHandle" ∧ y.cls ≠ "java/lang/invoke/VarHandle" ∧ (parseMethodDescriptor y.desc).map (fun d => d.parameters.length) = some As.length) (hrm : fr + 1 ≤ rm.frames ∧ 8 + (maxL + 11) + lo ≤ rm.locals ∧ cells + mc ≤ rm.cells ∧ slots + ms ≤ rm.slots) (hcl : CL[ci]? = some (C, T, N)) (ha : 0 < a ∧ a ≤ n) (hh : h a = .inr (ci, fs)) (hstk : stk = As.reverse ++ .ref a :: st) (hsum : (st.map fun v => v.category).sum ≤ 8) (hd : decode cc pc = .ok (.invokevirtual idx, 3)) (kk : ∀ (v : Option Value) (n' : Nat) (h' : Nat → tv_C), P v n' h' → V X (cells + mc) (slots + ms) n' h' (pc + 3) ls (v.toList ++ st)) : V X cells slots n h pc ls stk := by
  obtain ⟨⟨p, l, e, R, s, m, args, below, meth, c⟩, Q, ⟨cl, tys, D, G, bs, b⟩⟩ := X
  obtain ⟨hx, hb, hml, hown, hts, hns, hK, hlk, hbs, hbz, rfl, rfl, rfl⟩ := hC
  obtain ⟨a, rfl⟩ : ∃ a', a = a' + 1 := ⟨a - 1, by omega⟩
  subst hstk
  intro H locs real hR hS hl
  have he : (tv_W G bs b n h)[a]? = some (b + a, .inr (ci, fs.map (tv_v bs b))) := by rw [tv_W_at (by omega), hh]; rfl
  have hp : PreV s H C (b + a) (va_Pc ((Value.ref (a + 1) :: As).map (tv_v bs b)) (tv_Pc Ns cl tys D G bs b n h)) (As.map (tv_v bs b)) := ⟨tv_blind hNs, va_recv hK hR.2.1 hcl he, fun U hU hW => ⟨rfl, (by rw [hU]; exact hR.moved hW.alike), fun w hw => tv_nest_warm (hNs w hw) hW (hns w hw), va_K.moved hW.alike hK, hbs⟩⟩
  refine tv_go (va_runV (As := As.map (tv_v bs b)) (rest := st.map (tv_v bs b)) ⟨hx, hb, hml, hown, hts⟩ (hM l D G bs b) ⟨callB_of As.length hts hG rfl rfl rfl (hts _ hw.2.1) (hts _ hw.1) hy ⟨hrm.1, hrm.2.1⟩, hts _ hw.2.2.1, hts _ hw.2.2.2⟩ hp rfl (by rw [List.length_map]) (hl.1.trans hnl) (by show List.map _ _ = _; rw [List.map_append, List.map_reverse]; rfl) (lv_room (by rw [tv_v_sum]; exact hsum)) hd ⟨hrm.2.2.1, hrm.2.2.2⟩) hS (fun v n' h' H1 locs1 hp1 hR1 hS1 => ?_)
  have k1 := kk v n' h' hp1 H1 locs1 real hR1 hS1 hl
  cases v <;> exact k1
theorem V.callS (hC : tv_K X cc nL own Ts Ns CL TY rm) (hNs : ∀ w ∈ Ns, tv_nest w) (hnl : ls.length = nL) {y : MethodName} {bytes : ByteArray} {maxL : Nat} {ret : Option FieldType} {ws' : List Cond} {fr lo mc ms idx : Nat} {As stk : List Value} (hM : tv_Met y (Cond.code y bytes maxL ret :: ws') Ns CL TY fr lo mc ms (As) n h P) (hG : GoodIn Ts (Cond.code y bytes maxL ret :: ws')) (hw : Cond.methodLink own idx y ∈ Ts ∧ Cond.initialized y.cls ∈ Ts ∧ Cond.static y ∈ Ts) (hy : y.cls ≠ "java/lang/invoke/MethodHandle" ∧ y.cls ≠ "java/lang/invoke/VarHandle" ∧ (parseMethodDescriptor y.desc).map (fun d => d.parameters.length) = some As.length) (hrm : fr + 1 ≤ rm.frames ∧ 8 + (maxL + 11) + lo ≤ rm.locals ∧ cells + mc ≤ rm.cells ∧ slots + ms ≤ rm.slots) (hstk : stk = As.reverse ++ st) (hsum : (st.map fun v => v.category).sum ≤ 8) (hd : decode cc pc = .ok (.invokestatic idx, 3)) (kk : ∀ (v : Option Value) (n' : Nat) (h' : Nat → tv_C), P v n' h' → V X (cells + mc) (slots + ms) n' h' (pc + 3) ls (v.toList ++ st)) : V X cells slots n h pc ls stk := by
  obtain ⟨⟨p, l, e, R, s, m, args, below, meth, c⟩, Q, ⟨cl, tys, D, G, bs, b⟩⟩ := X
  obtain ⟨hx, hb, hml, hown, hts, hns, hK, hlk, hbs, hbz, rfl, rfl, rfl⟩ := hC
  subst hstk
  intro H locs real hR hS hl
  have hp : PreS s H (va_Pc (As.map (tv_v bs b)) (tv_Pc Ns cl tys D G bs b n h)) (As.map (tv_v bs b)) := ⟨tv_blind hNs, fun U hU hW => ⟨rfl, (by rw [hU]; exact hR.moved hW.alike), fun w hw => tv_nest_warm (hNs w hw) hW (hns w hw), va_K.moved hW.alike hK, hbs⟩⟩
  refine tv_go (va_runS (As := As.map (tv_v bs b)) (rest := st.map (tv_v bs b)) ⟨hx, hb, hml, hown, hts⟩ (hM l D G bs b) ⟨callB_of As.length hts hG rfl rfl rfl (hts _ hw.2.1) (hts _ hw.1) hy ⟨hrm.1, hrm.2.1⟩, hts _ hw.2.2⟩ hp rfl (by rw [List.length_map]) (hl.1.trans hnl) (by show List.map _ _ = _; rw [List.map_append, List.map_reverse]) (lv_room (by rw [tv_v_sum]; exact hsum)) hd ⟨hrm.2.2.1, hrm.2.2.2⟩) hS (fun v n' h' H1 locs1 hp1 hR1 hS1 => ?_)
  have k1 := kk v n' h' hp1 H1 locs1 real hR1 hS1 hl
  cases v <;> exact k1
theorem V.callI (hC : tv_K X cc nL own Ts Ns CL TY rm) (hNs : ∀ w ∈ Ns, tv_nest w) (hnl : ls.length = nL) {y : MethodName} {bytes : ByteArray} {maxL : Nat} {ws' : List Cond} {fr lo mc ms idx : Nat} {a : Nat} {As stk : List Value} (hM : tv_Met y (Cond.code y bytes maxL none :: ws') Ns CL TY fr lo mc ms (.ref a :: As) n h P) (hG : GoodIn Ts (Cond.code y bytes maxL none :: ws')) (hw : Cond.methodLink own idx y ∈ Ts ∧ Cond.initialized y.cls ∈ Ts ∧ Cond.instanceMethod y ∈ Ts) (hnm : y.name = "<init>") (hy : y.cls ≠ "java/lang/invoke/MethodHandle" ∧ y.cls ≠ "java/lang/invoke/VarHandle" ∧ (parseMethodDescriptor y.desc).map (fun d => d.parameters.length) = some As.length) (hrm : fr + 1 ≤ rm.frames ∧ 8 + (maxL + 11) + lo ≤ rm.locals ∧ cells + mc ≤ rm.cells ∧ slots + ms ≤ rm.slots) (ha : 0 < a ∧ a ≤ n) (hstk : stk = As.reverse ++ .ref a :: st) (hsum : (st.map fun v => v.category).sum ≤ 8) (hd : decode cc pc = .ok (.invokespecial idx, 3)) (kk : ∀ (v : Option Value) (n' : Nat) (h' : Nat → tv_C), P v n' h' → V X (cells + mc) (slots + ms) n' h' (pc + 3) ls (v.toList ++ st)) : V X cells slots n h pc ls stk := by
  obtain ⟨⟨p, l, e, R, s, m, args, below, meth, c⟩, Q, ⟨cl, tys, D, G, bs, b⟩⟩ := X
  obtain ⟨hx, hb, hml, hown, hts, hns, hK, hlk, hbs, hbz, rfl, rfl, rfl⟩ := hC
  obtain ⟨a, rfl⟩ : ∃ a', a = a' + 1 := ⟨a - 1, by omega⟩
  subst hstk
  intro H locs real hR hS hl
  have hp : PreS s H (va_Pc ((Value.ref (a + 1) :: As).map (tv_v bs b)) (tv_Pc Ns cl tys D G bs b n h)) (.ref (b + a) :: As.map (tv_v bs b)) := ⟨tv_blind hNs, fun U hU hW => ⟨rfl, (by rw [hU]; exact hR.moved hW.alike), fun w hw => tv_nest_warm (hNs w hw) hW (hns w hw), va_K.moved hW.alike hK, hbs⟩⟩
  refine tv_go (va_runI (As := As.map (tv_v bs b)) (rest := st.map (tv_v bs b)) ⟨hx, hb, hml, hown, hts⟩ (hM l D G bs b) ⟨callB_of As.length hts hG rfl rfl rfl (hts _ hw.2.1) (hts _ hw.1) hy ⟨hrm.1, hrm.2.1⟩, hnm, hts _ hw.2.2⟩ hp rfl (by rw [List.length_map]) (hl.1.trans hnl) (by show List.map _ _ = _; rw [List.map_append, List.map_reverse]; rfl) (lv_room (by rw [tv_v_sum]; exact hsum)) hd ⟨hrm.2.2.1, hrm.2.2.2⟩) hS (fun v n' h' H1 locs1 hp1 hR1 hS1 => ?_)
  have k1 := kk v n' h' hp1 H1 locs1 real hR1 hS1 hl
  cases v <;> exact k1
theorem V.objInit (hC : tv_K X cc nL own Ts Ns CL TY rm) (hnl : ls.length = nL) {idx a : Nat} (hw : Cond.methodLink own idx Lib.objectInit ∈ Ts ∧ Cond.instanceMethod Lib.objectInit ∈ Ts ∧ Cond.code Lib.objectInit ⟨#[0xb1]⟩ 1 none ∈ Ts) (hrm : 1 ≤ rm.frames ∧ (st.map fun v => v.category).sum + 12 ≤ rm.locals) (hd : decode cc pc = .ok (.invokespecial idx, 3)) (kk : V X cells slots n h (pc + 3) ls st) : V X cells slots n h pc ls (.ref a :: st) := by
  obtain ⟨⟨p, l, e, R, s, m, args, below, meth, c⟩, Q, ⟨cl, tys, D, G, bs, b⟩⟩ := X
  obtain ⟨hx, hb, hml, hown, hts, hns, hK, hlk, hbs, hbz, rfl, rfl, rfl⟩ := hC
  intro H locs real hR hS hl
  exact W.objInit hx hb hown (hts _ hw.1) (hts _ hw.2.1) (hts _ hw.2.2) rfl (by rw [hml, ← hnl]; exact hl.1) rfl hd hrm.1 (by show 2 * 0 + _ + 12 ≤ _; rw [tv_v_sum]; omega) (kk H locs real hR hS hl)
end TVE
end
section
/-! forgetting locals; System.arraycopy of ints over V -/
def tv_le (a b : List (Option Value)) : Prop := a.length = b.length ∧ ∀ (i : Nat) (v : Value), a[i]? = some (some v) → b[i]? = some (some v)
theorem tv_le_nil : tv_le [] [] := ⟨rfl, fun _ _ h => h⟩
theorem tv_le_none {a b : List (Option Value)} {x : Option Value} (h : tv_le a b) : tv_le (none :: a) (x :: b) := by
  refine ⟨by rw [List.length_cons, List.length_cons, h.1], fun i v hi => ?_⟩
  cases i with
  | zero => simp at hi
  | succ i => simpa using h.2 i v (by simpa using hi)
theorem tv_le_some {a b : List (Option Value)} {x : Option Value} (h : tv_le a b) : tv_le (x :: a) (x :: b) := by
  refine ⟨by rw [List.length_cons, List.length_cons, h.1], fun i v hi => ?_⟩
  cases i with
  | zero => simpa using hi
  | succ i => simpa using h.2 i v (by simpa using hi)
theorem V.less {X : tv_X} {cells slots n : Nat} {h : Nat → tv_C} {pc : Nat} {ls ls' : List (Option Value)} {st : List Value} (hle : tv_le ls' ls) (k : V X cells slots n h pc ls' st) : V X cells slots n h pc ls st := by
  obtain ⟨⟨p, l, e, R, s, m, args, below, meth, c⟩, Q, ⟨cl, tys, D, G, bs, b⟩⟩ := X
  intro H locs real hR hS hl
  refine k H locs real hR hS ⟨by rw [hle.1]; exact hl.1, hl.2.1, fun q hq => ?_⟩
  obtain ⟨v, h1, h2, h3⟩ := tv_ps_inv hq
  have h4 := hl.2.2 (q.1, tv_v bs b v) (tv_ps_mem (hle.2 _ _ h1) h2)
  rw [h3]
  exact h4
section TVCP
variable {X : tv_X} {cells slots n : Nat} {h : Nat → tv_C} {pc : Nat} {ls : List (Option Value)} {st : List Value} {cc : ByteArray} {nL : Nat} {own : String} {Ts Ns : List Cond} {CL : List vw_C} {TY : List FieldType} {rm : Room}
theorem V.acopy (hC : tv_K X cc nL own Ts Ns CL TY rm) (hnl : ls.length = nL) {idx t sa da len : Nat} {f g : Nat → Int32} (hw : Cond.methodLink own idx arraycopyName ∈ Ts ∧ Cond.native arraycopyName ∈ Ts ∧ Cond.static arraycopyName ∈ Ts ∧ Cond.initialized "java/lang/System" ∈ Ts) (hsa : 0 < sa ∧ sa ≤ n) (hhs : h sa = .inl (t, (len, .inl f))) (hda : 0 < da ∧ da ≤ n) (hhd : h da = .inl (t, (len, .inl g))) (ht : TY[t]? = some .int) {sp dp k : Int32} (h1 : ¬ sp < 0) (h2 : ¬ dp < 0) (h3 : ¬ k < 0) (h4 : sp.toNatClampNeg + k.toNatClampNeg ≤ len) (h5 : dp.toNatClampNeg + k.toNatClampNeg ≤ len) (hrm : 1 ≤ rm.frames ∧ (st.map fun v => v.category).sum + (nativeFrameWords "java/lang/System" "arraycopy" 5 + 11) ≤ rm.locals) (hd : decode cc pc = .ok (.invokestatic idx, 3)) (kk : V X cells slots n (va_up h da (.inl (t, (len, .inl (va_cpy f g sp.toNatClampNeg dp.toNatClampNeg k.toNatClampNeg))))) (pc + 3) ls st) : V X cells slots n h pc ls (.int k :: .int dp :: .ref da :: .int sp :: .ref sa :: st) := by
  obtain ⟨⟨p, l, e, R, s, m, args, below, meth, c⟩, Q, ⟨cl, tys, D, G, bs, b⟩⟩ := X
  obtain ⟨hx, hb, hml, hown, hts, hns, hK, hlk, hbs, hbz, rfl, rfl, rfl⟩ := hC
  obtain ⟨sa, rfl⟩ : ∃ a', sa = a' + 1 := ⟨sa - 1, by omega⟩
  obtain ⟨da, rfl⟩ : ∃ a', da = a' + 1 := ⟨da - 1, by omega⟩
  have nn : ∀ z : Int32, ¬ z < 0 → z.toInt = (z.toNatClampNeg : Int) := by
    intro z hz
    have hz0 : (0 : Int) ≤ z.toInt := by
      have := Int32.not_lt.mp hz
      simpa using Int32.le_iff_toInt_le.mp this
    show z.toInt = ((z.toInt.toNat : Nat) : Int)
    omega
  intro H locs real hR hS hl T hT XX
  have hes : (tv_W G bs b n h)[sa]? = some (b + sa, .inl (G t, (len, .inl f))) := by rw [tv_W_at (by omega), hhs]; rfl
  have hed : (tv_W G bs b n h)[da]? = some (b + da, .inl (G t, (len, .inl g))) := by rw [tv_W_at (by omega), hhd]; rfl
  have hc0 : H[b + sa]? = some (vp_cell (G t) (len, .inl f)) := hR.2.1 sa _ hes
  have hc1 : H[b + da]? = some (vp_cell (G t) (len, .inl g)) := hR.2.1 da _ hed
  obtain ⟨-, k0, hk0, cm0, hkk0⟩ := (hK.2 t _ (tv_T_at ht)).1 len (fun j => .int (f j))
  obtain ⟨-, k1, hk1, cm1, hkk1⟩ := (hK.2 t _ (tv_T_at ht)).1 len (fun j => .int (g j))
  obtain ⟨vm', X', step⟩ := XX.arraycopy hx hown (hts _ hw.1) (hts _ hw.2.1) (hts _ hw.2.2.1) (hts _ hw.2.2.2) (src := b + sa) (dst := b + da) (cs := vp_cell (G t) (len, .inl f)) (cd := vp_cell (G t) (len, .inl g)) (srcPos := sp) (destPos := dp) (n := k) (by rw [hT]; exact hc0) (by rw [hT]; exact hc1)
    (fun _ h => by cases h) (fun _ h => by cases h) (fun h => by cases h) (fun h => by cases h) hk0 hk1 hkk0 hkk1 (by rfl) h1 h2 h3
    (by rw [nn sp h1, nn k h3]; show ¬ _ > ((arrV (G t) len (fun j => .int (f j))).slots.size : Int); rw [arrV_size]; omega)
    (by rw [nn dp h2, nn k h3]; show ¬ _ > ((arrV (G t) len (fun j => .int (g j))).slots.size : Int); rw [arrV_size]; omega)
    (fun vm₁ _ i hi => by
      have e : (vp_cell (G t) (len, .inl f)).slots.getD (sp.toNatClampNeg + i) .null = .int (f (sp.toNatClampNeg + i)) := by
        show (arrV (G t) len (fun j => .int (f j))).slots.getD _ _ = _
        rw [Array.getD_eq_getD_getElem?, arrV_read _ _ (by omega)]
        rfl
      refine ⟨?_, ?_⟩
      · rw [e]; rfl
      · rw [e]; exact trivial)
    (g := F0 m pc real (.int k :: .int dp :: .ref (b + da) :: .int sp :: .ref (b + sa) :: st.map (tv_v bs b))) rfl (by rw [hml, ← hnl]; exact hl.1) (rest := st.map (tv_v bs b)) rfl (by rw [hb]; exact hd) hrm.1 (by show 2 * 0 + _ + _ ≤ _; rw [tv_v_sum]; have := hrm.2; omega)
  have e1 : copied (vp_cell (G t) (len, .inl f)) (vp_cell (G t) (len, .inl g)) sp dp k = vp_cell (G t) (len, .inl (va_cpy f g sp.toNatClampNeg dp.toNatClampNeg k.toNatClampNeg)) := va_copied (fun z => .int z) (G t) (G t) f g h4
  rw [e1] at X' step
  have hlt : b + da < H.size := (Array.getElem?_eq_some_iff.mp hc1).1
  generalize hcell : vp_cell (G t) (len, .inl (va_cpy f g sp.toNatClampNeg dp.toNatClampNeg k.toNatClampNeg)) = cell at X' step e1
  have hheap : ((T.setVm vm').setCell (b + da) cell).heap = H.setIfInBounds (b + da) cell := by rw [← hT]; rfl
  have oq : ∀ q : Nat, q ≠ b + da → (H.setIfInBounds (b + da) cell)[q]? = H[q]? := fun q hq => by simp [Array.getElem?_setIfInBounds, Ne.symm hq]
  have oa : (H.setIfInBounds (b + da) cell)[b + da]? = some cell := by simp [Array.getElem?_setIfInBounds, hlt]
  have hP1 : va_P D cl (tv_W G bs b n (va_up h (da + 1) (.inl (t, (len, .inl (va_cpy f g sp.toNatClampNeg dp.toNatClampNeg k.toNatClampNeg)))))) (H.setIfInBounds (b + da) cell) := by
    rw [← tv_W_set (by omega)]
    exact hR.2.1.set (tv_D G bs b n h) hed (by show (H.setIfInBounds (b + da) cell)[b + da]? = some (vp_cell _ _); rw [oa, ← hcell]; rfl) oq
  obtain ⟨t2, a1, b1⟩ := kk (H.setIfInBounds (b + da) cell) _ real ⟨by rw [Array.size_setIfInBounds]; exact hR.1, hP1, tv_sc (by omega) hR.2.2 (oq bs (by omega))⟩ ⟨by rw [Array.size_setIfInBounds]; exact hS.1, fun q g1 g2 => by
      rw [oq q (fun e => g2 (by show b ≤ q; omega))]
      exact hS.2.1 q g1 g2, fun q hq => by
      rcases List.mem_append.mp hq with h | h
      · exact hS.2.2 q h
      · obtain ⟨z, -, hz⟩ := List.mem_map.mp h
        rw [← hz]
        exact Nat.le_add_right _ _⟩ hl _ hheap X'
  exact ⟨t2, step t2 a1, b1⟩
end TVCP
end
section
/-! names, by program (wip/whole/names.py): classes, fields, methods, words -/
def tm_wg : List Cond := lw_tbl.filter goodWord
def tR_F : String := "TrickleMesh$Frame"
def tR_N : String := "TrickleMesh$Node"
def tR_R : String := "TrickleMesh$Radio"
def tR_T : String := "TrickleMesh$Timer"
def tR_X : String := "TrickleMesh"
def tR_Y : String := "TrickleMeshModel"
def tR_L : String := "TrickleMeshLaw"
def tT_F : u_T := fun k => match k with
  | 0 => ("TrickleMesh$Frame", "serial", "I", false)
  | 1 => ("TrickleMesh$Frame", "kind", "I", false)
  | 2 => ("TrickleMesh$Frame", "to", "I", false)
  | 3 => ("TrickleMesh$Frame", "goals", "I", false)
  | 4 => ("TrickleMesh$Frame", "withdrawal", "Z", false)
  | 5 => ("TrickleMesh$Frame", "numbers", "[I", true)
  | 6 => ("TrickleMesh$Frame", "source", "I", false)
  | 7 => ("TrickleMesh$Frame", "goal", "I", false)
  | 8 => ("TrickleMesh$Frame", "hops", "I", false)
  | 9 => ("TrickleMesh$Frame", "value", "I", false)
  | 10 => ("TrickleMesh$Frame", "down", "Z", false)
  | _ => ("TrickleMesh$Frame", "erred", "Z", false)
def tt_F : Nat → FieldType := fun k => match k with
  | 0 => .int
  | 1 => .int
  | 2 => .int
  | 3 => .int
  | 4 => .boolean
  | 5 => .array .int
  | 6 => .int
  | 7 => .int
  | 8 => .int
  | 9 => .int
  | 10 => .boolean
  | _ => .boolean
theorem tn_F : ∀ a, a < 12 → ∀ b, b < 12 → a ≠ b → (tT_F a).2.1 ≠ (tT_F b).2.1 := by decide +kernel
theorem to_F : ∀ k, k < 12 → parseFieldDescriptor (tT_F k).2.2.1 = some (tt_F k) := by decide +kernel
theorem tl_F : ∀ w ∈ u_ws tR_F tT_F 12, w ∈ tm_wg := by decide +kernel
def tT_N : u_T := fun k => match k with
  | 0 => ("TrickleMesh$Node", "id", "I", true)
  | 1 => ("TrickleMesh$Node", "radio", "LTrickleMesh$Radio;", true)
  | 2 => ("TrickleMesh$Node", "timer", "LTrickleMesh$Timer;", true)
  | 3 => ("TrickleMesh$Node", "ranks", "[I", true)
  | 4 => ("TrickleMesh$Node", "nexts", "[I", true)
  | 5 => ("TrickleMesh$Node", "numbers", "[I", true)
  | 6 => ("TrickleMesh$Node", "received", "[I", true)
  | 7 => ("TrickleMesh$Node", "arrivals", "[I", true)
  | 8 => ("TrickleMesh$Node", "arrived", "I", false)
  | 9 => ("TrickleMesh$Node", "alive", "Z", false)
  | 10 => ("TrickleMesh$Node", "version", "I", false)
  | 11 => ("TrickleMesh$Node", "rank", "I", false)
  | 12 => ("TrickleMesh$Node", "parent", "I", false)
  | _ => ("TrickleMesh$Node", "least", "I", false)
def tt_N : Nat → FieldType := fun k => match k with
  | 0 => .int
  | 1 => .object "TrickleMesh$Radio"
  | 2 => .object "TrickleMesh$Timer"
  | 3 => .array .int
  | 4 => .array .int
  | 5 => .array .int
  | 6 => .array .int
  | 7 => .array .int
  | 8 => .int
  | 9 => .boolean
  | 10 => .int
  | 11 => .int
  | 12 => .int
  | _ => .int
theorem tn_N : ∀ a, a < 14 → ∀ b, b < 14 → a ≠ b → (tT_N a).2.1 ≠ (tT_N b).2.1 := by decide +kernel
theorem to_N : ∀ k, k < 14 → parseFieldDescriptor (tT_N k).2.2.1 = some (tt_N k) := by decide +kernel
theorem tl_N : ∀ w ∈ u_ws tR_N tT_N 14, w ∈ tm_wg := by decide +kernel
def tT_R : u_T := fun k => match k with
  | 0 => ("TrickleMesh$Radio", "frames", "[LTrickleMesh$Frame;", true)
  | 1 => ("TrickleMesh$Radio", "size", "I", false)
  | 2 => ("TrickleMesh$Radio", "wait", "I", false)
  | 3 => ("TrickleMesh$Radio", "busy", "I", false)
  | 4 => ("TrickleMesh$Radio", "tries", "I", false)
  | 5 => ("TrickleMesh$Radio", "air", "I", false)
  | 6 => ("TrickleMesh$Radio", "wasOnAir", "Z", false)
  | 7 => ("TrickleMesh$Radio", "ackTo", "I", false)
  | 8 => ("TrickleMesh$Radio", "owes", "I", false)
  | 9 => ("TrickleMesh$Radio", "listens", "Z", false)
  | _ => ("TrickleMesh$Radio", "hears", "I", false)
def tt_R : Nat → FieldType := fun k => match k with
  | 0 => .array (.object "TrickleMesh$Frame")
  | 1 => .int
  | 2 => .int
  | 3 => .int
  | 4 => .int
  | 5 => .int
  | 6 => .boolean
  | 7 => .int
  | 8 => .int
  | 9 => .boolean
  | _ => .int
theorem tn_R : ∀ a, a < 11 → ∀ b, b < 11 → a ≠ b → (tT_R a).2.1 ≠ (tT_R b).2.1 := by decide +kernel
theorem to_R : ∀ k, k < 11 → parseFieldDescriptor (tT_R k).2.2.1 = some (tt_R k) := by decide +kernel
theorem tl_R : ∀ w ∈ u_ws tR_R tT_R 11, w ∈ tm_wg := by decide +kernel
def tT_T : u_T := fun k => match k with
  | 0 => ("TrickleMesh$Timer", "started", "Z", false)
  | 1 => ("TrickleMesh$Timer", "interval", "I", false)
  | 2 => ("TrickleMesh$Timer", "clock", "I", false)
  | 3 => ("TrickleMesh$Timer", "point", "I", false)
  | _ => ("TrickleMesh$Timer", "count", "I", false)
def tt_T : Nat → FieldType := fun k => match k with
  | 0 => .boolean
  | 1 => .int
  | 2 => .int
  | 3 => .int
  | _ => .int
theorem tn_T : ∀ a, a < 5 → ∀ b, b < 5 → a ≠ b → (tT_T a).2.1 ≠ (tT_T b).2.1 := by decide +kernel
theorem to_T : ∀ k, k < 5 → parseFieldDescriptor (tT_T k).2.2.1 = some (tt_T k) := by decide +kernel
theorem tl_T : ∀ w ∈ u_ws tR_T tT_T 5, w ∈ tm_wg := by decide +kernel
def tT_X : u_T := fun k => match k with
  | 0 => ("TrickleMesh", "rise", "I", true)
  | 1 => ("TrickleMesh", "redundant", "I", true)
  | 2 => ("TrickleMesh", "nodes", "[LTrickleMesh$Node;", true)
  | 3 => ("TrickleMesh", "costs", "[[I", true)
  | 4 => ("TrickleMesh", "seed", "I", false)
  | 5 => ("TrickleMesh", "ticks", "I", false)
  | 6 => ("TrickleMesh", "serials", "I", false)
  | 7 => ("TrickleMesh", "sentValues", "I", false)
  | 8 => ("TrickleMesh", "droppedValues", "I", false)
  | 9 => ("TrickleMesh", "deliveredValues", "I", false)
  | _ => ("TrickleMesh", "airedFrames", "I", false)
def tt_X : Nat → FieldType := fun k => match k with
  | 0 => .int
  | 1 => .int
  | 2 => .array (.object "TrickleMesh$Node")
  | 3 => .array (.array .int)
  | 4 => .int
  | 5 => .int
  | 6 => .int
  | 7 => .int
  | 8 => .int
  | 9 => .int
  | _ => .int
theorem tn_X : ∀ a, a < 11 → ∀ b, b < 11 → a ≠ b → (tT_X a).2.1 ≠ (tT_X b).2.1 := by decide +kernel
theorem to_X : ∀ k, k < 11 → parseFieldDescriptor (tT_X k).2.2.1 = some (tt_X k) := by decide +kernel
theorem tl_X : ∀ w ∈ u_ws tR_X tT_X 11, w ∈ tm_wg := by decide +kernel
def tT_Y : u_T := fun k => match k with
  | 0 => ("TrickleMeshModel", "drawn", "I", false)
  | 1 => ("TrickleMeshModel", "rise", "I", true)
  | 2 => ("TrickleMeshModel", "redundant", "I", true)
  | 3 => ("TrickleMeshModel", "ticks", "I", false)
  | 4 => ("TrickleMeshModel", "cost", "[I", false)
  | 5 => ("TrickleMeshModel", "ranks", "[I", false)
  | 6 => ("TrickleMeshModel", "knows", "[Z", false)
  | 7 => ("TrickleMeshModel", "nextOf", "[I", false)
  | 8 => ("TrickleMeshModel", "numbers", "[I", false)
  | 9 => ("TrickleMeshModel", "lastFrom", "[I", false)
  | 10 => ("TrickleMeshModel", "dead", "[Z", false)
  | 11 => ("TrickleMeshModel", "version", "[I", false)
  | 12 => ("TrickleMeshModel", "rank", "[I", false)
  | 13 => ("TrickleMeshModel", "parent", "[I", false)
  | 14 => ("TrickleMeshModel", "least", "[I", false)
  | 15 => ("TrickleMeshModel", "timed", "[Z", false)
  | 16 => ("TrickleMeshModel", "interval", "[I", false)
  | 17 => ("TrickleMeshModel", "clock", "[I", false)
  | 18 => ("TrickleMeshModel", "point", "[I", false)
  | 19 => ("TrickleMeshModel", "heardCount", "[I", false)
  | 20 => ("TrickleMeshModel", "queued", "[I", false)
  | 21 => ("TrickleMeshModel", "many", "[I", false)
  | 22 => ("TrickleMeshModel", "wait", "[I", false)
  | 23 => ("TrickleMeshModel", "busy", "[I", false)
  | 24 => ("TrickleMeshModel", "tries", "[I", false)
  | 25 => ("TrickleMeshModel", "owes", "[I", false)
  | 26 => ("TrickleMeshModel", "listens", "[Z", false)
  | 27 => ("TrickleMeshModel", "used", "[Z", false)
  | 28 => ("TrickleMeshModel", "name", "[I", false)
  | 29 => ("TrickleMeshModel", "kind", "[I", false)
  | 30 => ("TrickleMeshModel", "to", "[I", false)
  | 31 => ("TrickleMeshModel", "goals", "[I", false)
  | 32 => ("TrickleMeshModel", "goalNumbers", "[I", false)
  | 33 => ("TrickleMeshModel", "withdraws", "[Z", false)
  | 34 => ("TrickleMeshModel", "source", "[I", false)
  | 35 => ("TrickleMeshModel", "goal", "[I", false)
  | 36 => ("TrickleMeshModel", "hops", "[I", false)
  | 37 => ("TrickleMeshModel", "load", "[I", false)
  | 38 => ("TrickleMeshModel", "down", "[Z", false)
  | 39 => ("TrickleMeshModel", "erred", "[Z", false)
  | 40 => ("TrickleMeshModel", "names", "I", false)
  | 41 => ("TrickleMeshModel", "onAir", "[I", false)
  | 42 => ("TrickleMeshModel", "ackFor", "[I", false)
  | 43 => ("TrickleMeshModel", "wasOn", "[Z", false)
  | 44 => ("TrickleMeshModel", "listened", "[Z", false)
  | 45 => ("TrickleMeshModel", "answered", "[Z", false)
  | 46 => ("TrickleMeshModel", "sends", "I", false)
  | 47 => ("TrickleMeshModel", "dropped", "I", false)
  | 48 => ("TrickleMeshModel", "deliveredAll", "I", false)
  | 49 => ("TrickleMeshModel", "framesOn", "I", false)
  | 50 => ("TrickleMeshModel", "got", "[I", false)
  | _ => ("TrickleMeshModel", "latest", "[I", false)
def tt_Y : Nat → FieldType := fun k => match k with
  | 0 => .int
  | 1 => .int
  | 2 => .int
  | 3 => .int
  | 4 => .array .int
  | 5 => .array .int
  | 6 => .array .boolean
  | 7 => .array .int
  | 8 => .array .int
  | 9 => .array .int
  | 10 => .array .boolean
  | 11 => .array .int
  | 12 => .array .int
  | 13 => .array .int
  | 14 => .array .int
  | 15 => .array .boolean
  | 16 => .array .int
  | 17 => .array .int
  | 18 => .array .int
  | 19 => .array .int
  | 20 => .array .int
  | 21 => .array .int
  | 22 => .array .int
  | 23 => .array .int
  | 24 => .array .int
  | 25 => .array .int
  | 26 => .array .boolean
  | 27 => .array .boolean
  | 28 => .array .int
  | 29 => .array .int
  | 30 => .array .int
  | 31 => .array .int
  | 32 => .array .int
  | 33 => .array .boolean
  | 34 => .array .int
  | 35 => .array .int
  | 36 => .array .int
  | 37 => .array .int
  | 38 => .array .boolean
  | 39 => .array .boolean
  | 40 => .int
  | 41 => .array .int
  | 42 => .array .int
  | 43 => .array .boolean
  | 44 => .array .boolean
  | 45 => .array .boolean
  | 46 => .int
  | 47 => .int
  | 48 => .int
  | 49 => .int
  | 50 => .array .int
  | _ => .array .int
theorem tn_Y : ∀ a, a < 52 → ∀ b, b < 52 → a ≠ b → (tT_Y a).2.1 ≠ (tT_Y b).2.1 := by decide +kernel
theorem to_Y : ∀ k, k < 52 → parseFieldDescriptor (tT_Y k).2.2.1 = some (tt_Y k) := by decide +kernel
theorem tl_Y : ∀ w ∈ u_ws tR_Y tT_Y 52, w ∈ tm_wg := by decide +kernel
abbrev tm_cl : List vw_C := [(tR_F, tT_F, 12), (tR_N, tT_N, 14), (tR_R, tT_R, 11), (tR_T, tT_T, 5), (tR_X, tT_X, 11), (tR_Y, tT_Y, 52)]
abbrev tb_X_init : ByteArray := prog_1_method_1_code
def ty_X_init : MethodName := ⟨"TrickleMesh", "<init>", "(III)V"⟩
theorem tc_X_init : Cond.code ty_X_init tb_X_init 5 (Option.none : Option Jvm.ClassFile.FieldType) ∈ tm_wg := List.mem_filter.mpr ⟨List.mem_append_right _ (List.mem_of_getElem? (i := 14) (by decide +kernel)), by decide +kernel⟩
abbrev tb_N_init : ByteArray := prog_3_method_1_code
def ty_N_init : MethodName := ⟨"TrickleMesh$Node", "<init>", "(I)V"⟩
theorem tc_N_init : Cond.code ty_N_init tb_N_init 2 (Option.none : Option Jvm.ClassFile.FieldType) ∈ tm_wg := List.mem_filter.mpr ⟨List.mem_append_right _ (List.mem_of_getElem? (i := 31) (by decide +kernel)), by decide +kernel⟩
abbrev tb_R_init : ByteArray := prog_4_method_1_code
def ty_R_init : MethodName := ⟨"TrickleMesh$Radio", "<init>", "()V"⟩
theorem tc_R_init : Cond.code ty_R_init tb_R_init 2 (Option.none : Option Jvm.ClassFile.FieldType) ∈ tm_wg := List.mem_filter.mpr ⟨List.mem_append_right _ (List.mem_of_getElem? (i := 37) (by decide +kernel)), by decide +kernel⟩
abbrev tb_F_init : ByteArray := prog_2_method_1_code
def ty_F_init : MethodName := ⟨"TrickleMesh$Frame", "<init>", "()V"⟩
theorem tc_F_init : Cond.code ty_F_init tb_F_init 1 (Option.none : Option Jvm.ClassFile.FieldType) ∈ tm_wg := List.mem_filter.mpr ⟨List.mem_append_right _ (List.mem_of_getElem? (i := 44) (by decide +kernel)), by decide +kernel⟩
abbrev tb_T_init : ByteArray := prog_5_method_1_code
def ty_T_init : MethodName := ⟨"TrickleMesh$Timer", "<init>", "()V"⟩
theorem tc_T_init : Cond.code ty_T_init tb_T_init 1 (Option.none : Option Jvm.ClassFile.FieldType) ∈ tm_wg := List.mem_filter.mpr ⟨List.mem_append_right _ (List.mem_of_getElem? (i := 132) (by decide +kernel)), by decide +kernel⟩
abbrev tb_JA_fill : ByteArray := prog_10_method_103_code
def ty_JA_fill : MethodName := ⟨"java/util/Arrays", "fill", "([II)V"⟩
theorem tc_JA_fill : Cond.code ty_JA_fill tb_JA_fill 4 (Option.none : Option Jvm.ClassFile.FieldType) ∈ tm_wg := List.mem_filter.mpr ⟨List.mem_append_right _ (List.mem_of_getElem? (i := 153) (by decide +kernel)), by decide +kernel⟩
abbrev tb_X_resetTimer : ByteArray := prog_1_method_29_code
def ty_X_resetTimer : MethodName := ⟨"TrickleMesh", "resetTimer", "(LTrickleMesh$Node;)V"⟩
theorem tc_X_resetTimer : Cond.code ty_X_resetTimer tb_X_resetTimer 2 (Option.none : Option Jvm.ClassFile.FieldType) ∈ tm_wg := List.mem_filter.mpr ⟨List.mem_append_right _ (List.mem_of_getElem? (i := 212) (by decide +kernel)), by decide +kernel⟩
abbrev tb_X_beginInterval : ByteArray := prog_1_method_30_code
def ty_X_beginInterval : MethodName := ⟨"TrickleMesh", "beginInterval", "(LTrickleMesh$Timer;I)V"⟩
theorem tc_X_beginInterval : Cond.code ty_X_beginInterval tb_X_beginInterval 4 (Option.none : Option Jvm.ClassFile.FieldType) ∈ tm_wg := List.mem_filter.mpr ⟨List.mem_append_right _ (List.mem_of_getElem? (i := 216) (by decide +kernel)), by decide +kernel⟩
abbrev tb_X_draw : ByteArray := prog_1_method_14_code
def ty_X_draw : MethodName := ⟨"TrickleMesh", "draw", "(I)I"⟩
theorem tc_X_draw : Cond.code ty_X_draw tb_X_draw 2 (Option.some Jvm.ClassFile.FieldType.int) ∈ tm_wg := List.mem_filter.mpr ⟨List.mem_append_right _ (List.mem_of_getElem? (i := 220) (by decide +kernel)), by decide +kernel⟩
abbrev tb_X_link : ByteArray := prog_1_method_2_code
def ty_X_link : MethodName := ⟨"TrickleMesh", "link", "(III)Z"⟩
theorem tc_X_link : Cond.code ty_X_link tb_X_link 4 (Option.some Jvm.ClassFile.FieldType.boolean) ∈ tm_wg := List.mem_filter.mpr ⟨List.mem_append_right _ (List.mem_of_getElem? (i := 259) (by decide +kernel)), by decide +kernel⟩
abbrev tb_X_isNode : ByteArray := prog_1_method_12_code
def ty_X_isNode : MethodName := ⟨"TrickleMesh", "isNode", "(I)Z"⟩
theorem tc_X_isNode : Cond.code ty_X_isNode tb_X_isNode 1 (Option.some Jvm.ClassFile.FieldType.boolean) ∈ tm_wg := List.mem_filter.mpr ⟨List.mem_append_right _ (List.mem_of_getElem? (i := 262) (by decide +kernel)), by decide +kernel⟩
abbrev tb_X_kill : ByteArray := prog_1_method_3_code
def ty_X_kill : MethodName := ⟨"TrickleMesh", "kill", "(I)Z"⟩
theorem tc_X_kill : Cond.code ty_X_kill tb_X_kill 3 (Option.some Jvm.ClassFile.FieldType.boolean) ∈ tm_wg := List.mem_filter.mpr ⟨List.mem_append_right _ (List.mem_of_getElem? (i := 266) (by decide +kernel)), by decide +kernel⟩
abbrev tb_X_repair : ByteArray := prog_1_method_4_code
def ty_X_repair : MethodName := ⟨"TrickleMesh", "repair", "()I"⟩
theorem tc_X_repair : Cond.code ty_X_repair tb_X_repair 2 (Option.some Jvm.ClassFile.FieldType.int) ∈ tm_wg := List.mem_filter.mpr ⟨List.mem_append_right _ (List.mem_of_getElem? (i := 270) (by decide +kernel)), by decide +kernel⟩
abbrev tb_X_send : ByteArray := prog_1_method_5_code
def ty_X_send : MethodName := ⟨"TrickleMesh", "send", "(IIII)I"⟩
theorem tc_X_send : Cond.code ty_X_send tb_X_send 5 (Option.some Jvm.ClassFile.FieldType.int) ∈ tm_wg := List.mem_filter.mpr ⟨List.mem_append_right _ (List.mem_of_getElem? (i := 274) (by decide +kernel)), by decide +kernel⟩
abbrev tb_X_sendOn : ByteArray := prog_1_method_44_code
def ty_X_sendOn : MethodName := ⟨"TrickleMesh", "sendOn", "(LTrickleMesh$Node;IIIIZ)V"⟩
theorem tc_X_sendOn : Cond.code ty_X_sendOn tb_X_sendOn 10 (Option.none : Option Jvm.ClassFile.FieldType) ∈ tm_wg := List.mem_filter.mpr ⟨List.mem_append_right _ (List.mem_of_getElem? (i := 278) (by decide +kernel)), by decide +kernel⟩
abbrev tb_X_enqueue : ByteArray := prog_1_method_15_code
def ty_X_enqueue : MethodName := ⟨"TrickleMesh", "enqueue", "(LTrickleMesh$Node;II)LTrickleMesh$Frame;"⟩
theorem tc_X_enqueue : Cond.code ty_X_enqueue tb_X_enqueue 6 (Option.some (Jvm.ClassFile.FieldType.object "TrickleMesh$Frame")) ∈ tm_wg := List.mem_filter.mpr ⟨List.mem_append_right _ (List.mem_of_getElem? (i := 282) (by decide +kernel)), by decide +kernel⟩
abbrev tb_R_beginFirst : ByteArray := prog_4_method_2_code
def ty_R_beginFirst : MethodName := ⟨"TrickleMesh$Radio", "beginFirst", "(I)V"⟩
theorem tc_R_beginFirst : Cond.code ty_R_beginFirst tb_R_beginFirst 2 (Option.none : Option Jvm.ClassFile.FieldType) ∈ tm_wg := List.mem_filter.mpr ⟨List.mem_append_right _ (List.mem_of_getElem? (i := 286) (by decide +kernel)), by decide +kernel⟩
abbrev tb_X_tick : ByteArray := prog_1_method_6_code
def ty_X_tick : MethodName := ⟨"TrickleMesh", "tick", "(I)I"⟩
theorem tc_X_tick : Cond.code ty_X_tick tb_X_tick 3 (Option.some Jvm.ClassFile.FieldType.int) ∈ tm_wg := List.mem_filter.mpr ⟨List.mem_append_right _ (List.mem_of_getElem? (i := 290) (by decide +kernel)), by decide +kernel⟩
abbrev tb_X_rememberTheAir : ByteArray := prog_1_method_19_code
def ty_X_rememberTheAir : MethodName := ⟨"TrickleMesh", "rememberTheAir", "()V"⟩
theorem tc_X_rememberTheAir : Cond.code ty_X_rememberTheAir tb_X_rememberTheAir 3 (Option.none : Option Jvm.ClassFile.FieldType) ∈ tm_wg := List.mem_filter.mpr ⟨List.mem_append_right _ (List.mem_of_getElem? (i := 294) (by decide +kernel)), by decide +kernel⟩
abbrev tb_X_goOnTheAir : ByteArray := prog_1_method_20_code
def ty_X_goOnTheAir : MethodName := ⟨"TrickleMesh", "goOnTheAir", "()V"⟩
theorem tc_X_goOnTheAir : Cond.code ty_X_goOnTheAir tb_X_goOnTheAir 4 (Option.none : Option Jvm.ClassFile.FieldType) ∈ tm_wg := List.mem_filter.mpr ⟨List.mem_append_right _ (List.mem_of_getElem? (i := 298) (by decide +kernel)), by decide +kernel⟩
abbrev tb_X_seemsBusy : ByteArray := prog_1_method_21_code
def ty_X_seemsBusy : MethodName := ⟨"TrickleMesh", "seemsBusy", "(LTrickleMesh$Node;)Z"⟩
theorem tc_X_seemsBusy : Cond.code ty_X_seemsBusy tb_X_seemsBusy 3 (Option.some Jvm.ClassFile.FieldType.boolean) ∈ tm_wg := List.mem_filter.mpr ⟨List.mem_append_right _ (List.mem_of_getElem? (i := 302) (by decide +kernel)), by decide +kernel⟩
abbrev tb_X_failFirst : ByteArray := prog_1_method_18_code
def ty_X_failFirst : MethodName := ⟨"TrickleMesh", "failFirst", "(LTrickleMesh$Node;)V"⟩
theorem tc_X_failFirst : Cond.code ty_X_failFirst tb_X_failFirst 5 (Option.none : Option Jvm.ClassFile.FieldType) ∈ tm_wg := List.mem_filter.mpr ⟨List.mem_append_right _ (List.mem_of_getElem? (i := 306) (by decide +kernel)), by decide +kernel⟩
abbrev tb_X_removeFirst : ByteArray := prog_1_method_17_code
def ty_X_removeFirst : MethodName := ⟨"TrickleMesh", "removeFirst", "(LTrickleMesh$Radio;)V"⟩
theorem tc_X_removeFirst : Cond.code ty_X_removeFirst tb_X_removeFirst 4 (Option.none : Option Jvm.ClassFile.FieldType) ∈ tm_wg := List.mem_filter.mpr ⟨List.mem_append_right _ (List.mem_of_getElem? (i := 310) (by decide +kernel)), by decide +kernel⟩
abbrev tb_X_choose : ByteArray := prog_1_method_36_code
def ty_X_choose : MethodName := ⟨"TrickleMesh", "choose", "(LTrickleMesh$Node;)V"⟩
theorem tc_X_choose : Cond.code ty_X_choose tb_X_choose 6 (Option.none : Option Jvm.ClassFile.FieldType) ∈ tm_wg := List.mem_filter.mpr ⟨List.mem_append_right _ (List.mem_of_getElem? (i := 314) (by decide +kernel)), by decide +kernel⟩
abbrev tb_X_bestParent : ByteArray := prog_1_method_37_code
def ty_X_bestParent : MethodName := ⟨"TrickleMesh", "bestParent", "(LTrickleMesh$Node;)I"⟩
theorem tc_X_bestParent : Cond.code ty_X_bestParent tb_X_bestParent 5 (Option.some Jvm.ClassFile.FieldType.int) ∈ tm_wg := List.mem_filter.mpr ⟨List.mem_append_right _ (List.mem_of_getElem? (i := 318) (by decide +kernel)), by decide +kernel⟩
abbrev tb_X_isBetter : ByteArray := prog_1_method_38_code
def ty_X_isBetter : MethodName := ⟨"TrickleMesh", "isBetter", "(LTrickleMesh$Node;II)Z"⟩
theorem tc_X_isBetter : Cond.code ty_X_isBetter tb_X_isBetter 5 (Option.some Jvm.ClassFile.FieldType.boolean) ∈ tm_wg := List.mem_filter.mpr ⟨List.mem_append_right _ (List.mem_of_getElem? (i := 322) (by decide +kernel)), by decide +kernel⟩
abbrev tb_X_rankBelow : ByteArray := prog_1_method_39_code
def ty_X_rankBelow : MethodName := ⟨"TrickleMesh", "rankBelow", "(LTrickleMesh$Node;I)I"⟩
theorem tc_X_rankBelow : Cond.code ty_X_rankBelow tb_X_rankBelow 3 (Option.some Jvm.ClassFile.FieldType.int) ∈ tm_wg := List.mem_filter.mpr ⟨List.mem_append_right _ (List.mem_of_getElem? (i := 326) (by decide +kernel)), by decide +kernel⟩
abbrev tb_X_ownGoals : ByteArray := prog_1_method_40_code
def ty_X_ownGoals : MethodName := ⟨"TrickleMesh", "ownGoals", "(LTrickleMesh$Node;)I"⟩
theorem tc_X_ownGoals : Cond.code ty_X_ownGoals tb_X_ownGoals 3 (Option.some Jvm.ClassFile.FieldType.int) ∈ tm_wg := List.mem_filter.mpr ⟨List.mem_append_right _ (List.mem_of_getElem? (i := 329) (by decide +kernel)), by decide +kernel⟩
abbrev tb_X_announce : ByteArray := prog_1_method_41_code
def ty_X_announce : MethodName := ⟨"TrickleMesh", "announce", "(LTrickleMesh$Node;IIZ)V"⟩
theorem tc_X_announce : Cond.code ty_X_announce tb_X_announce 6 (Option.none : Option Jvm.ClassFile.FieldType) ∈ tm_wg := List.mem_filter.mpr ⟨List.mem_append_right _ (List.mem_of_getElem? (i := 333) (by decide +kernel)), by decide +kernel⟩
abbrev tb_X_hearTheAir : ByteArray := prog_1_method_22_code
def ty_X_hearTheAir : MethodName := ⟨"TrickleMesh", "hearTheAir", "()V"⟩
theorem tc_X_hearTheAir : Cond.code ty_X_hearTheAir tb_X_hearTheAir 4 (Option.none : Option Jvm.ClassFile.FieldType) ∈ tm_wg := List.mem_filter.mpr ⟨List.mem_append_right _ (List.mem_of_getElem? (i := 340) (by decide +kernel)), by decide +kernel⟩
abbrev tb_X_onlySpeaker : ByteArray := prog_1_method_23_code
def ty_X_onlySpeaker : MethodName := ⟨"TrickleMesh", "onlySpeaker", "(I)I"⟩
theorem tc_X_onlySpeaker : Cond.code ty_X_onlySpeaker tb_X_onlySpeaker 4 (Option.some Jvm.ClassFile.FieldType.int) ∈ tm_wg := List.mem_filter.mpr ⟨List.mem_append_right _ (List.mem_of_getElem? (i := 344) (by decide +kernel)), by decide +kernel⟩
abbrev tb_X_takeWhatWasHeard : ByteArray := prog_1_method_24_code
def ty_X_takeWhatWasHeard : MethodName := ⟨"TrickleMesh", "takeWhatWasHeard", "()V"⟩
theorem tc_X_takeWhatWasHeard : Cond.code ty_X_takeWhatWasHeard tb_X_takeWhatWasHeard 6 (Option.none : Option Jvm.ClassFile.FieldType) ∈ tm_wg := List.mem_filter.mpr ⟨List.mem_append_right _ (List.mem_of_getElem? (i := 348) (by decide +kernel)), by decide +kernel⟩
abbrev tb_X_takeAck : ByteArray := prog_1_method_31_code
def ty_X_takeAck : MethodName := ⟨"TrickleMesh", "takeAck", "(LTrickleMesh$Node;LTrickleMesh$Node;)V"⟩
theorem tc_X_takeAck : Cond.code ty_X_takeAck tb_X_takeAck 5 (Option.none : Option Jvm.ClassFile.FieldType) ∈ tm_wg := List.mem_filter.mpr ⟨List.mem_append_right _ (List.mem_of_getElem? (i := 352) (by decide +kernel)), by decide +kernel⟩
abbrev tb_X_takeSolicit : ByteArray := prog_1_method_32_code
def ty_X_takeSolicit : MethodName := ⟨"TrickleMesh", "takeSolicit", "(LTrickleMesh$Node;)V"⟩
theorem tc_X_takeSolicit : Cond.code ty_X_takeSolicit tb_X_takeSolicit 2 (Option.none : Option Jvm.ClassFile.FieldType) ∈ tm_wg := List.mem_filter.mpr ⟨List.mem_append_right _ (List.mem_of_getElem? (i := 356) (by decide +kernel)), by decide +kernel⟩
abbrev tb_X_takeAdvert : ByteArray := prog_1_method_33_code
def ty_X_takeAdvert : MethodName := ⟨"TrickleMesh", "takeAdvert", "(LTrickleMesh$Node;LTrickleMesh$Node;)V"⟩
theorem tc_X_takeAdvert : Cond.code ty_X_takeAdvert tb_X_takeAdvert 5 (Option.none : Option Jvm.ClassFile.FieldType) ∈ tm_wg := List.mem_filter.mpr ⟨List.mem_append_right _ (List.mem_of_getElem? (i := 360) (by decide +kernel)), by decide +kernel⟩
abbrev tb_X_takeVersion : ByteArray := prog_1_method_34_code
def ty_X_takeVersion : MethodName := ⟨"TrickleMesh", "takeVersion", "(LTrickleMesh$Node;I)V"⟩
theorem tc_X_takeVersion : Cond.code ty_X_takeVersion tb_X_takeVersion 4 (Option.none : Option Jvm.ClassFile.FieldType) ∈ tm_wg := List.mem_filter.mpr ⟨List.mem_append_right _ (List.mem_of_getElem? (i := 364) (by decide +kernel)), by decide +kernel⟩
abbrev tb_X_takeOwn : ByteArray := prog_1_method_35_code
def ty_X_takeOwn : MethodName := ⟨"TrickleMesh", "takeOwn", "(LTrickleMesh$Node;LTrickleMesh$Node;LTrickleMesh$Frame;)V"⟩
theorem tc_X_takeOwn : Cond.code ty_X_takeOwn tb_X_takeOwn 4 (Option.none : Option Jvm.ClassFile.FieldType) ∈ tm_wg := List.mem_filter.mpr ⟨List.mem_append_right _ (List.mem_of_getElem? (i := 369) (by decide +kernel)), by decide +kernel⟩
abbrev tb_X_receiveAnnounce : ByteArray := prog_1_method_42_code
def ty_X_receiveAnnounce : MethodName := ⟨"TrickleMesh", "receiveAnnounce", "(LTrickleMesh$Node;ILTrickleMesh$Frame;)V"⟩
theorem tc_X_receiveAnnounce : Cond.code ty_X_receiveAnnounce tb_X_receiveAnnounce 7 (Option.none : Option Jvm.ClassFile.FieldType) ∈ tm_wg := List.mem_filter.mpr ⟨List.mem_append_right _ (List.mem_of_getElem? (i := 373) (by decide +kernel)), by decide +kernel⟩
abbrev tb_X_changeRoute : ByteArray := prog_1_method_43_code
def ty_X_changeRoute : MethodName := ⟨"TrickleMesh", "changeRoute", "(LTrickleMesh$Node;IILTrickleMesh$Frame;)Z"⟩
theorem tc_X_changeRoute : Cond.code ty_X_changeRoute tb_X_changeRoute 7 (Option.some Jvm.ClassFile.FieldType.boolean) ∈ tm_wg := List.mem_filter.mpr ⟨List.mem_append_right _ (List.mem_of_getElem? (i := 376) (by decide +kernel)), by decide +kernel⟩
abbrev tb_X_receiveValue : ByteArray := prog_1_method_45_code
def ty_X_receiveValue : MethodName := ⟨"TrickleMesh", "receiveValue", "(LTrickleMesh$Node;ILTrickleMesh$Frame;)V"⟩
theorem tc_X_receiveValue : Cond.code ty_X_receiveValue tb_X_receiveValue 5 (Option.none : Option Jvm.ClassFile.FieldType) ∈ tm_wg := List.mem_filter.mpr ⟨List.mem_append_right _ (List.mem_of_getElem? (i := 380) (by decide +kernel)), by decide +kernel⟩
abbrev tb_X_deliver : ByteArray := prog_1_method_46_code
def ty_X_deliver : MethodName := ⟨"TrickleMesh", "deliver", "(LTrickleMesh$Node;LTrickleMesh$Frame;)V"⟩
theorem tc_X_deliver : Cond.code ty_X_deliver tb_X_deliver 3 (Option.none : Option Jvm.ClassFile.FieldType) ∈ tm_wg := List.mem_filter.mpr ⟨List.mem_append_right _ (List.mem_of_getElem? (i := 384) (by decide +kernel)), by decide +kernel⟩
abbrev tb_X_settleWhatWasOnTheAir : ByteArray := prog_1_method_25_code
def ty_X_settleWhatWasOnTheAir : MethodName := ⟨"TrickleMesh", "settleWhatWasOnTheAir", "()V"⟩
theorem tc_X_settleWhatWasOnTheAir : Cond.code ty_X_settleWhatWasOnTheAir tb_X_settleWhatWasOnTheAir 3 (Option.none : Option Jvm.ClassFile.FieldType) ∈ tm_wg := List.mem_filter.mpr ⟨List.mem_append_right _ (List.mem_of_getElem? (i := 388) (by decide +kernel)), by decide +kernel⟩
abbrev tb_X_settleWhatWasListenedFor : ByteArray := prog_1_method_26_code
def ty_X_settleWhatWasListenedFor : MethodName := ⟨"TrickleMesh", "settleWhatWasListenedFor", "()V"⟩
theorem tc_X_settleWhatWasListenedFor : Cond.code ty_X_settleWhatWasListenedFor tb_X_settleWhatWasListenedFor 3 (Option.none : Option Jvm.ClassFile.FieldType) ∈ tm_wg := List.mem_filter.mpr ⟨List.mem_append_right _ (List.mem_of_getElem? (i := 392) (by decide +kernel)), by decide +kernel⟩
abbrev tb_X_runTimers : ByteArray := prog_1_method_27_code
def ty_X_runTimers : MethodName := ⟨"TrickleMesh", "runTimers", "()V"⟩
theorem tc_X_runTimers : Cond.code ty_X_runTimers tb_X_runTimers 3 (Option.none : Option Jvm.ClassFile.FieldType) ∈ tm_wg := List.mem_filter.mpr ⟨List.mem_append_right _ (List.mem_of_getElem? (i := 396) (by decide +kernel)), by decide +kernel⟩
abbrev tb_X_runTimer : ByteArray := prog_1_method_28_code
def ty_X_runTimer : MethodName := ⟨"TrickleMesh", "runTimer", "(LTrickleMesh$Node;)V"⟩
theorem tc_X_runTimer : Cond.code ty_X_runTimer tb_X_runTimer 3 (Option.none : Option Jvm.ClassFile.FieldType) ∈ tm_wg := List.mem_filter.mpr ⟨List.mem_append_right _ (List.mem_of_getElem? (i := 400) (by decide +kernel)), by decide +kernel⟩
abbrev tb_X_enqueueOnce : ByteArray := prog_1_method_16_code
def ty_X_enqueueOnce : MethodName := ⟨"TrickleMesh", "enqueueOnce", "(LTrickleMesh$Node;I)V"⟩
theorem tc_X_enqueueOnce : Cond.code ty_X_enqueueOnce tb_X_enqueueOnce 4 (Option.none : Option Jvm.ClassFile.FieldType) ∈ tm_wg := List.mem_filter.mpr ⟨List.mem_append_right _ (List.mem_of_getElem? (i := 404) (by decide +kernel)), by decide +kernel⟩
abbrev tb_X_node : ByteArray := prog_1_method_7_code
def ty_X_node : MethodName := ⟨"TrickleMesh", "node", "(II)I"⟩
theorem tc_X_node : Cond.code ty_X_node tb_X_node 6 (Option.some Jvm.ClassFile.FieldType.int) ∈ tm_wg := List.mem_filter.mpr ⟨List.mem_append_right _ (List.mem_of_getElem? (i := 408) (by decide +kernel)), by decide +kernel⟩
abbrev tb_X_condition : ByteArray := prog_1_method_13_code
def ty_X_condition : MethodName := ⟨"TrickleMesh", "condition", "(LTrickleMesh$Node;)I"⟩
theorem tc_X_condition : Cond.code ty_X_condition tb_X_condition 1 (Option.some Jvm.ClassFile.FieldType.int) ∈ tm_wg := List.mem_filter.mpr ⟨List.mem_append_right _ (List.mem_of_getElem? (i := 411) (by decide +kernel)), by decide +kernel⟩
abbrev tb_X_next : ByteArray := prog_1_method_8_code
def ty_X_next : MethodName := ⟨"TrickleMesh", "next", "(II)I"⟩
theorem tc_X_next : Cond.code ty_X_next tb_X_next 3 (Option.some Jvm.ClassFile.FieldType.int) ∈ tm_wg := List.mem_filter.mpr ⟨List.mem_append_right _ (List.mem_of_getElem? (i := 415) (by decide +kernel)), by decide +kernel⟩
abbrev tb_X_known : ByteArray := prog_1_method_9_code
def ty_X_known : MethodName := ⟨"TrickleMesh", "known", "(II)I"⟩
theorem tc_X_known : Cond.code ty_X_known tb_X_known 3 (Option.some Jvm.ClassFile.FieldType.int) ∈ tm_wg := List.mem_filter.mpr ⟨List.mem_append_right _ (List.mem_of_getElem? (i := 419) (by decide +kernel)), by decide +kernel⟩
abbrev tb_X_delivered : ByteArray := prog_1_method_10_code
def ty_X_delivered : MethodName := ⟨"TrickleMesh", "delivered", "(II)I"⟩
theorem tc_X_delivered : Cond.code ty_X_delivered tb_X_delivered 4 (Option.some Jvm.ClassFile.FieldType.int) ∈ tm_wg := List.mem_filter.mpr ⟨List.mem_append_right _ (List.mem_of_getElem? (i := 423) (by decide +kernel)), by decide +kernel⟩
abbrev tb_X_count : ByteArray := prog_1_method_11_code
def ty_X_count : MethodName := ⟨"TrickleMesh", "count", "(I)I"⟩
theorem tc_X_count : Cond.code ty_X_count tb_X_count 2 (Option.some Jvm.ClassFile.FieldType.int) ∈ tm_wg := List.mem_filter.mpr ⟨List.mem_append_right _ (List.mem_of_getElem? (i := 427) (by decide +kernel)), by decide +kernel⟩
abbrev tb_L_cell : ByteArray := method_2_code
def ty_L_cell : MethodName := ⟨"TrickleMeshLaw", "cell", "([II)I"⟩
theorem tc_L_cell : Cond.code ty_L_cell tb_L_cell 2 (Option.some Jvm.ClassFile.FieldType.int) ∈ tm_wg := List.mem_filter.mpr ⟨List.mem_append_right _ (List.mem_of_getElem? (i := 430) (by decide +kernel)), by decide +kernel⟩
abbrev tb_Y_init : ByteArray := prog_7_method_1_code
def ty_Y_init : MethodName := ⟨"TrickleMeshModel", "<init>", "(III)V"⟩
theorem tc_Y_init : Cond.code ty_Y_init tb_Y_init 5 (Option.none : Option Jvm.ClassFile.FieldType) ∈ tm_wg := List.mem_filter.mpr ⟨List.mem_append_right _ (List.mem_of_getElem? (i := 435) (by decide +kernel)), by decide +kernel⟩
abbrev tb_Y_reset : ByteArray := prog_7_method_10_code
def ty_Y_reset : MethodName := ⟨"TrickleMeshModel", "reset", "(I)V"⟩
theorem tc_Y_reset : Cond.code ty_Y_reset tb_Y_reset 2 (Option.none : Option Jvm.ClassFile.FieldType) ∈ tm_wg := List.mem_filter.mpr ⟨List.mem_append_right _ (List.mem_of_getElem? (i := 440) (by decide +kernel)), by decide +kernel⟩
abbrev tb_Y_begin : ByteArray := prog_7_method_9_code
def ty_Y_begin : MethodName := ⟨"TrickleMeshModel", "begin", "(I)V"⟩
theorem tc_Y_begin : Cond.code ty_Y_begin tb_Y_begin 2 (Option.none : Option Jvm.ClassFile.FieldType) ∈ tm_wg := List.mem_filter.mpr ⟨List.mem_append_right _ (List.mem_of_getElem? (i := 444) (by decide +kernel)), by decide +kernel⟩
abbrev tb_Y_draw : ByteArray := prog_7_method_2_code
def ty_Y_draw : MethodName := ⟨"TrickleMeshModel", "draw", "(I)I"⟩
theorem tc_Y_draw : Cond.code ty_Y_draw tb_Y_draw 2 (Option.some Jvm.ClassFile.FieldType.int) ∈ tm_wg := List.mem_filter.mpr ⟨List.mem_append_right _ (List.mem_of_getElem? (i := 448) (by decide +kernel)), by decide +kernel⟩
abbrev tb_Y_link : ByteArray := prog_7_method_27_code
def ty_Y_link : MethodName := ⟨"TrickleMeshModel", "link", "(III)Z"⟩
theorem tc_Y_link : Cond.code ty_Y_link tb_Y_link 4 (Option.some Jvm.ClassFile.FieldType.boolean) ∈ tm_wg := List.mem_filter.mpr ⟨List.mem_append_right _ (List.mem_of_getElem? (i := 611) (by decide +kernel)), by decide +kernel⟩
abbrev tb_Y_isNode : ByteArray := prog_7_method_26_code
def ty_Y_isNode : MethodName := ⟨"TrickleMeshModel", "isNode", "(I)Z"⟩
theorem tc_Y_isNode : Cond.code ty_Y_isNode tb_Y_isNode 1 (Option.some Jvm.ClassFile.FieldType.boolean) ∈ tm_wg := List.mem_filter.mpr ⟨List.mem_append_right _ (List.mem_of_getElem? (i := 614) (by decide +kernel)), by decide +kernel⟩
abbrev tb_Y_kill : ByteArray := prog_7_method_28_code
def ty_Y_kill : MethodName := ⟨"TrickleMeshModel", "kill", "(I)Z"⟩
theorem tc_Y_kill : Cond.code ty_Y_kill tb_Y_kill 3 (Option.some Jvm.ClassFile.FieldType.boolean) ∈ tm_wg := List.mem_filter.mpr ⟨List.mem_append_right _ (List.mem_of_getElem? (i := 618) (by decide +kernel)), by decide +kernel⟩
abbrev tb_Y_repair : ByteArray := prog_7_method_29_code
def ty_Y_repair : MethodName := ⟨"TrickleMeshModel", "repair", "()I"⟩
theorem tc_Y_repair : Cond.code ty_Y_repair tb_Y_repair 1 (Option.some Jvm.ClassFile.FieldType.int) ∈ tm_wg := List.mem_filter.mpr ⟨List.mem_append_right _ (List.mem_of_getElem? (i := 622) (by decide +kernel)), by decide +kernel⟩
abbrev tb_Y_send : ByteArray := prog_7_method_30_code
def ty_Y_send : MethodName := ⟨"TrickleMeshModel", "send", "(IIII)I"⟩
theorem tc_Y_send : Cond.code ty_Y_send tb_Y_send 5 (Option.some Jvm.ClassFile.FieldType.int) ∈ tm_wg := List.mem_filter.mpr ⟨List.mem_append_right _ (List.mem_of_getElem? (i := 626) (by decide +kernel)), by decide +kernel⟩
abbrev tb_Y_sendOn : ByteArray := prog_7_method_17_code
def ty_Y_sendOn : MethodName := ⟨"TrickleMeshModel", "sendOn", "(IIIIIZ)V"⟩
theorem tc_Y_sendOn : Cond.code ty_Y_sendOn tb_Y_sendOn 10 (Option.none : Option Jvm.ClassFile.FieldType) ∈ tm_wg := List.mem_filter.mpr ⟨List.mem_append_right _ (List.mem_of_getElem? (i := 630) (by decide +kernel)), by decide +kernel⟩
abbrev tb_Y_makeFrame : ByteArray := prog_7_method_3_code
def ty_Y_makeFrame : MethodName := ⟨"TrickleMeshModel", "makeFrame", "(II)I"⟩
theorem tc_Y_makeFrame : Cond.code ty_Y_makeFrame tb_Y_makeFrame 4 (Option.some Jvm.ClassFile.FieldType.int) ∈ tm_wg := List.mem_filter.mpr ⟨List.mem_append_right _ (List.mem_of_getElem? (i := 634) (by decide +kernel)), by decide +kernel⟩
abbrev tb_Y_queue : ByteArray := prog_7_method_5_code
def ty_Y_queue : MethodName := ⟨"TrickleMeshModel", "queue", "(II)V"⟩
theorem tc_Y_queue : Cond.code ty_Y_queue tb_Y_queue 3 (Option.none : Option Jvm.ClassFile.FieldType) ∈ tm_wg := List.mem_filter.mpr ⟨List.mem_append_right _ (List.mem_of_getElem? (i := 638) (by decide +kernel)), by decide +kernel⟩
abbrev tb_Y_first : ByteArray := prog_7_method_4_code
def ty_Y_first : MethodName := ⟨"TrickleMeshModel", "first", "(I)V"⟩
theorem tc_Y_first : Cond.code ty_Y_first tb_Y_first 2 (Option.none : Option Jvm.ClassFile.FieldType) ∈ tm_wg := List.mem_filter.mpr ⟨List.mem_append_right _ (List.mem_of_getElem? (i := 642) (by decide +kernel)), by decide +kernel⟩
abbrev tb_Y_tick : ByteArray := prog_7_method_31_code
def ty_Y_tick : MethodName := ⟨"TrickleMeshModel", "tick", "(I)I"⟩
theorem tc_Y_tick : Cond.code ty_Y_tick tb_Y_tick 3 (Option.some Jvm.ClassFile.FieldType.int) ∈ tm_wg := List.mem_filter.mpr ⟨List.mem_append_right _ (List.mem_of_getElem? (i := 646) (by decide +kernel)), by decide +kernel⟩
abbrev tb_Y_slot : ByteArray := prog_7_method_23_code
def ty_Y_slot : MethodName := ⟨"TrickleMeshModel", "slot", "()V"⟩
theorem tc_Y_slot : Cond.code ty_Y_slot tb_Y_slot 3 (Option.none : Option Jvm.ClassFile.FieldType) ∈ tm_wg := List.mem_filter.mpr ⟨List.mem_append_right _ (List.mem_of_getElem? (i := 650) (by decide +kernel)), by decide +kernel⟩
abbrev tb_Y_air : ByteArray := prog_7_method_20_code
def ty_Y_air : MethodName := ⟨"TrickleMeshModel", "air", "(I)V"⟩
theorem tc_Y_air : Cond.code ty_Y_air tb_Y_air 3 (Option.none : Option Jvm.ClassFile.FieldType) ∈ tm_wg := List.mem_filter.mpr ⟨List.mem_append_right _ (List.mem_of_getElem? (i := 654) (by decide +kernel)), by decide +kernel⟩
abbrev tb_Y_nearWasOn : ByteArray := prog_7_method_19_code
def ty_Y_nearWasOn : MethodName := ⟨"TrickleMeshModel", "nearWasOn", "(I)Z"⟩
theorem tc_Y_nearWasOn : Cond.code ty_Y_nearWasOn tb_Y_nearWasOn 4 (Option.some Jvm.ClassFile.FieldType.boolean) ∈ tm_wg := List.mem_filter.mpr ⟨List.mem_append_right _ (List.mem_of_getElem? (i := 658) (by decide +kernel)), by decide +kernel⟩
abbrev tb_Y_fails : ByteArray := prog_7_method_8_code
def ty_Y_fails : MethodName := ⟨"TrickleMeshModel", "fails", "(I)V"⟩
theorem tc_Y_fails : Cond.code ty_Y_fails tb_Y_fails 5 (Option.none : Option Jvm.ClassFile.FieldType) ∈ tm_wg := List.mem_filter.mpr ⟨List.mem_append_right _ (List.mem_of_getElem? (i := 662) (by decide +kernel)), by decide +kernel⟩
abbrev tb_Y_done : ByteArray := prog_7_method_7_code
def ty_Y_done : MethodName := ⟨"TrickleMeshModel", "done", "(I)V"⟩
theorem tc_Y_done : Cond.code ty_Y_done tb_Y_done 3 (Option.none : Option Jvm.ClassFile.FieldType) ∈ tm_wg := List.mem_filter.mpr ⟨List.mem_append_right _ (List.mem_of_getElem? (i := 666) (by decide +kernel)), by decide +kernel⟩
abbrev tb_Y_choose : ByteArray := prog_7_method_14_code
def ty_Y_choose : MethodName := ⟨"TrickleMeshModel", "choose", "(I)Z"⟩
theorem tc_Y_choose : Cond.code ty_Y_choose tb_Y_choose 9 (Option.some Jvm.ClassFile.FieldType.boolean) ∈ tm_wg := List.mem_filter.mpr ⟨List.mem_append_right _ (List.mem_of_getElem? (i := 670) (by decide +kernel)), by decide +kernel⟩
abbrev tb_Y_allGoals : ByteArray := prog_7_method_13_code
def ty_Y_allGoals : MethodName := ⟨"TrickleMeshModel", "allGoals", "(I)I"⟩
theorem tc_Y_allGoals : Cond.code ty_Y_allGoals tb_Y_allGoals 4 (Option.some Jvm.ClassFile.FieldType.int) ∈ tm_wg := List.mem_filter.mpr ⟨List.mem_append_right _ (List.mem_of_getElem? (i := 674) (by decide +kernel)), by decide +kernel⟩
abbrev tb_Y_announce : ByteArray := prog_7_method_12_code
def ty_Y_announce : MethodName := ⟨"TrickleMeshModel", "announce", "(IIIZ)V"⟩
theorem tc_Y_announce : Cond.code ty_Y_announce tb_Y_announce 7 (Option.none : Option Jvm.ClassFile.FieldType) ∈ tm_wg := List.mem_filter.mpr ⟨List.mem_append_right _ (List.mem_of_getElem? (i := 678) (by decide +kernel)), by decide +kernel⟩
abbrev tb_Y_heardFrom : ByteArray := prog_7_method_21_code
def ty_Y_heardFrom : MethodName := ⟨"TrickleMeshModel", "heardFrom", "(I)I"⟩
theorem tc_Y_heardFrom : Cond.code ty_Y_heardFrom tb_Y_heardFrom 5 (Option.some Jvm.ClassFile.FieldType.int) ∈ tm_wg := List.mem_filter.mpr ⟨List.mem_append_right _ (List.mem_of_getElem? (i := 682) (by decide +kernel)), by decide +kernel⟩
abbrev tb_Y_takes : ByteArray := prog_7_method_22_code
def ty_Y_takes : MethodName := ⟨"TrickleMeshModel", "takes", "(II)V"⟩
theorem tc_Y_takes : Cond.code ty_Y_takes tb_Y_takes 4 (Option.none : Option Jvm.ClassFile.FieldType) ∈ tm_wg := List.mem_filter.mpr ⟨List.mem_append_right _ (List.mem_of_getElem? (i := 686) (by decide +kernel)), by decide +kernel⟩
abbrev tb_Y_advert : ByteArray := prog_7_method_15_code
def ty_Y_advert : MethodName := ⟨"TrickleMeshModel", "advert", "(II)V"⟩
theorem tc_Y_advert : Cond.code ty_Y_advert tb_Y_advert 4 (Option.none : Option Jvm.ClassFile.FieldType) ∈ tm_wg := List.mem_filter.mpr ⟨List.mem_append_right _ (List.mem_of_getElem? (i := 690) (by decide +kernel)), by decide +kernel⟩
abbrev tb_Y_announced : ByteArray := prog_7_method_16_code
def ty_Y_announced : MethodName := ⟨"TrickleMeshModel", "announced", "(III)V"⟩
theorem tc_Y_announced : Cond.code ty_Y_announced tb_Y_announced 10 (Option.none : Option Jvm.ClassFile.FieldType) ∈ tm_wg := List.mem_filter.mpr ⟨List.mem_append_right _ (List.mem_of_getElem? (i := 694) (by decide +kernel)), by decide +kernel⟩
abbrev tb_Y_valued : ByteArray := prog_7_method_18_code
def ty_Y_valued : MethodName := ⟨"TrickleMeshModel", "valued", "(III)V"⟩
theorem tc_Y_valued : Cond.code ty_Y_valued tb_Y_valued 6 (Option.none : Option Jvm.ClassFile.FieldType) ∈ tm_wg := List.mem_filter.mpr ⟨List.mem_append_right _ (List.mem_of_getElem? (i := 698) (by decide +kernel)), by decide +kernel⟩
abbrev tb_Y_unheard : ByteArray := prog_7_method_24_code
def ty_Y_unheard : MethodName := ⟨"TrickleMeshModel", "unheard", "(I)V"⟩
theorem tc_Y_unheard : Cond.code ty_Y_unheard tb_Y_unheard 2 (Option.none : Option Jvm.ClassFile.FieldType) ∈ tm_wg := List.mem_filter.mpr ⟨List.mem_append_right _ (List.mem_of_getElem? (i := 702) (by decide +kernel)), by decide +kernel⟩
abbrev tb_Y_later : ByteArray := prog_7_method_25_code
def ty_Y_later : MethodName := ⟨"TrickleMeshModel", "later", "(I)V"⟩
theorem tc_Y_later : Cond.code ty_Y_later tb_Y_later 3 (Option.none : Option Jvm.ClassFile.FieldType) ∈ tm_wg := List.mem_filter.mpr ⟨List.mem_append_right _ (List.mem_of_getElem? (i := 706) (by decide +kernel)), by decide +kernel⟩
abbrev tb_Y_timer : ByteArray := prog_7_method_11_code
def ty_Y_timer : MethodName := ⟨"TrickleMeshModel", "timer", "(I)V"⟩
theorem tc_Y_timer : Cond.code ty_Y_timer tb_Y_timer 3 (Option.none : Option Jvm.ClassFile.FieldType) ∈ tm_wg := List.mem_filter.mpr ⟨List.mem_append_right _ (List.mem_of_getElem? (i := 710) (by decide +kernel)), by decide +kernel⟩
abbrev tb_Y_queues : ByteArray := prog_7_method_6_code
def ty_Y_queues : MethodName := ⟨"TrickleMeshModel", "queues", "(II)Z"⟩
theorem tc_Y_queues : Cond.code ty_Y_queues tb_Y_queues 5 (Option.some Jvm.ClassFile.FieldType.boolean) ∈ tm_wg := List.mem_filter.mpr ⟨List.mem_append_right _ (List.mem_of_getElem? (i := 714) (by decide +kernel)), by decide +kernel⟩
abbrev tb_Y_node : ByteArray := prog_7_method_32_code
def ty_Y_node : MethodName := ⟨"TrickleMeshModel", "node", "(II)I"⟩
theorem tc_Y_node : Cond.code ty_Y_node tb_Y_node 4 (Option.some Jvm.ClassFile.FieldType.int) ∈ tm_wg := List.mem_filter.mpr ⟨List.mem_append_right _ (List.mem_of_getElem? (i := 718) (by decide +kernel)), by decide +kernel⟩
abbrev tb_Y_next : ByteArray := prog_7_method_33_code
def ty_Y_next : MethodName := ⟨"TrickleMeshModel", "next", "(II)I"⟩
theorem tc_Y_next : Cond.code ty_Y_next tb_Y_next 3 (Option.some Jvm.ClassFile.FieldType.int) ∈ tm_wg := List.mem_filter.mpr ⟨List.mem_append_right _ (List.mem_of_getElem? (i := 722) (by decide +kernel)), by decide +kernel⟩
abbrev tb_Y_known : ByteArray := prog_7_method_34_code
def ty_Y_known : MethodName := ⟨"TrickleMeshModel", "known", "(II)I"⟩
theorem tc_Y_known : Cond.code ty_Y_known tb_Y_known 3 (Option.some Jvm.ClassFile.FieldType.int) ∈ tm_wg := List.mem_filter.mpr ⟨List.mem_append_right _ (List.mem_of_getElem? (i := 726) (by decide +kernel)), by decide +kernel⟩
abbrev tb_Y_delivered : ByteArray := prog_7_method_35_code
def ty_Y_delivered : MethodName := ⟨"TrickleMeshModel", "delivered", "(II)I"⟩
theorem tc_Y_delivered : Cond.code ty_Y_delivered tb_Y_delivered 3 (Option.some Jvm.ClassFile.FieldType.int) ∈ tm_wg := List.mem_filter.mpr ⟨List.mem_append_right _ (List.mem_of_getElem? (i := 730) (by decide +kernel)), by decide +kernel⟩
abbrev tb_Y_count : ByteArray := prog_7_method_36_code
def ty_Y_count : MethodName := ⟨"TrickleMeshModel", "count", "(I)I"⟩
theorem tc_Y_count : Cond.code ty_Y_count tb_Y_count 2 (Option.some Jvm.ClassFile.FieldType.int) ∈ tm_wg := List.mem_filter.mpr ⟨List.mem_append_right _ (List.mem_of_getElem? (i := 734) (by decide +kernel)), by decide +kernel⟩
end
section
/-! the places of the pools that the code names, by program (wip/whole/names.py) -/
def tm_ns : List Cond := [.arrayOver (.object "TrickleMesh$Node"), .arrayOver (.array .int), .arrayOver (.object "TrickleMesh$Frame"), .methodLinkNest "TrickleMesh$Radio" 30 ty_F_init "TrickleMesh", .methodLinkNest "TrickleMesh$Node" 20 ty_T_init "TrickleMesh"]
theorem tm_ns_in : ∀ w ∈ tm_ns, w ∈ lw_tbl := by decide +kernel
theorem ti_L : Cond.initialized "TrickleMeshLaw" ∈ tm_wg := List.mem_filter.mpr ⟨List.mem_append_right _ (List.mem_of_getElem? (i := 0) (by decide +kernel)), by decide +kernel⟩
theorem ti_X : Cond.initialized "TrickleMesh" ∈ tm_wg := List.mem_filter.mpr ⟨List.mem_append_right _ (List.mem_of_getElem? (i := 1) (by decide +kernel)), by decide +kernel⟩
theorem ti_JM : Cond.initialized "java/lang/Math" ∈ tm_wg := List.mem_filter.mpr ⟨List.mem_append_right _ (List.mem_of_getElem? (i := 2) (by decide +kernel)), by decide +kernel⟩
theorem ti_N : Cond.initialized "TrickleMesh$Node" ∈ tm_wg := List.mem_filter.mpr ⟨List.mem_append_right _ (List.mem_of_getElem? (i := 3) (by decide +kernel)), by decide +kernel⟩
theorem ti_R : Cond.initialized "TrickleMesh$Radio" ∈ tm_wg := List.mem_filter.mpr ⟨List.mem_append_right _ (List.mem_of_getElem? (i := 4) (by decide +kernel)), by decide +kernel⟩
theorem ti_F : Cond.initialized "TrickleMesh$Frame" ∈ tm_wg := List.mem_filter.mpr ⟨List.mem_append_right _ (List.mem_of_getElem? (i := 5) (by decide +kernel)), by decide +kernel⟩
theorem ti_T : Cond.initialized "TrickleMesh$Timer" ∈ tm_wg := List.mem_filter.mpr ⟨List.mem_append_right _ (List.mem_of_getElem? (i := 6) (by decide +kernel)), by decide +kernel⟩
theorem ti_JA : Cond.initialized "java/util/Arrays" ∈ tm_wg := List.mem_filter.mpr ⟨List.mem_append_right _ (List.mem_of_getElem? (i := 7) (by decide +kernel)), by decide +kernel⟩
theorem ti_Y : Cond.initialized "TrickleMeshModel" ∈ tm_wg := List.mem_filter.mpr ⟨List.mem_append_right _ (List.mem_of_getElem? (i := 8) (by decide +kernel)), by decide +kernel⟩
theorem ti_JS : Cond.initialized "java/lang/System" ∈ tm_wg := List.mem_filter.mpr ⟨List.mem_append_right _ (List.mem_of_getElem? (i := 9) (by decide +kernel)), by decide +kernel⟩
theorem tg_L_15 : Cond.methodLink "TrickleMeshLaw" 15 ty_X_init ∈ tm_wg ∧ Cond.initialized ty_X_init.cls ∈ tm_wg ∧ Cond.instanceMethod ty_X_init ∈ tm_wg := ⟨List.mem_filter.mpr ⟨List.mem_append_right _ (List.mem_of_getElem? (i := 12) (by decide +kernel)), by decide +kernel⟩, ti_X, List.mem_filter.mpr ⟨List.mem_append_right _ (List.mem_of_getElem? (i := 13) (by decide +kernel)), by decide +kernel⟩⟩
theorem th_X_init : ty_X_init.cls ≠ "java/lang/invoke/MethodHandle" ∧ ty_X_init.cls ≠ "java/lang/invoke/VarHandle" ∧ (parseMethodDescriptor ty_X_init.desc).map (fun d => d.parameters.length) = some 3 := ⟨by decide, by decide, by decide +kernel⟩
theorem tg_X_24 : Cond.methodLink "TrickleMesh" 24 Lib.Math.min.name ∈ tm_wg ∧ Cond.static Lib.Math.min.name ∈ tm_wg ∧ Cond.initialized "java/lang/Math" ∈ tm_wg ∧ Cond.code Lib.Math.min.name Lib.Math.min.code 2 (some .int) ∈ tm_wg := ⟨List.mem_filter.mpr ⟨List.mem_append_right _ (List.mem_of_getElem? (i := 22) (by decide +kernel)), by decide +kernel⟩, List.mem_filter.mpr ⟨List.mem_append_right _ (List.mem_of_getElem? (i := 23) (by decide +kernel)), by decide +kernel⟩, ti_JM, List.mem_filter.mpr ⟨List.mem_append_right _ (List.mem_of_getElem? (i := 24) (by decide +kernel)), by decide +kernel⟩⟩
theorem tg_X_30 : Cond.methodLink "TrickleMesh" 30 Lib.Math.max.name ∈ tm_wg ∧ Cond.static Lib.Math.max.name ∈ tm_wg ∧ Cond.initialized "java/lang/Math" ∈ tm_wg ∧ Cond.code Lib.Math.max.name Lib.Math.max.code 2 (some .int) ∈ tm_wg := ⟨List.mem_filter.mpr ⟨List.mem_append_right _ (List.mem_of_getElem? (i := 25) (by decide +kernel)), by decide +kernel⟩, List.mem_filter.mpr ⟨List.mem_append_right _ (List.mem_of_getElem? (i := 26) (by decide +kernel)), by decide +kernel⟩, ti_JM, List.mem_filter.mpr ⟨List.mem_append_right _ (List.mem_of_getElem? (i := 27) (by decide +kernel)), by decide +kernel⟩⟩
theorem tg_X_39 : Cond.methodLink "TrickleMesh" 39 ty_N_init ∈ tm_wg ∧ Cond.initialized ty_N_init.cls ∈ tm_wg ∧ Cond.instanceMethod ty_N_init ∈ tm_wg := ⟨List.mem_filter.mpr ⟨List.mem_append_right _ (List.mem_of_getElem? (i := 29) (by decide +kernel)), by decide +kernel⟩, ti_N, List.mem_filter.mpr ⟨List.mem_append_right _ (List.mem_of_getElem? (i := 30) (by decide +kernel)), by decide +kernel⟩⟩
theorem th_N_init : ty_N_init.cls ≠ "java/lang/invoke/MethodHandle" ∧ ty_N_init.cls ≠ "java/lang/invoke/VarHandle" ∧ (parseMethodDescriptor ty_N_init.desc).map (fun d => d.parameters.length) = some 1 := ⟨by decide, by decide, by decide +kernel⟩
theorem tg_N_11 : Cond.methodLink "TrickleMesh$Node" 11 ty_R_init ∈ tm_wg ∧ Cond.initialized ty_R_init.cls ∈ tm_wg ∧ Cond.instanceMethod ty_R_init ∈ tm_wg := ⟨List.mem_filter.mpr ⟨List.mem_append_right _ (List.mem_of_getElem? (i := 35) (by decide +kernel)), by decide +kernel⟩, ti_R, List.mem_filter.mpr ⟨List.mem_append_right _ (List.mem_of_getElem? (i := 36) (by decide +kernel)), by decide +kernel⟩⟩
theorem th_R_init : ty_R_init.cls ≠ "java/lang/invoke/MethodHandle" ∧ ty_R_init.cls ≠ "java/lang/invoke/VarHandle" ∧ (parseMethodDescriptor ty_R_init.desc).map (fun d => d.parameters.length) = some 0 := ⟨by decide, by decide, by decide +kernel⟩
theorem tg_R_30 : Cond.methodLinkNest "TrickleMesh$Radio" 30 ty_F_init "TrickleMesh" ∈ tm_ns ∧ Cond.initialized ty_F_init.cls ∈ tm_wg ∧ Cond.instanceMethod ty_F_init ∈ tm_wg := ⟨by decide +kernel, ti_F, List.mem_filter.mpr ⟨List.mem_append_right _ (List.mem_of_getElem? (i := 43) (by decide +kernel)), by decide +kernel⟩⟩
theorem th_F_init : ty_F_init.cls ≠ "java/lang/invoke/MethodHandle" ∧ ty_F_init.cls ≠ "java/lang/invoke/VarHandle" ∧ (parseMethodDescriptor ty_F_init.desc).map (fun d => d.parameters.length) = some 0 := ⟨by decide, by decide, by decide +kernel⟩
theorem tq_X_176 : Cond.fieldLink "TrickleMesh" 176 (tT_F 0).1 (tT_F 0).2.1 (tT_F 0).2.2.1 ∈ tm_wg := List.mem_filter.mpr ⟨List.mem_append_right _ (List.mem_of_getElem? (i := 46) (by decide +kernel)), by decide +kernel⟩
theorem tf_X_176 : tv_F tm_wg tm_ns tm_cl "TrickleMesh" 176 0 0 tR_F tT_F 12 := ⟨rfl, by decide, tl_F, Or.inl tq_X_176⟩
theorem tq_X_181 : Cond.fieldLink "TrickleMesh" 181 (tT_F 1).1 (tT_F 1).2.1 (tT_F 1).2.2.1 ∈ tm_wg := List.mem_filter.mpr ⟨List.mem_append_right _ (List.mem_of_getElem? (i := 47) (by decide +kernel)), by decide +kernel⟩
theorem tf_X_181 : tv_F tm_wg tm_ns tm_cl "TrickleMesh" 181 0 1 tR_F tT_F 12 := ⟨rfl, by decide, tl_F, Or.inl tq_X_181⟩
theorem tq_F_9 : Cond.fieldLink "TrickleMesh$Frame" 9 (tT_F 2).1 (tT_F 2).2.1 (tT_F 2).2.2.1 ∈ tm_wg := List.mem_filter.mpr ⟨List.mem_append_right _ (List.mem_of_getElem? (i := 48) (by decide +kernel)), by decide +kernel⟩
theorem tf_F_9 : tv_F tm_wg tm_ns tm_cl "TrickleMesh$Frame" 9 0 2 tR_F tT_F 12 := ⟨rfl, by decide, tl_F, Or.inl tq_F_9⟩
theorem tq_X_184 : Cond.fieldLink "TrickleMesh" 184 (tT_F 2).1 (tT_F 2).2.1 (tT_F 2).2.2.1 ∈ tm_wg := List.mem_filter.mpr ⟨List.mem_append_right _ (List.mem_of_getElem? (i := 49) (by decide +kernel)), by decide +kernel⟩
theorem tf_X_184 : tv_F tm_wg tm_ns tm_cl "TrickleMesh" 184 0 2 tR_F tT_F 12 := ⟨rfl, by decide, tl_F, Or.inl tq_X_184⟩
theorem tq_X_295 : Cond.fieldLink "TrickleMesh" 295 (tT_F 3).1 (tT_F 3).2.1 (tT_F 3).2.2.1 ∈ tm_wg := List.mem_filter.mpr ⟨List.mem_append_right _ (List.mem_of_getElem? (i := 50) (by decide +kernel)), by decide +kernel⟩
theorem tf_X_295 : tv_F tm_wg tm_ns tm_cl "TrickleMesh" 295 0 3 tR_F tT_F 12 := ⟨rfl, by decide, tl_F, Or.inl tq_X_295⟩
theorem tq_X_298 : Cond.fieldLink "TrickleMesh" 298 (tT_F 4).1 (tT_F 4).2.1 (tT_F 4).2.2.1 ∈ tm_wg := List.mem_filter.mpr ⟨List.mem_append_right _ (List.mem_of_getElem? (i := 51) (by decide +kernel)), by decide +kernel⟩
theorem tf_X_298 : tv_F tm_wg tm_ns tm_cl "TrickleMesh" 298 0 4 tR_F tT_F 12 := ⟨rfl, by decide, tl_F, Or.inl tq_X_298⟩
theorem tq_F_15 : Cond.fieldLink "TrickleMesh$Frame" 15 (tT_F 5).1 (tT_F 5).2.1 (tT_F 5).2.2.1 ∈ tm_wg := List.mem_filter.mpr ⟨List.mem_append_right _ (List.mem_of_getElem? (i := 52) (by decide +kernel)), by decide +kernel⟩
theorem tf_F_15 : tv_F tm_wg tm_ns tm_cl "TrickleMesh$Frame" 15 0 5 tR_F tT_F 12 := ⟨rfl, by decide, tl_F, Or.inl tq_F_15⟩
theorem tq_X_301 : Cond.fieldLink "TrickleMesh" 301 (tT_F 5).1 (tT_F 5).2.1 (tT_F 5).2.2.1 ∈ tm_wg := List.mem_filter.mpr ⟨List.mem_append_right _ (List.mem_of_getElem? (i := 53) (by decide +kernel)), by decide +kernel⟩
theorem tf_X_301 : tv_F tm_wg tm_ns tm_cl "TrickleMesh" 301 0 5 tR_F tT_F 12 := ⟨rfl, by decide, tl_F, Or.inl tq_X_301⟩
theorem tq_X_312 : Cond.fieldLink "TrickleMesh" 312 (tT_F 6).1 (tT_F 6).2.1 (tT_F 6).2.2.1 ∈ tm_wg := List.mem_filter.mpr ⟨List.mem_append_right _ (List.mem_of_getElem? (i := 54) (by decide +kernel)), by decide +kernel⟩
theorem tf_X_312 : tv_F tm_wg tm_ns tm_cl "TrickleMesh" 312 0 6 tR_F tT_F 12 := ⟨rfl, by decide, tl_F, Or.inl tq_X_312⟩
theorem tq_X_315 : Cond.fieldLink "TrickleMesh" 315 (tT_F 7).1 (tT_F 7).2.1 (tT_F 7).2.2.1 ∈ tm_wg := List.mem_filter.mpr ⟨List.mem_append_right _ (List.mem_of_getElem? (i := 55) (by decide +kernel)), by decide +kernel⟩
theorem tf_X_315 : tv_F tm_wg tm_ns tm_cl "TrickleMesh" 315 0 7 tR_F tT_F 12 := ⟨rfl, by decide, tl_F, Or.inl tq_X_315⟩
theorem tq_X_318 : Cond.fieldLink "TrickleMesh" 318 (tT_F 8).1 (tT_F 8).2.1 (tT_F 8).2.2.1 ∈ tm_wg := List.mem_filter.mpr ⟨List.mem_append_right _ (List.mem_of_getElem? (i := 56) (by decide +kernel)), by decide +kernel⟩
theorem tf_X_318 : tv_F tm_wg tm_ns tm_cl "TrickleMesh" 318 0 8 tR_F tT_F 12 := ⟨rfl, by decide, tl_F, Or.inl tq_X_318⟩
theorem tq_X_321 : Cond.fieldLink "TrickleMesh" 321 (tT_F 9).1 (tT_F 9).2.1 (tT_F 9).2.2.1 ∈ tm_wg := List.mem_filter.mpr ⟨List.mem_append_right _ (List.mem_of_getElem? (i := 57) (by decide +kernel)), by decide +kernel⟩
theorem tf_X_321 : tv_F tm_wg tm_ns tm_cl "TrickleMesh" 321 0 9 tR_F tT_F 12 := ⟨rfl, by decide, tl_F, Or.inl tq_X_321⟩
theorem tq_X_324 : Cond.fieldLink "TrickleMesh" 324 (tT_F 10).1 (tT_F 10).2.1 (tT_F 10).2.2.1 ∈ tm_wg := List.mem_filter.mpr ⟨List.mem_append_right _ (List.mem_of_getElem? (i := 58) (by decide +kernel)), by decide +kernel⟩
theorem tf_X_324 : tv_F tm_wg tm_ns tm_cl "TrickleMesh" 324 0 10 tR_F tT_F 12 := ⟨rfl, by decide, tl_F, Or.inl tq_X_324⟩
theorem tq_X_327 : Cond.fieldLink "TrickleMesh" 327 (tT_F 11).1 (tT_F 11).2.1 (tT_F 11).2.2.1 ∈ tm_wg := List.mem_filter.mpr ⟨List.mem_append_right _ (List.mem_of_getElem? (i := 59) (by decide +kernel)), by decide +kernel⟩
theorem tf_X_327 : tv_F tm_wg tm_ns tm_cl "TrickleMesh" 327 0 11 tR_F tT_F 12 := ⟨rfl, by decide, tl_F, Or.inl tq_X_327⟩
theorem tq_R_11 : Cond.fieldLink "TrickleMesh$Radio" 11 (tT_R 0).1 (tT_R 0).2.1 (tT_R 0).2.2.1 ∈ tm_wg := List.mem_filter.mpr ⟨List.mem_append_right _ (List.mem_of_getElem? (i := 86) (by decide +kernel)), by decide +kernel⟩
theorem tf_R_11 : tv_F tm_wg tm_ns tm_cl "TrickleMesh$Radio" 11 2 0 tR_R tT_R 11 := ⟨rfl, by decide, tl_R, Or.inl tq_R_11⟩
theorem tq_X_169 : Cond.fieldLink "TrickleMesh" 169 (tT_R 0).1 (tT_R 0).2.1 (tT_R 0).2.2.1 ∈ tm_wg := List.mem_filter.mpr ⟨List.mem_append_right _ (List.mem_of_getElem? (i := 87) (by decide +kernel)), by decide +kernel⟩
theorem tf_X_169 : tv_F tm_wg tm_ns tm_cl "TrickleMesh" 169 2 0 tR_R tT_R 11 := ⟨rfl, by decide, tl_R, Or.inl tq_X_169⟩
theorem tq_X_73 : Cond.fieldLink "TrickleMesh" 73 (tT_R 1).1 (tT_R 1).2.1 (tT_R 1).2.2.1 ∈ tm_wg := List.mem_filter.mpr ⟨List.mem_append_right _ (List.mem_of_getElem? (i := 88) (by decide +kernel)), by decide +kernel⟩
theorem tf_X_73 : tv_F tm_wg tm_ns tm_cl "TrickleMesh" 73 2 1 tR_R tT_R 11 := ⟨rfl, by decide, tl_R, Or.inl tq_X_73⟩
theorem tq_R_37 : Cond.fieldLink "TrickleMesh$Radio" 37 (tT_R 2).1 (tT_R 2).2.1 (tT_R 2).2.2.1 ∈ tm_wg := List.mem_filter.mpr ⟨List.mem_append_right _ (List.mem_of_getElem? (i := 89) (by decide +kernel)), by decide +kernel⟩
theorem tf_R_37 : tv_F tm_wg tm_ns tm_cl "TrickleMesh$Radio" 37 2 2 tR_R tT_R 11 := ⟨rfl, by decide, tl_R, Or.inl tq_R_37⟩
theorem tq_X_127 : Cond.fieldLink "TrickleMesh" 127 (tT_R 2).1 (tT_R 2).2.1 (tT_R 2).2.2.1 ∈ tm_wg := List.mem_filter.mpr ⟨List.mem_append_right _ (List.mem_of_getElem? (i := 90) (by decide +kernel)), by decide +kernel⟩
theorem tf_X_127 : tv_F tm_wg tm_ns tm_cl "TrickleMesh" 127 2 2 tR_R tT_R 11 := ⟨rfl, by decide, tl_R, Or.inl tq_X_127⟩
theorem tq_R_31 : Cond.fieldLink "TrickleMesh$Radio" 31 (tT_R 3).1 (tT_R 3).2.1 (tT_R 3).2.2.1 ∈ tm_wg := List.mem_filter.mpr ⟨List.mem_append_right _ (List.mem_of_getElem? (i := 91) (by decide +kernel)), by decide +kernel⟩
theorem tf_R_31 : tv_F tm_wg tm_ns tm_cl "TrickleMesh$Radio" 31 2 3 tR_R tT_R 11 := ⟨rfl, by decide, tl_R, Or.inl tq_R_31⟩
theorem tq_X_130 : Cond.fieldLink "TrickleMesh" 130 (tT_R 3).1 (tT_R 3).2.1 (tT_R 3).2.2.1 ∈ tm_wg := List.mem_filter.mpr ⟨List.mem_append_right _ (List.mem_of_getElem? (i := 92) (by decide +kernel)), by decide +kernel⟩
theorem tf_X_130 : tv_F tm_wg tm_ns tm_cl "TrickleMesh" 130 2 3 tR_R tT_R 11 := ⟨rfl, by decide, tl_R, Or.inl tq_X_130⟩
theorem tq_R_34 : Cond.fieldLink "TrickleMesh$Radio" 34 (tT_R 4).1 (tT_R 4).2.1 (tT_R 4).2.2.1 ∈ tm_wg := List.mem_filter.mpr ⟨List.mem_append_right _ (List.mem_of_getElem? (i := 93) (by decide +kernel)), by decide +kernel⟩
theorem tf_R_34 : tv_F tm_wg tm_ns tm_cl "TrickleMesh$Radio" 34 2 4 tR_R tT_R 11 := ⟨rfl, by decide, tl_R, Or.inl tq_R_34⟩
theorem tq_X_133 : Cond.fieldLink "TrickleMesh" 133 (tT_R 4).1 (tT_R 4).2.1 (tT_R 4).2.2.1 ∈ tm_wg := List.mem_filter.mpr ⟨List.mem_append_right _ (List.mem_of_getElem? (i := 94) (by decide +kernel)), by decide +kernel⟩
theorem tf_X_133 : tv_F tm_wg tm_ns tm_cl "TrickleMesh" 133 2 4 tR_R tT_R 11 := ⟨rfl, by decide, tl_R, Or.inl tq_X_133⟩
theorem tq_R_17 : Cond.fieldLink "TrickleMesh$Radio" 17 (tT_R 5).1 (tT_R 5).2.1 (tT_R 5).2.2.1 ∈ tm_wg := List.mem_filter.mpr ⟨List.mem_append_right _ (List.mem_of_getElem? (i := 95) (by decide +kernel)), by decide +kernel⟩
theorem tf_R_17 : tv_F tm_wg tm_ns tm_cl "TrickleMesh$Radio" 17 2 5 tR_R tT_R 11 := ⟨rfl, by decide, tl_R, Or.inl tq_R_17⟩
theorem tq_X_205 : Cond.fieldLink "TrickleMesh" 205 (tT_R 5).1 (tT_R 5).2.1 (tT_R 5).2.2.1 ∈ tm_wg := List.mem_filter.mpr ⟨List.mem_append_right _ (List.mem_of_getElem? (i := 96) (by decide +kernel)), by decide +kernel⟩
theorem tf_X_205 : tv_F tm_wg tm_ns tm_cl "TrickleMesh" 205 2 5 tR_R tT_R 11 := ⟨rfl, by decide, tl_R, Or.inl tq_X_205⟩
theorem tq_X_208 : Cond.fieldLink "TrickleMesh" 208 (tT_R 6).1 (tT_R 6).2.1 (tT_R 6).2.2.1 ∈ tm_wg := List.mem_filter.mpr ⟨List.mem_append_right _ (List.mem_of_getElem? (i := 97) (by decide +kernel)), by decide +kernel⟩
theorem tf_X_208 : tv_F tm_wg tm_ns tm_cl "TrickleMesh" 208 2 6 tR_R tT_R 11 := ⟨rfl, by decide, tl_R, Or.inl tq_X_208⟩
theorem tq_R_21 : Cond.fieldLink "TrickleMesh$Radio" 21 (tT_R 7).1 (tT_R 7).2.1 (tT_R 7).2.2.1 ∈ tm_wg := List.mem_filter.mpr ⟨List.mem_append_right _ (List.mem_of_getElem? (i := 98) (by decide +kernel)), by decide +kernel⟩
theorem tf_R_21 : tv_F tm_wg tm_ns tm_cl "TrickleMesh$Radio" 21 2 7 tR_R tT_R 11 := ⟨rfl, by decide, tl_R, Or.inl tq_R_21⟩
theorem tq_X_211 : Cond.fieldLink "TrickleMesh" 211 (tT_R 7).1 (tT_R 7).2.1 (tT_R 7).2.2.1 ∈ tm_wg := List.mem_filter.mpr ⟨List.mem_append_right _ (List.mem_of_getElem? (i := 99) (by decide +kernel)), by decide +kernel⟩
theorem tf_X_211 : tv_F tm_wg tm_ns tm_cl "TrickleMesh" 211 2 7 tR_R tT_R 11 := ⟨rfl, by decide, tl_R, Or.inl tq_X_211⟩
theorem tq_R_24 : Cond.fieldLink "TrickleMesh$Radio" 24 (tT_R 8).1 (tT_R 8).2.1 (tT_R 8).2.2.1 ∈ tm_wg := List.mem_filter.mpr ⟨List.mem_append_right _ (List.mem_of_getElem? (i := 100) (by decide +kernel)), by decide +kernel⟩
theorem tf_R_24 : tv_F tm_wg tm_ns tm_cl "TrickleMesh$Radio" 24 2 8 tR_R tT_R 11 := ⟨rfl, by decide, tl_R, Or.inl tq_R_24⟩
theorem tq_X_78 : Cond.fieldLink "TrickleMesh" 78 (tT_R 8).1 (tT_R 8).2.1 (tT_R 8).2.2.1 ∈ tm_wg := List.mem_filter.mpr ⟨List.mem_append_right _ (List.mem_of_getElem? (i := 101) (by decide +kernel)), by decide +kernel⟩
theorem tf_X_78 : tv_F tm_wg tm_ns tm_cl "TrickleMesh" 78 2 8 tR_R tT_R 11 := ⟨rfl, by decide, tl_R, Or.inl tq_X_78⟩
theorem tq_X_81 : Cond.fieldLink "TrickleMesh" 81 (tT_R 9).1 (tT_R 9).2.1 (tT_R 9).2.2.1 ∈ tm_wg := List.mem_filter.mpr ⟨List.mem_append_right _ (List.mem_of_getElem? (i := 102) (by decide +kernel)), by decide +kernel⟩
theorem tf_X_81 : tv_F tm_wg tm_ns tm_cl "TrickleMesh" 81 2 9 tR_R tT_R 11 := ⟨rfl, by decide, tl_R, Or.inl tq_X_81⟩
theorem tq_R_27 : Cond.fieldLink "TrickleMesh$Radio" 27 (tT_R 10).1 (tT_R 10).2.1 (tT_R 10).2.2.1 ∈ tm_wg := List.mem_filter.mpr ⟨List.mem_append_right _ (List.mem_of_getElem? (i := 103) (by decide +kernel)), by decide +kernel⟩
theorem tf_R_27 : tv_F tm_wg tm_ns tm_cl "TrickleMesh$Radio" 27 2 10 tR_R tT_R 11 := ⟨rfl, by decide, tl_R, Or.inl tq_R_27⟩
theorem tq_X_227 : Cond.fieldLink "TrickleMesh" 227 (tT_R 10).1 (tT_R 10).2.1 (tT_R 10).2.2.1 ∈ tm_wg := List.mem_filter.mpr ⟨List.mem_append_right _ (List.mem_of_getElem? (i := 104) (by decide +kernel)), by decide +kernel⟩
theorem tf_X_227 : tv_F tm_wg tm_ns tm_cl "TrickleMesh" 227 2 10 tR_R tT_R 11 := ⟨rfl, by decide, tl_R, Or.inl tq_X_227⟩
theorem tg_N_20 : Cond.methodLinkNest "TrickleMesh$Node" 20 ty_T_init "TrickleMesh" ∈ tm_ns ∧ Cond.initialized ty_T_init.cls ∈ tm_wg ∧ Cond.instanceMethod ty_T_init ∈ tm_wg := ⟨by decide +kernel, ti_T, List.mem_filter.mpr ⟨List.mem_append_right _ (List.mem_of_getElem? (i := 131) (by decide +kernel)), by decide +kernel⟩⟩
theorem th_T_init : ty_T_init.cls ≠ "java/lang/invoke/MethodHandle" ∧ ty_T_init.cls ≠ "java/lang/invoke/VarHandle" ∧ (parseMethodDescriptor ty_T_init.desc).map (fun d => d.parameters.length) = some 0 := ⟨by decide, by decide, by decide +kernel⟩
theorem tq_X_52 : Cond.fieldLink "TrickleMesh" 52 (tT_T 0).1 (tT_T 0).2.1 (tT_T 0).2.2.1 ∈ tm_wg := List.mem_filter.mpr ⟨List.mem_append_right _ (List.mem_of_getElem? (i := 134) (by decide +kernel)), by decide +kernel⟩
theorem tf_X_52 : tv_F tm_wg tm_ns tm_cl "TrickleMesh" 52 3 0 tR_T tT_T 5 := ⟨rfl, by decide, tl_T, Or.inl tq_X_52⟩
theorem tq_T_9 : Cond.fieldLink "TrickleMesh$Timer" 9 (tT_T 1).1 (tT_T 1).2.1 (tT_T 1).2.2.1 ∈ tm_wg := List.mem_filter.mpr ⟨List.mem_append_right _ (List.mem_of_getElem? (i := 135) (by decide +kernel)), by decide +kernel⟩
theorem tf_T_9 : tv_F tm_wg tm_ns tm_cl "TrickleMesh$Timer" 9 3 1 tR_T tT_T 5 := ⟨rfl, by decide, tl_T, Or.inl tq_T_9⟩
theorem tq_X_118 : Cond.fieldLink "TrickleMesh" 118 (tT_T 1).1 (tT_T 1).2.1 (tT_T 1).2.2.1 ∈ tm_wg := List.mem_filter.mpr ⟨List.mem_append_right _ (List.mem_of_getElem? (i := 136) (by decide +kernel)), by decide +kernel⟩
theorem tf_X_118 : tv_F tm_wg tm_ns tm_cl "TrickleMesh" 118 3 1 tR_T tT_T 5 := ⟨rfl, by decide, tl_T, Or.inl tq_X_118⟩
theorem tq_X_121 : Cond.fieldLink "TrickleMesh" 121 (tT_T 2).1 (tT_T 2).2.1 (tT_T 2).2.2.1 ∈ tm_wg := List.mem_filter.mpr ⟨List.mem_append_right _ (List.mem_of_getElem? (i := 137) (by decide +kernel)), by decide +kernel⟩
theorem tf_X_121 : tv_F tm_wg tm_ns tm_cl "TrickleMesh" 121 3 2 tR_T tT_T 5 := ⟨rfl, by decide, tl_T, Or.inl tq_X_121⟩
theorem tq_X_258 : Cond.fieldLink "TrickleMesh" 258 (tT_T 3).1 (tT_T 3).2.1 (tT_T 3).2.2.1 ∈ tm_wg := List.mem_filter.mpr ⟨List.mem_append_right _ (List.mem_of_getElem? (i := 138) (by decide +kernel)), by decide +kernel⟩
theorem tf_X_258 : tv_F tm_wg tm_ns tm_cl "TrickleMesh" 258 3 3 tR_T tT_T 5 := ⟨rfl, by decide, tl_T, Or.inl tq_X_258⟩
theorem tq_X_124 : Cond.fieldLink "TrickleMesh" 124 (tT_T 4).1 (tT_T 4).2.1 (tT_T 4).2.2.1 ∈ tm_wg := List.mem_filter.mpr ⟨List.mem_append_right _ (List.mem_of_getElem? (i := 139) (by decide +kernel)), by decide +kernel⟩
theorem tf_X_124 : tv_F tm_wg tm_ns tm_cl "TrickleMesh" 124 3 4 tR_T tT_T 5 := ⟨rfl, by decide, tl_T, Or.inl tq_X_124⟩
theorem tg_N_58 : Cond.methodLink "TrickleMesh$Node" 58 ty_JA_fill ∈ tm_wg ∧ Cond.initialized ty_JA_fill.cls ∈ tm_wg ∧ Cond.static ty_JA_fill ∈ tm_wg := ⟨List.mem_filter.mpr ⟨List.mem_append_right _ (List.mem_of_getElem? (i := 151) (by decide +kernel)), by decide +kernel⟩, ti_JA, List.mem_filter.mpr ⟨List.mem_append_right _ (List.mem_of_getElem? (i := 152) (by decide +kernel)), by decide +kernel⟩⟩
theorem th_JA_fill : ty_JA_fill.cls ≠ "java/lang/invoke/MethodHandle" ∧ ty_JA_fill.cls ≠ "java/lang/invoke/VarHandle" ∧ (parseMethodDescriptor ty_JA_fill.desc).map (fun d => d.parameters.length) = some 2 := ⟨by decide, by decide, by decide +kernel⟩
theorem tq_N_55 : Cond.fieldLink "TrickleMesh$Node" 55 (tT_N 0).1 (tT_N 0).2.1 (tT_N 0).2.2.1 ∈ tm_wg := List.mem_filter.mpr ⟨List.mem_append_right _ (List.mem_of_getElem? (i := 154) (by decide +kernel)), by decide +kernel⟩
theorem tf_N_55 : tv_F tm_wg tm_ns tm_cl "TrickleMesh$Node" 55 1 0 tR_N tT_N 14 := ⟨rfl, by decide, tl_N, Or.inl tq_N_55⟩
theorem tq_X_221 : Cond.fieldLink "TrickleMesh" 221 (tT_N 0).1 (tT_N 0).2.1 (tT_N 0).2.2.1 ∈ tm_wg := List.mem_filter.mpr ⟨List.mem_append_right _ (List.mem_of_getElem? (i := 155) (by decide +kernel)), by decide +kernel⟩
theorem tf_X_221 : tv_F tm_wg tm_ns tm_cl "TrickleMesh" 221 1 0 tR_N tT_N 14 := ⟨rfl, by decide, tl_N, Or.inl tq_X_221⟩
theorem tq_N_12 : Cond.fieldLink "TrickleMesh$Node" 12 (tT_N 1).1 (tT_N 1).2.1 (tT_N 1).2.2.1 ∈ tm_wg := List.mem_filter.mpr ⟨List.mem_append_right _ (List.mem_of_getElem? (i := 156) (by decide +kernel)), by decide +kernel⟩
theorem tf_N_12 : tv_F tm_wg tm_ns tm_cl "TrickleMesh$Node" 12 1 1 tR_N tT_N 14 := ⟨rfl, by decide, tl_N, Or.inl tq_N_12⟩
theorem tq_X_69 : Cond.fieldLink "TrickleMesh" 69 (tT_N 1).1 (tT_N 1).2.1 (tT_N 1).2.2.1 ∈ tm_wg := List.mem_filter.mpr ⟨List.mem_append_right _ (List.mem_of_getElem? (i := 157) (by decide +kernel)), by decide +kernel⟩
theorem tf_X_69 : tv_F tm_wg tm_ns tm_cl "TrickleMesh" 69 1 1 tR_N tT_N 14 := ⟨rfl, by decide, tl_N, Or.inl tq_X_69⟩
theorem tq_N_21 : Cond.fieldLink "TrickleMesh$Node" 21 (tT_N 2).1 (tT_N 2).2.1 (tT_N 2).2.2.1 ∈ tm_wg := List.mem_filter.mpr ⟨List.mem_append_right _ (List.mem_of_getElem? (i := 158) (by decide +kernel)), by decide +kernel⟩
theorem tf_N_21 : tv_F tm_wg tm_ns tm_cl "TrickleMesh$Node" 21 1 2 tR_N tT_N 14 := ⟨rfl, by decide, tl_N, Or.inl tq_N_21⟩
theorem tq_X_48 : Cond.fieldLink "TrickleMesh" 48 (tT_N 2).1 (tT_N 2).2.1 (tT_N 2).2.2.1 ∈ tm_wg := List.mem_filter.mpr ⟨List.mem_append_right _ (List.mem_of_getElem? (i := 159) (by decide +kernel)), by decide +kernel⟩
theorem tf_X_48 : tv_F tm_wg tm_ns tm_cl "TrickleMesh" 48 1 2 tR_N tT_N 14 := ⟨rfl, by decide, tl_N, Or.inl tq_X_48⟩
theorem tq_N_25 : Cond.fieldLink "TrickleMesh$Node" 25 (tT_N 3).1 (tT_N 3).2.1 (tT_N 3).2.2.1 ∈ tm_wg := List.mem_filter.mpr ⟨List.mem_append_right _ (List.mem_of_getElem? (i := 160) (by decide +kernel)), by decide +kernel⟩
theorem tf_N_25 : tv_F tm_wg tm_ns tm_cl "TrickleMesh$Node" 25 1 3 tR_N tT_N 14 := ⟨rfl, by decide, tl_N, Or.inl tq_N_25⟩
theorem tq_X_150 : Cond.fieldLink "TrickleMesh" 150 (tT_N 3).1 (tT_N 3).2.1 (tT_N 3).2.2.1 ∈ tm_wg := List.mem_filter.mpr ⟨List.mem_append_right _ (List.mem_of_getElem? (i := 161) (by decide +kernel)), by decide +kernel⟩
theorem tf_X_150 : tv_F tm_wg tm_ns tm_cl "TrickleMesh" 150 1 3 tR_N tT_N 14 := ⟨rfl, by decide, tl_N, Or.inl tq_X_150⟩
theorem tq_N_29 : Cond.fieldLink "TrickleMesh$Node" 29 (tT_N 4).1 (tT_N 4).2.1 (tT_N 4).2.2.1 ∈ tm_wg := List.mem_filter.mpr ⟨List.mem_append_right _ (List.mem_of_getElem? (i := 162) (by decide +kernel)), by decide +kernel⟩
theorem tf_N_29 : tv_F tm_wg tm_ns tm_cl "TrickleMesh$Node" 29 1 4 tR_N tT_N 14 := ⟨rfl, by decide, tl_N, Or.inl tq_N_29⟩
theorem tq_X_147 : Cond.fieldLink "TrickleMesh" 147 (tT_N 4).1 (tT_N 4).2.1 (tT_N 4).2.2.1 ∈ tm_wg := List.mem_filter.mpr ⟨List.mem_append_right _ (List.mem_of_getElem? (i := 163) (by decide +kernel)), by decide +kernel⟩
theorem tf_X_147 : tv_F tm_wg tm_ns tm_cl "TrickleMesh" 147 1 4 tR_N tT_N 14 := ⟨rfl, by decide, tl_N, Or.inl tq_X_147⟩
theorem tq_N_32 : Cond.fieldLink "TrickleMesh$Node" 32 (tT_N 5).1 (tT_N 5).2.1 (tT_N 5).2.2.1 ∈ tm_wg := List.mem_filter.mpr ⟨List.mem_append_right _ (List.mem_of_getElem? (i := 164) (by decide +kernel)), by decide +kernel⟩
theorem tf_N_32 : tv_F tm_wg tm_ns tm_cl "TrickleMesh$Node" 32 1 5 tR_N tT_N 14 := ⟨rfl, by decide, tl_N, Or.inl tq_N_32⟩
theorem tq_X_143 : Cond.fieldLink "TrickleMesh" 143 (tT_N 5).1 (tT_N 5).2.1 (tT_N 5).2.2.1 ∈ tm_wg := List.mem_filter.mpr ⟨List.mem_append_right _ (List.mem_of_getElem? (i := 165) (by decide +kernel)), by decide +kernel⟩
theorem tf_X_143 : tv_F tm_wg tm_ns tm_cl "TrickleMesh" 143 1 5 tR_N tT_N 14 := ⟨rfl, by decide, tl_N, Or.inl tq_X_143⟩
theorem tq_N_35 : Cond.fieldLink "TrickleMesh$Node" 35 (tT_N 6).1 (tT_N 6).2.1 (tT_N 6).2.2.1 ∈ tm_wg := List.mem_filter.mpr ⟨List.mem_append_right _ (List.mem_of_getElem? (i := 166) (by decide +kernel)), by decide +kernel⟩
theorem tf_N_35 : tv_F tm_wg tm_ns tm_cl "TrickleMesh$Node" 35 1 6 tR_N tT_N 14 := ⟨rfl, by decide, tl_N, Or.inl tq_N_35⟩
theorem tq_X_274 : Cond.fieldLink "TrickleMesh" 274 (tT_N 6).1 (tT_N 6).2.1 (tT_N 6).2.2.1 ∈ tm_wg := List.mem_filter.mpr ⟨List.mem_append_right _ (List.mem_of_getElem? (i := 167) (by decide +kernel)), by decide +kernel⟩
theorem tf_X_274 : tv_F tm_wg tm_ns tm_cl "TrickleMesh" 274 1 6 tR_N tT_N 14 := ⟨rfl, by decide, tl_N, Or.inl tq_X_274⟩
theorem tq_N_38 : Cond.fieldLink "TrickleMesh$Node" 38 (tT_N 7).1 (tT_N 7).2.1 (tT_N 7).2.2.1 ∈ tm_wg := List.mem_filter.mpr ⟨List.mem_append_right _ (List.mem_of_getElem? (i := 168) (by decide +kernel)), by decide +kernel⟩
theorem tf_N_38 : tv_F tm_wg tm_ns tm_cl "TrickleMesh$Node" 38 1 7 tR_N tT_N 14 := ⟨rfl, by decide, tl_N, Or.inl tq_N_38⟩
theorem tq_X_156 : Cond.fieldLink "TrickleMesh" 156 (tT_N 7).1 (tT_N 7).2.1 (tT_N 7).2.2.1 ∈ tm_wg := List.mem_filter.mpr ⟨List.mem_append_right _ (List.mem_of_getElem? (i := 169) (by decide +kernel)), by decide +kernel⟩
theorem tf_X_156 : tv_F tm_wg tm_ns tm_cl "TrickleMesh" 156 1 7 tR_N tT_N 14 := ⟨rfl, by decide, tl_N, Or.inl tq_X_156⟩
theorem tq_X_153 : Cond.fieldLink "TrickleMesh" 153 (tT_N 8).1 (tT_N 8).2.1 (tT_N 8).2.2.1 ∈ tm_wg := List.mem_filter.mpr ⟨List.mem_append_right _ (List.mem_of_getElem? (i := 170) (by decide +kernel)), by decide +kernel⟩
theorem tf_X_153 : tv_F tm_wg tm_ns tm_cl "TrickleMesh" 153 1 8 tR_N tT_N 14 := ⟨rfl, by decide, tl_N, Or.inl tq_X_153⟩
theorem tq_N_41 : Cond.fieldLink "TrickleMesh$Node" 41 (tT_N 9).1 (tT_N 9).2.1 (tT_N 9).2.2.1 ∈ tm_wg := List.mem_filter.mpr ⟨List.mem_append_right _ (List.mem_of_getElem? (i := 171) (by decide +kernel)), by decide +kernel⟩
theorem tf_N_41 : tv_F tm_wg tm_ns tm_cl "TrickleMesh$Node" 41 1 9 tR_N tT_N 14 := ⟨rfl, by decide, tl_N, Or.inl tq_N_41⟩
theorem tq_X_66 : Cond.fieldLink "TrickleMesh" 66 (tT_N 9).1 (tT_N 9).2.1 (tT_N 9).2.2.1 ∈ tm_wg := List.mem_filter.mpr ⟨List.mem_append_right _ (List.mem_of_getElem? (i := 172) (by decide +kernel)), by decide +kernel⟩
theorem tf_X_66 : tv_F tm_wg tm_ns tm_cl "TrickleMesh" 66 1 9 tR_N tT_N 14 := ⟨rfl, by decide, tl_N, Or.inl tq_X_66⟩
theorem tq_X_42 : Cond.fieldLink "TrickleMesh" 42 (tT_N 10).1 (tT_N 10).2.1 (tT_N 10).2.2.1 ∈ tm_wg := List.mem_filter.mpr ⟨List.mem_append_right _ (List.mem_of_getElem? (i := 173) (by decide +kernel)), by decide +kernel⟩
theorem tf_X_42 : tv_F tm_wg tm_ns tm_cl "TrickleMesh" 42 1 10 tR_N tT_N 14 := ⟨rfl, by decide, tl_N, Or.inl tq_X_42⟩
theorem tq_N_45 : Cond.fieldLink "TrickleMesh$Node" 45 (tT_N 11).1 (tT_N 11).2.1 (tT_N 11).2.2.1 ∈ tm_wg := List.mem_filter.mpr ⟨List.mem_append_right _ (List.mem_of_getElem? (i := 174) (by decide +kernel)), by decide +kernel⟩
theorem tf_N_45 : tv_F tm_wg tm_ns tm_cl "TrickleMesh$Node" 45 1 11 tR_N tT_N 14 := ⟨rfl, by decide, tl_N, Or.inl tq_N_45⟩
theorem tq_X_45 : Cond.fieldLink "TrickleMesh" 45 (tT_N 11).1 (tT_N 11).2.1 (tT_N 11).2.2.1 ∈ tm_wg := List.mem_filter.mpr ⟨List.mem_append_right _ (List.mem_of_getElem? (i := 175) (by decide +kernel)), by decide +kernel⟩
theorem tf_X_45 : tv_F tm_wg tm_ns tm_cl "TrickleMesh" 45 1 11 tR_N tT_N 14 := ⟨rfl, by decide, tl_N, Or.inl tq_X_45⟩
theorem tq_N_49 : Cond.fieldLink "TrickleMesh$Node" 49 (tT_N 12).1 (tT_N 12).2.1 (tT_N 12).2.2.1 ∈ tm_wg := List.mem_filter.mpr ⟨List.mem_append_right _ (List.mem_of_getElem? (i := 176) (by decide +kernel)), by decide +kernel⟩
theorem tf_N_49 : tv_F tm_wg tm_ns tm_cl "TrickleMesh$Node" 49 1 12 tR_N tT_N 14 := ⟨rfl, by decide, tl_N, Or.inl tq_N_49⟩
theorem tq_X_115 : Cond.fieldLink "TrickleMesh" 115 (tT_N 12).1 (tT_N 12).2.1 (tT_N 12).2.2.1 ∈ tm_wg := List.mem_filter.mpr ⟨List.mem_append_right _ (List.mem_of_getElem? (i := 177) (by decide +kernel)), by decide +kernel⟩
theorem tf_X_115 : tv_F tm_wg tm_ns tm_cl "TrickleMesh" 115 1 12 tR_N tT_N 14 := ⟨rfl, by decide, tl_N, Or.inl tq_X_115⟩
theorem tq_N_52 : Cond.fieldLink "TrickleMesh$Node" 52 (tT_N 13).1 (tT_N 13).2.1 (tT_N 13).2.2.1 ∈ tm_wg := List.mem_filter.mpr ⟨List.mem_append_right _ (List.mem_of_getElem? (i := 178) (by decide +kernel)), by decide +kernel⟩
theorem tf_N_52 : tv_F tm_wg tm_ns tm_cl "TrickleMesh$Node" 52 1 13 tR_N tT_N 14 := ⟨rfl, by decide, tl_N, Or.inl tq_N_52⟩
theorem tq_X_136 : Cond.fieldLink "TrickleMesh" 136 (tT_N 13).1 (tT_N 13).2.1 (tT_N 13).2.2.1 ∈ tm_wg := List.mem_filter.mpr ⟨List.mem_append_right _ (List.mem_of_getElem? (i := 179) (by decide +kernel)), by decide +kernel⟩
theorem tf_X_136 : tv_F tm_wg tm_ns tm_cl "TrickleMesh" 136 1 13 tR_N tT_N 14 := ⟨rfl, by decide, tl_N, Or.inl tq_X_136⟩
theorem tg_X_58 : Cond.methodLink "TrickleMesh" 58 ty_X_resetTimer ∈ tm_wg ∧ Cond.initialized ty_X_resetTimer.cls ∈ tm_wg ∧ Cond.instanceMethod ty_X_resetTimer ∈ tm_wg ∧ Cond.selects "TrickleMesh" ty_X_resetTimer ty_X_resetTimer ∈ tm_wg := ⟨List.mem_filter.mpr ⟨List.mem_append_right _ (List.mem_of_getElem? (i := 209) (by decide +kernel)), by decide +kernel⟩, ti_X, ⟨List.mem_filter.mpr ⟨List.mem_append_right _ (List.mem_of_getElem? (i := 211) (by decide +kernel)), by decide +kernel⟩, List.mem_filter.mpr ⟨List.mem_append_left _ (List.mem_of_getElem? (i := 0) (by decide +kernel)), by decide +kernel⟩⟩⟩
theorem th_X_resetTimer : ty_X_resetTimer.cls ≠ "java/lang/invoke/MethodHandle" ∧ ty_X_resetTimer.cls ≠ "java/lang/invoke/VarHandle" ∧ (parseMethodDescriptor ty_X_resetTimer.desc).map (fun d => d.parameters.length) = some 1 := ⟨by decide, by decide, by decide +kernel⟩
theorem tg_X_261 : Cond.methodLink "TrickleMesh" 261 ty_X_beginInterval ∈ tm_wg ∧ Cond.initialized ty_X_beginInterval.cls ∈ tm_wg ∧ Cond.instanceMethod ty_X_beginInterval ∈ tm_wg ∧ Cond.selects "TrickleMesh" ty_X_beginInterval ty_X_beginInterval ∈ tm_wg := ⟨List.mem_filter.mpr ⟨List.mem_append_right _ (List.mem_of_getElem? (i := 213) (by decide +kernel)), by decide +kernel⟩, ti_X, ⟨List.mem_filter.mpr ⟨List.mem_append_right _ (List.mem_of_getElem? (i := 215) (by decide +kernel)), by decide +kernel⟩, List.mem_filter.mpr ⟨List.mem_append_left _ (List.mem_of_getElem? (i := 1) (by decide +kernel)), by decide +kernel⟩⟩⟩
theorem th_X_beginInterval : ty_X_beginInterval.cls ≠ "java/lang/invoke/MethodHandle" ∧ ty_X_beginInterval.cls ≠ "java/lang/invoke/VarHandle" ∧ (parseMethodDescriptor ty_X_beginInterval.desc).map (fun d => d.parameters.length) = some 2 := ⟨by decide, by decide, by decide +kernel⟩
theorem tg_X_187 : Cond.methodLink "TrickleMesh" 187 ty_X_draw ∈ tm_wg ∧ Cond.initialized ty_X_draw.cls ∈ tm_wg ∧ Cond.instanceMethod ty_X_draw ∈ tm_wg ∧ Cond.selects "TrickleMesh" ty_X_draw ty_X_draw ∈ tm_wg := ⟨List.mem_filter.mpr ⟨List.mem_append_right _ (List.mem_of_getElem? (i := 217) (by decide +kernel)), by decide +kernel⟩, ti_X, ⟨List.mem_filter.mpr ⟨List.mem_append_right _ (List.mem_of_getElem? (i := 219) (by decide +kernel)), by decide +kernel⟩, List.mem_filter.mpr ⟨List.mem_append_left _ (List.mem_of_getElem? (i := 2) (by decide +kernel)), by decide +kernel⟩⟩⟩
theorem th_X_draw : ty_X_draw.cls ≠ "java/lang/invoke/MethodHandle" ∧ ty_X_draw.cls ≠ "java/lang/invoke/VarHandle" ∧ (parseMethodDescriptor ty_X_draw.desc).map (fun d => d.parameters.length) = some 1 := ⟨by decide, by decide, by decide +kernel⟩
theorem tk_X_168 : Cond.constant "TrickleMesh" 168 1103515245 ∈ tm_wg := List.mem_filter.mpr ⟨List.mem_append_right _ (List.mem_of_getElem? (i := 221) (by decide +kernel)), by decide +kernel⟩
theorem tq_X_33 : Cond.fieldLink "TrickleMesh" 33 (tT_X 0).1 (tT_X 0).2.1 (tT_X 0).2.2.1 ∈ tm_wg := List.mem_filter.mpr ⟨List.mem_append_right _ (List.mem_of_getElem? (i := 222) (by decide +kernel)), by decide +kernel⟩
theorem tf_X_33 : tv_F tm_wg tm_ns tm_cl "TrickleMesh" 33 4 0 tR_X tT_X 11 := ⟨rfl, by decide, tl_X, Or.inl tq_X_33⟩
theorem tq_X_36 : Cond.fieldLink "TrickleMesh" 36 (tT_X 1).1 (tT_X 1).2.1 (tT_X 1).2.2.1 ∈ tm_wg := List.mem_filter.mpr ⟨List.mem_append_right _ (List.mem_of_getElem? (i := 223) (by decide +kernel)), by decide +kernel⟩
theorem tf_X_36 : tv_F tm_wg tm_ns tm_cl "TrickleMesh" 36 4 1 tR_X tT_X 11 := ⟨rfl, by decide, tl_X, Or.inl tq_X_36⟩
theorem tq_X_11 : Cond.fieldLink "TrickleMesh" 11 (tT_X 2).1 (tT_X 2).2.1 (tT_X 2).2.2.1 ∈ tm_wg := List.mem_filter.mpr ⟨List.mem_append_right _ (List.mem_of_getElem? (i := 224) (by decide +kernel)), by decide +kernel⟩
theorem tf_X_11 : tv_F tm_wg tm_ns tm_cl "TrickleMesh" 11 4 2 tR_X tT_X 11 := ⟨rfl, by decide, tl_X, Or.inl tq_X_11⟩
theorem tq_X_17 : Cond.fieldLink "TrickleMesh" 17 (tT_X 3).1 (tT_X 3).2.1 (tT_X 3).2.2.1 ∈ tm_wg := List.mem_filter.mpr ⟨List.mem_append_right _ (List.mem_of_getElem? (i := 225) (by decide +kernel)), by decide +kernel⟩
theorem tf_X_17 : tv_F tm_wg tm_ns tm_cl "TrickleMesh" 17 4 3 tR_X tT_X 11 := ⟨rfl, by decide, tl_X, Or.inl tq_X_17⟩
theorem tq_X_20 : Cond.fieldLink "TrickleMesh" 20 (tT_X 4).1 (tT_X 4).2.1 (tT_X 4).2.2.1 ∈ tm_wg := List.mem_filter.mpr ⟨List.mem_append_right _ (List.mem_of_getElem? (i := 226) (by decide +kernel)), by decide +kernel⟩
theorem tf_X_20 : tv_F tm_wg tm_ns tm_cl "TrickleMesh" 20 4 4 tR_X tT_X 11 := ⟨rfl, by decide, tl_X, Or.inl tq_X_20⟩
theorem tq_X_91 : Cond.fieldLink "TrickleMesh" 91 (tT_X 5).1 (tT_X 5).2.1 (tT_X 5).2.2.1 ∈ tm_wg := List.mem_filter.mpr ⟨List.mem_append_right _ (List.mem_of_getElem? (i := 227) (by decide +kernel)), by decide +kernel⟩
theorem tf_X_91 : tv_F tm_wg tm_ns tm_cl "TrickleMesh" 91 4 5 tR_X tT_X 11 := ⟨rfl, by decide, tl_X, Or.inl tq_X_91⟩
theorem tq_X_173 : Cond.fieldLink "TrickleMesh" 173 (tT_X 6).1 (tT_X 6).2.1 (tT_X 6).2.2.1 ∈ tm_wg := List.mem_filter.mpr ⟨List.mem_append_right _ (List.mem_of_getElem? (i := 228) (by decide +kernel)), by decide +kernel⟩
theorem tf_X_173 : tv_F tm_wg tm_ns tm_cl "TrickleMesh" 173 4 6 tR_X tT_X 11 := ⟨rfl, by decide, tl_X, Or.inl tq_X_173⟩
theorem tq_X_84 : Cond.fieldLink "TrickleMesh" 84 (tT_X 7).1 (tT_X 7).2.1 (tT_X 7).2.2.1 ∈ tm_wg := List.mem_filter.mpr ⟨List.mem_append_right _ (List.mem_of_getElem? (i := 229) (by decide +kernel)), by decide +kernel⟩
theorem tf_X_84 : tv_F tm_wg tm_ns tm_cl "TrickleMesh" 84 4 7 tR_X tT_X 11 := ⟨rfl, by decide, tl_X, Or.inl tq_X_84⟩
theorem tq_X_159 : Cond.fieldLink "TrickleMesh" 159 (tT_X 8).1 (tT_X 8).2.1 (tT_X 8).2.2.1 ∈ tm_wg := List.mem_filter.mpr ⟨List.mem_append_right _ (List.mem_of_getElem? (i := 230) (by decide +kernel)), by decide +kernel⟩
theorem tf_X_159 : tv_F tm_wg tm_ns tm_cl "TrickleMesh" 159 4 8 tR_X tT_X 11 := ⟨rfl, by decide, tl_X, Or.inl tq_X_159⟩
theorem tq_X_162 : Cond.fieldLink "TrickleMesh" 162 (tT_X 9).1 (tT_X 9).2.1 (tT_X 9).2.2.1 ∈ tm_wg := List.mem_filter.mpr ⟨List.mem_append_right _ (List.mem_of_getElem? (i := 231) (by decide +kernel)), by decide +kernel⟩
theorem tf_X_162 : tv_F tm_wg tm_ns tm_cl "TrickleMesh" 162 4 9 tR_X tT_X 11 := ⟨rfl, by decide, tl_X, Or.inl tq_X_162⟩
theorem tq_X_165 : Cond.fieldLink "TrickleMesh" 165 (tT_X 10).1 (tT_X 10).2.1 (tT_X 10).2.2.1 ∈ tm_wg := List.mem_filter.mpr ⟨List.mem_append_right _ (List.mem_of_getElem? (i := 232) (by decide +kernel)), by decide +kernel⟩
theorem tf_X_165 : tv_F tm_wg tm_ns tm_cl "TrickleMesh" 165 4 10 tR_X tT_X 11 := ⟨rfl, by decide, tl_X, Or.inl tq_X_165⟩
theorem tg_L_21 : Cond.methodLink "TrickleMeshLaw" 21 ty_X_link ∈ tm_wg ∧ Cond.initialized ty_X_link.cls ∈ tm_wg ∧ Cond.instanceMethod ty_X_link ∈ tm_wg ∧ Cond.selects "TrickleMesh" ty_X_link ty_X_link ∈ tm_wg := ⟨List.mem_filter.mpr ⟨List.mem_append_right _ (List.mem_of_getElem? (i := 256) (by decide +kernel)), by decide +kernel⟩, ti_X, ⟨List.mem_filter.mpr ⟨List.mem_append_right _ (List.mem_of_getElem? (i := 257) (by decide +kernel)), by decide +kernel⟩, List.mem_filter.mpr ⟨List.mem_append_right _ (List.mem_of_getElem? (i := 258) (by decide +kernel)), by decide +kernel⟩⟩⟩
theorem th_X_link : ty_X_link.cls ≠ "java/lang/invoke/MethodHandle" ∧ ty_X_link.cls ≠ "java/lang/invoke/VarHandle" ∧ (parseMethodDescriptor ty_X_link.desc).map (fun d => d.parameters.length) = some 3 := ⟨by decide, by decide, by decide +kernel⟩
theorem tg_X_62 : Cond.methodLink "TrickleMesh" 62 ty_X_isNode ∈ tm_wg ∧ Cond.initialized ty_X_isNode.cls ∈ tm_wg ∧ Cond.static ty_X_isNode ∈ tm_wg := ⟨List.mem_filter.mpr ⟨List.mem_append_right _ (List.mem_of_getElem? (i := 260) (by decide +kernel)), by decide +kernel⟩, ti_X, List.mem_filter.mpr ⟨List.mem_append_right _ (List.mem_of_getElem? (i := 261) (by decide +kernel)), by decide +kernel⟩⟩
theorem th_X_isNode : ty_X_isNode.cls ≠ "java/lang/invoke/MethodHandle" ∧ ty_X_isNode.cls ≠ "java/lang/invoke/VarHandle" ∧ (parseMethodDescriptor ty_X_isNode.desc).map (fun d => d.parameters.length) = some 1 := ⟨by decide, by decide, by decide +kernel⟩
theorem tg_L_26 : Cond.methodLink "TrickleMeshLaw" 26 ty_X_kill ∈ tm_wg ∧ Cond.initialized ty_X_kill.cls ∈ tm_wg ∧ Cond.instanceMethod ty_X_kill ∈ tm_wg ∧ Cond.selects "TrickleMesh" ty_X_kill ty_X_kill ∈ tm_wg := ⟨List.mem_filter.mpr ⟨List.mem_append_right _ (List.mem_of_getElem? (i := 263) (by decide +kernel)), by decide +kernel⟩, ti_X, ⟨List.mem_filter.mpr ⟨List.mem_append_right _ (List.mem_of_getElem? (i := 264) (by decide +kernel)), by decide +kernel⟩, List.mem_filter.mpr ⟨List.mem_append_right _ (List.mem_of_getElem? (i := 265) (by decide +kernel)), by decide +kernel⟩⟩⟩
theorem th_X_kill : ty_X_kill.cls ≠ "java/lang/invoke/MethodHandle" ∧ ty_X_kill.cls ≠ "java/lang/invoke/VarHandle" ∧ (parseMethodDescriptor ty_X_kill.desc).map (fun d => d.parameters.length) = some 1 := ⟨by decide, by decide, by decide +kernel⟩
theorem tg_L_31 : Cond.methodLink "TrickleMeshLaw" 31 ty_X_repair ∈ tm_wg ∧ Cond.initialized ty_X_repair.cls ∈ tm_wg ∧ Cond.instanceMethod ty_X_repair ∈ tm_wg ∧ Cond.selects "TrickleMesh" ty_X_repair ty_X_repair ∈ tm_wg := ⟨List.mem_filter.mpr ⟨List.mem_append_right _ (List.mem_of_getElem? (i := 267) (by decide +kernel)), by decide +kernel⟩, ti_X, ⟨List.mem_filter.mpr ⟨List.mem_append_right _ (List.mem_of_getElem? (i := 268) (by decide +kernel)), by decide +kernel⟩, List.mem_filter.mpr ⟨List.mem_append_right _ (List.mem_of_getElem? (i := 269) (by decide +kernel)), by decide +kernel⟩⟩⟩
theorem th_X_repair : ty_X_repair.cls ≠ "java/lang/invoke/MethodHandle" ∧ ty_X_repair.cls ≠ "java/lang/invoke/VarHandle" ∧ (parseMethodDescriptor ty_X_repair.desc).map (fun d => d.parameters.length) = some 0 := ⟨by decide, by decide, by decide +kernel⟩
theorem tg_L_36 : Cond.methodLink "TrickleMeshLaw" 36 ty_X_send ∈ tm_wg ∧ Cond.initialized ty_X_send.cls ∈ tm_wg ∧ Cond.instanceMethod ty_X_send ∈ tm_wg ∧ Cond.selects "TrickleMesh" ty_X_send ty_X_send ∈ tm_wg := ⟨List.mem_filter.mpr ⟨List.mem_append_right _ (List.mem_of_getElem? (i := 271) (by decide +kernel)), by decide +kernel⟩, ti_X, ⟨List.mem_filter.mpr ⟨List.mem_append_right _ (List.mem_of_getElem? (i := 272) (by decide +kernel)), by decide +kernel⟩, List.mem_filter.mpr ⟨List.mem_append_right _ (List.mem_of_getElem? (i := 273) (by decide +kernel)), by decide +kernel⟩⟩⟩
theorem th_X_send : ty_X_send.cls ≠ "java/lang/invoke/MethodHandle" ∧ ty_X_send.cls ≠ "java/lang/invoke/VarHandle" ∧ (parseMethodDescriptor ty_X_send.desc).map (fun d => d.parameters.length) = some 4 := ⟨by decide, by decide, by decide +kernel⟩
theorem tg_X_87 : Cond.methodLink "TrickleMesh" 87 ty_X_sendOn ∈ tm_wg ∧ Cond.initialized ty_X_sendOn.cls ∈ tm_wg ∧ Cond.instanceMethod ty_X_sendOn ∈ tm_wg ∧ Cond.selects "TrickleMesh" ty_X_sendOn ty_X_sendOn ∈ tm_wg := ⟨List.mem_filter.mpr ⟨List.mem_append_right _ (List.mem_of_getElem? (i := 275) (by decide +kernel)), by decide +kernel⟩, ti_X, ⟨List.mem_filter.mpr ⟨List.mem_append_right _ (List.mem_of_getElem? (i := 277) (by decide +kernel)), by decide +kernel⟩, List.mem_filter.mpr ⟨List.mem_append_left _ (List.mem_of_getElem? (i := 3) (by decide +kernel)), by decide +kernel⟩⟩⟩
theorem th_X_sendOn : ty_X_sendOn.cls ≠ "java/lang/invoke/MethodHandle" ∧ ty_X_sendOn.cls ≠ "java/lang/invoke/VarHandle" ∧ (parseMethodDescriptor ty_X_sendOn.desc).map (fun d => d.parameters.length) = some 6 := ⟨by decide, by decide, by decide +kernel⟩
theorem tg_X_194 : Cond.methodLink "TrickleMesh" 194 ty_X_enqueue ∈ tm_wg ∧ Cond.initialized ty_X_enqueue.cls ∈ tm_wg ∧ Cond.instanceMethod ty_X_enqueue ∈ tm_wg ∧ Cond.selects "TrickleMesh" ty_X_enqueue ty_X_enqueue ∈ tm_wg := ⟨List.mem_filter.mpr ⟨List.mem_append_right _ (List.mem_of_getElem? (i := 279) (by decide +kernel)), by decide +kernel⟩, ti_X, ⟨List.mem_filter.mpr ⟨List.mem_append_right _ (List.mem_of_getElem? (i := 281) (by decide +kernel)), by decide +kernel⟩, List.mem_filter.mpr ⟨List.mem_append_left _ (List.mem_of_getElem? (i := 4) (by decide +kernel)), by decide +kernel⟩⟩⟩
theorem th_X_enqueue : ty_X_enqueue.cls ≠ "java/lang/invoke/MethodHandle" ∧ ty_X_enqueue.cls ≠ "java/lang/invoke/VarHandle" ∧ (parseMethodDescriptor ty_X_enqueue.desc).map (fun d => d.parameters.length) = some 3 := ⟨by decide, by decide, by decide +kernel⟩
theorem tg_X_191 : Cond.methodLink "TrickleMesh" 191 ty_R_beginFirst ∈ tm_wg ∧ Cond.initialized ty_R_beginFirst.cls ∈ tm_wg ∧ Cond.instanceMethod ty_R_beginFirst ∈ tm_wg ∧ Cond.selects "TrickleMesh$Radio" ty_R_beginFirst ty_R_beginFirst ∈ tm_wg := ⟨List.mem_filter.mpr ⟨List.mem_append_right _ (List.mem_of_getElem? (i := 283) (by decide +kernel)), by decide +kernel⟩, ti_R, ⟨List.mem_filter.mpr ⟨List.mem_append_right _ (List.mem_of_getElem? (i := 284) (by decide +kernel)), by decide +kernel⟩, List.mem_filter.mpr ⟨List.mem_append_right _ (List.mem_of_getElem? (i := 285) (by decide +kernel)), by decide +kernel⟩⟩⟩
theorem th_R_beginFirst : ty_R_beginFirst.cls ≠ "java/lang/invoke/MethodHandle" ∧ ty_R_beginFirst.cls ≠ "java/lang/invoke/VarHandle" ∧ (parseMethodDescriptor ty_R_beginFirst.desc).map (fun d => d.parameters.length) = some 1 := ⟨by decide, by decide, by decide +kernel⟩
theorem tg_L_41 : Cond.methodLink "TrickleMeshLaw" 41 ty_X_tick ∈ tm_wg ∧ Cond.initialized ty_X_tick.cls ∈ tm_wg ∧ Cond.instanceMethod ty_X_tick ∈ tm_wg ∧ Cond.selects "TrickleMesh" ty_X_tick ty_X_tick ∈ tm_wg := ⟨List.mem_filter.mpr ⟨List.mem_append_right _ (List.mem_of_getElem? (i := 287) (by decide +kernel)), by decide +kernel⟩, ti_X, ⟨List.mem_filter.mpr ⟨List.mem_append_right _ (List.mem_of_getElem? (i := 288) (by decide +kernel)), by decide +kernel⟩, List.mem_filter.mpr ⟨List.mem_append_right _ (List.mem_of_getElem? (i := 289) (by decide +kernel)), by decide +kernel⟩⟩⟩
theorem th_X_tick : ty_X_tick.cls ≠ "java/lang/invoke/MethodHandle" ∧ ty_X_tick.cls ≠ "java/lang/invoke/VarHandle" ∧ (parseMethodDescriptor ty_X_tick.desc).map (fun d => d.parameters.length) = some 1 := ⟨by decide, by decide, by decide +kernel⟩
theorem tg_X_94 : Cond.methodLink "TrickleMesh" 94 ty_X_rememberTheAir ∈ tm_wg ∧ Cond.initialized ty_X_rememberTheAir.cls ∈ tm_wg ∧ Cond.instanceMethod ty_X_rememberTheAir ∈ tm_wg ∧ Cond.selects "TrickleMesh" ty_X_rememberTheAir ty_X_rememberTheAir ∈ tm_wg := ⟨List.mem_filter.mpr ⟨List.mem_append_right _ (List.mem_of_getElem? (i := 291) (by decide +kernel)), by decide +kernel⟩, ti_X, ⟨List.mem_filter.mpr ⟨List.mem_append_right _ (List.mem_of_getElem? (i := 293) (by decide +kernel)), by decide +kernel⟩, List.mem_filter.mpr ⟨List.mem_append_left _ (List.mem_of_getElem? (i := 5) (by decide +kernel)), by decide +kernel⟩⟩⟩
theorem th_X_rememberTheAir : ty_X_rememberTheAir.cls ≠ "java/lang/invoke/MethodHandle" ∧ ty_X_rememberTheAir.cls ≠ "java/lang/invoke/VarHandle" ∧ (parseMethodDescriptor ty_X_rememberTheAir.desc).map (fun d => d.parameters.length) = some 0 := ⟨by decide, by decide, by decide +kernel⟩
theorem tg_X_97 : Cond.methodLink "TrickleMesh" 97 ty_X_goOnTheAir ∈ tm_wg ∧ Cond.initialized ty_X_goOnTheAir.cls ∈ tm_wg ∧ Cond.instanceMethod ty_X_goOnTheAir ∈ tm_wg ∧ Cond.selects "TrickleMesh" ty_X_goOnTheAir ty_X_goOnTheAir ∈ tm_wg := ⟨List.mem_filter.mpr ⟨List.mem_append_right _ (List.mem_of_getElem? (i := 295) (by decide +kernel)), by decide +kernel⟩, ti_X, ⟨List.mem_filter.mpr ⟨List.mem_append_right _ (List.mem_of_getElem? (i := 297) (by decide +kernel)), by decide +kernel⟩, List.mem_filter.mpr ⟨List.mem_append_left _ (List.mem_of_getElem? (i := 6) (by decide +kernel)), by decide +kernel⟩⟩⟩
theorem th_X_goOnTheAir : ty_X_goOnTheAir.cls ≠ "java/lang/invoke/MethodHandle" ∧ ty_X_goOnTheAir.cls ≠ "java/lang/invoke/VarHandle" ∧ (parseMethodDescriptor ty_X_goOnTheAir.desc).map (fun d => d.parameters.length) = some 0 := ⟨by decide, by decide, by decide +kernel⟩
theorem tg_X_214 : Cond.methodLink "TrickleMesh" 214 ty_X_seemsBusy ∈ tm_wg ∧ Cond.initialized ty_X_seemsBusy.cls ∈ tm_wg ∧ Cond.instanceMethod ty_X_seemsBusy ∈ tm_wg ∧ Cond.selects "TrickleMesh" ty_X_seemsBusy ty_X_seemsBusy ∈ tm_wg := ⟨List.mem_filter.mpr ⟨List.mem_append_right _ (List.mem_of_getElem? (i := 299) (by decide +kernel)), by decide +kernel⟩, ti_X, ⟨List.mem_filter.mpr ⟨List.mem_append_right _ (List.mem_of_getElem? (i := 301) (by decide +kernel)), by decide +kernel⟩, List.mem_filter.mpr ⟨List.mem_append_left _ (List.mem_of_getElem? (i := 7) (by decide +kernel)), by decide +kernel⟩⟩⟩
theorem th_X_seemsBusy : ty_X_seemsBusy.cls ≠ "java/lang/invoke/MethodHandle" ∧ ty_X_seemsBusy.cls ≠ "java/lang/invoke/VarHandle" ∧ (parseMethodDescriptor ty_X_seemsBusy.desc).map (fun d => d.parameters.length) = some 1 := ⟨by decide, by decide, by decide +kernel⟩
theorem tg_X_218 : Cond.methodLink "TrickleMesh" 218 ty_X_failFirst ∈ tm_wg ∧ Cond.initialized ty_X_failFirst.cls ∈ tm_wg ∧ Cond.instanceMethod ty_X_failFirst ∈ tm_wg ∧ Cond.selects "TrickleMesh" ty_X_failFirst ty_X_failFirst ∈ tm_wg := ⟨List.mem_filter.mpr ⟨List.mem_append_right _ (List.mem_of_getElem? (i := 303) (by decide +kernel)), by decide +kernel⟩, ti_X, ⟨List.mem_filter.mpr ⟨List.mem_append_right _ (List.mem_of_getElem? (i := 305) (by decide +kernel)), by decide +kernel⟩, List.mem_filter.mpr ⟨List.mem_append_left _ (List.mem_of_getElem? (i := 8) (by decide +kernel)), by decide +kernel⟩⟩⟩
theorem th_X_failFirst : ty_X_failFirst.cls ≠ "java/lang/invoke/MethodHandle" ∧ ty_X_failFirst.cls ≠ "java/lang/invoke/VarHandle" ∧ (parseMethodDescriptor ty_X_failFirst.desc).map (fun d => d.parameters.length) = some 1 := ⟨by decide, by decide, by decide +kernel⟩
theorem tg_X_198 : Cond.methodLink "TrickleMesh" 198 ty_X_removeFirst ∈ tm_wg ∧ Cond.initialized ty_X_removeFirst.cls ∈ tm_wg ∧ Cond.instanceMethod ty_X_removeFirst ∈ tm_wg ∧ Cond.selects "TrickleMesh" ty_X_removeFirst ty_X_removeFirst ∈ tm_wg := ⟨List.mem_filter.mpr ⟨List.mem_append_right _ (List.mem_of_getElem? (i := 307) (by decide +kernel)), by decide +kernel⟩, ti_X, ⟨List.mem_filter.mpr ⟨List.mem_append_right _ (List.mem_of_getElem? (i := 309) (by decide +kernel)), by decide +kernel⟩, List.mem_filter.mpr ⟨List.mem_append_left _ (List.mem_of_getElem? (i := 9) (by decide +kernel)), by decide +kernel⟩⟩⟩
theorem th_X_removeFirst : ty_X_removeFirst.cls ≠ "java/lang/invoke/MethodHandle" ∧ ty_X_removeFirst.cls ≠ "java/lang/invoke/VarHandle" ∧ (parseMethodDescriptor ty_X_removeFirst.desc).map (fun d => d.parameters.length) = some 1 := ⟨by decide, by decide, by decide +kernel⟩
theorem tg_X_202 : Cond.methodLink "TrickleMesh" 202 ty_X_choose ∈ tm_wg ∧ Cond.initialized ty_X_choose.cls ∈ tm_wg ∧ Cond.instanceMethod ty_X_choose ∈ tm_wg ∧ Cond.selects "TrickleMesh" ty_X_choose ty_X_choose ∈ tm_wg := ⟨List.mem_filter.mpr ⟨List.mem_append_right _ (List.mem_of_getElem? (i := 311) (by decide +kernel)), by decide +kernel⟩, ti_X, ⟨List.mem_filter.mpr ⟨List.mem_append_right _ (List.mem_of_getElem? (i := 313) (by decide +kernel)), by decide +kernel⟩, List.mem_filter.mpr ⟨List.mem_append_left _ (List.mem_of_getElem? (i := 10) (by decide +kernel)), by decide +kernel⟩⟩⟩
theorem th_X_choose : ty_X_choose.cls ≠ "java/lang/invoke/MethodHandle" ∧ ty_X_choose.cls ≠ "java/lang/invoke/VarHandle" ∧ (parseMethodDescriptor ty_X_choose.desc).map (fun d => d.parameters.length) = some 1 := ⟨by decide, by decide, by decide +kernel⟩
theorem tg_X_284 : Cond.methodLink "TrickleMesh" 284 ty_X_bestParent ∈ tm_wg ∧ Cond.initialized ty_X_bestParent.cls ∈ tm_wg ∧ Cond.instanceMethod ty_X_bestParent ∈ tm_wg ∧ Cond.selects "TrickleMesh" ty_X_bestParent ty_X_bestParent ∈ tm_wg := ⟨List.mem_filter.mpr ⟨List.mem_append_right _ (List.mem_of_getElem? (i := 315) (by decide +kernel)), by decide +kernel⟩, ti_X, ⟨List.mem_filter.mpr ⟨List.mem_append_right _ (List.mem_of_getElem? (i := 317) (by decide +kernel)), by decide +kernel⟩, List.mem_filter.mpr ⟨List.mem_append_left _ (List.mem_of_getElem? (i := 11) (by decide +kernel)), by decide +kernel⟩⟩⟩
theorem th_X_bestParent : ty_X_bestParent.cls ≠ "java/lang/invoke/MethodHandle" ∧ ty_X_bestParent.cls ≠ "java/lang/invoke/VarHandle" ∧ (parseMethodDescriptor ty_X_bestParent.desc).map (fun d => d.parameters.length) = some 1 := ⟨by decide, by decide, by decide +kernel⟩
theorem tg_X_291 : Cond.methodLink "TrickleMesh" 291 ty_X_isBetter ∈ tm_wg ∧ Cond.initialized ty_X_isBetter.cls ∈ tm_wg ∧ Cond.instanceMethod ty_X_isBetter ∈ tm_wg ∧ Cond.selects "TrickleMesh" ty_X_isBetter ty_X_isBetter ∈ tm_wg := ⟨List.mem_filter.mpr ⟨List.mem_append_right _ (List.mem_of_getElem? (i := 319) (by decide +kernel)), by decide +kernel⟩, ti_X, ⟨List.mem_filter.mpr ⟨List.mem_append_right _ (List.mem_of_getElem? (i := 321) (by decide +kernel)), by decide +kernel⟩, List.mem_filter.mpr ⟨List.mem_append_left _ (List.mem_of_getElem? (i := 12) (by decide +kernel)), by decide +kernel⟩⟩⟩
theorem th_X_isBetter : ty_X_isBetter.cls ≠ "java/lang/invoke/MethodHandle" ∧ ty_X_isBetter.cls ≠ "java/lang/invoke/VarHandle" ∧ (parseMethodDescriptor ty_X_isBetter.desc).map (fun d => d.parameters.length) = some 3 := ⟨by decide, by decide, by decide +kernel⟩
theorem tg_X_287 : Cond.methodLink "TrickleMesh" 287 ty_X_rankBelow ∈ tm_wg ∧ Cond.initialized ty_X_rankBelow.cls ∈ tm_wg ∧ Cond.instanceMethod ty_X_rankBelow ∈ tm_wg ∧ Cond.selects "TrickleMesh" ty_X_rankBelow ty_X_rankBelow ∈ tm_wg := ⟨List.mem_filter.mpr ⟨List.mem_append_right _ (List.mem_of_getElem? (i := 323) (by decide +kernel)), by decide +kernel⟩, ti_X, ⟨List.mem_filter.mpr ⟨List.mem_append_right _ (List.mem_of_getElem? (i := 325) (by decide +kernel)), by decide +kernel⟩, List.mem_filter.mpr ⟨List.mem_append_left _ (List.mem_of_getElem? (i := 13) (by decide +kernel)), by decide +kernel⟩⟩⟩
theorem th_X_rankBelow : ty_X_rankBelow.cls ≠ "java/lang/invoke/MethodHandle" ∧ ty_X_rankBelow.cls ≠ "java/lang/invoke/VarHandle" ∧ (parseMethodDescriptor ty_X_rankBelow.desc).map (fun d => d.parameters.length) = some 2 := ⟨by decide, by decide, by decide +kernel⟩
theorem tg_X_251 : Cond.methodLink "TrickleMesh" 251 ty_X_ownGoals ∈ tm_wg ∧ Cond.initialized ty_X_ownGoals.cls ∈ tm_wg ∧ Cond.static ty_X_ownGoals ∈ tm_wg := ⟨List.mem_filter.mpr ⟨List.mem_append_right _ (List.mem_of_getElem? (i := 327) (by decide +kernel)), by decide +kernel⟩, ti_X, List.mem_filter.mpr ⟨List.mem_append_right _ (List.mem_of_getElem? (i := 328) (by decide +kernel)), by decide +kernel⟩⟩
theorem th_X_ownGoals : ty_X_ownGoals.cls ≠ "java/lang/invoke/MethodHandle" ∧ ty_X_ownGoals.cls ≠ "java/lang/invoke/VarHandle" ∧ (parseMethodDescriptor ty_X_ownGoals.desc).map (fun d => d.parameters.length) = some 1 := ⟨by decide, by decide, by decide +kernel⟩
theorem tg_X_254 : Cond.methodLink "TrickleMesh" 254 ty_X_announce ∈ tm_wg ∧ Cond.initialized ty_X_announce.cls ∈ tm_wg ∧ Cond.instanceMethod ty_X_announce ∈ tm_wg ∧ Cond.selects "TrickleMesh" ty_X_announce ty_X_announce ∈ tm_wg := ⟨List.mem_filter.mpr ⟨List.mem_append_right _ (List.mem_of_getElem? (i := 330) (by decide +kernel)), by decide +kernel⟩, ti_X, ⟨List.mem_filter.mpr ⟨List.mem_append_right _ (List.mem_of_getElem? (i := 332) (by decide +kernel)), by decide +kernel⟩, List.mem_filter.mpr ⟨List.mem_append_left _ (List.mem_of_getElem? (i := 14) (by decide +kernel)), by decide +kernel⟩⟩⟩
theorem th_X_announce : ty_X_announce.cls ≠ "java/lang/invoke/MethodHandle" ∧ ty_X_announce.cls ≠ "java/lang/invoke/VarHandle" ∧ (parseMethodDescriptor ty_X_announce.desc).map (fun d => d.parameters.length) = some 4 := ⟨by decide, by decide, by decide +kernel⟩
theorem tg_X_302 : Cond.methodLink "TrickleMesh" 302 arraycopyName ∈ tm_wg ∧ Cond.native arraycopyName ∈ tm_wg ∧ Cond.static arraycopyName ∈ tm_wg ∧ Cond.initialized "java/lang/System" ∈ tm_wg := ⟨List.mem_filter.mpr ⟨List.mem_append_right _ (List.mem_of_getElem? (i := 334) (by decide +kernel)), by decide +kernel⟩, List.mem_filter.mpr ⟨List.mem_append_right _ (List.mem_of_getElem? (i := 336) (by decide +kernel)), by decide +kernel⟩, List.mem_filter.mpr ⟨List.mem_append_right _ (List.mem_of_getElem? (i := 335) (by decide +kernel)), by decide +kernel⟩, ti_JS⟩
theorem tg_X_100 : Cond.methodLink "TrickleMesh" 100 ty_X_hearTheAir ∈ tm_wg ∧ Cond.initialized ty_X_hearTheAir.cls ∈ tm_wg ∧ Cond.instanceMethod ty_X_hearTheAir ∈ tm_wg ∧ Cond.selects "TrickleMesh" ty_X_hearTheAir ty_X_hearTheAir ∈ tm_wg := ⟨List.mem_filter.mpr ⟨List.mem_append_right _ (List.mem_of_getElem? (i := 337) (by decide +kernel)), by decide +kernel⟩, ti_X, ⟨List.mem_filter.mpr ⟨List.mem_append_right _ (List.mem_of_getElem? (i := 339) (by decide +kernel)), by decide +kernel⟩, List.mem_filter.mpr ⟨List.mem_append_left _ (List.mem_of_getElem? (i := 15) (by decide +kernel)), by decide +kernel⟩⟩⟩
theorem th_X_hearTheAir : ty_X_hearTheAir.cls ≠ "java/lang/invoke/MethodHandle" ∧ ty_X_hearTheAir.cls ≠ "java/lang/invoke/VarHandle" ∧ (parseMethodDescriptor ty_X_hearTheAir.desc).map (fun d => d.parameters.length) = some 0 := ⟨by decide, by decide, by decide +kernel⟩
theorem tg_X_224 : Cond.methodLink "TrickleMesh" 224 ty_X_onlySpeaker ∈ tm_wg ∧ Cond.initialized ty_X_onlySpeaker.cls ∈ tm_wg ∧ Cond.instanceMethod ty_X_onlySpeaker ∈ tm_wg ∧ Cond.selects "TrickleMesh" ty_X_onlySpeaker ty_X_onlySpeaker ∈ tm_wg := ⟨List.mem_filter.mpr ⟨List.mem_append_right _ (List.mem_of_getElem? (i := 341) (by decide +kernel)), by decide +kernel⟩, ti_X, ⟨List.mem_filter.mpr ⟨List.mem_append_right _ (List.mem_of_getElem? (i := 343) (by decide +kernel)), by decide +kernel⟩, List.mem_filter.mpr ⟨List.mem_append_left _ (List.mem_of_getElem? (i := 16) (by decide +kernel)), by decide +kernel⟩⟩⟩
theorem th_X_onlySpeaker : ty_X_onlySpeaker.cls ≠ "java/lang/invoke/MethodHandle" ∧ ty_X_onlySpeaker.cls ≠ "java/lang/invoke/VarHandle" ∧ (parseMethodDescriptor ty_X_onlySpeaker.desc).map (fun d => d.parameters.length) = some 1 := ⟨by decide, by decide, by decide +kernel⟩
theorem tg_X_103 : Cond.methodLink "TrickleMesh" 103 ty_X_takeWhatWasHeard ∈ tm_wg ∧ Cond.initialized ty_X_takeWhatWasHeard.cls ∈ tm_wg ∧ Cond.instanceMethod ty_X_takeWhatWasHeard ∈ tm_wg ∧ Cond.selects "TrickleMesh" ty_X_takeWhatWasHeard ty_X_takeWhatWasHeard ∈ tm_wg := ⟨List.mem_filter.mpr ⟨List.mem_append_right _ (List.mem_of_getElem? (i := 345) (by decide +kernel)), by decide +kernel⟩, ti_X, ⟨List.mem_filter.mpr ⟨List.mem_append_right _ (List.mem_of_getElem? (i := 347) (by decide +kernel)), by decide +kernel⟩, List.mem_filter.mpr ⟨List.mem_append_left _ (List.mem_of_getElem? (i := 17) (by decide +kernel)), by decide +kernel⟩⟩⟩
theorem th_X_takeWhatWasHeard : ty_X_takeWhatWasHeard.cls ≠ "java/lang/invoke/MethodHandle" ∧ ty_X_takeWhatWasHeard.cls ≠ "java/lang/invoke/VarHandle" ∧ (parseMethodDescriptor ty_X_takeWhatWasHeard.desc).map (fun d => d.parameters.length) = some 0 := ⟨by decide, by decide, by decide +kernel⟩
theorem tg_X_230 : Cond.methodLink "TrickleMesh" 230 ty_X_takeAck ∈ tm_wg ∧ Cond.initialized ty_X_takeAck.cls ∈ tm_wg ∧ Cond.instanceMethod ty_X_takeAck ∈ tm_wg ∧ Cond.selects "TrickleMesh" ty_X_takeAck ty_X_takeAck ∈ tm_wg := ⟨List.mem_filter.mpr ⟨List.mem_append_right _ (List.mem_of_getElem? (i := 349) (by decide +kernel)), by decide +kernel⟩, ti_X, ⟨List.mem_filter.mpr ⟨List.mem_append_right _ (List.mem_of_getElem? (i := 351) (by decide +kernel)), by decide +kernel⟩, List.mem_filter.mpr ⟨List.mem_append_left _ (List.mem_of_getElem? (i := 18) (by decide +kernel)), by decide +kernel⟩⟩⟩
theorem th_X_takeAck : ty_X_takeAck.cls ≠ "java/lang/invoke/MethodHandle" ∧ ty_X_takeAck.cls ≠ "java/lang/invoke/VarHandle" ∧ (parseMethodDescriptor ty_X_takeAck.desc).map (fun d => d.parameters.length) = some 2 := ⟨by decide, by decide, by decide +kernel⟩
theorem tg_X_234 : Cond.methodLink "TrickleMesh" 234 ty_X_takeSolicit ∈ tm_wg ∧ Cond.initialized ty_X_takeSolicit.cls ∈ tm_wg ∧ Cond.instanceMethod ty_X_takeSolicit ∈ tm_wg ∧ Cond.selects "TrickleMesh" ty_X_takeSolicit ty_X_takeSolicit ∈ tm_wg := ⟨List.mem_filter.mpr ⟨List.mem_append_right _ (List.mem_of_getElem? (i := 353) (by decide +kernel)), by decide +kernel⟩, ti_X, ⟨List.mem_filter.mpr ⟨List.mem_append_right _ (List.mem_of_getElem? (i := 355) (by decide +kernel)), by decide +kernel⟩, List.mem_filter.mpr ⟨List.mem_append_left _ (List.mem_of_getElem? (i := 19) (by decide +kernel)), by decide +kernel⟩⟩⟩
theorem th_X_takeSolicit : ty_X_takeSolicit.cls ≠ "java/lang/invoke/MethodHandle" ∧ ty_X_takeSolicit.cls ≠ "java/lang/invoke/VarHandle" ∧ (parseMethodDescriptor ty_X_takeSolicit.desc).map (fun d => d.parameters.length) = some 1 := ⟨by decide, by decide, by decide +kernel⟩
theorem tg_X_237 : Cond.methodLink "TrickleMesh" 237 ty_X_takeAdvert ∈ tm_wg ∧ Cond.initialized ty_X_takeAdvert.cls ∈ tm_wg ∧ Cond.instanceMethod ty_X_takeAdvert ∈ tm_wg ∧ Cond.selects "TrickleMesh" ty_X_takeAdvert ty_X_takeAdvert ∈ tm_wg := ⟨List.mem_filter.mpr ⟨List.mem_append_right _ (List.mem_of_getElem? (i := 357) (by decide +kernel)), by decide +kernel⟩, ti_X, ⟨List.mem_filter.mpr ⟨List.mem_append_right _ (List.mem_of_getElem? (i := 359) (by decide +kernel)), by decide +kernel⟩, List.mem_filter.mpr ⟨List.mem_append_left _ (List.mem_of_getElem? (i := 20) (by decide +kernel)), by decide +kernel⟩⟩⟩
theorem th_X_takeAdvert : ty_X_takeAdvert.cls ≠ "java/lang/invoke/MethodHandle" ∧ ty_X_takeAdvert.cls ≠ "java/lang/invoke/VarHandle" ∧ (parseMethodDescriptor ty_X_takeAdvert.desc).map (fun d => d.parameters.length) = some 2 := ⟨by decide, by decide, by decide +kernel⟩
theorem tg_X_265 : Cond.methodLink "TrickleMesh" 265 ty_X_takeVersion ∈ tm_wg ∧ Cond.initialized ty_X_takeVersion.cls ∈ tm_wg ∧ Cond.instanceMethod ty_X_takeVersion ∈ tm_wg ∧ Cond.selects "TrickleMesh" ty_X_takeVersion ty_X_takeVersion ∈ tm_wg := ⟨List.mem_filter.mpr ⟨List.mem_append_right _ (List.mem_of_getElem? (i := 361) (by decide +kernel)), by decide +kernel⟩, ti_X, ⟨List.mem_filter.mpr ⟨List.mem_append_right _ (List.mem_of_getElem? (i := 363) (by decide +kernel)), by decide +kernel⟩, List.mem_filter.mpr ⟨List.mem_append_left _ (List.mem_of_getElem? (i := 21) (by decide +kernel)), by decide +kernel⟩⟩⟩
theorem th_X_takeVersion : ty_X_takeVersion.cls ≠ "java/lang/invoke/MethodHandle" ∧ ty_X_takeVersion.cls ≠ "java/lang/invoke/VarHandle" ∧ (parseMethodDescriptor ty_X_takeVersion.desc).map (fun d => d.parameters.length) = some 2 := ⟨by decide, by decide, by decide +kernel⟩
theorem tg_X_268 : Cond.methodLink "TrickleMesh" 268 ty_JA_fill ∈ tm_wg ∧ Cond.initialized ty_JA_fill.cls ∈ tm_wg ∧ Cond.static ty_JA_fill ∈ tm_wg := ⟨List.mem_filter.mpr ⟨List.mem_append_right _ (List.mem_of_getElem? (i := 365) (by decide +kernel)), by decide +kernel⟩, ti_JA, List.mem_filter.mpr ⟨List.mem_append_right _ (List.mem_of_getElem? (i := 152) (by decide +kernel)), by decide +kernel⟩⟩
theorem tg_X_240 : Cond.methodLink "TrickleMesh" 240 ty_X_takeOwn ∈ tm_wg ∧ Cond.initialized ty_X_takeOwn.cls ∈ tm_wg ∧ Cond.instanceMethod ty_X_takeOwn ∈ tm_wg ∧ Cond.selects "TrickleMesh" ty_X_takeOwn ty_X_takeOwn ∈ tm_wg := ⟨List.mem_filter.mpr ⟨List.mem_append_right _ (List.mem_of_getElem? (i := 366) (by decide +kernel)), by decide +kernel⟩, ti_X, ⟨List.mem_filter.mpr ⟨List.mem_append_right _ (List.mem_of_getElem? (i := 368) (by decide +kernel)), by decide +kernel⟩, List.mem_filter.mpr ⟨List.mem_append_left _ (List.mem_of_getElem? (i := 22) (by decide +kernel)), by decide +kernel⟩⟩⟩
theorem th_X_takeOwn : ty_X_takeOwn.cls ≠ "java/lang/invoke/MethodHandle" ∧ ty_X_takeOwn.cls ≠ "java/lang/invoke/VarHandle" ∧ (parseMethodDescriptor ty_X_takeOwn.desc).map (fun d => d.parameters.length) = some 3 := ⟨by decide, by decide, by decide +kernel⟩
theorem tg_X_277 : Cond.methodLink "TrickleMesh" 277 ty_X_receiveAnnounce ∈ tm_wg ∧ Cond.initialized ty_X_receiveAnnounce.cls ∈ tm_wg ∧ Cond.instanceMethod ty_X_receiveAnnounce ∈ tm_wg ∧ Cond.selects "TrickleMesh" ty_X_receiveAnnounce ty_X_receiveAnnounce ∈ tm_wg := ⟨List.mem_filter.mpr ⟨List.mem_append_right _ (List.mem_of_getElem? (i := 370) (by decide +kernel)), by decide +kernel⟩, ti_X, ⟨List.mem_filter.mpr ⟨List.mem_append_right _ (List.mem_of_getElem? (i := 372) (by decide +kernel)), by decide +kernel⟩, List.mem_filter.mpr ⟨List.mem_append_left _ (List.mem_of_getElem? (i := 23) (by decide +kernel)), by decide +kernel⟩⟩⟩
theorem th_X_receiveAnnounce : ty_X_receiveAnnounce.cls ≠ "java/lang/invoke/MethodHandle" ∧ ty_X_receiveAnnounce.cls ≠ "java/lang/invoke/VarHandle" ∧ (parseMethodDescriptor ty_X_receiveAnnounce.desc).map (fun d => d.parameters.length) = some 3 := ⟨by decide, by decide, by decide +kernel⟩
theorem tg_X_308 : Cond.methodLink "TrickleMesh" 308 ty_X_changeRoute ∈ tm_wg ∧ Cond.initialized ty_X_changeRoute.cls ∈ tm_wg ∧ Cond.static ty_X_changeRoute ∈ tm_wg := ⟨List.mem_filter.mpr ⟨List.mem_append_right _ (List.mem_of_getElem? (i := 374) (by decide +kernel)), by decide +kernel⟩, ti_X, List.mem_filter.mpr ⟨List.mem_append_right _ (List.mem_of_getElem? (i := 375) (by decide +kernel)), by decide +kernel⟩⟩
theorem th_X_changeRoute : ty_X_changeRoute.cls ≠ "java/lang/invoke/MethodHandle" ∧ ty_X_changeRoute.cls ≠ "java/lang/invoke/VarHandle" ∧ (parseMethodDescriptor ty_X_changeRoute.desc).map (fun d => d.parameters.length) = some 4 := ⟨by decide, by decide, by decide +kernel⟩
theorem tg_X_281 : Cond.methodLink "TrickleMesh" 281 ty_X_receiveValue ∈ tm_wg ∧ Cond.initialized ty_X_receiveValue.cls ∈ tm_wg ∧ Cond.instanceMethod ty_X_receiveValue ∈ tm_wg ∧ Cond.selects "TrickleMesh" ty_X_receiveValue ty_X_receiveValue ∈ tm_wg := ⟨List.mem_filter.mpr ⟨List.mem_append_right _ (List.mem_of_getElem? (i := 377) (by decide +kernel)), by decide +kernel⟩, ti_X, ⟨List.mem_filter.mpr ⟨List.mem_append_right _ (List.mem_of_getElem? (i := 379) (by decide +kernel)), by decide +kernel⟩, List.mem_filter.mpr ⟨List.mem_append_left _ (List.mem_of_getElem? (i := 24) (by decide +kernel)), by decide +kernel⟩⟩⟩
theorem th_X_receiveValue : ty_X_receiveValue.cls ≠ "java/lang/invoke/MethodHandle" ∧ ty_X_receiveValue.cls ≠ "java/lang/invoke/VarHandle" ∧ (parseMethodDescriptor ty_X_receiveValue.desc).map (fun d => d.parameters.length) = some 3 := ⟨by decide, by decide, by decide +kernel⟩
theorem tg_X_330 : Cond.methodLink "TrickleMesh" 330 ty_X_deliver ∈ tm_wg ∧ Cond.initialized ty_X_deliver.cls ∈ tm_wg ∧ Cond.instanceMethod ty_X_deliver ∈ tm_wg ∧ Cond.selects "TrickleMesh" ty_X_deliver ty_X_deliver ∈ tm_wg := ⟨List.mem_filter.mpr ⟨List.mem_append_right _ (List.mem_of_getElem? (i := 381) (by decide +kernel)), by decide +kernel⟩, ti_X, ⟨List.mem_filter.mpr ⟨List.mem_append_right _ (List.mem_of_getElem? (i := 383) (by decide +kernel)), by decide +kernel⟩, List.mem_filter.mpr ⟨List.mem_append_left _ (List.mem_of_getElem? (i := 25) (by decide +kernel)), by decide +kernel⟩⟩⟩
theorem th_X_deliver : ty_X_deliver.cls ≠ "java/lang/invoke/MethodHandle" ∧ ty_X_deliver.cls ≠ "java/lang/invoke/VarHandle" ∧ (parseMethodDescriptor ty_X_deliver.desc).map (fun d => d.parameters.length) = some 2 := ⟨by decide, by decide, by decide +kernel⟩
theorem tg_X_106 : Cond.methodLink "TrickleMesh" 106 ty_X_settleWhatWasOnTheAir ∈ tm_wg ∧ Cond.initialized ty_X_settleWhatWasOnTheAir.cls ∈ tm_wg ∧ Cond.instanceMethod ty_X_settleWhatWasOnTheAir ∈ tm_wg ∧ Cond.selects "TrickleMesh" ty_X_settleWhatWasOnTheAir ty_X_settleWhatWasOnTheAir ∈ tm_wg := ⟨List.mem_filter.mpr ⟨List.mem_append_right _ (List.mem_of_getElem? (i := 385) (by decide +kernel)), by decide +kernel⟩, ti_X, ⟨List.mem_filter.mpr ⟨List.mem_append_right _ (List.mem_of_getElem? (i := 387) (by decide +kernel)), by decide +kernel⟩, List.mem_filter.mpr ⟨List.mem_append_left _ (List.mem_of_getElem? (i := 26) (by decide +kernel)), by decide +kernel⟩⟩⟩
theorem th_X_settleWhatWasOnTheAir : ty_X_settleWhatWasOnTheAir.cls ≠ "java/lang/invoke/MethodHandle" ∧ ty_X_settleWhatWasOnTheAir.cls ≠ "java/lang/invoke/VarHandle" ∧ (parseMethodDescriptor ty_X_settleWhatWasOnTheAir.desc).map (fun d => d.parameters.length) = some 0 := ⟨by decide, by decide, by decide +kernel⟩
theorem tg_X_109 : Cond.methodLink "TrickleMesh" 109 ty_X_settleWhatWasListenedFor ∈ tm_wg ∧ Cond.initialized ty_X_settleWhatWasListenedFor.cls ∈ tm_wg ∧ Cond.instanceMethod ty_X_settleWhatWasListenedFor ∈ tm_wg ∧ Cond.selects "TrickleMesh" ty_X_settleWhatWasListenedFor ty_X_settleWhatWasListenedFor ∈ tm_wg := ⟨List.mem_filter.mpr ⟨List.mem_append_right _ (List.mem_of_getElem? (i := 389) (by decide +kernel)), by decide +kernel⟩, ti_X, ⟨List.mem_filter.mpr ⟨List.mem_append_right _ (List.mem_of_getElem? (i := 391) (by decide +kernel)), by decide +kernel⟩, List.mem_filter.mpr ⟨List.mem_append_left _ (List.mem_of_getElem? (i := 27) (by decide +kernel)), by decide +kernel⟩⟩⟩
theorem th_X_settleWhatWasListenedFor : ty_X_settleWhatWasListenedFor.cls ≠ "java/lang/invoke/MethodHandle" ∧ ty_X_settleWhatWasListenedFor.cls ≠ "java/lang/invoke/VarHandle" ∧ (parseMethodDescriptor ty_X_settleWhatWasListenedFor.desc).map (fun d => d.parameters.length) = some 0 := ⟨by decide, by decide, by decide +kernel⟩
theorem tg_X_112 : Cond.methodLink "TrickleMesh" 112 ty_X_runTimers ∈ tm_wg ∧ Cond.initialized ty_X_runTimers.cls ∈ tm_wg ∧ Cond.instanceMethod ty_X_runTimers ∈ tm_wg ∧ Cond.selects "TrickleMesh" ty_X_runTimers ty_X_runTimers ∈ tm_wg := ⟨List.mem_filter.mpr ⟨List.mem_append_right _ (List.mem_of_getElem? (i := 393) (by decide +kernel)), by decide +kernel⟩, ti_X, ⟨List.mem_filter.mpr ⟨List.mem_append_right _ (List.mem_of_getElem? (i := 395) (by decide +kernel)), by decide +kernel⟩, List.mem_filter.mpr ⟨List.mem_append_left _ (List.mem_of_getElem? (i := 28) (by decide +kernel)), by decide +kernel⟩⟩⟩
theorem th_X_runTimers : ty_X_runTimers.cls ≠ "java/lang/invoke/MethodHandle" ∧ ty_X_runTimers.cls ≠ "java/lang/invoke/VarHandle" ∧ (parseMethodDescriptor ty_X_runTimers.desc).map (fun d => d.parameters.length) = some 0 := ⟨by decide, by decide, by decide +kernel⟩
theorem tg_X_244 : Cond.methodLink "TrickleMesh" 244 ty_X_runTimer ∈ tm_wg ∧ Cond.initialized ty_X_runTimer.cls ∈ tm_wg ∧ Cond.instanceMethod ty_X_runTimer ∈ tm_wg ∧ Cond.selects "TrickleMesh" ty_X_runTimer ty_X_runTimer ∈ tm_wg := ⟨List.mem_filter.mpr ⟨List.mem_append_right _ (List.mem_of_getElem? (i := 397) (by decide +kernel)), by decide +kernel⟩, ti_X, ⟨List.mem_filter.mpr ⟨List.mem_append_right _ (List.mem_of_getElem? (i := 399) (by decide +kernel)), by decide +kernel⟩, List.mem_filter.mpr ⟨List.mem_append_left _ (List.mem_of_getElem? (i := 29) (by decide +kernel)), by decide +kernel⟩⟩⟩
theorem th_X_runTimer : ty_X_runTimer.cls ≠ "java/lang/invoke/MethodHandle" ∧ ty_X_runTimer.cls ≠ "java/lang/invoke/VarHandle" ∧ (parseMethodDescriptor ty_X_runTimer.desc).map (fun d => d.parameters.length) = some 1 := ⟨by decide, by decide, by decide +kernel⟩
theorem tg_X_247 : Cond.methodLink "TrickleMesh" 247 ty_X_enqueueOnce ∈ tm_wg ∧ Cond.initialized ty_X_enqueueOnce.cls ∈ tm_wg ∧ Cond.instanceMethod ty_X_enqueueOnce ∈ tm_wg ∧ Cond.selects "TrickleMesh" ty_X_enqueueOnce ty_X_enqueueOnce ∈ tm_wg := ⟨List.mem_filter.mpr ⟨List.mem_append_right _ (List.mem_of_getElem? (i := 401) (by decide +kernel)), by decide +kernel⟩, ti_X, ⟨List.mem_filter.mpr ⟨List.mem_append_right _ (List.mem_of_getElem? (i := 403) (by decide +kernel)), by decide +kernel⟩, List.mem_filter.mpr ⟨List.mem_append_left _ (List.mem_of_getElem? (i := 30) (by decide +kernel)), by decide +kernel⟩⟩⟩
theorem th_X_enqueueOnce : ty_X_enqueueOnce.cls ≠ "java/lang/invoke/MethodHandle" ∧ ty_X_enqueueOnce.cls ≠ "java/lang/invoke/VarHandle" ∧ (parseMethodDescriptor ty_X_enqueueOnce.desc).map (fun d => d.parameters.length) = some 2 := ⟨by decide, by decide, by decide +kernel⟩
theorem tg_L_46 : Cond.methodLink "TrickleMeshLaw" 46 ty_X_node ∈ tm_wg ∧ Cond.initialized ty_X_node.cls ∈ tm_wg ∧ Cond.instanceMethod ty_X_node ∈ tm_wg ∧ Cond.selects "TrickleMesh" ty_X_node ty_X_node ∈ tm_wg := ⟨List.mem_filter.mpr ⟨List.mem_append_right _ (List.mem_of_getElem? (i := 405) (by decide +kernel)), by decide +kernel⟩, ti_X, ⟨List.mem_filter.mpr ⟨List.mem_append_right _ (List.mem_of_getElem? (i := 406) (by decide +kernel)), by decide +kernel⟩, List.mem_filter.mpr ⟨List.mem_append_right _ (List.mem_of_getElem? (i := 407) (by decide +kernel)), by decide +kernel⟩⟩⟩
theorem th_X_node : ty_X_node.cls ≠ "java/lang/invoke/MethodHandle" ∧ ty_X_node.cls ≠ "java/lang/invoke/VarHandle" ∧ (parseMethodDescriptor ty_X_node.desc).map (fun d => d.parameters.length) = some 2 := ⟨by decide, by decide, by decide +kernel⟩
theorem tg_X_139 : Cond.methodLink "TrickleMesh" 139 ty_X_condition ∈ tm_wg ∧ Cond.initialized ty_X_condition.cls ∈ tm_wg ∧ Cond.static ty_X_condition ∈ tm_wg := ⟨List.mem_filter.mpr ⟨List.mem_append_right _ (List.mem_of_getElem? (i := 409) (by decide +kernel)), by decide +kernel⟩, ti_X, List.mem_filter.mpr ⟨List.mem_append_right _ (List.mem_of_getElem? (i := 410) (by decide +kernel)), by decide +kernel⟩⟩
theorem th_X_condition : ty_X_condition.cls ≠ "java/lang/invoke/MethodHandle" ∧ ty_X_condition.cls ≠ "java/lang/invoke/VarHandle" ∧ (parseMethodDescriptor ty_X_condition.desc).map (fun d => d.parameters.length) = some 1 := ⟨by decide, by decide, by decide +kernel⟩
theorem tg_L_51 : Cond.methodLink "TrickleMeshLaw" 51 ty_X_next ∈ tm_wg ∧ Cond.initialized ty_X_next.cls ∈ tm_wg ∧ Cond.instanceMethod ty_X_next ∈ tm_wg ∧ Cond.selects "TrickleMesh" ty_X_next ty_X_next ∈ tm_wg := ⟨List.mem_filter.mpr ⟨List.mem_append_right _ (List.mem_of_getElem? (i := 412) (by decide +kernel)), by decide +kernel⟩, ti_X, ⟨List.mem_filter.mpr ⟨List.mem_append_right _ (List.mem_of_getElem? (i := 413) (by decide +kernel)), by decide +kernel⟩, List.mem_filter.mpr ⟨List.mem_append_right _ (List.mem_of_getElem? (i := 414) (by decide +kernel)), by decide +kernel⟩⟩⟩
theorem th_X_next : ty_X_next.cls ≠ "java/lang/invoke/MethodHandle" ∧ ty_X_next.cls ≠ "java/lang/invoke/VarHandle" ∧ (parseMethodDescriptor ty_X_next.desc).map (fun d => d.parameters.length) = some 2 := ⟨by decide, by decide, by decide +kernel⟩
theorem tg_L_55 : Cond.methodLink "TrickleMeshLaw" 55 ty_X_known ∈ tm_wg ∧ Cond.initialized ty_X_known.cls ∈ tm_wg ∧ Cond.instanceMethod ty_X_known ∈ tm_wg ∧ Cond.selects "TrickleMesh" ty_X_known ty_X_known ∈ tm_wg := ⟨List.mem_filter.mpr ⟨List.mem_append_right _ (List.mem_of_getElem? (i := 416) (by decide +kernel)), by decide +kernel⟩, ti_X, ⟨List.mem_filter.mpr ⟨List.mem_append_right _ (List.mem_of_getElem? (i := 417) (by decide +kernel)), by decide +kernel⟩, List.mem_filter.mpr ⟨List.mem_append_right _ (List.mem_of_getElem? (i := 418) (by decide +kernel)), by decide +kernel⟩⟩⟩
theorem th_X_known : ty_X_known.cls ≠ "java/lang/invoke/MethodHandle" ∧ ty_X_known.cls ≠ "java/lang/invoke/VarHandle" ∧ (parseMethodDescriptor ty_X_known.desc).map (fun d => d.parameters.length) = some 2 := ⟨by decide, by decide, by decide +kernel⟩
theorem tg_L_59 : Cond.methodLink "TrickleMeshLaw" 59 ty_X_delivered ∈ tm_wg ∧ Cond.initialized ty_X_delivered.cls ∈ tm_wg ∧ Cond.instanceMethod ty_X_delivered ∈ tm_wg ∧ Cond.selects "TrickleMesh" ty_X_delivered ty_X_delivered ∈ tm_wg := ⟨List.mem_filter.mpr ⟨List.mem_append_right _ (List.mem_of_getElem? (i := 420) (by decide +kernel)), by decide +kernel⟩, ti_X, ⟨List.mem_filter.mpr ⟨List.mem_append_right _ (List.mem_of_getElem? (i := 421) (by decide +kernel)), by decide +kernel⟩, List.mem_filter.mpr ⟨List.mem_append_right _ (List.mem_of_getElem? (i := 422) (by decide +kernel)), by decide +kernel⟩⟩⟩
theorem th_X_delivered : ty_X_delivered.cls ≠ "java/lang/invoke/MethodHandle" ∧ ty_X_delivered.cls ≠ "java/lang/invoke/VarHandle" ∧ (parseMethodDescriptor ty_X_delivered.desc).map (fun d => d.parameters.length) = some 2 := ⟨by decide, by decide, by decide +kernel⟩
theorem tg_L_63 : Cond.methodLink "TrickleMeshLaw" 63 ty_X_count ∈ tm_wg ∧ Cond.initialized ty_X_count.cls ∈ tm_wg ∧ Cond.instanceMethod ty_X_count ∈ tm_wg ∧ Cond.selects "TrickleMesh" ty_X_count ty_X_count ∈ tm_wg := ⟨List.mem_filter.mpr ⟨List.mem_append_right _ (List.mem_of_getElem? (i := 424) (by decide +kernel)), by decide +kernel⟩, ti_X, ⟨List.mem_filter.mpr ⟨List.mem_append_right _ (List.mem_of_getElem? (i := 425) (by decide +kernel)), by decide +kernel⟩, List.mem_filter.mpr ⟨List.mem_append_right _ (List.mem_of_getElem? (i := 426) (by decide +kernel)), by decide +kernel⟩⟩⟩
theorem th_X_count : ty_X_count.cls ≠ "java/lang/invoke/MethodHandle" ∧ ty_X_count.cls ≠ "java/lang/invoke/VarHandle" ∧ (parseMethodDescriptor ty_X_count.desc).map (fun d => d.parameters.length) = some 1 := ⟨by decide, by decide, by decide +kernel⟩
theorem tg_L_9 : Cond.methodLink "TrickleMeshLaw" 9 ty_L_cell ∈ tm_wg ∧ Cond.initialized ty_L_cell.cls ∈ tm_wg ∧ Cond.static ty_L_cell ∈ tm_wg := ⟨List.mem_filter.mpr ⟨List.mem_append_right _ (List.mem_of_getElem? (i := 428) (by decide +kernel)), by decide +kernel⟩, ti_L, List.mem_filter.mpr ⟨List.mem_append_right _ (List.mem_of_getElem? (i := 429) (by decide +kernel)), by decide +kernel⟩⟩
theorem th_L_cell : ty_L_cell.cls ≠ "java/lang/invoke/MethodHandle" ∧ ty_L_cell.cls ≠ "java/lang/invoke/VarHandle" ∧ (parseMethodDescriptor ty_L_cell.desc).map (fun d => d.parameters.length) = some 2 := ⟨by decide, by decide, by decide +kernel⟩
theorem tg_L_20 : Cond.methodLink "TrickleMeshLaw" 20 ty_Y_init ∈ tm_wg ∧ Cond.initialized ty_Y_init.cls ∈ tm_wg ∧ Cond.instanceMethod ty_Y_init ∈ tm_wg := ⟨List.mem_filter.mpr ⟨List.mem_append_right _ (List.mem_of_getElem? (i := 433) (by decide +kernel)), by decide +kernel⟩, ti_Y, List.mem_filter.mpr ⟨List.mem_append_right _ (List.mem_of_getElem? (i := 434) (by decide +kernel)), by decide +kernel⟩⟩
theorem th_Y_init : ty_Y_init.cls ≠ "java/lang/invoke/MethodHandle" ∧ ty_Y_init.cls ≠ "java/lang/invoke/VarHandle" ∧ (parseMethodDescriptor ty_Y_init.desc).map (fun d => d.parameters.length) = some 3 := ⟨by decide, by decide, by decide +kernel⟩
theorem tg_Y_150 : Cond.methodLink "TrickleMeshModel" 150 ty_Y_reset ∈ tm_wg ∧ Cond.initialized ty_Y_reset.cls ∈ tm_wg ∧ Cond.instanceMethod ty_Y_reset ∈ tm_wg ∧ Cond.selects "TrickleMeshModel" ty_Y_reset ty_Y_reset ∈ tm_wg := ⟨List.mem_filter.mpr ⟨List.mem_append_right _ (List.mem_of_getElem? (i := 437) (by decide +kernel)), by decide +kernel⟩, ti_Y, ⟨List.mem_filter.mpr ⟨List.mem_append_right _ (List.mem_of_getElem? (i := 439) (by decide +kernel)), by decide +kernel⟩, List.mem_filter.mpr ⟨List.mem_append_left _ (List.mem_of_getElem? (i := 31) (by decide +kernel)), by decide +kernel⟩⟩⟩
theorem th_Y_reset : ty_Y_reset.cls ≠ "java/lang/invoke/MethodHandle" ∧ ty_Y_reset.cls ≠ "java/lang/invoke/VarHandle" ∧ (parseMethodDescriptor ty_Y_reset.desc).map (fun d => d.parameters.length) = some 1 := ⟨by decide, by decide, by decide +kernel⟩
theorem tg_Y_175 : Cond.methodLink "TrickleMeshModel" 175 ty_Y_begin ∈ tm_wg ∧ Cond.initialized ty_Y_begin.cls ∈ tm_wg ∧ Cond.instanceMethod ty_Y_begin ∈ tm_wg ∧ Cond.selects "TrickleMeshModel" ty_Y_begin ty_Y_begin ∈ tm_wg := ⟨List.mem_filter.mpr ⟨List.mem_append_right _ (List.mem_of_getElem? (i := 441) (by decide +kernel)), by decide +kernel⟩, ti_Y, ⟨List.mem_filter.mpr ⟨List.mem_append_right _ (List.mem_of_getElem? (i := 443) (by decide +kernel)), by decide +kernel⟩, List.mem_filter.mpr ⟨List.mem_append_left _ (List.mem_of_getElem? (i := 32) (by decide +kernel)), by decide +kernel⟩⟩⟩
theorem th_Y_begin : ty_Y_begin.cls ≠ "java/lang/invoke/MethodHandle" ∧ ty_Y_begin.cls ≠ "java/lang/invoke/VarHandle" ∧ (parseMethodDescriptor ty_Y_begin.desc).map (fun d => d.parameters.length) = some 1 := ⟨by decide, by decide, by decide +kernel⟩
theorem tg_Y_158 : Cond.methodLink "TrickleMeshModel" 158 ty_Y_draw ∈ tm_wg ∧ Cond.initialized ty_Y_draw.cls ∈ tm_wg ∧ Cond.instanceMethod ty_Y_draw ∈ tm_wg ∧ Cond.selects "TrickleMeshModel" ty_Y_draw ty_Y_draw ∈ tm_wg := ⟨List.mem_filter.mpr ⟨List.mem_append_right _ (List.mem_of_getElem? (i := 445) (by decide +kernel)), by decide +kernel⟩, ti_Y, ⟨List.mem_filter.mpr ⟨List.mem_append_right _ (List.mem_of_getElem? (i := 447) (by decide +kernel)), by decide +kernel⟩, List.mem_filter.mpr ⟨List.mem_append_left _ (List.mem_of_getElem? (i := 33) (by decide +kernel)), by decide +kernel⟩⟩⟩
theorem th_Y_draw : ty_Y_draw.cls ≠ "java/lang/invoke/MethodHandle" ∧ ty_Y_draw.cls ≠ "java/lang/invoke/VarHandle" ∧ (parseMethodDescriptor ty_Y_draw.desc).map (fun d => d.parameters.length) = some 1 := ⟨by decide, by decide, by decide +kernel⟩
theorem tk_Y_154 : Cond.constant "TrickleMeshModel" 154 1103515245 ∈ tm_wg := List.mem_filter.mpr ⟨List.mem_append_right _ (List.mem_of_getElem? (i := 449) (by decide +kernel)), by decide +kernel⟩
theorem tq_Y_140 : Cond.fieldLink "TrickleMeshModel" 140 (tT_Y 0).1 (tT_Y 0).2.1 (tT_Y 0).2.2.1 ∈ tm_wg := List.mem_filter.mpr ⟨List.mem_append_right _ (List.mem_of_getElem? (i := 450) (by decide +kernel)), by decide +kernel⟩
theorem tf_Y_140 : tv_F tm_wg tm_ns tm_cl "TrickleMeshModel" 140 5 0 tR_Y tT_Y 52 := ⟨rfl, by decide, tl_Y, Or.inl tq_Y_140⟩
theorem tq_Y_144 : Cond.fieldLink "TrickleMeshModel" 144 (tT_Y 1).1 (tT_Y 1).2.1 (tT_Y 1).2.2.1 ∈ tm_wg := List.mem_filter.mpr ⟨List.mem_append_right _ (List.mem_of_getElem? (i := 451) (by decide +kernel)), by decide +kernel⟩
theorem tf_Y_144 : tv_F tm_wg tm_ns tm_cl "TrickleMeshModel" 144 5 1 tR_Y tT_Y 52 := ⟨rfl, by decide, tl_Y, Or.inl tq_Y_144⟩
theorem tq_Y_147 : Cond.fieldLink "TrickleMeshModel" 147 (tT_Y 2).1 (tT_Y 2).2.1 (tT_Y 2).2.2.1 ∈ tm_wg := List.mem_filter.mpr ⟨List.mem_append_right _ (List.mem_of_getElem? (i := 452) (by decide +kernel)), by decide +kernel⟩
theorem tf_Y_147 : tv_F tm_wg tm_ns tm_cl "TrickleMeshModel" 147 5 2 tR_Y tT_Y 52 := ⟨rfl, by decide, tl_Y, Or.inl tq_Y_147⟩
theorem tq_Y_223 : Cond.fieldLink "TrickleMeshModel" 223 (tT_Y 3).1 (tT_Y 3).2.1 (tT_Y 3).2.2.1 ∈ tm_wg := List.mem_filter.mpr ⟨List.mem_append_right _ (List.mem_of_getElem? (i := 453) (by decide +kernel)), by decide +kernel⟩
theorem tf_Y_223 : tv_F tm_wg tm_ns tm_cl "TrickleMeshModel" 223 5 3 tR_Y tT_Y 52 := ⟨rfl, by decide, tl_Y, Or.inl tq_Y_223⟩
theorem tq_Y_7 : Cond.fieldLink "TrickleMeshModel" 7 (tT_Y 4).1 (tT_Y 4).2.1 (tT_Y 4).2.2.1 ∈ tm_wg := List.mem_filter.mpr ⟨List.mem_append_right _ (List.mem_of_getElem? (i := 454) (by decide +kernel)), by decide +kernel⟩
theorem tf_Y_7 : tv_F tm_wg tm_ns tm_cl "TrickleMeshModel" 7 5 4 tR_Y tT_Y 52 := ⟨rfl, by decide, tl_Y, Or.inl tq_Y_7⟩
theorem tq_Y_13 : Cond.fieldLink "TrickleMeshModel" 13 (tT_Y 5).1 (tT_Y 5).2.1 (tT_Y 5).2.2.1 ∈ tm_wg := List.mem_filter.mpr ⟨List.mem_append_right _ (List.mem_of_getElem? (i := 455) (by decide +kernel)), by decide +kernel⟩
theorem tf_Y_13 : tv_F tm_wg tm_ns tm_cl "TrickleMeshModel" 13 5 5 tR_Y tT_Y 52 := ⟨rfl, by decide, tl_Y, Or.inl tq_Y_13⟩
theorem tq_Y_16 : Cond.fieldLink "TrickleMeshModel" 16 (tT_Y 6).1 (tT_Y 6).2.1 (tT_Y 6).2.2.1 ∈ tm_wg := List.mem_filter.mpr ⟨List.mem_append_right _ (List.mem_of_getElem? (i := 456) (by decide +kernel)), by decide +kernel⟩
theorem tf_Y_16 : tv_F tm_wg tm_ns tm_cl "TrickleMeshModel" 16 5 6 tR_Y tT_Y 52 := ⟨rfl, by decide, tl_Y, Or.inl tq_Y_16⟩
theorem tq_Y_20 : Cond.fieldLink "TrickleMeshModel" 20 (tT_Y 7).1 (tT_Y 7).2.1 (tT_Y 7).2.2.1 ∈ tm_wg := List.mem_filter.mpr ⟨List.mem_append_right _ (List.mem_of_getElem? (i := 457) (by decide +kernel)), by decide +kernel⟩
theorem tf_Y_20 : tv_F tm_wg tm_ns tm_cl "TrickleMeshModel" 20 5 7 tR_Y tT_Y 52 := ⟨rfl, by decide, tl_Y, Or.inl tq_Y_20⟩
theorem tq_Y_23 : Cond.fieldLink "TrickleMeshModel" 23 (tT_Y 8).1 (tT_Y 8).2.1 (tT_Y 8).2.2.1 ∈ tm_wg := List.mem_filter.mpr ⟨List.mem_append_right _ (List.mem_of_getElem? (i := 458) (by decide +kernel)), by decide +kernel⟩
theorem tf_Y_23 : tv_F tm_wg tm_ns tm_cl "TrickleMeshModel" 23 5 8 tR_Y tT_Y 52 := ⟨rfl, by decide, tl_Y, Or.inl tq_Y_23⟩
theorem tq_Y_26 : Cond.fieldLink "TrickleMeshModel" 26 (tT_Y 9).1 (tT_Y 9).2.1 (tT_Y 9).2.2.1 ∈ tm_wg := List.mem_filter.mpr ⟨List.mem_append_right _ (List.mem_of_getElem? (i := 459) (by decide +kernel)), by decide +kernel⟩
theorem tf_Y_26 : tv_F tm_wg tm_ns tm_cl "TrickleMeshModel" 26 5 9 tR_Y tT_Y 52 := ⟨rfl, by decide, tl_Y, Or.inl tq_Y_26⟩
theorem tq_Y_29 : Cond.fieldLink "TrickleMeshModel" 29 (tT_Y 10).1 (tT_Y 10).2.1 (tT_Y 10).2.2.1 ∈ tm_wg := List.mem_filter.mpr ⟨List.mem_append_right _ (List.mem_of_getElem? (i := 460) (by decide +kernel)), by decide +kernel⟩
theorem tf_Y_29 : tv_F tm_wg tm_ns tm_cl "TrickleMeshModel" 29 5 10 tR_Y tT_Y 52 := ⟨rfl, by decide, tl_Y, Or.inl tq_Y_29⟩
theorem tq_Y_32 : Cond.fieldLink "TrickleMeshModel" 32 (tT_Y 11).1 (tT_Y 11).2.1 (tT_Y 11).2.2.1 ∈ tm_wg := List.mem_filter.mpr ⟨List.mem_append_right _ (List.mem_of_getElem? (i := 461) (by decide +kernel)), by decide +kernel⟩
theorem tf_Y_32 : tv_F tm_wg tm_ns tm_cl "TrickleMeshModel" 32 5 11 tR_Y tT_Y 52 := ⟨rfl, by decide, tl_Y, Or.inl tq_Y_32⟩
theorem tq_Y_35 : Cond.fieldLink "TrickleMeshModel" 35 (tT_Y 12).1 (tT_Y 12).2.1 (tT_Y 12).2.2.1 ∈ tm_wg := List.mem_filter.mpr ⟨List.mem_append_right _ (List.mem_of_getElem? (i := 462) (by decide +kernel)), by decide +kernel⟩
theorem tf_Y_35 : tv_F tm_wg tm_ns tm_cl "TrickleMeshModel" 35 5 12 tR_Y tT_Y 52 := ⟨rfl, by decide, tl_Y, Or.inl tq_Y_35⟩
theorem tq_Y_38 : Cond.fieldLink "TrickleMeshModel" 38 (tT_Y 13).1 (tT_Y 13).2.1 (tT_Y 13).2.2.1 ∈ tm_wg := List.mem_filter.mpr ⟨List.mem_append_right _ (List.mem_of_getElem? (i := 463) (by decide +kernel)), by decide +kernel⟩
theorem tf_Y_38 : tv_F tm_wg tm_ns tm_cl "TrickleMeshModel" 38 5 13 tR_Y tT_Y 52 := ⟨rfl, by decide, tl_Y, Or.inl tq_Y_38⟩
theorem tq_Y_41 : Cond.fieldLink "TrickleMeshModel" 41 (tT_Y 14).1 (tT_Y 14).2.1 (tT_Y 14).2.2.1 ∈ tm_wg := List.mem_filter.mpr ⟨List.mem_append_right _ (List.mem_of_getElem? (i := 464) (by decide +kernel)), by decide +kernel⟩
theorem tf_Y_41 : tv_F tm_wg tm_ns tm_cl "TrickleMeshModel" 41 5 14 tR_Y tT_Y 52 := ⟨rfl, by decide, tl_Y, Or.inl tq_Y_41⟩
theorem tq_Y_44 : Cond.fieldLink "TrickleMeshModel" 44 (tT_Y 15).1 (tT_Y 15).2.1 (tT_Y 15).2.2.1 ∈ tm_wg := List.mem_filter.mpr ⟨List.mem_append_right _ (List.mem_of_getElem? (i := 465) (by decide +kernel)), by decide +kernel⟩
theorem tf_Y_44 : tv_F tm_wg tm_ns tm_cl "TrickleMeshModel" 44 5 15 tR_Y tT_Y 52 := ⟨rfl, by decide, tl_Y, Or.inl tq_Y_44⟩
theorem tq_Y_47 : Cond.fieldLink "TrickleMeshModel" 47 (tT_Y 16).1 (tT_Y 16).2.1 (tT_Y 16).2.2.1 ∈ tm_wg := List.mem_filter.mpr ⟨List.mem_append_right _ (List.mem_of_getElem? (i := 466) (by decide +kernel)), by decide +kernel⟩
theorem tf_Y_47 : tv_F tm_wg tm_ns tm_cl "TrickleMeshModel" 47 5 16 tR_Y tT_Y 52 := ⟨rfl, by decide, tl_Y, Or.inl tq_Y_47⟩
theorem tq_Y_50 : Cond.fieldLink "TrickleMeshModel" 50 (tT_Y 17).1 (tT_Y 17).2.1 (tT_Y 17).2.2.1 ∈ tm_wg := List.mem_filter.mpr ⟨List.mem_append_right _ (List.mem_of_getElem? (i := 467) (by decide +kernel)), by decide +kernel⟩
theorem tf_Y_50 : tv_F tm_wg tm_ns tm_cl "TrickleMeshModel" 50 5 17 tR_Y tT_Y 52 := ⟨rfl, by decide, tl_Y, Or.inl tq_Y_50⟩
theorem tq_Y_53 : Cond.fieldLink "TrickleMeshModel" 53 (tT_Y 18).1 (tT_Y 18).2.1 (tT_Y 18).2.2.1 ∈ tm_wg := List.mem_filter.mpr ⟨List.mem_append_right _ (List.mem_of_getElem? (i := 468) (by decide +kernel)), by decide +kernel⟩
theorem tf_Y_53 : tv_F tm_wg tm_ns tm_cl "TrickleMeshModel" 53 5 18 tR_Y tT_Y 52 := ⟨rfl, by decide, tl_Y, Or.inl tq_Y_53⟩
theorem tq_Y_56 : Cond.fieldLink "TrickleMeshModel" 56 (tT_Y 19).1 (tT_Y 19).2.1 (tT_Y 19).2.2.1 ∈ tm_wg := List.mem_filter.mpr ⟨List.mem_append_right _ (List.mem_of_getElem? (i := 469) (by decide +kernel)), by decide +kernel⟩
theorem tf_Y_56 : tv_F tm_wg tm_ns tm_cl "TrickleMeshModel" 56 5 19 tR_Y tT_Y 52 := ⟨rfl, by decide, tl_Y, Or.inl tq_Y_56⟩
theorem tq_Y_59 : Cond.fieldLink "TrickleMeshModel" 59 (tT_Y 20).1 (tT_Y 20).2.1 (tT_Y 20).2.2.1 ∈ tm_wg := List.mem_filter.mpr ⟨List.mem_append_right _ (List.mem_of_getElem? (i := 470) (by decide +kernel)), by decide +kernel⟩
theorem tf_Y_59 : tv_F tm_wg tm_ns tm_cl "TrickleMeshModel" 59 5 20 tR_Y tT_Y 52 := ⟨rfl, by decide, tl_Y, Or.inl tq_Y_59⟩
theorem tq_Y_62 : Cond.fieldLink "TrickleMeshModel" 62 (tT_Y 21).1 (tT_Y 21).2.1 (tT_Y 21).2.2.1 ∈ tm_wg := List.mem_filter.mpr ⟨List.mem_append_right _ (List.mem_of_getElem? (i := 471) (by decide +kernel)), by decide +kernel⟩
theorem tf_Y_62 : tv_F tm_wg tm_ns tm_cl "TrickleMeshModel" 62 5 21 tR_Y tT_Y 52 := ⟨rfl, by decide, tl_Y, Or.inl tq_Y_62⟩
theorem tq_Y_65 : Cond.fieldLink "TrickleMeshModel" 65 (tT_Y 22).1 (tT_Y 22).2.1 (tT_Y 22).2.2.1 ∈ tm_wg := List.mem_filter.mpr ⟨List.mem_append_right _ (List.mem_of_getElem? (i := 472) (by decide +kernel)), by decide +kernel⟩
theorem tf_Y_65 : tv_F tm_wg tm_ns tm_cl "TrickleMeshModel" 65 5 22 tR_Y tT_Y 52 := ⟨rfl, by decide, tl_Y, Or.inl tq_Y_65⟩
theorem tq_Y_68 : Cond.fieldLink "TrickleMeshModel" 68 (tT_Y 23).1 (tT_Y 23).2.1 (tT_Y 23).2.2.1 ∈ tm_wg := List.mem_filter.mpr ⟨List.mem_append_right _ (List.mem_of_getElem? (i := 473) (by decide +kernel)), by decide +kernel⟩
theorem tf_Y_68 : tv_F tm_wg tm_ns tm_cl "TrickleMeshModel" 68 5 23 tR_Y tT_Y 52 := ⟨rfl, by decide, tl_Y, Or.inl tq_Y_68⟩
theorem tq_Y_71 : Cond.fieldLink "TrickleMeshModel" 71 (tT_Y 24).1 (tT_Y 24).2.1 (tT_Y 24).2.2.1 ∈ tm_wg := List.mem_filter.mpr ⟨List.mem_append_right _ (List.mem_of_getElem? (i := 474) (by decide +kernel)), by decide +kernel⟩
theorem tf_Y_71 : tv_F tm_wg tm_ns tm_cl "TrickleMeshModel" 71 5 24 tR_Y tT_Y 52 := ⟨rfl, by decide, tl_Y, Or.inl tq_Y_71⟩
theorem tq_Y_74 : Cond.fieldLink "TrickleMeshModel" 74 (tT_Y 25).1 (tT_Y 25).2.1 (tT_Y 25).2.2.1 ∈ tm_wg := List.mem_filter.mpr ⟨List.mem_append_right _ (List.mem_of_getElem? (i := 475) (by decide +kernel)), by decide +kernel⟩
theorem tf_Y_74 : tv_F tm_wg tm_ns tm_cl "TrickleMeshModel" 74 5 25 tR_Y tT_Y 52 := ⟨rfl, by decide, tl_Y, Or.inl tq_Y_74⟩
theorem tq_Y_77 : Cond.fieldLink "TrickleMeshModel" 77 (tT_Y 26).1 (tT_Y 26).2.1 (tT_Y 26).2.2.1 ∈ tm_wg := List.mem_filter.mpr ⟨List.mem_append_right _ (List.mem_of_getElem? (i := 476) (by decide +kernel)), by decide +kernel⟩
theorem tf_Y_77 : tv_F tm_wg tm_ns tm_cl "TrickleMeshModel" 77 5 26 tR_Y tT_Y 52 := ⟨rfl, by decide, tl_Y, Or.inl tq_Y_77⟩
theorem tq_Y_80 : Cond.fieldLink "TrickleMeshModel" 80 (tT_Y 27).1 (tT_Y 27).2.1 (tT_Y 27).2.2.1 ∈ tm_wg := List.mem_filter.mpr ⟨List.mem_append_right _ (List.mem_of_getElem? (i := 477) (by decide +kernel)), by decide +kernel⟩
theorem tf_Y_80 : tv_F tm_wg tm_ns tm_cl "TrickleMeshModel" 80 5 27 tR_Y tT_Y 52 := ⟨rfl, by decide, tl_Y, Or.inl tq_Y_80⟩
theorem tq_Y_83 : Cond.fieldLink "TrickleMeshModel" 83 (tT_Y 28).1 (tT_Y 28).2.1 (tT_Y 28).2.2.1 ∈ tm_wg := List.mem_filter.mpr ⟨List.mem_append_right _ (List.mem_of_getElem? (i := 478) (by decide +kernel)), by decide +kernel⟩
theorem tf_Y_83 : tv_F tm_wg tm_ns tm_cl "TrickleMeshModel" 83 5 28 tR_Y tT_Y 52 := ⟨rfl, by decide, tl_Y, Or.inl tq_Y_83⟩
theorem tq_Y_86 : Cond.fieldLink "TrickleMeshModel" 86 (tT_Y 29).1 (tT_Y 29).2.1 (tT_Y 29).2.2.1 ∈ tm_wg := List.mem_filter.mpr ⟨List.mem_append_right _ (List.mem_of_getElem? (i := 479) (by decide +kernel)), by decide +kernel⟩
theorem tf_Y_86 : tv_F tm_wg tm_ns tm_cl "TrickleMeshModel" 86 5 29 tR_Y tT_Y 52 := ⟨rfl, by decide, tl_Y, Or.inl tq_Y_86⟩
theorem tq_Y_89 : Cond.fieldLink "TrickleMeshModel" 89 (tT_Y 30).1 (tT_Y 30).2.1 (tT_Y 30).2.2.1 ∈ tm_wg := List.mem_filter.mpr ⟨List.mem_append_right _ (List.mem_of_getElem? (i := 480) (by decide +kernel)), by decide +kernel⟩
theorem tf_Y_89 : tv_F tm_wg tm_ns tm_cl "TrickleMeshModel" 89 5 30 tR_Y tT_Y 52 := ⟨rfl, by decide, tl_Y, Or.inl tq_Y_89⟩
theorem tq_Y_92 : Cond.fieldLink "TrickleMeshModel" 92 (tT_Y 31).1 (tT_Y 31).2.1 (tT_Y 31).2.2.1 ∈ tm_wg := List.mem_filter.mpr ⟨List.mem_append_right _ (List.mem_of_getElem? (i := 481) (by decide +kernel)), by decide +kernel⟩
theorem tf_Y_92 : tv_F tm_wg tm_ns tm_cl "TrickleMeshModel" 92 5 31 tR_Y tT_Y 52 := ⟨rfl, by decide, tl_Y, Or.inl tq_Y_92⟩
theorem tq_Y_95 : Cond.fieldLink "TrickleMeshModel" 95 (tT_Y 32).1 (tT_Y 32).2.1 (tT_Y 32).2.2.1 ∈ tm_wg := List.mem_filter.mpr ⟨List.mem_append_right _ (List.mem_of_getElem? (i := 482) (by decide +kernel)), by decide +kernel⟩
theorem tf_Y_95 : tv_F tm_wg tm_ns tm_cl "TrickleMeshModel" 95 5 32 tR_Y tT_Y 52 := ⟨rfl, by decide, tl_Y, Or.inl tq_Y_95⟩
theorem tq_Y_98 : Cond.fieldLink "TrickleMeshModel" 98 (tT_Y 33).1 (tT_Y 33).2.1 (tT_Y 33).2.2.1 ∈ tm_wg := List.mem_filter.mpr ⟨List.mem_append_right _ (List.mem_of_getElem? (i := 483) (by decide +kernel)), by decide +kernel⟩
theorem tf_Y_98 : tv_F tm_wg tm_ns tm_cl "TrickleMeshModel" 98 5 33 tR_Y tT_Y 52 := ⟨rfl, by decide, tl_Y, Or.inl tq_Y_98⟩
theorem tq_Y_101 : Cond.fieldLink "TrickleMeshModel" 101 (tT_Y 34).1 (tT_Y 34).2.1 (tT_Y 34).2.2.1 ∈ tm_wg := List.mem_filter.mpr ⟨List.mem_append_right _ (List.mem_of_getElem? (i := 484) (by decide +kernel)), by decide +kernel⟩
theorem tf_Y_101 : tv_F tm_wg tm_ns tm_cl "TrickleMeshModel" 101 5 34 tR_Y tT_Y 52 := ⟨rfl, by decide, tl_Y, Or.inl tq_Y_101⟩
theorem tq_Y_104 : Cond.fieldLink "TrickleMeshModel" 104 (tT_Y 35).1 (tT_Y 35).2.1 (tT_Y 35).2.2.1 ∈ tm_wg := List.mem_filter.mpr ⟨List.mem_append_right _ (List.mem_of_getElem? (i := 485) (by decide +kernel)), by decide +kernel⟩
theorem tf_Y_104 : tv_F tm_wg tm_ns tm_cl "TrickleMeshModel" 104 5 35 tR_Y tT_Y 52 := ⟨rfl, by decide, tl_Y, Or.inl tq_Y_104⟩
theorem tq_Y_107 : Cond.fieldLink "TrickleMeshModel" 107 (tT_Y 36).1 (tT_Y 36).2.1 (tT_Y 36).2.2.1 ∈ tm_wg := List.mem_filter.mpr ⟨List.mem_append_right _ (List.mem_of_getElem? (i := 486) (by decide +kernel)), by decide +kernel⟩
theorem tf_Y_107 : tv_F tm_wg tm_ns tm_cl "TrickleMeshModel" 107 5 36 tR_Y tT_Y 52 := ⟨rfl, by decide, tl_Y, Or.inl tq_Y_107⟩
theorem tq_Y_110 : Cond.fieldLink "TrickleMeshModel" 110 (tT_Y 37).1 (tT_Y 37).2.1 (tT_Y 37).2.2.1 ∈ tm_wg := List.mem_filter.mpr ⟨List.mem_append_right _ (List.mem_of_getElem? (i := 487) (by decide +kernel)), by decide +kernel⟩
theorem tf_Y_110 : tv_F tm_wg tm_ns tm_cl "TrickleMeshModel" 110 5 37 tR_Y tT_Y 52 := ⟨rfl, by decide, tl_Y, Or.inl tq_Y_110⟩
theorem tq_Y_113 : Cond.fieldLink "TrickleMeshModel" 113 (tT_Y 38).1 (tT_Y 38).2.1 (tT_Y 38).2.2.1 ∈ tm_wg := List.mem_filter.mpr ⟨List.mem_append_right _ (List.mem_of_getElem? (i := 488) (by decide +kernel)), by decide +kernel⟩
theorem tf_Y_113 : tv_F tm_wg tm_ns tm_cl "TrickleMeshModel" 113 5 38 tR_Y tT_Y 52 := ⟨rfl, by decide, tl_Y, Or.inl tq_Y_113⟩
theorem tq_Y_116 : Cond.fieldLink "TrickleMeshModel" 116 (tT_Y 39).1 (tT_Y 39).2.1 (tT_Y 39).2.2.1 ∈ tm_wg := List.mem_filter.mpr ⟨List.mem_append_right _ (List.mem_of_getElem? (i := 489) (by decide +kernel)), by decide +kernel⟩
theorem tf_Y_116 : tv_F tm_wg tm_ns tm_cl "TrickleMeshModel" 116 5 39 tR_Y tT_Y 52 := ⟨rfl, by decide, tl_Y, Or.inl tq_Y_116⟩
theorem tq_Y_155 : Cond.fieldLink "TrickleMeshModel" 155 (tT_Y 40).1 (tT_Y 40).2.1 (tT_Y 40).2.2.1 ∈ tm_wg := List.mem_filter.mpr ⟨List.mem_append_right _ (List.mem_of_getElem? (i := 490) (by decide +kernel)), by decide +kernel⟩
theorem tf_Y_155 : tv_F tm_wg tm_ns tm_cl "TrickleMeshModel" 155 5 40 tR_Y tT_Y 52 := ⟨rfl, by decide, tl_Y, Or.inl tq_Y_155⟩
theorem tq_Y_119 : Cond.fieldLink "TrickleMeshModel" 119 (tT_Y 41).1 (tT_Y 41).2.1 (tT_Y 41).2.2.1 ∈ tm_wg := List.mem_filter.mpr ⟨List.mem_append_right _ (List.mem_of_getElem? (i := 491) (by decide +kernel)), by decide +kernel⟩
theorem tf_Y_119 : tv_F tm_wg tm_ns tm_cl "TrickleMeshModel" 119 5 41 tR_Y tT_Y 52 := ⟨rfl, by decide, tl_Y, Or.inl tq_Y_119⟩
theorem tq_Y_122 : Cond.fieldLink "TrickleMeshModel" 122 (tT_Y 42).1 (tT_Y 42).2.1 (tT_Y 42).2.2.1 ∈ tm_wg := List.mem_filter.mpr ⟨List.mem_append_right _ (List.mem_of_getElem? (i := 492) (by decide +kernel)), by decide +kernel⟩
theorem tf_Y_122 : tv_F tm_wg tm_ns tm_cl "TrickleMeshModel" 122 5 42 tR_Y tT_Y 52 := ⟨rfl, by decide, tl_Y, Or.inl tq_Y_122⟩
theorem tq_Y_125 : Cond.fieldLink "TrickleMeshModel" 125 (tT_Y 43).1 (tT_Y 43).2.1 (tT_Y 43).2.2.1 ∈ tm_wg := List.mem_filter.mpr ⟨List.mem_append_right _ (List.mem_of_getElem? (i := 493) (by decide +kernel)), by decide +kernel⟩
theorem tf_Y_125 : tv_F tm_wg tm_ns tm_cl "TrickleMeshModel" 125 5 43 tR_Y tT_Y 52 := ⟨rfl, by decide, tl_Y, Or.inl tq_Y_125⟩
theorem tq_Y_128 : Cond.fieldLink "TrickleMeshModel" 128 (tT_Y 44).1 (tT_Y 44).2.1 (tT_Y 44).2.2.1 ∈ tm_wg := List.mem_filter.mpr ⟨List.mem_append_right _ (List.mem_of_getElem? (i := 494) (by decide +kernel)), by decide +kernel⟩
theorem tf_Y_128 : tv_F tm_wg tm_ns tm_cl "TrickleMeshModel" 128 5 44 tR_Y tT_Y 52 := ⟨rfl, by decide, tl_Y, Or.inl tq_Y_128⟩
theorem tq_Y_131 : Cond.fieldLink "TrickleMeshModel" 131 (tT_Y 45).1 (tT_Y 45).2.1 (tT_Y 45).2.2.1 ∈ tm_wg := List.mem_filter.mpr ⟨List.mem_append_right _ (List.mem_of_getElem? (i := 495) (by decide +kernel)), by decide +kernel⟩
theorem tf_Y_131 : tv_F tm_wg tm_ns tm_cl "TrickleMeshModel" 131 5 45 tR_Y tT_Y 52 := ⟨rfl, by decide, tl_Y, Or.inl tq_Y_131⟩
theorem tq_Y_247 : Cond.fieldLink "TrickleMeshModel" 247 (tT_Y 46).1 (tT_Y 46).2.1 (tT_Y 46).2.2.1 ∈ tm_wg := List.mem_filter.mpr ⟨List.mem_append_right _ (List.mem_of_getElem? (i := 496) (by decide +kernel)), by decide +kernel⟩
theorem tf_Y_247 : tv_F tm_wg tm_ns tm_cl "TrickleMeshModel" 247 5 46 tR_Y tT_Y 52 := ⟨rfl, by decide, tl_Y, Or.inl tq_Y_247⟩
theorem tq_Y_162 : Cond.fieldLink "TrickleMeshModel" 162 (tT_Y 47).1 (tT_Y 47).2.1 (tT_Y 47).2.2.1 ∈ tm_wg := List.mem_filter.mpr ⟨List.mem_append_right _ (List.mem_of_getElem? (i := 497) (by decide +kernel)), by decide +kernel⟩
theorem tf_Y_162 : tv_F tm_wg tm_ns tm_cl "TrickleMeshModel" 162 5 47 tR_Y tT_Y 52 := ⟨rfl, by decide, tl_Y, Or.inl tq_Y_162⟩
theorem tq_Y_197 : Cond.fieldLink "TrickleMeshModel" 197 (tT_Y 48).1 (tT_Y 48).2.1 (tT_Y 48).2.2.1 ∈ tm_wg := List.mem_filter.mpr ⟨List.mem_append_right _ (List.mem_of_getElem? (i := 498) (by decide +kernel)), by decide +kernel⟩
theorem tf_Y_197 : tv_F tm_wg tm_ns tm_cl "TrickleMeshModel" 197 5 48 tR_Y tT_Y 52 := ⟨rfl, by decide, tl_Y, Or.inl tq_Y_197⟩
theorem tq_Y_210 : Cond.fieldLink "TrickleMeshModel" 210 (tT_Y 49).1 (tT_Y 49).2.1 (tT_Y 49).2.2.1 ∈ tm_wg := List.mem_filter.mpr ⟨List.mem_append_right _ (List.mem_of_getElem? (i := 499) (by decide +kernel)), by decide +kernel⟩
theorem tf_Y_210 : tv_F tm_wg tm_ns tm_cl "TrickleMeshModel" 210 5 49 tR_Y tT_Y 52 := ⟨rfl, by decide, tl_Y, Or.inl tq_Y_210⟩
theorem tq_Y_134 : Cond.fieldLink "TrickleMeshModel" 134 (tT_Y 50).1 (tT_Y 50).2.1 (tT_Y 50).2.2.1 ∈ tm_wg := List.mem_filter.mpr ⟨List.mem_append_right _ (List.mem_of_getElem? (i := 500) (by decide +kernel)), by decide +kernel⟩
theorem tf_Y_134 : tv_F tm_wg tm_ns tm_cl "TrickleMeshModel" 134 5 50 tR_Y tT_Y 52 := ⟨rfl, by decide, tl_Y, Or.inl tq_Y_134⟩
theorem tq_Y_137 : Cond.fieldLink "TrickleMeshModel" 137 (tT_Y 51).1 (tT_Y 51).2.1 (tT_Y 51).2.2.1 ∈ tm_wg := List.mem_filter.mpr ⟨List.mem_append_right _ (List.mem_of_getElem? (i := 501) (by decide +kernel)), by decide +kernel⟩
theorem tf_Y_137 : tv_F tm_wg tm_ns tm_cl "TrickleMeshModel" 137 5 51 tR_Y tT_Y 52 := ⟨rfl, by decide, tl_Y, Or.inl tq_Y_137⟩
theorem tg_L_25 : Cond.methodLink "TrickleMeshLaw" 25 ty_Y_link ∈ tm_wg ∧ Cond.initialized ty_Y_link.cls ∈ tm_wg ∧ Cond.instanceMethod ty_Y_link ∈ tm_wg ∧ Cond.selects "TrickleMeshModel" ty_Y_link ty_Y_link ∈ tm_wg := ⟨List.mem_filter.mpr ⟨List.mem_append_right _ (List.mem_of_getElem? (i := 608) (by decide +kernel)), by decide +kernel⟩, ti_Y, ⟨List.mem_filter.mpr ⟨List.mem_append_right _ (List.mem_of_getElem? (i := 609) (by decide +kernel)), by decide +kernel⟩, List.mem_filter.mpr ⟨List.mem_append_right _ (List.mem_of_getElem? (i := 610) (by decide +kernel)), by decide +kernel⟩⟩⟩
theorem th_Y_link : ty_Y_link.cls ≠ "java/lang/invoke/MethodHandle" ∧ ty_Y_link.cls ≠ "java/lang/invoke/VarHandle" ∧ (parseMethodDescriptor ty_Y_link.desc).map (fun d => d.parameters.length) = some 3 := ⟨by decide, by decide, by decide +kernel⟩
theorem tg_Y_244 : Cond.methodLink "TrickleMeshModel" 244 ty_Y_isNode ∈ tm_wg ∧ Cond.initialized ty_Y_isNode.cls ∈ tm_wg ∧ Cond.static ty_Y_isNode ∈ tm_wg := ⟨List.mem_filter.mpr ⟨List.mem_append_right _ (List.mem_of_getElem? (i := 612) (by decide +kernel)), by decide +kernel⟩, ti_Y, List.mem_filter.mpr ⟨List.mem_append_right _ (List.mem_of_getElem? (i := 613) (by decide +kernel)), by decide +kernel⟩⟩
theorem th_Y_isNode : ty_Y_isNode.cls ≠ "java/lang/invoke/MethodHandle" ∧ ty_Y_isNode.cls ≠ "java/lang/invoke/VarHandle" ∧ (parseMethodDescriptor ty_Y_isNode.desc).map (fun d => d.parameters.length) = some 1 := ⟨by decide, by decide, by decide +kernel⟩
theorem tg_L_30 : Cond.methodLink "TrickleMeshLaw" 30 ty_Y_kill ∈ tm_wg ∧ Cond.initialized ty_Y_kill.cls ∈ tm_wg ∧ Cond.instanceMethod ty_Y_kill ∈ tm_wg ∧ Cond.selects "TrickleMeshModel" ty_Y_kill ty_Y_kill ∈ tm_wg := ⟨List.mem_filter.mpr ⟨List.mem_append_right _ (List.mem_of_getElem? (i := 615) (by decide +kernel)), by decide +kernel⟩, ti_Y, ⟨List.mem_filter.mpr ⟨List.mem_append_right _ (List.mem_of_getElem? (i := 616) (by decide +kernel)), by decide +kernel⟩, List.mem_filter.mpr ⟨List.mem_append_right _ (List.mem_of_getElem? (i := 617) (by decide +kernel)), by decide +kernel⟩⟩⟩
theorem th_Y_kill : ty_Y_kill.cls ≠ "java/lang/invoke/MethodHandle" ∧ ty_Y_kill.cls ≠ "java/lang/invoke/VarHandle" ∧ (parseMethodDescriptor ty_Y_kill.desc).map (fun d => d.parameters.length) = some 1 := ⟨by decide, by decide, by decide +kernel⟩
theorem tg_L_35 : Cond.methodLink "TrickleMeshLaw" 35 ty_Y_repair ∈ tm_wg ∧ Cond.initialized ty_Y_repair.cls ∈ tm_wg ∧ Cond.instanceMethod ty_Y_repair ∈ tm_wg ∧ Cond.selects "TrickleMeshModel" ty_Y_repair ty_Y_repair ∈ tm_wg := ⟨List.mem_filter.mpr ⟨List.mem_append_right _ (List.mem_of_getElem? (i := 619) (by decide +kernel)), by decide +kernel⟩, ti_Y, ⟨List.mem_filter.mpr ⟨List.mem_append_right _ (List.mem_of_getElem? (i := 620) (by decide +kernel)), by decide +kernel⟩, List.mem_filter.mpr ⟨List.mem_append_right _ (List.mem_of_getElem? (i := 621) (by decide +kernel)), by decide +kernel⟩⟩⟩
theorem th_Y_repair : ty_Y_repair.cls ≠ "java/lang/invoke/MethodHandle" ∧ ty_Y_repair.cls ≠ "java/lang/invoke/VarHandle" ∧ (parseMethodDescriptor ty_Y_repair.desc).map (fun d => d.parameters.length) = some 0 := ⟨by decide, by decide, by decide +kernel⟩
theorem tg_L_40 : Cond.methodLink "TrickleMeshLaw" 40 ty_Y_send ∈ tm_wg ∧ Cond.initialized ty_Y_send.cls ∈ tm_wg ∧ Cond.instanceMethod ty_Y_send ∈ tm_wg ∧ Cond.selects "TrickleMeshModel" ty_Y_send ty_Y_send ∈ tm_wg := ⟨List.mem_filter.mpr ⟨List.mem_append_right _ (List.mem_of_getElem? (i := 623) (by decide +kernel)), by decide +kernel⟩, ti_Y, ⟨List.mem_filter.mpr ⟨List.mem_append_right _ (List.mem_of_getElem? (i := 624) (by decide +kernel)), by decide +kernel⟩, List.mem_filter.mpr ⟨List.mem_append_right _ (List.mem_of_getElem? (i := 625) (by decide +kernel)), by decide +kernel⟩⟩⟩
theorem th_Y_send : ty_Y_send.cls ≠ "java/lang/invoke/MethodHandle" ∧ ty_Y_send.cls ≠ "java/lang/invoke/VarHandle" ∧ (parseMethodDescriptor ty_Y_send.desc).map (fun d => d.parameters.length) = some 4 := ⟨by decide, by decide, by decide +kernel⟩
theorem tg_Y_200 : Cond.methodLink "TrickleMeshModel" 200 ty_Y_sendOn ∈ tm_wg ∧ Cond.initialized ty_Y_sendOn.cls ∈ tm_wg ∧ Cond.instanceMethod ty_Y_sendOn ∈ tm_wg ∧ Cond.selects "TrickleMeshModel" ty_Y_sendOn ty_Y_sendOn ∈ tm_wg := ⟨List.mem_filter.mpr ⟨List.mem_append_right _ (List.mem_of_getElem? (i := 627) (by decide +kernel)), by decide +kernel⟩, ti_Y, ⟨List.mem_filter.mpr ⟨List.mem_append_right _ (List.mem_of_getElem? (i := 629) (by decide +kernel)), by decide +kernel⟩, List.mem_filter.mpr ⟨List.mem_append_left _ (List.mem_of_getElem? (i := 34) (by decide +kernel)), by decide +kernel⟩⟩⟩
theorem th_Y_sendOn : ty_Y_sendOn.cls ≠ "java/lang/invoke/MethodHandle" ∧ ty_Y_sendOn.cls ≠ "java/lang/invoke/VarHandle" ∧ (parseMethodDescriptor ty_Y_sendOn.desc).map (fun d => d.parameters.length) = some 6 := ⟨by decide, by decide, by decide +kernel⟩
theorem tg_Y_182 : Cond.methodLink "TrickleMeshModel" 182 ty_Y_makeFrame ∈ tm_wg ∧ Cond.initialized ty_Y_makeFrame.cls ∈ tm_wg ∧ Cond.instanceMethod ty_Y_makeFrame ∈ tm_wg ∧ Cond.selects "TrickleMeshModel" ty_Y_makeFrame ty_Y_makeFrame ∈ tm_wg := ⟨List.mem_filter.mpr ⟨List.mem_append_right _ (List.mem_of_getElem? (i := 631) (by decide +kernel)), by decide +kernel⟩, ti_Y, ⟨List.mem_filter.mpr ⟨List.mem_append_right _ (List.mem_of_getElem? (i := 633) (by decide +kernel)), by decide +kernel⟩, List.mem_filter.mpr ⟨List.mem_append_left _ (List.mem_of_getElem? (i := 35) (by decide +kernel)), by decide +kernel⟩⟩⟩
theorem th_Y_makeFrame : ty_Y_makeFrame.cls ≠ "java/lang/invoke/MethodHandle" ∧ ty_Y_makeFrame.cls ≠ "java/lang/invoke/VarHandle" ∧ (parseMethodDescriptor ty_Y_makeFrame.desc).map (fun d => d.parameters.length) = some 2 := ⟨by decide, by decide, by decide +kernel⟩
theorem tg_Y_186 : Cond.methodLink "TrickleMeshModel" 186 ty_Y_queue ∈ tm_wg ∧ Cond.initialized ty_Y_queue.cls ∈ tm_wg ∧ Cond.instanceMethod ty_Y_queue ∈ tm_wg ∧ Cond.selects "TrickleMeshModel" ty_Y_queue ty_Y_queue ∈ tm_wg := ⟨List.mem_filter.mpr ⟨List.mem_append_right _ (List.mem_of_getElem? (i := 635) (by decide +kernel)), by decide +kernel⟩, ti_Y, ⟨List.mem_filter.mpr ⟨List.mem_append_right _ (List.mem_of_getElem? (i := 637) (by decide +kernel)), by decide +kernel⟩, List.mem_filter.mpr ⟨List.mem_append_left _ (List.mem_of_getElem? (i := 36) (by decide +kernel)), by decide +kernel⟩⟩⟩
theorem th_Y_queue : ty_Y_queue.cls ≠ "java/lang/invoke/MethodHandle" ∧ ty_Y_queue.cls ≠ "java/lang/invoke/VarHandle" ∧ (parseMethodDescriptor ty_Y_queue.desc).map (fun d => d.parameters.length) = some 2 := ⟨by decide, by decide, by decide +kernel⟩
theorem tg_Y_165 : Cond.methodLink "TrickleMeshModel" 165 ty_Y_first ∈ tm_wg ∧ Cond.initialized ty_Y_first.cls ∈ tm_wg ∧ Cond.instanceMethod ty_Y_first ∈ tm_wg ∧ Cond.selects "TrickleMeshModel" ty_Y_first ty_Y_first ∈ tm_wg := ⟨List.mem_filter.mpr ⟨List.mem_append_right _ (List.mem_of_getElem? (i := 639) (by decide +kernel)), by decide +kernel⟩, ti_Y, ⟨List.mem_filter.mpr ⟨List.mem_append_right _ (List.mem_of_getElem? (i := 641) (by decide +kernel)), by decide +kernel⟩, List.mem_filter.mpr ⟨List.mem_append_left _ (List.mem_of_getElem? (i := 37) (by decide +kernel)), by decide +kernel⟩⟩⟩
theorem th_Y_first : ty_Y_first.cls ≠ "java/lang/invoke/MethodHandle" ∧ ty_Y_first.cls ≠ "java/lang/invoke/VarHandle" ∧ (parseMethodDescriptor ty_Y_first.desc).map (fun d => d.parameters.length) = some 1 := ⟨by decide, by decide, by decide +kernel⟩
theorem tg_L_45 : Cond.methodLink "TrickleMeshLaw" 45 ty_Y_tick ∈ tm_wg ∧ Cond.initialized ty_Y_tick.cls ∈ tm_wg ∧ Cond.instanceMethod ty_Y_tick ∈ tm_wg ∧ Cond.selects "TrickleMeshModel" ty_Y_tick ty_Y_tick ∈ tm_wg := ⟨List.mem_filter.mpr ⟨List.mem_append_right _ (List.mem_of_getElem? (i := 643) (by decide +kernel)), by decide +kernel⟩, ti_Y, ⟨List.mem_filter.mpr ⟨List.mem_append_right _ (List.mem_of_getElem? (i := 644) (by decide +kernel)), by decide +kernel⟩, List.mem_filter.mpr ⟨List.mem_append_right _ (List.mem_of_getElem? (i := 645) (by decide +kernel)), by decide +kernel⟩⟩⟩
theorem th_Y_tick : ty_Y_tick.cls ≠ "java/lang/invoke/MethodHandle" ∧ ty_Y_tick.cls ≠ "java/lang/invoke/VarHandle" ∧ (parseMethodDescriptor ty_Y_tick.desc).map (fun d => d.parameters.length) = some 1 := ⟨by decide, by decide, by decide +kernel⟩
theorem tg_Y_250 : Cond.methodLink "TrickleMeshModel" 250 ty_Y_slot ∈ tm_wg ∧ Cond.initialized ty_Y_slot.cls ∈ tm_wg ∧ Cond.instanceMethod ty_Y_slot ∈ tm_wg ∧ Cond.selects "TrickleMeshModel" ty_Y_slot ty_Y_slot ∈ tm_wg := ⟨List.mem_filter.mpr ⟨List.mem_append_right _ (List.mem_of_getElem? (i := 647) (by decide +kernel)), by decide +kernel⟩, ti_Y, ⟨List.mem_filter.mpr ⟨List.mem_append_right _ (List.mem_of_getElem? (i := 649) (by decide +kernel)), by decide +kernel⟩, List.mem_filter.mpr ⟨List.mem_append_left _ (List.mem_of_getElem? (i := 38) (by decide +kernel)), by decide +kernel⟩⟩⟩
theorem th_Y_slot : ty_Y_slot.cls ≠ "java/lang/invoke/MethodHandle" ∧ ty_Y_slot.cls ≠ "java/lang/invoke/VarHandle" ∧ (parseMethodDescriptor ty_Y_slot.desc).map (fun d => d.parameters.length) = some 0 := ⟨by decide, by decide, by decide +kernel⟩
theorem tg_Y_226 : Cond.methodLink "TrickleMeshModel" 226 ty_Y_air ∈ tm_wg ∧ Cond.initialized ty_Y_air.cls ∈ tm_wg ∧ Cond.instanceMethod ty_Y_air ∈ tm_wg ∧ Cond.selects "TrickleMeshModel" ty_Y_air ty_Y_air ∈ tm_wg := ⟨List.mem_filter.mpr ⟨List.mem_append_right _ (List.mem_of_getElem? (i := 651) (by decide +kernel)), by decide +kernel⟩, ti_Y, ⟨List.mem_filter.mpr ⟨List.mem_append_right _ (List.mem_of_getElem? (i := 653) (by decide +kernel)), by decide +kernel⟩, List.mem_filter.mpr ⟨List.mem_append_left _ (List.mem_of_getElem? (i := 39) (by decide +kernel)), by decide +kernel⟩⟩⟩
theorem th_Y_air : ty_Y_air.cls ≠ "java/lang/invoke/MethodHandle" ∧ ty_Y_air.cls ≠ "java/lang/invoke/VarHandle" ∧ (parseMethodDescriptor ty_Y_air.desc).map (fun d => d.parameters.length) = some 1 := ⟨by decide, by decide, by decide +kernel⟩
theorem tg_Y_204 : Cond.methodLink "TrickleMeshModel" 204 ty_Y_nearWasOn ∈ tm_wg ∧ Cond.initialized ty_Y_nearWasOn.cls ∈ tm_wg ∧ Cond.instanceMethod ty_Y_nearWasOn ∈ tm_wg ∧ Cond.selects "TrickleMeshModel" ty_Y_nearWasOn ty_Y_nearWasOn ∈ tm_wg := ⟨List.mem_filter.mpr ⟨List.mem_append_right _ (List.mem_of_getElem? (i := 655) (by decide +kernel)), by decide +kernel⟩, ti_Y, ⟨List.mem_filter.mpr ⟨List.mem_append_right _ (List.mem_of_getElem? (i := 657) (by decide +kernel)), by decide +kernel⟩, List.mem_filter.mpr ⟨List.mem_append_left _ (List.mem_of_getElem? (i := 40) (by decide +kernel)), by decide +kernel⟩⟩⟩
theorem th_Y_nearWasOn : ty_Y_nearWasOn.cls ≠ "java/lang/invoke/MethodHandle" ∧ ty_Y_nearWasOn.cls ≠ "java/lang/invoke/VarHandle" ∧ (parseMethodDescriptor ty_Y_nearWasOn.desc).map (fun d => d.parameters.length) = some 1 := ⟨by decide, by decide, by decide +kernel⟩
theorem tg_Y_207 : Cond.methodLink "TrickleMeshModel" 207 ty_Y_fails ∈ tm_wg ∧ Cond.initialized ty_Y_fails.cls ∈ tm_wg ∧ Cond.instanceMethod ty_Y_fails ∈ tm_wg ∧ Cond.selects "TrickleMeshModel" ty_Y_fails ty_Y_fails ∈ tm_wg := ⟨List.mem_filter.mpr ⟨List.mem_append_right _ (List.mem_of_getElem? (i := 659) (by decide +kernel)), by decide +kernel⟩, ti_Y, ⟨List.mem_filter.mpr ⟨List.mem_append_right _ (List.mem_of_getElem? (i := 661) (by decide +kernel)), by decide +kernel⟩, List.mem_filter.mpr ⟨List.mem_append_left _ (List.mem_of_getElem? (i := 41) (by decide +kernel)), by decide +kernel⟩⟩⟩
theorem th_Y_fails : ty_Y_fails.cls ≠ "java/lang/invoke/MethodHandle" ∧ ty_Y_fails.cls ≠ "java/lang/invoke/VarHandle" ∧ (parseMethodDescriptor ty_Y_fails.desc).map (fun d => d.parameters.length) = some 1 := ⟨by decide, by decide, by decide +kernel⟩
theorem tg_Y_168 : Cond.methodLink "TrickleMeshModel" 168 ty_Y_done ∈ tm_wg ∧ Cond.initialized ty_Y_done.cls ∈ tm_wg ∧ Cond.instanceMethod ty_Y_done ∈ tm_wg ∧ Cond.selects "TrickleMeshModel" ty_Y_done ty_Y_done ∈ tm_wg := ⟨List.mem_filter.mpr ⟨List.mem_append_right _ (List.mem_of_getElem? (i := 663) (by decide +kernel)), by decide +kernel⟩, ti_Y, ⟨List.mem_filter.mpr ⟨List.mem_append_right _ (List.mem_of_getElem? (i := 665) (by decide +kernel)), by decide +kernel⟩, List.mem_filter.mpr ⟨List.mem_append_left _ (List.mem_of_getElem? (i := 42) (by decide +kernel)), by decide +kernel⟩⟩⟩
theorem th_Y_done : ty_Y_done.cls ≠ "java/lang/invoke/MethodHandle" ∧ ty_Y_done.cls ≠ "java/lang/invoke/VarHandle" ∧ (parseMethodDescriptor ty_Y_done.desc).map (fun d => d.parameters.length) = some 1 := ⟨by decide, by decide, by decide +kernel⟩
theorem tg_Y_171 : Cond.methodLink "TrickleMeshModel" 171 ty_Y_choose ∈ tm_wg ∧ Cond.initialized ty_Y_choose.cls ∈ tm_wg ∧ Cond.instanceMethod ty_Y_choose ∈ tm_wg ∧ Cond.selects "TrickleMeshModel" ty_Y_choose ty_Y_choose ∈ tm_wg := ⟨List.mem_filter.mpr ⟨List.mem_append_right _ (List.mem_of_getElem? (i := 667) (by decide +kernel)), by decide +kernel⟩, ti_Y, ⟨List.mem_filter.mpr ⟨List.mem_append_right _ (List.mem_of_getElem? (i := 669) (by decide +kernel)), by decide +kernel⟩, List.mem_filter.mpr ⟨List.mem_append_left _ (List.mem_of_getElem? (i := 43) (by decide +kernel)), by decide +kernel⟩⟩⟩
theorem th_Y_choose : ty_Y_choose.cls ≠ "java/lang/invoke/MethodHandle" ∧ ty_Y_choose.cls ≠ "java/lang/invoke/VarHandle" ∧ (parseMethodDescriptor ty_Y_choose.desc).map (fun d => d.parameters.length) = some 1 := ⟨by decide, by decide, by decide +kernel⟩
theorem tg_Y_190 : Cond.methodLink "TrickleMeshModel" 190 ty_Y_allGoals ∈ tm_wg ∧ Cond.initialized ty_Y_allGoals.cls ∈ tm_wg ∧ Cond.instanceMethod ty_Y_allGoals ∈ tm_wg ∧ Cond.selects "TrickleMeshModel" ty_Y_allGoals ty_Y_allGoals ∈ tm_wg := ⟨List.mem_filter.mpr ⟨List.mem_append_right _ (List.mem_of_getElem? (i := 671) (by decide +kernel)), by decide +kernel⟩, ti_Y, ⟨List.mem_filter.mpr ⟨List.mem_append_right _ (List.mem_of_getElem? (i := 673) (by decide +kernel)), by decide +kernel⟩, List.mem_filter.mpr ⟨List.mem_append_left _ (List.mem_of_getElem? (i := 44) (by decide +kernel)), by decide +kernel⟩⟩⟩
theorem th_Y_allGoals : ty_Y_allGoals.cls ≠ "java/lang/invoke/MethodHandle" ∧ ty_Y_allGoals.cls ≠ "java/lang/invoke/VarHandle" ∧ (parseMethodDescriptor ty_Y_allGoals.desc).map (fun d => d.parameters.length) = some 1 := ⟨by decide, by decide, by decide +kernel⟩
theorem tg_Y_193 : Cond.methodLink "TrickleMeshModel" 193 ty_Y_announce ∈ tm_wg ∧ Cond.initialized ty_Y_announce.cls ∈ tm_wg ∧ Cond.instanceMethod ty_Y_announce ∈ tm_wg ∧ Cond.selects "TrickleMeshModel" ty_Y_announce ty_Y_announce ∈ tm_wg := ⟨List.mem_filter.mpr ⟨List.mem_append_right _ (List.mem_of_getElem? (i := 675) (by decide +kernel)), by decide +kernel⟩, ti_Y, ⟨List.mem_filter.mpr ⟨List.mem_append_right _ (List.mem_of_getElem? (i := 677) (by decide +kernel)), by decide +kernel⟩, List.mem_filter.mpr ⟨List.mem_append_left _ (List.mem_of_getElem? (i := 45) (by decide +kernel)), by decide +kernel⟩⟩⟩
theorem th_Y_announce : ty_Y_announce.cls ≠ "java/lang/invoke/MethodHandle" ∧ ty_Y_announce.cls ≠ "java/lang/invoke/VarHandle" ∧ (parseMethodDescriptor ty_Y_announce.desc).map (fun d => d.parameters.length) = some 4 := ⟨by decide, by decide, by decide +kernel⟩
theorem tg_Y_229 : Cond.methodLink "TrickleMeshModel" 229 ty_Y_heardFrom ∈ tm_wg ∧ Cond.initialized ty_Y_heardFrom.cls ∈ tm_wg ∧ Cond.instanceMethod ty_Y_heardFrom ∈ tm_wg ∧ Cond.selects "TrickleMeshModel" ty_Y_heardFrom ty_Y_heardFrom ∈ tm_wg := ⟨List.mem_filter.mpr ⟨List.mem_append_right _ (List.mem_of_getElem? (i := 679) (by decide +kernel)), by decide +kernel⟩, ti_Y, ⟨List.mem_filter.mpr ⟨List.mem_append_right _ (List.mem_of_getElem? (i := 681) (by decide +kernel)), by decide +kernel⟩, List.mem_filter.mpr ⟨List.mem_append_left _ (List.mem_of_getElem? (i := 46) (by decide +kernel)), by decide +kernel⟩⟩⟩
theorem th_Y_heardFrom : ty_Y_heardFrom.cls ≠ "java/lang/invoke/MethodHandle" ∧ ty_Y_heardFrom.cls ≠ "java/lang/invoke/VarHandle" ∧ (parseMethodDescriptor ty_Y_heardFrom.desc).map (fun d => d.parameters.length) = some 1 := ⟨by decide, by decide, by decide +kernel⟩
theorem tg_Y_232 : Cond.methodLink "TrickleMeshModel" 232 ty_Y_takes ∈ tm_wg ∧ Cond.initialized ty_Y_takes.cls ∈ tm_wg ∧ Cond.instanceMethod ty_Y_takes ∈ tm_wg ∧ Cond.selects "TrickleMeshModel" ty_Y_takes ty_Y_takes ∈ tm_wg := ⟨List.mem_filter.mpr ⟨List.mem_append_right _ (List.mem_of_getElem? (i := 683) (by decide +kernel)), by decide +kernel⟩, ti_Y, ⟨List.mem_filter.mpr ⟨List.mem_append_right _ (List.mem_of_getElem? (i := 685) (by decide +kernel)), by decide +kernel⟩, List.mem_filter.mpr ⟨List.mem_append_left _ (List.mem_of_getElem? (i := 47) (by decide +kernel)), by decide +kernel⟩⟩⟩
theorem th_Y_takes : ty_Y_takes.cls ≠ "java/lang/invoke/MethodHandle" ∧ ty_Y_takes.cls ≠ "java/lang/invoke/VarHandle" ∧ (parseMethodDescriptor ty_Y_takes.desc).map (fun d => d.parameters.length) = some 2 := ⟨by decide, by decide, by decide +kernel⟩
theorem tg_Y_213 : Cond.methodLink "TrickleMeshModel" 213 ty_Y_advert ∈ tm_wg ∧ Cond.initialized ty_Y_advert.cls ∈ tm_wg ∧ Cond.instanceMethod ty_Y_advert ∈ tm_wg ∧ Cond.selects "TrickleMeshModel" ty_Y_advert ty_Y_advert ∈ tm_wg := ⟨List.mem_filter.mpr ⟨List.mem_append_right _ (List.mem_of_getElem? (i := 687) (by decide +kernel)), by decide +kernel⟩, ti_Y, ⟨List.mem_filter.mpr ⟨List.mem_append_right _ (List.mem_of_getElem? (i := 689) (by decide +kernel)), by decide +kernel⟩, List.mem_filter.mpr ⟨List.mem_append_left _ (List.mem_of_getElem? (i := 48) (by decide +kernel)), by decide +kernel⟩⟩⟩
theorem th_Y_advert : ty_Y_advert.cls ≠ "java/lang/invoke/MethodHandle" ∧ ty_Y_advert.cls ≠ "java/lang/invoke/VarHandle" ∧ (parseMethodDescriptor ty_Y_advert.desc).map (fun d => d.parameters.length) = some 2 := ⟨by decide, by decide, by decide +kernel⟩
theorem tg_Y_216 : Cond.methodLink "TrickleMeshModel" 216 ty_Y_announced ∈ tm_wg ∧ Cond.initialized ty_Y_announced.cls ∈ tm_wg ∧ Cond.instanceMethod ty_Y_announced ∈ tm_wg ∧ Cond.selects "TrickleMeshModel" ty_Y_announced ty_Y_announced ∈ tm_wg := ⟨List.mem_filter.mpr ⟨List.mem_append_right _ (List.mem_of_getElem? (i := 691) (by decide +kernel)), by decide +kernel⟩, ti_Y, ⟨List.mem_filter.mpr ⟨List.mem_append_right _ (List.mem_of_getElem? (i := 693) (by decide +kernel)), by decide +kernel⟩, List.mem_filter.mpr ⟨List.mem_append_left _ (List.mem_of_getElem? (i := 49) (by decide +kernel)), by decide +kernel⟩⟩⟩
theorem th_Y_announced : ty_Y_announced.cls ≠ "java/lang/invoke/MethodHandle" ∧ ty_Y_announced.cls ≠ "java/lang/invoke/VarHandle" ∧ (parseMethodDescriptor ty_Y_announced.desc).map (fun d => d.parameters.length) = some 3 := ⟨by decide, by decide, by decide +kernel⟩
theorem tg_Y_220 : Cond.methodLink "TrickleMeshModel" 220 ty_Y_valued ∈ tm_wg ∧ Cond.initialized ty_Y_valued.cls ∈ tm_wg ∧ Cond.instanceMethod ty_Y_valued ∈ tm_wg ∧ Cond.selects "TrickleMeshModel" ty_Y_valued ty_Y_valued ∈ tm_wg := ⟨List.mem_filter.mpr ⟨List.mem_append_right _ (List.mem_of_getElem? (i := 695) (by decide +kernel)), by decide +kernel⟩, ti_Y, ⟨List.mem_filter.mpr ⟨List.mem_append_right _ (List.mem_of_getElem? (i := 697) (by decide +kernel)), by decide +kernel⟩, List.mem_filter.mpr ⟨List.mem_append_left _ (List.mem_of_getElem? (i := 50) (by decide +kernel)), by decide +kernel⟩⟩⟩
theorem th_Y_valued : ty_Y_valued.cls ≠ "java/lang/invoke/MethodHandle" ∧ ty_Y_valued.cls ≠ "java/lang/invoke/VarHandle" ∧ (parseMethodDescriptor ty_Y_valued.desc).map (fun d => d.parameters.length) = some 3 := ⟨by decide, by decide, by decide +kernel⟩
theorem tg_Y_235 : Cond.methodLink "TrickleMeshModel" 235 ty_Y_unheard ∈ tm_wg ∧ Cond.initialized ty_Y_unheard.cls ∈ tm_wg ∧ Cond.instanceMethod ty_Y_unheard ∈ tm_wg ∧ Cond.selects "TrickleMeshModel" ty_Y_unheard ty_Y_unheard ∈ tm_wg := ⟨List.mem_filter.mpr ⟨List.mem_append_right _ (List.mem_of_getElem? (i := 699) (by decide +kernel)), by decide +kernel⟩, ti_Y, ⟨List.mem_filter.mpr ⟨List.mem_append_right _ (List.mem_of_getElem? (i := 701) (by decide +kernel)), by decide +kernel⟩, List.mem_filter.mpr ⟨List.mem_append_left _ (List.mem_of_getElem? (i := 51) (by decide +kernel)), by decide +kernel⟩⟩⟩
theorem th_Y_unheard : ty_Y_unheard.cls ≠ "java/lang/invoke/MethodHandle" ∧ ty_Y_unheard.cls ≠ "java/lang/invoke/VarHandle" ∧ (parseMethodDescriptor ty_Y_unheard.desc).map (fun d => d.parameters.length) = some 1 := ⟨by decide, by decide, by decide +kernel⟩
theorem tg_Y_238 : Cond.methodLink "TrickleMeshModel" 238 ty_Y_later ∈ tm_wg ∧ Cond.initialized ty_Y_later.cls ∈ tm_wg ∧ Cond.instanceMethod ty_Y_later ∈ tm_wg ∧ Cond.selects "TrickleMeshModel" ty_Y_later ty_Y_later ∈ tm_wg := ⟨List.mem_filter.mpr ⟨List.mem_append_right _ (List.mem_of_getElem? (i := 703) (by decide +kernel)), by decide +kernel⟩, ti_Y, ⟨List.mem_filter.mpr ⟨List.mem_append_right _ (List.mem_of_getElem? (i := 705) (by decide +kernel)), by decide +kernel⟩, List.mem_filter.mpr ⟨List.mem_append_left _ (List.mem_of_getElem? (i := 52) (by decide +kernel)), by decide +kernel⟩⟩⟩
theorem th_Y_later : ty_Y_later.cls ≠ "java/lang/invoke/MethodHandle" ∧ ty_Y_later.cls ≠ "java/lang/invoke/VarHandle" ∧ (parseMethodDescriptor ty_Y_later.desc).map (fun d => d.parameters.length) = some 1 := ⟨by decide, by decide, by decide +kernel⟩
theorem tg_Y_241 : Cond.methodLink "TrickleMeshModel" 241 ty_Y_timer ∈ tm_wg ∧ Cond.initialized ty_Y_timer.cls ∈ tm_wg ∧ Cond.instanceMethod ty_Y_timer ∈ tm_wg ∧ Cond.selects "TrickleMeshModel" ty_Y_timer ty_Y_timer ∈ tm_wg := ⟨List.mem_filter.mpr ⟨List.mem_append_right _ (List.mem_of_getElem? (i := 707) (by decide +kernel)), by decide +kernel⟩, ti_Y, ⟨List.mem_filter.mpr ⟨List.mem_append_right _ (List.mem_of_getElem? (i := 709) (by decide +kernel)), by decide +kernel⟩, List.mem_filter.mpr ⟨List.mem_append_left _ (List.mem_of_getElem? (i := 53) (by decide +kernel)), by decide +kernel⟩⟩⟩
theorem th_Y_timer : ty_Y_timer.cls ≠ "java/lang/invoke/MethodHandle" ∧ ty_Y_timer.cls ≠ "java/lang/invoke/VarHandle" ∧ (parseMethodDescriptor ty_Y_timer.desc).map (fun d => d.parameters.length) = some 1 := ⟨by decide, by decide, by decide +kernel⟩
theorem tg_Y_178 : Cond.methodLink "TrickleMeshModel" 178 ty_Y_queues ∈ tm_wg ∧ Cond.initialized ty_Y_queues.cls ∈ tm_wg ∧ Cond.instanceMethod ty_Y_queues ∈ tm_wg ∧ Cond.selects "TrickleMeshModel" ty_Y_queues ty_Y_queues ∈ tm_wg := ⟨List.mem_filter.mpr ⟨List.mem_append_right _ (List.mem_of_getElem? (i := 711) (by decide +kernel)), by decide +kernel⟩, ti_Y, ⟨List.mem_filter.mpr ⟨List.mem_append_right _ (List.mem_of_getElem? (i := 713) (by decide +kernel)), by decide +kernel⟩, List.mem_filter.mpr ⟨List.mem_append_left _ (List.mem_of_getElem? (i := 54) (by decide +kernel)), by decide +kernel⟩⟩⟩
theorem th_Y_queues : ty_Y_queues.cls ≠ "java/lang/invoke/MethodHandle" ∧ ty_Y_queues.cls ≠ "java/lang/invoke/VarHandle" ∧ (parseMethodDescriptor ty_Y_queues.desc).map (fun d => d.parameters.length) = some 2 := ⟨by decide, by decide, by decide +kernel⟩
theorem tg_L_50 : Cond.methodLink "TrickleMeshLaw" 50 ty_Y_node ∈ tm_wg ∧ Cond.initialized ty_Y_node.cls ∈ tm_wg ∧ Cond.instanceMethod ty_Y_node ∈ tm_wg ∧ Cond.selects "TrickleMeshModel" ty_Y_node ty_Y_node ∈ tm_wg := ⟨List.mem_filter.mpr ⟨List.mem_append_right _ (List.mem_of_getElem? (i := 715) (by decide +kernel)), by decide +kernel⟩, ti_Y, ⟨List.mem_filter.mpr ⟨List.mem_append_right _ (List.mem_of_getElem? (i := 716) (by decide +kernel)), by decide +kernel⟩, List.mem_filter.mpr ⟨List.mem_append_right _ (List.mem_of_getElem? (i := 717) (by decide +kernel)), by decide +kernel⟩⟩⟩
theorem th_Y_node : ty_Y_node.cls ≠ "java/lang/invoke/MethodHandle" ∧ ty_Y_node.cls ≠ "java/lang/invoke/VarHandle" ∧ (parseMethodDescriptor ty_Y_node.desc).map (fun d => d.parameters.length) = some 2 := ⟨by decide, by decide, by decide +kernel⟩
theorem tg_L_54 : Cond.methodLink "TrickleMeshLaw" 54 ty_Y_next ∈ tm_wg ∧ Cond.initialized ty_Y_next.cls ∈ tm_wg ∧ Cond.instanceMethod ty_Y_next ∈ tm_wg ∧ Cond.selects "TrickleMeshModel" ty_Y_next ty_Y_next ∈ tm_wg := ⟨List.mem_filter.mpr ⟨List.mem_append_right _ (List.mem_of_getElem? (i := 719) (by decide +kernel)), by decide +kernel⟩, ti_Y, ⟨List.mem_filter.mpr ⟨List.mem_append_right _ (List.mem_of_getElem? (i := 720) (by decide +kernel)), by decide +kernel⟩, List.mem_filter.mpr ⟨List.mem_append_right _ (List.mem_of_getElem? (i := 721) (by decide +kernel)), by decide +kernel⟩⟩⟩
theorem th_Y_next : ty_Y_next.cls ≠ "java/lang/invoke/MethodHandle" ∧ ty_Y_next.cls ≠ "java/lang/invoke/VarHandle" ∧ (parseMethodDescriptor ty_Y_next.desc).map (fun d => d.parameters.length) = some 2 := ⟨by decide, by decide, by decide +kernel⟩
theorem tg_L_58 : Cond.methodLink "TrickleMeshLaw" 58 ty_Y_known ∈ tm_wg ∧ Cond.initialized ty_Y_known.cls ∈ tm_wg ∧ Cond.instanceMethod ty_Y_known ∈ tm_wg ∧ Cond.selects "TrickleMeshModel" ty_Y_known ty_Y_known ∈ tm_wg := ⟨List.mem_filter.mpr ⟨List.mem_append_right _ (List.mem_of_getElem? (i := 723) (by decide +kernel)), by decide +kernel⟩, ti_Y, ⟨List.mem_filter.mpr ⟨List.mem_append_right _ (List.mem_of_getElem? (i := 724) (by decide +kernel)), by decide +kernel⟩, List.mem_filter.mpr ⟨List.mem_append_right _ (List.mem_of_getElem? (i := 725) (by decide +kernel)), by decide +kernel⟩⟩⟩
theorem th_Y_known : ty_Y_known.cls ≠ "java/lang/invoke/MethodHandle" ∧ ty_Y_known.cls ≠ "java/lang/invoke/VarHandle" ∧ (parseMethodDescriptor ty_Y_known.desc).map (fun d => d.parameters.length) = some 2 := ⟨by decide, by decide, by decide +kernel⟩
theorem tg_L_62 : Cond.methodLink "TrickleMeshLaw" 62 ty_Y_delivered ∈ tm_wg ∧ Cond.initialized ty_Y_delivered.cls ∈ tm_wg ∧ Cond.instanceMethod ty_Y_delivered ∈ tm_wg ∧ Cond.selects "TrickleMeshModel" ty_Y_delivered ty_Y_delivered ∈ tm_wg := ⟨List.mem_filter.mpr ⟨List.mem_append_right _ (List.mem_of_getElem? (i := 727) (by decide +kernel)), by decide +kernel⟩, ti_Y, ⟨List.mem_filter.mpr ⟨List.mem_append_right _ (List.mem_of_getElem? (i := 728) (by decide +kernel)), by decide +kernel⟩, List.mem_filter.mpr ⟨List.mem_append_right _ (List.mem_of_getElem? (i := 729) (by decide +kernel)), by decide +kernel⟩⟩⟩
theorem th_Y_delivered : ty_Y_delivered.cls ≠ "java/lang/invoke/MethodHandle" ∧ ty_Y_delivered.cls ≠ "java/lang/invoke/VarHandle" ∧ (parseMethodDescriptor ty_Y_delivered.desc).map (fun d => d.parameters.length) = some 2 := ⟨by decide, by decide, by decide +kernel⟩
theorem tg_L_66 : Cond.methodLink "TrickleMeshLaw" 66 ty_Y_count ∈ tm_wg ∧ Cond.initialized ty_Y_count.cls ∈ tm_wg ∧ Cond.instanceMethod ty_Y_count ∈ tm_wg ∧ Cond.selects "TrickleMeshModel" ty_Y_count ty_Y_count ∈ tm_wg := ⟨List.mem_filter.mpr ⟨List.mem_append_right _ (List.mem_of_getElem? (i := 731) (by decide +kernel)), by decide +kernel⟩, ti_Y, ⟨List.mem_filter.mpr ⟨List.mem_append_right _ (List.mem_of_getElem? (i := 732) (by decide +kernel)), by decide +kernel⟩, List.mem_filter.mpr ⟨List.mem_append_right _ (List.mem_of_getElem? (i := 733) (by decide +kernel)), by decide +kernel⟩⟩⟩
theorem th_Y_count : ty_Y_count.cls ≠ "java/lang/invoke/MethodHandle" ∧ ty_Y_count.cls ≠ "java/lang/invoke/VarHandle" ∧ (parseMethodDescriptor ty_Y_count.desc).map (fun d => d.parameters.length) = some 1 := ⟨by decide, by decide, by decide +kernel⟩
theorem tw_L_7 : Cond.classLink "TrickleMeshLaw" 7 "TrickleMesh" ∈ tm_wg := List.mem_filter.mpr ⟨List.mem_append_right _ (List.mem_of_getElem? (i := 10) (by decide +kernel)), by decide +kernel⟩
theorem tm_mk_X : Cond.instantiable "TrickleMesh" 11 ∈ tm_wg := List.mem_filter.mpr ⟨List.mem_append_right _ (List.mem_of_getElem? (i := 11) (by decide +kernel)), by decide +kernel⟩
theorem tg_X_1 : Cond.methodLink "TrickleMesh" 1 Lib.objectInit ∈ tm_wg ∧ Cond.instanceMethod Lib.objectInit ∈ tm_wg ∧ Cond.code Lib.objectInit ⟨#[0xb1]⟩ 1 none ∈ tm_wg := ⟨List.mem_filter.mpr ⟨List.mem_append_right _ (List.mem_of_getElem? (i := 15) (by decide +kernel)), by decide +kernel⟩, List.mem_filter.mpr ⟨List.mem_append_right _ (List.mem_of_getElem? (i := 16) (by decide +kernel)), by decide +kernel⟩, List.mem_filter.mpr ⟨List.mem_append_right _ (List.mem_of_getElem? (i := 17) (by decide +kernel)), by decide +kernel⟩⟩
theorem tw_X_9 : Cond.classLink "TrickleMesh" 9 "TrickleMesh$Node" ∈ tm_wg := List.mem_filter.mpr ⟨List.mem_append_right _ (List.mem_of_getElem? (i := 18) (by decide +kernel)), by decide +kernel⟩
theorem tw_X_15 : Cond.classLink "TrickleMesh" 15 "[[I" ∈ tm_wg := List.mem_filter.mpr ⟨List.mem_append_right _ (List.mem_of_getElem? (i := 20) (by decide +kernel)), by decide +kernel⟩
theorem tm_mk_N : Cond.instantiable "TrickleMesh$Node" 14 ∈ tm_wg := List.mem_filter.mpr ⟨List.mem_append_right _ (List.mem_of_getElem? (i := 28) (by decide +kernel)), by decide +kernel⟩
theorem tg_N_3 : Cond.methodLink "TrickleMesh$Node" 3 Lib.objectInit ∈ tm_wg ∧ Cond.instanceMethod Lib.objectInit ∈ tm_wg ∧ Cond.code Lib.objectInit ⟨#[0xb1]⟩ 1 none ∈ tm_wg := ⟨List.mem_filter.mpr ⟨List.mem_append_right _ (List.mem_of_getElem? (i := 32) (by decide +kernel)), by decide +kernel⟩, List.mem_filter.mpr ⟨List.mem_append_right _ (List.mem_of_getElem? (i := 16) (by decide +kernel)), by decide +kernel⟩, List.mem_filter.mpr ⟨List.mem_append_right _ (List.mem_of_getElem? (i := 17) (by decide +kernel)), by decide +kernel⟩⟩
theorem tw_N_9 : Cond.classLink "TrickleMesh$Node" 9 "TrickleMesh$Radio" ∈ tm_wg := List.mem_filter.mpr ⟨List.mem_append_right _ (List.mem_of_getElem? (i := 33) (by decide +kernel)), by decide +kernel⟩
theorem tm_mk_R : Cond.instantiable "TrickleMesh$Radio" 11 ∈ tm_wg := List.mem_filter.mpr ⟨List.mem_append_right _ (List.mem_of_getElem? (i := 34) (by decide +kernel)), by decide +kernel⟩
theorem tg_R_3 : Cond.methodLink "TrickleMesh$Radio" 3 Lib.objectInit ∈ tm_wg ∧ Cond.instanceMethod Lib.objectInit ∈ tm_wg ∧ Cond.code Lib.objectInit ⟨#[0xb1]⟩ 1 none ∈ tm_wg := ⟨List.mem_filter.mpr ⟨List.mem_append_right _ (List.mem_of_getElem? (i := 38) (by decide +kernel)), by decide +kernel⟩, List.mem_filter.mpr ⟨List.mem_append_right _ (List.mem_of_getElem? (i := 16) (by decide +kernel)), by decide +kernel⟩, List.mem_filter.mpr ⟨List.mem_append_right _ (List.mem_of_getElem? (i := 17) (by decide +kernel)), by decide +kernel⟩⟩
theorem tw_R_9 : Cond.classLink "TrickleMesh$Radio" 9 "TrickleMesh$Frame" ∈ tm_wg := List.mem_filter.mpr ⟨List.mem_append_right _ (List.mem_of_getElem? (i := 39) (by decide +kernel)), by decide +kernel⟩
theorem tm_mk_F : Cond.instantiable "TrickleMesh$Frame" 12 ∈ tm_wg := List.mem_filter.mpr ⟨List.mem_append_right _ (List.mem_of_getElem? (i := 41) (by decide +kernel)), by decide +kernel⟩
theorem tg_F_3 : Cond.methodLink "TrickleMesh$Frame" 3 Lib.objectInit ∈ tm_wg ∧ Cond.instanceMethod Lib.objectInit ∈ tm_wg ∧ Cond.code Lib.objectInit ⟨#[0xb1]⟩ 1 none ∈ tm_wg := ⟨List.mem_filter.mpr ⟨List.mem_append_right _ (List.mem_of_getElem? (i := 45) (by decide +kernel)), by decide +kernel⟩, List.mem_filter.mpr ⟨List.mem_append_right _ (List.mem_of_getElem? (i := 16) (by decide +kernel)), by decide +kernel⟩, List.mem_filter.mpr ⟨List.mem_append_right _ (List.mem_of_getElem? (i := 17) (by decide +kernel)), by decide +kernel⟩⟩
theorem tm_ar_int : Cond.arrayClass .int ∈ tm_wg := List.mem_filter.mpr ⟨List.mem_append_right _ (List.mem_of_getElem? (i := 85) (by decide +kernel)), by decide +kernel⟩
theorem tw_N_18 : Cond.classLink "TrickleMesh$Node" 18 "TrickleMesh$Timer" ∈ tm_wg := List.mem_filter.mpr ⟨List.mem_append_right _ (List.mem_of_getElem? (i := 128) (by decide +kernel)), by decide +kernel⟩
theorem tm_mk_T : Cond.instantiable "TrickleMesh$Timer" 5 ∈ tm_wg := List.mem_filter.mpr ⟨List.mem_append_right _ (List.mem_of_getElem? (i := 129) (by decide +kernel)), by decide +kernel⟩
theorem tg_T_3 : Cond.methodLink "TrickleMesh$Timer" 3 Lib.objectInit ∈ tm_wg ∧ Cond.instanceMethod Lib.objectInit ∈ tm_wg ∧ Cond.code Lib.objectInit ⟨#[0xb1]⟩ 1 none ∈ tm_wg := ⟨List.mem_filter.mpr ⟨List.mem_append_right _ (List.mem_of_getElem? (i := 133) (by decide +kernel)), by decide +kernel⟩, List.mem_filter.mpr ⟨List.mem_append_right _ (List.mem_of_getElem? (i := 16) (by decide +kernel)), by decide +kernel⟩, List.mem_filter.mpr ⟨List.mem_append_right _ (List.mem_of_getElem? (i := 17) (by decide +kernel)), by decide +kernel⟩⟩
theorem tw_L_18 : Cond.classLink "TrickleMeshLaw" 18 "TrickleMeshModel" ∈ tm_wg := List.mem_filter.mpr ⟨List.mem_append_right _ (List.mem_of_getElem? (i := 431) (by decide +kernel)), by decide +kernel⟩
theorem tm_mk_Y : Cond.instantiable "TrickleMeshModel" 52 ∈ tm_wg := List.mem_filter.mpr ⟨List.mem_append_right _ (List.mem_of_getElem? (i := 432) (by decide +kernel)), by decide +kernel⟩
theorem tg_Y_1 : Cond.methodLink "TrickleMeshModel" 1 Lib.objectInit ∈ tm_wg ∧ Cond.instanceMethod Lib.objectInit ∈ tm_wg ∧ Cond.code Lib.objectInit ⟨#[0xb1]⟩ 1 none ∈ tm_wg := ⟨List.mem_filter.mpr ⟨List.mem_append_right _ (List.mem_of_getElem? (i := 436) (by decide +kernel)), by decide +kernel⟩, List.mem_filter.mpr ⟨List.mem_append_right _ (List.mem_of_getElem? (i := 16) (by decide +kernel)), by decide +kernel⟩, List.mem_filter.mpr ⟨List.mem_append_right _ (List.mem_of_getElem? (i := 17) (by decide +kernel)), by decide +kernel⟩⟩
theorem tm_ar_boolean : Cond.arrayClass .boolean ∈ tm_wg := List.mem_filter.mpr ⟨List.mem_append_right _ (List.mem_of_getElem? (i := 607) (by decide +kernel)), by decide +kernel⟩
end
section
/-! the flat state and the heap that it stands for, by program (wip/whole/decomp.py) -/
abbrev tm_S : Type := (Nat → Nat → Int32) × (Nat → Nat → Nat)
abbrev tm_n : Nat := 173
abbrev tm_fu : Nat := 200
abbrev tm_fl : Nat := 600
abbrev tm_ty : List FieldType := [.int, .boolean, .object "TrickleMesh$Node", .object "TrickleMesh$Frame", .array .int]
def tm_kn : List Nat := [5, 6, 7, 8, 4, 8, 4, 8, 4, 8, 4, 9, 4, 4, 4, 4, 10]
def tm_ky : List Nat := [12, 12, 13, 12, 12, 12, 14, 15, 15, 15, 15, 14, 15, 15, 15, 15, 16, 15, 15, 15, 15, 15, 14, 17, 18, 18, 18, 18, 19, 17, 18, 18, 18, 18, 17, 17, 15, 15, 14, 14, 14, 15, 20]
/-- the kind of an address -/
def kd (q : Nat) : Nat := if q = 0 then 0 else if q = 1 then 1 else if q = 2 then 2 else if q = 3 then 3 else if q ≤ 10 then 4 else if q < 130 then tm_kn.getD ((q - 11) % 17) 99 else if q = 130 then 11 else if q ≤ 173 then tm_ky.getD (q - 131) 99 else 99
/-- the cell of a kind at q, its ints and its changing references -/
def tm_c (k q : Nat) (w : Nat → Int32) (p : Nat → Nat) : tv_C := match k with
  | 0 => .inl (0, (p 0, .inl w))
  | 1 => .inr (4, [.int (w 0), .int (w 1), .ref 2, .ref 3, .int (w 4), .int (w 5), .int (w 6), .int (w 7), .int (w 8), .int (w 9), .int (w 10)])
  | 2 => .inl (2, (7, .inr (.inr (.inr (.inr (fun j => some (11 + 17 * j)))))))
  | 3 => .inl (4, (7, .inr (.inr (.inr (.inr (fun j => some (4 + j)))))))
  | 4 => .inl (0, (7, .inl w))
  | 5 => .inr (1, [.int (w 0), .ref (q + 1), .ref (q + 11), .ref (q + 12), .ref (q + 13), .ref (q + 14), .ref (q + 15), .ref (q + 16), .int (w 8), .int (w 9), .int (w 10), .int (w 11), .int (w 12), .int (w 13)])
  | 6 => .inr (2, [.ref (q + 1), .int (w 1), .int (w 2), .int (w 3), .int (w 4), .int (w 5), .int (w 6), .int (w 7), .int (w 8), .int (w 9), .int (w 10)])
  | 7 => .inl (3, (4, .inr (.inr (.inr (.inr (fun j => some (p j)))))))
  | 8 => .inr (0, [.int (w 0), .int (w 1), .int (w 2), .int (w 3), .int (w 4), .ref (q + 1), .int (w 6), .int (w 7), .int (w 8), .int (w 9), .int (w 10), .int (w 11)])
  | 9 => .inr (3, [.int (w 0), .int (w 1), .int (w 2), .int (w 3), .int (w 4)])
  | 10 => .inl (0, (8, .inl w))
  | 11 => .inr (5, [.int (w 0), .int (w 1), .int (w 2), .int (w 3), .ref 131, .ref 132, .ref 133, .ref 134, .ref 135, .ref 136, .ref 137, .ref 138, .ref 139, .ref 140, .ref 141, .ref 142, .ref 143, .ref 144, .ref 145, .ref 146, .ref 147, .ref 148, .ref 149, .ref 150, .ref 151, .ref 152, .ref 153, .ref 154, .ref 155, .ref 156, .ref 157, .ref 158, .ref 159, .ref 160, .ref 161, .ref 162, .ref 163, .ref 164, .ref 165, .ref 166, .int (w 40), .ref 167, .ref 168, .ref 169, .ref 170, .ref 171, .int (w 46), .int (w 47), .int (w 48), .int (w 49), .ref 172, .ref 173])
  | 12 => .inl (0, (49, .inl w))
  | 13 => .inl (1, (49, .inl w))
  | 14 => .inl (1, (7, .inl w))
  | 15 => .inl (0, (7, .inl w))
  | 16 => .inl (0, (28, .inl w))
  | 17 => .inl (1, (32, .inl w))
  | 18 => .inl (0, (32, .inl w))
  | 19 => .inl (0, (224, .inl w))
  | 20 => .inl (0, (56, .inl w))
  | _ => .inr (99, [])
def hp (σ : tm_S) : Nat → tv_C := fun q => tm_c (kd q) q (σ.1 q) (σ.2 q)
theorem hp_at {σ : tm_S} {q k : Nat} (h : kd q = k) : hp σ q = tm_c k q (σ.1 q) (σ.2 q) := by unfold hp; rw [h]
theorem kd_in {q k : Nat} (h : kd q = k) (hk : k ≠ 0 ∧ k ≠ 99) : 0 < q ∧ q ≤ tm_n := by
  by_cases h0 : q = 0
  · subst h0; exact absurd h.symm hk.1
  · by_cases hn : q ≤ tm_n
    · exact ⟨by omega, hn⟩
    · exfalso
      apply hk.2
      rw [← h]
      have hn : ¬ q ≤ 173 := hn
      unfold kd
      rw [if_neg h0, if_neg (by omega), if_neg (by omega), if_neg (by omega), if_neg (by omega), if_neg (by omega), if_neg (by omega), if_neg hn]
theorem kd_5_6_a : ∀ q, q < 174 → kd q = 5 → kd (q + 1) = 6 := by decide +kernel
theorem kd_5_6 {q : Nat} (h : kd q = 5) : kd (q + 1) = 6 := kd_5_6_a q (Nat.lt_succ_of_le (kd_in h (by decide)).2) h
theorem kd_5_9_a : ∀ q, q < 174 → kd q = 5 → kd (q + 11) = 9 := by decide +kernel
theorem kd_5_9 {q : Nat} (h : kd q = 5) : kd (q + 11) = 9 := kd_5_9_a q (Nat.lt_succ_of_le (kd_in h (by decide)).2) h
theorem kd_5_12_a : ∀ q, q < 174 → kd q = 5 → kd (q + 12) = 4 := by decide +kernel
theorem kd_5_12 {q : Nat} (h : kd q = 5) : kd (q + 12) = 4 := kd_5_12_a q (Nat.lt_succ_of_le (kd_in h (by decide)).2) h
theorem kd_5_13_a : ∀ q, q < 174 → kd q = 5 → kd (q + 13) = 4 := by decide +kernel
theorem kd_5_13 {q : Nat} (h : kd q = 5) : kd (q + 13) = 4 := kd_5_13_a q (Nat.lt_succ_of_le (kd_in h (by decide)).2) h
theorem kd_5_14_a : ∀ q, q < 174 → kd q = 5 → kd (q + 14) = 4 := by decide +kernel
theorem kd_5_14 {q : Nat} (h : kd q = 5) : kd (q + 14) = 4 := kd_5_14_a q (Nat.lt_succ_of_le (kd_in h (by decide)).2) h
theorem kd_5_15_a : ∀ q, q < 174 → kd q = 5 → kd (q + 15) = 4 := by decide +kernel
theorem kd_5_15 {q : Nat} (h : kd q = 5) : kd (q + 15) = 4 := kd_5_15_a q (Nat.lt_succ_of_le (kd_in h (by decide)).2) h
theorem kd_5_16_a : ∀ q, q < 174 → kd q = 5 → kd (q + 16) = 10 := by decide +kernel
theorem kd_5_16 {q : Nat} (h : kd q = 5) : kd (q + 16) = 10 := kd_5_16_a q (Nat.lt_succ_of_le (kd_in h (by decide)).2) h
theorem kd_6_7_a : ∀ q, q < 174 → kd q = 6 → kd (q + 1) = 7 := by decide +kernel
theorem kd_6_7 {q : Nat} (h : kd q = 6) : kd (q + 1) = 7 := kd_6_7_a q (Nat.lt_succ_of_le (kd_in h (by decide)).2) h
theorem kd_8_4_a : ∀ q, q < 174 → kd q = 8 → kd (q + 1) = 4 := by decide +kernel
theorem kd_8_4 {q : Nat} (h : kd q = 8) : kd (q + 1) = 4 := kd_8_4_a q (Nat.lt_succ_of_le (kd_in h (by decide)).2) h
abbrev tm_n1 : Nat := 129
theorem kd_i1_a : ∀ q, q < 174 → kd q < 11 → q ≤ 129 := by decide +kernel
theorem kd_i1 {q k : Nat} (h : kd q = k) (hk : k ≠ 0 ∧ k < 11) : 0 < q ∧ q ≤ tm_n1 := by
  have h1 := kd_in h ⟨hk.1, by omega⟩
  exact ⟨h1.1, kd_i1_a q (Nat.lt_succ_of_le h1.2) (by rw [h]; exact hk.2)⟩
theorem kd_nodes_a : ∀ m, m < 7 → kd (11 + 17 * m) = 5 := by decide +kernel
theorem kd_nodes {i : Int32} (h : ¬ (i < 0 ∨ 7 ≤ i.toNatClampNeg)) : kd (11 + 17 * i.toNatClampNeg) = 5 := kd_nodes_a _ (Nat.not_le.mp fun q => h (Or.inr q))
theorem kd_costs_a : ∀ m, m < 7 → kd (4 + m) = 4 := by decide +kernel
theorem kd_costs {i : Int32} (h : ¬ (i < 0 ∨ 7 ≤ i.toNatClampNeg)) : kd (4 + i.toNatClampNeg) = 4 := kd_costs_a _ (Nat.not_le.mp fun q => h (Or.inr q))
theorem kd_0 : kd 0 = 0 := by decide +kernel
theorem kd_1 : kd 1 = 1 := by decide +kernel
theorem kd_2 : kd 2 = 2 := by decide +kernel
theorem kd_3 : kd 3 = 3 := by decide +kernel
theorem kd_130 : kd 130 = 11 := by decide +kernel
theorem kd_131 : kd 131 = 12 := by decide +kernel
theorem kd_132 : kd 132 = 12 := by decide +kernel
theorem kd_133 : kd 133 = 13 := by decide +kernel
theorem kd_134 : kd 134 = 12 := by decide +kernel
theorem kd_135 : kd 135 = 12 := by decide +kernel
theorem kd_136 : kd 136 = 12 := by decide +kernel
theorem kd_137 : kd 137 = 14 := by decide +kernel
theorem kd_138 : kd 138 = 15 := by decide +kernel
theorem kd_139 : kd 139 = 15 := by decide +kernel
theorem kd_140 : kd 140 = 15 := by decide +kernel
theorem kd_141 : kd 141 = 15 := by decide +kernel
theorem kd_142 : kd 142 = 14 := by decide +kernel
theorem kd_143 : kd 143 = 15 := by decide +kernel
theorem kd_144 : kd 144 = 15 := by decide +kernel
theorem kd_145 : kd 145 = 15 := by decide +kernel
theorem kd_146 : kd 146 = 15 := by decide +kernel
theorem kd_147 : kd 147 = 16 := by decide +kernel
theorem kd_148 : kd 148 = 15 := by decide +kernel
theorem kd_149 : kd 149 = 15 := by decide +kernel
theorem kd_150 : kd 150 = 15 := by decide +kernel
theorem kd_151 : kd 151 = 15 := by decide +kernel
theorem kd_152 : kd 152 = 15 := by decide +kernel
theorem kd_153 : kd 153 = 14 := by decide +kernel
theorem kd_154 : kd 154 = 17 := by decide +kernel
theorem kd_155 : kd 155 = 18 := by decide +kernel
theorem kd_156 : kd 156 = 18 := by decide +kernel
theorem kd_157 : kd 157 = 18 := by decide +kernel
theorem kd_158 : kd 158 = 18 := by decide +kernel
theorem kd_159 : kd 159 = 19 := by decide +kernel
theorem kd_160 : kd 160 = 17 := by decide +kernel
theorem kd_161 : kd 161 = 18 := by decide +kernel
theorem kd_162 : kd 162 = 18 := by decide +kernel
theorem kd_163 : kd 163 = 18 := by decide +kernel
theorem kd_164 : kd 164 = 18 := by decide +kernel
theorem kd_165 : kd 165 = 17 := by decide +kernel
theorem kd_166 : kd 166 = 17 := by decide +kernel
theorem kd_167 : kd 167 = 15 := by decide +kernel
theorem kd_168 : kd 168 = 15 := by decide +kernel
theorem kd_169 : kd 169 = 14 := by decide +kernel
theorem kd_170 : kd 170 = 14 := by decide +kernel
theorem kd_171 : kd 171 = 14 := by decide +kernel
theorem kd_172 : kd 172 = 15 := by decide +kernel
theorem kd_173 : kd 173 = 20 := by decide +kernel
end
section
/-! rows over the flat state -/
theorem tm_if {α : Type} {c : Prop} [Decidable c] {A : Option α} {r : α} (h : (if c then A else none) = some r) : c ∧ A = some r := by
  by_cases hc : c
  · rw [if_pos hc] at h; exact ⟨hc, h⟩
  · rw [if_neg hc] at h; cases h
def tm_w {α β : Type} (x : α) (f : α → Option β) : Option β := f x
theorem tm_ww {α β : Type} {x : α} {f : α → Option β} {r : β} (h : tm_w x f = some r) : ∃ z, z = x ∧ f z = some r := ⟨x, rfl, h⟩
theorem tm_bd {α β : Type} {o : Option α} {f : α → Option β} {r : β} (h : o.bind f = some r) : ∃ z, o = some z ∧ f z = some r := by
  cases o with
  | none => cases h
  | some z => exact ⟨z, rfl, h⟩
abbrev tm_P1 (v : Option Value) (σ : tm_S) : Option Value → Nat → (Nat → tv_C) → Prop := fun v' n h => v' = v ∧ n = tm_n1 ∧ h = hp σ
abbrev tm_P (v : Option Value) (σ : tm_S) : Option Value → Nat → (Nat → tv_C) → Prop := fun v' n h => v' = v ∧ n = tm_n ∧ h = hp σ
theorem tm_gd {c : Cond} (h : c ∈ tm_wg) : GoodIn tm_wg (c :: tm_wg) := by
  intro w hw
  rcases List.mem_cons.mp hw with rfl | hw
  · exact ⟨h, good_of_word (List.mem_filter.mp h).2⟩
  · exact ⟨hw, good_of_word (List.mem_filter.mp hw).2⟩
theorem tm_nest : ∀ w ∈ tm_ns, tv_nest w := by
  intro w hw
  simp only [tm_ns, List.mem_cons, List.not_mem_nil, or_false] at hw
  rcases hw with rfl | rfl | rfl | rfl | rfl
  · exact Or.inr (Or.inr (Or.inl ⟨_, rfl⟩))
  · exact Or.inr (Or.inr (Or.inr ⟨_, rfl⟩))
  · exact Or.inr (Or.inr (Or.inl ⟨_, rfl⟩))
  · exact Or.inr (Or.inl ⟨_, _, _, _, rfl⟩)
  · exact Or.inr (Or.inl ⟨_, _, _, _, rfl⟩)
theorem tm_fi {x : Int32} : ∀ bs b, narrow .int (tv_v bs b (.int x)) = tv_v bs b (.int x) ∧ fits .int (tv_v bs b (.int x)) = true := fun _ _ => ⟨rfl, rfl⟩
theorem tm_nz {x : Int32} (h : x = 0 ∨ x = 1) : narrow .boolean (.int x) = .int x := by rcases h with rfl | rfl <;> decide
theorem tm_fz {x : Int32} (h : x = 0 ∨ x = 1) : ∀ bs b, narrow .boolean (tv_v bs b (.int x)) = tv_v bs b (.int x) ∧ fits .boolean (tv_v bs b (.int x)) = true := by
  intro bs b
  refine ⟨tm_nz h, ?_⟩
  rcases h with rfl | rfl <;> rfl
theorem tm_rf (r : Option Nat) : va_rf r = .null ∨ ∃ a, va_rf r = .ref a := by
  cases r with
  | none => exact Or.inl rfl
  | some a => exact Or.inr ⟨a, rfl⟩
def sI (σ : tm_S) (a k : Nat) (v : Int32) : tm_S := (fun x j => if x = a ∧ j = k then v else σ.1 x j, σ.2)
def sP (σ : tm_S) (a k : Nat) (r : Nat) : tm_S := (σ.1, fun x j => if x = a ∧ j = k then r else σ.2 x j)
/-- seven ints of s into d -/
def sC (σ : tm_S) (s d : Nat) : tm_S := (fun x j => if x = d ∧ j < 7 then σ.1 s j else σ.1 x j, σ.2)
/-- seven times v into a -/
def sFl (σ : tm_S) (a : Nat) (v : Int32) : tm_S := (fun x j => if x = a ∧ j < 7 then v else σ.1 x j, σ.2)
/-- a change of one address -/
theorem hp_up {σ τ : tm_S} {a : Nat} (h : ∀ q, q ≠ a → τ.1 q = σ.1 q ∧ τ.2 q = σ.2 q) : hp τ = va_up (hp σ) a (tm_c (kd a) a (τ.1 a) (τ.2 a)) := by
  funext q
  by_cases hq : q = a
  · subst hq
    rw [va_up_self]
    rfl
  · rw [va_up_ne _ _ hq]
    unfold hp
    rw [(h q hq).1, (h q hq).2]
theorem sI_at (σ : tm_S) (a k : Nat) (v : Int32) : (sI σ a k v).1 a = upd (σ.1 a) k v := by
  funext j
  by_cases hj : j = k <;> simp [sI, upd, hj]
theorem sI_ne (σ : tm_S) (a k : Nat) (v : Int32) : ∀ q, q ≠ a → (sI σ a k v).1 q = σ.1 q ∧ (sI σ a k v).2 q = σ.2 q := by
  intro q hq
  refine ⟨?_, rfl⟩
  funext j
  simp [sI, hq]
theorem hp_sI (σ : tm_S) (a k : Nat) (v : Int32) : hp (sI σ a k v) = va_up (hp σ) a (tm_c (kd a) a (upd (σ.1 a) k v) (σ.2 a)) := by
  rw [hp_up (sI_ne σ a k v), sI_at]
  rfl
theorem sP_ne (σ : tm_S) (a k r : Nat) : ∀ q, q ≠ a → (sP σ a k r).1 q = σ.1 q ∧ (sP σ a k r).2 q = σ.2 q := by
  intro q hq
  refine ⟨rfl, ?_⟩
  funext j
  simp [sP, hq]
theorem sC_ne (σ : tm_S) (s d : Nat) : ∀ q, q ≠ d → (sC σ s d).1 q = σ.1 q ∧ (sC σ s d).2 q = σ.2 q := by
  intro q hq
  refine ⟨?_, rfl⟩
  funext j
  simp [sC, hq]
section TVR2
variable {X : tv_X} {cells slots n : Nat} {σ : tm_S} {pc : Nat} {ls : List (Option Value)} {st : List Value} {cc : ByteArray} {nL : Nat} {own : String} {rm : Room}
theorem V.seti (hC : tv_K X cc nL own tm_wg tm_ns tm_cl tm_ty rm) {idx ci k q K : Nat} {C : String} {T : u_T} {N : Nat} {x : Int32} {ty : FieldType} {fs : List Value} (hF : tv_F tm_wg tm_ns tm_cl own idx ci k C T N) (tyT : Nat → FieldType) (hty : ∀ k, k < N → parseFieldDescriptor (T k).2.2.1 = some (tyT k)) (hnm : ∀ a, a < N → ∀ b, b < N → a ≠ b → (T a).2.1 ≠ (T b).2.1) (hfin : (T k).2.2.2 = false) (hds : parseFieldDescriptor (T k).2.2.1 = some ty) (hfit : ∀ bs b, narrow ty (tv_v bs b (.int x)) = tv_v bs b (.int x) ∧ fits ty (tv_v bs b (.int x)) = true) (hq : kd q = K) (hK : 0 < q ∧ q ≤ n) (hc : tm_c K q (σ.1 q) (σ.2 q) = .inr (ci, fs)) (hs : tm_c K q (upd (σ.1 q) k x) (σ.2 q) = .inr (ci, fs.set k (.int x))) (hlen : k < fs.length) (hd : decode cc pc = .ok (.putfield idx, 3)) (kk : V X cells slots n (hp (sI σ q k x)) (pc + 3) ls st) : V X cells slots n (hp σ) pc ls (.int x :: .ref q :: st) := by
  refine V.putf hC hF tyT hty hnm hfin hds hfit hK ((hp_at hq).trans hc) hlen hd ?_
  rw [hp_sI, hq, hs] at kk
  exact kk
theorem V.seta (hC : tv_K X cc nL own tm_wg tm_ns tm_cl tm_ty rm) {t q K len : Nat} {i x : Int32} (hq : kd q = K) (hK : 0 < q ∧ q ≤ n) (hc : tm_c K q (σ.1 q) (σ.2 q) = .inl (t, (len, .inl (σ.1 q)))) (hs : tm_c K q (upd (σ.1 q) i.toNatClampNeg x) (σ.2 q) = .inl (t, (len, .inl (upd (σ.1 q) i.toNatClampNeg x)))) (ht : tm_ty[t]? = some .int) (hin : ¬ (i < 0 ∨ len ≤ i.toNatClampNeg)) (hd : decode cc pc = .ok (.iastore, 1)) (kk : V X cells slots n (hp (sI σ q i.toNatClampNeg x)) (pc + 1) ls st) : V X cells slots n (hp σ) pc ls (.int x :: .int i :: .ref q :: st) := by
  refine V.iast hC hK ((hp_at hq).trans hc) ht hin hd ?_
  rw [hp_sI, hq, hs] at kk
  exact kk
theorem V.setz (hC : tv_K X cc nL own tm_wg tm_ns tm_cl tm_ty rm) {t q K len : Nat} {i x : Int32} (hq : kd q = K) (hK : 0 < q ∧ q ≤ n) (hc : tm_c K q (σ.1 q) (σ.2 q) = .inl (t, (len, .inl (σ.1 q)))) (hs : tm_c K q (upd (σ.1 q) i.toNatClampNeg x) (σ.2 q) = .inl (t, (len, .inl (upd (σ.1 q) i.toNatClampNeg x)))) (ht : tm_ty[t]? = some .boolean) (hin : ¬ (i < 0 ∨ len ≤ i.toNatClampNeg)) (hz : x = 0 ∨ x = 1) (hd : decode cc pc = .ok (.bastore, 1)) (kk : V X cells slots n (hp (sI σ q i.toNatClampNeg x)) (pc + 1) ls st) : V X cells slots n (hp σ) pc ls (.int x :: .int i :: .ref q :: st) := by
  refine V.zast hC hK ((hp_at hq).trans hc) ht hin hz hd ?_
  rw [hp_sI, hq, hs] at kk
  exact kk
theorem V.setp (hC : tv_K X cc nL own tm_wg tm_ns tm_cl tm_ty rm) {q r : Nat} {i : Int32} (hq : kd q = 7) (hr : kd r = 8) (hqn : 0 < q ∧ q ≤ n) (hrn : 0 < r ∧ r ≤ n) (hin : ¬ (i < 0 ∨ 4 ≤ i.toNatClampNeg)) (hd : decode cc pc = .ok (.aastore, 1)) (kk : V X cells slots n (hp (sP σ q i.toNatClampNeg r)) (pc + 1) ls st) : V X cells slots n (hp σ) pc ls (.ref r :: .int i :: .ref q :: st) := by
  refine V.aast hC (t := 3) (ci := 0) (r := (tR_F, tT_F, 12)) (f := fun j => some (σ.2 q j)) (len := 4) rfl rfl hqn (hp_at hq) hrn (hp_at hr) hin hd ?_
  rw [hp_up (sP_ne σ q i.toNatClampNeg r), hq] at kk
  have e : (fun j => some ((sP σ q i.toNatClampNeg r).2 q j)) = va_up (fun j => some (σ.2 q j)) i.toNatClampNeg (some r) := by
    funext j
    by_cases hj : j = i.toNatClampNeg <;> simp [sP, va_up, hj]
  rw [← e]
  exact kk
theorem V.copy (hC : tv_K X cc nL own tm_wg tm_ns tm_cl tm_ty rm) (hnl : ls.length = nL) {idx s d : Nat} (hw : Cond.methodLink own idx arraycopyName ∈ tm_wg ∧ Cond.native arraycopyName ∈ tm_wg ∧ Cond.static arraycopyName ∈ tm_wg ∧ Cond.initialized "java/lang/System" ∈ tm_wg) (hs : kd s = 4) (hdd : kd d = 4) (hsn : 0 < s ∧ s ≤ n) (hdn : 0 < d ∧ d ≤ n) (hrm : 1 ≤ rm.frames ∧ (st.map fun v => v.category).sum + (nativeFrameWords "java/lang/System" "arraycopy" 5 + 11) ≤ rm.locals) (hd : decode cc pc = .ok (.invokestatic idx, 3)) (kk : V X cells slots n (hp (sC σ s d)) (pc + 3) ls st) : V X cells slots n (hp σ) pc ls (.int 7 :: .int 0 :: .ref d :: .int 0 :: .ref s :: st) := by
  refine V.acopy hC hnl hw hsn (hp_at hs) hdn (hp_at hdd) rfl (by decide) (by decide) (by decide) (by decide) (by decide) hrm hd ?_
  rw [hp_up (sC_ne σ s d), hdd] at kk
  have e : (sC σ s d).1 d = va_cpy (σ.1 s) (σ.1 d) (0 : Int32).toNatClampNeg (0 : Int32).toNatClampNeg (7 : Int32).toNatClampNeg := by
    funext j
    have h0 : (0 : Int32).toNatClampNeg = 0 := by decide
    have h7 : (7 : Int32).toNatClampNeg = 7 := by decide
    simp [sC, va_cpy, h0, h7]
  rw [← e]
  exact kk
end TVR2
end
section
/-! switches, the law's end, less and more room, another heap -/
theorem tm_le {a b : Nat} (h : Nat.ble a b = true) : a ≤ b := Nat.le_of_ble_eq_true h
theorem tm_ne {x k : Int32} (h : ¬ x = k) : x.toInt ≠ k.toInt := fun e => h (Int32.toInt_inj.mp e)
theorem tm_out3 {x : Int32} (h0 : ¬ x = (0 : Int32)) (h1 : ¬ x = (1 : Int32)) (h2 : ¬ x = (2 : Int32)) : x.toInt < 0 ∨ 2 < x.toInt := by
  have g0 : x.toInt ≠ 0 := tm_ne h0
  have g1 : x.toInt ≠ 1 := tm_ne h1
  have g2 : x.toInt ≠ 2 := tm_ne h2
  omega
theorem tm_out10 {x : Int32} (h0 : ¬ x = (0 : Int32)) (h1 : ¬ x = (1 : Int32)) (h2 : ¬ x = (2 : Int32)) (h3 : ¬ x = (3 : Int32)) (h4 : ¬ x = (4 : Int32)) (h5 : ¬ x = (5 : Int32)) (h6 : ¬ x = (6 : Int32)) (h7 : ¬ x = (7 : Int32)) (h8 : ¬ x = (8 : Int32)) (h9 : ¬ x = (9 : Int32)) : x.toInt < 0 ∨ 9 < x.toInt := by
  have g0 : x.toInt ≠ 0 := tm_ne h0
  have g1 : x.toInt ≠ 1 := tm_ne h1
  have g2 : x.toInt ≠ 2 := tm_ne h2
  have g3 : x.toInt ≠ 3 := tm_ne h3
  have g4 : x.toInt ≠ 4 := tm_ne h4
  have g5 : x.toInt ≠ 5 := tm_ne h5
  have g6 : x.toInt ≠ 6 := tm_ne h6
  have g7 : x.toInt ≠ 7 := tm_ne h7
  have g8 : x.toInt ≠ 8 := tm_ne h8
  have g9 : x.toInt ≠ 9 := tm_ne h9
  omega
theorem tm_out12 {x : Int32} (h0 : ¬ x = (0 : Int32)) (h1 : ¬ x = (1 : Int32)) (h2 : ¬ x = (2 : Int32)) (h3 : ¬ x = (3 : Int32)) (h4 : ¬ x = (4 : Int32)) (h5 : ¬ x = (5 : Int32)) (h6 : ¬ x = (6 : Int32)) (h7 : ¬ x = (7 : Int32)) (h8 : ¬ x = (8 : Int32)) (h9 : ¬ x = (9 : Int32)) (h10 : ¬ x = (10 : Int32)) (h11 : ¬ x = (11 : Int32)) : x.toInt < 0 ∨ 11 < x.toInt := by
  have g0 : x.toInt ≠ 0 := tm_ne h0
  have g1 : x.toInt ≠ 1 := tm_ne h1
  have g2 : x.toInt ≠ 2 := tm_ne h2
  have g3 : x.toInt ≠ 3 := tm_ne h3
  have g4 : x.toInt ≠ 4 := tm_ne h4
  have g5 : x.toInt ≠ 5 := tm_ne h5
  have g6 : x.toInt ≠ 6 := tm_ne h6
  have g7 : x.toInt ≠ 7 := tm_ne h7
  have g8 : x.toInt ≠ 8 := tm_ne h8
  have g9 : x.toInt ≠ 9 := tm_ne h9
  have g10 : x.toInt ≠ 10 := tm_ne h10
  have g11 : x.toInt ≠ 11 := tm_ne h11
  omega
theorem tm_out13 {x : Int32} (h0 : ¬ x = (0 : Int32)) (h1 : ¬ x = (1 : Int32)) (h2 : ¬ x = (2 : Int32)) (h3 : ¬ x = (3 : Int32)) (h4 : ¬ x = (4 : Int32)) (h5 : ¬ x = (5 : Int32)) (h6 : ¬ x = (6 : Int32)) (h7 : ¬ x = (7 : Int32)) (h8 : ¬ x = (8 : Int32)) (h9 : ¬ x = (9 : Int32)) (h10 : ¬ x = (10 : Int32)) (h11 : ¬ x = (11 : Int32)) (h12 : ¬ x = (12 : Int32)) : x.toInt < 0 ∨ 12 < x.toInt := by
  have g0 : x.toInt ≠ 0 := tm_ne h0
  have g1 : x.toInt ≠ 1 := tm_ne h1
  have g2 : x.toInt ≠ 2 := tm_ne h2
  have g3 : x.toInt ≠ 3 := tm_ne h3
  have g4 : x.toInt ≠ 4 := tm_ne h4
  have g5 : x.toInt ≠ 5 := tm_ne h5
  have g6 : x.toInt ≠ 6 := tm_ne h6
  have g7 : x.toInt ≠ 7 := tm_ne h7
  have g8 : x.toInt ≠ 8 := tm_ne h8
  have g9 : x.toInt ≠ 9 := tm_ne h9
  have g10 : x.toInt ≠ 10 := tm_ne h10
  have g11 : x.toInt ≠ 11 := tm_ne h11
  have g12 : x.toInt ≠ 12 := tm_ne h12
  omega
abbrev tm_lc : Nat := 1000
abbrev tm_ls : Nat := 10000
def tv_law (X : tv_X) : Prop := match X with
  | ((p, l, e, R, s, m, args, below, meth, c), Q, (cl, tys, D, G, bs, b)) => args = #[Value.ref bs] ∧ Q = lw_Z below #[Value.ref bs] s ∧ meth.sig.returnType = ret ∧ b = s.heap.size
section TVL
variable {X : tv_X} {cells slots n : Nat} {h h' : Nat → tv_C} {pc : Nat} {ls : List (Option Value)} {st : List Value} {nL : Nat} {own : String} {Ts Ns : List Cond} {CL : List vw_C} {TY : List FieldType}
theorem V.lret (hC : tv_K X code nL own Ts Ns CL TY room_1) (hE : tv_law X) {x : Int32} (hd : decode code pc = .ok (.ireturn, 1)) (h1 : x = 1) : V X tm_lc tm_ls n h pc ls [.int x] := by
  obtain ⟨⟨p, l, e, R, s, m, args, below, meth, c⟩, Q, ⟨cl, tys, D, G, bs, b⟩⟩ := X
  obtain ⟨hx, hb, hml, hown, hts, hns, hK, hlk, hbs, hbz, rfl, rfl, rfl⟩ := hC
  obtain ⟨rfl, rfl, hr, rfl⟩ := hE
  subst h1
  intro H locs real hR hS hl
  exact va_forget (fun q hq => hS.2.2 q hq) (W.widen (by decide) (by decide) (lw_ret hx hb hr hlk hd))
theorem V.widen {k m : Nat} (h1 : cells ≤ k) (h2 : slots ≤ m) (kk : V X k m n h pc ls st) : V X cells slots n h pc ls st := by
  obtain ⟨⟨p, l, e, R, s, m, args, below, meth, c⟩, Q, ⟨cl, tys, D, G, bs, b⟩⟩ := X
  intro H locs real hR hS hl
  exact W.widen h1 h2 (kk H locs real hR hS hl)
theorem tv_W_congr {G : Nat → ClassId} {bs b n : Nat} {h h' : Nat → tv_C} (he : ∀ q, q ≤ n → h q = h' q) : tv_W G bs b n h = tv_W G bs b n h' := by
  unfold tv_W
  apply List.map_congr_left
  intro a ha
  have ha := List.mem_range.mp ha
  rw [he (a + 1) (by omega)]
theorem V.congr (he : ∀ q, q ≤ n → h q = h' q) (kk : V X cells slots n h' pc ls st) : V X cells slots n h pc ls st := by
  obtain ⟨⟨p, l, e, R, s, m, args, below, meth, c⟩, Q, ⟨cl, tys, D, G, bs, b⟩⟩ := X
  intro H locs real hR hS hl
  refine kk H locs real ⟨hR.1, ?_, ?_⟩ hS hl
  · rw [← tv_W_congr he]
    exact hR.2.1
  · rw [← he 0 (Nat.zero_le _)]
    exact hR.2.2
end TVL
end
section
theorem d_F_init_0 : decode tb_F_init 0 = .ok (.aload_n 0, 1) := by decide +kernel
theorem d_F_init_1 : decode tb_F_init 1 = .ok (.invokespecial 3, 3) := by decide +kernel
theorem d_F_init_4 : decode tb_F_init 4 = .ok (.aload_n 0, 1) := by decide +kernel
theorem d_F_init_5 : decode tb_F_init 5 = .ok (.iconst (-1), 1) := by decide +kernel
theorem d_F_init_6 : decode tb_F_init 6 = .ok (.putfield 9, 3) := by decide +kernel
theorem d_F_init_9 : decode tb_F_init 9 = .ok (.aload_n 0, 1) := by decide +kernel
theorem d_F_init_10 : decode tb_F_init 10 = .ok (.bipush 7, 2) := by decide +kernel
theorem d_F_init_12 : decode tb_F_init 12 = .ok (.newarray .int, 2) := by decide +kernel
theorem d_F_init_14 : decode tb_F_init 14 = .ok (.putfield 15, 3) := by decide +kernel
theorem d_F_init_17 : decode tb_F_init 17 = .ok (.return_, 1) := by decide +kernel
end
section
theorem d_N_init_0 : decode tb_N_init 0 = .ok (.aload_n 0, 1) := by decide +kernel
theorem d_N_init_1 : decode tb_N_init 1 = .ok (.invokespecial 3, 3) := by decide +kernel
theorem d_N_init_4 : decode tb_N_init 4 = .ok (.aload_n 0, 1) := by decide +kernel
theorem d_N_init_5 : decode tb_N_init 5 = .ok (.new 9, 3) := by decide +kernel
theorem d_N_init_8 : decode tb_N_init 8 = .ok (.dup, 1) := by decide +kernel
theorem d_N_init_9 : decode tb_N_init 9 = .ok (.invokespecial 11, 3) := by decide +kernel
theorem d_N_init_12 : decode tb_N_init 12 = .ok (.putfield 12, 3) := by decide +kernel
theorem d_N_init_15 : decode tb_N_init 15 = .ok (.aload_n 0, 1) := by decide +kernel
theorem d_N_init_16 : decode tb_N_init 16 = .ok (.new 18, 3) := by decide +kernel
theorem d_N_init_19 : decode tb_N_init 19 = .ok (.dup, 1) := by decide +kernel
theorem d_N_init_20 : decode tb_N_init 20 = .ok (.invokespecial 20, 3) := by decide +kernel
theorem d_N_init_23 : decode tb_N_init 23 = .ok (.putfield 21, 3) := by decide +kernel
theorem d_N_init_26 : decode tb_N_init 26 = .ok (.aload_n 0, 1) := by decide +kernel
theorem d_N_init_27 : decode tb_N_init 27 = .ok (.bipush 7, 2) := by decide +kernel
theorem d_N_init_29 : decode tb_N_init 29 = .ok (.newarray .int, 2) := by decide +kernel
theorem d_N_init_31 : decode tb_N_init 31 = .ok (.putfield 25, 3) := by decide +kernel
theorem d_N_init_34 : decode tb_N_init 34 = .ok (.aload_n 0, 1) := by decide +kernel
theorem d_N_init_35 : decode tb_N_init 35 = .ok (.bipush 7, 2) := by decide +kernel
theorem d_N_init_37 : decode tb_N_init 37 = .ok (.newarray .int, 2) := by decide +kernel
theorem d_N_init_39 : decode tb_N_init 39 = .ok (.putfield 29, 3) := by decide +kernel
theorem d_N_init_42 : decode tb_N_init 42 = .ok (.aload_n 0, 1) := by decide +kernel
theorem d_N_init_43 : decode tb_N_init 43 = .ok (.bipush 7, 2) := by decide +kernel
theorem d_N_init_45 : decode tb_N_init 45 = .ok (.newarray .int, 2) := by decide +kernel
theorem d_N_init_47 : decode tb_N_init 47 = .ok (.putfield 32, 3) := by decide +kernel
theorem d_N_init_50 : decode tb_N_init 50 = .ok (.aload_n 0, 1) := by decide +kernel
theorem d_N_init_51 : decode tb_N_init 51 = .ok (.bipush 7, 2) := by decide +kernel
theorem d_N_init_53 : decode tb_N_init 53 = .ok (.newarray .int, 2) := by decide +kernel
theorem d_N_init_55 : decode tb_N_init 55 = .ok (.putfield 35, 3) := by decide +kernel
theorem d_N_init_58 : decode tb_N_init 58 = .ok (.aload_n 0, 1) := by decide +kernel
theorem d_N_init_59 : decode tb_N_init 59 = .ok (.bipush 8, 2) := by decide +kernel
theorem d_N_init_61 : decode tb_N_init 61 = .ok (.newarray .int, 2) := by decide +kernel
theorem d_N_init_63 : decode tb_N_init 63 = .ok (.putfield 38, 3) := by decide +kernel
theorem d_N_init_66 : decode tb_N_init 66 = .ok (.aload_n 0, 1) := by decide +kernel
theorem d_N_init_67 : decode tb_N_init 67 = .ok (.iconst 1, 1) := by decide +kernel
theorem d_N_init_68 : decode tb_N_init 68 = .ok (.putfield 41, 3) := by decide +kernel
theorem d_N_init_71 : decode tb_N_init 71 = .ok (.aload_n 0, 1) := by decide +kernel
theorem d_N_init_72 : decode tb_N_init 72 = .ok (.sipush 255, 3) := by decide +kernel
theorem d_N_init_75 : decode tb_N_init 75 = .ok (.putfield 45, 3) := by decide +kernel
theorem d_N_init_78 : decode tb_N_init 78 = .ok (.aload_n 0, 1) := by decide +kernel
theorem d_N_init_79 : decode tb_N_init 79 = .ok (.iconst (-1), 1) := by decide +kernel
theorem d_N_init_80 : decode tb_N_init 80 = .ok (.putfield 49, 3) := by decide +kernel
theorem d_N_init_83 : decode tb_N_init 83 = .ok (.aload_n 0, 1) := by decide +kernel
theorem d_N_init_84 : decode tb_N_init 84 = .ok (.sipush 255, 3) := by decide +kernel
theorem d_N_init_87 : decode tb_N_init 87 = .ok (.putfield 52, 3) := by decide +kernel
theorem d_N_init_90 : decode tb_N_init 90 = .ok (.aload_n 0, 1) := by decide +kernel
theorem d_N_init_91 : decode tb_N_init 91 = .ok (.iload_n 1, 1) := by decide +kernel
theorem d_N_init_92 : decode tb_N_init 92 = .ok (.putfield 55, 3) := by decide +kernel
theorem d_N_init_95 : decode tb_N_init 95 = .ok (.aload_n 0, 1) := by decide +kernel
theorem d_N_init_96 : decode tb_N_init 96 = .ok (.getfield 29, 3) := by decide +kernel
theorem d_N_init_99 : decode tb_N_init 99 = .ok (.iconst (-1), 1) := by decide +kernel
theorem d_N_init_100 : decode tb_N_init 100 = .ok (.invokestatic 58, 3) := by decide +kernel
theorem d_N_init_103 : decode tb_N_init 103 = .ok (.return_, 1) := by decide +kernel
end
section
theorem d_R_init_0 : decode tb_R_init 0 = .ok (.aload_n 0, 1) := by decide +kernel
theorem d_R_init_1 : decode tb_R_init 1 = .ok (.invokespecial 3, 3) := by decide +kernel
theorem d_R_init_4 : decode tb_R_init 4 = .ok (.aload_n 0, 1) := by decide +kernel
theorem d_R_init_5 : decode tb_R_init 5 = .ok (.iconst 4, 1) := by decide +kernel
theorem d_R_init_6 : decode tb_R_init 6 = .ok (.anewarray 9, 3) := by decide +kernel
theorem d_R_init_9 : decode tb_R_init 9 = .ok (.putfield 11, 3) := by decide +kernel
theorem d_R_init_12 : decode tb_R_init 12 = .ok (.aload_n 0, 1) := by decide +kernel
theorem d_R_init_13 : decode tb_R_init 13 = .ok (.iconst 0, 1) := by decide +kernel
theorem d_R_init_14 : decode tb_R_init 14 = .ok (.putfield 17, 3) := by decide +kernel
theorem d_R_init_17 : decode tb_R_init 17 = .ok (.aload_n 0, 1) := by decide +kernel
theorem d_R_init_18 : decode tb_R_init 18 = .ok (.iconst (-1), 1) := by decide +kernel
theorem d_R_init_19 : decode tb_R_init 19 = .ok (.putfield 21, 3) := by decide +kernel
theorem d_R_init_22 : decode tb_R_init 22 = .ok (.aload_n 0, 1) := by decide +kernel
theorem d_R_init_23 : decode tb_R_init 23 = .ok (.iconst (-1), 1) := by decide +kernel
theorem d_R_init_24 : decode tb_R_init 24 = .ok (.putfield 24, 3) := by decide +kernel
theorem d_R_init_27 : decode tb_R_init 27 = .ok (.aload_n 0, 1) := by decide +kernel
theorem d_R_init_28 : decode tb_R_init 28 = .ok (.iconst (-1), 1) := by decide +kernel
theorem d_R_init_29 : decode tb_R_init 29 = .ok (.putfield 27, 3) := by decide +kernel
theorem d_R_init_32 : decode tb_R_init 32 = .ok (.iconst 0, 1) := by decide +kernel
theorem d_R_init_33 : decode tb_R_init 33 = .ok (.istore_n 1, 1) := by decide +kernel
theorem d_R_init_34 : decode tb_R_init 34 = .ok (.iload_n 1, 1) := by decide +kernel
theorem d_R_init_35 : decode tb_R_init 35 = .ok (.iconst 4, 1) := by decide +kernel
theorem d_R_init_36 : decode tb_R_init 36 = .ok (.if_icmp .ge 22, 3) := by decide +kernel
theorem d_R_init_39 : decode tb_R_init 39 = .ok (.aload_n 0, 1) := by decide +kernel
theorem d_R_init_40 : decode tb_R_init 40 = .ok (.getfield 11, 3) := by decide +kernel
theorem d_R_init_43 : decode tb_R_init 43 = .ok (.iload_n 1, 1) := by decide +kernel
theorem d_R_init_44 : decode tb_R_init 44 = .ok (.new 9, 3) := by decide +kernel
theorem d_R_init_47 : decode tb_R_init 47 = .ok (.dup, 1) := by decide +kernel
theorem d_R_init_48 : decode tb_R_init 48 = .ok (.invokespecial 30, 3) := by decide +kernel
theorem d_R_init_51 : decode tb_R_init 51 = .ok (.aastore, 1) := by decide +kernel
theorem d_R_init_52 : decode tb_R_init 52 = .ok (.iinc 1 1, 3) := by decide +kernel
theorem d_R_init_55 : decode tb_R_init 55 = .ok (.goto (-21), 3) := by decide +kernel
theorem d_R_init_58 : decode tb_R_init 58 = .ok (.return_, 1) := by decide +kernel
theorem d_R_beginFirst_0 : decode tb_R_beginFirst 0 = .ok (.aload_n 0, 1) := by decide +kernel
theorem d_R_beginFirst_1 : decode tb_R_beginFirst 1 = .ok (.iconst 0, 1) := by decide +kernel
theorem d_R_beginFirst_2 : decode tb_R_beginFirst 2 = .ok (.putfield 31, 3) := by decide +kernel
theorem d_R_beginFirst_5 : decode tb_R_beginFirst 5 = .ok (.aload_n 0, 1) := by decide +kernel
theorem d_R_beginFirst_6 : decode tb_R_beginFirst 6 = .ok (.iconst 0, 1) := by decide +kernel
theorem d_R_beginFirst_7 : decode tb_R_beginFirst 7 = .ok (.putfield 34, 3) := by decide +kernel
theorem d_R_beginFirst_10 : decode tb_R_beginFirst 10 = .ok (.aload_n 0, 1) := by decide +kernel
theorem d_R_beginFirst_11 : decode tb_R_beginFirst 11 = .ok (.iload_n 1, 1) := by decide +kernel
theorem d_R_beginFirst_12 : decode tb_R_beginFirst 12 = .ok (.putfield 37, 3) := by decide +kernel
theorem d_R_beginFirst_15 : decode tb_R_beginFirst 15 = .ok (.return_, 1) := by decide +kernel
end
section
theorem d_T_init_0 : decode tb_T_init 0 = .ok (.aload_n 0, 1) := by decide +kernel
theorem d_T_init_1 : decode tb_T_init 1 = .ok (.invokespecial 3, 3) := by decide +kernel
theorem d_T_init_4 : decode tb_T_init 4 = .ok (.aload_n 0, 1) := by decide +kernel
theorem d_T_init_5 : decode tb_T_init 5 = .ok (.bipush 64, 2) := by decide +kernel
theorem d_T_init_7 : decode tb_T_init 7 = .ok (.putfield 9, 3) := by decide +kernel
theorem d_T_init_10 : decode tb_T_init 10 = .ok (.return_, 1) := by decide +kernel
end
section
theorem d_X_init_0 : decode tb_X_init 0 = .ok (.aload_n 0, 1) := by decide +kernel
theorem d_X_init_1 : decode tb_X_init 1 = .ok (.invokespecial 1, 3) := by decide +kernel
theorem d_X_init_4 : decode tb_X_init 4 = .ok (.aload_n 0, 1) := by decide +kernel
theorem d_X_init_5 : decode tb_X_init 5 = .ok (.bipush 7, 2) := by decide +kernel
theorem d_X_init_7 : decode tb_X_init 7 = .ok (.anewarray 9, 3) := by decide +kernel
theorem d_X_init_10 : decode tb_X_init 10 = .ok (.putfield 11, 3) := by decide +kernel
theorem d_X_init_13 : decode tb_X_init 13 = .ok (.aload_n 0, 1) := by decide +kernel
theorem d_X_init_14 : decode tb_X_init 14 = .ok (.bipush 7, 2) := by decide +kernel
theorem d_X_init_16 : decode tb_X_init 16 = .ok (.bipush 7, 2) := by decide +kernel
theorem d_X_init_18 : decode tb_X_init 18 = .ok (.multianewarray 15 2, 4) := by decide +kernel
theorem d_X_init_22 : decode tb_X_init 22 = .ok (.putfield 17, 3) := by decide +kernel
theorem d_X_init_25 : decode tb_X_init 25 = .ok (.aload_n 0, 1) := by decide +kernel
theorem d_X_init_26 : decode tb_X_init 26 = .ok (.iload_n 1, 1) := by decide +kernel
theorem d_X_init_27 : decode tb_X_init 27 = .ok (.putfield 20, 3) := by decide +kernel
theorem d_X_init_30 : decode tb_X_init 30 = .ok (.aload_n 0, 1) := by decide +kernel
theorem d_X_init_31 : decode tb_X_init 31 = .ok (.iconst 0, 1) := by decide +kernel
theorem d_X_init_32 : decode tb_X_init 32 = .ok (.sipush 200, 3) := by decide +kernel
theorem d_X_init_35 : decode tb_X_init 35 = .ok (.iload_n 2, 1) := by decide +kernel
theorem d_X_init_36 : decode tb_X_init 36 = .ok (.invokestatic 24, 3) := by decide +kernel
theorem d_X_init_39 : decode tb_X_init 39 = .ok (.invokestatic 30, 3) := by decide +kernel
theorem d_X_init_42 : decode tb_X_init 42 = .ok (.putfield 33, 3) := by decide +kernel
theorem d_X_init_45 : decode tb_X_init 45 = .ok (.aload_n 0, 1) := by decide +kernel
theorem d_X_init_46 : decode tb_X_init 46 = .ok (.iconst 1, 1) := by decide +kernel
theorem d_X_init_47 : decode tb_X_init 47 = .ok (.bipush 9, 2) := by decide +kernel
theorem d_X_init_49 : decode tb_X_init 49 = .ok (.iload_n 3, 1) := by decide +kernel
theorem d_X_init_50 : decode tb_X_init 50 = .ok (.invokestatic 24, 3) := by decide +kernel
theorem d_X_init_53 : decode tb_X_init 53 = .ok (.invokestatic 30, 3) := by decide +kernel
theorem d_X_init_56 : decode tb_X_init 56 = .ok (.putfield 36, 3) := by decide +kernel
theorem d_X_init_59 : decode tb_X_init 59 = .ok (.iconst 0, 1) := by decide +kernel
theorem d_X_init_60 : decode tb_X_init 60 = .ok (.istore 4, 2) := by decide +kernel
theorem d_X_init_62 : decode tb_X_init 62 = .ok (.iload 4, 2) := by decide +kernel
theorem d_X_init_64 : decode tb_X_init 64 = .ok (.bipush 7, 2) := by decide +kernel
theorem d_X_init_66 : decode tb_X_init 66 = .ok (.if_icmp .ge 25, 3) := by decide +kernel
theorem d_X_init_69 : decode tb_X_init 69 = .ok (.aload_n 0, 1) := by decide +kernel
theorem d_X_init_70 : decode tb_X_init 70 = .ok (.getfield 11, 3) := by decide +kernel
theorem d_X_init_73 : decode tb_X_init 73 = .ok (.iload 4, 2) := by decide +kernel
theorem d_X_init_75 : decode tb_X_init 75 = .ok (.new 9, 3) := by decide +kernel
theorem d_X_init_78 : decode tb_X_init 78 = .ok (.dup, 1) := by decide +kernel
theorem d_X_init_79 : decode tb_X_init 79 = .ok (.iload 4, 2) := by decide +kernel
theorem d_X_init_81 : decode tb_X_init 81 = .ok (.invokespecial 39, 3) := by decide +kernel
theorem d_X_init_84 : decode tb_X_init 84 = .ok (.aastore, 1) := by decide +kernel
theorem d_X_init_85 : decode tb_X_init 85 = .ok (.iinc 4 1, 3) := by decide +kernel
theorem d_X_init_88 : decode tb_X_init 88 = .ok (.goto (-26), 3) := by decide +kernel
theorem d_X_init_91 : decode tb_X_init 91 = .ok (.aload_n 0, 1) := by decide +kernel
theorem d_X_init_92 : decode tb_X_init 92 = .ok (.getfield 11, 3) := by decide +kernel
theorem d_X_init_95 : decode tb_X_init 95 = .ok (.iconst 0, 1) := by decide +kernel
theorem d_X_init_96 : decode tb_X_init 96 = .ok (.aaload, 1) := by decide +kernel
theorem d_X_init_97 : decode tb_X_init 97 = .ok (.astore 4, 2) := by decide +kernel
theorem d_X_init_99 : decode tb_X_init 99 = .ok (.aload 4, 2) := by decide +kernel
theorem d_X_init_101 : decode tb_X_init 101 = .ok (.iconst 1, 1) := by decide +kernel
theorem d_X_init_102 : decode tb_X_init 102 = .ok (.putfield 42, 3) := by decide +kernel
theorem d_X_init_105 : decode tb_X_init 105 = .ok (.aload 4, 2) := by decide +kernel
theorem d_X_init_107 : decode tb_X_init 107 = .ok (.iconst 1, 1) := by decide +kernel
theorem d_X_init_108 : decode tb_X_init 108 = .ok (.putfield 45, 3) := by decide +kernel
theorem d_X_init_111 : decode tb_X_init 111 = .ok (.aload 4, 2) := by decide +kernel
theorem d_X_init_113 : decode tb_X_init 113 = .ok (.getfield 48, 3) := by decide +kernel
theorem d_X_init_116 : decode tb_X_init 116 = .ok (.iconst 1, 1) := by decide +kernel
theorem d_X_init_117 : decode tb_X_init 117 = .ok (.putfield 52, 3) := by decide +kernel
theorem d_X_init_120 : decode tb_X_init 120 = .ok (.aload_n 0, 1) := by decide +kernel
theorem d_X_init_121 : decode tb_X_init 121 = .ok (.aload 4, 2) := by decide +kernel
theorem d_X_init_123 : decode tb_X_init 123 = .ok (.invokevirtual 58, 3) := by decide +kernel
theorem d_X_init_126 : decode tb_X_init 126 = .ok (.return_, 1) := by decide +kernel
theorem d_X_link_0 : decode tb_X_link 0 = .ok (.iload_n 1, 1) := by decide +kernel
theorem d_X_link_1 : decode tb_X_link 1 = .ok (.invokestatic 62, 3) := by decide +kernel
theorem d_X_link_4 : decode tb_X_link 4 = .ok (.ifCond .eq 25, 3) := by decide +kernel
theorem d_X_link_7 : decode tb_X_link 7 = .ok (.iload_n 2, 1) := by decide +kernel
theorem d_X_link_8 : decode tb_X_link 8 = .ok (.invokestatic 62, 3) := by decide +kernel
theorem d_X_link_11 : decode tb_X_link 11 = .ok (.ifCond .eq 18, 3) := by decide +kernel
theorem d_X_link_14 : decode tb_X_link 14 = .ok (.iload_n 1, 1) := by decide +kernel
theorem d_X_link_15 : decode tb_X_link 15 = .ok (.iload_n 2, 1) := by decide +kernel
theorem d_X_link_16 : decode tb_X_link 16 = .ok (.if_icmp .eq 13, 3) := by decide +kernel
theorem d_X_link_19 : decode tb_X_link 19 = .ok (.iload_n 3, 1) := by decide +kernel
theorem d_X_link_20 : decode tb_X_link 20 = .ok (.ifCond .lt 9, 3) := by decide +kernel
theorem d_X_link_23 : decode tb_X_link 23 = .ok (.iload_n 3, 1) := by decide +kernel
theorem d_X_link_24 : decode tb_X_link 24 = .ok (.bipush 9, 2) := by decide +kernel
theorem d_X_link_26 : decode tb_X_link 26 = .ok (.if_icmp .le 5, 3) := by decide +kernel
theorem d_X_link_29 : decode tb_X_link 29 = .ok (.iconst 0, 1) := by decide +kernel
theorem d_X_link_30 : decode tb_X_link 30 = .ok (.ireturn, 1) := by decide +kernel
theorem d_X_link_31 : decode tb_X_link 31 = .ok (.aload_n 0, 1) := by decide +kernel
theorem d_X_link_32 : decode tb_X_link 32 = .ok (.getfield 17, 3) := by decide +kernel
theorem d_X_link_35 : decode tb_X_link 35 = .ok (.iload_n 1, 1) := by decide +kernel
theorem d_X_link_36 : decode tb_X_link 36 = .ok (.aaload, 1) := by decide +kernel
theorem d_X_link_37 : decode tb_X_link 37 = .ok (.iload_n 2, 1) := by decide +kernel
theorem d_X_link_38 : decode tb_X_link 38 = .ok (.iload_n 3, 1) := by decide +kernel
theorem d_X_link_39 : decode tb_X_link 39 = .ok (.iastore, 1) := by decide +kernel
theorem d_X_link_40 : decode tb_X_link 40 = .ok (.aload_n 0, 1) := by decide +kernel
theorem d_X_link_41 : decode tb_X_link 41 = .ok (.getfield 17, 3) := by decide +kernel
theorem d_X_link_44 : decode tb_X_link 44 = .ok (.iload_n 2, 1) := by decide +kernel
theorem d_X_link_45 : decode tb_X_link 45 = .ok (.aaload, 1) := by decide +kernel
theorem d_X_link_46 : decode tb_X_link 46 = .ok (.iload_n 1, 1) := by decide +kernel
theorem d_X_link_47 : decode tb_X_link 47 = .ok (.iload_n 3, 1) := by decide +kernel
theorem d_X_link_48 : decode tb_X_link 48 = .ok (.iastore, 1) := by decide +kernel
theorem d_X_link_49 : decode tb_X_link 49 = .ok (.iconst 1, 1) := by decide +kernel
theorem d_X_link_50 : decode tb_X_link 50 = .ok (.ireturn, 1) := by decide +kernel
theorem d_X_kill_0 : decode tb_X_kill 0 = .ok (.iload_n 1, 1) := by decide +kernel
theorem d_X_kill_1 : decode tb_X_kill 1 = .ok (.invokestatic 62, 3) := by decide +kernel
theorem d_X_kill_4 : decode tb_X_kill 4 = .ok (.ifCond .eq 19, 3) := by decide +kernel
theorem d_X_kill_7 : decode tb_X_kill 7 = .ok (.iload_n 1, 1) := by decide +kernel
theorem d_X_kill_8 : decode tb_X_kill 8 = .ok (.ifCond .eq 15, 3) := by decide +kernel
theorem d_X_kill_11 : decode tb_X_kill 11 = .ok (.aload_n 0, 1) := by decide +kernel
theorem d_X_kill_12 : decode tb_X_kill 12 = .ok (.getfield 11, 3) := by decide +kernel
theorem d_X_kill_15 : decode tb_X_kill 15 = .ok (.iload_n 1, 1) := by decide +kernel
theorem d_X_kill_16 : decode tb_X_kill 16 = .ok (.aaload, 1) := by decide +kernel
theorem d_X_kill_17 : decode tb_X_kill 17 = .ok (.getfield 66, 3) := by decide +kernel
theorem d_X_kill_20 : decode tb_X_kill 20 = .ok (.ifCond .ne 5, 3) := by decide +kernel
theorem d_X_kill_23 : decode tb_X_kill 23 = .ok (.iconst 0, 1) := by decide +kernel
theorem d_X_kill_24 : decode tb_X_kill 24 = .ok (.ireturn, 1) := by decide +kernel
theorem d_X_kill_25 : decode tb_X_kill 25 = .ok (.aload_n 0, 1) := by decide +kernel
theorem d_X_kill_26 : decode tb_X_kill 26 = .ok (.getfield 11, 3) := by decide +kernel
theorem d_X_kill_29 : decode tb_X_kill 29 = .ok (.iload_n 1, 1) := by decide +kernel
theorem d_X_kill_30 : decode tb_X_kill 30 = .ok (.aaload, 1) := by decide +kernel
theorem d_X_kill_31 : decode tb_X_kill 31 = .ok (.iconst 0, 1) := by decide +kernel
theorem d_X_kill_32 : decode tb_X_kill 32 = .ok (.putfield 66, 3) := by decide +kernel
theorem d_X_kill_35 : decode tb_X_kill 35 = .ok (.aload_n 0, 1) := by decide +kernel
theorem d_X_kill_36 : decode tb_X_kill 36 = .ok (.getfield 11, 3) := by decide +kernel
theorem d_X_kill_39 : decode tb_X_kill 39 = .ok (.iload_n 1, 1) := by decide +kernel
theorem d_X_kill_40 : decode tb_X_kill 40 = .ok (.aaload, 1) := by decide +kernel
theorem d_X_kill_41 : decode tb_X_kill 41 = .ok (.getfield 69, 3) := by decide +kernel
theorem d_X_kill_44 : decode tb_X_kill 44 = .ok (.astore_n 2, 1) := by decide +kernel
theorem d_X_kill_45 : decode tb_X_kill 45 = .ok (.aload_n 2, 1) := by decide +kernel
theorem d_X_kill_46 : decode tb_X_kill 46 = .ok (.iconst 0, 1) := by decide +kernel
theorem d_X_kill_47 : decode tb_X_kill 47 = .ok (.putfield 73, 3) := by decide +kernel
theorem d_X_kill_50 : decode tb_X_kill 50 = .ok (.aload_n 2, 1) := by decide +kernel
theorem d_X_kill_51 : decode tb_X_kill 51 = .ok (.iconst (-1), 1) := by decide +kernel
theorem d_X_kill_52 : decode tb_X_kill 52 = .ok (.putfield 78, 3) := by decide +kernel
theorem d_X_kill_55 : decode tb_X_kill 55 = .ok (.aload_n 2, 1) := by decide +kernel
theorem d_X_kill_56 : decode tb_X_kill 56 = .ok (.iconst 0, 1) := by decide +kernel
theorem d_X_kill_57 : decode tb_X_kill 57 = .ok (.putfield 81, 3) := by decide +kernel
theorem d_X_kill_60 : decode tb_X_kill 60 = .ok (.iconst 1, 1) := by decide +kernel
theorem d_X_kill_61 : decode tb_X_kill 61 = .ok (.ireturn, 1) := by decide +kernel
theorem d_X_repair_0 : decode tb_X_repair 0 = .ok (.aload_n 0, 1) := by decide +kernel
theorem d_X_repair_1 : decode tb_X_repair 1 = .ok (.getfield 11, 3) := by decide +kernel
theorem d_X_repair_4 : decode tb_X_repair 4 = .ok (.iconst 0, 1) := by decide +kernel
theorem d_X_repair_5 : decode tb_X_repair 5 = .ok (.aaload, 1) := by decide +kernel
theorem d_X_repair_6 : decode tb_X_repair 6 = .ok (.astore_n 1, 1) := by decide +kernel
theorem d_X_repair_7 : decode tb_X_repair 7 = .ok (.aload_n 1, 1) := by decide +kernel
theorem d_X_repair_8 : decode tb_X_repair 8 = .ok (.dup, 1) := by decide +kernel
theorem d_X_repair_9 : decode tb_X_repair 9 = .ok (.getfield 42, 3) := by decide +kernel
theorem d_X_repair_12 : decode tb_X_repair 12 = .ok (.iconst 1, 1) := by decide +kernel
theorem d_X_repair_13 : decode tb_X_repair 13 = .ok (.iadd, 1) := by decide +kernel
theorem d_X_repair_14 : decode tb_X_repair 14 = .ok (.putfield 42, 3) := by decide +kernel
theorem d_X_repair_17 : decode tb_X_repair 17 = .ok (.aload_n 0, 1) := by decide +kernel
theorem d_X_repair_18 : decode tb_X_repair 18 = .ok (.aload_n 1, 1) := by decide +kernel
theorem d_X_repair_19 : decode tb_X_repair 19 = .ok (.invokevirtual 58, 3) := by decide +kernel
theorem d_X_repair_22 : decode tb_X_repair 22 = .ok (.aload_n 1, 1) := by decide +kernel
theorem d_X_repair_23 : decode tb_X_repair 23 = .ok (.getfield 42, 3) := by decide +kernel
theorem d_X_repair_26 : decode tb_X_repair 26 = .ok (.ireturn, 1) := by decide +kernel
theorem d_X_send_0 : decode tb_X_send 0 = .ok (.iload_n 1, 1) := by decide +kernel
theorem d_X_send_1 : decode tb_X_send 1 = .ok (.invokestatic 62, 3) := by decide +kernel
theorem d_X_send_4 : decode tb_X_send 4 = .ok (.ifCond .eq 27, 3) := by decide +kernel
theorem d_X_send_7 : decode tb_X_send 7 = .ok (.iload_n 2, 1) := by decide +kernel
theorem d_X_send_8 : decode tb_X_send 8 = .ok (.invokestatic 62, 3) := by decide +kernel
theorem d_X_send_11 : decode tb_X_send 11 = .ok (.ifCond .eq 20, 3) := by decide +kernel
theorem d_X_send_14 : decode tb_X_send 14 = .ok (.iload_n 1, 1) := by decide +kernel
theorem d_X_send_15 : decode tb_X_send 15 = .ok (.iload_n 2, 1) := by decide +kernel
theorem d_X_send_16 : decode tb_X_send 16 = .ok (.if_icmp .eq 15, 3) := by decide +kernel
theorem d_X_send_19 : decode tb_X_send 19 = .ok (.aload_n 0, 1) := by decide +kernel
theorem d_X_send_20 : decode tb_X_send 20 = .ok (.getfield 11, 3) := by decide +kernel
theorem d_X_send_23 : decode tb_X_send 23 = .ok (.iload_n 1, 1) := by decide +kernel
theorem d_X_send_24 : decode tb_X_send 24 = .ok (.aaload, 1) := by decide +kernel
theorem d_X_send_25 : decode tb_X_send 25 = .ok (.getfield 66, 3) := by decide +kernel
theorem d_X_send_28 : decode tb_X_send 28 = .ok (.ifCond .ne 5, 3) := by decide +kernel
theorem d_X_send_31 : decode tb_X_send 31 = .ok (.iconst (-1), 1) := by decide +kernel
theorem d_X_send_32 : decode tb_X_send 32 = .ok (.ireturn, 1) := by decide +kernel
theorem d_X_send_33 : decode tb_X_send 33 = .ok (.iload_n 3, 1) := by decide +kernel
theorem d_X_send_34 : decode tb_X_send 34 = .ok (.iconst 1, 1) := by decide +kernel
theorem d_X_send_35 : decode tb_X_send 35 = .ok (.if_icmp .lt 22, 3) := by decide +kernel
theorem d_X_send_38 : decode tb_X_send 38 = .ok (.iload_n 3, 1) := by decide +kernel
theorem d_X_send_39 : decode tb_X_send 39 = .ok (.bipush 15, 2) := by decide +kernel
theorem d_X_send_41 : decode tb_X_send 41 = .ok (.if_icmp .gt 16, 3) := by decide +kernel
theorem d_X_send_44 : decode tb_X_send 44 = .ok (.iload 4, 2) := by decide +kernel
theorem d_X_send_46 : decode tb_X_send 46 = .ok (.ifCond .lt 11, 3) := by decide +kernel
theorem d_X_send_49 : decode tb_X_send 49 = .ok (.iload 4, 2) := by decide +kernel
theorem d_X_send_51 : decode tb_X_send 51 = .ok (.sipush 999, 3) := by decide +kernel
theorem d_X_send_54 : decode tb_X_send 54 = .ok (.if_icmp .le 5, 3) := by decide +kernel
theorem d_X_send_57 : decode tb_X_send 57 = .ok (.iconst (-1), 1) := by decide +kernel
theorem d_X_send_58 : decode tb_X_send 58 = .ok (.ireturn, 1) := by decide +kernel
theorem d_X_send_59 : decode tb_X_send 59 = .ok (.aload_n 0, 1) := by decide +kernel
theorem d_X_send_60 : decode tb_X_send 60 = .ok (.dup, 1) := by decide +kernel
theorem d_X_send_61 : decode tb_X_send 61 = .ok (.getfield 84, 3) := by decide +kernel
theorem d_X_send_64 : decode tb_X_send 64 = .ok (.iconst 1, 1) := by decide +kernel
theorem d_X_send_65 : decode tb_X_send 65 = .ok (.iadd, 1) := by decide +kernel
theorem d_X_send_66 : decode tb_X_send 66 = .ok (.putfield 84, 3) := by decide +kernel
theorem d_X_send_69 : decode tb_X_send 69 = .ok (.aload_n 0, 1) := by decide +kernel
theorem d_X_send_70 : decode tb_X_send 70 = .ok (.aload_n 0, 1) := by decide +kernel
theorem d_X_send_71 : decode tb_X_send 71 = .ok (.getfield 11, 3) := by decide +kernel
theorem d_X_send_74 : decode tb_X_send 74 = .ok (.iload_n 1, 1) := by decide +kernel
theorem d_X_send_75 : decode tb_X_send 75 = .ok (.aaload, 1) := by decide +kernel
theorem d_X_send_76 : decode tb_X_send 76 = .ok (.iload_n 1, 1) := by decide +kernel
theorem d_X_send_77 : decode tb_X_send 77 = .ok (.iload_n 2, 1) := by decide +kernel
theorem d_X_send_78 : decode tb_X_send 78 = .ok (.iload_n 3, 1) := by decide +kernel
theorem d_X_send_79 : decode tb_X_send 79 = .ok (.iload 4, 2) := by decide +kernel
theorem d_X_send_81 : decode tb_X_send 81 = .ok (.iconst 0, 1) := by decide +kernel
theorem d_X_send_82 : decode tb_X_send 82 = .ok (.invokevirtual 87, 3) := by decide +kernel
theorem d_X_send_85 : decode tb_X_send 85 = .ok (.aload_n 0, 1) := by decide +kernel
theorem d_X_send_86 : decode tb_X_send 86 = .ok (.getfield 84, 3) := by decide +kernel
theorem d_X_send_89 : decode tb_X_send 89 = .ok (.ireturn, 1) := by decide +kernel
theorem d_X_tick_0 : decode tb_X_tick 0 = .ok (.iload_n 1, 1) := by decide +kernel
theorem d_X_tick_1 : decode tb_X_tick 1 = .ok (.ifCond .lt 9, 3) := by decide +kernel
theorem d_X_tick_4 : decode tb_X_tick 4 = .ok (.iload_n 1, 1) := by decide +kernel
theorem d_X_tick_5 : decode tb_X_tick 5 = .ok (.bipush 100, 2) := by decide +kernel
theorem d_X_tick_7 : decode tb_X_tick 7 = .ok (.if_icmp .le 5, 3) := by decide +kernel
theorem d_X_tick_10 : decode tb_X_tick 10 = .ok (.iconst (-1), 1) := by decide +kernel
theorem d_X_tick_11 : decode tb_X_tick 11 = .ok (.ireturn, 1) := by decide +kernel
theorem d_X_tick_12 : decode tb_X_tick 12 = .ok (.iconst 0, 1) := by decide +kernel
theorem d_X_tick_13 : decode tb_X_tick 13 = .ok (.istore_n 2, 1) := by decide +kernel
theorem d_X_tick_14 : decode tb_X_tick 14 = .ok (.iload_n 2, 1) := by decide +kernel
theorem d_X_tick_15 : decode tb_X_tick 15 = .ok (.iload_n 1, 1) := by decide +kernel
theorem d_X_tick_16 : decode tb_X_tick 16 = .ok (.if_icmp .ge 47, 3) := by decide +kernel
theorem d_X_tick_19 : decode tb_X_tick 19 = .ok (.aload_n 0, 1) := by decide +kernel
theorem d_X_tick_20 : decode tb_X_tick 20 = .ok (.dup, 1) := by decide +kernel
theorem d_X_tick_21 : decode tb_X_tick 21 = .ok (.getfield 91, 3) := by decide +kernel
theorem d_X_tick_24 : decode tb_X_tick 24 = .ok (.iconst 1, 1) := by decide +kernel
theorem d_X_tick_25 : decode tb_X_tick 25 = .ok (.iadd, 1) := by decide +kernel
theorem d_X_tick_26 : decode tb_X_tick 26 = .ok (.putfield 91, 3) := by decide +kernel
theorem d_X_tick_29 : decode tb_X_tick 29 = .ok (.aload_n 0, 1) := by decide +kernel
theorem d_X_tick_30 : decode tb_X_tick 30 = .ok (.invokevirtual 94, 3) := by decide +kernel
theorem d_X_tick_33 : decode tb_X_tick 33 = .ok (.aload_n 0, 1) := by decide +kernel
theorem d_X_tick_34 : decode tb_X_tick 34 = .ok (.invokevirtual 97, 3) := by decide +kernel
theorem d_X_tick_37 : decode tb_X_tick 37 = .ok (.aload_n 0, 1) := by decide +kernel
theorem d_X_tick_38 : decode tb_X_tick 38 = .ok (.invokevirtual 100, 3) := by decide +kernel
theorem d_X_tick_41 : decode tb_X_tick 41 = .ok (.aload_n 0, 1) := by decide +kernel
theorem d_X_tick_42 : decode tb_X_tick 42 = .ok (.invokevirtual 103, 3) := by decide +kernel
theorem d_X_tick_45 : decode tb_X_tick 45 = .ok (.aload_n 0, 1) := by decide +kernel
theorem d_X_tick_46 : decode tb_X_tick 46 = .ok (.invokevirtual 106, 3) := by decide +kernel
theorem d_X_tick_49 : decode tb_X_tick 49 = .ok (.aload_n 0, 1) := by decide +kernel
theorem d_X_tick_50 : decode tb_X_tick 50 = .ok (.invokevirtual 109, 3) := by decide +kernel
theorem d_X_tick_53 : decode tb_X_tick 53 = .ok (.aload_n 0, 1) := by decide +kernel
theorem d_X_tick_54 : decode tb_X_tick 54 = .ok (.invokevirtual 112, 3) := by decide +kernel
theorem d_X_tick_57 : decode tb_X_tick 57 = .ok (.iinc 2 1, 3) := by decide +kernel
theorem d_X_tick_60 : decode tb_X_tick 60 = .ok (.goto (-46), 3) := by decide +kernel
theorem d_X_tick_63 : decode tb_X_tick 63 = .ok (.aload_n 0, 1) := by decide +kernel
theorem d_X_tick_64 : decode tb_X_tick 64 = .ok (.getfield 91, 3) := by decide +kernel
theorem d_X_tick_67 : decode tb_X_tick 67 = .ok (.ireturn, 1) := by decide +kernel
theorem d_X_node_0 : decode tb_X_node 0 = .ok (.iload_n 1, 1) := by decide +kernel
theorem d_X_node_1 : decode tb_X_node 1 = .ok (.invokestatic 62, 3) := by decide +kernel
theorem d_X_node_4 : decode tb_X_node 4 = .ok (.ifCond .ne 5, 3) := by decide +kernel
theorem d_X_node_7 : decode tb_X_node 7 = .ok (.iconst (-1), 1) := by decide +kernel
theorem d_X_node_8 : decode tb_X_node 8 = .ok (.ireturn, 1) := by decide +kernel
theorem d_X_node_9 : decode tb_X_node 9 = .ok (.aload_n 0, 1) := by decide +kernel
theorem d_X_node_10 : decode tb_X_node 10 = .ok (.getfield 11, 3) := by decide +kernel
theorem d_X_node_13 : decode tb_X_node 13 = .ok (.iload_n 1, 1) := by decide +kernel
theorem d_X_node_14 : decode tb_X_node 14 = .ok (.aaload, 1) := by decide +kernel
theorem d_X_node_15 : decode tb_X_node 15 = .ok (.astore_n 3, 1) := by decide +kernel
theorem d_X_node_16 : decode tb_X_node 16 = .ok (.aload_n 3, 1) := by decide +kernel
theorem d_X_node_17 : decode tb_X_node 17 = .ok (.getfield 69, 3) := by decide +kernel
theorem d_X_node_20 : decode tb_X_node 20 = .ok (.astore 4, 2) := by decide +kernel
theorem d_X_node_22 : decode tb_X_node 22 = .ok (.aload 4, 2) := by decide +kernel
theorem d_X_node_24 : decode tb_X_node 24 = .ok (.getfield 73, 3) := by decide +kernel
theorem d_X_node_27 : decode tb_X_node 27 = .ok (.ifCond .le 7, 3) := by decide +kernel
theorem d_X_node_30 : decode tb_X_node 30 = .ok (.iconst 1, 1) := by decide +kernel
theorem d_X_node_31 : decode tb_X_node 31 = .ok (.goto 4, 3) := by decide +kernel
theorem d_X_node_34 : decode tb_X_node 34 = .ok (.iconst 0, 1) := by decide +kernel
theorem d_X_node_35 : decode tb_X_node 35 = .ok (.istore 5, 2) := by decide +kernel
theorem d_X_node_37 : decode tb_X_node 37 = .ok (.iload_n 2, 1) := by decide +kernel
theorem d_X_node_38 : decode tb_X_node 38 = .ok (.tableswitch 175 0 12 #[66, 71, 78, 83, 91, 99, 107, 113, 128, 143, 158, 163, 168], 66) := by decide +kernel
theorem d_X_node_104 : decode tb_X_node 104 = .ok (.aload_n 3, 1) := by decide +kernel
theorem d_X_node_105 : decode tb_X_node 105 = .ok (.getfield 45, 3) := by decide +kernel
theorem d_X_node_108 : decode tb_X_node 108 = .ok (.ireturn, 1) := by decide +kernel
theorem d_X_node_109 : decode tb_X_node 109 = .ok (.aload_n 3, 1) := by decide +kernel
theorem d_X_node_110 : decode tb_X_node 110 = .ok (.getfield 115, 3) := by decide +kernel
theorem d_X_node_113 : decode tb_X_node 113 = .ok (.iconst 1, 1) := by decide +kernel
theorem d_X_node_114 : decode tb_X_node 114 = .ok (.iadd, 1) := by decide +kernel
theorem d_X_node_115 : decode tb_X_node 115 = .ok (.ireturn, 1) := by decide +kernel
theorem d_X_node_116 : decode tb_X_node 116 = .ok (.aload_n 3, 1) := by decide +kernel
theorem d_X_node_117 : decode tb_X_node 117 = .ok (.getfield 42, 3) := by decide +kernel
theorem d_X_node_120 : decode tb_X_node 120 = .ok (.ireturn, 1) := by decide +kernel
theorem d_X_node_121 : decode tb_X_node 121 = .ok (.aload_n 3, 1) := by decide +kernel
theorem d_X_node_122 : decode tb_X_node 122 = .ok (.getfield 48, 3) := by decide +kernel
theorem d_X_node_125 : decode tb_X_node 125 = .ok (.getfield 118, 3) := by decide +kernel
theorem d_X_node_128 : decode tb_X_node 128 = .ok (.ireturn, 1) := by decide +kernel
theorem d_X_node_129 : decode tb_X_node 129 = .ok (.aload_n 3, 1) := by decide +kernel
theorem d_X_node_130 : decode tb_X_node 130 = .ok (.getfield 48, 3) := by decide +kernel
theorem d_X_node_133 : decode tb_X_node 133 = .ok (.getfield 121, 3) := by decide +kernel
theorem d_X_node_136 : decode tb_X_node 136 = .ok (.ireturn, 1) := by decide +kernel
theorem d_X_node_137 : decode tb_X_node 137 = .ok (.aload_n 3, 1) := by decide +kernel
theorem d_X_node_138 : decode tb_X_node 138 = .ok (.getfield 48, 3) := by decide +kernel
theorem d_X_node_141 : decode tb_X_node 141 = .ok (.getfield 124, 3) := by decide +kernel
theorem d_X_node_144 : decode tb_X_node 144 = .ok (.ireturn, 1) := by decide +kernel
theorem d_X_node_145 : decode tb_X_node 145 = .ok (.aload 4, 2) := by decide +kernel
theorem d_X_node_147 : decode tb_X_node 147 = .ok (.getfield 73, 3) := by decide +kernel
theorem d_X_node_150 : decode tb_X_node 150 = .ok (.ireturn, 1) := by decide +kernel
theorem d_X_node_151 : decode tb_X_node 151 = .ok (.iload 5, 2) := by decide +kernel
theorem d_X_node_153 : decode tb_X_node 153 = .ok (.ifCond .eq 11, 3) := by decide +kernel
theorem d_X_node_156 : decode tb_X_node 156 = .ok (.aload 4, 2) := by decide +kernel
theorem d_X_node_158 : decode tb_X_node 158 = .ok (.getfield 127, 3) := by decide +kernel
theorem d_X_node_161 : decode tb_X_node 161 = .ok (.goto 4, 3) := by decide +kernel
theorem d_X_node_164 : decode tb_X_node 164 = .ok (.iconst 0, 1) := by decide +kernel
theorem d_X_node_165 : decode tb_X_node 165 = .ok (.ireturn, 1) := by decide +kernel
theorem d_X_node_166 : decode tb_X_node 166 = .ok (.iload 5, 2) := by decide +kernel
theorem d_X_node_168 : decode tb_X_node 168 = .ok (.ifCond .eq 11, 3) := by decide +kernel
theorem d_X_node_171 : decode tb_X_node 171 = .ok (.aload 4, 2) := by decide +kernel
theorem d_X_node_173 : decode tb_X_node 173 = .ok (.getfield 130, 3) := by decide +kernel
theorem d_X_node_176 : decode tb_X_node 176 = .ok (.goto 4, 3) := by decide +kernel
theorem d_X_node_179 : decode tb_X_node 179 = .ok (.iconst 0, 1) := by decide +kernel
theorem d_X_node_180 : decode tb_X_node 180 = .ok (.ireturn, 1) := by decide +kernel
theorem d_X_node_181 : decode tb_X_node 181 = .ok (.iload 5, 2) := by decide +kernel
theorem d_X_node_183 : decode tb_X_node 183 = .ok (.ifCond .eq 11, 3) := by decide +kernel
theorem d_X_node_186 : decode tb_X_node 186 = .ok (.aload 4, 2) := by decide +kernel
theorem d_X_node_188 : decode tb_X_node 188 = .ok (.getfield 133, 3) := by decide +kernel
theorem d_X_node_191 : decode tb_X_node 191 = .ok (.goto 4, 3) := by decide +kernel
theorem d_X_node_194 : decode tb_X_node 194 = .ok (.iconst 0, 1) := by decide +kernel
theorem d_X_node_195 : decode tb_X_node 195 = .ok (.ireturn, 1) := by decide +kernel
theorem d_X_node_196 : decode tb_X_node 196 = .ok (.aload_n 3, 1) := by decide +kernel
theorem d_X_node_197 : decode tb_X_node 197 = .ok (.getfield 136, 3) := by decide +kernel
theorem d_X_node_200 : decode tb_X_node 200 = .ok (.ireturn, 1) := by decide +kernel
theorem d_X_node_201 : decode tb_X_node 201 = .ok (.aload_n 3, 1) := by decide +kernel
theorem d_X_node_202 : decode tb_X_node 202 = .ok (.invokestatic 139, 3) := by decide +kernel
theorem d_X_node_205 : decode tb_X_node 205 = .ok (.ireturn, 1) := by decide +kernel
theorem d_X_node_206 : decode tb_X_node 206 = .ok (.aload_n 3, 1) := by decide +kernel
theorem d_X_node_207 : decode tb_X_node 207 = .ok (.getfield 143, 3) := by decide +kernel
theorem d_X_node_210 : decode tb_X_node 210 = .ok (.iload_n 1, 1) := by decide +kernel
theorem d_X_node_211 : decode tb_X_node 211 = .ok (.iaload, 1) := by decide +kernel
theorem d_X_node_212 : decode tb_X_node 212 = .ok (.ireturn, 1) := by decide +kernel
theorem d_X_node_213 : decode tb_X_node 213 = .ok (.iconst (-1), 1) := by decide +kernel
theorem d_X_node_214 : decode tb_X_node 214 = .ok (.ireturn, 1) := by decide +kernel
theorem d_X_next_0 : decode tb_X_next 0 = .ok (.iload_n 1, 1) := by decide +kernel
theorem d_X_next_1 : decode tb_X_next 1 = .ok (.invokestatic 62, 3) := by decide +kernel
theorem d_X_next_4 : decode tb_X_next 4 = .ok (.ifCond .eq 26, 3) := by decide +kernel
theorem d_X_next_7 : decode tb_X_next 7 = .ok (.iload_n 2, 1) := by decide +kernel
theorem d_X_next_8 : decode tb_X_next 8 = .ok (.invokestatic 62, 3) := by decide +kernel
theorem d_X_next_11 : decode tb_X_next 11 = .ok (.ifCond .eq 19, 3) := by decide +kernel
theorem d_X_next_14 : decode tb_X_next 14 = .ok (.aload_n 0, 1) := by decide +kernel
theorem d_X_next_15 : decode tb_X_next 15 = .ok (.getfield 11, 3) := by decide +kernel
theorem d_X_next_18 : decode tb_X_next 18 = .ok (.iload_n 1, 1) := by decide +kernel
theorem d_X_next_19 : decode tb_X_next 19 = .ok (.aaload, 1) := by decide +kernel
theorem d_X_next_20 : decode tb_X_next 20 = .ok (.getfield 147, 3) := by decide +kernel
theorem d_X_next_23 : decode tb_X_next 23 = .ok (.iload_n 2, 1) := by decide +kernel
theorem d_X_next_24 : decode tb_X_next 24 = .ok (.iaload, 1) := by decide +kernel
theorem d_X_next_25 : decode tb_X_next 25 = .ok (.iconst 1, 1) := by decide +kernel
theorem d_X_next_26 : decode tb_X_next 26 = .ok (.iadd, 1) := by decide +kernel
theorem d_X_next_27 : decode tb_X_next 27 = .ok (.goto 4, 3) := by decide +kernel
theorem d_X_next_30 : decode tb_X_next 30 = .ok (.iconst 0, 1) := by decide +kernel
theorem d_X_next_31 : decode tb_X_next 31 = .ok (.ireturn, 1) := by decide +kernel
theorem d_X_known_0 : decode tb_X_known 0 = .ok (.iload_n 1, 1) := by decide +kernel
theorem d_X_known_1 : decode tb_X_known 1 = .ok (.invokestatic 62, 3) := by decide +kernel
theorem d_X_known_4 : decode tb_X_known 4 = .ok (.ifCond .eq 24, 3) := by decide +kernel
theorem d_X_known_7 : decode tb_X_known 7 = .ok (.iload_n 2, 1) := by decide +kernel
theorem d_X_known_8 : decode tb_X_known 8 = .ok (.invokestatic 62, 3) := by decide +kernel
theorem d_X_known_11 : decode tb_X_known 11 = .ok (.ifCond .eq 17, 3) := by decide +kernel
theorem d_X_known_14 : decode tb_X_known 14 = .ok (.aload_n 0, 1) := by decide +kernel
theorem d_X_known_15 : decode tb_X_known 15 = .ok (.getfield 11, 3) := by decide +kernel
theorem d_X_known_18 : decode tb_X_known 18 = .ok (.iload_n 1, 1) := by decide +kernel
theorem d_X_known_19 : decode tb_X_known 19 = .ok (.aaload, 1) := by decide +kernel
theorem d_X_known_20 : decode tb_X_known 20 = .ok (.getfield 150, 3) := by decide +kernel
theorem d_X_known_23 : decode tb_X_known 23 = .ok (.iload_n 2, 1) := by decide +kernel
theorem d_X_known_24 : decode tb_X_known 24 = .ok (.iaload, 1) := by decide +kernel
theorem d_X_known_25 : decode tb_X_known 25 = .ok (.goto 4, 3) := by decide +kernel
theorem d_X_known_28 : decode tb_X_known 28 = .ok (.iconst 0, 1) := by decide +kernel
theorem d_X_known_29 : decode tb_X_known 29 = .ok (.ireturn, 1) := by decide +kernel
theorem d_X_delivered_0 : decode tb_X_delivered 0 = .ok (.iload_n 1, 1) := by decide +kernel
theorem d_X_delivered_1 : decode tb_X_delivered 1 = .ok (.invokestatic 62, 3) := by decide +kernel
theorem d_X_delivered_4 : decode tb_X_delivered 4 = .ok (.ifCond .ne 5, 3) := by decide +kernel
theorem d_X_delivered_7 : decode tb_X_delivered 7 = .ok (.iconst 0, 1) := by decide +kernel
theorem d_X_delivered_8 : decode tb_X_delivered 8 = .ok (.ireturn, 1) := by decide +kernel
theorem d_X_delivered_9 : decode tb_X_delivered 9 = .ok (.aload_n 0, 1) := by decide +kernel
theorem d_X_delivered_10 : decode tb_X_delivered 10 = .ok (.getfield 11, 3) := by decide +kernel
theorem d_X_delivered_13 : decode tb_X_delivered 13 = .ok (.iload_n 1, 1) := by decide +kernel
theorem d_X_delivered_14 : decode tb_X_delivered 14 = .ok (.aaload, 1) := by decide +kernel
theorem d_X_delivered_15 : decode tb_X_delivered 15 = .ok (.astore_n 3, 1) := by decide +kernel
theorem d_X_delivered_16 : decode tb_X_delivered 16 = .ok (.iload_n 2, 1) := by decide +kernel
theorem d_X_delivered_17 : decode tb_X_delivered 17 = .ok (.iconst (-1), 1) := by decide +kernel
theorem d_X_delivered_18 : decode tb_X_delivered 18 = .ok (.if_icmp .ne 8, 3) := by decide +kernel
theorem d_X_delivered_21 : decode tb_X_delivered 21 = .ok (.aload_n 3, 1) := by decide +kernel
theorem d_X_delivered_22 : decode tb_X_delivered 22 = .ok (.getfield 153, 3) := by decide +kernel
theorem d_X_delivered_25 : decode tb_X_delivered 25 = .ok (.ireturn, 1) := by decide +kernel
theorem d_X_delivered_26 : decode tb_X_delivered 26 = .ok (.iload_n 2, 1) := by decide +kernel
theorem d_X_delivered_27 : decode tb_X_delivered 27 = .ok (.ifCond .lt 17, 3) := by decide +kernel
theorem d_X_delivered_30 : decode tb_X_delivered 30 = .ok (.iload_n 2, 1) := by decide +kernel
theorem d_X_delivered_31 : decode tb_X_delivered 31 = .ok (.bipush 8, 2) := by decide +kernel
theorem d_X_delivered_33 : decode tb_X_delivered 33 = .ok (.if_icmp .ge 11, 3) := by decide +kernel
theorem d_X_delivered_36 : decode tb_X_delivered 36 = .ok (.iload_n 2, 1) := by decide +kernel
theorem d_X_delivered_37 : decode tb_X_delivered 37 = .ok (.aload_n 3, 1) := by decide +kernel
theorem d_X_delivered_38 : decode tb_X_delivered 38 = .ok (.getfield 153, 3) := by decide +kernel
theorem d_X_delivered_41 : decode tb_X_delivered 41 = .ok (.if_icmp .lt 5, 3) := by decide +kernel
theorem d_X_delivered_44 : decode tb_X_delivered 44 = .ok (.iconst 0, 1) := by decide +kernel
theorem d_X_delivered_45 : decode tb_X_delivered 45 = .ok (.ireturn, 1) := by decide +kernel
theorem d_X_delivered_46 : decode tb_X_delivered 46 = .ok (.aload_n 3, 1) := by decide +kernel
theorem d_X_delivered_47 : decode tb_X_delivered 47 = .ok (.getfield 156, 3) := by decide +kernel
theorem d_X_delivered_50 : decode tb_X_delivered 50 = .ok (.aload_n 3, 1) := by decide +kernel
theorem d_X_delivered_51 : decode tb_X_delivered 51 = .ok (.getfield 153, 3) := by decide +kernel
theorem d_X_delivered_54 : decode tb_X_delivered 54 = .ok (.iconst 1, 1) := by decide +kernel
theorem d_X_delivered_55 : decode tb_X_delivered 55 = .ok (.isub, 1) := by decide +kernel
theorem d_X_delivered_56 : decode tb_X_delivered 56 = .ok (.iload_n 2, 1) := by decide +kernel
theorem d_X_delivered_57 : decode tb_X_delivered 57 = .ok (.isub, 1) := by decide +kernel
theorem d_X_delivered_58 : decode tb_X_delivered 58 = .ok (.bipush 8, 2) := by decide +kernel
theorem d_X_delivered_60 : decode tb_X_delivered 60 = .ok (.irem, 1) := by decide +kernel
theorem d_X_delivered_61 : decode tb_X_delivered 61 = .ok (.iaload, 1) := by decide +kernel
theorem d_X_delivered_62 : decode tb_X_delivered 62 = .ok (.ireturn, 1) := by decide +kernel
theorem d_X_count_0 : decode tb_X_count 0 = .ok (.iload_n 1, 1) := by decide +kernel
theorem d_X_count_1 : decode tb_X_count 1 = .ok (.tableswitch 42 0 2 #[27, 32, 37], 27) := by decide +kernel
theorem d_X_count_28 : decode tb_X_count 28 = .ok (.aload_n 0, 1) := by decide +kernel
theorem d_X_count_29 : decode tb_X_count 29 = .ok (.getfield 159, 3) := by decide +kernel
theorem d_X_count_32 : decode tb_X_count 32 = .ok (.ireturn, 1) := by decide +kernel
theorem d_X_count_33 : decode tb_X_count 33 = .ok (.aload_n 0, 1) := by decide +kernel
theorem d_X_count_34 : decode tb_X_count 34 = .ok (.getfield 162, 3) := by decide +kernel
theorem d_X_count_37 : decode tb_X_count 37 = .ok (.ireturn, 1) := by decide +kernel
theorem d_X_count_38 : decode tb_X_count 38 = .ok (.aload_n 0, 1) := by decide +kernel
theorem d_X_count_39 : decode tb_X_count 39 = .ok (.getfield 165, 3) := by decide +kernel
theorem d_X_count_42 : decode tb_X_count 42 = .ok (.ireturn, 1) := by decide +kernel
theorem d_X_count_43 : decode tb_X_count 43 = .ok (.iconst 0, 1) := by decide +kernel
theorem d_X_count_44 : decode tb_X_count 44 = .ok (.ireturn, 1) := by decide +kernel
theorem d_X_isNode_0 : decode tb_X_isNode 0 = .ok (.iload_n 0, 1) := by decide +kernel
theorem d_X_isNode_1 : decode tb_X_isNode 1 = .ok (.ifCond .lt 13, 3) := by decide +kernel
theorem d_X_isNode_4 : decode tb_X_isNode 4 = .ok (.iload_n 0, 1) := by decide +kernel
theorem d_X_isNode_5 : decode tb_X_isNode 5 = .ok (.bipush 7, 2) := by decide +kernel
theorem d_X_isNode_7 : decode tb_X_isNode 7 = .ok (.if_icmp .ge 7, 3) := by decide +kernel
theorem d_X_isNode_10 : decode tb_X_isNode 10 = .ok (.iconst 1, 1) := by decide +kernel
theorem d_X_isNode_11 : decode tb_X_isNode 11 = .ok (.goto 4, 3) := by decide +kernel
theorem d_X_isNode_14 : decode tb_X_isNode 14 = .ok (.iconst 0, 1) := by decide +kernel
theorem d_X_isNode_15 : decode tb_X_isNode 15 = .ok (.ireturn, 1) := by decide +kernel
theorem d_X_condition_0 : decode tb_X_condition 0 = .ok (.aload_n 0, 1) := by decide +kernel
theorem d_X_condition_1 : decode tb_X_condition 1 = .ok (.getfield 66, 3) := by decide +kernel
theorem d_X_condition_4 : decode tb_X_condition 4 = .ok (.ifCond .ne 5, 3) := by decide +kernel
theorem d_X_condition_7 : decode tb_X_condition 7 = .ok (.iconst 1, 1) := by decide +kernel
theorem d_X_condition_8 : decode tb_X_condition 8 = .ok (.ireturn, 1) := by decide +kernel
theorem d_X_condition_9 : decode tb_X_condition 9 = .ok (.aload_n 0, 1) := by decide +kernel
theorem d_X_condition_10 : decode tb_X_condition 10 = .ok (.getfield 69, 3) := by decide +kernel
theorem d_X_condition_13 : decode tb_X_condition 13 = .ok (.getfield 81, 3) := by decide +kernel
theorem d_X_condition_16 : decode tb_X_condition 16 = .ok (.ifCond .eq 5, 3) := by decide +kernel
theorem d_X_condition_19 : decode tb_X_condition 19 = .ok (.iconst 2, 1) := by decide +kernel
theorem d_X_condition_20 : decode tb_X_condition 20 = .ok (.ireturn, 1) := by decide +kernel
theorem d_X_condition_21 : decode tb_X_condition 21 = .ok (.aload_n 0, 1) := by decide +kernel
theorem d_X_condition_22 : decode tb_X_condition 22 = .ok (.getfield 69, 3) := by decide +kernel
theorem d_X_condition_25 : decode tb_X_condition 25 = .ok (.getfield 78, 3) := by decide +kernel
theorem d_X_condition_28 : decode tb_X_condition 28 = .ok (.iconst (-1), 1) := by decide +kernel
theorem d_X_condition_29 : decode tb_X_condition 29 = .ok (.if_icmp .eq 7, 3) := by decide +kernel
theorem d_X_condition_32 : decode tb_X_condition 32 = .ok (.iconst 3, 1) := by decide +kernel
theorem d_X_condition_33 : decode tb_X_condition 33 = .ok (.goto 4, 3) := by decide +kernel
theorem d_X_condition_36 : decode tb_X_condition 36 = .ok (.iconst 0, 1) := by decide +kernel
theorem d_X_condition_37 : decode tb_X_condition 37 = .ok (.ireturn, 1) := by decide +kernel
theorem d_X_draw_0 : decode tb_X_draw 0 = .ok (.aload_n 0, 1) := by decide +kernel
theorem d_X_draw_1 : decode tb_X_draw 1 = .ok (.aload_n 0, 1) := by decide +kernel
theorem d_X_draw_2 : decode tb_X_draw 2 = .ok (.getfield 20, 3) := by decide +kernel
theorem d_X_draw_5 : decode tb_X_draw 5 = .ok (.ldc 168, 2) := by decide +kernel
theorem d_X_draw_7 : decode tb_X_draw 7 = .ok (.imul, 1) := by decide +kernel
theorem d_X_draw_8 : decode tb_X_draw 8 = .ok (.sipush 12345, 3) := by decide +kernel
theorem d_X_draw_11 : decode tb_X_draw 11 = .ok (.iadd, 1) := by decide +kernel
theorem d_X_draw_12 : decode tb_X_draw 12 = .ok (.putfield 20, 3) := by decide +kernel
theorem d_X_draw_15 : decode tb_X_draw 15 = .ok (.iload_n 1, 1) := by decide +kernel
theorem d_X_draw_16 : decode tb_X_draw 16 = .ok (.ifCond .le 15, 3) := by decide +kernel
theorem d_X_draw_19 : decode tb_X_draw 19 = .ok (.aload_n 0, 1) := by decide +kernel
theorem d_X_draw_20 : decode tb_X_draw 20 = .ok (.getfield 20, 3) := by decide +kernel
theorem d_X_draw_23 : decode tb_X_draw 23 = .ok (.bipush 16, 2) := by decide +kernel
theorem d_X_draw_25 : decode tb_X_draw 25 = .ok (.iushr, 1) := by decide +kernel
theorem d_X_draw_26 : decode tb_X_draw 26 = .ok (.iload_n 1, 1) := by decide +kernel
theorem d_X_draw_27 : decode tb_X_draw 27 = .ok (.irem, 1) := by decide +kernel
theorem d_X_draw_28 : decode tb_X_draw 28 = .ok (.goto 4, 3) := by decide +kernel
theorem d_X_draw_31 : decode tb_X_draw 31 = .ok (.iconst 0, 1) := by decide +kernel
theorem d_X_draw_32 : decode tb_X_draw 32 = .ok (.ireturn, 1) := by decide +kernel
theorem d_X_enqueue_0 : decode tb_X_enqueue 0 = .ok (.aload_n 1, 1) := by decide +kernel
theorem d_X_enqueue_1 : decode tb_X_enqueue 1 = .ok (.getfield 69, 3) := by decide +kernel
theorem d_X_enqueue_4 : decode tb_X_enqueue 4 = .ok (.astore 4, 2) := by decide +kernel
theorem d_X_enqueue_6 : decode tb_X_enqueue 6 = .ok (.aload 4, 2) := by decide +kernel
theorem d_X_enqueue_8 : decode tb_X_enqueue 8 = .ok (.getfield 73, 3) := by decide +kernel
theorem d_X_enqueue_11 : decode tb_X_enqueue 11 = .ok (.iconst 4, 1) := by decide +kernel
theorem d_X_enqueue_12 : decode tb_X_enqueue 12 = .ok (.if_icmp .lt 5, 3) := by decide +kernel
theorem d_X_enqueue_15 : decode tb_X_enqueue 15 = .ok (.aconst_null, 1) := by decide +kernel
theorem d_X_enqueue_16 : decode tb_X_enqueue 16 = .ok (.areturn, 1) := by decide +kernel
theorem d_X_enqueue_17 : decode tb_X_enqueue 17 = .ok (.aload 4, 2) := by decide +kernel
theorem d_X_enqueue_19 : decode tb_X_enqueue 19 = .ok (.getfield 169, 3) := by decide +kernel
theorem d_X_enqueue_22 : decode tb_X_enqueue 22 = .ok (.aload 4, 2) := by decide +kernel
theorem d_X_enqueue_24 : decode tb_X_enqueue 24 = .ok (.getfield 73, 3) := by decide +kernel
theorem d_X_enqueue_27 : decode tb_X_enqueue 27 = .ok (.aaload, 1) := by decide +kernel
theorem d_X_enqueue_28 : decode tb_X_enqueue 28 = .ok (.astore 5, 2) := by decide +kernel
theorem d_X_enqueue_30 : decode tb_X_enqueue 30 = .ok (.aload 4, 2) := by decide +kernel
theorem d_X_enqueue_32 : decode tb_X_enqueue 32 = .ok (.dup, 1) := by decide +kernel
theorem d_X_enqueue_33 : decode tb_X_enqueue 33 = .ok (.getfield 73, 3) := by decide +kernel
theorem d_X_enqueue_36 : decode tb_X_enqueue 36 = .ok (.iconst 1, 1) := by decide +kernel
theorem d_X_enqueue_37 : decode tb_X_enqueue 37 = .ok (.iadd, 1) := by decide +kernel
theorem d_X_enqueue_38 : decode tb_X_enqueue 38 = .ok (.putfield 73, 3) := by decide +kernel
theorem d_X_enqueue_41 : decode tb_X_enqueue 41 = .ok (.aload_n 0, 1) := by decide +kernel
theorem d_X_enqueue_42 : decode tb_X_enqueue 42 = .ok (.dup, 1) := by decide +kernel
theorem d_X_enqueue_43 : decode tb_X_enqueue 43 = .ok (.getfield 173, 3) := by decide +kernel
theorem d_X_enqueue_46 : decode tb_X_enqueue 46 = .ok (.iconst 1, 1) := by decide +kernel
theorem d_X_enqueue_47 : decode tb_X_enqueue 47 = .ok (.iadd, 1) := by decide +kernel
theorem d_X_enqueue_48 : decode tb_X_enqueue 48 = .ok (.putfield 173, 3) := by decide +kernel
theorem d_X_enqueue_51 : decode tb_X_enqueue 51 = .ok (.aload 5, 2) := by decide +kernel
theorem d_X_enqueue_53 : decode tb_X_enqueue 53 = .ok (.aload_n 0, 1) := by decide +kernel
theorem d_X_enqueue_54 : decode tb_X_enqueue 54 = .ok (.getfield 173, 3) := by decide +kernel
theorem d_X_enqueue_57 : decode tb_X_enqueue 57 = .ok (.putfield 176, 3) := by decide +kernel
theorem d_X_enqueue_60 : decode tb_X_enqueue 60 = .ok (.aload 5, 2) := by decide +kernel
theorem d_X_enqueue_62 : decode tb_X_enqueue 62 = .ok (.iload_n 2, 1) := by decide +kernel
theorem d_X_enqueue_63 : decode tb_X_enqueue 63 = .ok (.putfield 181, 3) := by decide +kernel
theorem d_X_enqueue_66 : decode tb_X_enqueue 66 = .ok (.aload 5, 2) := by decide +kernel
theorem d_X_enqueue_68 : decode tb_X_enqueue 68 = .ok (.iload_n 3, 1) := by decide +kernel
theorem d_X_enqueue_69 : decode tb_X_enqueue 69 = .ok (.putfield 184, 3) := by decide +kernel
theorem d_X_enqueue_72 : decode tb_X_enqueue 72 = .ok (.aload 4, 2) := by decide +kernel
theorem d_X_enqueue_74 : decode tb_X_enqueue 74 = .ok (.getfield 73, 3) := by decide +kernel
theorem d_X_enqueue_77 : decode tb_X_enqueue 77 = .ok (.iconst 1, 1) := by decide +kernel
theorem d_X_enqueue_78 : decode tb_X_enqueue 78 = .ok (.if_icmp .ne 13, 3) := by decide +kernel
theorem d_X_enqueue_81 : decode tb_X_enqueue 81 = .ok (.aload 4, 2) := by decide +kernel
theorem d_X_enqueue_83 : decode tb_X_enqueue 83 = .ok (.aload_n 0, 1) := by decide +kernel
theorem d_X_enqueue_84 : decode tb_X_enqueue 84 = .ok (.iconst 4, 1) := by decide +kernel
theorem d_X_enqueue_85 : decode tb_X_enqueue 85 = .ok (.invokevirtual 187, 3) := by decide +kernel
theorem d_X_enqueue_88 : decode tb_X_enqueue 88 = .ok (.invokevirtual 191, 3) := by decide +kernel
theorem d_X_enqueue_91 : decode tb_X_enqueue 91 = .ok (.aload 5, 2) := by decide +kernel
theorem d_X_enqueue_93 : decode tb_X_enqueue 93 = .ok (.areturn, 1) := by decide +kernel
theorem d_X_enqueueOnce_0 : decode tb_X_enqueueOnce 0 = .ok (.iconst 0, 1) := by decide +kernel
theorem d_X_enqueueOnce_1 : decode tb_X_enqueueOnce 1 = .ok (.istore_n 3, 1) := by decide +kernel
theorem d_X_enqueueOnce_2 : decode tb_X_enqueueOnce 2 = .ok (.iload_n 3, 1) := by decide +kernel
theorem d_X_enqueueOnce_3 : decode tb_X_enqueueOnce 3 = .ok (.aload_n 1, 1) := by decide +kernel
theorem d_X_enqueueOnce_4 : decode tb_X_enqueueOnce 4 = .ok (.getfield 69, 3) := by decide +kernel
theorem d_X_enqueueOnce_7 : decode tb_X_enqueueOnce 7 = .ok (.getfield 73, 3) := by decide +kernel
theorem d_X_enqueueOnce_10 : decode tb_X_enqueueOnce 10 = .ok (.if_icmp .ge 26, 3) := by decide +kernel
theorem d_X_enqueueOnce_13 : decode tb_X_enqueueOnce 13 = .ok (.aload_n 1, 1) := by decide +kernel
theorem d_X_enqueueOnce_14 : decode tb_X_enqueueOnce 14 = .ok (.getfield 69, 3) := by decide +kernel
theorem d_X_enqueueOnce_17 : decode tb_X_enqueueOnce 17 = .ok (.getfield 169, 3) := by decide +kernel
theorem d_X_enqueueOnce_20 : decode tb_X_enqueueOnce 20 = .ok (.iload_n 3, 1) := by decide +kernel
theorem d_X_enqueueOnce_21 : decode tb_X_enqueueOnce 21 = .ok (.aaload, 1) := by decide +kernel
theorem d_X_enqueueOnce_22 : decode tb_X_enqueueOnce 22 = .ok (.getfield 181, 3) := by decide +kernel
theorem d_X_enqueueOnce_25 : decode tb_X_enqueueOnce 25 = .ok (.iload_n 2, 1) := by decide +kernel
theorem d_X_enqueueOnce_26 : decode tb_X_enqueueOnce 26 = .ok (.if_icmp .ne 4, 3) := by decide +kernel
theorem d_X_enqueueOnce_29 : decode tb_X_enqueueOnce 29 = .ok (.return_, 1) := by decide +kernel
theorem d_X_enqueueOnce_30 : decode tb_X_enqueueOnce 30 = .ok (.iinc 3 1, 3) := by decide +kernel
theorem d_X_enqueueOnce_33 : decode tb_X_enqueueOnce 33 = .ok (.goto (-31), 3) := by decide +kernel
theorem d_X_enqueueOnce_36 : decode tb_X_enqueueOnce 36 = .ok (.aload_n 0, 1) := by decide +kernel
theorem d_X_enqueueOnce_37 : decode tb_X_enqueueOnce 37 = .ok (.aload_n 1, 1) := by decide +kernel
theorem d_X_enqueueOnce_38 : decode tb_X_enqueueOnce 38 = .ok (.iload_n 2, 1) := by decide +kernel
theorem d_X_enqueueOnce_39 : decode tb_X_enqueueOnce 39 = .ok (.iconst (-1), 1) := by decide +kernel
theorem d_X_enqueueOnce_40 : decode tb_X_enqueueOnce 40 = .ok (.invokevirtual 194, 3) := by decide +kernel
theorem d_X_enqueueOnce_43 : decode tb_X_enqueueOnce 43 = .ok (.pop, 1) := by decide +kernel
theorem d_X_enqueueOnce_44 : decode tb_X_enqueueOnce 44 = .ok (.return_, 1) := by decide +kernel
theorem d_X_removeFirst_0 : decode tb_X_removeFirst 0 = .ok (.aload_n 1, 1) := by decide +kernel
theorem d_X_removeFirst_1 : decode tb_X_removeFirst 1 = .ok (.getfield 169, 3) := by decide +kernel
theorem d_X_removeFirst_4 : decode tb_X_removeFirst 4 = .ok (.iconst 0, 1) := by decide +kernel
theorem d_X_removeFirst_5 : decode tb_X_removeFirst 5 = .ok (.aaload, 1) := by decide +kernel
theorem d_X_removeFirst_6 : decode tb_X_removeFirst 6 = .ok (.astore_n 2, 1) := by decide +kernel
theorem d_X_removeFirst_7 : decode tb_X_removeFirst 7 = .ok (.iconst 1, 1) := by decide +kernel
theorem d_X_removeFirst_8 : decode tb_X_removeFirst 8 = .ok (.istore_n 3, 1) := by decide +kernel
theorem d_X_removeFirst_9 : decode tb_X_removeFirst 9 = .ok (.iload_n 3, 1) := by decide +kernel
theorem d_X_removeFirst_10 : decode tb_X_removeFirst 10 = .ok (.iconst 4, 1) := by decide +kernel
theorem d_X_removeFirst_11 : decode tb_X_removeFirst 11 = .ok (.if_icmp .ge 23, 3) := by decide +kernel
theorem d_X_removeFirst_14 : decode tb_X_removeFirst 14 = .ok (.aload_n 1, 1) := by decide +kernel
theorem d_X_removeFirst_15 : decode tb_X_removeFirst 15 = .ok (.getfield 169, 3) := by decide +kernel
theorem d_X_removeFirst_18 : decode tb_X_removeFirst 18 = .ok (.iload_n 3, 1) := by decide +kernel
theorem d_X_removeFirst_19 : decode tb_X_removeFirst 19 = .ok (.iconst 1, 1) := by decide +kernel
theorem d_X_removeFirst_20 : decode tb_X_removeFirst 20 = .ok (.isub, 1) := by decide +kernel
theorem d_X_removeFirst_21 : decode tb_X_removeFirst 21 = .ok (.aload_n 1, 1) := by decide +kernel
theorem d_X_removeFirst_22 : decode tb_X_removeFirst 22 = .ok (.getfield 169, 3) := by decide +kernel
theorem d_X_removeFirst_25 : decode tb_X_removeFirst 25 = .ok (.iload_n 3, 1) := by decide +kernel
theorem d_X_removeFirst_26 : decode tb_X_removeFirst 26 = .ok (.aaload, 1) := by decide +kernel
theorem d_X_removeFirst_27 : decode tb_X_removeFirst 27 = .ok (.aastore, 1) := by decide +kernel
theorem d_X_removeFirst_28 : decode tb_X_removeFirst 28 = .ok (.iinc 3 1, 3) := by decide +kernel
theorem d_X_removeFirst_31 : decode tb_X_removeFirst 31 = .ok (.goto (-22), 3) := by decide +kernel
theorem d_X_removeFirst_34 : decode tb_X_removeFirst 34 = .ok (.aload_n 1, 1) := by decide +kernel
theorem d_X_removeFirst_35 : decode tb_X_removeFirst 35 = .ok (.getfield 169, 3) := by decide +kernel
theorem d_X_removeFirst_38 : decode tb_X_removeFirst 38 = .ok (.iconst 3, 1) := by decide +kernel
theorem d_X_removeFirst_39 : decode tb_X_removeFirst 39 = .ok (.aload_n 2, 1) := by decide +kernel
theorem d_X_removeFirst_40 : decode tb_X_removeFirst 40 = .ok (.aastore, 1) := by decide +kernel
theorem d_X_removeFirst_41 : decode tb_X_removeFirst 41 = .ok (.aload_n 1, 1) := by decide +kernel
theorem d_X_removeFirst_42 : decode tb_X_removeFirst 42 = .ok (.dup, 1) := by decide +kernel
theorem d_X_removeFirst_43 : decode tb_X_removeFirst 43 = .ok (.getfield 73, 3) := by decide +kernel
theorem d_X_removeFirst_46 : decode tb_X_removeFirst 46 = .ok (.iconst 1, 1) := by decide +kernel
theorem d_X_removeFirst_47 : decode tb_X_removeFirst 47 = .ok (.isub, 1) := by decide +kernel
theorem d_X_removeFirst_48 : decode tb_X_removeFirst 48 = .ok (.putfield 73, 3) := by decide +kernel
theorem d_X_removeFirst_51 : decode tb_X_removeFirst 51 = .ok (.aload_n 1, 1) := by decide +kernel
theorem d_X_removeFirst_52 : decode tb_X_removeFirst 52 = .ok (.getfield 73, 3) := by decide +kernel
theorem d_X_removeFirst_55 : decode tb_X_removeFirst 55 = .ok (.ifCond .le 12, 3) := by decide +kernel
theorem d_X_removeFirst_58 : decode tb_X_removeFirst 58 = .ok (.aload_n 1, 1) := by decide +kernel
theorem d_X_removeFirst_59 : decode tb_X_removeFirst 59 = .ok (.aload_n 0, 1) := by decide +kernel
theorem d_X_removeFirst_60 : decode tb_X_removeFirst 60 = .ok (.iconst 4, 1) := by decide +kernel
theorem d_X_removeFirst_61 : decode tb_X_removeFirst 61 = .ok (.invokevirtual 187, 3) := by decide +kernel
theorem d_X_removeFirst_64 : decode tb_X_removeFirst 64 = .ok (.invokevirtual 191, 3) := by decide +kernel
theorem d_X_removeFirst_67 : decode tb_X_removeFirst 67 = .ok (.return_, 1) := by decide +kernel
theorem d_X_failFirst_0 : decode tb_X_failFirst 0 = .ok (.aload_n 1, 1) := by decide +kernel
theorem d_X_failFirst_1 : decode tb_X_failFirst 1 = .ok (.getfield 69, 3) := by decide +kernel
theorem d_X_failFirst_4 : decode tb_X_failFirst 4 = .ok (.getfield 169, 3) := by decide +kernel
theorem d_X_failFirst_7 : decode tb_X_failFirst 7 = .ok (.iconst 0, 1) := by decide +kernel
theorem d_X_failFirst_8 : decode tb_X_failFirst 8 = .ok (.aaload, 1) := by decide +kernel
theorem d_X_failFirst_9 : decode tb_X_failFirst 9 = .ok (.astore_n 2, 1) := by decide +kernel
theorem d_X_failFirst_10 : decode tb_X_failFirst 10 = .ok (.aload_n 2, 1) := by decide +kernel
theorem d_X_failFirst_11 : decode tb_X_failFirst 11 = .ok (.getfield 184, 3) := by decide +kernel
theorem d_X_failFirst_14 : decode tb_X_failFirst 14 = .ok (.istore_n 3, 1) := by decide +kernel
theorem d_X_failFirst_15 : decode tb_X_failFirst 15 = .ok (.aload_n 2, 1) := by decide +kernel
theorem d_X_failFirst_16 : decode tb_X_failFirst 16 = .ok (.getfield 181, 3) := by decide +kernel
theorem d_X_failFirst_19 : decode tb_X_failFirst 19 = .ok (.iconst 4, 1) := by decide +kernel
theorem d_X_failFirst_20 : decode tb_X_failFirst 20 = .ok (.if_icmp .ne 13, 3) := by decide +kernel
theorem d_X_failFirst_23 : decode tb_X_failFirst 23 = .ok (.aload_n 0, 1) := by decide +kernel
theorem d_X_failFirst_24 : decode tb_X_failFirst 24 = .ok (.dup, 1) := by decide +kernel
theorem d_X_failFirst_25 : decode tb_X_failFirst 25 = .ok (.getfield 159, 3) := by decide +kernel
theorem d_X_failFirst_28 : decode tb_X_failFirst 28 = .ok (.iconst 1, 1) := by decide +kernel
theorem d_X_failFirst_29 : decode tb_X_failFirst 29 = .ok (.iadd, 1) := by decide +kernel
theorem d_X_failFirst_30 : decode tb_X_failFirst 30 = .ok (.putfield 159, 3) := by decide +kernel
theorem d_X_failFirst_33 : decode tb_X_failFirst 33 = .ok (.aload_n 0, 1) := by decide +kernel
theorem d_X_failFirst_34 : decode tb_X_failFirst 34 = .ok (.aload_n 1, 1) := by decide +kernel
theorem d_X_failFirst_35 : decode tb_X_failFirst 35 = .ok (.getfield 69, 3) := by decide +kernel
theorem d_X_failFirst_38 : decode tb_X_failFirst 38 = .ok (.invokevirtual 198, 3) := by decide +kernel
theorem d_X_failFirst_41 : decode tb_X_failFirst 41 = .ok (.iload_n 3, 1) := by decide +kernel
theorem d_X_failFirst_42 : decode tb_X_failFirst 42 = .ok (.iconst (-1), 1) := by decide +kernel
theorem d_X_failFirst_43 : decode tb_X_failFirst 43 = .ok (.if_icmp .ne 4, 3) := by decide +kernel
theorem d_X_failFirst_46 : decode tb_X_failFirst 46 = .ok (.return_, 1) := by decide +kernel
theorem d_X_failFirst_47 : decode tb_X_failFirst 47 = .ok (.iconst 0, 1) := by decide +kernel
theorem d_X_failFirst_48 : decode tb_X_failFirst 48 = .ok (.istore 4, 2) := by decide +kernel
theorem d_X_failFirst_50 : decode tb_X_failFirst 50 = .ok (.iload 4, 2) := by decide +kernel
theorem d_X_failFirst_52 : decode tb_X_failFirst 52 = .ok (.bipush 7, 2) := by decide +kernel
theorem d_X_failFirst_54 : decode tb_X_failFirst 54 = .ok (.if_icmp .ge 28, 3) := by decide +kernel
theorem d_X_failFirst_57 : decode tb_X_failFirst 57 = .ok (.aload_n 1, 1) := by decide +kernel
theorem d_X_failFirst_58 : decode tb_X_failFirst 58 = .ok (.getfield 147, 3) := by decide +kernel
theorem d_X_failFirst_61 : decode tb_X_failFirst 61 = .ok (.iload 4, 2) := by decide +kernel
theorem d_X_failFirst_63 : decode tb_X_failFirst 63 = .ok (.iaload, 1) := by decide +kernel
theorem d_X_failFirst_64 : decode tb_X_failFirst 64 = .ok (.iload_n 3, 1) := by decide +kernel
theorem d_X_failFirst_65 : decode tb_X_failFirst 65 = .ok (.if_icmp .ne 11, 3) := by decide +kernel
theorem d_X_failFirst_68 : decode tb_X_failFirst 68 = .ok (.aload_n 1, 1) := by decide +kernel
theorem d_X_failFirst_69 : decode tb_X_failFirst 69 = .ok (.getfield 147, 3) := by decide +kernel
theorem d_X_failFirst_72 : decode tb_X_failFirst 72 = .ok (.iload 4, 2) := by decide +kernel
theorem d_X_failFirst_74 : decode tb_X_failFirst 74 = .ok (.iconst (-1), 1) := by decide +kernel
theorem d_X_failFirst_75 : decode tb_X_failFirst 75 = .ok (.iastore, 1) := by decide +kernel
theorem d_X_failFirst_76 : decode tb_X_failFirst 76 = .ok (.iinc 4 1, 3) := by decide +kernel
theorem d_X_failFirst_79 : decode tb_X_failFirst 79 = .ok (.goto (-29), 3) := by decide +kernel
theorem d_X_failFirst_82 : decode tb_X_failFirst 82 = .ok (.aload_n 1, 1) := by decide +kernel
theorem d_X_failFirst_83 : decode tb_X_failFirst 83 = .ok (.getfield 115, 3) := by decide +kernel
theorem d_X_failFirst_86 : decode tb_X_failFirst 86 = .ok (.iload_n 3, 1) := by decide +kernel
theorem d_X_failFirst_87 : decode tb_X_failFirst 87 = .ok (.if_icmp .ne 15, 3) := by decide +kernel
theorem d_X_failFirst_90 : decode tb_X_failFirst 90 = .ok (.aload_n 1, 1) := by decide +kernel
theorem d_X_failFirst_91 : decode tb_X_failFirst 91 = .ok (.getfield 150, 3) := by decide +kernel
theorem d_X_failFirst_94 : decode tb_X_failFirst 94 = .ok (.iload_n 3, 1) := by decide +kernel
theorem d_X_failFirst_95 : decode tb_X_failFirst 95 = .ok (.iconst 0, 1) := by decide +kernel
theorem d_X_failFirst_96 : decode tb_X_failFirst 96 = .ok (.iastore, 1) := by decide +kernel
theorem d_X_failFirst_97 : decode tb_X_failFirst 97 = .ok (.aload_n 0, 1) := by decide +kernel
theorem d_X_failFirst_98 : decode tb_X_failFirst 98 = .ok (.aload_n 1, 1) := by decide +kernel
theorem d_X_failFirst_99 : decode tb_X_failFirst 99 = .ok (.invokevirtual 202, 3) := by decide +kernel
theorem d_X_failFirst_102 : decode tb_X_failFirst 102 = .ok (.return_, 1) := by decide +kernel
theorem d_X_rememberTheAir_0 : decode tb_X_rememberTheAir 0 = .ok (.iconst 0, 1) := by decide +kernel
theorem d_X_rememberTheAir_1 : decode tb_X_rememberTheAir 1 = .ok (.istore_n 1, 1) := by decide +kernel
theorem d_X_rememberTheAir_2 : decode tb_X_rememberTheAir 2 = .ok (.iload_n 1, 1) := by decide +kernel
theorem d_X_rememberTheAir_3 : decode tb_X_rememberTheAir 3 = .ok (.bipush 7, 2) := by decide +kernel
theorem d_X_rememberTheAir_5 : decode tb_X_rememberTheAir 5 = .ok (.if_icmp .ge 40, 3) := by decide +kernel
theorem d_X_rememberTheAir_8 : decode tb_X_rememberTheAir 8 = .ok (.aload_n 0, 1) := by decide +kernel
theorem d_X_rememberTheAir_9 : decode tb_X_rememberTheAir 9 = .ok (.getfield 11, 3) := by decide +kernel
theorem d_X_rememberTheAir_12 : decode tb_X_rememberTheAir 12 = .ok (.iload_n 1, 1) := by decide +kernel
theorem d_X_rememberTheAir_13 : decode tb_X_rememberTheAir 13 = .ok (.aaload, 1) := by decide +kernel
theorem d_X_rememberTheAir_14 : decode tb_X_rememberTheAir 14 = .ok (.getfield 69, 3) := by decide +kernel
theorem d_X_rememberTheAir_17 : decode tb_X_rememberTheAir 17 = .ok (.astore_n 2, 1) := by decide +kernel
theorem d_X_rememberTheAir_18 : decode tb_X_rememberTheAir 18 = .ok (.aload_n 2, 1) := by decide +kernel
theorem d_X_rememberTheAir_19 : decode tb_X_rememberTheAir 19 = .ok (.aload_n 2, 1) := by decide +kernel
theorem d_X_rememberTheAir_20 : decode tb_X_rememberTheAir 20 = .ok (.getfield 205, 3) := by decide +kernel
theorem d_X_rememberTheAir_23 : decode tb_X_rememberTheAir 23 = .ok (.ifCond .eq 7, 3) := by decide +kernel
theorem d_X_rememberTheAir_26 : decode tb_X_rememberTheAir 26 = .ok (.iconst 1, 1) := by decide +kernel
theorem d_X_rememberTheAir_27 : decode tb_X_rememberTheAir 27 = .ok (.goto 4, 3) := by decide +kernel
theorem d_X_rememberTheAir_30 : decode tb_X_rememberTheAir 30 = .ok (.iconst 0, 1) := by decide +kernel
theorem d_X_rememberTheAir_31 : decode tb_X_rememberTheAir 31 = .ok (.putfield 208, 3) := by decide +kernel
theorem d_X_rememberTheAir_34 : decode tb_X_rememberTheAir 34 = .ok (.aload_n 2, 1) := by decide +kernel
theorem d_X_rememberTheAir_35 : decode tb_X_rememberTheAir 35 = .ok (.iconst 0, 1) := by decide +kernel
theorem d_X_rememberTheAir_36 : decode tb_X_rememberTheAir 36 = .ok (.putfield 205, 3) := by decide +kernel
theorem d_X_rememberTheAir_39 : decode tb_X_rememberTheAir 39 = .ok (.iinc 1 1, 3) := by decide +kernel
theorem d_X_rememberTheAir_42 : decode tb_X_rememberTheAir 42 = .ok (.goto (-40), 3) := by decide +kernel
theorem d_X_rememberTheAir_45 : decode tb_X_rememberTheAir 45 = .ok (.return_, 1) := by decide +kernel
theorem d_X_goOnTheAir_0 : decode tb_X_goOnTheAir 0 = .ok (.iconst 0, 1) := by decide +kernel
theorem d_X_goOnTheAir_1 : decode tb_X_goOnTheAir 1 = .ok (.istore_n 1, 1) := by decide +kernel
theorem d_X_goOnTheAir_2 : decode tb_X_goOnTheAir 2 = .ok (.iload_n 1, 1) := by decide +kernel
theorem d_X_goOnTheAir_3 : decode tb_X_goOnTheAir 3 = .ok (.bipush 7, 2) := by decide +kernel
theorem d_X_goOnTheAir_5 : decode tb_X_goOnTheAir 5 = .ok (.if_icmp .ge 158, 3) := by decide +kernel
theorem d_X_goOnTheAir_8 : decode tb_X_goOnTheAir 8 = .ok (.aload_n 0, 1) := by decide +kernel
theorem d_X_goOnTheAir_9 : decode tb_X_goOnTheAir 9 = .ok (.getfield 11, 3) := by decide +kernel
theorem d_X_goOnTheAir_12 : decode tb_X_goOnTheAir 12 = .ok (.iload_n 1, 1) := by decide +kernel
theorem d_X_goOnTheAir_13 : decode tb_X_goOnTheAir 13 = .ok (.aaload, 1) := by decide +kernel
theorem d_X_goOnTheAir_14 : decode tb_X_goOnTheAir 14 = .ok (.astore_n 2, 1) := by decide +kernel
theorem d_X_goOnTheAir_15 : decode tb_X_goOnTheAir 15 = .ok (.aload_n 2, 1) := by decide +kernel
theorem d_X_goOnTheAir_16 : decode tb_X_goOnTheAir 16 = .ok (.getfield 69, 3) := by decide +kernel
theorem d_X_goOnTheAir_19 : decode tb_X_goOnTheAir 19 = .ok (.astore_n 3, 1) := by decide +kernel
theorem d_X_goOnTheAir_20 : decode tb_X_goOnTheAir 20 = .ok (.aload_n 3, 1) := by decide +kernel
theorem d_X_goOnTheAir_21 : decode tb_X_goOnTheAir 21 = .ok (.getfield 78, 3) := by decide +kernel
theorem d_X_goOnTheAir_24 : decode tb_X_goOnTheAir 24 = .ok (.iconst (-1), 1) := by decide +kernel
theorem d_X_goOnTheAir_25 : decode tb_X_goOnTheAir 25 = .ok (.if_icmp .eq 24, 3) := by decide +kernel
theorem d_X_goOnTheAir_28 : decode tb_X_goOnTheAir 28 = .ok (.aload_n 3, 1) := by decide +kernel
theorem d_X_goOnTheAir_29 : decode tb_X_goOnTheAir 29 = .ok (.iconst 1, 1) := by decide +kernel
theorem d_X_goOnTheAir_30 : decode tb_X_goOnTheAir 30 = .ok (.putfield 205, 3) := by decide +kernel
theorem d_X_goOnTheAir_33 : decode tb_X_goOnTheAir 33 = .ok (.aload_n 3, 1) := by decide +kernel
theorem d_X_goOnTheAir_34 : decode tb_X_goOnTheAir 34 = .ok (.aload_n 3, 1) := by decide +kernel
theorem d_X_goOnTheAir_35 : decode tb_X_goOnTheAir 35 = .ok (.getfield 78, 3) := by decide +kernel
theorem d_X_goOnTheAir_38 : decode tb_X_goOnTheAir 38 = .ok (.putfield 211, 3) := by decide +kernel
theorem d_X_goOnTheAir_41 : decode tb_X_goOnTheAir 41 = .ok (.aload_n 3, 1) := by decide +kernel
theorem d_X_goOnTheAir_42 : decode tb_X_goOnTheAir 42 = .ok (.iconst (-1), 1) := by decide +kernel
theorem d_X_goOnTheAir_43 : decode tb_X_goOnTheAir 43 = .ok (.putfield 78, 3) := by decide +kernel
theorem d_X_goOnTheAir_46 : decode tb_X_goOnTheAir 46 = .ok (.goto 111, 3) := by decide +kernel
theorem d_X_goOnTheAir_49 : decode tb_X_goOnTheAir 49 = .ok (.aload_n 3, 1) := by decide +kernel
theorem d_X_goOnTheAir_50 : decode tb_X_goOnTheAir 50 = .ok (.getfield 81, 3) := by decide +kernel
theorem d_X_goOnTheAir_53 : decode tb_X_goOnTheAir 53 = .ok (.ifCond .ne 104, 3) := by decide +kernel
theorem d_X_goOnTheAir_56 : decode tb_X_goOnTheAir 56 = .ok (.aload_n 3, 1) := by decide +kernel
theorem d_X_goOnTheAir_57 : decode tb_X_goOnTheAir 57 = .ok (.getfield 73, 3) := by decide +kernel
theorem d_X_goOnTheAir_60 : decode tb_X_goOnTheAir 60 = .ok (.ifCond .ne 6, 3) := by decide +kernel
theorem d_X_goOnTheAir_63 : decode tb_X_goOnTheAir 63 = .ok (.goto 94, 3) := by decide +kernel
theorem d_X_goOnTheAir_66 : decode tb_X_goOnTheAir 66 = .ok (.aload_n 3, 1) := by decide +kernel
theorem d_X_goOnTheAir_67 : decode tb_X_goOnTheAir 67 = .ok (.getfield 127, 3) := by decide +kernel
theorem d_X_goOnTheAir_70 : decode tb_X_goOnTheAir 70 = .ok (.ifCond .le 16, 3) := by decide +kernel
theorem d_X_goOnTheAir_73 : decode tb_X_goOnTheAir 73 = .ok (.aload_n 3, 1) := by decide +kernel
theorem d_X_goOnTheAir_74 : decode tb_X_goOnTheAir 74 = .ok (.dup, 1) := by decide +kernel
theorem d_X_goOnTheAir_75 : decode tb_X_goOnTheAir 75 = .ok (.getfield 127, 3) := by decide +kernel
theorem d_X_goOnTheAir_78 : decode tb_X_goOnTheAir 78 = .ok (.iconst 1, 1) := by decide +kernel
theorem d_X_goOnTheAir_79 : decode tb_X_goOnTheAir 79 = .ok (.isub, 1) := by decide +kernel
theorem d_X_goOnTheAir_80 : decode tb_X_goOnTheAir 80 = .ok (.putfield 127, 3) := by decide +kernel
theorem d_X_goOnTheAir_83 : decode tb_X_goOnTheAir 83 = .ok (.goto 74, 3) := by decide +kernel
theorem d_X_goOnTheAir_86 : decode tb_X_goOnTheAir 86 = .ok (.aload_n 0, 1) := by decide +kernel
theorem d_X_goOnTheAir_87 : decode tb_X_goOnTheAir 87 = .ok (.aload_n 2, 1) := by decide +kernel
theorem d_X_goOnTheAir_88 : decode tb_X_goOnTheAir 88 = .ok (.invokevirtual 214, 3) := by decide +kernel
theorem d_X_goOnTheAir_91 : decode tb_X_goOnTheAir 91 = .ok (.ifCond .ne 21, 3) := by decide +kernel
theorem d_X_goOnTheAir_94 : decode tb_X_goOnTheAir 94 = .ok (.aload_n 3, 1) := by decide +kernel
theorem d_X_goOnTheAir_95 : decode tb_X_goOnTheAir 95 = .ok (.iconst 2, 1) := by decide +kernel
theorem d_X_goOnTheAir_96 : decode tb_X_goOnTheAir 96 = .ok (.putfield 205, 3) := by decide +kernel
theorem d_X_goOnTheAir_99 : decode tb_X_goOnTheAir 99 = .ok (.aload_n 0, 1) := by decide +kernel
theorem d_X_goOnTheAir_100 : decode tb_X_goOnTheAir 100 = .ok (.dup, 1) := by decide +kernel
theorem d_X_goOnTheAir_101 : decode tb_X_goOnTheAir 101 = .ok (.getfield 165, 3) := by decide +kernel
theorem d_X_goOnTheAir_104 : decode tb_X_goOnTheAir 104 = .ok (.iconst 1, 1) := by decide +kernel
theorem d_X_goOnTheAir_105 : decode tb_X_goOnTheAir 105 = .ok (.iadd, 1) := by decide +kernel
theorem d_X_goOnTheAir_106 : decode tb_X_goOnTheAir 106 = .ok (.putfield 165, 3) := by decide +kernel
theorem d_X_goOnTheAir_109 : decode tb_X_goOnTheAir 109 = .ok (.goto 48, 3) := by decide +kernel
theorem d_X_goOnTheAir_112 : decode tb_X_goOnTheAir 112 = .ok (.aload_n 3, 1) := by decide +kernel
theorem d_X_goOnTheAir_113 : decode tb_X_goOnTheAir 113 = .ok (.dup, 1) := by decide +kernel
theorem d_X_goOnTheAir_114 : decode tb_X_goOnTheAir 114 = .ok (.getfield 130, 3) := by decide +kernel
theorem d_X_goOnTheAir_117 : decode tb_X_goOnTheAir 117 = .ok (.iconst 1, 1) := by decide +kernel
theorem d_X_goOnTheAir_118 : decode tb_X_goOnTheAir 118 = .ok (.iadd, 1) := by decide +kernel
theorem d_X_goOnTheAir_119 : decode tb_X_goOnTheAir 119 = .ok (.putfield 130, 3) := by decide +kernel
theorem d_X_goOnTheAir_122 : decode tb_X_goOnTheAir 122 = .ok (.aload_n 3, 1) := by decide +kernel
theorem d_X_goOnTheAir_123 : decode tb_X_goOnTheAir 123 = .ok (.getfield 130, 3) := by decide +kernel
theorem d_X_goOnTheAir_126 : decode tb_X_goOnTheAir 126 = .ok (.iconst 5, 1) := by decide +kernel
theorem d_X_goOnTheAir_127 : decode tb_X_goOnTheAir 127 = .ok (.if_icmp .ne 11, 3) := by decide +kernel
theorem d_X_goOnTheAir_130 : decode tb_X_goOnTheAir 130 = .ok (.aload_n 0, 1) := by decide +kernel
theorem d_X_goOnTheAir_131 : decode tb_X_goOnTheAir 131 = .ok (.aload_n 2, 1) := by decide +kernel
theorem d_X_goOnTheAir_132 : decode tb_X_goOnTheAir 132 = .ok (.invokevirtual 218, 3) := by decide +kernel
theorem d_X_goOnTheAir_135 : decode tb_X_goOnTheAir 135 = .ok (.goto 22, 3) := by decide +kernel
theorem d_X_goOnTheAir_138 : decode tb_X_goOnTheAir 138 = .ok (.aload_n 3, 1) := by decide +kernel
theorem d_X_goOnTheAir_139 : decode tb_X_goOnTheAir 139 = .ok (.aload_n 0, 1) := by decide +kernel
theorem d_X_goOnTheAir_140 : decode tb_X_goOnTheAir 140 = .ok (.bipush 32, 2) := by decide +kernel
theorem d_X_goOnTheAir_142 : decode tb_X_goOnTheAir 142 = .ok (.iconst 4, 1) := by decide +kernel
theorem d_X_goOnTheAir_143 : decode tb_X_goOnTheAir 143 = .ok (.aload_n 3, 1) := by decide +kernel
theorem d_X_goOnTheAir_144 : decode tb_X_goOnTheAir 144 = .ok (.getfield 130, 3) := by decide +kernel
theorem d_X_goOnTheAir_147 : decode tb_X_goOnTheAir 147 = .ok (.ishl, 1) := by decide +kernel
theorem d_X_goOnTheAir_148 : decode tb_X_goOnTheAir 148 = .ok (.invokestatic 24, 3) := by decide +kernel
theorem d_X_goOnTheAir_151 : decode tb_X_goOnTheAir 151 = .ok (.invokevirtual 187, 3) := by decide +kernel
theorem d_X_goOnTheAir_154 : decode tb_X_goOnTheAir 154 = .ok (.putfield 127, 3) := by decide +kernel
theorem d_X_goOnTheAir_157 : decode tb_X_goOnTheAir 157 = .ok (.iinc 1 1, 3) := by decide +kernel
theorem d_X_goOnTheAir_160 : decode tb_X_goOnTheAir 160 = .ok (.goto (-158), 3) := by decide +kernel
theorem d_X_goOnTheAir_163 : decode tb_X_goOnTheAir 163 = .ok (.return_, 1) := by decide +kernel
theorem d_X_seemsBusy_0 : decode tb_X_seemsBusy 0 = .ok (.iconst 0, 1) := by decide +kernel
theorem d_X_seemsBusy_1 : decode tb_X_seemsBusy 1 = .ok (.istore_n 2, 1) := by decide +kernel
theorem d_X_seemsBusy_2 : decode tb_X_seemsBusy 2 = .ok (.iload_n 2, 1) := by decide +kernel
theorem d_X_seemsBusy_3 : decode tb_X_seemsBusy 3 = .ok (.bipush 7, 2) := by decide +kernel
theorem d_X_seemsBusy_5 : decode tb_X_seemsBusy 5 = .ok (.if_icmp .ge 40, 3) := by decide +kernel
theorem d_X_seemsBusy_8 : decode tb_X_seemsBusy 8 = .ok (.aload_n 0, 1) := by decide +kernel
theorem d_X_seemsBusy_9 : decode tb_X_seemsBusy 9 = .ok (.getfield 17, 3) := by decide +kernel
theorem d_X_seemsBusy_12 : decode tb_X_seemsBusy 12 = .ok (.aload_n 1, 1) := by decide +kernel
theorem d_X_seemsBusy_13 : decode tb_X_seemsBusy 13 = .ok (.getfield 221, 3) := by decide +kernel
theorem d_X_seemsBusy_16 : decode tb_X_seemsBusy 16 = .ok (.aaload, 1) := by decide +kernel
theorem d_X_seemsBusy_17 : decode tb_X_seemsBusy 17 = .ok (.iload_n 2, 1) := by decide +kernel
theorem d_X_seemsBusy_18 : decode tb_X_seemsBusy 18 = .ok (.iaload, 1) := by decide +kernel
theorem d_X_seemsBusy_19 : decode tb_X_seemsBusy 19 = .ok (.ifCond .le 20, 3) := by decide +kernel
theorem d_X_seemsBusy_22 : decode tb_X_seemsBusy 22 = .ok (.aload_n 0, 1) := by decide +kernel
theorem d_X_seemsBusy_23 : decode tb_X_seemsBusy 23 = .ok (.getfield 11, 3) := by decide +kernel
theorem d_X_seemsBusy_26 : decode tb_X_seemsBusy 26 = .ok (.iload_n 2, 1) := by decide +kernel
theorem d_X_seemsBusy_27 : decode tb_X_seemsBusy 27 = .ok (.aaload, 1) := by decide +kernel
theorem d_X_seemsBusy_28 : decode tb_X_seemsBusy 28 = .ok (.getfield 69, 3) := by decide +kernel
theorem d_X_seemsBusy_31 : decode tb_X_seemsBusy 31 = .ok (.getfield 208, 3) := by decide +kernel
theorem d_X_seemsBusy_34 : decode tb_X_seemsBusy 34 = .ok (.ifCond .eq 5, 3) := by decide +kernel
theorem d_X_seemsBusy_37 : decode tb_X_seemsBusy 37 = .ok (.iconst 1, 1) := by decide +kernel
theorem d_X_seemsBusy_38 : decode tb_X_seemsBusy 38 = .ok (.ireturn, 1) := by decide +kernel
theorem d_X_seemsBusy_39 : decode tb_X_seemsBusy 39 = .ok (.iinc 2 1, 3) := by decide +kernel
theorem d_X_seemsBusy_42 : decode tb_X_seemsBusy 42 = .ok (.goto (-40), 3) := by decide +kernel
theorem d_X_seemsBusy_45 : decode tb_X_seemsBusy 45 = .ok (.iconst 0, 1) := by decide +kernel
theorem d_X_seemsBusy_46 : decode tb_X_seemsBusy 46 = .ok (.ireturn, 1) := by decide +kernel
theorem d_X_hearTheAir_0 : decode tb_X_hearTheAir 0 = .ok (.iconst 0, 1) := by decide +kernel
theorem d_X_hearTheAir_1 : decode tb_X_hearTheAir 1 = .ok (.istore_n 1, 1) := by decide +kernel
theorem d_X_hearTheAir_2 : decode tb_X_hearTheAir 2 = .ok (.iload_n 1, 1) := by decide +kernel
theorem d_X_hearTheAir_3 : decode tb_X_hearTheAir 3 = .ok (.bipush 7, 2) := by decide +kernel
theorem d_X_hearTheAir_5 : decode tb_X_hearTheAir 5 = .ok (.if_icmp .ge 59, 3) := by decide +kernel
theorem d_X_hearTheAir_8 : decode tb_X_hearTheAir 8 = .ok (.aload_n 0, 1) := by decide +kernel
theorem d_X_hearTheAir_9 : decode tb_X_hearTheAir 9 = .ok (.getfield 11, 3) := by decide +kernel
theorem d_X_hearTheAir_12 : decode tb_X_hearTheAir 12 = .ok (.iload_n 1, 1) := by decide +kernel
theorem d_X_hearTheAir_13 : decode tb_X_hearTheAir 13 = .ok (.aaload, 1) := by decide +kernel
theorem d_X_hearTheAir_14 : decode tb_X_hearTheAir 14 = .ok (.astore_n 2, 1) := by decide +kernel
theorem d_X_hearTheAir_15 : decode tb_X_hearTheAir 15 = .ok (.aload_n 2, 1) := by decide +kernel
theorem d_X_hearTheAir_16 : decode tb_X_hearTheAir 16 = .ok (.getfield 66, 3) := by decide +kernel
theorem d_X_hearTheAir_19 : decode tb_X_hearTheAir 19 = .ok (.ifCond .eq 17, 3) := by decide +kernel
theorem d_X_hearTheAir_22 : decode tb_X_hearTheAir 22 = .ok (.aload_n 2, 1) := by decide +kernel
theorem d_X_hearTheAir_23 : decode tb_X_hearTheAir 23 = .ok (.getfield 69, 3) := by decide +kernel
theorem d_X_hearTheAir_26 : decode tb_X_hearTheAir 26 = .ok (.getfield 205, 3) := by decide +kernel
theorem d_X_hearTheAir_29 : decode tb_X_hearTheAir 29 = .ok (.ifCond .ne 7, 3) := by decide +kernel
theorem d_X_hearTheAir_32 : decode tb_X_hearTheAir 32 = .ok (.iconst 1, 1) := by decide +kernel
theorem d_X_hearTheAir_33 : decode tb_X_hearTheAir 33 = .ok (.goto 4, 3) := by decide +kernel
theorem d_X_hearTheAir_36 : decode tb_X_hearTheAir 36 = .ok (.iconst 0, 1) := by decide +kernel
theorem d_X_hearTheAir_37 : decode tb_X_hearTheAir 37 = .ok (.istore_n 3, 1) := by decide +kernel
theorem d_X_hearTheAir_38 : decode tb_X_hearTheAir 38 = .ok (.aload_n 2, 1) := by decide +kernel
theorem d_X_hearTheAir_39 : decode tb_X_hearTheAir 39 = .ok (.getfield 69, 3) := by decide +kernel
theorem d_X_hearTheAir_42 : decode tb_X_hearTheAir 42 = .ok (.iload_n 3, 1) := by decide +kernel
theorem d_X_hearTheAir_43 : decode tb_X_hearTheAir 43 = .ok (.ifCond .eq 11, 3) := by decide +kernel
theorem d_X_hearTheAir_46 : decode tb_X_hearTheAir 46 = .ok (.aload_n 0, 1) := by decide +kernel
theorem d_X_hearTheAir_47 : decode tb_X_hearTheAir 47 = .ok (.iload_n 1, 1) := by decide +kernel
theorem d_X_hearTheAir_48 : decode tb_X_hearTheAir 48 = .ok (.invokevirtual 224, 3) := by decide +kernel
theorem d_X_hearTheAir_51 : decode tb_X_hearTheAir 51 = .ok (.goto 4, 3) := by decide +kernel
theorem d_X_hearTheAir_54 : decode tb_X_hearTheAir 54 = .ok (.iconst (-1), 1) := by decide +kernel
theorem d_X_hearTheAir_55 : decode tb_X_hearTheAir 55 = .ok (.putfield 227, 3) := by decide +kernel
theorem d_X_hearTheAir_58 : decode tb_X_hearTheAir 58 = .ok (.iinc 1 1, 3) := by decide +kernel
theorem d_X_hearTheAir_61 : decode tb_X_hearTheAir 61 = .ok (.goto (-59), 3) := by decide +kernel
theorem d_X_hearTheAir_64 : decode tb_X_hearTheAir 64 = .ok (.return_, 1) := by decide +kernel
theorem d_X_onlySpeaker_0 : decode tb_X_onlySpeaker 0 = .ok (.iconst (-1), 1) := by decide +kernel
theorem d_X_onlySpeaker_1 : decode tb_X_onlySpeaker 1 = .ok (.istore_n 2, 1) := by decide +kernel
theorem d_X_onlySpeaker_2 : decode tb_X_onlySpeaker 2 = .ok (.iconst 0, 1) := by decide +kernel
theorem d_X_onlySpeaker_3 : decode tb_X_onlySpeaker 3 = .ok (.istore_n 3, 1) := by decide +kernel
theorem d_X_onlySpeaker_4 : decode tb_X_onlySpeaker 4 = .ok (.iload_n 3, 1) := by decide +kernel
theorem d_X_onlySpeaker_5 : decode tb_X_onlySpeaker 5 = .ok (.bipush 7, 2) := by decide +kernel
theorem d_X_onlySpeaker_7 : decode tb_X_onlySpeaker 7 = .ok (.if_icmp .ge 44, 3) := by decide +kernel
theorem d_X_onlySpeaker_10 : decode tb_X_onlySpeaker 10 = .ok (.aload_n 0, 1) := by decide +kernel
theorem d_X_onlySpeaker_11 : decode tb_X_onlySpeaker 11 = .ok (.getfield 17, 3) := by decide +kernel
theorem d_X_onlySpeaker_14 : decode tb_X_onlySpeaker 14 = .ok (.iload_n 1, 1) := by decide +kernel
theorem d_X_onlySpeaker_15 : decode tb_X_onlySpeaker 15 = .ok (.aaload, 1) := by decide +kernel
theorem d_X_onlySpeaker_16 : decode tb_X_onlySpeaker 16 = .ok (.iload_n 3, 1) := by decide +kernel
theorem d_X_onlySpeaker_17 : decode tb_X_onlySpeaker 17 = .ok (.iaload, 1) := by decide +kernel
theorem d_X_onlySpeaker_18 : decode tb_X_onlySpeaker 18 = .ok (.ifCond .le 27, 3) := by decide +kernel
theorem d_X_onlySpeaker_21 : decode tb_X_onlySpeaker 21 = .ok (.aload_n 0, 1) := by decide +kernel
theorem d_X_onlySpeaker_22 : decode tb_X_onlySpeaker 22 = .ok (.getfield 11, 3) := by decide +kernel
theorem d_X_onlySpeaker_25 : decode tb_X_onlySpeaker 25 = .ok (.iload_n 3, 1) := by decide +kernel
theorem d_X_onlySpeaker_26 : decode tb_X_onlySpeaker 26 = .ok (.aaload, 1) := by decide +kernel
theorem d_X_onlySpeaker_27 : decode tb_X_onlySpeaker 27 = .ok (.getfield 69, 3) := by decide +kernel
theorem d_X_onlySpeaker_30 : decode tb_X_onlySpeaker 30 = .ok (.getfield 205, 3) := by decide +kernel
theorem d_X_onlySpeaker_33 : decode tb_X_onlySpeaker 33 = .ok (.ifCond .eq 12, 3) := by decide +kernel
theorem d_X_onlySpeaker_36 : decode tb_X_onlySpeaker 36 = .ok (.iload_n 2, 1) := by decide +kernel
theorem d_X_onlySpeaker_37 : decode tb_X_onlySpeaker 37 = .ok (.iconst (-1), 1) := by decide +kernel
theorem d_X_onlySpeaker_38 : decode tb_X_onlySpeaker 38 = .ok (.if_icmp .eq 5, 3) := by decide +kernel
theorem d_X_onlySpeaker_41 : decode tb_X_onlySpeaker 41 = .ok (.iconst (-1), 1) := by decide +kernel
theorem d_X_onlySpeaker_42 : decode tb_X_onlySpeaker 42 = .ok (.ireturn, 1) := by decide +kernel
theorem d_X_onlySpeaker_43 : decode tb_X_onlySpeaker 43 = .ok (.iload_n 3, 1) := by decide +kernel
theorem d_X_onlySpeaker_44 : decode tb_X_onlySpeaker 44 = .ok (.istore_n 2, 1) := by decide +kernel
theorem d_X_onlySpeaker_45 : decode tb_X_onlySpeaker 45 = .ok (.iinc 3 1, 3) := by decide +kernel
theorem d_X_onlySpeaker_48 : decode tb_X_onlySpeaker 48 = .ok (.goto (-44), 3) := by decide +kernel
theorem d_X_onlySpeaker_51 : decode tb_X_onlySpeaker 51 = .ok (.iload_n 2, 1) := by decide +kernel
theorem d_X_onlySpeaker_52 : decode tb_X_onlySpeaker 52 = .ok (.ireturn, 1) := by decide +kernel
theorem d_X_takeWhatWasHeard_0 : decode tb_X_takeWhatWasHeard 0 = .ok (.iconst 0, 1) := by decide +kernel
theorem d_X_takeWhatWasHeard_1 : decode tb_X_takeWhatWasHeard 1 = .ok (.istore_n 1, 1) := by decide +kernel
theorem d_X_takeWhatWasHeard_2 : decode tb_X_takeWhatWasHeard 2 = .ok (.iload_n 1, 1) := by decide +kernel
theorem d_X_takeWhatWasHeard_3 : decode tb_X_takeWhatWasHeard 3 = .ok (.bipush 7, 2) := by decide +kernel
theorem d_X_takeWhatWasHeard_5 : decode tb_X_takeWhatWasHeard 5 = .ok (.if_icmp .ge 133, 3) := by decide +kernel
theorem d_X_takeWhatWasHeard_8 : decode tb_X_takeWhatWasHeard 8 = .ok (.aload_n 0, 1) := by decide +kernel
theorem d_X_takeWhatWasHeard_9 : decode tb_X_takeWhatWasHeard 9 = .ok (.getfield 11, 3) := by decide +kernel
theorem d_X_takeWhatWasHeard_12 : decode tb_X_takeWhatWasHeard 12 = .ok (.iload_n 1, 1) := by decide +kernel
theorem d_X_takeWhatWasHeard_13 : decode tb_X_takeWhatWasHeard 13 = .ok (.aaload, 1) := by decide +kernel
theorem d_X_takeWhatWasHeard_14 : decode tb_X_takeWhatWasHeard 14 = .ok (.getfield 69, 3) := by decide +kernel
theorem d_X_takeWhatWasHeard_17 : decode tb_X_takeWhatWasHeard 17 = .ok (.getfield 227, 3) := by decide +kernel
theorem d_X_takeWhatWasHeard_20 : decode tb_X_takeWhatWasHeard 20 = .ok (.istore_n 2, 1) := by decide +kernel
theorem d_X_takeWhatWasHeard_21 : decode tb_X_takeWhatWasHeard 21 = .ok (.iload_n 2, 1) := by decide +kernel
theorem d_X_takeWhatWasHeard_22 : decode tb_X_takeWhatWasHeard 22 = .ok (.iconst (-1), 1) := by decide +kernel
theorem d_X_takeWhatWasHeard_23 : decode tb_X_takeWhatWasHeard 23 = .ok (.if_icmp .ne 6, 3) := by decide +kernel
theorem d_X_takeWhatWasHeard_26 : decode tb_X_takeWhatWasHeard 26 = .ok (.goto 106, 3) := by decide +kernel
theorem d_X_takeWhatWasHeard_29 : decode tb_X_takeWhatWasHeard 29 = .ok (.aload_n 0, 1) := by decide +kernel
theorem d_X_takeWhatWasHeard_30 : decode tb_X_takeWhatWasHeard 30 = .ok (.getfield 11, 3) := by decide +kernel
theorem d_X_takeWhatWasHeard_33 : decode tb_X_takeWhatWasHeard 33 = .ok (.iload_n 1, 1) := by decide +kernel
theorem d_X_takeWhatWasHeard_34 : decode tb_X_takeWhatWasHeard 34 = .ok (.aaload, 1) := by decide +kernel
theorem d_X_takeWhatWasHeard_35 : decode tb_X_takeWhatWasHeard 35 = .ok (.astore_n 3, 1) := by decide +kernel
theorem d_X_takeWhatWasHeard_36 : decode tb_X_takeWhatWasHeard 36 = .ok (.aload_n 0, 1) := by decide +kernel
theorem d_X_takeWhatWasHeard_37 : decode tb_X_takeWhatWasHeard 37 = .ok (.getfield 11, 3) := by decide +kernel
theorem d_X_takeWhatWasHeard_40 : decode tb_X_takeWhatWasHeard 40 = .ok (.iload_n 2, 1) := by decide +kernel
theorem d_X_takeWhatWasHeard_41 : decode tb_X_takeWhatWasHeard 41 = .ok (.aaload, 1) := by decide +kernel
theorem d_X_takeWhatWasHeard_42 : decode tb_X_takeWhatWasHeard 42 = .ok (.astore 4, 2) := by decide +kernel
theorem d_X_takeWhatWasHeard_44 : decode tb_X_takeWhatWasHeard 44 = .ok (.aload 4, 2) := by decide +kernel
theorem d_X_takeWhatWasHeard_46 : decode tb_X_takeWhatWasHeard 46 = .ok (.getfield 69, 3) := by decide +kernel
theorem d_X_takeWhatWasHeard_49 : decode tb_X_takeWhatWasHeard 49 = .ok (.getfield 205, 3) := by decide +kernel
theorem d_X_takeWhatWasHeard_52 : decode tb_X_takeWhatWasHeard 52 = .ok (.iconst 1, 1) := by decide +kernel
theorem d_X_takeWhatWasHeard_53 : decode tb_X_takeWhatWasHeard 53 = .ok (.if_icmp .ne 13, 3) := by decide +kernel
theorem d_X_takeWhatWasHeard_56 : decode tb_X_takeWhatWasHeard 56 = .ok (.aload_n 0, 1) := by decide +kernel
theorem d_X_takeWhatWasHeard_57 : decode tb_X_takeWhatWasHeard 57 = .ok (.aload_n 3, 1) := by decide +kernel
theorem d_X_takeWhatWasHeard_58 : decode tb_X_takeWhatWasHeard 58 = .ok (.aload 4, 2) := by decide +kernel
theorem d_X_takeWhatWasHeard_60 : decode tb_X_takeWhatWasHeard 60 = .ok (.invokevirtual 230, 3) := by decide +kernel
theorem d_X_takeWhatWasHeard_63 : decode tb_X_takeWhatWasHeard 63 = .ok (.goto 69, 3) := by decide +kernel
theorem d_X_takeWhatWasHeard_66 : decode tb_X_takeWhatWasHeard 66 = .ok (.aload 4, 2) := by decide +kernel
theorem d_X_takeWhatWasHeard_68 : decode tb_X_takeWhatWasHeard 68 = .ok (.getfield 69, 3) := by decide +kernel
theorem d_X_takeWhatWasHeard_71 : decode tb_X_takeWhatWasHeard 71 = .ok (.getfield 169, 3) := by decide +kernel
theorem d_X_takeWhatWasHeard_74 : decode tb_X_takeWhatWasHeard 74 = .ok (.iconst 0, 1) := by decide +kernel
theorem d_X_takeWhatWasHeard_75 : decode tb_X_takeWhatWasHeard 75 = .ok (.aaload, 1) := by decide +kernel
theorem d_X_takeWhatWasHeard_76 : decode tb_X_takeWhatWasHeard 76 = .ok (.astore 5, 2) := by decide +kernel
theorem d_X_takeWhatWasHeard_78 : decode tb_X_takeWhatWasHeard 78 = .ok (.aload 5, 2) := by decide +kernel
theorem d_X_takeWhatWasHeard_80 : decode tb_X_takeWhatWasHeard 80 = .ok (.getfield 181, 3) := by decide +kernel
theorem d_X_takeWhatWasHeard_83 : decode tb_X_takeWhatWasHeard 83 = .ok (.iconst 1, 1) := by decide +kernel
theorem d_X_takeWhatWasHeard_84 : decode tb_X_takeWhatWasHeard 84 = .ok (.if_icmp .ne 11, 3) := by decide +kernel
theorem d_X_takeWhatWasHeard_87 : decode tb_X_takeWhatWasHeard 87 = .ok (.aload_n 0, 1) := by decide +kernel
theorem d_X_takeWhatWasHeard_88 : decode tb_X_takeWhatWasHeard 88 = .ok (.aload_n 3, 1) := by decide +kernel
theorem d_X_takeWhatWasHeard_89 : decode tb_X_takeWhatWasHeard 89 = .ok (.invokevirtual 234, 3) := by decide +kernel
theorem d_X_takeWhatWasHeard_92 : decode tb_X_takeWhatWasHeard 92 = .ok (.goto 40, 3) := by decide +kernel
theorem d_X_takeWhatWasHeard_95 : decode tb_X_takeWhatWasHeard 95 = .ok (.aload 5, 2) := by decide +kernel
theorem d_X_takeWhatWasHeard_97 : decode tb_X_takeWhatWasHeard 97 = .ok (.getfield 181, 3) := by decide +kernel
theorem d_X_takeWhatWasHeard_100 : decode tb_X_takeWhatWasHeard 100 = .ok (.iconst 2, 1) := by decide +kernel
theorem d_X_takeWhatWasHeard_101 : decode tb_X_takeWhatWasHeard 101 = .ok (.if_icmp .ne 13, 3) := by decide +kernel
theorem d_X_takeWhatWasHeard_104 : decode tb_X_takeWhatWasHeard 104 = .ok (.aload_n 0, 1) := by decide +kernel
theorem d_X_takeWhatWasHeard_105 : decode tb_X_takeWhatWasHeard 105 = .ok (.aload_n 3, 1) := by decide +kernel
theorem d_X_takeWhatWasHeard_106 : decode tb_X_takeWhatWasHeard 106 = .ok (.aload 4, 2) := by decide +kernel
theorem d_X_takeWhatWasHeard_108 : decode tb_X_takeWhatWasHeard 108 = .ok (.invokevirtual 237, 3) := by decide +kernel
theorem d_X_takeWhatWasHeard_111 : decode tb_X_takeWhatWasHeard 111 = .ok (.goto 21, 3) := by decide +kernel
theorem d_X_takeWhatWasHeard_114 : decode tb_X_takeWhatWasHeard 114 = .ok (.aload 5, 2) := by decide +kernel
theorem d_X_takeWhatWasHeard_116 : decode tb_X_takeWhatWasHeard 116 = .ok (.getfield 184, 3) := by decide +kernel
theorem d_X_takeWhatWasHeard_119 : decode tb_X_takeWhatWasHeard 119 = .ok (.iload_n 1, 1) := by decide +kernel
theorem d_X_takeWhatWasHeard_120 : decode tb_X_takeWhatWasHeard 120 = .ok (.if_icmp .ne 12, 3) := by decide +kernel
theorem d_X_takeWhatWasHeard_123 : decode tb_X_takeWhatWasHeard 123 = .ok (.aload_n 0, 1) := by decide +kernel
theorem d_X_takeWhatWasHeard_124 : decode tb_X_takeWhatWasHeard 124 = .ok (.aload_n 3, 1) := by decide +kernel
theorem d_X_takeWhatWasHeard_125 : decode tb_X_takeWhatWasHeard 125 = .ok (.aload 4, 2) := by decide +kernel
theorem d_X_takeWhatWasHeard_127 : decode tb_X_takeWhatWasHeard 127 = .ok (.aload 5, 2) := by decide +kernel
theorem d_X_takeWhatWasHeard_129 : decode tb_X_takeWhatWasHeard 129 = .ok (.invokevirtual 240, 3) := by decide +kernel
theorem d_X_takeWhatWasHeard_132 : decode tb_X_takeWhatWasHeard 132 = .ok (.iinc 1 1, 3) := by decide +kernel
theorem d_X_takeWhatWasHeard_135 : decode tb_X_takeWhatWasHeard 135 = .ok (.goto (-133), 3) := by decide +kernel
theorem d_X_takeWhatWasHeard_138 : decode tb_X_takeWhatWasHeard 138 = .ok (.return_, 1) := by decide +kernel
theorem d_X_settleWhatWasOnTheAir_0 : decode tb_X_settleWhatWasOnTheAir 0 = .ok (.iconst 0, 1) := by decide +kernel
theorem d_X_settleWhatWasOnTheAir_1 : decode tb_X_settleWhatWasOnTheAir 1 = .ok (.istore_n 1, 1) := by decide +kernel
theorem d_X_settleWhatWasOnTheAir_2 : decode tb_X_settleWhatWasOnTheAir 2 = .ok (.iload_n 1, 1) := by decide +kernel
theorem d_X_settleWhatWasOnTheAir_3 : decode tb_X_settleWhatWasOnTheAir 3 = .ok (.bipush 7, 2) := by decide +kernel
theorem d_X_settleWhatWasOnTheAir_5 : decode tb_X_settleWhatWasOnTheAir 5 = .ok (.if_icmp .ge 56, 3) := by decide +kernel
theorem d_X_settleWhatWasOnTheAir_8 : decode tb_X_settleWhatWasOnTheAir 8 = .ok (.aload_n 0, 1) := by decide +kernel
theorem d_X_settleWhatWasOnTheAir_9 : decode tb_X_settleWhatWasOnTheAir 9 = .ok (.getfield 11, 3) := by decide +kernel
theorem d_X_settleWhatWasOnTheAir_12 : decode tb_X_settleWhatWasOnTheAir 12 = .ok (.iload_n 1, 1) := by decide +kernel
theorem d_X_settleWhatWasOnTheAir_13 : decode tb_X_settleWhatWasOnTheAir 13 = .ok (.aaload, 1) := by decide +kernel
theorem d_X_settleWhatWasOnTheAir_14 : decode tb_X_settleWhatWasOnTheAir 14 = .ok (.getfield 69, 3) := by decide +kernel
theorem d_X_settleWhatWasOnTheAir_17 : decode tb_X_settleWhatWasOnTheAir 17 = .ok (.astore_n 2, 1) := by decide +kernel
theorem d_X_settleWhatWasOnTheAir_18 : decode tb_X_settleWhatWasOnTheAir 18 = .ok (.aload_n 2, 1) := by decide +kernel
theorem d_X_settleWhatWasOnTheAir_19 : decode tb_X_settleWhatWasOnTheAir 19 = .ok (.getfield 205, 3) := by decide +kernel
theorem d_X_settleWhatWasOnTheAir_22 : decode tb_X_settleWhatWasOnTheAir 22 = .ok (.iconst 2, 1) := by decide +kernel
theorem d_X_settleWhatWasOnTheAir_23 : decode tb_X_settleWhatWasOnTheAir 23 = .ok (.if_icmp .eq 6, 3) := by decide +kernel
theorem d_X_settleWhatWasOnTheAir_26 : decode tb_X_settleWhatWasOnTheAir 26 = .ok (.goto 29, 3) := by decide +kernel
theorem d_X_settleWhatWasOnTheAir_29 : decode tb_X_settleWhatWasOnTheAir 29 = .ok (.aload_n 2, 1) := by decide +kernel
theorem d_X_settleWhatWasOnTheAir_30 : decode tb_X_settleWhatWasOnTheAir 30 = .ok (.getfield 169, 3) := by decide +kernel
theorem d_X_settleWhatWasOnTheAir_33 : decode tb_X_settleWhatWasOnTheAir 33 = .ok (.iconst 0, 1) := by decide +kernel
theorem d_X_settleWhatWasOnTheAir_34 : decode tb_X_settleWhatWasOnTheAir 34 = .ok (.aaload, 1) := by decide +kernel
theorem d_X_settleWhatWasOnTheAir_35 : decode tb_X_settleWhatWasOnTheAir 35 = .ok (.getfield 184, 3) := by decide +kernel
theorem d_X_settleWhatWasOnTheAir_38 : decode tb_X_settleWhatWasOnTheAir 38 = .ok (.iconst (-1), 1) := by decide +kernel
theorem d_X_settleWhatWasOnTheAir_39 : decode tb_X_settleWhatWasOnTheAir 39 = .ok (.if_icmp .ne 11, 3) := by decide +kernel
theorem d_X_settleWhatWasOnTheAir_42 : decode tb_X_settleWhatWasOnTheAir 42 = .ok (.aload_n 0, 1) := by decide +kernel
theorem d_X_settleWhatWasOnTheAir_43 : decode tb_X_settleWhatWasOnTheAir 43 = .ok (.aload_n 2, 1) := by decide +kernel
theorem d_X_settleWhatWasOnTheAir_44 : decode tb_X_settleWhatWasOnTheAir 44 = .ok (.invokevirtual 198, 3) := by decide +kernel
theorem d_X_settleWhatWasOnTheAir_47 : decode tb_X_settleWhatWasOnTheAir 47 = .ok (.goto 8, 3) := by decide +kernel
theorem d_X_settleWhatWasOnTheAir_50 : decode tb_X_settleWhatWasOnTheAir 50 = .ok (.aload_n 2, 1) := by decide +kernel
theorem d_X_settleWhatWasOnTheAir_51 : decode tb_X_settleWhatWasOnTheAir 51 = .ok (.iconst 1, 1) := by decide +kernel
theorem d_X_settleWhatWasOnTheAir_52 : decode tb_X_settleWhatWasOnTheAir 52 = .ok (.putfield 81, 3) := by decide +kernel
theorem d_X_settleWhatWasOnTheAir_55 : decode tb_X_settleWhatWasOnTheAir 55 = .ok (.iinc 1 1, 3) := by decide +kernel
theorem d_X_settleWhatWasOnTheAir_58 : decode tb_X_settleWhatWasOnTheAir 58 = .ok (.goto (-56), 3) := by decide +kernel
theorem d_X_settleWhatWasOnTheAir_61 : decode tb_X_settleWhatWasOnTheAir 61 = .ok (.return_, 1) := by decide +kernel
theorem d_X_settleWhatWasListenedFor_0 : decode tb_X_settleWhatWasListenedFor 0 = .ok (.iconst 0, 1) := by decide +kernel
theorem d_X_settleWhatWasListenedFor_1 : decode tb_X_settleWhatWasListenedFor 1 = .ok (.istore_n 1, 1) := by decide +kernel
theorem d_X_settleWhatWasListenedFor_2 : decode tb_X_settleWhatWasListenedFor 2 = .ok (.iload_n 1, 1) := by decide +kernel
theorem d_X_settleWhatWasListenedFor_3 : decode tb_X_settleWhatWasListenedFor 3 = .ok (.bipush 7, 2) := by decide +kernel
theorem d_X_settleWhatWasListenedFor_5 : decode tb_X_settleWhatWasListenedFor 5 = .ok (.if_icmp .ge 86, 3) := by decide +kernel
theorem d_X_settleWhatWasListenedFor_8 : decode tb_X_settleWhatWasListenedFor 8 = .ok (.aload_n 0, 1) := by decide +kernel
theorem d_X_settleWhatWasListenedFor_9 : decode tb_X_settleWhatWasListenedFor 9 = .ok (.getfield 11, 3) := by decide +kernel
theorem d_X_settleWhatWasListenedFor_12 : decode tb_X_settleWhatWasListenedFor 12 = .ok (.iload_n 1, 1) := by decide +kernel
theorem d_X_settleWhatWasListenedFor_13 : decode tb_X_settleWhatWasListenedFor 13 = .ok (.aaload, 1) := by decide +kernel
theorem d_X_settleWhatWasListenedFor_14 : decode tb_X_settleWhatWasListenedFor 14 = .ok (.getfield 69, 3) := by decide +kernel
theorem d_X_settleWhatWasListenedFor_17 : decode tb_X_settleWhatWasListenedFor 17 = .ok (.astore_n 2, 1) := by decide +kernel
theorem d_X_settleWhatWasListenedFor_18 : decode tb_X_settleWhatWasListenedFor 18 = .ok (.aload_n 2, 1) := by decide +kernel
theorem d_X_settleWhatWasListenedFor_19 : decode tb_X_settleWhatWasListenedFor 19 = .ok (.getfield 81, 3) := by decide +kernel
theorem d_X_settleWhatWasListenedFor_22 : decode tb_X_settleWhatWasListenedFor 22 = .ok (.ifCond .eq 63, 3) := by decide +kernel
theorem d_X_settleWhatWasListenedFor_25 : decode tb_X_settleWhatWasListenedFor 25 = .ok (.aload_n 2, 1) := by decide +kernel
theorem d_X_settleWhatWasListenedFor_26 : decode tb_X_settleWhatWasListenedFor 26 = .ok (.getfield 205, 3) := by decide +kernel
theorem d_X_settleWhatWasListenedFor_29 : decode tb_X_settleWhatWasListenedFor 29 = .ok (.ifCond .eq 6, 3) := by decide +kernel
theorem d_X_settleWhatWasListenedFor_32 : decode tb_X_settleWhatWasListenedFor 32 = .ok (.goto 53, 3) := by decide +kernel
theorem d_X_settleWhatWasListenedFor_35 : decode tb_X_settleWhatWasListenedFor 35 = .ok (.aload_n 2, 1) := by decide +kernel
theorem d_X_settleWhatWasListenedFor_36 : decode tb_X_settleWhatWasListenedFor 36 = .ok (.iconst 0, 1) := by decide +kernel
theorem d_X_settleWhatWasListenedFor_37 : decode tb_X_settleWhatWasListenedFor 37 = .ok (.putfield 81, 3) := by decide +kernel
theorem d_X_settleWhatWasListenedFor_40 : decode tb_X_settleWhatWasListenedFor 40 = .ok (.aload_n 2, 1) := by decide +kernel
theorem d_X_settleWhatWasListenedFor_41 : decode tb_X_settleWhatWasListenedFor 41 = .ok (.dup, 1) := by decide +kernel
theorem d_X_settleWhatWasListenedFor_42 : decode tb_X_settleWhatWasListenedFor 42 = .ok (.getfield 133, 3) := by decide +kernel
theorem d_X_settleWhatWasListenedFor_45 : decode tb_X_settleWhatWasListenedFor 45 = .ok (.iconst 1, 1) := by decide +kernel
theorem d_X_settleWhatWasListenedFor_46 : decode tb_X_settleWhatWasListenedFor 46 = .ok (.iadd, 1) := by decide +kernel
theorem d_X_settleWhatWasListenedFor_47 : decode tb_X_settleWhatWasListenedFor 47 = .ok (.putfield 133, 3) := by decide +kernel
theorem d_X_settleWhatWasListenedFor_50 : decode tb_X_settleWhatWasListenedFor 50 = .ok (.aload_n 2, 1) := by decide +kernel
theorem d_X_settleWhatWasListenedFor_51 : decode tb_X_settleWhatWasListenedFor 51 = .ok (.getfield 133, 3) := by decide +kernel
theorem d_X_settleWhatWasListenedFor_54 : decode tb_X_settleWhatWasListenedFor 54 = .ok (.iconst 4, 1) := by decide +kernel
theorem d_X_settleWhatWasListenedFor_55 : decode tb_X_settleWhatWasListenedFor 55 = .ok (.if_icmp .ne 16, 3) := by decide +kernel
theorem d_X_settleWhatWasListenedFor_58 : decode tb_X_settleWhatWasListenedFor 58 = .ok (.aload_n 0, 1) := by decide +kernel
theorem d_X_settleWhatWasListenedFor_59 : decode tb_X_settleWhatWasListenedFor 59 = .ok (.aload_n 0, 1) := by decide +kernel
theorem d_X_settleWhatWasListenedFor_60 : decode tb_X_settleWhatWasListenedFor 60 = .ok (.getfield 11, 3) := by decide +kernel
theorem d_X_settleWhatWasListenedFor_63 : decode tb_X_settleWhatWasListenedFor 63 = .ok (.iload_n 1, 1) := by decide +kernel
theorem d_X_settleWhatWasListenedFor_64 : decode tb_X_settleWhatWasListenedFor 64 = .ok (.aaload, 1) := by decide +kernel
theorem d_X_settleWhatWasListenedFor_65 : decode tb_X_settleWhatWasListenedFor 65 = .ok (.invokevirtual 218, 3) := by decide +kernel
theorem d_X_settleWhatWasListenedFor_68 : decode tb_X_settleWhatWasListenedFor 68 = .ok (.goto 17, 3) := by decide +kernel
theorem d_X_settleWhatWasListenedFor_71 : decode tb_X_settleWhatWasListenedFor 71 = .ok (.aload_n 2, 1) := by decide +kernel
theorem d_X_settleWhatWasListenedFor_72 : decode tb_X_settleWhatWasListenedFor 72 = .ok (.iconst 0, 1) := by decide +kernel
theorem d_X_settleWhatWasListenedFor_73 : decode tb_X_settleWhatWasListenedFor 73 = .ok (.putfield 130, 3) := by decide +kernel
theorem d_X_settleWhatWasListenedFor_76 : decode tb_X_settleWhatWasListenedFor 76 = .ok (.aload_n 2, 1) := by decide +kernel
theorem d_X_settleWhatWasListenedFor_77 : decode tb_X_settleWhatWasListenedFor 77 = .ok (.aload_n 0, 1) := by decide +kernel
theorem d_X_settleWhatWasListenedFor_78 : decode tb_X_settleWhatWasListenedFor 78 = .ok (.iconst 4, 1) := by decide +kernel
theorem d_X_settleWhatWasListenedFor_79 : decode tb_X_settleWhatWasListenedFor 79 = .ok (.invokevirtual 187, 3) := by decide +kernel
theorem d_X_settleWhatWasListenedFor_82 : decode tb_X_settleWhatWasListenedFor 82 = .ok (.putfield 127, 3) := by decide +kernel
theorem d_X_settleWhatWasListenedFor_85 : decode tb_X_settleWhatWasListenedFor 85 = .ok (.iinc 1 1, 3) := by decide +kernel
theorem d_X_settleWhatWasListenedFor_88 : decode tb_X_settleWhatWasListenedFor 88 = .ok (.goto (-86), 3) := by decide +kernel
theorem d_X_settleWhatWasListenedFor_91 : decode tb_X_settleWhatWasListenedFor 91 = .ok (.return_, 1) := by decide +kernel
theorem d_X_runTimers_0 : decode tb_X_runTimers 0 = .ok (.iconst 0, 1) := by decide +kernel
theorem d_X_runTimers_1 : decode tb_X_runTimers 1 = .ok (.istore_n 1, 1) := by decide +kernel
theorem d_X_runTimers_2 : decode tb_X_runTimers 2 = .ok (.iload_n 1, 1) := by decide +kernel
theorem d_X_runTimers_3 : decode tb_X_runTimers 3 = .ok (.bipush 7, 2) := by decide +kernel
theorem d_X_runTimers_5 : decode tb_X_runTimers 5 = .ok (.if_icmp .ge 113, 3) := by decide +kernel
theorem d_X_runTimers_8 : decode tb_X_runTimers 8 = .ok (.aload_n 0, 1) := by decide +kernel
theorem d_X_runTimers_9 : decode tb_X_runTimers 9 = .ok (.getfield 11, 3) := by decide +kernel
theorem d_X_runTimers_12 : decode tb_X_runTimers 12 = .ok (.iload_n 1, 1) := by decide +kernel
theorem d_X_runTimers_13 : decode tb_X_runTimers 13 = .ok (.aaload, 1) := by decide +kernel
theorem d_X_runTimers_14 : decode tb_X_runTimers 14 = .ok (.astore_n 2, 1) := by decide +kernel
theorem d_X_runTimers_15 : decode tb_X_runTimers 15 = .ok (.aload_n 2, 1) := by decide +kernel
theorem d_X_runTimers_16 : decode tb_X_runTimers 16 = .ok (.getfield 66, 3) := by decide +kernel
theorem d_X_runTimers_19 : decode tb_X_runTimers 19 = .ok (.ifCond .ne 6, 3) := by decide +kernel
theorem d_X_runTimers_22 : decode tb_X_runTimers 22 = .ok (.goto 90, 3) := by decide +kernel
theorem d_X_runTimers_25 : decode tb_X_runTimers 25 = .ok (.aload_n 2, 1) := by decide +kernel
theorem d_X_runTimers_26 : decode tb_X_runTimers 26 = .ok (.getfield 48, 3) := by decide +kernel
theorem d_X_runTimers_29 : decode tb_X_runTimers 29 = .ok (.getfield 52, 3) := by decide +kernel
theorem d_X_runTimers_32 : decode tb_X_runTimers 32 = .ok (.ifCond .eq 8, 3) := by decide +kernel
theorem d_X_runTimers_35 : decode tb_X_runTimers 35 = .ok (.aload_n 0, 1) := by decide +kernel
theorem d_X_runTimers_36 : decode tb_X_runTimers 36 = .ok (.aload_n 2, 1) := by decide +kernel
theorem d_X_runTimers_37 : decode tb_X_runTimers 37 = .ok (.invokevirtual 244, 3) := by decide +kernel
theorem d_X_runTimers_40 : decode tb_X_runTimers 40 = .ok (.iload_n 1, 1) := by decide +kernel
theorem d_X_runTimers_41 : decode tb_X_runTimers 41 = .ok (.ifCond .eq 29, 3) := by decide +kernel
theorem d_X_runTimers_44 : decode tb_X_runTimers 44 = .ok (.aload_n 2, 1) := by decide +kernel
theorem d_X_runTimers_45 : decode tb_X_runTimers 45 = .ok (.getfield 45, 3) := by decide +kernel
theorem d_X_runTimers_48 : decode tb_X_runTimers 48 = .ok (.sipush 255, 3) := by decide +kernel
theorem d_X_runTimers_51 : decode tb_X_runTimers 51 = .ok (.if_icmp .ne 19, 3) := by decide +kernel
theorem d_X_runTimers_54 : decode tb_X_runTimers 54 = .ok (.aload_n 0, 1) := by decide +kernel
theorem d_X_runTimers_55 : decode tb_X_runTimers 55 = .ok (.getfield 91, 3) := by decide +kernel
theorem d_X_runTimers_58 : decode tb_X_runTimers 58 = .ok (.bipush 16, 2) := by decide +kernel
theorem d_X_runTimers_60 : decode tb_X_runTimers 60 = .ok (.irem, 1) := by decide +kernel
theorem d_X_runTimers_61 : decode tb_X_runTimers 61 = .ok (.ifCond .ne 9, 3) := by decide +kernel
theorem d_X_runTimers_64 : decode tb_X_runTimers 64 = .ok (.aload_n 0, 1) := by decide +kernel
theorem d_X_runTimers_65 : decode tb_X_runTimers 65 = .ok (.aload_n 2, 1) := by decide +kernel
theorem d_X_runTimers_66 : decode tb_X_runTimers 66 = .ok (.iconst 1, 1) := by decide +kernel
theorem d_X_runTimers_67 : decode tb_X_runTimers 67 = .ok (.invokevirtual 247, 3) := by decide +kernel
theorem d_X_runTimers_70 : decode tb_X_runTimers 70 = .ok (.aload_n 2, 1) := by decide +kernel
theorem d_X_runTimers_71 : decode tb_X_runTimers 71 = .ok (.getfield 115, 3) := by decide +kernel
theorem d_X_runTimers_74 : decode tb_X_runTimers 74 = .ok (.iconst (-1), 1) := by decide +kernel
theorem d_X_runTimers_75 : decode tb_X_runTimers 75 = .ok (.if_icmp .eq 37, 3) := by decide +kernel
theorem d_X_runTimers_78 : decode tb_X_runTimers 78 = .ok (.aload_n 0, 1) := by decide +kernel
theorem d_X_runTimers_79 : decode tb_X_runTimers 79 = .ok (.getfield 91, 3) := by decide +kernel
theorem d_X_runTimers_82 : decode tb_X_runTimers 82 = .ok (.bipush 64, 2) := by decide +kernel
theorem d_X_runTimers_84 : decode tb_X_runTimers 84 = .ok (.irem, 1) := by decide +kernel
theorem d_X_runTimers_85 : decode tb_X_runTimers 85 = .ok (.ifCond .ne 27, 3) := by decide +kernel
theorem d_X_runTimers_88 : decode tb_X_runTimers 88 = .ok (.aload_n 2, 1) := by decide +kernel
theorem d_X_runTimers_89 : decode tb_X_runTimers 89 = .ok (.getfield 143, 3) := by decide +kernel
theorem d_X_runTimers_92 : decode tb_X_runTimers 92 = .ok (.iload_n 1, 1) := by decide +kernel
theorem d_X_runTimers_93 : decode tb_X_runTimers 93 = .ok (.dup2, 1) := by decide +kernel
theorem d_X_runTimers_94 : decode tb_X_runTimers 94 = .ok (.iaload, 1) := by decide +kernel
theorem d_X_runTimers_95 : decode tb_X_runTimers 95 = .ok (.iconst 1, 1) := by decide +kernel
theorem d_X_runTimers_96 : decode tb_X_runTimers 96 = .ok (.iadd, 1) := by decide +kernel
theorem d_X_runTimers_97 : decode tb_X_runTimers 97 = .ok (.iastore, 1) := by decide +kernel
theorem d_X_runTimers_98 : decode tb_X_runTimers 98 = .ok (.aload_n 0, 1) := by decide +kernel
theorem d_X_runTimers_99 : decode tb_X_runTimers 99 = .ok (.aload_n 2, 1) := by decide +kernel
theorem d_X_runTimers_100 : decode tb_X_runTimers 100 = .ok (.aload_n 2, 1) := by decide +kernel
theorem d_X_runTimers_101 : decode tb_X_runTimers 101 = .ok (.invokestatic 251, 3) := by decide +kernel
theorem d_X_runTimers_104 : decode tb_X_runTimers 104 = .ok (.aload_n 2, 1) := by decide +kernel
theorem d_X_runTimers_105 : decode tb_X_runTimers 105 = .ok (.getfield 115, 3) := by decide +kernel
theorem d_X_runTimers_108 : decode tb_X_runTimers 108 = .ok (.iconst 0, 1) := by decide +kernel
theorem d_X_runTimers_109 : decode tb_X_runTimers 109 = .ok (.invokevirtual 254, 3) := by decide +kernel
theorem d_X_runTimers_112 : decode tb_X_runTimers 112 = .ok (.iinc 1 1, 3) := by decide +kernel
theorem d_X_runTimers_115 : decode tb_X_runTimers 115 = .ok (.goto (-113), 3) := by decide +kernel
theorem d_X_runTimers_118 : decode tb_X_runTimers 118 = .ok (.return_, 1) := by decide +kernel
theorem d_X_runTimer_0 : decode tb_X_runTimer 0 = .ok (.aload_n 1, 1) := by decide +kernel
theorem d_X_runTimer_1 : decode tb_X_runTimer 1 = .ok (.getfield 48, 3) := by decide +kernel
theorem d_X_runTimer_4 : decode tb_X_runTimer 4 = .ok (.astore_n 2, 1) := by decide +kernel
theorem d_X_runTimer_5 : decode tb_X_runTimer 5 = .ok (.aload_n 2, 1) := by decide +kernel
theorem d_X_runTimer_6 : decode tb_X_runTimer 6 = .ok (.dup, 1) := by decide +kernel
theorem d_X_runTimer_7 : decode tb_X_runTimer 7 = .ok (.getfield 121, 3) := by decide +kernel
theorem d_X_runTimer_10 : decode tb_X_runTimer 10 = .ok (.iconst 1, 1) := by decide +kernel
theorem d_X_runTimer_11 : decode tb_X_runTimer 11 = .ok (.iadd, 1) := by decide +kernel
theorem d_X_runTimer_12 : decode tb_X_runTimer 12 = .ok (.putfield 121, 3) := by decide +kernel
theorem d_X_runTimer_15 : decode tb_X_runTimer 15 = .ok (.aload_n 2, 1) := by decide +kernel
theorem d_X_runTimer_16 : decode tb_X_runTimer 16 = .ok (.getfield 121, 3) := by decide +kernel
theorem d_X_runTimer_19 : decode tb_X_runTimer 19 = .ok (.aload_n 2, 1) := by decide +kernel
theorem d_X_runTimer_20 : decode tb_X_runTimer 20 = .ok (.getfield 258, 3) := by decide +kernel
theorem d_X_runTimer_23 : decode tb_X_runTimer 23 = .ok (.if_icmp .ne 20, 3) := by decide +kernel
theorem d_X_runTimer_26 : decode tb_X_runTimer 26 = .ok (.aload_n 2, 1) := by decide +kernel
theorem d_X_runTimer_27 : decode tb_X_runTimer 27 = .ok (.getfield 124, 3) := by decide +kernel
theorem d_X_runTimer_30 : decode tb_X_runTimer 30 = .ok (.aload_n 0, 1) := by decide +kernel
theorem d_X_runTimer_31 : decode tb_X_runTimer 31 = .ok (.getfield 36, 3) := by decide +kernel
theorem d_X_runTimer_34 : decode tb_X_runTimer 34 = .ok (.if_icmp .ge 9, 3) := by decide +kernel
theorem d_X_runTimer_37 : decode tb_X_runTimer 37 = .ok (.aload_n 0, 1) := by decide +kernel
theorem d_X_runTimer_38 : decode tb_X_runTimer 38 = .ok (.aload_n 1, 1) := by decide +kernel
theorem d_X_runTimer_39 : decode tb_X_runTimer 39 = .ok (.iconst 2, 1) := by decide +kernel
theorem d_X_runTimer_40 : decode tb_X_runTimer 40 = .ok (.invokevirtual 247, 3) := by decide +kernel
theorem d_X_runTimer_43 : decode tb_X_runTimer 43 = .ok (.aload_n 2, 1) := by decide +kernel
theorem d_X_runTimer_44 : decode tb_X_runTimer 44 = .ok (.getfield 121, 3) := by decide +kernel
theorem d_X_runTimer_47 : decode tb_X_runTimer 47 = .ok (.aload_n 2, 1) := by decide +kernel
theorem d_X_runTimer_48 : decode tb_X_runTimer 48 = .ok (.getfield 118, 3) := by decide +kernel
theorem d_X_runTimer_51 : decode tb_X_runTimer 51 = .ok (.if_icmp .ne 19, 3) := by decide +kernel
theorem d_X_runTimer_54 : decode tb_X_runTimer 54 = .ok (.aload_n 0, 1) := by decide +kernel
theorem d_X_runTimer_55 : decode tb_X_runTimer 55 = .ok (.aload_n 2, 1) := by decide +kernel
theorem d_X_runTimer_56 : decode tb_X_runTimer 56 = .ok (.bipush 64, 2) := by decide +kernel
theorem d_X_runTimer_58 : decode tb_X_runTimer 58 = .ok (.aload_n 2, 1) := by decide +kernel
theorem d_X_runTimer_59 : decode tb_X_runTimer 59 = .ok (.getfield 118, 3) := by decide +kernel
theorem d_X_runTimer_62 : decode tb_X_runTimer 62 = .ok (.iconst 2, 1) := by decide +kernel
theorem d_X_runTimer_63 : decode tb_X_runTimer 63 = .ok (.imul, 1) := by decide +kernel
theorem d_X_runTimer_64 : decode tb_X_runTimer 64 = .ok (.invokestatic 24, 3) := by decide +kernel
theorem d_X_runTimer_67 : decode tb_X_runTimer 67 = .ok (.invokevirtual 261, 3) := by decide +kernel
theorem d_X_runTimer_70 : decode tb_X_runTimer 70 = .ok (.return_, 1) := by decide +kernel
theorem d_X_resetTimer_0 : decode tb_X_resetTimer 0 = .ok (.aload_n 1, 1) := by decide +kernel
theorem d_X_resetTimer_1 : decode tb_X_resetTimer 1 = .ok (.getfield 48, 3) := by decide +kernel
theorem d_X_resetTimer_4 : decode tb_X_resetTimer 4 = .ok (.getfield 52, 3) := by decide +kernel
theorem d_X_resetTimer_7 : decode tb_X_resetTimer 7 = .ok (.ifCond .eq 23, 3) := by decide +kernel
theorem d_X_resetTimer_10 : decode tb_X_resetTimer 10 = .ok (.aload_n 1, 1) := by decide +kernel
theorem d_X_resetTimer_11 : decode tb_X_resetTimer 11 = .ok (.getfield 48, 3) := by decide +kernel
theorem d_X_resetTimer_14 : decode tb_X_resetTimer 14 = .ok (.getfield 118, 3) := by decide +kernel
theorem d_X_resetTimer_17 : decode tb_X_resetTimer 17 = .ok (.iconst 4, 1) := by decide +kernel
theorem d_X_resetTimer_18 : decode tb_X_resetTimer 18 = .ok (.if_icmp .eq 12, 3) := by decide +kernel
theorem d_X_resetTimer_21 : decode tb_X_resetTimer 21 = .ok (.aload_n 0, 1) := by decide +kernel
theorem d_X_resetTimer_22 : decode tb_X_resetTimer 22 = .ok (.aload_n 1, 1) := by decide +kernel
theorem d_X_resetTimer_23 : decode tb_X_resetTimer 23 = .ok (.getfield 48, 3) := by decide +kernel
theorem d_X_resetTimer_26 : decode tb_X_resetTimer 26 = .ok (.iconst 4, 1) := by decide +kernel
theorem d_X_resetTimer_27 : decode tb_X_resetTimer 27 = .ok (.invokevirtual 261, 3) := by decide +kernel
theorem d_X_resetTimer_30 : decode tb_X_resetTimer 30 = .ok (.return_, 1) := by decide +kernel
theorem d_X_beginInterval_0 : decode tb_X_beginInterval 0 = .ok (.iload_n 2, 1) := by decide +kernel
theorem d_X_beginInterval_1 : decode tb_X_beginInterval 1 = .ok (.iconst 2, 1) := by decide +kernel
theorem d_X_beginInterval_2 : decode tb_X_beginInterval 2 = .ok (.idiv, 1) := by decide +kernel
theorem d_X_beginInterval_3 : decode tb_X_beginInterval 3 = .ok (.istore_n 3, 1) := by decide +kernel
theorem d_X_beginInterval_4 : decode tb_X_beginInterval 4 = .ok (.aload_n 1, 1) := by decide +kernel
theorem d_X_beginInterval_5 : decode tb_X_beginInterval 5 = .ok (.iload_n 2, 1) := by decide +kernel
theorem d_X_beginInterval_6 : decode tb_X_beginInterval 6 = .ok (.putfield 118, 3) := by decide +kernel
theorem d_X_beginInterval_9 : decode tb_X_beginInterval 9 = .ok (.aload_n 1, 1) := by decide +kernel
theorem d_X_beginInterval_10 : decode tb_X_beginInterval 10 = .ok (.iconst 0, 1) := by decide +kernel
theorem d_X_beginInterval_11 : decode tb_X_beginInterval 11 = .ok (.putfield 121, 3) := by decide +kernel
theorem d_X_beginInterval_14 : decode tb_X_beginInterval 14 = .ok (.aload_n 1, 1) := by decide +kernel
theorem d_X_beginInterval_15 : decode tb_X_beginInterval 15 = .ok (.iconst 0, 1) := by decide +kernel
theorem d_X_beginInterval_16 : decode tb_X_beginInterval 16 = .ok (.putfield 124, 3) := by decide +kernel
theorem d_X_beginInterval_19 : decode tb_X_beginInterval 19 = .ok (.aload_n 1, 1) := by decide +kernel
theorem d_X_beginInterval_20 : decode tb_X_beginInterval 20 = .ok (.iload_n 3, 1) := by decide +kernel
theorem d_X_beginInterval_21 : decode tb_X_beginInterval 21 = .ok (.aload_n 0, 1) := by decide +kernel
theorem d_X_beginInterval_22 : decode tb_X_beginInterval 22 = .ok (.iload_n 3, 1) := by decide +kernel
theorem d_X_beginInterval_23 : decode tb_X_beginInterval 23 = .ok (.invokevirtual 187, 3) := by decide +kernel
theorem d_X_beginInterval_26 : decode tb_X_beginInterval 26 = .ok (.iadd, 1) := by decide +kernel
theorem d_X_beginInterval_27 : decode tb_X_beginInterval 27 = .ok (.putfield 258, 3) := by decide +kernel
theorem d_X_beginInterval_30 : decode tb_X_beginInterval 30 = .ok (.return_, 1) := by decide +kernel
theorem d_X_takeAck_0 : decode tb_X_takeAck 0 = .ok (.aload_n 1, 1) := by decide +kernel
theorem d_X_takeAck_1 : decode tb_X_takeAck 1 = .ok (.getfield 69, 3) := by decide +kernel
theorem d_X_takeAck_4 : decode tb_X_takeAck 4 = .ok (.astore_n 3, 1) := by decide +kernel
theorem d_X_takeAck_5 : decode tb_X_takeAck 5 = .ok (.aload_n 2, 1) := by decide +kernel
theorem d_X_takeAck_6 : decode tb_X_takeAck 6 = .ok (.getfield 69, 3) := by decide +kernel
theorem d_X_takeAck_9 : decode tb_X_takeAck 9 = .ok (.getfield 211, 3) := by decide +kernel
theorem d_X_takeAck_12 : decode tb_X_takeAck 12 = .ok (.aload_n 1, 1) := by decide +kernel
theorem d_X_takeAck_13 : decode tb_X_takeAck 13 = .ok (.getfield 221, 3) := by decide +kernel
theorem d_X_takeAck_16 : decode tb_X_takeAck 16 = .ok (.if_icmp .ne 7, 3) := by decide +kernel
theorem d_X_takeAck_19 : decode tb_X_takeAck 19 = .ok (.iconst 1, 1) := by decide +kernel
theorem d_X_takeAck_20 : decode tb_X_takeAck 20 = .ok (.goto 4, 3) := by decide +kernel
theorem d_X_takeAck_23 : decode tb_X_takeAck 23 = .ok (.iconst 0, 1) := by decide +kernel
theorem d_X_takeAck_24 : decode tb_X_takeAck 24 = .ok (.istore 4, 2) := by decide +kernel
theorem d_X_takeAck_26 : decode tb_X_takeAck 26 = .ok (.iload 4, 2) := by decide +kernel
theorem d_X_takeAck_28 : decode tb_X_takeAck 28 = .ok (.ifCond .eq 36, 3) := by decide +kernel
theorem d_X_takeAck_31 : decode tb_X_takeAck 31 = .ok (.aload_n 3, 1) := by decide +kernel
theorem d_X_takeAck_32 : decode tb_X_takeAck 32 = .ok (.getfield 81, 3) := by decide +kernel
theorem d_X_takeAck_35 : decode tb_X_takeAck 35 = .ok (.ifCond .eq 29, 3) := by decide +kernel
theorem d_X_takeAck_38 : decode tb_X_takeAck 38 = .ok (.aload_n 3, 1) := by decide +kernel
theorem d_X_takeAck_39 : decode tb_X_takeAck 39 = .ok (.getfield 169, 3) := by decide +kernel
theorem d_X_takeAck_42 : decode tb_X_takeAck 42 = .ok (.iconst 0, 1) := by decide +kernel
theorem d_X_takeAck_43 : decode tb_X_takeAck 43 = .ok (.aaload, 1) := by decide +kernel
theorem d_X_takeAck_44 : decode tb_X_takeAck 44 = .ok (.getfield 184, 3) := by decide +kernel
theorem d_X_takeAck_47 : decode tb_X_takeAck 47 = .ok (.aload_n 2, 1) := by decide +kernel
theorem d_X_takeAck_48 : decode tb_X_takeAck 48 = .ok (.getfield 221, 3) := by decide +kernel
theorem d_X_takeAck_51 : decode tb_X_takeAck 51 = .ok (.if_icmp .ne 13, 3) := by decide +kernel
theorem d_X_takeAck_54 : decode tb_X_takeAck 54 = .ok (.aload_n 3, 1) := by decide +kernel
theorem d_X_takeAck_55 : decode tb_X_takeAck 55 = .ok (.iconst 0, 1) := by decide +kernel
theorem d_X_takeAck_56 : decode tb_X_takeAck 56 = .ok (.putfield 81, 3) := by decide +kernel
theorem d_X_takeAck_59 : decode tb_X_takeAck 59 = .ok (.aload_n 0, 1) := by decide +kernel
theorem d_X_takeAck_60 : decode tb_X_takeAck 60 = .ok (.aload_n 3, 1) := by decide +kernel
theorem d_X_takeAck_61 : decode tb_X_takeAck 61 = .ok (.invokevirtual 198, 3) := by decide +kernel
theorem d_X_takeAck_64 : decode tb_X_takeAck 64 = .ok (.return_, 1) := by decide +kernel
theorem d_X_takeSolicit_0 : decode tb_X_takeSolicit 0 = .ok (.aload_n 1, 1) := by decide +kernel
theorem d_X_takeSolicit_1 : decode tb_X_takeSolicit 1 = .ok (.getfield 221, 3) := by decide +kernel
theorem d_X_takeSolicit_4 : decode tb_X_takeSolicit 4 = .ok (.ifCond .eq 13, 3) := by decide +kernel
theorem d_X_takeSolicit_7 : decode tb_X_takeSolicit 7 = .ok (.aload_n 1, 1) := by decide +kernel
theorem d_X_takeSolicit_8 : decode tb_X_takeSolicit 8 = .ok (.getfield 45, 3) := by decide +kernel
theorem d_X_takeSolicit_11 : decode tb_X_takeSolicit 11 = .ok (.sipush 255, 3) := by decide +kernel
theorem d_X_takeSolicit_14 : decode tb_X_takeSolicit 14 = .ok (.if_icmp .eq 8, 3) := by decide +kernel
theorem d_X_takeSolicit_17 : decode tb_X_takeSolicit 17 = .ok (.aload_n 0, 1) := by decide +kernel
theorem d_X_takeSolicit_18 : decode tb_X_takeSolicit 18 = .ok (.aload_n 1, 1) := by decide +kernel
theorem d_X_takeSolicit_19 : decode tb_X_takeSolicit 19 = .ok (.invokevirtual 58, 3) := by decide +kernel
theorem d_X_takeSolicit_22 : decode tb_X_takeSolicit 22 = .ok (.return_, 1) := by decide +kernel
theorem d_X_takeAdvert_0 : decode tb_X_takeAdvert 0 = .ok (.aload_n 2, 1) := by decide +kernel
theorem d_X_takeAdvert_1 : decode tb_X_takeAdvert 1 = .ok (.getfield 42, 3) := by decide +kernel
theorem d_X_takeAdvert_4 : decode tb_X_takeAdvert 4 = .ok (.aload_n 1, 1) := by decide +kernel
theorem d_X_takeAdvert_5 : decode tb_X_takeAdvert 5 = .ok (.getfield 42, 3) := by decide +kernel
theorem d_X_takeAdvert_8 : decode tb_X_takeAdvert 8 = .ok (.if_icmp .ge 9, 3) := by decide +kernel
theorem d_X_takeAdvert_11 : decode tb_X_takeAdvert 11 = .ok (.aload_n 0, 1) := by decide +kernel
theorem d_X_takeAdvert_12 : decode tb_X_takeAdvert 12 = .ok (.aload_n 1, 1) := by decide +kernel
theorem d_X_takeAdvert_13 : decode tb_X_takeAdvert 13 = .ok (.invokevirtual 58, 3) := by decide +kernel
theorem d_X_takeAdvert_16 : decode tb_X_takeAdvert 16 = .ok (.return_, 1) := by decide +kernel
theorem d_X_takeAdvert_17 : decode tb_X_takeAdvert 17 = .ok (.aload_n 2, 1) := by decide +kernel
theorem d_X_takeAdvert_18 : decode tb_X_takeAdvert 18 = .ok (.getfield 42, 3) := by decide +kernel
theorem d_X_takeAdvert_21 : decode tb_X_takeAdvert 21 = .ok (.aload_n 1, 1) := by decide +kernel
theorem d_X_takeAdvert_22 : decode tb_X_takeAdvert 22 = .ok (.getfield 42, 3) := by decide +kernel
theorem d_X_takeAdvert_25 : decode tb_X_takeAdvert 25 = .ok (.if_icmp .le 19, 3) := by decide +kernel
theorem d_X_takeAdvert_28 : decode tb_X_takeAdvert 28 = .ok (.aload_n 1, 1) := by decide +kernel
theorem d_X_takeAdvert_29 : decode tb_X_takeAdvert 29 = .ok (.getfield 221, 3) := by decide +kernel
theorem d_X_takeAdvert_32 : decode tb_X_takeAdvert 32 = .ok (.ifCond .eq 12, 3) := by decide +kernel
theorem d_X_takeAdvert_35 : decode tb_X_takeAdvert 35 = .ok (.aload_n 0, 1) := by decide +kernel
theorem d_X_takeAdvert_36 : decode tb_X_takeAdvert 36 = .ok (.aload_n 1, 1) := by decide +kernel
theorem d_X_takeAdvert_37 : decode tb_X_takeAdvert 37 = .ok (.aload_n 2, 1) := by decide +kernel
theorem d_X_takeAdvert_38 : decode tb_X_takeAdvert 38 = .ok (.getfield 42, 3) := by decide +kernel
theorem d_X_takeAdvert_41 : decode tb_X_takeAdvert 41 = .ok (.invokevirtual 265, 3) := by decide +kernel
theorem d_X_takeAdvert_44 : decode tb_X_takeAdvert 44 = .ok (.aload_n 1, 1) := by decide +kernel
theorem d_X_takeAdvert_45 : decode tb_X_takeAdvert 45 = .ok (.getfield 150, 3) := by decide +kernel
theorem d_X_takeAdvert_48 : decode tb_X_takeAdvert 48 = .ok (.aload_n 2, 1) := by decide +kernel
theorem d_X_takeAdvert_49 : decode tb_X_takeAdvert 49 = .ok (.getfield 221, 3) := by decide +kernel
theorem d_X_takeAdvert_52 : decode tb_X_takeAdvert 52 = .ok (.aload_n 2, 1) := by decide +kernel
theorem d_X_takeAdvert_53 : decode tb_X_takeAdvert 53 = .ok (.getfield 45, 3) := by decide +kernel
theorem d_X_takeAdvert_56 : decode tb_X_takeAdvert 56 = .ok (.iastore, 1) := by decide +kernel
theorem d_X_takeAdvert_57 : decode tb_X_takeAdvert 57 = .ok (.aload_n 1, 1) := by decide +kernel
theorem d_X_takeAdvert_58 : decode tb_X_takeAdvert 58 = .ok (.getfield 45, 3) := by decide +kernel
theorem d_X_takeAdvert_61 : decode tb_X_takeAdvert 61 = .ok (.istore_n 3, 1) := by decide +kernel
theorem d_X_takeAdvert_62 : decode tb_X_takeAdvert 62 = .ok (.aload_n 1, 1) := by decide +kernel
theorem d_X_takeAdvert_63 : decode tb_X_takeAdvert 63 = .ok (.getfield 115, 3) := by decide +kernel
theorem d_X_takeAdvert_66 : decode tb_X_takeAdvert 66 = .ok (.istore 4, 2) := by decide +kernel
theorem d_X_takeAdvert_68 : decode tb_X_takeAdvert 68 = .ok (.aload_n 1, 1) := by decide +kernel
theorem d_X_takeAdvert_69 : decode tb_X_takeAdvert 69 = .ok (.getfield 221, 3) := by decide +kernel
theorem d_X_takeAdvert_72 : decode tb_X_takeAdvert 72 = .ok (.ifCond .eq 8, 3) := by decide +kernel
theorem d_X_takeAdvert_75 : decode tb_X_takeAdvert 75 = .ok (.aload_n 0, 1) := by decide +kernel
theorem d_X_takeAdvert_76 : decode tb_X_takeAdvert 76 = .ok (.aload_n 1, 1) := by decide +kernel
theorem d_X_takeAdvert_77 : decode tb_X_takeAdvert 77 = .ok (.invokevirtual 202, 3) := by decide +kernel
theorem d_X_takeAdvert_80 : decode tb_X_takeAdvert 80 = .ok (.aload_n 1, 1) := by decide +kernel
theorem d_X_takeAdvert_81 : decode tb_X_takeAdvert 81 = .ok (.getfield 45, 3) := by decide +kernel
theorem d_X_takeAdvert_84 : decode tb_X_takeAdvert 84 = .ok (.iload_n 3, 1) := by decide +kernel
theorem d_X_takeAdvert_85 : decode tb_X_takeAdvert 85 = .ok (.if_icmp .ne 25, 3) := by decide +kernel
theorem d_X_takeAdvert_88 : decode tb_X_takeAdvert 88 = .ok (.aload_n 1, 1) := by decide +kernel
theorem d_X_takeAdvert_89 : decode tb_X_takeAdvert 89 = .ok (.getfield 115, 3) := by decide +kernel
theorem d_X_takeAdvert_92 : decode tb_X_takeAdvert 92 = .ok (.iload 4, 2) := by decide +kernel
theorem d_X_takeAdvert_94 : decode tb_X_takeAdvert 94 = .ok (.if_icmp .ne 16, 3) := by decide +kernel
theorem d_X_takeAdvert_97 : decode tb_X_takeAdvert 97 = .ok (.aload_n 1, 1) := by decide +kernel
theorem d_X_takeAdvert_98 : decode tb_X_takeAdvert 98 = .ok (.getfield 48, 3) := by decide +kernel
theorem d_X_takeAdvert_101 : decode tb_X_takeAdvert 101 = .ok (.dup, 1) := by decide +kernel
theorem d_X_takeAdvert_102 : decode tb_X_takeAdvert 102 = .ok (.getfield 124, 3) := by decide +kernel
theorem d_X_takeAdvert_105 : decode tb_X_takeAdvert 105 = .ok (.iconst 1, 1) := by decide +kernel
theorem d_X_takeAdvert_106 : decode tb_X_takeAdvert 106 = .ok (.iadd, 1) := by decide +kernel
theorem d_X_takeAdvert_107 : decode tb_X_takeAdvert 107 = .ok (.putfield 124, 3) := by decide +kernel
theorem d_X_takeAdvert_110 : decode tb_X_takeAdvert 110 = .ok (.return_, 1) := by decide +kernel
theorem d_X_takeVersion_0 : decode tb_X_takeVersion 0 = .ok (.aload_n 1, 1) := by decide +kernel
theorem d_X_takeVersion_1 : decode tb_X_takeVersion 1 = .ok (.getfield 115, 3) := by decide +kernel
theorem d_X_takeVersion_4 : decode tb_X_takeVersion 4 = .ok (.iconst (-1), 1) := by decide +kernel
theorem d_X_takeVersion_5 : decode tb_X_takeVersion 5 = .ok (.if_icmp .ne 13, 3) := by decide +kernel
theorem d_X_takeVersion_8 : decode tb_X_takeVersion 8 = .ok (.aload_n 1, 1) := by decide +kernel
theorem d_X_takeVersion_9 : decode tb_X_takeVersion 9 = .ok (.getfield 45, 3) := by decide +kernel
theorem d_X_takeVersion_12 : decode tb_X_takeVersion 12 = .ok (.sipush 255, 3) := by decide +kernel
theorem d_X_takeVersion_15 : decode tb_X_takeVersion 15 = .ok (.if_icmp .eq 7, 3) := by decide +kernel
theorem d_X_takeVersion_18 : decode tb_X_takeVersion 18 = .ok (.iconst 1, 1) := by decide +kernel
theorem d_X_takeVersion_19 : decode tb_X_takeVersion 19 = .ok (.goto 4, 3) := by decide +kernel
theorem d_X_takeVersion_22 : decode tb_X_takeVersion 22 = .ok (.iconst 0, 1) := by decide +kernel
theorem d_X_takeVersion_23 : decode tb_X_takeVersion 23 = .ok (.istore_n 3, 1) := by decide +kernel
theorem d_X_takeVersion_24 : decode tb_X_takeVersion 24 = .ok (.aload_n 1, 1) := by decide +kernel
theorem d_X_takeVersion_25 : decode tb_X_takeVersion 25 = .ok (.iload_n 2, 1) := by decide +kernel
theorem d_X_takeVersion_26 : decode tb_X_takeVersion 26 = .ok (.putfield 42, 3) := by decide +kernel
theorem d_X_takeVersion_29 : decode tb_X_takeVersion 29 = .ok (.aload_n 1, 1) := by decide +kernel
theorem d_X_takeVersion_30 : decode tb_X_takeVersion 30 = .ok (.getfield 150, 3) := by decide +kernel
theorem d_X_takeVersion_33 : decode tb_X_takeVersion 33 = .ok (.iconst 0, 1) := by decide +kernel
theorem d_X_takeVersion_34 : decode tb_X_takeVersion 34 = .ok (.invokestatic 268, 3) := by decide +kernel
theorem d_X_takeVersion_37 : decode tb_X_takeVersion 37 = .ok (.aload_n 1, 1) := by decide +kernel
theorem d_X_takeVersion_38 : decode tb_X_takeVersion 38 = .ok (.sipush 255, 3) := by decide +kernel
theorem d_X_takeVersion_41 : decode tb_X_takeVersion 41 = .ok (.putfield 136, 3) := by decide +kernel
theorem d_X_takeVersion_44 : decode tb_X_takeVersion 44 = .ok (.iload_n 3, 1) := by decide +kernel
theorem d_X_takeVersion_45 : decode tb_X_takeVersion 45 = .ok (.ifCond .eq 20, 3) := by decide +kernel
theorem d_X_takeVersion_48 : decode tb_X_takeVersion 48 = .ok (.aload_n 1, 1) := by decide +kernel
theorem d_X_takeVersion_49 : decode tb_X_takeVersion 49 = .ok (.sipush 255, 3) := by decide +kernel
theorem d_X_takeVersion_52 : decode tb_X_takeVersion 52 = .ok (.putfield 45, 3) := by decide +kernel
theorem d_X_takeVersion_55 : decode tb_X_takeVersion 55 = .ok (.aload_n 1, 1) := by decide +kernel
theorem d_X_takeVersion_56 : decode tb_X_takeVersion 56 = .ok (.iconst (-1), 1) := by decide +kernel
theorem d_X_takeVersion_57 : decode tb_X_takeVersion 57 = .ok (.putfield 115, 3) := by decide +kernel
theorem d_X_takeVersion_60 : decode tb_X_takeVersion 60 = .ok (.aload_n 0, 1) := by decide +kernel
theorem d_X_takeVersion_61 : decode tb_X_takeVersion 61 = .ok (.aload_n 1, 1) := by decide +kernel
theorem d_X_takeVersion_62 : decode tb_X_takeVersion 62 = .ok (.invokevirtual 58, 3) := by decide +kernel
theorem d_X_takeVersion_65 : decode tb_X_takeVersion 65 = .ok (.return_, 1) := by decide +kernel
theorem d_X_takeOwn_0 : decode tb_X_takeOwn 0 = .ok (.aload_n 1, 1) := by decide +kernel
theorem d_X_takeOwn_1 : decode tb_X_takeOwn 1 = .ok (.getfield 69, 3) := by decide +kernel
theorem d_X_takeOwn_4 : decode tb_X_takeOwn 4 = .ok (.aload_n 2, 1) := by decide +kernel
theorem d_X_takeOwn_5 : decode tb_X_takeOwn 5 = .ok (.getfield 221, 3) := by decide +kernel
theorem d_X_takeOwn_8 : decode tb_X_takeOwn 8 = .ok (.putfield 78, 3) := by decide +kernel
theorem d_X_takeOwn_11 : decode tb_X_takeOwn 11 = .ok (.aload_n 1, 1) := by decide +kernel
theorem d_X_takeOwn_12 : decode tb_X_takeOwn 12 = .ok (.getfield 274, 3) := by decide +kernel
theorem d_X_takeOwn_15 : decode tb_X_takeOwn 15 = .ok (.aload_n 2, 1) := by decide +kernel
theorem d_X_takeOwn_16 : decode tb_X_takeOwn 16 = .ok (.getfield 221, 3) := by decide +kernel
theorem d_X_takeOwn_19 : decode tb_X_takeOwn 19 = .ok (.iaload, 1) := by decide +kernel
theorem d_X_takeOwn_20 : decode tb_X_takeOwn 20 = .ok (.aload_n 3, 1) := by decide +kernel
theorem d_X_takeOwn_21 : decode tb_X_takeOwn 21 = .ok (.getfield 176, 3) := by decide +kernel
theorem d_X_takeOwn_24 : decode tb_X_takeOwn 24 = .ok (.if_icmp .ne 4, 3) := by decide +kernel
theorem d_X_takeOwn_27 : decode tb_X_takeOwn 27 = .ok (.return_, 1) := by decide +kernel
theorem d_X_takeOwn_28 : decode tb_X_takeOwn 28 = .ok (.aload_n 1, 1) := by decide +kernel
theorem d_X_takeOwn_29 : decode tb_X_takeOwn 29 = .ok (.getfield 274, 3) := by decide +kernel
theorem d_X_takeOwn_32 : decode tb_X_takeOwn 32 = .ok (.aload_n 2, 1) := by decide +kernel
theorem d_X_takeOwn_33 : decode tb_X_takeOwn 33 = .ok (.getfield 221, 3) := by decide +kernel
theorem d_X_takeOwn_36 : decode tb_X_takeOwn 36 = .ok (.aload_n 3, 1) := by decide +kernel
theorem d_X_takeOwn_37 : decode tb_X_takeOwn 37 = .ok (.getfield 176, 3) := by decide +kernel
theorem d_X_takeOwn_40 : decode tb_X_takeOwn 40 = .ok (.iastore, 1) := by decide +kernel
theorem d_X_takeOwn_41 : decode tb_X_takeOwn 41 = .ok (.aload_n 3, 1) := by decide +kernel
theorem d_X_takeOwn_42 : decode tb_X_takeOwn 42 = .ok (.getfield 181, 3) := by decide +kernel
theorem d_X_takeOwn_45 : decode tb_X_takeOwn 45 = .ok (.iconst 3, 1) := by decide +kernel
theorem d_X_takeOwn_46 : decode tb_X_takeOwn 46 = .ok (.if_icmp .ne 16, 3) := by decide +kernel
theorem d_X_takeOwn_49 : decode tb_X_takeOwn 49 = .ok (.aload_n 0, 1) := by decide +kernel
theorem d_X_takeOwn_50 : decode tb_X_takeOwn 50 = .ok (.aload_n 1, 1) := by decide +kernel
theorem d_X_takeOwn_51 : decode tb_X_takeOwn 51 = .ok (.aload_n 2, 1) := by decide +kernel
theorem d_X_takeOwn_52 : decode tb_X_takeOwn 52 = .ok (.getfield 221, 3) := by decide +kernel
theorem d_X_takeOwn_55 : decode tb_X_takeOwn 55 = .ok (.aload_n 3, 1) := by decide +kernel
theorem d_X_takeOwn_56 : decode tb_X_takeOwn 56 = .ok (.invokevirtual 277, 3) := by decide +kernel
theorem d_X_takeOwn_59 : decode tb_X_takeOwn 59 = .ok (.goto 13, 3) := by decide +kernel
theorem d_X_takeOwn_62 : decode tb_X_takeOwn 62 = .ok (.aload_n 0, 1) := by decide +kernel
theorem d_X_takeOwn_63 : decode tb_X_takeOwn 63 = .ok (.aload_n 1, 1) := by decide +kernel
theorem d_X_takeOwn_64 : decode tb_X_takeOwn 64 = .ok (.aload_n 2, 1) := by decide +kernel
theorem d_X_takeOwn_65 : decode tb_X_takeOwn 65 = .ok (.getfield 45, 3) := by decide +kernel
theorem d_X_takeOwn_68 : decode tb_X_takeOwn 68 = .ok (.aload_n 3, 1) := by decide +kernel
theorem d_X_takeOwn_69 : decode tb_X_takeOwn 69 = .ok (.invokevirtual 281, 3) := by decide +kernel
theorem d_X_takeOwn_72 : decode tb_X_takeOwn 72 = .ok (.return_, 1) := by decide +kernel
theorem d_X_choose_0 : decode tb_X_choose 0 = .ok (.aload_n 1, 1) := by decide +kernel
theorem d_X_choose_1 : decode tb_X_choose 1 = .ok (.getfield 45, 3) := by decide +kernel
theorem d_X_choose_4 : decode tb_X_choose 4 = .ok (.istore_n 2, 1) := by decide +kernel
theorem d_X_choose_5 : decode tb_X_choose 5 = .ok (.aload_n 1, 1) := by decide +kernel
theorem d_X_choose_6 : decode tb_X_choose 6 = .ok (.getfield 115, 3) := by decide +kernel
theorem d_X_choose_9 : decode tb_X_choose 9 = .ok (.istore_n 3, 1) := by decide +kernel
theorem d_X_choose_10 : decode tb_X_choose 10 = .ok (.aload_n 0, 1) := by decide +kernel
theorem d_X_choose_11 : decode tb_X_choose 11 = .ok (.aload_n 1, 1) := by decide +kernel
theorem d_X_choose_12 : decode tb_X_choose 12 = .ok (.invokevirtual 284, 3) := by decide +kernel
theorem d_X_choose_15 : decode tb_X_choose 15 = .ok (.istore 4, 2) := by decide +kernel
theorem d_X_choose_17 : decode tb_X_choose 17 = .ok (.iload 4, 2) := by decide +kernel
theorem d_X_choose_19 : decode tb_X_choose 19 = .ok (.iconst (-1), 1) := by decide +kernel
theorem d_X_choose_20 : decode tb_X_choose 20 = .ok (.if_icmp .ne 9, 3) := by decide +kernel
theorem d_X_choose_23 : decode tb_X_choose 23 = .ok (.sipush 255, 3) := by decide +kernel
theorem d_X_choose_26 : decode tb_X_choose 26 = .ok (.goto 10, 3) := by decide +kernel
theorem d_X_choose_29 : decode tb_X_choose 29 = .ok (.aload_n 0, 1) := by decide +kernel
theorem d_X_choose_30 : decode tb_X_choose 30 = .ok (.aload_n 1, 1) := by decide +kernel
theorem d_X_choose_31 : decode tb_X_choose 31 = .ok (.iload 4, 2) := by decide +kernel
theorem d_X_choose_33 : decode tb_X_choose 33 = .ok (.invokevirtual 287, 3) := by decide +kernel
theorem d_X_choose_36 : decode tb_X_choose 36 = .ok (.istore 5, 2) := by decide +kernel
theorem d_X_choose_38 : decode tb_X_choose 38 = .ok (.iload 5, 2) := by decide +kernel
theorem d_X_choose_40 : decode tb_X_choose 40 = .ok (.sipush 254, 3) := by decide +kernel
theorem d_X_choose_43 : decode tb_X_choose 43 = .ok (.if_icmp .gt 17, 3) := by decide +kernel
theorem d_X_choose_46 : decode tb_X_choose 46 = .ok (.iload 5, 2) := by decide +kernel
theorem d_X_choose_48 : decode tb_X_choose 48 = .ok (.aload_n 1, 1) := by decide +kernel
theorem d_X_choose_49 : decode tb_X_choose 49 = .ok (.getfield 136, 3) := by decide +kernel
theorem d_X_choose_52 : decode tb_X_choose 52 = .ok (.aload_n 0, 1) := by decide +kernel
theorem d_X_choose_53 : decode tb_X_choose 53 = .ok (.getfield 33, 3) := by decide +kernel
theorem d_X_choose_56 : decode tb_X_choose 56 = .ok (.iadd, 1) := by decide +kernel
theorem d_X_choose_57 : decode tb_X_choose 57 = .ok (.if_icmp .le 11, 3) := by decide +kernel
theorem d_X_choose_60 : decode tb_X_choose 60 = .ok (.iconst (-1), 1) := by decide +kernel
theorem d_X_choose_61 : decode tb_X_choose 61 = .ok (.istore 4, 2) := by decide +kernel
theorem d_X_choose_63 : decode tb_X_choose 63 = .ok (.sipush 255, 3) := by decide +kernel
theorem d_X_choose_66 : decode tb_X_choose 66 = .ok (.istore 5, 2) := by decide +kernel
theorem d_X_choose_68 : decode tb_X_choose 68 = .ok (.aload_n 1, 1) := by decide +kernel
theorem d_X_choose_69 : decode tb_X_choose 69 = .ok (.iload 5, 2) := by decide +kernel
theorem d_X_choose_71 : decode tb_X_choose 71 = .ok (.putfield 45, 3) := by decide +kernel
theorem d_X_choose_74 : decode tb_X_choose 74 = .ok (.aload_n 1, 1) := by decide +kernel
theorem d_X_choose_75 : decode tb_X_choose 75 = .ok (.iload 4, 2) := by decide +kernel
theorem d_X_choose_77 : decode tb_X_choose 77 = .ok (.putfield 115, 3) := by decide +kernel
theorem d_X_choose_80 : decode tb_X_choose 80 = .ok (.aload_n 1, 1) := by decide +kernel
theorem d_X_choose_81 : decode tb_X_choose 81 = .ok (.aload_n 1, 1) := by decide +kernel
theorem d_X_choose_82 : decode tb_X_choose 82 = .ok (.getfield 136, 3) := by decide +kernel
theorem d_X_choose_85 : decode tb_X_choose 85 = .ok (.iload 5, 2) := by decide +kernel
theorem d_X_choose_87 : decode tb_X_choose 87 = .ok (.invokestatic 24, 3) := by decide +kernel
theorem d_X_choose_90 : decode tb_X_choose 90 = .ok (.putfield 136, 3) := by decide +kernel
theorem d_X_choose_93 : decode tb_X_choose 93 = .ok (.iload 5, 2) := by decide +kernel
theorem d_X_choose_95 : decode tb_X_choose 95 = .ok (.sipush 255, 3) := by decide +kernel
theorem d_X_choose_98 : decode tb_X_choose 98 = .ok (.if_icmp .eq 11, 3) := by decide +kernel
theorem d_X_choose_101 : decode tb_X_choose 101 = .ok (.aload_n 1, 1) := by decide +kernel
theorem d_X_choose_102 : decode tb_X_choose 102 = .ok (.getfield 48, 3) := by decide +kernel
theorem d_X_choose_105 : decode tb_X_choose 105 = .ok (.iconst 1, 1) := by decide +kernel
theorem d_X_choose_106 : decode tb_X_choose 106 = .ok (.putfield 52, 3) := by decide +kernel
theorem d_X_choose_109 : decode tb_X_choose 109 = .ok (.iload 5, 2) := by decide +kernel
theorem d_X_choose_111 : decode tb_X_choose 111 = .ok (.iload_n 2, 1) := by decide +kernel
theorem d_X_choose_112 : decode tb_X_choose 112 = .ok (.if_icmp .ne 9, 3) := by decide +kernel
theorem d_X_choose_115 : decode tb_X_choose 115 = .ok (.iload 4, 2) := by decide +kernel
theorem d_X_choose_117 : decode tb_X_choose 117 = .ok (.iload_n 3, 1) := by decide +kernel
theorem d_X_choose_118 : decode tb_X_choose 118 = .ok (.if_icmp .eq 8, 3) := by decide +kernel
theorem d_X_choose_121 : decode tb_X_choose 121 = .ok (.aload_n 0, 1) := by decide +kernel
theorem d_X_choose_122 : decode tb_X_choose 122 = .ok (.aload_n 1, 1) := by decide +kernel
theorem d_X_choose_123 : decode tb_X_choose 123 = .ok (.invokevirtual 58, 3) := by decide +kernel
theorem d_X_choose_126 : decode tb_X_choose 126 = .ok (.iload 4, 2) := by decide +kernel
theorem d_X_choose_128 : decode tb_X_choose 128 = .ok (.iload_n 3, 1) := by decide +kernel
theorem d_X_choose_129 : decode tb_X_choose 129 = .ok (.if_icmp .eq 19, 3) := by decide +kernel
theorem d_X_choose_132 : decode tb_X_choose 132 = .ok (.iload_n 3, 1) := by decide +kernel
theorem d_X_choose_133 : decode tb_X_choose 133 = .ok (.iconst (-1), 1) := by decide +kernel
theorem d_X_choose_134 : decode tb_X_choose 134 = .ok (.if_icmp .eq 14, 3) := by decide +kernel
theorem d_X_choose_137 : decode tb_X_choose 137 = .ok (.aload_n 0, 1) := by decide +kernel
theorem d_X_choose_138 : decode tb_X_choose 138 = .ok (.aload_n 1, 1) := by decide +kernel
theorem d_X_choose_139 : decode tb_X_choose 139 = .ok (.aload_n 1, 1) := by decide +kernel
theorem d_X_choose_140 : decode tb_X_choose 140 = .ok (.invokestatic 251, 3) := by decide +kernel
theorem d_X_choose_143 : decode tb_X_choose 143 = .ok (.iload_n 3, 1) := by decide +kernel
theorem d_X_choose_144 : decode tb_X_choose 144 = .ok (.iconst 1, 1) := by decide +kernel
theorem d_X_choose_145 : decode tb_X_choose 145 = .ok (.invokevirtual 254, 3) := by decide +kernel
theorem d_X_choose_148 : decode tb_X_choose 148 = .ok (.iload 4, 2) := by decide +kernel
theorem d_X_choose_150 : decode tb_X_choose 150 = .ok (.iload_n 3, 1) := by decide +kernel
theorem d_X_choose_151 : decode tb_X_choose 151 = .ok (.if_icmp .eq 34, 3) := by decide +kernel
theorem d_X_choose_154 : decode tb_X_choose 154 = .ok (.iload 4, 2) := by decide +kernel
theorem d_X_choose_156 : decode tb_X_choose 156 = .ok (.iconst (-1), 1) := by decide +kernel
theorem d_X_choose_157 : decode tb_X_choose 157 = .ok (.if_icmp .eq 28, 3) := by decide +kernel
theorem d_X_choose_160 : decode tb_X_choose 160 = .ok (.aload_n 1, 1) := by decide +kernel
theorem d_X_choose_161 : decode tb_X_choose 161 = .ok (.getfield 143, 3) := by decide +kernel
theorem d_X_choose_164 : decode tb_X_choose 164 = .ok (.aload_n 1, 1) := by decide +kernel
theorem d_X_choose_165 : decode tb_X_choose 165 = .ok (.getfield 221, 3) := by decide +kernel
theorem d_X_choose_168 : decode tb_X_choose 168 = .ok (.dup2, 1) := by decide +kernel
theorem d_X_choose_169 : decode tb_X_choose 169 = .ok (.iaload, 1) := by decide +kernel
theorem d_X_choose_170 : decode tb_X_choose 170 = .ok (.iconst 1, 1) := by decide +kernel
theorem d_X_choose_171 : decode tb_X_choose 171 = .ok (.iadd, 1) := by decide +kernel
theorem d_X_choose_172 : decode tb_X_choose 172 = .ok (.iastore, 1) := by decide +kernel
theorem d_X_choose_173 : decode tb_X_choose 173 = .ok (.aload_n 0, 1) := by decide +kernel
theorem d_X_choose_174 : decode tb_X_choose 174 = .ok (.aload_n 1, 1) := by decide +kernel
theorem d_X_choose_175 : decode tb_X_choose 175 = .ok (.aload_n 1, 1) := by decide +kernel
theorem d_X_choose_176 : decode tb_X_choose 176 = .ok (.invokestatic 251, 3) := by decide +kernel
theorem d_X_choose_179 : decode tb_X_choose 179 = .ok (.iload 4, 2) := by decide +kernel
theorem d_X_choose_181 : decode tb_X_choose 181 = .ok (.iconst 0, 1) := by decide +kernel
theorem d_X_choose_182 : decode tb_X_choose 182 = .ok (.invokevirtual 254, 3) := by decide +kernel
theorem d_X_choose_185 : decode tb_X_choose 185 = .ok (.return_, 1) := by decide +kernel
theorem d_X_bestParent_0 : decode tb_X_bestParent 0 = .ok (.iconst (-1), 1) := by decide +kernel
theorem d_X_bestParent_1 : decode tb_X_bestParent 1 = .ok (.istore_n 2, 1) := by decide +kernel
theorem d_X_bestParent_2 : decode tb_X_bestParent 2 = .ok (.iconst 0, 1) := by decide +kernel
theorem d_X_bestParent_3 : decode tb_X_bestParent 3 = .ok (.istore_n 3, 1) := by decide +kernel
theorem d_X_bestParent_4 : decode tb_X_bestParent 4 = .ok (.iload_n 3, 1) := by decide +kernel
theorem d_X_bestParent_5 : decode tb_X_bestParent 5 = .ok (.bipush 7, 2) := by decide +kernel
theorem d_X_bestParent_7 : decode tb_X_bestParent 7 = .ok (.if_icmp .ge 73, 3) := by decide +kernel
theorem d_X_bestParent_10 : decode tb_X_bestParent 10 = .ok (.aload_n 0, 1) := by decide +kernel
theorem d_X_bestParent_11 : decode tb_X_bestParent 11 = .ok (.getfield 17, 3) := by decide +kernel
theorem d_X_bestParent_14 : decode tb_X_bestParent 14 = .ok (.aload_n 1, 1) := by decide +kernel
theorem d_X_bestParent_15 : decode tb_X_bestParent 15 = .ok (.getfield 221, 3) := by decide +kernel
theorem d_X_bestParent_18 : decode tb_X_bestParent 18 = .ok (.aaload, 1) := by decide +kernel
theorem d_X_bestParent_19 : decode tb_X_bestParent 19 = .ok (.iload_n 3, 1) := by decide +kernel
theorem d_X_bestParent_20 : decode tb_X_bestParent 20 = .ok (.iaload, 1) := by decide +kernel
theorem d_X_bestParent_21 : decode tb_X_bestParent 21 = .ok (.ifCond .le 28, 3) := by decide +kernel
theorem d_X_bestParent_24 : decode tb_X_bestParent 24 = .ok (.aload_n 1, 1) := by decide +kernel
theorem d_X_bestParent_25 : decode tb_X_bestParent 25 = .ok (.getfield 150, 3) := by decide +kernel
theorem d_X_bestParent_28 : decode tb_X_bestParent 28 = .ok (.iload_n 3, 1) := by decide +kernel
theorem d_X_bestParent_29 : decode tb_X_bestParent 29 = .ok (.iaload, 1) := by decide +kernel
theorem d_X_bestParent_30 : decode tb_X_bestParent 30 = .ok (.ifCond .eq 19, 3) := by decide +kernel
theorem d_X_bestParent_33 : decode tb_X_bestParent 33 = .ok (.aload_n 1, 1) := by decide +kernel
theorem d_X_bestParent_34 : decode tb_X_bestParent 34 = .ok (.getfield 150, 3) := by decide +kernel
theorem d_X_bestParent_37 : decode tb_X_bestParent 37 = .ok (.iload_n 3, 1) := by decide +kernel
theorem d_X_bestParent_38 : decode tb_X_bestParent 38 = .ok (.iaload, 1) := by decide +kernel
theorem d_X_bestParent_39 : decode tb_X_bestParent 39 = .ok (.sipush 255, 3) := by decide +kernel
theorem d_X_bestParent_42 : decode tb_X_bestParent 42 = .ok (.if_icmp .eq 7, 3) := by decide +kernel
theorem d_X_bestParent_45 : decode tb_X_bestParent 45 = .ok (.iconst 1, 1) := by decide +kernel
theorem d_X_bestParent_46 : decode tb_X_bestParent 46 = .ok (.goto 4, 3) := by decide +kernel
theorem d_X_bestParent_49 : decode tb_X_bestParent 49 = .ok (.iconst 0, 1) := by decide +kernel
theorem d_X_bestParent_50 : decode tb_X_bestParent 50 = .ok (.istore 4, 2) := by decide +kernel
theorem d_X_bestParent_52 : decode tb_X_bestParent 52 = .ok (.iload 4, 2) := by decide +kernel
theorem d_X_bestParent_54 : decode tb_X_bestParent 54 = .ok (.ifCond .eq 20, 3) := by decide +kernel
theorem d_X_bestParent_57 : decode tb_X_bestParent 57 = .ok (.iload_n 2, 1) := by decide +kernel
theorem d_X_bestParent_58 : decode tb_X_bestParent 58 = .ok (.iconst (-1), 1) := by decide +kernel
theorem d_X_bestParent_59 : decode tb_X_bestParent 59 = .ok (.if_icmp .eq 13, 3) := by decide +kernel
theorem d_X_bestParent_62 : decode tb_X_bestParent 62 = .ok (.aload_n 0, 1) := by decide +kernel
theorem d_X_bestParent_63 : decode tb_X_bestParent 63 = .ok (.aload_n 1, 1) := by decide +kernel
theorem d_X_bestParent_64 : decode tb_X_bestParent 64 = .ok (.iload_n 3, 1) := by decide +kernel
theorem d_X_bestParent_65 : decode tb_X_bestParent 65 = .ok (.iload_n 2, 1) := by decide +kernel
theorem d_X_bestParent_66 : decode tb_X_bestParent 66 = .ok (.invokevirtual 291, 3) := by decide +kernel
theorem d_X_bestParent_69 : decode tb_X_bestParent 69 = .ok (.ifCond .eq 5, 3) := by decide +kernel
theorem d_X_bestParent_72 : decode tb_X_bestParent 72 = .ok (.iload_n 3, 1) := by decide +kernel
theorem d_X_bestParent_73 : decode tb_X_bestParent 73 = .ok (.istore_n 2, 1) := by decide +kernel
theorem d_X_bestParent_74 : decode tb_X_bestParent 74 = .ok (.iinc 3 1, 3) := by decide +kernel
theorem d_X_bestParent_77 : decode tb_X_bestParent 77 = .ok (.goto (-73), 3) := by decide +kernel
theorem d_X_bestParent_80 : decode tb_X_bestParent 80 = .ok (.iload_n 2, 1) := by decide +kernel
theorem d_X_bestParent_81 : decode tb_X_bestParent 81 = .ok (.ireturn, 1) := by decide +kernel
theorem d_X_isBetter_0 : decode tb_X_isBetter 0 = .ok (.aload_n 0, 1) := by decide +kernel
theorem d_X_isBetter_1 : decode tb_X_isBetter 1 = .ok (.aload_n 1, 1) := by decide +kernel
theorem d_X_isBetter_2 : decode tb_X_isBetter 2 = .ok (.iload_n 2, 1) := by decide +kernel
theorem d_X_isBetter_3 : decode tb_X_isBetter 3 = .ok (.invokevirtual 287, 3) := by decide +kernel
theorem d_X_isBetter_6 : decode tb_X_isBetter 6 = .ok (.aload_n 0, 1) := by decide +kernel
theorem d_X_isBetter_7 : decode tb_X_isBetter 7 = .ok (.aload_n 1, 1) := by decide +kernel
theorem d_X_isBetter_8 : decode tb_X_isBetter 8 = .ok (.iload_n 3, 1) := by decide +kernel
theorem d_X_isBetter_9 : decode tb_X_isBetter 9 = .ok (.invokevirtual 287, 3) := by decide +kernel
theorem d_X_isBetter_12 : decode tb_X_isBetter 12 = .ok (.isub, 1) := by decide +kernel
theorem d_X_isBetter_13 : decode tb_X_isBetter 13 = .ok (.istore 4, 2) := by decide +kernel
theorem d_X_isBetter_15 : decode tb_X_isBetter 15 = .ok (.iload 4, 2) := by decide +kernel
theorem d_X_isBetter_17 : decode tb_X_isBetter 17 = .ok (.ifCond .lt 16, 3) := by decide +kernel
theorem d_X_isBetter_20 : decode tb_X_isBetter 20 = .ok (.iload 4, 2) := by decide +kernel
theorem d_X_isBetter_22 : decode tb_X_isBetter 22 = .ok (.ifCond .ne 15, 3) := by decide +kernel
theorem d_X_isBetter_25 : decode tb_X_isBetter 25 = .ok (.iload_n 2, 1) := by decide +kernel
theorem d_X_isBetter_26 : decode tb_X_isBetter 26 = .ok (.aload_n 1, 1) := by decide +kernel
theorem d_X_isBetter_27 : decode tb_X_isBetter 27 = .ok (.getfield 115, 3) := by decide +kernel
theorem d_X_isBetter_30 : decode tb_X_isBetter 30 = .ok (.if_icmp .ne 7, 3) := by decide +kernel
theorem d_X_isBetter_33 : decode tb_X_isBetter 33 = .ok (.iconst 1, 1) := by decide +kernel
theorem d_X_isBetter_34 : decode tb_X_isBetter 34 = .ok (.goto 4, 3) := by decide +kernel
theorem d_X_isBetter_37 : decode tb_X_isBetter 37 = .ok (.iconst 0, 1) := by decide +kernel
theorem d_X_isBetter_38 : decode tb_X_isBetter 38 = .ok (.ireturn, 1) := by decide +kernel
theorem d_X_rankBelow_0 : decode tb_X_rankBelow 0 = .ok (.aload_n 1, 1) := by decide +kernel
theorem d_X_rankBelow_1 : decode tb_X_rankBelow 1 = .ok (.getfield 150, 3) := by decide +kernel
theorem d_X_rankBelow_4 : decode tb_X_rankBelow 4 = .ok (.iload_n 2, 1) := by decide +kernel
theorem d_X_rankBelow_5 : decode tb_X_rankBelow 5 = .ok (.iaload, 1) := by decide +kernel
theorem d_X_rankBelow_6 : decode tb_X_rankBelow 6 = .ok (.aload_n 0, 1) := by decide +kernel
theorem d_X_rankBelow_7 : decode tb_X_rankBelow 7 = .ok (.getfield 17, 3) := by decide +kernel
theorem d_X_rankBelow_10 : decode tb_X_rankBelow 10 = .ok (.aload_n 1, 1) := by decide +kernel
theorem d_X_rankBelow_11 : decode tb_X_rankBelow 11 = .ok (.getfield 221, 3) := by decide +kernel
theorem d_X_rankBelow_14 : decode tb_X_rankBelow 14 = .ok (.aaload, 1) := by decide +kernel
theorem d_X_rankBelow_15 : decode tb_X_rankBelow 15 = .ok (.iload_n 2, 1) := by decide +kernel
theorem d_X_rankBelow_16 : decode tb_X_rankBelow 16 = .ok (.iaload, 1) := by decide +kernel
theorem d_X_rankBelow_17 : decode tb_X_rankBelow 17 = .ok (.iadd, 1) := by decide +kernel
theorem d_X_rankBelow_18 : decode tb_X_rankBelow 18 = .ok (.ireturn, 1) := by decide +kernel
theorem d_X_ownGoals_0 : decode tb_X_ownGoals 0 = .ok (.iconst 1, 1) := by decide +kernel
theorem d_X_ownGoals_1 : decode tb_X_ownGoals 1 = .ok (.aload_n 0, 1) := by decide +kernel
theorem d_X_ownGoals_2 : decode tb_X_ownGoals 2 = .ok (.getfield 221, 3) := by decide +kernel
theorem d_X_ownGoals_5 : decode tb_X_ownGoals 5 = .ok (.ishl, 1) := by decide +kernel
theorem d_X_ownGoals_6 : decode tb_X_ownGoals 6 = .ok (.istore_n 1, 1) := by decide +kernel
theorem d_X_ownGoals_7 : decode tb_X_ownGoals 7 = .ok (.iconst 0, 1) := by decide +kernel
theorem d_X_ownGoals_8 : decode tb_X_ownGoals 8 = .ok (.istore_n 2, 1) := by decide +kernel
theorem d_X_ownGoals_9 : decode tb_X_ownGoals 9 = .ok (.iload_n 2, 1) := by decide +kernel
theorem d_X_ownGoals_10 : decode tb_X_ownGoals 10 = .ok (.bipush 7, 2) := by decide +kernel
theorem d_X_ownGoals_12 : decode tb_X_ownGoals 12 = .ok (.if_icmp .ge 25, 3) := by decide +kernel
theorem d_X_ownGoals_15 : decode tb_X_ownGoals 15 = .ok (.aload_n 0, 1) := by decide +kernel
theorem d_X_ownGoals_16 : decode tb_X_ownGoals 16 = .ok (.getfield 147, 3) := by decide +kernel
theorem d_X_ownGoals_19 : decode tb_X_ownGoals 19 = .ok (.iload_n 2, 1) := by decide +kernel
theorem d_X_ownGoals_20 : decode tb_X_ownGoals 20 = .ok (.iaload, 1) := by decide +kernel
theorem d_X_ownGoals_21 : decode tb_X_ownGoals 21 = .ok (.iconst (-1), 1) := by decide +kernel
theorem d_X_ownGoals_22 : decode tb_X_ownGoals 22 = .ok (.if_icmp .eq 9, 3) := by decide +kernel
theorem d_X_ownGoals_25 : decode tb_X_ownGoals 25 = .ok (.iload_n 1, 1) := by decide +kernel
theorem d_X_ownGoals_26 : decode tb_X_ownGoals 26 = .ok (.iconst 1, 1) := by decide +kernel
theorem d_X_ownGoals_27 : decode tb_X_ownGoals 27 = .ok (.iload_n 2, 1) := by decide +kernel
theorem d_X_ownGoals_28 : decode tb_X_ownGoals 28 = .ok (.ishl, 1) := by decide +kernel
theorem d_X_ownGoals_29 : decode tb_X_ownGoals 29 = .ok (.ior, 1) := by decide +kernel
theorem d_X_ownGoals_30 : decode tb_X_ownGoals 30 = .ok (.istore_n 1, 1) := by decide +kernel
theorem d_X_ownGoals_31 : decode tb_X_ownGoals 31 = .ok (.iinc 2 1, 3) := by decide +kernel
theorem d_X_ownGoals_34 : decode tb_X_ownGoals 34 = .ok (.goto (-25), 3) := by decide +kernel
theorem d_X_ownGoals_37 : decode tb_X_ownGoals 37 = .ok (.iload_n 1, 1) := by decide +kernel
theorem d_X_ownGoals_38 : decode tb_X_ownGoals 38 = .ok (.ireturn, 1) := by decide +kernel
theorem d_X_announce_0 : decode tb_X_announce 0 = .ok (.aload_n 0, 1) := by decide +kernel
theorem d_X_announce_1 : decode tb_X_announce 1 = .ok (.aload_n 1, 1) := by decide +kernel
theorem d_X_announce_2 : decode tb_X_announce 2 = .ok (.iconst 3, 1) := by decide +kernel
theorem d_X_announce_3 : decode tb_X_announce 3 = .ok (.iload_n 3, 1) := by decide +kernel
theorem d_X_announce_4 : decode tb_X_announce 4 = .ok (.invokevirtual 194, 3) := by decide +kernel
theorem d_X_announce_7 : decode tb_X_announce 7 = .ok (.astore 5, 2) := by decide +kernel
theorem d_X_announce_9 : decode tb_X_announce 9 = .ok (.aload 5, 2) := by decide +kernel
theorem d_X_announce_11 : decode tb_X_announce 11 = .ok (.ifnonnull 4, 3) := by decide +kernel
theorem d_X_announce_14 : decode tb_X_announce 14 = .ok (.return_, 1) := by decide +kernel
theorem d_X_announce_15 : decode tb_X_announce 15 = .ok (.aload 5, 2) := by decide +kernel
theorem d_X_announce_17 : decode tb_X_announce 17 = .ok (.iload_n 2, 1) := by decide +kernel
theorem d_X_announce_18 : decode tb_X_announce 18 = .ok (.putfield 295, 3) := by decide +kernel
theorem d_X_announce_21 : decode tb_X_announce 21 = .ok (.aload 5, 2) := by decide +kernel
theorem d_X_announce_23 : decode tb_X_announce 23 = .ok (.iload 4, 2) := by decide +kernel
theorem d_X_announce_25 : decode tb_X_announce 25 = .ok (.putfield 298, 3) := by decide +kernel
theorem d_X_announce_28 : decode tb_X_announce 28 = .ok (.aload_n 1, 1) := by decide +kernel
theorem d_X_announce_29 : decode tb_X_announce 29 = .ok (.getfield 143, 3) := by decide +kernel
theorem d_X_announce_32 : decode tb_X_announce 32 = .ok (.iconst 0, 1) := by decide +kernel
theorem d_X_announce_33 : decode tb_X_announce 33 = .ok (.aload 5, 2) := by decide +kernel
theorem d_X_announce_35 : decode tb_X_announce 35 = .ok (.getfield 301, 3) := by decide +kernel
theorem d_X_announce_38 : decode tb_X_announce 38 = .ok (.iconst 0, 1) := by decide +kernel
theorem d_X_announce_39 : decode tb_X_announce 39 = .ok (.bipush 7, 2) := by decide +kernel
theorem d_X_announce_41 : decode tb_X_announce 41 = .ok (.invokestatic 302, 3) := by decide +kernel
theorem d_X_announce_44 : decode tb_X_announce 44 = .ok (.return_, 1) := by decide +kernel
theorem d_X_receiveAnnounce_0 : decode tb_X_receiveAnnounce 0 = .ok (.iconst 0, 1) := by decide +kernel
theorem d_X_receiveAnnounce_1 : decode tb_X_receiveAnnounce 1 = .ok (.istore 4, 2) := by decide +kernel
theorem d_X_receiveAnnounce_3 : decode tb_X_receiveAnnounce 3 = .ok (.iconst 0, 1) := by decide +kernel
theorem d_X_receiveAnnounce_4 : decode tb_X_receiveAnnounce 4 = .ok (.istore 5, 2) := by decide +kernel
theorem d_X_receiveAnnounce_6 : decode tb_X_receiveAnnounce 6 = .ok (.iload 5, 2) := by decide +kernel
theorem d_X_receiveAnnounce_8 : decode tb_X_receiveAnnounce 8 = .ok (.bipush 7, 2) := by decide +kernel
theorem d_X_receiveAnnounce_10 : decode tb_X_receiveAnnounce 10 = .ok (.if_icmp .ge 63, 3) := by decide +kernel
theorem d_X_receiveAnnounce_13 : decode tb_X_receiveAnnounce 13 = .ok (.aload_n 3, 1) := by decide +kernel
theorem d_X_receiveAnnounce_14 : decode tb_X_receiveAnnounce 14 = .ok (.getfield 295, 3) := by decide +kernel
theorem d_X_receiveAnnounce_17 : decode tb_X_receiveAnnounce 17 = .ok (.iload 5, 2) := by decide +kernel
theorem d_X_receiveAnnounce_19 : decode tb_X_receiveAnnounce 19 = .ok (.ishr, 1) := by decide +kernel
theorem d_X_receiveAnnounce_20 : decode tb_X_receiveAnnounce 20 = .ok (.iconst 1, 1) := by decide +kernel
theorem d_X_receiveAnnounce_21 : decode tb_X_receiveAnnounce 21 = .ok (.iand, 1) := by decide +kernel
theorem d_X_receiveAnnounce_22 : decode tb_X_receiveAnnounce 22 = .ok (.iconst 1, 1) := by decide +kernel
theorem d_X_receiveAnnounce_23 : decode tb_X_receiveAnnounce 23 = .ok (.if_icmp .ne 16, 3) := by decide +kernel
theorem d_X_receiveAnnounce_26 : decode tb_X_receiveAnnounce 26 = .ok (.iload 5, 2) := by decide +kernel
theorem d_X_receiveAnnounce_28 : decode tb_X_receiveAnnounce 28 = .ok (.aload_n 1, 1) := by decide +kernel
theorem d_X_receiveAnnounce_29 : decode tb_X_receiveAnnounce 29 = .ok (.getfield 221, 3) := by decide +kernel
theorem d_X_receiveAnnounce_32 : decode tb_X_receiveAnnounce 32 = .ok (.if_icmp .eq 7, 3) := by decide +kernel
theorem d_X_receiveAnnounce_35 : decode tb_X_receiveAnnounce 35 = .ok (.iconst 1, 1) := by decide +kernel
theorem d_X_receiveAnnounce_36 : decode tb_X_receiveAnnounce 36 = .ok (.goto 4, 3) := by decide +kernel
theorem d_X_receiveAnnounce_39 : decode tb_X_receiveAnnounce 39 = .ok (.iconst 0, 1) := by decide +kernel
theorem d_X_receiveAnnounce_40 : decode tb_X_receiveAnnounce 40 = .ok (.istore 6, 2) := by decide +kernel
theorem d_X_receiveAnnounce_42 : decode tb_X_receiveAnnounce 42 = .ok (.iload 6, 2) := by decide +kernel
theorem d_X_receiveAnnounce_44 : decode tb_X_receiveAnnounce 44 = .ok (.ifCond .eq 23, 3) := by decide +kernel
theorem d_X_receiveAnnounce_47 : decode tb_X_receiveAnnounce 47 = .ok (.aload_n 1, 1) := by decide +kernel
theorem d_X_receiveAnnounce_48 : decode tb_X_receiveAnnounce 48 = .ok (.iload 5, 2) := by decide +kernel
theorem d_X_receiveAnnounce_50 : decode tb_X_receiveAnnounce 50 = .ok (.iload_n 2, 1) := by decide +kernel
theorem d_X_receiveAnnounce_51 : decode tb_X_receiveAnnounce 51 = .ok (.aload_n 3, 1) := by decide +kernel
theorem d_X_receiveAnnounce_52 : decode tb_X_receiveAnnounce 52 = .ok (.invokestatic 308, 3) := by decide +kernel
theorem d_X_receiveAnnounce_55 : decode tb_X_receiveAnnounce 55 = .ok (.ifCond .eq 12, 3) := by decide +kernel
theorem d_X_receiveAnnounce_58 : decode tb_X_receiveAnnounce 58 = .ok (.iload 4, 2) := by decide +kernel
theorem d_X_receiveAnnounce_60 : decode tb_X_receiveAnnounce 60 = .ok (.iconst 1, 1) := by decide +kernel
theorem d_X_receiveAnnounce_61 : decode tb_X_receiveAnnounce 61 = .ok (.iload 5, 2) := by decide +kernel
theorem d_X_receiveAnnounce_63 : decode tb_X_receiveAnnounce 63 = .ok (.ishl, 1) := by decide +kernel
theorem d_X_receiveAnnounce_64 : decode tb_X_receiveAnnounce 64 = .ok (.ior, 1) := by decide +kernel
theorem d_X_receiveAnnounce_65 : decode tb_X_receiveAnnounce 65 = .ok (.istore 4, 2) := by decide +kernel
theorem d_X_receiveAnnounce_67 : decode tb_X_receiveAnnounce 67 = .ok (.iinc 5 1, 3) := by decide +kernel
theorem d_X_receiveAnnounce_70 : decode tb_X_receiveAnnounce 70 = .ok (.goto (-64), 3) := by decide +kernel
theorem d_X_receiveAnnounce_73 : decode tb_X_receiveAnnounce 73 = .ok (.iload 4, 2) := by decide +kernel
theorem d_X_receiveAnnounce_75 : decode tb_X_receiveAnnounce 75 = .ok (.ifCond .eq 26, 3) := by decide +kernel
theorem d_X_receiveAnnounce_78 : decode tb_X_receiveAnnounce 78 = .ok (.aload_n 1, 1) := by decide +kernel
theorem d_X_receiveAnnounce_79 : decode tb_X_receiveAnnounce 79 = .ok (.getfield 115, 3) := by decide +kernel
theorem d_X_receiveAnnounce_82 : decode tb_X_receiveAnnounce 82 = .ok (.iconst (-1), 1) := by decide +kernel
theorem d_X_receiveAnnounce_83 : decode tb_X_receiveAnnounce 83 = .ok (.if_icmp .eq 18, 3) := by decide +kernel
theorem d_X_receiveAnnounce_86 : decode tb_X_receiveAnnounce 86 = .ok (.aload_n 0, 1) := by decide +kernel
theorem d_X_receiveAnnounce_87 : decode tb_X_receiveAnnounce 87 = .ok (.aload_n 1, 1) := by decide +kernel
theorem d_X_receiveAnnounce_88 : decode tb_X_receiveAnnounce 88 = .ok (.iload 4, 2) := by decide +kernel
theorem d_X_receiveAnnounce_90 : decode tb_X_receiveAnnounce 90 = .ok (.aload_n 1, 1) := by decide +kernel
theorem d_X_receiveAnnounce_91 : decode tb_X_receiveAnnounce 91 = .ok (.getfield 115, 3) := by decide +kernel
theorem d_X_receiveAnnounce_94 : decode tb_X_receiveAnnounce 94 = .ok (.aload_n 3, 1) := by decide +kernel
theorem d_X_receiveAnnounce_95 : decode tb_X_receiveAnnounce 95 = .ok (.getfield 298, 3) := by decide +kernel
theorem d_X_receiveAnnounce_98 : decode tb_X_receiveAnnounce 98 = .ok (.invokevirtual 254, 3) := by decide +kernel
theorem d_X_receiveAnnounce_101 : decode tb_X_receiveAnnounce 101 = .ok (.return_, 1) := by decide +kernel
theorem d_X_changeRoute_0 : decode tb_X_changeRoute 0 = .ok (.aload_n 3, 1) := by decide +kernel
theorem d_X_changeRoute_1 : decode tb_X_changeRoute 1 = .ok (.getfield 301, 3) := by decide +kernel
theorem d_X_changeRoute_4 : decode tb_X_changeRoute 4 = .ok (.iload_n 1, 1) := by decide +kernel
theorem d_X_changeRoute_5 : decode tb_X_changeRoute 5 = .ok (.iaload, 1) := by decide +kernel
theorem d_X_changeRoute_6 : decode tb_X_changeRoute 6 = .ok (.istore 4, 2) := by decide +kernel
theorem d_X_changeRoute_8 : decode tb_X_changeRoute 8 = .ok (.iload 4, 2) := by decide +kernel
theorem d_X_changeRoute_10 : decode tb_X_changeRoute 10 = .ok (.aload_n 0, 1) := by decide +kernel
theorem d_X_changeRoute_11 : decode tb_X_changeRoute 11 = .ok (.getfield 143, 3) := by decide +kernel
theorem d_X_changeRoute_14 : decode tb_X_changeRoute 14 = .ok (.iload_n 1, 1) := by decide +kernel
theorem d_X_changeRoute_15 : decode tb_X_changeRoute 15 = .ok (.iaload, 1) := by decide +kernel
theorem d_X_changeRoute_16 : decode tb_X_changeRoute 16 = .ok (.if_icmp .lt 20, 3) := by decide +kernel
theorem d_X_changeRoute_19 : decode tb_X_changeRoute 19 = .ok (.aload_n 3, 1) := by decide +kernel
theorem d_X_changeRoute_20 : decode tb_X_changeRoute 20 = .ok (.getfield 298, 3) := by decide +kernel
theorem d_X_changeRoute_23 : decode tb_X_changeRoute 23 = .ok (.ifCond .eq 15, 3) := by decide +kernel
theorem d_X_changeRoute_26 : decode tb_X_changeRoute 26 = .ok (.aload_n 0, 1) := by decide +kernel
theorem d_X_changeRoute_27 : decode tb_X_changeRoute 27 = .ok (.getfield 147, 3) := by decide +kernel
theorem d_X_changeRoute_30 : decode tb_X_changeRoute 30 = .ok (.iload_n 1, 1) := by decide +kernel
theorem d_X_changeRoute_31 : decode tb_X_changeRoute 31 = .ok (.iaload, 1) := by decide +kernel
theorem d_X_changeRoute_32 : decode tb_X_changeRoute 32 = .ok (.iload_n 2, 1) := by decide +kernel
theorem d_X_changeRoute_33 : decode tb_X_changeRoute 33 = .ok (.if_icmp .eq 5, 3) := by decide +kernel
theorem d_X_changeRoute_36 : decode tb_X_changeRoute 36 = .ok (.iconst 0, 1) := by decide +kernel
theorem d_X_changeRoute_37 : decode tb_X_changeRoute 37 = .ok (.ireturn, 1) := by decide +kernel
theorem d_X_changeRoute_38 : decode tb_X_changeRoute 38 = .ok (.aload_n 3, 1) := by decide +kernel
theorem d_X_changeRoute_39 : decode tb_X_changeRoute 39 = .ok (.getfield 298, 3) := by decide +kernel
theorem d_X_changeRoute_42 : decode tb_X_changeRoute 42 = .ok (.ifCond .eq 7, 3) := by decide +kernel
theorem d_X_changeRoute_45 : decode tb_X_changeRoute 45 = .ok (.iconst (-1), 1) := by decide +kernel
theorem d_X_changeRoute_46 : decode tb_X_changeRoute 46 = .ok (.goto 4, 3) := by decide +kernel
theorem d_X_changeRoute_49 : decode tb_X_changeRoute 49 = .ok (.iload_n 2, 1) := by decide +kernel
theorem d_X_changeRoute_50 : decode tb_X_changeRoute 50 = .ok (.istore 5, 2) := by decide +kernel
theorem d_X_changeRoute_52 : decode tb_X_changeRoute 52 = .ok (.iload 4, 2) := by decide +kernel
theorem d_X_changeRoute_54 : decode tb_X_changeRoute 54 = .ok (.aload_n 0, 1) := by decide +kernel
theorem d_X_changeRoute_55 : decode tb_X_changeRoute 55 = .ok (.getfield 143, 3) := by decide +kernel
theorem d_X_changeRoute_58 : decode tb_X_changeRoute 58 = .ok (.iload_n 1, 1) := by decide +kernel
theorem d_X_changeRoute_59 : decode tb_X_changeRoute 59 = .ok (.iaload, 1) := by decide +kernel
theorem d_X_changeRoute_60 : decode tb_X_changeRoute 60 = .ok (.if_icmp .ne 14, 3) := by decide +kernel
theorem d_X_changeRoute_63 : decode tb_X_changeRoute 63 = .ok (.iload 5, 2) := by decide +kernel
theorem d_X_changeRoute_65 : decode tb_X_changeRoute 65 = .ok (.aload_n 0, 1) := by decide +kernel
theorem d_X_changeRoute_66 : decode tb_X_changeRoute 66 = .ok (.getfield 147, 3) := by decide +kernel
theorem d_X_changeRoute_69 : decode tb_X_changeRoute 69 = .ok (.iload_n 1, 1) := by decide +kernel
theorem d_X_changeRoute_70 : decode tb_X_changeRoute 70 = .ok (.iaload, 1) := by decide +kernel
theorem d_X_changeRoute_71 : decode tb_X_changeRoute 71 = .ok (.if_icmp .eq 7, 3) := by decide +kernel
theorem d_X_changeRoute_74 : decode tb_X_changeRoute 74 = .ok (.iconst 1, 1) := by decide +kernel
theorem d_X_changeRoute_75 : decode tb_X_changeRoute 75 = .ok (.goto 4, 3) := by decide +kernel
theorem d_X_changeRoute_78 : decode tb_X_changeRoute 78 = .ok (.iconst 0, 1) := by decide +kernel
theorem d_X_changeRoute_79 : decode tb_X_changeRoute 79 = .ok (.istore 6, 2) := by decide +kernel
theorem d_X_changeRoute_81 : decode tb_X_changeRoute 81 = .ok (.aload_n 0, 1) := by decide +kernel
theorem d_X_changeRoute_82 : decode tb_X_changeRoute 82 = .ok (.getfield 143, 3) := by decide +kernel
theorem d_X_changeRoute_85 : decode tb_X_changeRoute 85 = .ok (.iload_n 1, 1) := by decide +kernel
theorem d_X_changeRoute_86 : decode tb_X_changeRoute 86 = .ok (.iload 4, 2) := by decide +kernel
theorem d_X_changeRoute_88 : decode tb_X_changeRoute 88 = .ok (.iastore, 1) := by decide +kernel
theorem d_X_changeRoute_89 : decode tb_X_changeRoute 89 = .ok (.aload_n 0, 1) := by decide +kernel
theorem d_X_changeRoute_90 : decode tb_X_changeRoute 90 = .ok (.getfield 147, 3) := by decide +kernel
theorem d_X_changeRoute_93 : decode tb_X_changeRoute 93 = .ok (.iload_n 1, 1) := by decide +kernel
theorem d_X_changeRoute_94 : decode tb_X_changeRoute 94 = .ok (.iload 5, 2) := by decide +kernel
theorem d_X_changeRoute_96 : decode tb_X_changeRoute 96 = .ok (.iastore, 1) := by decide +kernel
theorem d_X_changeRoute_97 : decode tb_X_changeRoute 97 = .ok (.iload 6, 2) := by decide +kernel
theorem d_X_changeRoute_99 : decode tb_X_changeRoute 99 = .ok (.ireturn, 1) := by decide +kernel
theorem d_X_sendOn_0 : decode tb_X_sendOn 0 = .ok (.aload_n 1, 1) := by decide +kernel
theorem d_X_sendOn_1 : decode tb_X_sendOn 1 = .ok (.getfield 147, 3) := by decide +kernel
theorem d_X_sendOn_4 : decode tb_X_sendOn 4 = .ok (.iload_n 3, 1) := by decide +kernel
theorem d_X_sendOn_5 : decode tb_X_sendOn 5 = .ok (.iaload, 1) := by decide +kernel
theorem d_X_sendOn_6 : decode tb_X_sendOn 6 = .ok (.iconst (-1), 1) := by decide +kernel
theorem d_X_sendOn_7 : decode tb_X_sendOn 7 = .ok (.if_icmp .eq 7, 3) := by decide +kernel
theorem d_X_sendOn_10 : decode tb_X_sendOn 10 = .ok (.iconst 1, 1) := by decide +kernel
theorem d_X_sendOn_11 : decode tb_X_sendOn 11 = .ok (.goto 4, 3) := by decide +kernel
theorem d_X_sendOn_14 : decode tb_X_sendOn 14 = .ok (.iconst 0, 1) := by decide +kernel
theorem d_X_sendOn_15 : decode tb_X_sendOn 15 = .ok (.istore 7, 2) := by decide +kernel
theorem d_X_sendOn_17 : decode tb_X_sendOn 17 = .ok (.iload 7, 2) := by decide +kernel
theorem d_X_sendOn_19 : decode tb_X_sendOn 19 = .ok (.ifCond .eq 12, 3) := by decide +kernel
theorem d_X_sendOn_22 : decode tb_X_sendOn 22 = .ok (.aload_n 1, 1) := by decide +kernel
theorem d_X_sendOn_23 : decode tb_X_sendOn 23 = .ok (.getfield 147, 3) := by decide +kernel
theorem d_X_sendOn_26 : decode tb_X_sendOn 26 = .ok (.iload_n 3, 1) := by decide +kernel
theorem d_X_sendOn_27 : decode tb_X_sendOn 27 = .ok (.iaload, 1) := by decide +kernel
theorem d_X_sendOn_28 : decode tb_X_sendOn 28 = .ok (.goto 7, 3) := by decide +kernel
theorem d_X_sendOn_31 : decode tb_X_sendOn 31 = .ok (.aload_n 1, 1) := by decide +kernel
theorem d_X_sendOn_32 : decode tb_X_sendOn 32 = .ok (.getfield 115, 3) := by decide +kernel
theorem d_X_sendOn_35 : decode tb_X_sendOn 35 = .ok (.istore 8, 2) := by decide +kernel
theorem d_X_sendOn_37 : decode tb_X_sendOn 37 = .ok (.iload 8, 2) := by decide +kernel
theorem d_X_sendOn_39 : decode tb_X_sendOn 39 = .ok (.iconst (-1), 1) := by decide +kernel
theorem d_X_sendOn_40 : decode tb_X_sendOn 40 = .ok (.if_icmp .ne 7, 3) := by decide +kernel
theorem d_X_sendOn_43 : decode tb_X_sendOn 43 = .ok (.aconst_null, 1) := by decide +kernel
theorem d_X_sendOn_44 : decode tb_X_sendOn 44 = .ok (.goto 11, 3) := by decide +kernel
theorem d_X_sendOn_47 : decode tb_X_sendOn 47 = .ok (.aload_n 0, 1) := by decide +kernel
theorem d_X_sendOn_48 : decode tb_X_sendOn 48 = .ok (.aload_n 1, 1) := by decide +kernel
theorem d_X_sendOn_49 : decode tb_X_sendOn 49 = .ok (.iconst 4, 1) := by decide +kernel
theorem d_X_sendOn_50 : decode tb_X_sendOn 50 = .ok (.iload 8, 2) := by decide +kernel
theorem d_X_sendOn_52 : decode tb_X_sendOn 52 = .ok (.invokevirtual 194, 3) := by decide +kernel
theorem d_X_sendOn_55 : decode tb_X_sendOn 55 = .ok (.astore 9, 2) := by decide +kernel
theorem d_X_sendOn_57 : decode tb_X_sendOn 57 = .ok (.aload 9, 2) := by decide +kernel
theorem d_X_sendOn_59 : decode tb_X_sendOn 59 = .ok (.ifnonnull 14, 3) := by decide +kernel
theorem d_X_sendOn_62 : decode tb_X_sendOn 62 = .ok (.aload_n 0, 1) := by decide +kernel
theorem d_X_sendOn_63 : decode tb_X_sendOn 63 = .ok (.dup, 1) := by decide +kernel
theorem d_X_sendOn_64 : decode tb_X_sendOn 64 = .ok (.getfield 159, 3) := by decide +kernel
theorem d_X_sendOn_67 : decode tb_X_sendOn 67 = .ok (.iconst 1, 1) := by decide +kernel
theorem d_X_sendOn_68 : decode tb_X_sendOn 68 = .ok (.iadd, 1) := by decide +kernel
theorem d_X_sendOn_69 : decode tb_X_sendOn 69 = .ok (.putfield 159, 3) := by decide +kernel
theorem d_X_sendOn_72 : decode tb_X_sendOn 72 = .ok (.return_, 1) := by decide +kernel
theorem d_X_sendOn_73 : decode tb_X_sendOn 73 = .ok (.aload 9, 2) := by decide +kernel
theorem d_X_sendOn_75 : decode tb_X_sendOn 75 = .ok (.iload_n 2, 1) := by decide +kernel
theorem d_X_sendOn_76 : decode tb_X_sendOn 76 = .ok (.putfield 312, 3) := by decide +kernel
theorem d_X_sendOn_79 : decode tb_X_sendOn 79 = .ok (.aload 9, 2) := by decide +kernel
theorem d_X_sendOn_81 : decode tb_X_sendOn 81 = .ok (.iload_n 3, 1) := by decide +kernel
theorem d_X_sendOn_82 : decode tb_X_sendOn 82 = .ok (.putfield 315, 3) := by decide +kernel
theorem d_X_sendOn_85 : decode tb_X_sendOn 85 = .ok (.aload 9, 2) := by decide +kernel
theorem d_X_sendOn_87 : decode tb_X_sendOn 87 = .ok (.iload 4, 2) := by decide +kernel
theorem d_X_sendOn_89 : decode tb_X_sendOn 89 = .ok (.putfield 318, 3) := by decide +kernel
theorem d_X_sendOn_92 : decode tb_X_sendOn 92 = .ok (.aload 9, 2) := by decide +kernel
theorem d_X_sendOn_94 : decode tb_X_sendOn 94 = .ok (.iload 5, 2) := by decide +kernel
theorem d_X_sendOn_96 : decode tb_X_sendOn 96 = .ok (.putfield 321, 3) := by decide +kernel
theorem d_X_sendOn_99 : decode tb_X_sendOn 99 = .ok (.aload 9, 2) := by decide +kernel
theorem d_X_sendOn_101 : decode tb_X_sendOn 101 = .ok (.iload 7, 2) := by decide +kernel
theorem d_X_sendOn_103 : decode tb_X_sendOn 103 = .ok (.putfield 324, 3) := by decide +kernel
theorem d_X_sendOn_106 : decode tb_X_sendOn 106 = .ok (.aload 9, 2) := by decide +kernel
theorem d_X_sendOn_108 : decode tb_X_sendOn 108 = .ok (.iload 6, 2) := by decide +kernel
theorem d_X_sendOn_110 : decode tb_X_sendOn 110 = .ok (.putfield 327, 3) := by decide +kernel
theorem d_X_sendOn_113 : decode tb_X_sendOn 113 = .ok (.return_, 1) := by decide +kernel
theorem d_X_receiveValue_0 : decode tb_X_receiveValue 0 = .ok (.aload_n 3, 1) := by decide +kernel
theorem d_X_receiveValue_1 : decode tb_X_receiveValue 1 = .ok (.getfield 324, 3) := by decide +kernel
theorem d_X_receiveValue_4 : decode tb_X_receiveValue 4 = .ok (.ifCond .eq 19, 3) := by decide +kernel
theorem d_X_receiveValue_7 : decode tb_X_receiveValue 7 = .ok (.iload_n 2, 1) := by decide +kernel
theorem d_X_receiveValue_8 : decode tb_X_receiveValue 8 = .ok (.aload_n 1, 1) := by decide +kernel
theorem d_X_receiveValue_9 : decode tb_X_receiveValue 9 = .ok (.getfield 45, 3) := by decide +kernel
theorem d_X_receiveValue_12 : decode tb_X_receiveValue 12 = .ok (.if_icmp .lt 7, 3) := by decide +kernel
theorem d_X_receiveValue_15 : decode tb_X_receiveValue 15 = .ok (.iconst 1, 1) := by decide +kernel
theorem d_X_receiveValue_16 : decode tb_X_receiveValue 16 = .ok (.goto 20, 3) := by decide +kernel
theorem d_X_receiveValue_19 : decode tb_X_receiveValue 19 = .ok (.iconst 0, 1) := by decide +kernel
theorem d_X_receiveValue_20 : decode tb_X_receiveValue 20 = .ok (.goto 16, 3) := by decide +kernel
theorem d_X_receiveValue_23 : decode tb_X_receiveValue 23 = .ok (.iload_n 2, 1) := by decide +kernel
theorem d_X_receiveValue_24 : decode tb_X_receiveValue 24 = .ok (.aload_n 1, 1) := by decide +kernel
theorem d_X_receiveValue_25 : decode tb_X_receiveValue 25 = .ok (.getfield 45, 3) := by decide +kernel
theorem d_X_receiveValue_28 : decode tb_X_receiveValue 28 = .ok (.if_icmp .gt 7, 3) := by decide +kernel
theorem d_X_receiveValue_31 : decode tb_X_receiveValue 31 = .ok (.iconst 1, 1) := by decide +kernel
theorem d_X_receiveValue_32 : decode tb_X_receiveValue 32 = .ok (.goto 4, 3) := by decide +kernel
theorem d_X_receiveValue_35 : decode tb_X_receiveValue 35 = .ok (.iconst 0, 1) := by decide +kernel
theorem d_X_receiveValue_36 : decode tb_X_receiveValue 36 = .ok (.istore 4, 2) := by decide +kernel
theorem d_X_receiveValue_38 : decode tb_X_receiveValue 38 = .ok (.iload 4, 2) := by decide +kernel
theorem d_X_receiveValue_40 : decode tb_X_receiveValue 40 = .ok (.ifCond .eq 28, 3) := by decide +kernel
theorem d_X_receiveValue_43 : decode tb_X_receiveValue 43 = .ok (.aload_n 3, 1) := by decide +kernel
theorem d_X_receiveValue_44 : decode tb_X_receiveValue 44 = .ok (.getfield 327, 3) := by decide +kernel
theorem d_X_receiveValue_47 : decode tb_X_receiveValue 47 = .ok (.ifCond .eq 21, 3) := by decide +kernel
theorem d_X_receiveValue_50 : decode tb_X_receiveValue 50 = .ok (.aload_n 0, 1) := by decide +kernel
theorem d_X_receiveValue_51 : decode tb_X_receiveValue 51 = .ok (.dup, 1) := by decide +kernel
theorem d_X_receiveValue_52 : decode tb_X_receiveValue 52 = .ok (.getfield 159, 3) := by decide +kernel
theorem d_X_receiveValue_55 : decode tb_X_receiveValue 55 = .ok (.iconst 1, 1) := by decide +kernel
theorem d_X_receiveValue_56 : decode tb_X_receiveValue 56 = .ok (.iadd, 1) := by decide +kernel
theorem d_X_receiveValue_57 : decode tb_X_receiveValue 57 = .ok (.putfield 159, 3) := by decide +kernel
theorem d_X_receiveValue_60 : decode tb_X_receiveValue 60 = .ok (.aload_n 0, 1) := by decide +kernel
theorem d_X_receiveValue_61 : decode tb_X_receiveValue 61 = .ok (.aload_n 1, 1) := by decide +kernel
theorem d_X_receiveValue_62 : decode tb_X_receiveValue 62 = .ok (.invokevirtual 58, 3) := by decide +kernel
theorem d_X_receiveValue_65 : decode tb_X_receiveValue 65 = .ok (.goto 84, 3) := by decide +kernel
theorem d_X_receiveValue_68 : decode tb_X_receiveValue 68 = .ok (.aload_n 3, 1) := by decide +kernel
theorem d_X_receiveValue_69 : decode tb_X_receiveValue 69 = .ok (.getfield 315, 3) := by decide +kernel
theorem d_X_receiveValue_72 : decode tb_X_receiveValue 72 = .ok (.aload_n 1, 1) := by decide +kernel
theorem d_X_receiveValue_73 : decode tb_X_receiveValue 73 = .ok (.getfield 221, 3) := by decide +kernel
theorem d_X_receiveValue_76 : decode tb_X_receiveValue 76 = .ok (.if_icmp .ne 12, 3) := by decide +kernel
theorem d_X_receiveValue_79 : decode tb_X_receiveValue 79 = .ok (.aload_n 0, 1) := by decide +kernel
theorem d_X_receiveValue_80 : decode tb_X_receiveValue 80 = .ok (.aload_n 1, 1) := by decide +kernel
theorem d_X_receiveValue_81 : decode tb_X_receiveValue 81 = .ok (.aload_n 3, 1) := by decide +kernel
theorem d_X_receiveValue_82 : decode tb_X_receiveValue 82 = .ok (.invokevirtual 330, 3) := by decide +kernel
theorem d_X_receiveValue_85 : decode tb_X_receiveValue 85 = .ok (.goto 64, 3) := by decide +kernel
theorem d_X_receiveValue_88 : decode tb_X_receiveValue 88 = .ok (.aload_n 3, 1) := by decide +kernel
theorem d_X_receiveValue_89 : decode tb_X_receiveValue 89 = .ok (.getfield 318, 3) := by decide +kernel
theorem d_X_receiveValue_92 : decode tb_X_receiveValue 92 = .ok (.iconst 1, 1) := by decide +kernel
theorem d_X_receiveValue_93 : decode tb_X_receiveValue 93 = .ok (.if_icmp .gt 16, 3) := by decide +kernel
theorem d_X_receiveValue_96 : decode tb_X_receiveValue 96 = .ok (.aload_n 0, 1) := by decide +kernel
theorem d_X_receiveValue_97 : decode tb_X_receiveValue 97 = .ok (.dup, 1) := by decide +kernel
theorem d_X_receiveValue_98 : decode tb_X_receiveValue 98 = .ok (.getfield 159, 3) := by decide +kernel
theorem d_X_receiveValue_101 : decode tb_X_receiveValue 101 = .ok (.iconst 1, 1) := by decide +kernel
theorem d_X_receiveValue_102 : decode tb_X_receiveValue 102 = .ok (.iadd, 1) := by decide +kernel
theorem d_X_receiveValue_103 : decode tb_X_receiveValue 103 = .ok (.putfield 159, 3) := by decide +kernel
theorem d_X_receiveValue_106 : decode tb_X_receiveValue 106 = .ok (.goto 43, 3) := by decide +kernel
theorem d_X_receiveValue_109 : decode tb_X_receiveValue 109 = .ok (.aload_n 0, 1) := by decide +kernel
theorem d_X_receiveValue_110 : decode tb_X_receiveValue 110 = .ok (.aload_n 1, 1) := by decide +kernel
theorem d_X_receiveValue_111 : decode tb_X_receiveValue 111 = .ok (.aload_n 3, 1) := by decide +kernel
theorem d_X_receiveValue_112 : decode tb_X_receiveValue 112 = .ok (.getfield 312, 3) := by decide +kernel
theorem d_X_receiveValue_115 : decode tb_X_receiveValue 115 = .ok (.aload_n 3, 1) := by decide +kernel
theorem d_X_receiveValue_116 : decode tb_X_receiveValue 116 = .ok (.getfield 315, 3) := by decide +kernel
theorem d_X_receiveValue_119 : decode tb_X_receiveValue 119 = .ok (.aload_n 3, 1) := by decide +kernel
theorem d_X_receiveValue_120 : decode tb_X_receiveValue 120 = .ok (.getfield 318, 3) := by decide +kernel
theorem d_X_receiveValue_123 : decode tb_X_receiveValue 123 = .ok (.iconst 1, 1) := by decide +kernel
theorem d_X_receiveValue_124 : decode tb_X_receiveValue 124 = .ok (.isub, 1) := by decide +kernel
theorem d_X_receiveValue_125 : decode tb_X_receiveValue 125 = .ok (.aload_n 3, 1) := by decide +kernel
theorem d_X_receiveValue_126 : decode tb_X_receiveValue 126 = .ok (.getfield 321, 3) := by decide +kernel
theorem d_X_receiveValue_129 : decode tb_X_receiveValue 129 = .ok (.iload 4, 2) := by decide +kernel
theorem d_X_receiveValue_131 : decode tb_X_receiveValue 131 = .ok (.ifCond .ne 10, 3) := by decide +kernel
theorem d_X_receiveValue_134 : decode tb_X_receiveValue 134 = .ok (.aload_n 3, 1) := by decide +kernel
theorem d_X_receiveValue_135 : decode tb_X_receiveValue 135 = .ok (.getfield 327, 3) := by decide +kernel
theorem d_X_receiveValue_138 : decode tb_X_receiveValue 138 = .ok (.ifCond .eq 7, 3) := by decide +kernel
theorem d_X_receiveValue_141 : decode tb_X_receiveValue 141 = .ok (.iconst 1, 1) := by decide +kernel
theorem d_X_receiveValue_142 : decode tb_X_receiveValue 142 = .ok (.goto 4, 3) := by decide +kernel
theorem d_X_receiveValue_145 : decode tb_X_receiveValue 145 = .ok (.iconst 0, 1) := by decide +kernel
theorem d_X_receiveValue_146 : decode tb_X_receiveValue 146 = .ok (.invokevirtual 87, 3) := by decide +kernel
theorem d_X_receiveValue_149 : decode tb_X_receiveValue 149 = .ok (.return_, 1) := by decide +kernel
theorem d_X_deliver_0 : decode tb_X_deliver 0 = .ok (.aload_n 1, 1) := by decide +kernel
theorem d_X_deliver_1 : decode tb_X_deliver 1 = .ok (.getfield 156, 3) := by decide +kernel
theorem d_X_deliver_4 : decode tb_X_deliver 4 = .ok (.aload_n 1, 1) := by decide +kernel
theorem d_X_deliver_5 : decode tb_X_deliver 5 = .ok (.getfield 153, 3) := by decide +kernel
theorem d_X_deliver_8 : decode tb_X_deliver 8 = .ok (.bipush 8, 2) := by decide +kernel
theorem d_X_deliver_10 : decode tb_X_deliver 10 = .ok (.irem, 1) := by decide +kernel
theorem d_X_deliver_11 : decode tb_X_deliver 11 = .ok (.sipush 1000, 3) := by decide +kernel
theorem d_X_deliver_14 : decode tb_X_deliver 14 = .ok (.aload_n 2, 1) := by decide +kernel
theorem d_X_deliver_15 : decode tb_X_deliver 15 = .ok (.getfield 312, 3) := by decide +kernel
theorem d_X_deliver_18 : decode tb_X_deliver 18 = .ok (.imul, 1) := by decide +kernel
theorem d_X_deliver_19 : decode tb_X_deliver 19 = .ok (.aload_n 2, 1) := by decide +kernel
theorem d_X_deliver_20 : decode tb_X_deliver 20 = .ok (.getfield 321, 3) := by decide +kernel
theorem d_X_deliver_23 : decode tb_X_deliver 23 = .ok (.iadd, 1) := by decide +kernel
theorem d_X_deliver_24 : decode tb_X_deliver 24 = .ok (.iastore, 1) := by decide +kernel
theorem d_X_deliver_25 : decode tb_X_deliver 25 = .ok (.aload_n 1, 1) := by decide +kernel
theorem d_X_deliver_26 : decode tb_X_deliver 26 = .ok (.dup, 1) := by decide +kernel
theorem d_X_deliver_27 : decode tb_X_deliver 27 = .ok (.getfield 153, 3) := by decide +kernel
theorem d_X_deliver_30 : decode tb_X_deliver 30 = .ok (.iconst 1, 1) := by decide +kernel
theorem d_X_deliver_31 : decode tb_X_deliver 31 = .ok (.iadd, 1) := by decide +kernel
theorem d_X_deliver_32 : decode tb_X_deliver 32 = .ok (.putfield 153, 3) := by decide +kernel
theorem d_X_deliver_35 : decode tb_X_deliver 35 = .ok (.aload_n 0, 1) := by decide +kernel
theorem d_X_deliver_36 : decode tb_X_deliver 36 = .ok (.dup, 1) := by decide +kernel
theorem d_X_deliver_37 : decode tb_X_deliver 37 = .ok (.getfield 162, 3) := by decide +kernel
theorem d_X_deliver_40 : decode tb_X_deliver 40 = .ok (.iconst 1, 1) := by decide +kernel
theorem d_X_deliver_41 : decode tb_X_deliver 41 = .ok (.iadd, 1) := by decide +kernel
theorem d_X_deliver_42 : decode tb_X_deliver 42 = .ok (.putfield 162, 3) := by decide +kernel
theorem d_X_deliver_45 : decode tb_X_deliver 45 = .ok (.return_, 1) := by decide +kernel
end
section
theorem d_Y_init_0 : decode tb_Y_init 0 = .ok (.aload_n 0, 1) := by decide +kernel
theorem d_Y_init_1 : decode tb_Y_init 1 = .ok (.invokespecial 1, 3) := by decide +kernel
theorem d_Y_init_4 : decode tb_Y_init 4 = .ok (.aload_n 0, 1) := by decide +kernel
theorem d_Y_init_5 : decode tb_Y_init 5 = .ok (.bipush 49, 2) := by decide +kernel
theorem d_Y_init_7 : decode tb_Y_init 7 = .ok (.newarray .int, 2) := by decide +kernel
theorem d_Y_init_9 : decode tb_Y_init 9 = .ok (.putfield 7, 3) := by decide +kernel
theorem d_Y_init_12 : decode tb_Y_init 12 = .ok (.aload_n 0, 1) := by decide +kernel
theorem d_Y_init_13 : decode tb_Y_init 13 = .ok (.bipush 49, 2) := by decide +kernel
theorem d_Y_init_15 : decode tb_Y_init 15 = .ok (.newarray .int, 2) := by decide +kernel
theorem d_Y_init_17 : decode tb_Y_init 17 = .ok (.putfield 13, 3) := by decide +kernel
theorem d_Y_init_20 : decode tb_Y_init 20 = .ok (.aload_n 0, 1) := by decide +kernel
theorem d_Y_init_21 : decode tb_Y_init 21 = .ok (.bipush 49, 2) := by decide +kernel
theorem d_Y_init_23 : decode tb_Y_init 23 = .ok (.newarray .boolean, 2) := by decide +kernel
theorem d_Y_init_25 : decode tb_Y_init 25 = .ok (.putfield 16, 3) := by decide +kernel
theorem d_Y_init_28 : decode tb_Y_init 28 = .ok (.aload_n 0, 1) := by decide +kernel
theorem d_Y_init_29 : decode tb_Y_init 29 = .ok (.bipush 49, 2) := by decide +kernel
theorem d_Y_init_31 : decode tb_Y_init 31 = .ok (.newarray .int, 2) := by decide +kernel
theorem d_Y_init_33 : decode tb_Y_init 33 = .ok (.putfield 20, 3) := by decide +kernel
theorem d_Y_init_36 : decode tb_Y_init 36 = .ok (.aload_n 0, 1) := by decide +kernel
theorem d_Y_init_37 : decode tb_Y_init 37 = .ok (.bipush 49, 2) := by decide +kernel
theorem d_Y_init_39 : decode tb_Y_init 39 = .ok (.newarray .int, 2) := by decide +kernel
theorem d_Y_init_41 : decode tb_Y_init 41 = .ok (.putfield 23, 3) := by decide +kernel
theorem d_Y_init_44 : decode tb_Y_init 44 = .ok (.aload_n 0, 1) := by decide +kernel
theorem d_Y_init_45 : decode tb_Y_init 45 = .ok (.bipush 49, 2) := by decide +kernel
theorem d_Y_init_47 : decode tb_Y_init 47 = .ok (.newarray .int, 2) := by decide +kernel
theorem d_Y_init_49 : decode tb_Y_init 49 = .ok (.putfield 26, 3) := by decide +kernel
theorem d_Y_init_52 : decode tb_Y_init 52 = .ok (.aload_n 0, 1) := by decide +kernel
theorem d_Y_init_53 : decode tb_Y_init 53 = .ok (.bipush 7, 2) := by decide +kernel
theorem d_Y_init_55 : decode tb_Y_init 55 = .ok (.newarray .boolean, 2) := by decide +kernel
theorem d_Y_init_57 : decode tb_Y_init 57 = .ok (.putfield 29, 3) := by decide +kernel
theorem d_Y_init_60 : decode tb_Y_init 60 = .ok (.aload_n 0, 1) := by decide +kernel
theorem d_Y_init_61 : decode tb_Y_init 61 = .ok (.bipush 7, 2) := by decide +kernel
theorem d_Y_init_63 : decode tb_Y_init 63 = .ok (.newarray .int, 2) := by decide +kernel
theorem d_Y_init_65 : decode tb_Y_init 65 = .ok (.putfield 32, 3) := by decide +kernel
theorem d_Y_init_68 : decode tb_Y_init 68 = .ok (.aload_n 0, 1) := by decide +kernel
theorem d_Y_init_69 : decode tb_Y_init 69 = .ok (.bipush 7, 2) := by decide +kernel
theorem d_Y_init_71 : decode tb_Y_init 71 = .ok (.newarray .int, 2) := by decide +kernel
theorem d_Y_init_73 : decode tb_Y_init 73 = .ok (.putfield 35, 3) := by decide +kernel
theorem d_Y_init_76 : decode tb_Y_init 76 = .ok (.aload_n 0, 1) := by decide +kernel
theorem d_Y_init_77 : decode tb_Y_init 77 = .ok (.bipush 7, 2) := by decide +kernel
theorem d_Y_init_79 : decode tb_Y_init 79 = .ok (.newarray .int, 2) := by decide +kernel
theorem d_Y_init_81 : decode tb_Y_init 81 = .ok (.putfield 38, 3) := by decide +kernel
theorem d_Y_init_84 : decode tb_Y_init 84 = .ok (.aload_n 0, 1) := by decide +kernel
theorem d_Y_init_85 : decode tb_Y_init 85 = .ok (.bipush 7, 2) := by decide +kernel
theorem d_Y_init_87 : decode tb_Y_init 87 = .ok (.newarray .int, 2) := by decide +kernel
theorem d_Y_init_89 : decode tb_Y_init 89 = .ok (.putfield 41, 3) := by decide +kernel
theorem d_Y_init_92 : decode tb_Y_init 92 = .ok (.aload_n 0, 1) := by decide +kernel
theorem d_Y_init_93 : decode tb_Y_init 93 = .ok (.bipush 7, 2) := by decide +kernel
theorem d_Y_init_95 : decode tb_Y_init 95 = .ok (.newarray .boolean, 2) := by decide +kernel
theorem d_Y_init_97 : decode tb_Y_init 97 = .ok (.putfield 44, 3) := by decide +kernel
theorem d_Y_init_100 : decode tb_Y_init 100 = .ok (.aload_n 0, 1) := by decide +kernel
theorem d_Y_init_101 : decode tb_Y_init 101 = .ok (.bipush 7, 2) := by decide +kernel
theorem d_Y_init_103 : decode tb_Y_init 103 = .ok (.newarray .int, 2) := by decide +kernel
theorem d_Y_init_105 : decode tb_Y_init 105 = .ok (.putfield 47, 3) := by decide +kernel
theorem d_Y_init_108 : decode tb_Y_init 108 = .ok (.aload_n 0, 1) := by decide +kernel
theorem d_Y_init_109 : decode tb_Y_init 109 = .ok (.bipush 7, 2) := by decide +kernel
theorem d_Y_init_111 : decode tb_Y_init 111 = .ok (.newarray .int, 2) := by decide +kernel
theorem d_Y_init_113 : decode tb_Y_init 113 = .ok (.putfield 50, 3) := by decide +kernel
theorem d_Y_init_116 : decode tb_Y_init 116 = .ok (.aload_n 0, 1) := by decide +kernel
theorem d_Y_init_117 : decode tb_Y_init 117 = .ok (.bipush 7, 2) := by decide +kernel
theorem d_Y_init_119 : decode tb_Y_init 119 = .ok (.newarray .int, 2) := by decide +kernel
theorem d_Y_init_121 : decode tb_Y_init 121 = .ok (.putfield 53, 3) := by decide +kernel
theorem d_Y_init_124 : decode tb_Y_init 124 = .ok (.aload_n 0, 1) := by decide +kernel
theorem d_Y_init_125 : decode tb_Y_init 125 = .ok (.bipush 7, 2) := by decide +kernel
theorem d_Y_init_127 : decode tb_Y_init 127 = .ok (.newarray .int, 2) := by decide +kernel
theorem d_Y_init_129 : decode tb_Y_init 129 = .ok (.putfield 56, 3) := by decide +kernel
theorem d_Y_init_132 : decode tb_Y_init 132 = .ok (.aload_n 0, 1) := by decide +kernel
theorem d_Y_init_133 : decode tb_Y_init 133 = .ok (.bipush 28, 2) := by decide +kernel
theorem d_Y_init_135 : decode tb_Y_init 135 = .ok (.newarray .int, 2) := by decide +kernel
theorem d_Y_init_137 : decode tb_Y_init 137 = .ok (.putfield 59, 3) := by decide +kernel
theorem d_Y_init_140 : decode tb_Y_init 140 = .ok (.aload_n 0, 1) := by decide +kernel
theorem d_Y_init_141 : decode tb_Y_init 141 = .ok (.bipush 7, 2) := by decide +kernel
theorem d_Y_init_143 : decode tb_Y_init 143 = .ok (.newarray .int, 2) := by decide +kernel
theorem d_Y_init_145 : decode tb_Y_init 145 = .ok (.putfield 62, 3) := by decide +kernel
theorem d_Y_init_148 : decode tb_Y_init 148 = .ok (.aload_n 0, 1) := by decide +kernel
theorem d_Y_init_149 : decode tb_Y_init 149 = .ok (.bipush 7, 2) := by decide +kernel
theorem d_Y_init_151 : decode tb_Y_init 151 = .ok (.newarray .int, 2) := by decide +kernel
theorem d_Y_init_153 : decode tb_Y_init 153 = .ok (.putfield 65, 3) := by decide +kernel
theorem d_Y_init_156 : decode tb_Y_init 156 = .ok (.aload_n 0, 1) := by decide +kernel
theorem d_Y_init_157 : decode tb_Y_init 157 = .ok (.bipush 7, 2) := by decide +kernel
theorem d_Y_init_159 : decode tb_Y_init 159 = .ok (.newarray .int, 2) := by decide +kernel
theorem d_Y_init_161 : decode tb_Y_init 161 = .ok (.putfield 68, 3) := by decide +kernel
theorem d_Y_init_164 : decode tb_Y_init 164 = .ok (.aload_n 0, 1) := by decide +kernel
theorem d_Y_init_165 : decode tb_Y_init 165 = .ok (.bipush 7, 2) := by decide +kernel
theorem d_Y_init_167 : decode tb_Y_init 167 = .ok (.newarray .int, 2) := by decide +kernel
theorem d_Y_init_169 : decode tb_Y_init 169 = .ok (.putfield 71, 3) := by decide +kernel
theorem d_Y_init_172 : decode tb_Y_init 172 = .ok (.aload_n 0, 1) := by decide +kernel
theorem d_Y_init_173 : decode tb_Y_init 173 = .ok (.bipush 7, 2) := by decide +kernel
theorem d_Y_init_175 : decode tb_Y_init 175 = .ok (.newarray .int, 2) := by decide +kernel
theorem d_Y_init_177 : decode tb_Y_init 177 = .ok (.putfield 74, 3) := by decide +kernel
theorem d_Y_init_180 : decode tb_Y_init 180 = .ok (.aload_n 0, 1) := by decide +kernel
theorem d_Y_init_181 : decode tb_Y_init 181 = .ok (.bipush 7, 2) := by decide +kernel
theorem d_Y_init_183 : decode tb_Y_init 183 = .ok (.newarray .boolean, 2) := by decide +kernel
theorem d_Y_init_185 : decode tb_Y_init 185 = .ok (.putfield 77, 3) := by decide +kernel
theorem d_Y_init_188 : decode tb_Y_init 188 = .ok (.aload_n 0, 1) := by decide +kernel
theorem d_Y_init_189 : decode tb_Y_init 189 = .ok (.bipush 32, 2) := by decide +kernel
theorem d_Y_init_191 : decode tb_Y_init 191 = .ok (.newarray .boolean, 2) := by decide +kernel
theorem d_Y_init_193 : decode tb_Y_init 193 = .ok (.putfield 80, 3) := by decide +kernel
theorem d_Y_init_196 : decode tb_Y_init 196 = .ok (.aload_n 0, 1) := by decide +kernel
theorem d_Y_init_197 : decode tb_Y_init 197 = .ok (.bipush 32, 2) := by decide +kernel
theorem d_Y_init_199 : decode tb_Y_init 199 = .ok (.newarray .int, 2) := by decide +kernel
theorem d_Y_init_201 : decode tb_Y_init 201 = .ok (.putfield 83, 3) := by decide +kernel
theorem d_Y_init_204 : decode tb_Y_init 204 = .ok (.aload_n 0, 1) := by decide +kernel
theorem d_Y_init_205 : decode tb_Y_init 205 = .ok (.bipush 32, 2) := by decide +kernel
theorem d_Y_init_207 : decode tb_Y_init 207 = .ok (.newarray .int, 2) := by decide +kernel
theorem d_Y_init_209 : decode tb_Y_init 209 = .ok (.putfield 86, 3) := by decide +kernel
theorem d_Y_init_212 : decode tb_Y_init 212 = .ok (.aload_n 0, 1) := by decide +kernel
theorem d_Y_init_213 : decode tb_Y_init 213 = .ok (.bipush 32, 2) := by decide +kernel
theorem d_Y_init_215 : decode tb_Y_init 215 = .ok (.newarray .int, 2) := by decide +kernel
theorem d_Y_init_217 : decode tb_Y_init 217 = .ok (.putfield 89, 3) := by decide +kernel
theorem d_Y_init_220 : decode tb_Y_init 220 = .ok (.aload_n 0, 1) := by decide +kernel
theorem d_Y_init_221 : decode tb_Y_init 221 = .ok (.bipush 32, 2) := by decide +kernel
theorem d_Y_init_223 : decode tb_Y_init 223 = .ok (.newarray .int, 2) := by decide +kernel
theorem d_Y_init_225 : decode tb_Y_init 225 = .ok (.putfield 92, 3) := by decide +kernel
theorem d_Y_init_228 : decode tb_Y_init 228 = .ok (.aload_n 0, 1) := by decide +kernel
theorem d_Y_init_229 : decode tb_Y_init 229 = .ok (.sipush 224, 3) := by decide +kernel
theorem d_Y_init_232 : decode tb_Y_init 232 = .ok (.newarray .int, 2) := by decide +kernel
theorem d_Y_init_234 : decode tb_Y_init 234 = .ok (.putfield 95, 3) := by decide +kernel
theorem d_Y_init_237 : decode tb_Y_init 237 = .ok (.aload_n 0, 1) := by decide +kernel
theorem d_Y_init_238 : decode tb_Y_init 238 = .ok (.bipush 32, 2) := by decide +kernel
theorem d_Y_init_240 : decode tb_Y_init 240 = .ok (.newarray .boolean, 2) := by decide +kernel
theorem d_Y_init_242 : decode tb_Y_init 242 = .ok (.putfield 98, 3) := by decide +kernel
theorem d_Y_init_245 : decode tb_Y_init 245 = .ok (.aload_n 0, 1) := by decide +kernel
theorem d_Y_init_246 : decode tb_Y_init 246 = .ok (.bipush 32, 2) := by decide +kernel
theorem d_Y_init_248 : decode tb_Y_init 248 = .ok (.newarray .int, 2) := by decide +kernel
theorem d_Y_init_250 : decode tb_Y_init 250 = .ok (.putfield 101, 3) := by decide +kernel
theorem d_Y_init_253 : decode tb_Y_init 253 = .ok (.aload_n 0, 1) := by decide +kernel
theorem d_Y_init_254 : decode tb_Y_init 254 = .ok (.bipush 32, 2) := by decide +kernel
theorem d_Y_init_256 : decode tb_Y_init 256 = .ok (.newarray .int, 2) := by decide +kernel
theorem d_Y_init_258 : decode tb_Y_init 258 = .ok (.putfield 104, 3) := by decide +kernel
theorem d_Y_init_261 : decode tb_Y_init 261 = .ok (.aload_n 0, 1) := by decide +kernel
theorem d_Y_init_262 : decode tb_Y_init 262 = .ok (.bipush 32, 2) := by decide +kernel
theorem d_Y_init_264 : decode tb_Y_init 264 = .ok (.newarray .int, 2) := by decide +kernel
theorem d_Y_init_266 : decode tb_Y_init 266 = .ok (.putfield 107, 3) := by decide +kernel
theorem d_Y_init_269 : decode tb_Y_init 269 = .ok (.aload_n 0, 1) := by decide +kernel
theorem d_Y_init_270 : decode tb_Y_init 270 = .ok (.bipush 32, 2) := by decide +kernel
theorem d_Y_init_272 : decode tb_Y_init 272 = .ok (.newarray .int, 2) := by decide +kernel
theorem d_Y_init_274 : decode tb_Y_init 274 = .ok (.putfield 110, 3) := by decide +kernel
theorem d_Y_init_277 : decode tb_Y_init 277 = .ok (.aload_n 0, 1) := by decide +kernel
theorem d_Y_init_278 : decode tb_Y_init 278 = .ok (.bipush 32, 2) := by decide +kernel
theorem d_Y_init_280 : decode tb_Y_init 280 = .ok (.newarray .boolean, 2) := by decide +kernel
theorem d_Y_init_282 : decode tb_Y_init 282 = .ok (.putfield 113, 3) := by decide +kernel
theorem d_Y_init_285 : decode tb_Y_init 285 = .ok (.aload_n 0, 1) := by decide +kernel
theorem d_Y_init_286 : decode tb_Y_init 286 = .ok (.bipush 32, 2) := by decide +kernel
theorem d_Y_init_288 : decode tb_Y_init 288 = .ok (.newarray .boolean, 2) := by decide +kernel
theorem d_Y_init_290 : decode tb_Y_init 290 = .ok (.putfield 116, 3) := by decide +kernel
theorem d_Y_init_293 : decode tb_Y_init 293 = .ok (.aload_n 0, 1) := by decide +kernel
theorem d_Y_init_294 : decode tb_Y_init 294 = .ok (.bipush 7, 2) := by decide +kernel
theorem d_Y_init_296 : decode tb_Y_init 296 = .ok (.newarray .int, 2) := by decide +kernel
theorem d_Y_init_298 : decode tb_Y_init 298 = .ok (.putfield 119, 3) := by decide +kernel
theorem d_Y_init_301 : decode tb_Y_init 301 = .ok (.aload_n 0, 1) := by decide +kernel
theorem d_Y_init_302 : decode tb_Y_init 302 = .ok (.bipush 7, 2) := by decide +kernel
theorem d_Y_init_304 : decode tb_Y_init 304 = .ok (.newarray .int, 2) := by decide +kernel
theorem d_Y_init_306 : decode tb_Y_init 306 = .ok (.putfield 122, 3) := by decide +kernel
theorem d_Y_init_309 : decode tb_Y_init 309 = .ok (.aload_n 0, 1) := by decide +kernel
theorem d_Y_init_310 : decode tb_Y_init 310 = .ok (.bipush 7, 2) := by decide +kernel
theorem d_Y_init_312 : decode tb_Y_init 312 = .ok (.newarray .boolean, 2) := by decide +kernel
theorem d_Y_init_314 : decode tb_Y_init 314 = .ok (.putfield 125, 3) := by decide +kernel
theorem d_Y_init_317 : decode tb_Y_init 317 = .ok (.aload_n 0, 1) := by decide +kernel
theorem d_Y_init_318 : decode tb_Y_init 318 = .ok (.bipush 7, 2) := by decide +kernel
theorem d_Y_init_320 : decode tb_Y_init 320 = .ok (.newarray .boolean, 2) := by decide +kernel
theorem d_Y_init_322 : decode tb_Y_init 322 = .ok (.putfield 128, 3) := by decide +kernel
theorem d_Y_init_325 : decode tb_Y_init 325 = .ok (.aload_n 0, 1) := by decide +kernel
theorem d_Y_init_326 : decode tb_Y_init 326 = .ok (.bipush 7, 2) := by decide +kernel
theorem d_Y_init_328 : decode tb_Y_init 328 = .ok (.newarray .boolean, 2) := by decide +kernel
theorem d_Y_init_330 : decode tb_Y_init 330 = .ok (.putfield 131, 3) := by decide +kernel
theorem d_Y_init_333 : decode tb_Y_init 333 = .ok (.aload_n 0, 1) := by decide +kernel
theorem d_Y_init_334 : decode tb_Y_init 334 = .ok (.bipush 7, 2) := by decide +kernel
theorem d_Y_init_336 : decode tb_Y_init 336 = .ok (.newarray .int, 2) := by decide +kernel
theorem d_Y_init_338 : decode tb_Y_init 338 = .ok (.putfield 134, 3) := by decide +kernel
theorem d_Y_init_341 : decode tb_Y_init 341 = .ok (.aload_n 0, 1) := by decide +kernel
theorem d_Y_init_342 : decode tb_Y_init 342 = .ok (.bipush 56, 2) := by decide +kernel
theorem d_Y_init_344 : decode tb_Y_init 344 = .ok (.newarray .int, 2) := by decide +kernel
theorem d_Y_init_346 : decode tb_Y_init 346 = .ok (.putfield 137, 3) := by decide +kernel
theorem d_Y_init_349 : decode tb_Y_init 349 = .ok (.aload_n 0, 1) := by decide +kernel
theorem d_Y_init_350 : decode tb_Y_init 350 = .ok (.iload_n 1, 1) := by decide +kernel
theorem d_Y_init_351 : decode tb_Y_init 351 = .ok (.putfield 140, 3) := by decide +kernel
theorem d_Y_init_354 : decode tb_Y_init 354 = .ok (.aload_n 0, 1) := by decide +kernel
theorem d_Y_init_355 : decode tb_Y_init 355 = .ok (.iload_n 2, 1) := by decide +kernel
theorem d_Y_init_356 : decode tb_Y_init 356 = .ok (.ifCond .ge 7, 3) := by decide +kernel
theorem d_Y_init_359 : decode tb_Y_init 359 = .ok (.iconst 0, 1) := by decide +kernel
theorem d_Y_init_360 : decode tb_Y_init 360 = .ok (.goto 17, 3) := by decide +kernel
theorem d_Y_init_363 : decode tb_Y_init 363 = .ok (.iload_n 2, 1) := by decide +kernel
theorem d_Y_init_364 : decode tb_Y_init 364 = .ok (.sipush 200, 3) := by decide +kernel
theorem d_Y_init_367 : decode tb_Y_init 367 = .ok (.if_icmp .le 9, 3) := by decide +kernel
theorem d_Y_init_370 : decode tb_Y_init 370 = .ok (.sipush 200, 3) := by decide +kernel
theorem d_Y_init_373 : decode tb_Y_init 373 = .ok (.goto 4, 3) := by decide +kernel
theorem d_Y_init_376 : decode tb_Y_init 376 = .ok (.iload_n 2, 1) := by decide +kernel
theorem d_Y_init_377 : decode tb_Y_init 377 = .ok (.putfield 144, 3) := by decide +kernel
theorem d_Y_init_380 : decode tb_Y_init 380 = .ok (.aload_n 0, 1) := by decide +kernel
theorem d_Y_init_381 : decode tb_Y_init 381 = .ok (.iload_n 3, 1) := by decide +kernel
theorem d_Y_init_382 : decode tb_Y_init 382 = .ok (.iconst 1, 1) := by decide +kernel
theorem d_Y_init_383 : decode tb_Y_init 383 = .ok (.if_icmp .ge 7, 3) := by decide +kernel
theorem d_Y_init_386 : decode tb_Y_init 386 = .ok (.iconst 1, 1) := by decide +kernel
theorem d_Y_init_387 : decode tb_Y_init 387 = .ok (.goto 15, 3) := by decide +kernel
theorem d_Y_init_390 : decode tb_Y_init 390 = .ok (.iload_n 3, 1) := by decide +kernel
theorem d_Y_init_391 : decode tb_Y_init 391 = .ok (.bipush 9, 2) := by decide +kernel
theorem d_Y_init_393 : decode tb_Y_init 393 = .ok (.if_icmp .le 8, 3) := by decide +kernel
theorem d_Y_init_396 : decode tb_Y_init 396 = .ok (.bipush 9, 2) := by decide +kernel
theorem d_Y_init_398 : decode tb_Y_init 398 = .ok (.goto 4, 3) := by decide +kernel
theorem d_Y_init_401 : decode tb_Y_init 401 = .ok (.iload_n 3, 1) := by decide +kernel
theorem d_Y_init_402 : decode tb_Y_init 402 = .ok (.putfield 147, 3) := by decide +kernel
theorem d_Y_init_405 : decode tb_Y_init 405 = .ok (.iconst 0, 1) := by decide +kernel
theorem d_Y_init_406 : decode tb_Y_init 406 = .ok (.istore 4, 2) := by decide +kernel
theorem d_Y_init_408 : decode tb_Y_init 408 = .ok (.iload 4, 2) := by decide +kernel
theorem d_Y_init_410 : decode tb_Y_init 410 = .ok (.bipush 7, 2) := by decide +kernel
theorem d_Y_init_412 : decode tb_Y_init 412 = .ok (.if_icmp .ge 80, 3) := by decide +kernel
theorem d_Y_init_415 : decode tb_Y_init 415 = .ok (.aload_n 0, 1) := by decide +kernel
theorem d_Y_init_416 : decode tb_Y_init 416 = .ok (.getfield 32, 3) := by decide +kernel
theorem d_Y_init_419 : decode tb_Y_init 419 = .ok (.iload 4, 2) := by decide +kernel
theorem d_Y_init_421 : decode tb_Y_init 421 = .ok (.iload 4, 2) := by decide +kernel
theorem d_Y_init_423 : decode tb_Y_init 423 = .ok (.ifCond .ne 7, 3) := by decide +kernel
theorem d_Y_init_426 : decode tb_Y_init 426 = .ok (.iconst 1, 1) := by decide +kernel
theorem d_Y_init_427 : decode tb_Y_init 427 = .ok (.goto 4, 3) := by decide +kernel
theorem d_Y_init_430 : decode tb_Y_init 430 = .ok (.iconst 0, 1) := by decide +kernel
theorem d_Y_init_431 : decode tb_Y_init 431 = .ok (.iastore, 1) := by decide +kernel
theorem d_Y_init_432 : decode tb_Y_init 432 = .ok (.aload_n 0, 1) := by decide +kernel
theorem d_Y_init_433 : decode tb_Y_init 433 = .ok (.getfield 35, 3) := by decide +kernel
theorem d_Y_init_436 : decode tb_Y_init 436 = .ok (.iload 4, 2) := by decide +kernel
theorem d_Y_init_438 : decode tb_Y_init 438 = .ok (.iload 4, 2) := by decide +kernel
theorem d_Y_init_440 : decode tb_Y_init 440 = .ok (.ifCond .ne 7, 3) := by decide +kernel
theorem d_Y_init_443 : decode tb_Y_init 443 = .ok (.iconst 1, 1) := by decide +kernel
theorem d_Y_init_444 : decode tb_Y_init 444 = .ok (.goto 6, 3) := by decide +kernel
theorem d_Y_init_447 : decode tb_Y_init 447 = .ok (.sipush 255, 3) := by decide +kernel
theorem d_Y_init_450 : decode tb_Y_init 450 = .ok (.iastore, 1) := by decide +kernel
theorem d_Y_init_451 : decode tb_Y_init 451 = .ok (.aload_n 0, 1) := by decide +kernel
theorem d_Y_init_452 : decode tb_Y_init 452 = .ok (.getfield 38, 3) := by decide +kernel
theorem d_Y_init_455 : decode tb_Y_init 455 = .ok (.iload 4, 2) := by decide +kernel
theorem d_Y_init_457 : decode tb_Y_init 457 = .ok (.iconst (-1), 1) := by decide +kernel
theorem d_Y_init_458 : decode tb_Y_init 458 = .ok (.iastore, 1) := by decide +kernel
theorem d_Y_init_459 : decode tb_Y_init 459 = .ok (.aload_n 0, 1) := by decide +kernel
theorem d_Y_init_460 : decode tb_Y_init 460 = .ok (.getfield 41, 3) := by decide +kernel
theorem d_Y_init_463 : decode tb_Y_init 463 = .ok (.iload 4, 2) := by decide +kernel
theorem d_Y_init_465 : decode tb_Y_init 465 = .ok (.sipush 255, 3) := by decide +kernel
theorem d_Y_init_468 : decode tb_Y_init 468 = .ok (.iastore, 1) := by decide +kernel
theorem d_Y_init_469 : decode tb_Y_init 469 = .ok (.aload_n 0, 1) := by decide +kernel
theorem d_Y_init_470 : decode tb_Y_init 470 = .ok (.getfield 47, 3) := by decide +kernel
theorem d_Y_init_473 : decode tb_Y_init 473 = .ok (.iload 4, 2) := by decide +kernel
theorem d_Y_init_475 : decode tb_Y_init 475 = .ok (.bipush 64, 2) := by decide +kernel
theorem d_Y_init_477 : decode tb_Y_init 477 = .ok (.iastore, 1) := by decide +kernel
theorem d_Y_init_478 : decode tb_Y_init 478 = .ok (.aload_n 0, 1) := by decide +kernel
theorem d_Y_init_479 : decode tb_Y_init 479 = .ok (.getfield 74, 3) := by decide +kernel
theorem d_Y_init_482 : decode tb_Y_init 482 = .ok (.iload 4, 2) := by decide +kernel
theorem d_Y_init_484 : decode tb_Y_init 484 = .ok (.iconst (-1), 1) := by decide +kernel
theorem d_Y_init_485 : decode tb_Y_init 485 = .ok (.iastore, 1) := by decide +kernel
theorem d_Y_init_486 : decode tb_Y_init 486 = .ok (.iinc 4 1, 3) := by decide +kernel
theorem d_Y_init_489 : decode tb_Y_init 489 = .ok (.goto (-81), 3) := by decide +kernel
theorem d_Y_init_492 : decode tb_Y_init 492 = .ok (.iconst 0, 1) := by decide +kernel
theorem d_Y_init_493 : decode tb_Y_init 493 = .ok (.istore 4, 2) := by decide +kernel
theorem d_Y_init_495 : decode tb_Y_init 495 = .ok (.iload 4, 2) := by decide +kernel
theorem d_Y_init_497 : decode tb_Y_init 497 = .ok (.bipush 49, 2) := by decide +kernel
theorem d_Y_init_499 : decode tb_Y_init 499 = .ok (.if_icmp .ge 17, 3) := by decide +kernel
theorem d_Y_init_502 : decode tb_Y_init 502 = .ok (.aload_n 0, 1) := by decide +kernel
theorem d_Y_init_503 : decode tb_Y_init 503 = .ok (.getfield 20, 3) := by decide +kernel
theorem d_Y_init_506 : decode tb_Y_init 506 = .ok (.iload 4, 2) := by decide +kernel
theorem d_Y_init_508 : decode tb_Y_init 508 = .ok (.iconst (-1), 1) := by decide +kernel
theorem d_Y_init_509 : decode tb_Y_init 509 = .ok (.iastore, 1) := by decide +kernel
theorem d_Y_init_510 : decode tb_Y_init 510 = .ok (.iinc 4 1, 3) := by decide +kernel
theorem d_Y_init_513 : decode tb_Y_init 513 = .ok (.goto (-18), 3) := by decide +kernel
theorem d_Y_init_516 : decode tb_Y_init 516 = .ok (.aload_n 0, 1) := by decide +kernel
theorem d_Y_init_517 : decode tb_Y_init 517 = .ok (.getfield 44, 3) := by decide +kernel
theorem d_Y_init_520 : decode tb_Y_init 520 = .ok (.iconst 0, 1) := by decide +kernel
theorem d_Y_init_521 : decode tb_Y_init 521 = .ok (.iconst 1, 1) := by decide +kernel
theorem d_Y_init_522 : decode tb_Y_init 522 = .ok (.bastore, 1) := by decide +kernel
theorem d_Y_init_523 : decode tb_Y_init 523 = .ok (.aload_n 0, 1) := by decide +kernel
theorem d_Y_init_524 : decode tb_Y_init 524 = .ok (.iconst 0, 1) := by decide +kernel
theorem d_Y_init_525 : decode tb_Y_init 525 = .ok (.invokevirtual 150, 3) := by decide +kernel
theorem d_Y_init_528 : decode tb_Y_init 528 = .ok (.return_, 1) := by decide +kernel
theorem d_Y_draw_0 : decode tb_Y_draw 0 = .ok (.aload_n 0, 1) := by decide +kernel
theorem d_Y_draw_1 : decode tb_Y_draw 1 = .ok (.aload_n 0, 1) := by decide +kernel
theorem d_Y_draw_2 : decode tb_Y_draw 2 = .ok (.getfield 140, 3) := by decide +kernel
theorem d_Y_draw_5 : decode tb_Y_draw 5 = .ok (.ldc 154, 2) := by decide +kernel
theorem d_Y_draw_7 : decode tb_Y_draw 7 = .ok (.imul, 1) := by decide +kernel
theorem d_Y_draw_8 : decode tb_Y_draw 8 = .ok (.sipush 12345, 3) := by decide +kernel
theorem d_Y_draw_11 : decode tb_Y_draw 11 = .ok (.iadd, 1) := by decide +kernel
theorem d_Y_draw_12 : decode tb_Y_draw 12 = .ok (.putfield 140, 3) := by decide +kernel
theorem d_Y_draw_15 : decode tb_Y_draw 15 = .ok (.aload_n 0, 1) := by decide +kernel
theorem d_Y_draw_16 : decode tb_Y_draw 16 = .ok (.getfield 140, 3) := by decide +kernel
theorem d_Y_draw_19 : decode tb_Y_draw 19 = .ok (.bipush 16, 2) := by decide +kernel
theorem d_Y_draw_21 : decode tb_Y_draw 21 = .ok (.iushr, 1) := by decide +kernel
theorem d_Y_draw_22 : decode tb_Y_draw 22 = .ok (.iload_n 1, 1) := by decide +kernel
theorem d_Y_draw_23 : decode tb_Y_draw 23 = .ok (.irem, 1) := by decide +kernel
theorem d_Y_draw_24 : decode tb_Y_draw 24 = .ok (.ireturn, 1) := by decide +kernel
theorem d_Y_makeFrame_0 : decode tb_Y_makeFrame 0 = .ok (.iconst 0, 1) := by decide +kernel
theorem d_Y_makeFrame_1 : decode tb_Y_makeFrame 1 = .ok (.istore_n 3, 1) := by decide +kernel
theorem d_Y_makeFrame_2 : decode tb_Y_makeFrame 2 = .ok (.aload_n 0, 1) := by decide +kernel
theorem d_Y_makeFrame_3 : decode tb_Y_makeFrame 3 = .ok (.getfield 80, 3) := by decide +kernel
theorem d_Y_makeFrame_6 : decode tb_Y_makeFrame 6 = .ok (.iload_n 3, 1) := by decide +kernel
theorem d_Y_makeFrame_7 : decode tb_Y_makeFrame 7 = .ok (.baload, 1) := by decide +kernel
theorem d_Y_makeFrame_8 : decode tb_Y_makeFrame 8 = .ok (.ifCond .eq 9, 3) := by decide +kernel
theorem d_Y_makeFrame_11 : decode tb_Y_makeFrame 11 = .ok (.iinc 3 1, 3) := by decide +kernel
theorem d_Y_makeFrame_14 : decode tb_Y_makeFrame 14 = .ok (.goto (-12), 3) := by decide +kernel
theorem d_Y_makeFrame_17 : decode tb_Y_makeFrame 17 = .ok (.aload_n 0, 1) := by decide +kernel
theorem d_Y_makeFrame_18 : decode tb_Y_makeFrame 18 = .ok (.dup, 1) := by decide +kernel
theorem d_Y_makeFrame_19 : decode tb_Y_makeFrame 19 = .ok (.getfield 155, 3) := by decide +kernel
theorem d_Y_makeFrame_22 : decode tb_Y_makeFrame 22 = .ok (.iconst 1, 1) := by decide +kernel
theorem d_Y_makeFrame_23 : decode tb_Y_makeFrame 23 = .ok (.iadd, 1) := by decide +kernel
theorem d_Y_makeFrame_24 : decode tb_Y_makeFrame 24 = .ok (.putfield 155, 3) := by decide +kernel
theorem d_Y_makeFrame_27 : decode tb_Y_makeFrame 27 = .ok (.aload_n 0, 1) := by decide +kernel
theorem d_Y_makeFrame_28 : decode tb_Y_makeFrame 28 = .ok (.getfield 80, 3) := by decide +kernel
theorem d_Y_makeFrame_31 : decode tb_Y_makeFrame 31 = .ok (.iload_n 3, 1) := by decide +kernel
theorem d_Y_makeFrame_32 : decode tb_Y_makeFrame 32 = .ok (.iconst 1, 1) := by decide +kernel
theorem d_Y_makeFrame_33 : decode tb_Y_makeFrame 33 = .ok (.bastore, 1) := by decide +kernel
theorem d_Y_makeFrame_34 : decode tb_Y_makeFrame 34 = .ok (.aload_n 0, 1) := by decide +kernel
theorem d_Y_makeFrame_35 : decode tb_Y_makeFrame 35 = .ok (.getfield 83, 3) := by decide +kernel
theorem d_Y_makeFrame_38 : decode tb_Y_makeFrame 38 = .ok (.iload_n 3, 1) := by decide +kernel
theorem d_Y_makeFrame_39 : decode tb_Y_makeFrame 39 = .ok (.aload_n 0, 1) := by decide +kernel
theorem d_Y_makeFrame_40 : decode tb_Y_makeFrame 40 = .ok (.getfield 155, 3) := by decide +kernel
theorem d_Y_makeFrame_43 : decode tb_Y_makeFrame 43 = .ok (.iastore, 1) := by decide +kernel
theorem d_Y_makeFrame_44 : decode tb_Y_makeFrame 44 = .ok (.aload_n 0, 1) := by decide +kernel
theorem d_Y_makeFrame_45 : decode tb_Y_makeFrame 45 = .ok (.getfield 86, 3) := by decide +kernel
theorem d_Y_makeFrame_48 : decode tb_Y_makeFrame 48 = .ok (.iload_n 3, 1) := by decide +kernel
theorem d_Y_makeFrame_49 : decode tb_Y_makeFrame 49 = .ok (.iload_n 1, 1) := by decide +kernel
theorem d_Y_makeFrame_50 : decode tb_Y_makeFrame 50 = .ok (.iastore, 1) := by decide +kernel
theorem d_Y_makeFrame_51 : decode tb_Y_makeFrame 51 = .ok (.aload_n 0, 1) := by decide +kernel
theorem d_Y_makeFrame_52 : decode tb_Y_makeFrame 52 = .ok (.getfield 89, 3) := by decide +kernel
theorem d_Y_makeFrame_55 : decode tb_Y_makeFrame 55 = .ok (.iload_n 3, 1) := by decide +kernel
theorem d_Y_makeFrame_56 : decode tb_Y_makeFrame 56 = .ok (.iload_n 2, 1) := by decide +kernel
theorem d_Y_makeFrame_57 : decode tb_Y_makeFrame 57 = .ok (.iastore, 1) := by decide +kernel
theorem d_Y_makeFrame_58 : decode tb_Y_makeFrame 58 = .ok (.iload_n 3, 1) := by decide +kernel
theorem d_Y_makeFrame_59 : decode tb_Y_makeFrame 59 = .ok (.ireturn, 1) := by decide +kernel
theorem d_Y_first_0 : decode tb_Y_first 0 = .ok (.aload_n 0, 1) := by decide +kernel
theorem d_Y_first_1 : decode tb_Y_first 1 = .ok (.getfield 62, 3) := by decide +kernel
theorem d_Y_first_4 : decode tb_Y_first 4 = .ok (.iload_n 1, 1) := by decide +kernel
theorem d_Y_first_5 : decode tb_Y_first 5 = .ok (.iaload, 1) := by decide +kernel
theorem d_Y_first_6 : decode tb_Y_first 6 = .ok (.ifCond .ne 4, 3) := by decide +kernel
theorem d_Y_first_9 : decode tb_Y_first 9 = .ok (.return_, 1) := by decide +kernel
theorem d_Y_first_10 : decode tb_Y_first 10 = .ok (.aload_n 0, 1) := by decide +kernel
theorem d_Y_first_11 : decode tb_Y_first 11 = .ok (.getfield 68, 3) := by decide +kernel
theorem d_Y_first_14 : decode tb_Y_first 14 = .ok (.iload_n 1, 1) := by decide +kernel
theorem d_Y_first_15 : decode tb_Y_first 15 = .ok (.iconst 0, 1) := by decide +kernel
theorem d_Y_first_16 : decode tb_Y_first 16 = .ok (.iastore, 1) := by decide +kernel
theorem d_Y_first_17 : decode tb_Y_first 17 = .ok (.aload_n 0, 1) := by decide +kernel
theorem d_Y_first_18 : decode tb_Y_first 18 = .ok (.getfield 71, 3) := by decide +kernel
theorem d_Y_first_21 : decode tb_Y_first 21 = .ok (.iload_n 1, 1) := by decide +kernel
theorem d_Y_first_22 : decode tb_Y_first 22 = .ok (.iconst 0, 1) := by decide +kernel
theorem d_Y_first_23 : decode tb_Y_first 23 = .ok (.iastore, 1) := by decide +kernel
theorem d_Y_first_24 : decode tb_Y_first 24 = .ok (.aload_n 0, 1) := by decide +kernel
theorem d_Y_first_25 : decode tb_Y_first 25 = .ok (.getfield 65, 3) := by decide +kernel
theorem d_Y_first_28 : decode tb_Y_first 28 = .ok (.iload_n 1, 1) := by decide +kernel
theorem d_Y_first_29 : decode tb_Y_first 29 = .ok (.aload_n 0, 1) := by decide +kernel
theorem d_Y_first_30 : decode tb_Y_first 30 = .ok (.iconst 4, 1) := by decide +kernel
theorem d_Y_first_31 : decode tb_Y_first 31 = .ok (.invokevirtual 158, 3) := by decide +kernel
theorem d_Y_first_34 : decode tb_Y_first 34 = .ok (.iastore, 1) := by decide +kernel
theorem d_Y_first_35 : decode tb_Y_first 35 = .ok (.return_, 1) := by decide +kernel
theorem d_Y_queue_0 : decode tb_Y_queue 0 = .ok (.aload_n 0, 1) := by decide +kernel
theorem d_Y_queue_1 : decode tb_Y_queue 1 = .ok (.getfield 62, 3) := by decide +kernel
theorem d_Y_queue_4 : decode tb_Y_queue 4 = .ok (.iload_n 1, 1) := by decide +kernel
theorem d_Y_queue_5 : decode tb_Y_queue 5 = .ok (.iaload, 1) := by decide +kernel
theorem d_Y_queue_6 : decode tb_Y_queue 6 = .ok (.iconst 4, 1) := by decide +kernel
theorem d_Y_queue_7 : decode tb_Y_queue 7 = .ok (.if_icmp .ne 35, 3) := by decide +kernel
theorem d_Y_queue_10 : decode tb_Y_queue 10 = .ok (.aload_n 0, 1) := by decide +kernel
theorem d_Y_queue_11 : decode tb_Y_queue 11 = .ok (.dup, 1) := by decide +kernel
theorem d_Y_queue_12 : decode tb_Y_queue 12 = .ok (.getfield 162, 3) := by decide +kernel
theorem d_Y_queue_15 : decode tb_Y_queue 15 = .ok (.aload_n 0, 1) := by decide +kernel
theorem d_Y_queue_16 : decode tb_Y_queue 16 = .ok (.getfield 86, 3) := by decide +kernel
theorem d_Y_queue_19 : decode tb_Y_queue 19 = .ok (.iload_n 2, 1) := by decide +kernel
theorem d_Y_queue_20 : decode tb_Y_queue 20 = .ok (.iaload, 1) := by decide +kernel
theorem d_Y_queue_21 : decode tb_Y_queue 21 = .ok (.iconst 4, 1) := by decide +kernel
theorem d_Y_queue_22 : decode tb_Y_queue 22 = .ok (.if_icmp .ne 7, 3) := by decide +kernel
theorem d_Y_queue_25 : decode tb_Y_queue 25 = .ok (.iconst 1, 1) := by decide +kernel
theorem d_Y_queue_26 : decode tb_Y_queue 26 = .ok (.goto 4, 3) := by decide +kernel
theorem d_Y_queue_29 : decode tb_Y_queue 29 = .ok (.iconst 0, 1) := by decide +kernel
theorem d_Y_queue_30 : decode tb_Y_queue 30 = .ok (.iadd, 1) := by decide +kernel
theorem d_Y_queue_31 : decode tb_Y_queue 31 = .ok (.putfield 162, 3) := by decide +kernel
theorem d_Y_queue_34 : decode tb_Y_queue 34 = .ok (.aload_n 0, 1) := by decide +kernel
theorem d_Y_queue_35 : decode tb_Y_queue 35 = .ok (.getfield 80, 3) := by decide +kernel
theorem d_Y_queue_38 : decode tb_Y_queue 38 = .ok (.iload_n 2, 1) := by decide +kernel
theorem d_Y_queue_39 : decode tb_Y_queue 39 = .ok (.iconst 0, 1) := by decide +kernel
theorem d_Y_queue_40 : decode tb_Y_queue 40 = .ok (.bastore, 1) := by decide +kernel
theorem d_Y_queue_41 : decode tb_Y_queue 41 = .ok (.return_, 1) := by decide +kernel
theorem d_Y_queue_42 : decode tb_Y_queue 42 = .ok (.aload_n 0, 1) := by decide +kernel
theorem d_Y_queue_43 : decode tb_Y_queue 43 = .ok (.getfield 59, 3) := by decide +kernel
theorem d_Y_queue_46 : decode tb_Y_queue 46 = .ok (.iconst 4, 1) := by decide +kernel
theorem d_Y_queue_47 : decode tb_Y_queue 47 = .ok (.iload_n 1, 1) := by decide +kernel
theorem d_Y_queue_48 : decode tb_Y_queue 48 = .ok (.imul, 1) := by decide +kernel
theorem d_Y_queue_49 : decode tb_Y_queue 49 = .ok (.aload_n 0, 1) := by decide +kernel
theorem d_Y_queue_50 : decode tb_Y_queue 50 = .ok (.getfield 62, 3) := by decide +kernel
theorem d_Y_queue_53 : decode tb_Y_queue 53 = .ok (.iload_n 1, 1) := by decide +kernel
theorem d_Y_queue_54 : decode tb_Y_queue 54 = .ok (.iaload, 1) := by decide +kernel
theorem d_Y_queue_55 : decode tb_Y_queue 55 = .ok (.iadd, 1) := by decide +kernel
theorem d_Y_queue_56 : decode tb_Y_queue 56 = .ok (.iload_n 2, 1) := by decide +kernel
theorem d_Y_queue_57 : decode tb_Y_queue 57 = .ok (.iastore, 1) := by decide +kernel
theorem d_Y_queue_58 : decode tb_Y_queue 58 = .ok (.aload_n 0, 1) := by decide +kernel
theorem d_Y_queue_59 : decode tb_Y_queue 59 = .ok (.getfield 62, 3) := by decide +kernel
theorem d_Y_queue_62 : decode tb_Y_queue 62 = .ok (.iload_n 1, 1) := by decide +kernel
theorem d_Y_queue_63 : decode tb_Y_queue 63 = .ok (.dup2, 1) := by decide +kernel
theorem d_Y_queue_64 : decode tb_Y_queue 64 = .ok (.iaload, 1) := by decide +kernel
theorem d_Y_queue_65 : decode tb_Y_queue 65 = .ok (.iconst 1, 1) := by decide +kernel
theorem d_Y_queue_66 : decode tb_Y_queue 66 = .ok (.iadd, 1) := by decide +kernel
theorem d_Y_queue_67 : decode tb_Y_queue 67 = .ok (.iastore, 1) := by decide +kernel
theorem d_Y_queue_68 : decode tb_Y_queue 68 = .ok (.aload_n 0, 1) := by decide +kernel
theorem d_Y_queue_69 : decode tb_Y_queue 69 = .ok (.getfield 62, 3) := by decide +kernel
theorem d_Y_queue_72 : decode tb_Y_queue 72 = .ok (.iload_n 1, 1) := by decide +kernel
theorem d_Y_queue_73 : decode tb_Y_queue 73 = .ok (.iaload, 1) := by decide +kernel
theorem d_Y_queue_74 : decode tb_Y_queue 74 = .ok (.iconst 1, 1) := by decide +kernel
theorem d_Y_queue_75 : decode tb_Y_queue 75 = .ok (.if_icmp .ne 8, 3) := by decide +kernel
theorem d_Y_queue_78 : decode tb_Y_queue 78 = .ok (.aload_n 0, 1) := by decide +kernel
theorem d_Y_queue_79 : decode tb_Y_queue 79 = .ok (.iload_n 1, 1) := by decide +kernel
theorem d_Y_queue_80 : decode tb_Y_queue 80 = .ok (.invokevirtual 165, 3) := by decide +kernel
theorem d_Y_queue_83 : decode tb_Y_queue 83 = .ok (.return_, 1) := by decide +kernel
theorem d_Y_queues_0 : decode tb_Y_queues 0 = .ok (.iconst 0, 1) := by decide +kernel
theorem d_Y_queues_1 : decode tb_Y_queues 1 = .ok (.istore_n 3, 1) := by decide +kernel
theorem d_Y_queues_2 : decode tb_Y_queues 2 = .ok (.iconst 0, 1) := by decide +kernel
theorem d_Y_queues_3 : decode tb_Y_queues 3 = .ok (.istore 4, 2) := by decide +kernel
theorem d_Y_queues_5 : decode tb_Y_queues 5 = .ok (.iload 4, 2) := by decide +kernel
theorem d_Y_queues_7 : decode tb_Y_queues 7 = .ok (.aload_n 0, 1) := by decide +kernel
theorem d_Y_queues_8 : decode tb_Y_queues 8 = .ok (.getfield 62, 3) := by decide +kernel
theorem d_Y_queues_11 : decode tb_Y_queues 11 = .ok (.iload_n 1, 1) := by decide +kernel
theorem d_Y_queues_12 : decode tb_Y_queues 12 = .ok (.iaload, 1) := by decide +kernel
theorem d_Y_queues_13 : decode tb_Y_queues 13 = .ok (.if_icmp .ge 39, 3) := by decide +kernel
theorem d_Y_queues_16 : decode tb_Y_queues 16 = .ok (.iload_n 3, 1) := by decide +kernel
theorem d_Y_queues_17 : decode tb_Y_queues 17 = .ok (.ifCond .ne 23, 3) := by decide +kernel
theorem d_Y_queues_20 : decode tb_Y_queues 20 = .ok (.aload_n 0, 1) := by decide +kernel
theorem d_Y_queues_21 : decode tb_Y_queues 21 = .ok (.getfield 86, 3) := by decide +kernel
theorem d_Y_queues_24 : decode tb_Y_queues 24 = .ok (.aload_n 0, 1) := by decide +kernel
theorem d_Y_queues_25 : decode tb_Y_queues 25 = .ok (.getfield 59, 3) := by decide +kernel
theorem d_Y_queues_28 : decode tb_Y_queues 28 = .ok (.iconst 4, 1) := by decide +kernel
theorem d_Y_queues_29 : decode tb_Y_queues 29 = .ok (.iload_n 1, 1) := by decide +kernel
theorem d_Y_queues_30 : decode tb_Y_queues 30 = .ok (.imul, 1) := by decide +kernel
theorem d_Y_queues_31 : decode tb_Y_queues 31 = .ok (.iload 4, 2) := by decide +kernel
theorem d_Y_queues_33 : decode tb_Y_queues 33 = .ok (.iadd, 1) := by decide +kernel
theorem d_Y_queues_34 : decode tb_Y_queues 34 = .ok (.iaload, 1) := by decide +kernel
theorem d_Y_queues_35 : decode tb_Y_queues 35 = .ok (.iaload, 1) := by decide +kernel
theorem d_Y_queues_36 : decode tb_Y_queues 36 = .ok (.iload_n 2, 1) := by decide +kernel
theorem d_Y_queues_37 : decode tb_Y_queues 37 = .ok (.if_icmp .ne 7, 3) := by decide +kernel
theorem d_Y_queues_40 : decode tb_Y_queues 40 = .ok (.iconst 1, 1) := by decide +kernel
theorem d_Y_queues_41 : decode tb_Y_queues 41 = .ok (.goto 4, 3) := by decide +kernel
theorem d_Y_queues_44 : decode tb_Y_queues 44 = .ok (.iconst 0, 1) := by decide +kernel
theorem d_Y_queues_45 : decode tb_Y_queues 45 = .ok (.istore_n 3, 1) := by decide +kernel
theorem d_Y_queues_46 : decode tb_Y_queues 46 = .ok (.iinc 4 1, 3) := by decide +kernel
theorem d_Y_queues_49 : decode tb_Y_queues 49 = .ok (.goto (-44), 3) := by decide +kernel
theorem d_Y_queues_52 : decode tb_Y_queues 52 = .ok (.iload_n 3, 1) := by decide +kernel
theorem d_Y_queues_53 : decode tb_Y_queues 53 = .ok (.ireturn, 1) := by decide +kernel
theorem d_Y_done_0 : decode tb_Y_done 0 = .ok (.aload_n 0, 1) := by decide +kernel
theorem d_Y_done_1 : decode tb_Y_done 1 = .ok (.getfield 80, 3) := by decide +kernel
theorem d_Y_done_4 : decode tb_Y_done 4 = .ok (.aload_n 0, 1) := by decide +kernel
theorem d_Y_done_5 : decode tb_Y_done 5 = .ok (.getfield 59, 3) := by decide +kernel
theorem d_Y_done_8 : decode tb_Y_done 8 = .ok (.iconst 4, 1) := by decide +kernel
theorem d_Y_done_9 : decode tb_Y_done 9 = .ok (.iload_n 1, 1) := by decide +kernel
theorem d_Y_done_10 : decode tb_Y_done 10 = .ok (.imul, 1) := by decide +kernel
theorem d_Y_done_11 : decode tb_Y_done 11 = .ok (.iaload, 1) := by decide +kernel
theorem d_Y_done_12 : decode tb_Y_done 12 = .ok (.iconst 0, 1) := by decide +kernel
theorem d_Y_done_13 : decode tb_Y_done 13 = .ok (.bastore, 1) := by decide +kernel
theorem d_Y_done_14 : decode tb_Y_done 14 = .ok (.aload_n 0, 1) := by decide +kernel
theorem d_Y_done_15 : decode tb_Y_done 15 = .ok (.getfield 62, 3) := by decide +kernel
theorem d_Y_done_18 : decode tb_Y_done 18 = .ok (.iload_n 1, 1) := by decide +kernel
theorem d_Y_done_19 : decode tb_Y_done 19 = .ok (.dup2, 1) := by decide +kernel
theorem d_Y_done_20 : decode tb_Y_done 20 = .ok (.iaload, 1) := by decide +kernel
theorem d_Y_done_21 : decode tb_Y_done 21 = .ok (.iconst 1, 1) := by decide +kernel
theorem d_Y_done_22 : decode tb_Y_done 22 = .ok (.isub, 1) := by decide +kernel
theorem d_Y_done_23 : decode tb_Y_done 23 = .ok (.iastore, 1) := by decide +kernel
theorem d_Y_done_24 : decode tb_Y_done 24 = .ok (.iconst 0, 1) := by decide +kernel
theorem d_Y_done_25 : decode tb_Y_done 25 = .ok (.istore_n 2, 1) := by decide +kernel
theorem d_Y_done_26 : decode tb_Y_done 26 = .ok (.iload_n 2, 1) := by decide +kernel
theorem d_Y_done_27 : decode tb_Y_done 27 = .ok (.aload_n 0, 1) := by decide +kernel
theorem d_Y_done_28 : decode tb_Y_done 28 = .ok (.getfield 62, 3) := by decide +kernel
theorem d_Y_done_31 : decode tb_Y_done 31 = .ok (.iload_n 1, 1) := by decide +kernel
theorem d_Y_done_32 : decode tb_Y_done 32 = .ok (.iaload, 1) := by decide +kernel
theorem d_Y_done_33 : decode tb_Y_done 33 = .ok (.if_icmp .ge 31, 3) := by decide +kernel
theorem d_Y_done_36 : decode tb_Y_done 36 = .ok (.aload_n 0, 1) := by decide +kernel
theorem d_Y_done_37 : decode tb_Y_done 37 = .ok (.getfield 59, 3) := by decide +kernel
theorem d_Y_done_40 : decode tb_Y_done 40 = .ok (.iconst 4, 1) := by decide +kernel
theorem d_Y_done_41 : decode tb_Y_done 41 = .ok (.iload_n 1, 1) := by decide +kernel
theorem d_Y_done_42 : decode tb_Y_done 42 = .ok (.imul, 1) := by decide +kernel
theorem d_Y_done_43 : decode tb_Y_done 43 = .ok (.iload_n 2, 1) := by decide +kernel
theorem d_Y_done_44 : decode tb_Y_done 44 = .ok (.iadd, 1) := by decide +kernel
theorem d_Y_done_45 : decode tb_Y_done 45 = .ok (.aload_n 0, 1) := by decide +kernel
theorem d_Y_done_46 : decode tb_Y_done 46 = .ok (.getfield 59, 3) := by decide +kernel
theorem d_Y_done_49 : decode tb_Y_done 49 = .ok (.iconst 4, 1) := by decide +kernel
theorem d_Y_done_50 : decode tb_Y_done 50 = .ok (.iload_n 1, 1) := by decide +kernel
theorem d_Y_done_51 : decode tb_Y_done 51 = .ok (.imul, 1) := by decide +kernel
theorem d_Y_done_52 : decode tb_Y_done 52 = .ok (.iload_n 2, 1) := by decide +kernel
theorem d_Y_done_53 : decode tb_Y_done 53 = .ok (.iadd, 1) := by decide +kernel
theorem d_Y_done_54 : decode tb_Y_done 54 = .ok (.iconst 1, 1) := by decide +kernel
theorem d_Y_done_55 : decode tb_Y_done 55 = .ok (.iadd, 1) := by decide +kernel
theorem d_Y_done_56 : decode tb_Y_done 56 = .ok (.iaload, 1) := by decide +kernel
theorem d_Y_done_57 : decode tb_Y_done 57 = .ok (.iastore, 1) := by decide +kernel
theorem d_Y_done_58 : decode tb_Y_done 58 = .ok (.iinc 2 1, 3) := by decide +kernel
theorem d_Y_done_61 : decode tb_Y_done 61 = .ok (.goto (-35), 3) := by decide +kernel
theorem d_Y_done_64 : decode tb_Y_done 64 = .ok (.aload_n 0, 1) := by decide +kernel
theorem d_Y_done_65 : decode tb_Y_done 65 = .ok (.iload_n 1, 1) := by decide +kernel
theorem d_Y_done_66 : decode tb_Y_done 66 = .ok (.invokevirtual 165, 3) := by decide +kernel
theorem d_Y_done_69 : decode tb_Y_done 69 = .ok (.return_, 1) := by decide +kernel
theorem d_Y_fails_0 : decode tb_Y_fails 0 = .ok (.aload_n 0, 1) := by decide +kernel
theorem d_Y_fails_1 : decode tb_Y_fails 1 = .ok (.getfield 59, 3) := by decide +kernel
theorem d_Y_fails_4 : decode tb_Y_fails 4 = .ok (.iconst 4, 1) := by decide +kernel
theorem d_Y_fails_5 : decode tb_Y_fails 5 = .ok (.iload_n 1, 1) := by decide +kernel
theorem d_Y_fails_6 : decode tb_Y_fails 6 = .ok (.imul, 1) := by decide +kernel
theorem d_Y_fails_7 : decode tb_Y_fails 7 = .ok (.iaload, 1) := by decide +kernel
theorem d_Y_fails_8 : decode tb_Y_fails 8 = .ok (.istore_n 2, 1) := by decide +kernel
theorem d_Y_fails_9 : decode tb_Y_fails 9 = .ok (.aload_n 0, 1) := by decide +kernel
theorem d_Y_fails_10 : decode tb_Y_fails 10 = .ok (.getfield 89, 3) := by decide +kernel
theorem d_Y_fails_13 : decode tb_Y_fails 13 = .ok (.iload_n 2, 1) := by decide +kernel
theorem d_Y_fails_14 : decode tb_Y_fails 14 = .ok (.iaload, 1) := by decide +kernel
theorem d_Y_fails_15 : decode tb_Y_fails 15 = .ok (.istore_n 3, 1) := by decide +kernel
theorem d_Y_fails_16 : decode tb_Y_fails 16 = .ok (.aload_n 0, 1) := by decide +kernel
theorem d_Y_fails_17 : decode tb_Y_fails 17 = .ok (.dup, 1) := by decide +kernel
theorem d_Y_fails_18 : decode tb_Y_fails 18 = .ok (.getfield 162, 3) := by decide +kernel
theorem d_Y_fails_21 : decode tb_Y_fails 21 = .ok (.aload_n 0, 1) := by decide +kernel
theorem d_Y_fails_22 : decode tb_Y_fails 22 = .ok (.getfield 86, 3) := by decide +kernel
theorem d_Y_fails_25 : decode tb_Y_fails 25 = .ok (.iload_n 2, 1) := by decide +kernel
theorem d_Y_fails_26 : decode tb_Y_fails 26 = .ok (.iaload, 1) := by decide +kernel
theorem d_Y_fails_27 : decode tb_Y_fails 27 = .ok (.iconst 4, 1) := by decide +kernel
theorem d_Y_fails_28 : decode tb_Y_fails 28 = .ok (.if_icmp .ne 7, 3) := by decide +kernel
theorem d_Y_fails_31 : decode tb_Y_fails 31 = .ok (.iconst 1, 1) := by decide +kernel
theorem d_Y_fails_32 : decode tb_Y_fails 32 = .ok (.goto 4, 3) := by decide +kernel
theorem d_Y_fails_35 : decode tb_Y_fails 35 = .ok (.iconst 0, 1) := by decide +kernel
theorem d_Y_fails_36 : decode tb_Y_fails 36 = .ok (.iadd, 1) := by decide +kernel
theorem d_Y_fails_37 : decode tb_Y_fails 37 = .ok (.putfield 162, 3) := by decide +kernel
theorem d_Y_fails_40 : decode tb_Y_fails 40 = .ok (.aload_n 0, 1) := by decide +kernel
theorem d_Y_fails_41 : decode tb_Y_fails 41 = .ok (.iload_n 1, 1) := by decide +kernel
theorem d_Y_fails_42 : decode tb_Y_fails 42 = .ok (.invokevirtual 168, 3) := by decide +kernel
theorem d_Y_fails_45 : decode tb_Y_fails 45 = .ok (.iload_n 3, 1) := by decide +kernel
theorem d_Y_fails_46 : decode tb_Y_fails 46 = .ok (.ifCond .ge 4, 3) := by decide +kernel
theorem d_Y_fails_49 : decode tb_Y_fails 49 = .ok (.return_, 1) := by decide +kernel
theorem d_Y_fails_50 : decode tb_Y_fails 50 = .ok (.iconst 0, 1) := by decide +kernel
theorem d_Y_fails_51 : decode tb_Y_fails 51 = .ok (.istore 4, 2) := by decide +kernel
theorem d_Y_fails_53 : decode tb_Y_fails 53 = .ok (.iload 4, 2) := by decide +kernel
theorem d_Y_fails_55 : decode tb_Y_fails 55 = .ok (.bipush 7, 2) := by decide +kernel
theorem d_Y_fails_57 : decode tb_Y_fails 57 = .ok (.if_icmp .ge 53, 3) := by decide +kernel
theorem d_Y_fails_60 : decode tb_Y_fails 60 = .ok (.aload_n 0, 1) := by decide +kernel
theorem d_Y_fails_61 : decode tb_Y_fails 61 = .ok (.getfield 20, 3) := by decide +kernel
theorem d_Y_fails_64 : decode tb_Y_fails 64 = .ok (.bipush 7, 2) := by decide +kernel
theorem d_Y_fails_66 : decode tb_Y_fails 66 = .ok (.iload_n 1, 1) := by decide +kernel
theorem d_Y_fails_67 : decode tb_Y_fails 67 = .ok (.imul, 1) := by decide +kernel
theorem d_Y_fails_68 : decode tb_Y_fails 68 = .ok (.iload 4, 2) := by decide +kernel
theorem d_Y_fails_70 : decode tb_Y_fails 70 = .ok (.iadd, 1) := by decide +kernel
theorem d_Y_fails_71 : decode tb_Y_fails 71 = .ok (.aload_n 0, 1) := by decide +kernel
theorem d_Y_fails_72 : decode tb_Y_fails 72 = .ok (.getfield 20, 3) := by decide +kernel
theorem d_Y_fails_75 : decode tb_Y_fails 75 = .ok (.bipush 7, 2) := by decide +kernel
theorem d_Y_fails_77 : decode tb_Y_fails 77 = .ok (.iload_n 1, 1) := by decide +kernel
theorem d_Y_fails_78 : decode tb_Y_fails 78 = .ok (.imul, 1) := by decide +kernel
theorem d_Y_fails_79 : decode tb_Y_fails 79 = .ok (.iload 4, 2) := by decide +kernel
theorem d_Y_fails_81 : decode tb_Y_fails 81 = .ok (.iadd, 1) := by decide +kernel
theorem d_Y_fails_82 : decode tb_Y_fails 82 = .ok (.iaload, 1) := by decide +kernel
theorem d_Y_fails_83 : decode tb_Y_fails 83 = .ok (.iload_n 3, 1) := by decide +kernel
theorem d_Y_fails_84 : decode tb_Y_fails 84 = .ok (.if_icmp .ne 7, 3) := by decide +kernel
theorem d_Y_fails_87 : decode tb_Y_fails 87 = .ok (.iconst (-1), 1) := by decide +kernel
theorem d_Y_fails_88 : decode tb_Y_fails 88 = .ok (.goto 15, 3) := by decide +kernel
theorem d_Y_fails_91 : decode tb_Y_fails 91 = .ok (.aload_n 0, 1) := by decide +kernel
theorem d_Y_fails_92 : decode tb_Y_fails 92 = .ok (.getfield 20, 3) := by decide +kernel
theorem d_Y_fails_95 : decode tb_Y_fails 95 = .ok (.bipush 7, 2) := by decide +kernel
theorem d_Y_fails_97 : decode tb_Y_fails 97 = .ok (.iload_n 1, 1) := by decide +kernel
theorem d_Y_fails_98 : decode tb_Y_fails 98 = .ok (.imul, 1) := by decide +kernel
theorem d_Y_fails_99 : decode tb_Y_fails 99 = .ok (.iload 4, 2) := by decide +kernel
theorem d_Y_fails_101 : decode tb_Y_fails 101 = .ok (.iadd, 1) := by decide +kernel
theorem d_Y_fails_102 : decode tb_Y_fails 102 = .ok (.iaload, 1) := by decide +kernel
theorem d_Y_fails_103 : decode tb_Y_fails 103 = .ok (.iastore, 1) := by decide +kernel
theorem d_Y_fails_104 : decode tb_Y_fails 104 = .ok (.iinc 4 1, 3) := by decide +kernel
theorem d_Y_fails_107 : decode tb_Y_fails 107 = .ok (.goto (-54), 3) := by decide +kernel
theorem d_Y_fails_110 : decode tb_Y_fails 110 = .ok (.aload_n 0, 1) := by decide +kernel
theorem d_Y_fails_111 : decode tb_Y_fails 111 = .ok (.getfield 38, 3) := by decide +kernel
theorem d_Y_fails_114 : decode tb_Y_fails 114 = .ok (.iload_n 1, 1) := by decide +kernel
theorem d_Y_fails_115 : decode tb_Y_fails 115 = .ok (.iaload, 1) := by decide +kernel
theorem d_Y_fails_116 : decode tb_Y_fails 116 = .ok (.iload_n 3, 1) := by decide +kernel
theorem d_Y_fails_117 : decode tb_Y_fails 117 = .ok (.if_icmp .ne 21, 3) := by decide +kernel
theorem d_Y_fails_120 : decode tb_Y_fails 120 = .ok (.aload_n 0, 1) := by decide +kernel
theorem d_Y_fails_121 : decode tb_Y_fails 121 = .ok (.getfield 16, 3) := by decide +kernel
theorem d_Y_fails_124 : decode tb_Y_fails 124 = .ok (.bipush 7, 2) := by decide +kernel
theorem d_Y_fails_126 : decode tb_Y_fails 126 = .ok (.iload_n 1, 1) := by decide +kernel
theorem d_Y_fails_127 : decode tb_Y_fails 127 = .ok (.imul, 1) := by decide +kernel
theorem d_Y_fails_128 : decode tb_Y_fails 128 = .ok (.iload_n 3, 1) := by decide +kernel
theorem d_Y_fails_129 : decode tb_Y_fails 129 = .ok (.iadd, 1) := by decide +kernel
theorem d_Y_fails_130 : decode tb_Y_fails 130 = .ok (.iconst 0, 1) := by decide +kernel
theorem d_Y_fails_131 : decode tb_Y_fails 131 = .ok (.bastore, 1) := by decide +kernel
theorem d_Y_fails_132 : decode tb_Y_fails 132 = .ok (.aload_n 0, 1) := by decide +kernel
theorem d_Y_fails_133 : decode tb_Y_fails 133 = .ok (.iload_n 1, 1) := by decide +kernel
theorem d_Y_fails_134 : decode tb_Y_fails 134 = .ok (.invokevirtual 171, 3) := by decide +kernel
theorem d_Y_fails_137 : decode tb_Y_fails 137 = .ok (.pop, 1) := by decide +kernel
theorem d_Y_fails_138 : decode tb_Y_fails 138 = .ok (.return_, 1) := by decide +kernel
theorem d_Y_begin_0 : decode tb_Y_begin 0 = .ok (.aload_n 0, 1) := by decide +kernel
theorem d_Y_begin_1 : decode tb_Y_begin 1 = .ok (.getfield 50, 3) := by decide +kernel
theorem d_Y_begin_4 : decode tb_Y_begin 4 = .ok (.iload_n 1, 1) := by decide +kernel
theorem d_Y_begin_5 : decode tb_Y_begin 5 = .ok (.iconst 0, 1) := by decide +kernel
theorem d_Y_begin_6 : decode tb_Y_begin 6 = .ok (.iastore, 1) := by decide +kernel
theorem d_Y_begin_7 : decode tb_Y_begin 7 = .ok (.aload_n 0, 1) := by decide +kernel
theorem d_Y_begin_8 : decode tb_Y_begin 8 = .ok (.getfield 56, 3) := by decide +kernel
theorem d_Y_begin_11 : decode tb_Y_begin 11 = .ok (.iload_n 1, 1) := by decide +kernel
theorem d_Y_begin_12 : decode tb_Y_begin 12 = .ok (.iconst 0, 1) := by decide +kernel
theorem d_Y_begin_13 : decode tb_Y_begin 13 = .ok (.iastore, 1) := by decide +kernel
theorem d_Y_begin_14 : decode tb_Y_begin 14 = .ok (.aload_n 0, 1) := by decide +kernel
theorem d_Y_begin_15 : decode tb_Y_begin 15 = .ok (.getfield 53, 3) := by decide +kernel
theorem d_Y_begin_18 : decode tb_Y_begin 18 = .ok (.iload_n 1, 1) := by decide +kernel
theorem d_Y_begin_19 : decode tb_Y_begin 19 = .ok (.aload_n 0, 1) := by decide +kernel
theorem d_Y_begin_20 : decode tb_Y_begin 20 = .ok (.getfield 47, 3) := by decide +kernel
theorem d_Y_begin_23 : decode tb_Y_begin 23 = .ok (.iload_n 1, 1) := by decide +kernel
theorem d_Y_begin_24 : decode tb_Y_begin 24 = .ok (.iaload, 1) := by decide +kernel
theorem d_Y_begin_25 : decode tb_Y_begin 25 = .ok (.iconst 2, 1) := by decide +kernel
theorem d_Y_begin_26 : decode tb_Y_begin 26 = .ok (.idiv, 1) := by decide +kernel
theorem d_Y_begin_27 : decode tb_Y_begin 27 = .ok (.aload_n 0, 1) := by decide +kernel
theorem d_Y_begin_28 : decode tb_Y_begin 28 = .ok (.aload_n 0, 1) := by decide +kernel
theorem d_Y_begin_29 : decode tb_Y_begin 29 = .ok (.getfield 47, 3) := by decide +kernel
theorem d_Y_begin_32 : decode tb_Y_begin 32 = .ok (.iload_n 1, 1) := by decide +kernel
theorem d_Y_begin_33 : decode tb_Y_begin 33 = .ok (.iaload, 1) := by decide +kernel
theorem d_Y_begin_34 : decode tb_Y_begin 34 = .ok (.iconst 2, 1) := by decide +kernel
theorem d_Y_begin_35 : decode tb_Y_begin 35 = .ok (.idiv, 1) := by decide +kernel
theorem d_Y_begin_36 : decode tb_Y_begin 36 = .ok (.invokevirtual 158, 3) := by decide +kernel
theorem d_Y_begin_39 : decode tb_Y_begin 39 = .ok (.iadd, 1) := by decide +kernel
theorem d_Y_begin_40 : decode tb_Y_begin 40 = .ok (.iastore, 1) := by decide +kernel
theorem d_Y_begin_41 : decode tb_Y_begin 41 = .ok (.return_, 1) := by decide +kernel
theorem d_Y_reset_0 : decode tb_Y_reset 0 = .ok (.aload_n 0, 1) := by decide +kernel
theorem d_Y_reset_1 : decode tb_Y_reset 1 = .ok (.getfield 44, 3) := by decide +kernel
theorem d_Y_reset_4 : decode tb_Y_reset 4 = .ok (.iload_n 1, 1) := by decide +kernel
theorem d_Y_reset_5 : decode tb_Y_reset 5 = .ok (.baload, 1) := by decide +kernel
theorem d_Y_reset_6 : decode tb_Y_reset 6 = .ok (.ifCond .eq 13, 3) := by decide +kernel
theorem d_Y_reset_9 : decode tb_Y_reset 9 = .ok (.aload_n 0, 1) := by decide +kernel
theorem d_Y_reset_10 : decode tb_Y_reset 10 = .ok (.getfield 47, 3) := by decide +kernel
theorem d_Y_reset_13 : decode tb_Y_reset 13 = .ok (.iload_n 1, 1) := by decide +kernel
theorem d_Y_reset_14 : decode tb_Y_reset 14 = .ok (.iaload, 1) := by decide +kernel
theorem d_Y_reset_15 : decode tb_Y_reset 15 = .ok (.iconst 4, 1) := by decide +kernel
theorem d_Y_reset_16 : decode tb_Y_reset 16 = .ok (.if_icmp .ne 4, 3) := by decide +kernel
theorem d_Y_reset_19 : decode tb_Y_reset 19 = .ok (.return_, 1) := by decide +kernel
theorem d_Y_reset_20 : decode tb_Y_reset 20 = .ok (.aload_n 0, 1) := by decide +kernel
theorem d_Y_reset_21 : decode tb_Y_reset 21 = .ok (.getfield 47, 3) := by decide +kernel
theorem d_Y_reset_24 : decode tb_Y_reset 24 = .ok (.iload_n 1, 1) := by decide +kernel
theorem d_Y_reset_25 : decode tb_Y_reset 25 = .ok (.iconst 4, 1) := by decide +kernel
theorem d_Y_reset_26 : decode tb_Y_reset 26 = .ok (.iastore, 1) := by decide +kernel
theorem d_Y_reset_27 : decode tb_Y_reset 27 = .ok (.aload_n 0, 1) := by decide +kernel
theorem d_Y_reset_28 : decode tb_Y_reset 28 = .ok (.iload_n 1, 1) := by decide +kernel
theorem d_Y_reset_29 : decode tb_Y_reset 29 = .ok (.invokevirtual 175, 3) := by decide +kernel
theorem d_Y_reset_32 : decode tb_Y_reset 32 = .ok (.return_, 1) := by decide +kernel
theorem d_Y_timer_0 : decode tb_Y_timer 0 = .ok (.aload_n 0, 1) := by decide +kernel
theorem d_Y_timer_1 : decode tb_Y_timer 1 = .ok (.getfield 44, 3) := by decide +kernel
theorem d_Y_timer_4 : decode tb_Y_timer 4 = .ok (.iload_n 1, 1) := by decide +kernel
theorem d_Y_timer_5 : decode tb_Y_timer 5 = .ok (.baload, 1) := by decide +kernel
theorem d_Y_timer_6 : decode tb_Y_timer 6 = .ok (.ifCond .ne 4, 3) := by decide +kernel
theorem d_Y_timer_9 : decode tb_Y_timer 9 = .ok (.return_, 1) := by decide +kernel
theorem d_Y_timer_10 : decode tb_Y_timer 10 = .ok (.aload_n 0, 1) := by decide +kernel
theorem d_Y_timer_11 : decode tb_Y_timer 11 = .ok (.getfield 50, 3) := by decide +kernel
theorem d_Y_timer_14 : decode tb_Y_timer 14 = .ok (.iload_n 1, 1) := by decide +kernel
theorem d_Y_timer_15 : decode tb_Y_timer 15 = .ok (.dup2, 1) := by decide +kernel
theorem d_Y_timer_16 : decode tb_Y_timer 16 = .ok (.iaload, 1) := by decide +kernel
theorem d_Y_timer_17 : decode tb_Y_timer 17 = .ok (.iconst 1, 1) := by decide +kernel
theorem d_Y_timer_18 : decode tb_Y_timer 18 = .ok (.iadd, 1) := by decide +kernel
theorem d_Y_timer_19 : decode tb_Y_timer 19 = .ok (.iastore, 1) := by decide +kernel
theorem d_Y_timer_20 : decode tb_Y_timer 20 = .ok (.aload_n 0, 1) := by decide +kernel
theorem d_Y_timer_21 : decode tb_Y_timer 21 = .ok (.getfield 50, 3) := by decide +kernel
theorem d_Y_timer_24 : decode tb_Y_timer 24 = .ok (.iload_n 1, 1) := by decide +kernel
theorem d_Y_timer_25 : decode tb_Y_timer 25 = .ok (.iaload, 1) := by decide +kernel
theorem d_Y_timer_26 : decode tb_Y_timer 26 = .ok (.aload_n 0, 1) := by decide +kernel
theorem d_Y_timer_27 : decode tb_Y_timer 27 = .ok (.getfield 53, 3) := by decide +kernel
theorem d_Y_timer_30 : decode tb_Y_timer 30 = .ok (.iload_n 1, 1) := by decide +kernel
theorem d_Y_timer_31 : decode tb_Y_timer 31 = .ok (.iaload, 1) := by decide +kernel
theorem d_Y_timer_32 : decode tb_Y_timer 32 = .ok (.if_icmp .ne 38, 3) := by decide +kernel
theorem d_Y_timer_35 : decode tb_Y_timer 35 = .ok (.aload_n 0, 1) := by decide +kernel
theorem d_Y_timer_36 : decode tb_Y_timer 36 = .ok (.getfield 56, 3) := by decide +kernel
theorem d_Y_timer_39 : decode tb_Y_timer 39 = .ok (.iload_n 1, 1) := by decide +kernel
theorem d_Y_timer_40 : decode tb_Y_timer 40 = .ok (.iaload, 1) := by decide +kernel
theorem d_Y_timer_41 : decode tb_Y_timer 41 = .ok (.aload_n 0, 1) := by decide +kernel
theorem d_Y_timer_42 : decode tb_Y_timer 42 = .ok (.getfield 147, 3) := by decide +kernel
theorem d_Y_timer_45 : decode tb_Y_timer 45 = .ok (.if_icmp .ge 25, 3) := by decide +kernel
theorem d_Y_timer_48 : decode tb_Y_timer 48 = .ok (.aload_n 0, 1) := by decide +kernel
theorem d_Y_timer_49 : decode tb_Y_timer 49 = .ok (.iload_n 1, 1) := by decide +kernel
theorem d_Y_timer_50 : decode tb_Y_timer 50 = .ok (.iconst 2, 1) := by decide +kernel
theorem d_Y_timer_51 : decode tb_Y_timer 51 = .ok (.invokevirtual 178, 3) := by decide +kernel
theorem d_Y_timer_54 : decode tb_Y_timer 54 = .ok (.ifCond .ne 16, 3) := by decide +kernel
theorem d_Y_timer_57 : decode tb_Y_timer 57 = .ok (.aload_n 0, 1) := by decide +kernel
theorem d_Y_timer_58 : decode tb_Y_timer 58 = .ok (.iconst 2, 1) := by decide +kernel
theorem d_Y_timer_59 : decode tb_Y_timer 59 = .ok (.iconst (-1), 1) := by decide +kernel
theorem d_Y_timer_60 : decode tb_Y_timer 60 = .ok (.invokevirtual 182, 3) := by decide +kernel
theorem d_Y_timer_63 : decode tb_Y_timer 63 = .ok (.istore_n 2, 1) := by decide +kernel
theorem d_Y_timer_64 : decode tb_Y_timer 64 = .ok (.aload_n 0, 1) := by decide +kernel
theorem d_Y_timer_65 : decode tb_Y_timer 65 = .ok (.iload_n 1, 1) := by decide +kernel
theorem d_Y_timer_66 : decode tb_Y_timer 66 = .ok (.iload_n 2, 1) := by decide +kernel
theorem d_Y_timer_67 : decode tb_Y_timer 67 = .ok (.invokevirtual 186, 3) := by decide +kernel
theorem d_Y_timer_70 : decode tb_Y_timer 70 = .ok (.aload_n 0, 1) := by decide +kernel
theorem d_Y_timer_71 : decode tb_Y_timer 71 = .ok (.getfield 50, 3) := by decide +kernel
theorem d_Y_timer_74 : decode tb_Y_timer 74 = .ok (.iload_n 1, 1) := by decide +kernel
theorem d_Y_timer_75 : decode tb_Y_timer 75 = .ok (.iaload, 1) := by decide +kernel
theorem d_Y_timer_76 : decode tb_Y_timer 76 = .ok (.aload_n 0, 1) := by decide +kernel
theorem d_Y_timer_77 : decode tb_Y_timer 77 = .ok (.getfield 47, 3) := by decide +kernel
theorem d_Y_timer_80 : decode tb_Y_timer 80 = .ok (.iload_n 1, 1) := by decide +kernel
theorem d_Y_timer_81 : decode tb_Y_timer 81 = .ok (.iaload, 1) := by decide +kernel
theorem d_Y_timer_82 : decode tb_Y_timer 82 = .ok (.if_icmp .ne 40, 3) := by decide +kernel
theorem d_Y_timer_85 : decode tb_Y_timer 85 = .ok (.aload_n 0, 1) := by decide +kernel
theorem d_Y_timer_86 : decode tb_Y_timer 86 = .ok (.getfield 47, 3) := by decide +kernel
theorem d_Y_timer_89 : decode tb_Y_timer 89 = .ok (.iload_n 1, 1) := by decide +kernel
theorem d_Y_timer_90 : decode tb_Y_timer 90 = .ok (.iconst 2, 1) := by decide +kernel
theorem d_Y_timer_91 : decode tb_Y_timer 91 = .ok (.aload_n 0, 1) := by decide +kernel
theorem d_Y_timer_92 : decode tb_Y_timer 92 = .ok (.getfield 47, 3) := by decide +kernel
theorem d_Y_timer_95 : decode tb_Y_timer 95 = .ok (.iload_n 1, 1) := by decide +kernel
theorem d_Y_timer_96 : decode tb_Y_timer 96 = .ok (.iaload, 1) := by decide +kernel
theorem d_Y_timer_97 : decode tb_Y_timer 97 = .ok (.imul, 1) := by decide +kernel
theorem d_Y_timer_98 : decode tb_Y_timer 98 = .ok (.bipush 64, 2) := by decide +kernel
theorem d_Y_timer_100 : decode tb_Y_timer 100 = .ok (.if_icmp .le 8, 3) := by decide +kernel
theorem d_Y_timer_103 : decode tb_Y_timer 103 = .ok (.bipush 64, 2) := by decide +kernel
theorem d_Y_timer_105 : decode tb_Y_timer 105 = .ok (.goto 11, 3) := by decide +kernel
theorem d_Y_timer_108 : decode tb_Y_timer 108 = .ok (.iconst 2, 1) := by decide +kernel
theorem d_Y_timer_109 : decode tb_Y_timer 109 = .ok (.aload_n 0, 1) := by decide +kernel
theorem d_Y_timer_110 : decode tb_Y_timer 110 = .ok (.getfield 47, 3) := by decide +kernel
theorem d_Y_timer_113 : decode tb_Y_timer 113 = .ok (.iload_n 1, 1) := by decide +kernel
theorem d_Y_timer_114 : decode tb_Y_timer 114 = .ok (.iaload, 1) := by decide +kernel
theorem d_Y_timer_115 : decode tb_Y_timer 115 = .ok (.imul, 1) := by decide +kernel
theorem d_Y_timer_116 : decode tb_Y_timer 116 = .ok (.iastore, 1) := by decide +kernel
theorem d_Y_timer_117 : decode tb_Y_timer 117 = .ok (.aload_n 0, 1) := by decide +kernel
theorem d_Y_timer_118 : decode tb_Y_timer 118 = .ok (.iload_n 1, 1) := by decide +kernel
theorem d_Y_timer_119 : decode tb_Y_timer 119 = .ok (.invokevirtual 175, 3) := by decide +kernel
theorem d_Y_timer_122 : decode tb_Y_timer 122 = .ok (.return_, 1) := by decide +kernel
theorem d_Y_announce_0 : decode tb_Y_announce 0 = .ok (.aload_n 0, 1) := by decide +kernel
theorem d_Y_announce_1 : decode tb_Y_announce 1 = .ok (.iconst 3, 1) := by decide +kernel
theorem d_Y_announce_2 : decode tb_Y_announce 2 = .ok (.iload_n 2, 1) := by decide +kernel
theorem d_Y_announce_3 : decode tb_Y_announce 3 = .ok (.invokevirtual 182, 3) := by decide +kernel
theorem d_Y_announce_6 : decode tb_Y_announce 6 = .ok (.istore 5, 2) := by decide +kernel
theorem d_Y_announce_8 : decode tb_Y_announce 8 = .ok (.aload_n 0, 1) := by decide +kernel
theorem d_Y_announce_9 : decode tb_Y_announce 9 = .ok (.getfield 92, 3) := by decide +kernel
theorem d_Y_announce_12 : decode tb_Y_announce 12 = .ok (.iload 5, 2) := by decide +kernel
theorem d_Y_announce_14 : decode tb_Y_announce 14 = .ok (.iload_n 3, 1) := by decide +kernel
theorem d_Y_announce_15 : decode tb_Y_announce 15 = .ok (.iastore, 1) := by decide +kernel
theorem d_Y_announce_16 : decode tb_Y_announce 16 = .ok (.aload_n 0, 1) := by decide +kernel
theorem d_Y_announce_17 : decode tb_Y_announce 17 = .ok (.getfield 98, 3) := by decide +kernel
theorem d_Y_announce_20 : decode tb_Y_announce 20 = .ok (.iload 5, 2) := by decide +kernel
theorem d_Y_announce_22 : decode tb_Y_announce 22 = .ok (.iload 4, 2) := by decide +kernel
theorem d_Y_announce_24 : decode tb_Y_announce 24 = .ok (.bastore, 1) := by decide +kernel
theorem d_Y_announce_25 : decode tb_Y_announce 25 = .ok (.iconst 0, 1) := by decide +kernel
theorem d_Y_announce_26 : decode tb_Y_announce 26 = .ok (.istore 6, 2) := by decide +kernel
theorem d_Y_announce_28 : decode tb_Y_announce 28 = .ok (.iload 6, 2) := by decide +kernel
theorem d_Y_announce_30 : decode tb_Y_announce 30 = .ok (.bipush 7, 2) := by decide +kernel
theorem d_Y_announce_32 : decode tb_Y_announce 32 = .ok (.if_icmp .ge 34, 3) := by decide +kernel
theorem d_Y_announce_35 : decode tb_Y_announce 35 = .ok (.aload_n 0, 1) := by decide +kernel
theorem d_Y_announce_36 : decode tb_Y_announce 36 = .ok (.getfield 95, 3) := by decide +kernel
theorem d_Y_announce_39 : decode tb_Y_announce 39 = .ok (.bipush 7, 2) := by decide +kernel
theorem d_Y_announce_41 : decode tb_Y_announce 41 = .ok (.iload 5, 2) := by decide +kernel
theorem d_Y_announce_43 : decode tb_Y_announce 43 = .ok (.imul, 1) := by decide +kernel
theorem d_Y_announce_44 : decode tb_Y_announce 44 = .ok (.iload 6, 2) := by decide +kernel
theorem d_Y_announce_46 : decode tb_Y_announce 46 = .ok (.iadd, 1) := by decide +kernel
theorem d_Y_announce_47 : decode tb_Y_announce 47 = .ok (.aload_n 0, 1) := by decide +kernel
theorem d_Y_announce_48 : decode tb_Y_announce 48 = .ok (.getfield 23, 3) := by decide +kernel
theorem d_Y_announce_51 : decode tb_Y_announce 51 = .ok (.bipush 7, 2) := by decide +kernel
theorem d_Y_announce_53 : decode tb_Y_announce 53 = .ok (.iload_n 1, 1) := by decide +kernel
theorem d_Y_announce_54 : decode tb_Y_announce 54 = .ok (.imul, 1) := by decide +kernel
theorem d_Y_announce_55 : decode tb_Y_announce 55 = .ok (.iload 6, 2) := by decide +kernel
theorem d_Y_announce_57 : decode tb_Y_announce 57 = .ok (.iadd, 1) := by decide +kernel
theorem d_Y_announce_58 : decode tb_Y_announce 58 = .ok (.iaload, 1) := by decide +kernel
theorem d_Y_announce_59 : decode tb_Y_announce 59 = .ok (.iastore, 1) := by decide +kernel
theorem d_Y_announce_60 : decode tb_Y_announce 60 = .ok (.iinc 6 1, 3) := by decide +kernel
theorem d_Y_announce_63 : decode tb_Y_announce 63 = .ok (.goto (-35), 3) := by decide +kernel
theorem d_Y_announce_66 : decode tb_Y_announce 66 = .ok (.aload_n 0, 1) := by decide +kernel
theorem d_Y_announce_67 : decode tb_Y_announce 67 = .ok (.iload_n 1, 1) := by decide +kernel
theorem d_Y_announce_68 : decode tb_Y_announce 68 = .ok (.iload 5, 2) := by decide +kernel
theorem d_Y_announce_70 : decode tb_Y_announce 70 = .ok (.invokevirtual 186, 3) := by decide +kernel
theorem d_Y_announce_73 : decode tb_Y_announce 73 = .ok (.return_, 1) := by decide +kernel
theorem d_Y_allGoals_0 : decode tb_Y_allGoals 0 = .ok (.iconst 1, 1) := by decide +kernel
theorem d_Y_allGoals_1 : decode tb_Y_allGoals 1 = .ok (.iload_n 1, 1) := by decide +kernel
theorem d_Y_allGoals_2 : decode tb_Y_allGoals 2 = .ok (.ishl, 1) := by decide +kernel
theorem d_Y_allGoals_3 : decode tb_Y_allGoals 3 = .ok (.istore_n 2, 1) := by decide +kernel
theorem d_Y_allGoals_4 : decode tb_Y_allGoals 4 = .ok (.iconst 0, 1) := by decide +kernel
theorem d_Y_allGoals_5 : decode tb_Y_allGoals 5 = .ok (.istore_n 3, 1) := by decide +kernel
theorem d_Y_allGoals_6 : decode tb_Y_allGoals 6 = .ok (.iload_n 3, 1) := by decide +kernel
theorem d_Y_allGoals_7 : decode tb_Y_allGoals 7 = .ok (.bipush 7, 2) := by decide +kernel
theorem d_Y_allGoals_9 : decode tb_Y_allGoals 9 = .ok (.if_icmp .ge 33, 3) := by decide +kernel
theorem d_Y_allGoals_12 : decode tb_Y_allGoals 12 = .ok (.aload_n 0, 1) := by decide +kernel
theorem d_Y_allGoals_13 : decode tb_Y_allGoals 13 = .ok (.getfield 20, 3) := by decide +kernel
theorem d_Y_allGoals_16 : decode tb_Y_allGoals 16 = .ok (.bipush 7, 2) := by decide +kernel
theorem d_Y_allGoals_18 : decode tb_Y_allGoals 18 = .ok (.iload_n 1, 1) := by decide +kernel
theorem d_Y_allGoals_19 : decode tb_Y_allGoals 19 = .ok (.imul, 1) := by decide +kernel
theorem d_Y_allGoals_20 : decode tb_Y_allGoals 20 = .ok (.iload_n 3, 1) := by decide +kernel
theorem d_Y_allGoals_21 : decode tb_Y_allGoals 21 = .ok (.iadd, 1) := by decide +kernel
theorem d_Y_allGoals_22 : decode tb_Y_allGoals 22 = .ok (.iaload, 1) := by decide +kernel
theorem d_Y_allGoals_23 : decode tb_Y_allGoals 23 = .ok (.ifCond .lt 11, 3) := by decide +kernel
theorem d_Y_allGoals_26 : decode tb_Y_allGoals 26 = .ok (.iload_n 2, 1) := by decide +kernel
theorem d_Y_allGoals_27 : decode tb_Y_allGoals 27 = .ok (.iconst 1, 1) := by decide +kernel
theorem d_Y_allGoals_28 : decode tb_Y_allGoals 28 = .ok (.iload_n 3, 1) := by decide +kernel
theorem d_Y_allGoals_29 : decode tb_Y_allGoals 29 = .ok (.ishl, 1) := by decide +kernel
theorem d_Y_allGoals_30 : decode tb_Y_allGoals 30 = .ok (.ior, 1) := by decide +kernel
theorem d_Y_allGoals_31 : decode tb_Y_allGoals 31 = .ok (.goto 4, 3) := by decide +kernel
theorem d_Y_allGoals_34 : decode tb_Y_allGoals 34 = .ok (.iload_n 2, 1) := by decide +kernel
theorem d_Y_allGoals_35 : decode tb_Y_allGoals 35 = .ok (.istore_n 2, 1) := by decide +kernel
theorem d_Y_allGoals_36 : decode tb_Y_allGoals 36 = .ok (.iinc 3 1, 3) := by decide +kernel
theorem d_Y_allGoals_39 : decode tb_Y_allGoals 39 = .ok (.goto (-33), 3) := by decide +kernel
theorem d_Y_allGoals_42 : decode tb_Y_allGoals 42 = .ok (.iload_n 2, 1) := by decide +kernel
theorem d_Y_allGoals_43 : decode tb_Y_allGoals 43 = .ok (.ireturn, 1) := by decide +kernel
theorem d_Y_choose_0 : decode tb_Y_choose 0 = .ok (.iconst (-1), 1) := by decide +kernel
theorem d_Y_choose_1 : decode tb_Y_choose 1 = .ok (.istore_n 2, 1) := by decide +kernel
theorem d_Y_choose_2 : decode tb_Y_choose 2 = .ok (.iconst 0, 1) := by decide +kernel
theorem d_Y_choose_3 : decode tb_Y_choose 3 = .ok (.istore_n 3, 1) := by decide +kernel
theorem d_Y_choose_4 : decode tb_Y_choose 4 = .ok (.iconst 0, 1) := by decide +kernel
theorem d_Y_choose_5 : decode tb_Y_choose 5 = .ok (.istore 4, 2) := by decide +kernel
theorem d_Y_choose_7 : decode tb_Y_choose 7 = .ok (.iload 4, 2) := by decide +kernel
theorem d_Y_choose_9 : decode tb_Y_choose 9 = .ok (.bipush 7, 2) := by decide +kernel
theorem d_Y_choose_11 : decode tb_Y_choose 11 = .ok (.if_icmp .ge 119, 3) := by decide +kernel
theorem d_Y_choose_14 : decode tb_Y_choose 14 = .ok (.bipush 7, 2) := by decide +kernel
theorem d_Y_choose_16 : decode tb_Y_choose 16 = .ok (.iload_n 1, 1) := by decide +kernel
theorem d_Y_choose_17 : decode tb_Y_choose 17 = .ok (.imul, 1) := by decide +kernel
theorem d_Y_choose_18 : decode tb_Y_choose 18 = .ok (.iload 4, 2) := by decide +kernel
theorem d_Y_choose_20 : decode tb_Y_choose 20 = .ok (.iadd, 1) := by decide +kernel
theorem d_Y_choose_21 : decode tb_Y_choose 21 = .ok (.istore 5, 2) := by decide +kernel
theorem d_Y_choose_23 : decode tb_Y_choose 23 = .ok (.iload 4, 2) := by decide +kernel
theorem d_Y_choose_25 : decode tb_Y_choose 25 = .ok (.iload_n 1, 1) := by decide +kernel
theorem d_Y_choose_26 : decode tb_Y_choose 26 = .ok (.if_icmp .eq 40, 3) := by decide +kernel
theorem d_Y_choose_29 : decode tb_Y_choose 29 = .ok (.aload_n 0, 1) := by decide +kernel
theorem d_Y_choose_30 : decode tb_Y_choose 30 = .ok (.getfield 7, 3) := by decide +kernel
theorem d_Y_choose_33 : decode tb_Y_choose 33 = .ok (.iload 5, 2) := by decide +kernel
theorem d_Y_choose_35 : decode tb_Y_choose 35 = .ok (.iaload, 1) := by decide +kernel
theorem d_Y_choose_36 : decode tb_Y_choose 36 = .ok (.ifCond .le 30, 3) := by decide +kernel
theorem d_Y_choose_39 : decode tb_Y_choose 39 = .ok (.aload_n 0, 1) := by decide +kernel
theorem d_Y_choose_40 : decode tb_Y_choose 40 = .ok (.getfield 16, 3) := by decide +kernel
theorem d_Y_choose_43 : decode tb_Y_choose 43 = .ok (.iload 5, 2) := by decide +kernel
theorem d_Y_choose_45 : decode tb_Y_choose 45 = .ok (.baload, 1) := by decide +kernel
theorem d_Y_choose_46 : decode tb_Y_choose 46 = .ok (.ifCond .eq 20, 3) := by decide +kernel
theorem d_Y_choose_49 : decode tb_Y_choose 49 = .ok (.aload_n 0, 1) := by decide +kernel
theorem d_Y_choose_50 : decode tb_Y_choose 50 = .ok (.getfield 13, 3) := by decide +kernel
theorem d_Y_choose_53 : decode tb_Y_choose 53 = .ok (.iload 5, 2) := by decide +kernel
theorem d_Y_choose_55 : decode tb_Y_choose 55 = .ok (.iaload, 1) := by decide +kernel
theorem d_Y_choose_56 : decode tb_Y_choose 56 = .ok (.sipush 255, 3) := by decide +kernel
theorem d_Y_choose_59 : decode tb_Y_choose 59 = .ok (.if_icmp .eq 7, 3) := by decide +kernel
theorem d_Y_choose_62 : decode tb_Y_choose 62 = .ok (.iconst 1, 1) := by decide +kernel
theorem d_Y_choose_63 : decode tb_Y_choose 63 = .ok (.goto 4, 3) := by decide +kernel
theorem d_Y_choose_66 : decode tb_Y_choose 66 = .ok (.iconst 0, 1) := by decide +kernel
theorem d_Y_choose_67 : decode tb_Y_choose 67 = .ok (.istore 6, 2) := by decide +kernel
theorem d_Y_choose_69 : decode tb_Y_choose 69 = .ok (.aload_n 0, 1) := by decide +kernel
theorem d_Y_choose_70 : decode tb_Y_choose 70 = .ok (.getfield 13, 3) := by decide +kernel
theorem d_Y_choose_73 : decode tb_Y_choose 73 = .ok (.iload 5, 2) := by decide +kernel
theorem d_Y_choose_75 : decode tb_Y_choose 75 = .ok (.iaload, 1) := by decide +kernel
theorem d_Y_choose_76 : decode tb_Y_choose 76 = .ok (.aload_n 0, 1) := by decide +kernel
theorem d_Y_choose_77 : decode tb_Y_choose 77 = .ok (.getfield 7, 3) := by decide +kernel
theorem d_Y_choose_80 : decode tb_Y_choose 80 = .ok (.iload 5, 2) := by decide +kernel
theorem d_Y_choose_82 : decode tb_Y_choose 82 = .ok (.iaload, 1) := by decide +kernel
theorem d_Y_choose_83 : decode tb_Y_choose 83 = .ok (.iadd, 1) := by decide +kernel
theorem d_Y_choose_84 : decode tb_Y_choose 84 = .ok (.istore 7, 2) := by decide +kernel
theorem d_Y_choose_86 : decode tb_Y_choose 86 = .ok (.iload 6, 2) := by decide +kernel
theorem d_Y_choose_88 : decode tb_Y_choose 88 = .ok (.ifCond .eq 36, 3) := by decide +kernel
theorem d_Y_choose_91 : decode tb_Y_choose 91 = .ok (.iload_n 2, 1) := by decide +kernel
theorem d_Y_choose_92 : decode tb_Y_choose 92 = .ok (.ifCond .lt 26, 3) := by decide +kernel
theorem d_Y_choose_95 : decode tb_Y_choose 95 = .ok (.iload 7, 2) := by decide +kernel
theorem d_Y_choose_97 : decode tb_Y_choose 97 = .ok (.iload_n 3, 1) := by decide +kernel
theorem d_Y_choose_98 : decode tb_Y_choose 98 = .ok (.if_icmp .lt 20, 3) := by decide +kernel
theorem d_Y_choose_101 : decode tb_Y_choose 101 = .ok (.iload 7, 2) := by decide +kernel
theorem d_Y_choose_103 : decode tb_Y_choose 103 = .ok (.iload_n 3, 1) := by decide +kernel
theorem d_Y_choose_104 : decode tb_Y_choose 104 = .ok (.if_icmp .ne 20, 3) := by decide +kernel
theorem d_Y_choose_107 : decode tb_Y_choose 107 = .ok (.iload 4, 2) := by decide +kernel
theorem d_Y_choose_109 : decode tb_Y_choose 109 = .ok (.aload_n 0, 1) := by decide +kernel
theorem d_Y_choose_110 : decode tb_Y_choose 110 = .ok (.getfield 38, 3) := by decide +kernel
theorem d_Y_choose_113 : decode tb_Y_choose 113 = .ok (.iload_n 1, 1) := by decide +kernel
theorem d_Y_choose_114 : decode tb_Y_choose 114 = .ok (.iaload, 1) := by decide +kernel
theorem d_Y_choose_115 : decode tb_Y_choose 115 = .ok (.if_icmp .ne 9, 3) := by decide +kernel
theorem d_Y_choose_118 : decode tb_Y_choose 118 = .ok (.iload 4, 2) := by decide +kernel
theorem d_Y_choose_120 : decode tb_Y_choose 120 = .ok (.istore_n 2, 1) := by decide +kernel
theorem d_Y_choose_121 : decode tb_Y_choose 121 = .ok (.iload 7, 2) := by decide +kernel
theorem d_Y_choose_123 : decode tb_Y_choose 123 = .ok (.istore_n 3, 1) := by decide +kernel
theorem d_Y_choose_124 : decode tb_Y_choose 124 = .ok (.iinc 4 1, 3) := by decide +kernel
theorem d_Y_choose_127 : decode tb_Y_choose 127 = .ok (.goto (-120), 3) := by decide +kernel
theorem d_Y_choose_130 : decode tb_Y_choose 130 = .ok (.aload_n 0, 1) := by decide +kernel
theorem d_Y_choose_131 : decode tb_Y_choose 131 = .ok (.getfield 35, 3) := by decide +kernel
theorem d_Y_choose_134 : decode tb_Y_choose 134 = .ok (.iload_n 1, 1) := by decide +kernel
theorem d_Y_choose_135 : decode tb_Y_choose 135 = .ok (.iaload, 1) := by decide +kernel
theorem d_Y_choose_136 : decode tb_Y_choose 136 = .ok (.istore 4, 2) := by decide +kernel
theorem d_Y_choose_138 : decode tb_Y_choose 138 = .ok (.aload_n 0, 1) := by decide +kernel
theorem d_Y_choose_139 : decode tb_Y_choose 139 = .ok (.getfield 38, 3) := by decide +kernel
theorem d_Y_choose_142 : decode tb_Y_choose 142 = .ok (.iload_n 1, 1) := by decide +kernel
theorem d_Y_choose_143 : decode tb_Y_choose 143 = .ok (.iaload, 1) := by decide +kernel
theorem d_Y_choose_144 : decode tb_Y_choose 144 = .ok (.istore 5, 2) := by decide +kernel
theorem d_Y_choose_146 : decode tb_Y_choose 146 = .ok (.iload_n 2, 1) := by decide +kernel
theorem d_Y_choose_147 : decode tb_Y_choose 147 = .ok (.ifCond .lt 25, 3) := by decide +kernel
theorem d_Y_choose_150 : decode tb_Y_choose 150 = .ok (.iload_n 3, 1) := by decide +kernel
theorem d_Y_choose_151 : decode tb_Y_choose 151 = .ok (.sipush 254, 3) := by decide +kernel
theorem d_Y_choose_154 : decode tb_Y_choose 154 = .ok (.if_icmp .gt 18, 3) := by decide +kernel
theorem d_Y_choose_157 : decode tb_Y_choose 157 = .ok (.iload_n 3, 1) := by decide +kernel
theorem d_Y_choose_158 : decode tb_Y_choose 158 = .ok (.aload_n 0, 1) := by decide +kernel
theorem d_Y_choose_159 : decode tb_Y_choose 159 = .ok (.getfield 41, 3) := by decide +kernel
theorem d_Y_choose_162 : decode tb_Y_choose 162 = .ok (.iload_n 1, 1) := by decide +kernel
theorem d_Y_choose_163 : decode tb_Y_choose 163 = .ok (.iaload, 1) := by decide +kernel
theorem d_Y_choose_164 : decode tb_Y_choose 164 = .ok (.aload_n 0, 1) := by decide +kernel
theorem d_Y_choose_165 : decode tb_Y_choose 165 = .ok (.getfield 144, 3) := by decide +kernel
theorem d_Y_choose_168 : decode tb_Y_choose 168 = .ok (.iadd, 1) := by decide +kernel
theorem d_Y_choose_169 : decode tb_Y_choose 169 = .ok (.if_icmp .le 7, 3) := by decide +kernel
theorem d_Y_choose_172 : decode tb_Y_choose 172 = .ok (.iconst 1, 1) := by decide +kernel
theorem d_Y_choose_173 : decode tb_Y_choose 173 = .ok (.goto 4, 3) := by decide +kernel
theorem d_Y_choose_176 : decode tb_Y_choose 176 = .ok (.iconst 0, 1) := by decide +kernel
theorem d_Y_choose_177 : decode tb_Y_choose 177 = .ok (.istore 6, 2) := by decide +kernel
theorem d_Y_choose_179 : decode tb_Y_choose 179 = .ok (.aload_n 0, 1) := by decide +kernel
theorem d_Y_choose_180 : decode tb_Y_choose 180 = .ok (.getfield 35, 3) := by decide +kernel
theorem d_Y_choose_183 : decode tb_Y_choose 183 = .ok (.iload_n 1, 1) := by decide +kernel
theorem d_Y_choose_184 : decode tb_Y_choose 184 = .ok (.iload 6, 2) := by decide +kernel
theorem d_Y_choose_186 : decode tb_Y_choose 186 = .ok (.ifCond .eq 9, 3) := by decide +kernel
theorem d_Y_choose_189 : decode tb_Y_choose 189 = .ok (.sipush 255, 3) := by decide +kernel
theorem d_Y_choose_192 : decode tb_Y_choose 192 = .ok (.goto 4, 3) := by decide +kernel
theorem d_Y_choose_195 : decode tb_Y_choose 195 = .ok (.iload_n 3, 1) := by decide +kernel
theorem d_Y_choose_196 : decode tb_Y_choose 196 = .ok (.iastore, 1) := by decide +kernel
theorem d_Y_choose_197 : decode tb_Y_choose 197 = .ok (.aload_n 0, 1) := by decide +kernel
theorem d_Y_choose_198 : decode tb_Y_choose 198 = .ok (.getfield 38, 3) := by decide +kernel
theorem d_Y_choose_201 : decode tb_Y_choose 201 = .ok (.iload_n 1, 1) := by decide +kernel
theorem d_Y_choose_202 : decode tb_Y_choose 202 = .ok (.iload 6, 2) := by decide +kernel
theorem d_Y_choose_204 : decode tb_Y_choose 204 = .ok (.ifCond .eq 7, 3) := by decide +kernel
theorem d_Y_choose_207 : decode tb_Y_choose 207 = .ok (.iconst (-1), 1) := by decide +kernel
theorem d_Y_choose_208 : decode tb_Y_choose 208 = .ok (.goto 4, 3) := by decide +kernel
theorem d_Y_choose_211 : decode tb_Y_choose 211 = .ok (.iload_n 2, 1) := by decide +kernel
theorem d_Y_choose_212 : decode tb_Y_choose 212 = .ok (.iastore, 1) := by decide +kernel
theorem d_Y_choose_213 : decode tb_Y_choose 213 = .ok (.aload_n 0, 1) := by decide +kernel
theorem d_Y_choose_214 : decode tb_Y_choose 214 = .ok (.getfield 41, 3) := by decide +kernel
theorem d_Y_choose_217 : decode tb_Y_choose 217 = .ok (.iload_n 1, 1) := by decide +kernel
theorem d_Y_choose_218 : decode tb_Y_choose 218 = .ok (.iload 6, 2) := by decide +kernel
theorem d_Y_choose_220 : decode tb_Y_choose 220 = .ok (.ifCond .ne 17, 3) := by decide +kernel
theorem d_Y_choose_223 : decode tb_Y_choose 223 = .ok (.iload_n 3, 1) := by decide +kernel
theorem d_Y_choose_224 : decode tb_Y_choose 224 = .ok (.aload_n 0, 1) := by decide +kernel
theorem d_Y_choose_225 : decode tb_Y_choose 225 = .ok (.getfield 41, 3) := by decide +kernel
theorem d_Y_choose_228 : decode tb_Y_choose 228 = .ok (.iload_n 1, 1) := by decide +kernel
theorem d_Y_choose_229 : decode tb_Y_choose 229 = .ok (.iaload, 1) := by decide +kernel
theorem d_Y_choose_230 : decode tb_Y_choose 230 = .ok (.if_icmp .ge 7, 3) := by decide +kernel
theorem d_Y_choose_233 : decode tb_Y_choose 233 = .ok (.iload_n 3, 1) := by decide +kernel
theorem d_Y_choose_234 : decode tb_Y_choose 234 = .ok (.goto 9, 3) := by decide +kernel
theorem d_Y_choose_237 : decode tb_Y_choose 237 = .ok (.aload_n 0, 1) := by decide +kernel
theorem d_Y_choose_238 : decode tb_Y_choose 238 = .ok (.getfield 41, 3) := by decide +kernel
theorem d_Y_choose_241 : decode tb_Y_choose 241 = .ok (.iload_n 1, 1) := by decide +kernel
theorem d_Y_choose_242 : decode tb_Y_choose 242 = .ok (.iaload, 1) := by decide +kernel
theorem d_Y_choose_243 : decode tb_Y_choose 243 = .ok (.iastore, 1) := by decide +kernel
theorem d_Y_choose_244 : decode tb_Y_choose 244 = .ok (.aload_n 0, 1) := by decide +kernel
theorem d_Y_choose_245 : decode tb_Y_choose 245 = .ok (.getfield 44, 3) := by decide +kernel
theorem d_Y_choose_248 : decode tb_Y_choose 248 = .ok (.iload_n 1, 1) := by decide +kernel
theorem d_Y_choose_249 : decode tb_Y_choose 249 = .ok (.aload_n 0, 1) := by decide +kernel
theorem d_Y_choose_250 : decode tb_Y_choose 250 = .ok (.getfield 44, 3) := by decide +kernel
theorem d_Y_choose_253 : decode tb_Y_choose 253 = .ok (.iload_n 1, 1) := by decide +kernel
theorem d_Y_choose_254 : decode tb_Y_choose 254 = .ok (.baload, 1) := by decide +kernel
theorem d_Y_choose_255 : decode tb_Y_choose 255 = .ok (.ifCond .ne 8, 3) := by decide +kernel
theorem d_Y_choose_258 : decode tb_Y_choose 258 = .ok (.iload 6, 2) := by decide +kernel
theorem d_Y_choose_260 : decode tb_Y_choose 260 = .ok (.ifCond .ne 7, 3) := by decide +kernel
theorem d_Y_choose_263 : decode tb_Y_choose 263 = .ok (.iconst 1, 1) := by decide +kernel
theorem d_Y_choose_264 : decode tb_Y_choose 264 = .ok (.goto 4, 3) := by decide +kernel
theorem d_Y_choose_267 : decode tb_Y_choose 267 = .ok (.iconst 0, 1) := by decide +kernel
theorem d_Y_choose_268 : decode tb_Y_choose 268 = .ok (.bastore, 1) := by decide +kernel
theorem d_Y_choose_269 : decode tb_Y_choose 269 = .ok (.aload_n 0, 1) := by decide +kernel
theorem d_Y_choose_270 : decode tb_Y_choose 270 = .ok (.getfield 35, 3) := by decide +kernel
theorem d_Y_choose_273 : decode tb_Y_choose 273 = .ok (.iload_n 1, 1) := by decide +kernel
theorem d_Y_choose_274 : decode tb_Y_choose 274 = .ok (.iaload, 1) := by decide +kernel
theorem d_Y_choose_275 : decode tb_Y_choose 275 = .ok (.iload 4, 2) := by decide +kernel
theorem d_Y_choose_277 : decode tb_Y_choose 277 = .ok (.if_icmp .ne 14, 3) := by decide +kernel
theorem d_Y_choose_280 : decode tb_Y_choose 280 = .ok (.aload_n 0, 1) := by decide +kernel
theorem d_Y_choose_281 : decode tb_Y_choose 281 = .ok (.getfield 38, 3) := by decide +kernel
theorem d_Y_choose_284 : decode tb_Y_choose 284 = .ok (.iload_n 1, 1) := by decide +kernel
theorem d_Y_choose_285 : decode tb_Y_choose 285 = .ok (.iaload, 1) := by decide +kernel
theorem d_Y_choose_286 : decode tb_Y_choose 286 = .ok (.iload 5, 2) := by decide +kernel
theorem d_Y_choose_288 : decode tb_Y_choose 288 = .ok (.if_icmp .eq 7, 3) := by decide +kernel
theorem d_Y_choose_291 : decode tb_Y_choose 291 = .ok (.iconst 1, 1) := by decide +kernel
theorem d_Y_choose_292 : decode tb_Y_choose 292 = .ok (.goto 4, 3) := by decide +kernel
theorem d_Y_choose_295 : decode tb_Y_choose 295 = .ok (.iconst 0, 1) := by decide +kernel
theorem d_Y_choose_296 : decode tb_Y_choose 296 = .ok (.istore 7, 2) := by decide +kernel
theorem d_Y_choose_298 : decode tb_Y_choose 298 = .ok (.iload 7, 2) := by decide +kernel
theorem d_Y_choose_300 : decode tb_Y_choose 300 = .ok (.ifCond .eq 8, 3) := by decide +kernel
theorem d_Y_choose_303 : decode tb_Y_choose 303 = .ok (.aload_n 0, 1) := by decide +kernel
theorem d_Y_choose_304 : decode tb_Y_choose 304 = .ok (.iload_n 1, 1) := by decide +kernel
theorem d_Y_choose_305 : decode tb_Y_choose 305 = .ok (.invokevirtual 150, 3) := by decide +kernel
theorem d_Y_choose_308 : decode tb_Y_choose 308 = .ok (.aload_n 0, 1) := by decide +kernel
theorem d_Y_choose_309 : decode tb_Y_choose 309 = .ok (.getfield 38, 3) := by decide +kernel
theorem d_Y_choose_312 : decode tb_Y_choose 312 = .ok (.iload_n 1, 1) := by decide +kernel
theorem d_Y_choose_313 : decode tb_Y_choose 313 = .ok (.iaload, 1) := by decide +kernel
theorem d_Y_choose_314 : decode tb_Y_choose 314 = .ok (.iload 5, 2) := by decide +kernel
theorem d_Y_choose_316 : decode tb_Y_choose 316 = .ok (.if_icmp .eq 61, 3) := by decide +kernel
theorem d_Y_choose_319 : decode tb_Y_choose 319 = .ok (.aload_n 0, 1) := by decide +kernel
theorem d_Y_choose_320 : decode tb_Y_choose 320 = .ok (.iload_n 1, 1) := by decide +kernel
theorem d_Y_choose_321 : decode tb_Y_choose 321 = .ok (.invokevirtual 190, 3) := by decide +kernel
theorem d_Y_choose_324 : decode tb_Y_choose 324 = .ok (.istore 8, 2) := by decide +kernel
theorem d_Y_choose_326 : decode tb_Y_choose 326 = .ok (.iload 5, 2) := by decide +kernel
theorem d_Y_choose_328 : decode tb_Y_choose 328 = .ok (.ifCond .lt 13, 3) := by decide +kernel
theorem d_Y_choose_331 : decode tb_Y_choose 331 = .ok (.aload_n 0, 1) := by decide +kernel
theorem d_Y_choose_332 : decode tb_Y_choose 332 = .ok (.iload_n 1, 1) := by decide +kernel
theorem d_Y_choose_333 : decode tb_Y_choose 333 = .ok (.iload 5, 2) := by decide +kernel
theorem d_Y_choose_335 : decode tb_Y_choose 335 = .ok (.iload 8, 2) := by decide +kernel
theorem d_Y_choose_337 : decode tb_Y_choose 337 = .ok (.iconst 1, 1) := by decide +kernel
theorem d_Y_choose_338 : decode tb_Y_choose 338 = .ok (.invokevirtual 193, 3) := by decide +kernel
theorem d_Y_choose_341 : decode tb_Y_choose 341 = .ok (.aload_n 0, 1) := by decide +kernel
theorem d_Y_choose_342 : decode tb_Y_choose 342 = .ok (.getfield 38, 3) := by decide +kernel
theorem d_Y_choose_345 : decode tb_Y_choose 345 = .ok (.iload_n 1, 1) := by decide +kernel
theorem d_Y_choose_346 : decode tb_Y_choose 346 = .ok (.iaload, 1) := by decide +kernel
theorem d_Y_choose_347 : decode tb_Y_choose 347 = .ok (.ifCond .lt 30, 3) := by decide +kernel
theorem d_Y_choose_350 : decode tb_Y_choose 350 = .ok (.aload_n 0, 1) := by decide +kernel
theorem d_Y_choose_351 : decode tb_Y_choose 351 = .ok (.getfield 23, 3) := by decide +kernel
theorem d_Y_choose_354 : decode tb_Y_choose 354 = .ok (.bipush 8, 2) := by decide +kernel
theorem d_Y_choose_356 : decode tb_Y_choose 356 = .ok (.iload_n 1, 1) := by decide +kernel
theorem d_Y_choose_357 : decode tb_Y_choose 357 = .ok (.imul, 1) := by decide +kernel
theorem d_Y_choose_358 : decode tb_Y_choose 358 = .ok (.dup2, 1) := by decide +kernel
theorem d_Y_choose_359 : decode tb_Y_choose 359 = .ok (.iaload, 1) := by decide +kernel
theorem d_Y_choose_360 : decode tb_Y_choose 360 = .ok (.iconst 1, 1) := by decide +kernel
theorem d_Y_choose_361 : decode tb_Y_choose 361 = .ok (.iadd, 1) := by decide +kernel
theorem d_Y_choose_362 : decode tb_Y_choose 362 = .ok (.iastore, 1) := by decide +kernel
theorem d_Y_choose_363 : decode tb_Y_choose 363 = .ok (.aload_n 0, 1) := by decide +kernel
theorem d_Y_choose_364 : decode tb_Y_choose 364 = .ok (.iload_n 1, 1) := by decide +kernel
theorem d_Y_choose_365 : decode tb_Y_choose 365 = .ok (.aload_n 0, 1) := by decide +kernel
theorem d_Y_choose_366 : decode tb_Y_choose 366 = .ok (.getfield 38, 3) := by decide +kernel
theorem d_Y_choose_369 : decode tb_Y_choose 369 = .ok (.iload_n 1, 1) := by decide +kernel
theorem d_Y_choose_370 : decode tb_Y_choose 370 = .ok (.iaload, 1) := by decide +kernel
theorem d_Y_choose_371 : decode tb_Y_choose 371 = .ok (.iload 8, 2) := by decide +kernel
theorem d_Y_choose_373 : decode tb_Y_choose 373 = .ok (.iconst 0, 1) := by decide +kernel
theorem d_Y_choose_374 : decode tb_Y_choose 374 = .ok (.invokevirtual 193, 3) := by decide +kernel
theorem d_Y_choose_377 : decode tb_Y_choose 377 = .ok (.iload 7, 2) := by decide +kernel
theorem d_Y_choose_379 : decode tb_Y_choose 379 = .ok (.ireturn, 1) := by decide +kernel
theorem d_Y_advert_0 : decode tb_Y_advert 0 = .ok (.aload_n 0, 1) := by decide +kernel
theorem d_Y_advert_1 : decode tb_Y_advert 1 = .ok (.getfield 32, 3) := by decide +kernel
theorem d_Y_advert_4 : decode tb_Y_advert 4 = .ok (.iload_n 2, 1) := by decide +kernel
theorem d_Y_advert_5 : decode tb_Y_advert 5 = .ok (.iaload, 1) := by decide +kernel
theorem d_Y_advert_6 : decode tb_Y_advert 6 = .ok (.aload_n 0, 1) := by decide +kernel
theorem d_Y_advert_7 : decode tb_Y_advert 7 = .ok (.getfield 32, 3) := by decide +kernel
theorem d_Y_advert_10 : decode tb_Y_advert 10 = .ok (.iload_n 1, 1) := by decide +kernel
theorem d_Y_advert_11 : decode tb_Y_advert 11 = .ok (.iaload, 1) := by decide +kernel
theorem d_Y_advert_12 : decode tb_Y_advert 12 = .ok (.if_icmp .le 99, 3) := by decide +kernel
theorem d_Y_advert_15 : decode tb_Y_advert 15 = .ok (.iload_n 1, 1) := by decide +kernel
theorem d_Y_advert_16 : decode tb_Y_advert 16 = .ok (.ifCond .eq 95, 3) := by decide +kernel
theorem d_Y_advert_19 : decode tb_Y_advert 19 = .ok (.aload_n 0, 1) := by decide +kernel
theorem d_Y_advert_20 : decode tb_Y_advert 20 = .ok (.getfield 32, 3) := by decide +kernel
theorem d_Y_advert_23 : decode tb_Y_advert 23 = .ok (.iload_n 1, 1) := by decide +kernel
theorem d_Y_advert_24 : decode tb_Y_advert 24 = .ok (.aload_n 0, 1) := by decide +kernel
theorem d_Y_advert_25 : decode tb_Y_advert 25 = .ok (.getfield 32, 3) := by decide +kernel
theorem d_Y_advert_28 : decode tb_Y_advert 28 = .ok (.iload_n 2, 1) := by decide +kernel
theorem d_Y_advert_29 : decode tb_Y_advert 29 = .ok (.iaload, 1) := by decide +kernel
theorem d_Y_advert_30 : decode tb_Y_advert 30 = .ok (.iastore, 1) := by decide +kernel
theorem d_Y_advert_31 : decode tb_Y_advert 31 = .ok (.iconst 0, 1) := by decide +kernel
theorem d_Y_advert_32 : decode tb_Y_advert 32 = .ok (.istore_n 3, 1) := by decide +kernel
theorem d_Y_advert_33 : decode tb_Y_advert 33 = .ok (.iload_n 3, 1) := by decide +kernel
theorem d_Y_advert_34 : decode tb_Y_advert 34 = .ok (.bipush 7, 2) := by decide +kernel
theorem d_Y_advert_36 : decode tb_Y_advert 36 = .ok (.if_icmp .ge 21, 3) := by decide +kernel
theorem d_Y_advert_39 : decode tb_Y_advert 39 = .ok (.aload_n 0, 1) := by decide +kernel
theorem d_Y_advert_40 : decode tb_Y_advert 40 = .ok (.getfield 16, 3) := by decide +kernel
theorem d_Y_advert_43 : decode tb_Y_advert 43 = .ok (.bipush 7, 2) := by decide +kernel
theorem d_Y_advert_45 : decode tb_Y_advert 45 = .ok (.iload_n 1, 1) := by decide +kernel
theorem d_Y_advert_46 : decode tb_Y_advert 46 = .ok (.imul, 1) := by decide +kernel
theorem d_Y_advert_47 : decode tb_Y_advert 47 = .ok (.iload_n 3, 1) := by decide +kernel
theorem d_Y_advert_48 : decode tb_Y_advert 48 = .ok (.iadd, 1) := by decide +kernel
theorem d_Y_advert_49 : decode tb_Y_advert 49 = .ok (.iconst 0, 1) := by decide +kernel
theorem d_Y_advert_50 : decode tb_Y_advert 50 = .ok (.bastore, 1) := by decide +kernel
theorem d_Y_advert_51 : decode tb_Y_advert 51 = .ok (.iinc 3 1, 3) := by decide +kernel
theorem d_Y_advert_54 : decode tb_Y_advert 54 = .ok (.goto (-21), 3) := by decide +kernel
theorem d_Y_advert_57 : decode tb_Y_advert 57 = .ok (.aload_n 0, 1) := by decide +kernel
theorem d_Y_advert_58 : decode tb_Y_advert 58 = .ok (.getfield 41, 3) := by decide +kernel
theorem d_Y_advert_61 : decode tb_Y_advert 61 = .ok (.iload_n 1, 1) := by decide +kernel
theorem d_Y_advert_62 : decode tb_Y_advert 62 = .ok (.sipush 255, 3) := by decide +kernel
theorem d_Y_advert_65 : decode tb_Y_advert 65 = .ok (.iastore, 1) := by decide +kernel
theorem d_Y_advert_66 : decode tb_Y_advert 66 = .ok (.aload_n 0, 1) := by decide +kernel
theorem d_Y_advert_67 : decode tb_Y_advert 67 = .ok (.getfield 38, 3) := by decide +kernel
theorem d_Y_advert_70 : decode tb_Y_advert 70 = .ok (.iload_n 1, 1) := by decide +kernel
theorem d_Y_advert_71 : decode tb_Y_advert 71 = .ok (.iaload, 1) := by decide +kernel
theorem d_Y_advert_72 : decode tb_Y_advert 72 = .ok (.ifCond .ge 15, 3) := by decide +kernel
theorem d_Y_advert_75 : decode tb_Y_advert 75 = .ok (.aload_n 0, 1) := by decide +kernel
theorem d_Y_advert_76 : decode tb_Y_advert 76 = .ok (.getfield 35, 3) := by decide +kernel
theorem d_Y_advert_79 : decode tb_Y_advert 79 = .ok (.iload_n 1, 1) := by decide +kernel
theorem d_Y_advert_80 : decode tb_Y_advert 80 = .ok (.iaload, 1) := by decide +kernel
theorem d_Y_advert_81 : decode tb_Y_advert 81 = .ok (.sipush 255, 3) := by decide +kernel
theorem d_Y_advert_84 : decode tb_Y_advert 84 = .ok (.if_icmp .eq 48, 3) := by decide +kernel
theorem d_Y_advert_87 : decode tb_Y_advert 87 = .ok (.aload_n 0, 1) := by decide +kernel
theorem d_Y_advert_88 : decode tb_Y_advert 88 = .ok (.getfield 35, 3) := by decide +kernel
theorem d_Y_advert_91 : decode tb_Y_advert 91 = .ok (.iload_n 1, 1) := by decide +kernel
theorem d_Y_advert_92 : decode tb_Y_advert 92 = .ok (.sipush 255, 3) := by decide +kernel
theorem d_Y_advert_95 : decode tb_Y_advert 95 = .ok (.iastore, 1) := by decide +kernel
theorem d_Y_advert_96 : decode tb_Y_advert 96 = .ok (.aload_n 0, 1) := by decide +kernel
theorem d_Y_advert_97 : decode tb_Y_advert 97 = .ok (.getfield 38, 3) := by decide +kernel
theorem d_Y_advert_100 : decode tb_Y_advert 100 = .ok (.iload_n 1, 1) := by decide +kernel
theorem d_Y_advert_101 : decode tb_Y_advert 101 = .ok (.iconst (-1), 1) := by decide +kernel
theorem d_Y_advert_102 : decode tb_Y_advert 102 = .ok (.iastore, 1) := by decide +kernel
theorem d_Y_advert_103 : decode tb_Y_advert 103 = .ok (.aload_n 0, 1) := by decide +kernel
theorem d_Y_advert_104 : decode tb_Y_advert 104 = .ok (.iload_n 1, 1) := by decide +kernel
theorem d_Y_advert_105 : decode tb_Y_advert 105 = .ok (.invokevirtual 150, 3) := by decide +kernel
theorem d_Y_advert_108 : decode tb_Y_advert 108 = .ok (.goto 24, 3) := by decide +kernel
theorem d_Y_advert_111 : decode tb_Y_advert 111 = .ok (.aload_n 0, 1) := by decide +kernel
theorem d_Y_advert_112 : decode tb_Y_advert 112 = .ok (.getfield 32, 3) := by decide +kernel
theorem d_Y_advert_115 : decode tb_Y_advert 115 = .ok (.iload_n 2, 1) := by decide +kernel
theorem d_Y_advert_116 : decode tb_Y_advert 116 = .ok (.iaload, 1) := by decide +kernel
theorem d_Y_advert_117 : decode tb_Y_advert 117 = .ok (.aload_n 0, 1) := by decide +kernel
theorem d_Y_advert_118 : decode tb_Y_advert 118 = .ok (.getfield 32, 3) := by decide +kernel
theorem d_Y_advert_121 : decode tb_Y_advert 121 = .ok (.iload_n 1, 1) := by decide +kernel
theorem d_Y_advert_122 : decode tb_Y_advert 122 = .ok (.iaload, 1) := by decide +kernel
theorem d_Y_advert_123 : decode tb_Y_advert 123 = .ok (.if_icmp .ge 9, 3) := by decide +kernel
theorem d_Y_advert_126 : decode tb_Y_advert 126 = .ok (.aload_n 0, 1) := by decide +kernel
theorem d_Y_advert_127 : decode tb_Y_advert 127 = .ok (.iload_n 1, 1) := by decide +kernel
theorem d_Y_advert_128 : decode tb_Y_advert 128 = .ok (.invokevirtual 150, 3) := by decide +kernel
theorem d_Y_advert_131 : decode tb_Y_advert 131 = .ok (.return_, 1) := by decide +kernel
theorem d_Y_advert_132 : decode tb_Y_advert 132 = .ok (.aload_n 0, 1) := by decide +kernel
theorem d_Y_advert_133 : decode tb_Y_advert 133 = .ok (.getfield 13, 3) := by decide +kernel
theorem d_Y_advert_136 : decode tb_Y_advert 136 = .ok (.bipush 7, 2) := by decide +kernel
theorem d_Y_advert_138 : decode tb_Y_advert 138 = .ok (.iload_n 1, 1) := by decide +kernel
theorem d_Y_advert_139 : decode tb_Y_advert 139 = .ok (.imul, 1) := by decide +kernel
theorem d_Y_advert_140 : decode tb_Y_advert 140 = .ok (.iload_n 2, 1) := by decide +kernel
theorem d_Y_advert_141 : decode tb_Y_advert 141 = .ok (.iadd, 1) := by decide +kernel
theorem d_Y_advert_142 : decode tb_Y_advert 142 = .ok (.aload_n 0, 1) := by decide +kernel
theorem d_Y_advert_143 : decode tb_Y_advert 143 = .ok (.getfield 35, 3) := by decide +kernel
theorem d_Y_advert_146 : decode tb_Y_advert 146 = .ok (.iload_n 2, 1) := by decide +kernel
theorem d_Y_advert_147 : decode tb_Y_advert 147 = .ok (.iaload, 1) := by decide +kernel
theorem d_Y_advert_148 : decode tb_Y_advert 148 = .ok (.iastore, 1) := by decide +kernel
theorem d_Y_advert_149 : decode tb_Y_advert 149 = .ok (.aload_n 0, 1) := by decide +kernel
theorem d_Y_advert_150 : decode tb_Y_advert 150 = .ok (.getfield 16, 3) := by decide +kernel
theorem d_Y_advert_153 : decode tb_Y_advert 153 = .ok (.bipush 7, 2) := by decide +kernel
theorem d_Y_advert_155 : decode tb_Y_advert 155 = .ok (.iload_n 1, 1) := by decide +kernel
theorem d_Y_advert_156 : decode tb_Y_advert 156 = .ok (.imul, 1) := by decide +kernel
theorem d_Y_advert_157 : decode tb_Y_advert 157 = .ok (.iload_n 2, 1) := by decide +kernel
theorem d_Y_advert_158 : decode tb_Y_advert 158 = .ok (.iadd, 1) := by decide +kernel
theorem d_Y_advert_159 : decode tb_Y_advert 159 = .ok (.iconst 1, 1) := by decide +kernel
theorem d_Y_advert_160 : decode tb_Y_advert 160 = .ok (.bastore, 1) := by decide +kernel
theorem d_Y_advert_161 : decode tb_Y_advert 161 = .ok (.iload_n 1, 1) := by decide +kernel
theorem d_Y_advert_162 : decode tb_Y_advert 162 = .ok (.ifCond .eq 15, 3) := by decide +kernel
theorem d_Y_advert_165 : decode tb_Y_advert 165 = .ok (.aload_n 0, 1) := by decide +kernel
theorem d_Y_advert_166 : decode tb_Y_advert 166 = .ok (.iload_n 1, 1) := by decide +kernel
theorem d_Y_advert_167 : decode tb_Y_advert 167 = .ok (.invokevirtual 171, 3) := by decide +kernel
theorem d_Y_advert_170 : decode tb_Y_advert 170 = .ok (.ifCond .eq 7, 3) := by decide +kernel
theorem d_Y_advert_173 : decode tb_Y_advert 173 = .ok (.iconst 1, 1) := by decide +kernel
theorem d_Y_advert_174 : decode tb_Y_advert 174 = .ok (.goto 4, 3) := by decide +kernel
theorem d_Y_advert_177 : decode tb_Y_advert 177 = .ok (.iconst 0, 1) := by decide +kernel
theorem d_Y_advert_178 : decode tb_Y_advert 178 = .ok (.istore_n 3, 1) := by decide +kernel
theorem d_Y_advert_179 : decode tb_Y_advert 179 = .ok (.aload_n 0, 1) := by decide +kernel
theorem d_Y_advert_180 : decode tb_Y_advert 180 = .ok (.getfield 56, 3) := by decide +kernel
theorem d_Y_advert_183 : decode tb_Y_advert 183 = .ok (.iload_n 1, 1) := by decide +kernel
theorem d_Y_advert_184 : decode tb_Y_advert 184 = .ok (.dup2, 1) := by decide +kernel
theorem d_Y_advert_185 : decode tb_Y_advert 185 = .ok (.iaload, 1) := by decide +kernel
theorem d_Y_advert_186 : decode tb_Y_advert 186 = .ok (.iload_n 3, 1) := by decide +kernel
theorem d_Y_advert_187 : decode tb_Y_advert 187 = .ok (.ifCond .eq 7, 3) := by decide +kernel
theorem d_Y_advert_190 : decode tb_Y_advert 190 = .ok (.iconst 0, 1) := by decide +kernel
theorem d_Y_advert_191 : decode tb_Y_advert 191 = .ok (.goto 4, 3) := by decide +kernel
theorem d_Y_advert_194 : decode tb_Y_advert 194 = .ok (.iconst 1, 1) := by decide +kernel
theorem d_Y_advert_195 : decode tb_Y_advert 195 = .ok (.iadd, 1) := by decide +kernel
theorem d_Y_advert_196 : decode tb_Y_advert 196 = .ok (.iastore, 1) := by decide +kernel
theorem d_Y_advert_197 : decode tb_Y_advert 197 = .ok (.return_, 1) := by decide +kernel
theorem d_Y_announced_0 : decode tb_Y_announced 0 = .ok (.iconst 0, 1) := by decide +kernel
theorem d_Y_announced_1 : decode tb_Y_announced 1 = .ok (.istore 4, 2) := by decide +kernel
theorem d_Y_announced_3 : decode tb_Y_announced 3 = .ok (.iconst 0, 1) := by decide +kernel
theorem d_Y_announced_4 : decode tb_Y_announced 4 = .ok (.istore 5, 2) := by decide +kernel
theorem d_Y_announced_6 : decode tb_Y_announced 6 = .ok (.iload 5, 2) := by decide +kernel
theorem d_Y_announced_8 : decode tb_Y_announced 8 = .ok (.bipush 7, 2) := by decide +kernel
theorem d_Y_announced_10 : decode tb_Y_announced 10 = .ok (.if_icmp .ge 197, 3) := by decide +kernel
theorem d_Y_announced_13 : decode tb_Y_announced 13 = .ok (.bipush 7, 2) := by decide +kernel
theorem d_Y_announced_15 : decode tb_Y_announced 15 = .ok (.iload_n 1, 1) := by decide +kernel
theorem d_Y_announced_16 : decode tb_Y_announced 16 = .ok (.imul, 1) := by decide +kernel
theorem d_Y_announced_17 : decode tb_Y_announced 17 = .ok (.iload 5, 2) := by decide +kernel
theorem d_Y_announced_19 : decode tb_Y_announced 19 = .ok (.iadd, 1) := by decide +kernel
theorem d_Y_announced_20 : decode tb_Y_announced 20 = .ok (.istore 6, 2) := by decide +kernel
theorem d_Y_announced_22 : decode tb_Y_announced 22 = .ok (.iload 5, 2) := by decide +kernel
theorem d_Y_announced_24 : decode tb_Y_announced 24 = .ok (.iload_n 1, 1) := by decide +kernel
theorem d_Y_announced_25 : decode tb_Y_announced 25 = .ok (.if_icmp .eq 44, 3) := by decide +kernel
theorem d_Y_announced_28 : decode tb_Y_announced 28 = .ok (.aload_n 0, 1) := by decide +kernel
theorem d_Y_announced_29 : decode tb_Y_announced 29 = .ok (.getfield 92, 3) := by decide +kernel
theorem d_Y_announced_32 : decode tb_Y_announced 32 = .ok (.iload_n 3, 1) := by decide +kernel
theorem d_Y_announced_33 : decode tb_Y_announced 33 = .ok (.iaload, 1) := by decide +kernel
theorem d_Y_announced_34 : decode tb_Y_announced 34 = .ok (.iload 5, 2) := by decide +kernel
theorem d_Y_announced_36 : decode tb_Y_announced 36 = .ok (.ishr, 1) := by decide +kernel
theorem d_Y_announced_37 : decode tb_Y_announced 37 = .ok (.iconst 1, 1) := by decide +kernel
theorem d_Y_announced_38 : decode tb_Y_announced 38 = .ok (.iand, 1) := by decide +kernel
theorem d_Y_announced_39 : decode tb_Y_announced 39 = .ok (.iconst 1, 1) := by decide +kernel
theorem d_Y_announced_40 : decode tb_Y_announced 40 = .ok (.if_icmp .ne 29, 3) := by decide +kernel
theorem d_Y_announced_43 : decode tb_Y_announced 43 = .ok (.aload_n 0, 1) := by decide +kernel
theorem d_Y_announced_44 : decode tb_Y_announced 44 = .ok (.getfield 95, 3) := by decide +kernel
theorem d_Y_announced_47 : decode tb_Y_announced 47 = .ok (.bipush 7, 2) := by decide +kernel
theorem d_Y_announced_49 : decode tb_Y_announced 49 = .ok (.iload_n 3, 1) := by decide +kernel
theorem d_Y_announced_50 : decode tb_Y_announced 50 = .ok (.imul, 1) := by decide +kernel
theorem d_Y_announced_51 : decode tb_Y_announced 51 = .ok (.iload 5, 2) := by decide +kernel
theorem d_Y_announced_53 : decode tb_Y_announced 53 = .ok (.iadd, 1) := by decide +kernel
theorem d_Y_announced_54 : decode tb_Y_announced 54 = .ok (.iaload, 1) := by decide +kernel
theorem d_Y_announced_55 : decode tb_Y_announced 55 = .ok (.aload_n 0, 1) := by decide +kernel
theorem d_Y_announced_56 : decode tb_Y_announced 56 = .ok (.getfield 23, 3) := by decide +kernel
theorem d_Y_announced_59 : decode tb_Y_announced 59 = .ok (.iload 6, 2) := by decide +kernel
theorem d_Y_announced_61 : decode tb_Y_announced 61 = .ok (.iaload, 1) := by decide +kernel
theorem d_Y_announced_62 : decode tb_Y_announced 62 = .ok (.if_icmp .lt 7, 3) := by decide +kernel
theorem d_Y_announced_65 : decode tb_Y_announced 65 = .ok (.iconst 1, 1) := by decide +kernel
theorem d_Y_announced_66 : decode tb_Y_announced 66 = .ok (.goto 4, 3) := by decide +kernel
theorem d_Y_announced_69 : decode tb_Y_announced 69 = .ok (.iconst 0, 1) := by decide +kernel
theorem d_Y_announced_70 : decode tb_Y_announced 70 = .ok (.istore 7, 2) := by decide +kernel
theorem d_Y_announced_72 : decode tb_Y_announced 72 = .ok (.iload 7, 2) := by decide +kernel
theorem d_Y_announced_74 : decode tb_Y_announced 74 = .ok (.ifCond .eq 27, 3) := by decide +kernel
theorem d_Y_announced_77 : decode tb_Y_announced 77 = .ok (.aload_n 0, 1) := by decide +kernel
theorem d_Y_announced_78 : decode tb_Y_announced 78 = .ok (.getfield 98, 3) := by decide +kernel
theorem d_Y_announced_81 : decode tb_Y_announced 81 = .ok (.iload_n 3, 1) := by decide +kernel
theorem d_Y_announced_82 : decode tb_Y_announced 82 = .ok (.baload, 1) := by decide +kernel
theorem d_Y_announced_83 : decode tb_Y_announced 83 = .ok (.ifCond .eq 14, 3) := by decide +kernel
theorem d_Y_announced_86 : decode tb_Y_announced 86 = .ok (.aload_n 0, 1) := by decide +kernel
theorem d_Y_announced_87 : decode tb_Y_announced 87 = .ok (.getfield 20, 3) := by decide +kernel
theorem d_Y_announced_90 : decode tb_Y_announced 90 = .ok (.iload 6, 2) := by decide +kernel
theorem d_Y_announced_92 : decode tb_Y_announced 92 = .ok (.iaload, 1) := by decide +kernel
theorem d_Y_announced_93 : decode tb_Y_announced 93 = .ok (.iload_n 2, 1) := by decide +kernel
theorem d_Y_announced_94 : decode tb_Y_announced 94 = .ok (.if_icmp .ne 7, 3) := by decide +kernel
theorem d_Y_announced_97 : decode tb_Y_announced 97 = .ok (.iconst 1, 1) := by decide +kernel
theorem d_Y_announced_98 : decode tb_Y_announced 98 = .ok (.goto 4, 3) := by decide +kernel
theorem d_Y_announced_101 : decode tb_Y_announced 101 = .ok (.iconst 0, 1) := by decide +kernel
theorem d_Y_announced_102 : decode tb_Y_announced 102 = .ok (.istore 8, 2) := by decide +kernel
theorem d_Y_announced_104 : decode tb_Y_announced 104 = .ok (.aload_n 0, 1) := by decide +kernel
theorem d_Y_announced_105 : decode tb_Y_announced 105 = .ok (.getfield 98, 3) := by decide +kernel
theorem d_Y_announced_108 : decode tb_Y_announced 108 = .ok (.iload_n 3, 1) := by decide +kernel
theorem d_Y_announced_109 : decode tb_Y_announced 109 = .ok (.baload, 1) := by decide +kernel
theorem d_Y_announced_110 : decode tb_Y_announced 110 = .ok (.ifCond .eq 7, 3) := by decide +kernel
theorem d_Y_announced_113 : decode tb_Y_announced 113 = .ok (.iconst (-1), 1) := by decide +kernel
theorem d_Y_announced_114 : decode tb_Y_announced 114 = .ok (.goto 4, 3) := by decide +kernel
theorem d_Y_announced_117 : decode tb_Y_announced 117 = .ok (.iload_n 2, 1) := by decide +kernel
theorem d_Y_announced_118 : decode tb_Y_announced 118 = .ok (.istore 9, 2) := by decide +kernel
theorem d_Y_announced_120 : decode tb_Y_announced 120 = .ok (.iload 8, 2) := by decide +kernel
theorem d_Y_announced_122 : decode tb_Y_announced 122 = .ok (.ifCond .eq 79, 3) := by decide +kernel
theorem d_Y_announced_125 : decode tb_Y_announced 125 = .ok (.aload_n 0, 1) := by decide +kernel
theorem d_Y_announced_126 : decode tb_Y_announced 126 = .ok (.getfield 20, 3) := by decide +kernel
theorem d_Y_announced_129 : decode tb_Y_announced 129 = .ok (.iload 6, 2) := by decide +kernel
theorem d_Y_announced_131 : decode tb_Y_announced 131 = .ok (.iaload, 1) := by decide +kernel
theorem d_Y_announced_132 : decode tb_Y_announced 132 = .ok (.iload 9, 2) := by decide +kernel
theorem d_Y_announced_134 : decode tb_Y_announced 134 = .ok (.if_icmp .ne 25, 3) := by decide +kernel
theorem d_Y_announced_137 : decode tb_Y_announced 137 = .ok (.aload_n 0, 1) := by decide +kernel
theorem d_Y_announced_138 : decode tb_Y_announced 138 = .ok (.getfield 23, 3) := by decide +kernel
theorem d_Y_announced_141 : decode tb_Y_announced 141 = .ok (.iload 6, 2) := by decide +kernel
theorem d_Y_announced_143 : decode tb_Y_announced 143 = .ok (.iaload, 1) := by decide +kernel
theorem d_Y_announced_144 : decode tb_Y_announced 144 = .ok (.aload_n 0, 1) := by decide +kernel
theorem d_Y_announced_145 : decode tb_Y_announced 145 = .ok (.getfield 95, 3) := by decide +kernel
theorem d_Y_announced_148 : decode tb_Y_announced 148 = .ok (.bipush 7, 2) := by decide +kernel
theorem d_Y_announced_150 : decode tb_Y_announced 150 = .ok (.iload_n 3, 1) := by decide +kernel
theorem d_Y_announced_151 : decode tb_Y_announced 151 = .ok (.imul, 1) := by decide +kernel
theorem d_Y_announced_152 : decode tb_Y_announced 152 = .ok (.iload 5, 2) := by decide +kernel
theorem d_Y_announced_154 : decode tb_Y_announced 154 = .ok (.iadd, 1) := by decide +kernel
theorem d_Y_announced_155 : decode tb_Y_announced 155 = .ok (.iaload, 1) := by decide +kernel
theorem d_Y_announced_156 : decode tb_Y_announced 156 = .ok (.if_icmp .eq 13, 3) := by decide +kernel
theorem d_Y_announced_159 : decode tb_Y_announced 159 = .ok (.iload 4, 2) := by decide +kernel
theorem d_Y_announced_161 : decode tb_Y_announced 161 = .ok (.iconst 1, 1) := by decide +kernel
theorem d_Y_announced_162 : decode tb_Y_announced 162 = .ok (.iload 5, 2) := by decide +kernel
theorem d_Y_announced_164 : decode tb_Y_announced 164 = .ok (.ishl, 1) := by decide +kernel
theorem d_Y_announced_165 : decode tb_Y_announced 165 = .ok (.ior, 1) := by decide +kernel
theorem d_Y_announced_166 : decode tb_Y_announced 166 = .ok (.goto 5, 3) := by decide +kernel
theorem d_Y_announced_169 : decode tb_Y_announced 169 = .ok (.iload 4, 2) := by decide +kernel
theorem d_Y_announced_171 : decode tb_Y_announced 171 = .ok (.istore 4, 2) := by decide +kernel
theorem d_Y_announced_173 : decode tb_Y_announced 173 = .ok (.aload_n 0, 1) := by decide +kernel
theorem d_Y_announced_174 : decode tb_Y_announced 174 = .ok (.getfield 20, 3) := by decide +kernel
theorem d_Y_announced_177 : decode tb_Y_announced 177 = .ok (.iload 6, 2) := by decide +kernel
theorem d_Y_announced_179 : decode tb_Y_announced 179 = .ok (.iload 9, 2) := by decide +kernel
theorem d_Y_announced_181 : decode tb_Y_announced 181 = .ok (.iastore, 1) := by decide +kernel
theorem d_Y_announced_182 : decode tb_Y_announced 182 = .ok (.aload_n 0, 1) := by decide +kernel
theorem d_Y_announced_183 : decode tb_Y_announced 183 = .ok (.getfield 23, 3) := by decide +kernel
theorem d_Y_announced_186 : decode tb_Y_announced 186 = .ok (.iload 6, 2) := by decide +kernel
theorem d_Y_announced_188 : decode tb_Y_announced 188 = .ok (.aload_n 0, 1) := by decide +kernel
theorem d_Y_announced_189 : decode tb_Y_announced 189 = .ok (.getfield 95, 3) := by decide +kernel
theorem d_Y_announced_192 : decode tb_Y_announced 192 = .ok (.bipush 7, 2) := by decide +kernel
theorem d_Y_announced_194 : decode tb_Y_announced 194 = .ok (.iload_n 3, 1) := by decide +kernel
theorem d_Y_announced_195 : decode tb_Y_announced 195 = .ok (.imul, 1) := by decide +kernel
theorem d_Y_announced_196 : decode tb_Y_announced 196 = .ok (.iload 5, 2) := by decide +kernel
theorem d_Y_announced_198 : decode tb_Y_announced 198 = .ok (.iadd, 1) := by decide +kernel
theorem d_Y_announced_199 : decode tb_Y_announced 199 = .ok (.iaload, 1) := by decide +kernel
theorem d_Y_announced_200 : decode tb_Y_announced 200 = .ok (.iastore, 1) := by decide +kernel
theorem d_Y_announced_201 : decode tb_Y_announced 201 = .ok (.iinc 5 1, 3) := by decide +kernel
theorem d_Y_announced_204 : decode tb_Y_announced 204 = .ok (.goto (-198), 3) := by decide +kernel
theorem d_Y_announced_207 : decode tb_Y_announced 207 = .ok (.iload 4, 2) := by decide +kernel
theorem d_Y_announced_209 : decode tb_Y_announced 209 = .ok (.ifCond .eq 31, 3) := by decide +kernel
theorem d_Y_announced_212 : decode tb_Y_announced 212 = .ok (.aload_n 0, 1) := by decide +kernel
theorem d_Y_announced_213 : decode tb_Y_announced 213 = .ok (.getfield 38, 3) := by decide +kernel
theorem d_Y_announced_216 : decode tb_Y_announced 216 = .ok (.iload_n 1, 1) := by decide +kernel
theorem d_Y_announced_217 : decode tb_Y_announced 217 = .ok (.iaload, 1) := by decide +kernel
theorem d_Y_announced_218 : decode tb_Y_announced 218 = .ok (.ifCond .lt 22, 3) := by decide +kernel
theorem d_Y_announced_221 : decode tb_Y_announced 221 = .ok (.aload_n 0, 1) := by decide +kernel
theorem d_Y_announced_222 : decode tb_Y_announced 222 = .ok (.iload_n 1, 1) := by decide +kernel
theorem d_Y_announced_223 : decode tb_Y_announced 223 = .ok (.aload_n 0, 1) := by decide +kernel
theorem d_Y_announced_224 : decode tb_Y_announced 224 = .ok (.getfield 38, 3) := by decide +kernel
theorem d_Y_announced_227 : decode tb_Y_announced 227 = .ok (.iload_n 1, 1) := by decide +kernel
theorem d_Y_announced_228 : decode tb_Y_announced 228 = .ok (.iaload, 1) := by decide +kernel
theorem d_Y_announced_229 : decode tb_Y_announced 229 = .ok (.iload 4, 2) := by decide +kernel
theorem d_Y_announced_231 : decode tb_Y_announced 231 = .ok (.aload_n 0, 1) := by decide +kernel
theorem d_Y_announced_232 : decode tb_Y_announced 232 = .ok (.getfield 98, 3) := by decide +kernel
theorem d_Y_announced_235 : decode tb_Y_announced 235 = .ok (.iload_n 3, 1) := by decide +kernel
theorem d_Y_announced_236 : decode tb_Y_announced 236 = .ok (.baload, 1) := by decide +kernel
theorem d_Y_announced_237 : decode tb_Y_announced 237 = .ok (.invokevirtual 193, 3) := by decide +kernel
theorem d_Y_announced_240 : decode tb_Y_announced 240 = .ok (.return_, 1) := by decide +kernel
theorem d_Y_sendOn_0 : decode tb_Y_sendOn 0 = .ok (.aload_n 0, 1) := by decide +kernel
theorem d_Y_sendOn_1 : decode tb_Y_sendOn 1 = .ok (.getfield 20, 3) := by decide +kernel
theorem d_Y_sendOn_4 : decode tb_Y_sendOn 4 = .ok (.bipush 7, 2) := by decide +kernel
theorem d_Y_sendOn_6 : decode tb_Y_sendOn 6 = .ok (.iload_n 1, 1) := by decide +kernel
theorem d_Y_sendOn_7 : decode tb_Y_sendOn 7 = .ok (.imul, 1) := by decide +kernel
theorem d_Y_sendOn_8 : decode tb_Y_sendOn 8 = .ok (.iload_n 3, 1) := by decide +kernel
theorem d_Y_sendOn_9 : decode tb_Y_sendOn 9 = .ok (.iadd, 1) := by decide +kernel
theorem d_Y_sendOn_10 : decode tb_Y_sendOn 10 = .ok (.iaload, 1) := by decide +kernel
theorem d_Y_sendOn_11 : decode tb_Y_sendOn 11 = .ok (.istore 7, 2) := by decide +kernel
theorem d_Y_sendOn_13 : decode tb_Y_sendOn 13 = .ok (.iload 7, 2) := by decide +kernel
theorem d_Y_sendOn_15 : decode tb_Y_sendOn 15 = .ok (.ifCond .lt 8, 3) := by decide +kernel
theorem d_Y_sendOn_18 : decode tb_Y_sendOn 18 = .ok (.iload 7, 2) := by decide +kernel
theorem d_Y_sendOn_20 : decode tb_Y_sendOn 20 = .ok (.goto 9, 3) := by decide +kernel
theorem d_Y_sendOn_23 : decode tb_Y_sendOn 23 = .ok (.aload_n 0, 1) := by decide +kernel
theorem d_Y_sendOn_24 : decode tb_Y_sendOn 24 = .ok (.getfield 38, 3) := by decide +kernel
theorem d_Y_sendOn_27 : decode tb_Y_sendOn 27 = .ok (.iload_n 1, 1) := by decide +kernel
theorem d_Y_sendOn_28 : decode tb_Y_sendOn 28 = .ok (.iaload, 1) := by decide +kernel
theorem d_Y_sendOn_29 : decode tb_Y_sendOn 29 = .ok (.istore 8, 2) := by decide +kernel
theorem d_Y_sendOn_31 : decode tb_Y_sendOn 31 = .ok (.iload 8, 2) := by decide +kernel
theorem d_Y_sendOn_33 : decode tb_Y_sendOn 33 = .ok (.ifCond .ge 14, 3) := by decide +kernel
theorem d_Y_sendOn_36 : decode tb_Y_sendOn 36 = .ok (.aload_n 0, 1) := by decide +kernel
theorem d_Y_sendOn_37 : decode tb_Y_sendOn 37 = .ok (.dup, 1) := by decide +kernel
theorem d_Y_sendOn_38 : decode tb_Y_sendOn 38 = .ok (.getfield 162, 3) := by decide +kernel
theorem d_Y_sendOn_41 : decode tb_Y_sendOn 41 = .ok (.iconst 1, 1) := by decide +kernel
theorem d_Y_sendOn_42 : decode tb_Y_sendOn 42 = .ok (.iadd, 1) := by decide +kernel
theorem d_Y_sendOn_43 : decode tb_Y_sendOn 43 = .ok (.putfield 162, 3) := by decide +kernel
theorem d_Y_sendOn_46 : decode tb_Y_sendOn 46 = .ok (.return_, 1) := by decide +kernel
theorem d_Y_sendOn_47 : decode tb_Y_sendOn 47 = .ok (.aload_n 0, 1) := by decide +kernel
theorem d_Y_sendOn_48 : decode tb_Y_sendOn 48 = .ok (.iconst 4, 1) := by decide +kernel
theorem d_Y_sendOn_49 : decode tb_Y_sendOn 49 = .ok (.iload 8, 2) := by decide +kernel
theorem d_Y_sendOn_51 : decode tb_Y_sendOn 51 = .ok (.invokevirtual 182, 3) := by decide +kernel
theorem d_Y_sendOn_54 : decode tb_Y_sendOn 54 = .ok (.istore 9, 2) := by decide +kernel
theorem d_Y_sendOn_56 : decode tb_Y_sendOn 56 = .ok (.aload_n 0, 1) := by decide +kernel
theorem d_Y_sendOn_57 : decode tb_Y_sendOn 57 = .ok (.getfield 101, 3) := by decide +kernel
theorem d_Y_sendOn_60 : decode tb_Y_sendOn 60 = .ok (.iload 9, 2) := by decide +kernel
theorem d_Y_sendOn_62 : decode tb_Y_sendOn 62 = .ok (.iload_n 2, 1) := by decide +kernel
theorem d_Y_sendOn_63 : decode tb_Y_sendOn 63 = .ok (.iastore, 1) := by decide +kernel
theorem d_Y_sendOn_64 : decode tb_Y_sendOn 64 = .ok (.aload_n 0, 1) := by decide +kernel
theorem d_Y_sendOn_65 : decode tb_Y_sendOn 65 = .ok (.getfield 104, 3) := by decide +kernel
theorem d_Y_sendOn_68 : decode tb_Y_sendOn 68 = .ok (.iload 9, 2) := by decide +kernel
theorem d_Y_sendOn_70 : decode tb_Y_sendOn 70 = .ok (.iload_n 3, 1) := by decide +kernel
theorem d_Y_sendOn_71 : decode tb_Y_sendOn 71 = .ok (.iastore, 1) := by decide +kernel
theorem d_Y_sendOn_72 : decode tb_Y_sendOn 72 = .ok (.aload_n 0, 1) := by decide +kernel
theorem d_Y_sendOn_73 : decode tb_Y_sendOn 73 = .ok (.getfield 107, 3) := by decide +kernel
theorem d_Y_sendOn_76 : decode tb_Y_sendOn 76 = .ok (.iload 9, 2) := by decide +kernel
theorem d_Y_sendOn_78 : decode tb_Y_sendOn 78 = .ok (.iload 4, 2) := by decide +kernel
theorem d_Y_sendOn_80 : decode tb_Y_sendOn 80 = .ok (.iastore, 1) := by decide +kernel
theorem d_Y_sendOn_81 : decode tb_Y_sendOn 81 = .ok (.aload_n 0, 1) := by decide +kernel
theorem d_Y_sendOn_82 : decode tb_Y_sendOn 82 = .ok (.getfield 110, 3) := by decide +kernel
theorem d_Y_sendOn_85 : decode tb_Y_sendOn 85 = .ok (.iload 9, 2) := by decide +kernel
theorem d_Y_sendOn_87 : decode tb_Y_sendOn 87 = .ok (.iload 5, 2) := by decide +kernel
theorem d_Y_sendOn_89 : decode tb_Y_sendOn 89 = .ok (.iastore, 1) := by decide +kernel
theorem d_Y_sendOn_90 : decode tb_Y_sendOn 90 = .ok (.aload_n 0, 1) := by decide +kernel
theorem d_Y_sendOn_91 : decode tb_Y_sendOn 91 = .ok (.getfield 113, 3) := by decide +kernel
theorem d_Y_sendOn_94 : decode tb_Y_sendOn 94 = .ok (.iload 9, 2) := by decide +kernel
theorem d_Y_sendOn_96 : decode tb_Y_sendOn 96 = .ok (.iload 7, 2) := by decide +kernel
theorem d_Y_sendOn_98 : decode tb_Y_sendOn 98 = .ok (.ifCond .lt 7, 3) := by decide +kernel
theorem d_Y_sendOn_101 : decode tb_Y_sendOn 101 = .ok (.iconst 1, 1) := by decide +kernel
theorem d_Y_sendOn_102 : decode tb_Y_sendOn 102 = .ok (.goto 4, 3) := by decide +kernel
theorem d_Y_sendOn_105 : decode tb_Y_sendOn 105 = .ok (.iconst 0, 1) := by decide +kernel
theorem d_Y_sendOn_106 : decode tb_Y_sendOn 106 = .ok (.bastore, 1) := by decide +kernel
theorem d_Y_sendOn_107 : decode tb_Y_sendOn 107 = .ok (.aload_n 0, 1) := by decide +kernel
theorem d_Y_sendOn_108 : decode tb_Y_sendOn 108 = .ok (.getfield 116, 3) := by decide +kernel
theorem d_Y_sendOn_111 : decode tb_Y_sendOn 111 = .ok (.iload 9, 2) := by decide +kernel
theorem d_Y_sendOn_113 : decode tb_Y_sendOn 113 = .ok (.iload 6, 2) := by decide +kernel
theorem d_Y_sendOn_115 : decode tb_Y_sendOn 115 = .ok (.bastore, 1) := by decide +kernel
theorem d_Y_sendOn_116 : decode tb_Y_sendOn 116 = .ok (.aload_n 0, 1) := by decide +kernel
theorem d_Y_sendOn_117 : decode tb_Y_sendOn 117 = .ok (.iload_n 1, 1) := by decide +kernel
theorem d_Y_sendOn_118 : decode tb_Y_sendOn 118 = .ok (.iload 9, 2) := by decide +kernel
theorem d_Y_sendOn_120 : decode tb_Y_sendOn 120 = .ok (.invokevirtual 186, 3) := by decide +kernel
theorem d_Y_sendOn_123 : decode tb_Y_sendOn 123 = .ok (.return_, 1) := by decide +kernel
theorem d_Y_valued_0 : decode tb_Y_valued 0 = .ok (.aload_n 0, 1) := by decide +kernel
theorem d_Y_valued_1 : decode tb_Y_valued 1 = .ok (.getfield 113, 3) := by decide +kernel
theorem d_Y_valued_4 : decode tb_Y_valued 4 = .ok (.iload_n 3, 1) := by decide +kernel
theorem d_Y_valued_5 : decode tb_Y_valued 5 = .ok (.baload, 1) := by decide +kernel
theorem d_Y_valued_6 : decode tb_Y_valued 6 = .ok (.ifCond .eq 26, 3) := by decide +kernel
theorem d_Y_valued_9 : decode tb_Y_valued 9 = .ok (.aload_n 0, 1) := by decide +kernel
theorem d_Y_valued_10 : decode tb_Y_valued 10 = .ok (.getfield 35, 3) := by decide +kernel
theorem d_Y_valued_13 : decode tb_Y_valued 13 = .ok (.iload_n 2, 1) := by decide +kernel
theorem d_Y_valued_14 : decode tb_Y_valued 14 = .ok (.iaload, 1) := by decide +kernel
theorem d_Y_valued_15 : decode tb_Y_valued 15 = .ok (.aload_n 0, 1) := by decide +kernel
theorem d_Y_valued_16 : decode tb_Y_valued 16 = .ok (.getfield 35, 3) := by decide +kernel
theorem d_Y_valued_19 : decode tb_Y_valued 19 = .ok (.iload_n 1, 1) := by decide +kernel
theorem d_Y_valued_20 : decode tb_Y_valued 20 = .ok (.iaload, 1) := by decide +kernel
theorem d_Y_valued_21 : decode tb_Y_valued 21 = .ok (.if_icmp .lt 7, 3) := by decide +kernel
theorem d_Y_valued_24 : decode tb_Y_valued 24 = .ok (.iconst 1, 1) := by decide +kernel
theorem d_Y_valued_25 : decode tb_Y_valued 25 = .ok (.goto 27, 3) := by decide +kernel
theorem d_Y_valued_28 : decode tb_Y_valued 28 = .ok (.iconst 0, 1) := by decide +kernel
theorem d_Y_valued_29 : decode tb_Y_valued 29 = .ok (.goto 23, 3) := by decide +kernel
theorem d_Y_valued_32 : decode tb_Y_valued 32 = .ok (.aload_n 0, 1) := by decide +kernel
theorem d_Y_valued_33 : decode tb_Y_valued 33 = .ok (.getfield 35, 3) := by decide +kernel
theorem d_Y_valued_36 : decode tb_Y_valued 36 = .ok (.iload_n 2, 1) := by decide +kernel
theorem d_Y_valued_37 : decode tb_Y_valued 37 = .ok (.iaload, 1) := by decide +kernel
theorem d_Y_valued_38 : decode tb_Y_valued 38 = .ok (.aload_n 0, 1) := by decide +kernel
theorem d_Y_valued_39 : decode tb_Y_valued 39 = .ok (.getfield 35, 3) := by decide +kernel
theorem d_Y_valued_42 : decode tb_Y_valued 42 = .ok (.iload_n 1, 1) := by decide +kernel
theorem d_Y_valued_43 : decode tb_Y_valued 43 = .ok (.iaload, 1) := by decide +kernel
theorem d_Y_valued_44 : decode tb_Y_valued 44 = .ok (.if_icmp .gt 7, 3) := by decide +kernel
theorem d_Y_valued_47 : decode tb_Y_valued 47 = .ok (.iconst 1, 1) := by decide +kernel
theorem d_Y_valued_48 : decode tb_Y_valued 48 = .ok (.goto 4, 3) := by decide +kernel
theorem d_Y_valued_51 : decode tb_Y_valued 51 = .ok (.iconst 0, 1) := by decide +kernel
theorem d_Y_valued_52 : decode tb_Y_valued 52 = .ok (.istore 4, 2) := by decide +kernel
theorem d_Y_valued_54 : decode tb_Y_valued 54 = .ok (.iload 4, 2) := by decide +kernel
theorem d_Y_valued_56 : decode tb_Y_valued 56 = .ok (.ifCond .eq 28, 3) := by decide +kernel
theorem d_Y_valued_59 : decode tb_Y_valued 59 = .ok (.aload_n 0, 1) := by decide +kernel
theorem d_Y_valued_60 : decode tb_Y_valued 60 = .ok (.getfield 116, 3) := by decide +kernel
theorem d_Y_valued_63 : decode tb_Y_valued 63 = .ok (.iload_n 3, 1) := by decide +kernel
theorem d_Y_valued_64 : decode tb_Y_valued 64 = .ok (.baload, 1) := by decide +kernel
theorem d_Y_valued_65 : decode tb_Y_valued 65 = .ok (.ifCond .eq 19, 3) := by decide +kernel
theorem d_Y_valued_68 : decode tb_Y_valued 68 = .ok (.aload_n 0, 1) := by decide +kernel
theorem d_Y_valued_69 : decode tb_Y_valued 69 = .ok (.dup, 1) := by decide +kernel
theorem d_Y_valued_70 : decode tb_Y_valued 70 = .ok (.getfield 162, 3) := by decide +kernel
theorem d_Y_valued_73 : decode tb_Y_valued 73 = .ok (.iconst 1, 1) := by decide +kernel
theorem d_Y_valued_74 : decode tb_Y_valued 74 = .ok (.iadd, 1) := by decide +kernel
theorem d_Y_valued_75 : decode tb_Y_valued 75 = .ok (.putfield 162, 3) := by decide +kernel
theorem d_Y_valued_78 : decode tb_Y_valued 78 = .ok (.aload_n 0, 1) := by decide +kernel
theorem d_Y_valued_79 : decode tb_Y_valued 79 = .ok (.iload_n 1, 1) := by decide +kernel
theorem d_Y_valued_80 : decode tb_Y_valued 80 = .ok (.invokevirtual 150, 3) := by decide +kernel
theorem d_Y_valued_83 : decode tb_Y_valued 83 = .ok (.return_, 1) := by decide +kernel
theorem d_Y_valued_84 : decode tb_Y_valued 84 = .ok (.aload_n 0, 1) := by decide +kernel
theorem d_Y_valued_85 : decode tb_Y_valued 85 = .ok (.getfield 104, 3) := by decide +kernel
theorem d_Y_valued_88 : decode tb_Y_valued 88 = .ok (.iload_n 3, 1) := by decide +kernel
theorem d_Y_valued_89 : decode tb_Y_valued 89 = .ok (.iaload, 1) := by decide +kernel
theorem d_Y_valued_90 : decode tb_Y_valued 90 = .ok (.iload_n 1, 1) := by decide +kernel
theorem d_Y_valued_91 : decode tb_Y_valued 91 = .ok (.if_icmp .ne 93, 3) := by decide +kernel
theorem d_Y_valued_94 : decode tb_Y_valued 94 = .ok (.bipush 7, 2) := by decide +kernel
theorem d_Y_valued_96 : decode tb_Y_valued 96 = .ok (.istore 5, 2) := by decide +kernel
theorem d_Y_valued_98 : decode tb_Y_valued 98 = .ok (.iload 5, 2) := by decide +kernel
theorem d_Y_valued_100 : decode tb_Y_valued 100 = .ok (.ifCond .le 35, 3) := by decide +kernel
theorem d_Y_valued_103 : decode tb_Y_valued 103 = .ok (.aload_n 0, 1) := by decide +kernel
theorem d_Y_valued_104 : decode tb_Y_valued 104 = .ok (.getfield 137, 3) := by decide +kernel
theorem d_Y_valued_107 : decode tb_Y_valued 107 = .ok (.bipush 8, 2) := by decide +kernel
theorem d_Y_valued_109 : decode tb_Y_valued 109 = .ok (.iload_n 1, 1) := by decide +kernel
theorem d_Y_valued_110 : decode tb_Y_valued 110 = .ok (.imul, 1) := by decide +kernel
theorem d_Y_valued_111 : decode tb_Y_valued 111 = .ok (.iload 5, 2) := by decide +kernel
theorem d_Y_valued_113 : decode tb_Y_valued 113 = .ok (.iadd, 1) := by decide +kernel
theorem d_Y_valued_114 : decode tb_Y_valued 114 = .ok (.aload_n 0, 1) := by decide +kernel
theorem d_Y_valued_115 : decode tb_Y_valued 115 = .ok (.getfield 137, 3) := by decide +kernel
theorem d_Y_valued_118 : decode tb_Y_valued 118 = .ok (.bipush 8, 2) := by decide +kernel
theorem d_Y_valued_120 : decode tb_Y_valued 120 = .ok (.iload_n 1, 1) := by decide +kernel
theorem d_Y_valued_121 : decode tb_Y_valued 121 = .ok (.imul, 1) := by decide +kernel
theorem d_Y_valued_122 : decode tb_Y_valued 122 = .ok (.iload 5, 2) := by decide +kernel
theorem d_Y_valued_124 : decode tb_Y_valued 124 = .ok (.iadd, 1) := by decide +kernel
theorem d_Y_valued_125 : decode tb_Y_valued 125 = .ok (.iconst 1, 1) := by decide +kernel
theorem d_Y_valued_126 : decode tb_Y_valued 126 = .ok (.isub, 1) := by decide +kernel
theorem d_Y_valued_127 : decode tb_Y_valued 127 = .ok (.iaload, 1) := by decide +kernel
theorem d_Y_valued_128 : decode tb_Y_valued 128 = .ok (.iastore, 1) := by decide +kernel
theorem d_Y_valued_129 : decode tb_Y_valued 129 = .ok (.iinc 5 (-1), 3) := by decide +kernel
theorem d_Y_valued_132 : decode tb_Y_valued 132 = .ok (.goto (-34), 3) := by decide +kernel
theorem d_Y_valued_135 : decode tb_Y_valued 135 = .ok (.aload_n 0, 1) := by decide +kernel
theorem d_Y_valued_136 : decode tb_Y_valued 136 = .ok (.getfield 137, 3) := by decide +kernel
theorem d_Y_valued_139 : decode tb_Y_valued 139 = .ok (.bipush 8, 2) := by decide +kernel
theorem d_Y_valued_141 : decode tb_Y_valued 141 = .ok (.iload_n 1, 1) := by decide +kernel
theorem d_Y_valued_142 : decode tb_Y_valued 142 = .ok (.imul, 1) := by decide +kernel
theorem d_Y_valued_143 : decode tb_Y_valued 143 = .ok (.aload_n 0, 1) := by decide +kernel
theorem d_Y_valued_144 : decode tb_Y_valued 144 = .ok (.getfield 110, 3) := by decide +kernel
theorem d_Y_valued_147 : decode tb_Y_valued 147 = .ok (.iload_n 3, 1) := by decide +kernel
theorem d_Y_valued_148 : decode tb_Y_valued 148 = .ok (.iaload, 1) := by decide +kernel
theorem d_Y_valued_149 : decode tb_Y_valued 149 = .ok (.sipush 1000, 3) := by decide +kernel
theorem d_Y_valued_152 : decode tb_Y_valued 152 = .ok (.aload_n 0, 1) := by decide +kernel
theorem d_Y_valued_153 : decode tb_Y_valued 153 = .ok (.getfield 101, 3) := by decide +kernel
theorem d_Y_valued_156 : decode tb_Y_valued 156 = .ok (.iload_n 3, 1) := by decide +kernel
theorem d_Y_valued_157 : decode tb_Y_valued 157 = .ok (.iaload, 1) := by decide +kernel
theorem d_Y_valued_158 : decode tb_Y_valued 158 = .ok (.imul, 1) := by decide +kernel
theorem d_Y_valued_159 : decode tb_Y_valued 159 = .ok (.iadd, 1) := by decide +kernel
theorem d_Y_valued_160 : decode tb_Y_valued 160 = .ok (.iastore, 1) := by decide +kernel
theorem d_Y_valued_161 : decode tb_Y_valued 161 = .ok (.aload_n 0, 1) := by decide +kernel
theorem d_Y_valued_162 : decode tb_Y_valued 162 = .ok (.getfield 134, 3) := by decide +kernel
theorem d_Y_valued_165 : decode tb_Y_valued 165 = .ok (.iload_n 1, 1) := by decide +kernel
theorem d_Y_valued_166 : decode tb_Y_valued 166 = .ok (.dup2, 1) := by decide +kernel
theorem d_Y_valued_167 : decode tb_Y_valued 167 = .ok (.iaload, 1) := by decide +kernel
theorem d_Y_valued_168 : decode tb_Y_valued 168 = .ok (.iconst 1, 1) := by decide +kernel
theorem d_Y_valued_169 : decode tb_Y_valued 169 = .ok (.iadd, 1) := by decide +kernel
theorem d_Y_valued_170 : decode tb_Y_valued 170 = .ok (.iastore, 1) := by decide +kernel
theorem d_Y_valued_171 : decode tb_Y_valued 171 = .ok (.aload_n 0, 1) := by decide +kernel
theorem d_Y_valued_172 : decode tb_Y_valued 172 = .ok (.dup, 1) := by decide +kernel
theorem d_Y_valued_173 : decode tb_Y_valued 173 = .ok (.getfield 197, 3) := by decide +kernel
theorem d_Y_valued_176 : decode tb_Y_valued 176 = .ok (.iconst 1, 1) := by decide +kernel
theorem d_Y_valued_177 : decode tb_Y_valued 177 = .ok (.iadd, 1) := by decide +kernel
theorem d_Y_valued_178 : decode tb_Y_valued 178 = .ok (.putfield 197, 3) := by decide +kernel
theorem d_Y_valued_181 : decode tb_Y_valued 181 = .ok (.goto 76, 3) := by decide +kernel
theorem d_Y_valued_184 : decode tb_Y_valued 184 = .ok (.aload_n 0, 1) := by decide +kernel
theorem d_Y_valued_185 : decode tb_Y_valued 185 = .ok (.getfield 107, 3) := by decide +kernel
theorem d_Y_valued_188 : decode tb_Y_valued 188 = .ok (.iload_n 3, 1) := by decide +kernel
theorem d_Y_valued_189 : decode tb_Y_valued 189 = .ok (.iaload, 1) := by decide +kernel
theorem d_Y_valued_190 : decode tb_Y_valued 190 = .ok (.iconst 1, 1) := by decide +kernel
theorem d_Y_valued_191 : decode tb_Y_valued 191 = .ok (.if_icmp .ne 16, 3) := by decide +kernel
theorem d_Y_valued_194 : decode tb_Y_valued 194 = .ok (.aload_n 0, 1) := by decide +kernel
theorem d_Y_valued_195 : decode tb_Y_valued 195 = .ok (.dup, 1) := by decide +kernel
theorem d_Y_valued_196 : decode tb_Y_valued 196 = .ok (.getfield 162, 3) := by decide +kernel
theorem d_Y_valued_199 : decode tb_Y_valued 199 = .ok (.iconst 1, 1) := by decide +kernel
theorem d_Y_valued_200 : decode tb_Y_valued 200 = .ok (.iadd, 1) := by decide +kernel
theorem d_Y_valued_201 : decode tb_Y_valued 201 = .ok (.putfield 162, 3) := by decide +kernel
theorem d_Y_valued_204 : decode tb_Y_valued 204 = .ok (.goto 53, 3) := by decide +kernel
theorem d_Y_valued_207 : decode tb_Y_valued 207 = .ok (.aload_n 0, 1) := by decide +kernel
theorem d_Y_valued_208 : decode tb_Y_valued 208 = .ok (.iload_n 1, 1) := by decide +kernel
theorem d_Y_valued_209 : decode tb_Y_valued 209 = .ok (.aload_n 0, 1) := by decide +kernel
theorem d_Y_valued_210 : decode tb_Y_valued 210 = .ok (.getfield 101, 3) := by decide +kernel
theorem d_Y_valued_213 : decode tb_Y_valued 213 = .ok (.iload_n 3, 1) := by decide +kernel
theorem d_Y_valued_214 : decode tb_Y_valued 214 = .ok (.iaload, 1) := by decide +kernel
theorem d_Y_valued_215 : decode tb_Y_valued 215 = .ok (.aload_n 0, 1) := by decide +kernel
theorem d_Y_valued_216 : decode tb_Y_valued 216 = .ok (.getfield 104, 3) := by decide +kernel
theorem d_Y_valued_219 : decode tb_Y_valued 219 = .ok (.iload_n 3, 1) := by decide +kernel
theorem d_Y_valued_220 : decode tb_Y_valued 220 = .ok (.iaload, 1) := by decide +kernel
theorem d_Y_valued_221 : decode tb_Y_valued 221 = .ok (.aload_n 0, 1) := by decide +kernel
theorem d_Y_valued_222 : decode tb_Y_valued 222 = .ok (.getfield 107, 3) := by decide +kernel
theorem d_Y_valued_225 : decode tb_Y_valued 225 = .ok (.iload_n 3, 1) := by decide +kernel
theorem d_Y_valued_226 : decode tb_Y_valued 226 = .ok (.iaload, 1) := by decide +kernel
theorem d_Y_valued_227 : decode tb_Y_valued 227 = .ok (.iconst 1, 1) := by decide +kernel
theorem d_Y_valued_228 : decode tb_Y_valued 228 = .ok (.isub, 1) := by decide +kernel
theorem d_Y_valued_229 : decode tb_Y_valued 229 = .ok (.aload_n 0, 1) := by decide +kernel
theorem d_Y_valued_230 : decode tb_Y_valued 230 = .ok (.getfield 110, 3) := by decide +kernel
theorem d_Y_valued_233 : decode tb_Y_valued 233 = .ok (.iload_n 3, 1) := by decide +kernel
theorem d_Y_valued_234 : decode tb_Y_valued 234 = .ok (.iaload, 1) := by decide +kernel
theorem d_Y_valued_235 : decode tb_Y_valued 235 = .ok (.iload 4, 2) := by decide +kernel
theorem d_Y_valued_237 : decode tb_Y_valued 237 = .ok (.ifCond .ne 12, 3) := by decide +kernel
theorem d_Y_valued_240 : decode tb_Y_valued 240 = .ok (.aload_n 0, 1) := by decide +kernel
theorem d_Y_valued_241 : decode tb_Y_valued 241 = .ok (.getfield 116, 3) := by decide +kernel
theorem d_Y_valued_244 : decode tb_Y_valued 244 = .ok (.iload_n 3, 1) := by decide +kernel
theorem d_Y_valued_245 : decode tb_Y_valued 245 = .ok (.baload, 1) := by decide +kernel
theorem d_Y_valued_246 : decode tb_Y_valued 246 = .ok (.ifCond .eq 7, 3) := by decide +kernel
theorem d_Y_valued_249 : decode tb_Y_valued 249 = .ok (.iconst 1, 1) := by decide +kernel
theorem d_Y_valued_250 : decode tb_Y_valued 250 = .ok (.goto 4, 3) := by decide +kernel
theorem d_Y_valued_253 : decode tb_Y_valued 253 = .ok (.iconst 0, 1) := by decide +kernel
theorem d_Y_valued_254 : decode tb_Y_valued 254 = .ok (.invokevirtual 200, 3) := by decide +kernel
theorem d_Y_valued_257 : decode tb_Y_valued 257 = .ok (.return_, 1) := by decide +kernel
theorem d_Y_nearWasOn_0 : decode tb_Y_nearWasOn 0 = .ok (.iconst 0, 1) := by decide +kernel
theorem d_Y_nearWasOn_1 : decode tb_Y_nearWasOn 1 = .ok (.istore_n 2, 1) := by decide +kernel
theorem d_Y_nearWasOn_2 : decode tb_Y_nearWasOn 2 = .ok (.iconst 0, 1) := by decide +kernel
theorem d_Y_nearWasOn_3 : decode tb_Y_nearWasOn 3 = .ok (.istore_n 3, 1) := by decide +kernel
theorem d_Y_nearWasOn_4 : decode tb_Y_nearWasOn 4 = .ok (.iload_n 3, 1) := by decide +kernel
theorem d_Y_nearWasOn_5 : decode tb_Y_nearWasOn 5 = .ok (.bipush 7, 2) := by decide +kernel
theorem d_Y_nearWasOn_7 : decode tb_Y_nearWasOn 7 = .ok (.if_icmp .ge 42, 3) := by decide +kernel
theorem d_Y_nearWasOn_10 : decode tb_Y_nearWasOn 10 = .ok (.iload_n 2, 1) := by decide +kernel
theorem d_Y_nearWasOn_11 : decode tb_Y_nearWasOn 11 = .ok (.ifCond .ne 26, 3) := by decide +kernel
theorem d_Y_nearWasOn_14 : decode tb_Y_nearWasOn 14 = .ok (.aload_n 0, 1) := by decide +kernel
theorem d_Y_nearWasOn_15 : decode tb_Y_nearWasOn 15 = .ok (.getfield 7, 3) := by decide +kernel
theorem d_Y_nearWasOn_18 : decode tb_Y_nearWasOn 18 = .ok (.bipush 7, 2) := by decide +kernel
theorem d_Y_nearWasOn_20 : decode tb_Y_nearWasOn 20 = .ok (.iload_n 1, 1) := by decide +kernel
theorem d_Y_nearWasOn_21 : decode tb_Y_nearWasOn 21 = .ok (.imul, 1) := by decide +kernel
theorem d_Y_nearWasOn_22 : decode tb_Y_nearWasOn 22 = .ok (.iload_n 3, 1) := by decide +kernel
theorem d_Y_nearWasOn_23 : decode tb_Y_nearWasOn 23 = .ok (.iadd, 1) := by decide +kernel
theorem d_Y_nearWasOn_24 : decode tb_Y_nearWasOn 24 = .ok (.iaload, 1) := by decide +kernel
theorem d_Y_nearWasOn_25 : decode tb_Y_nearWasOn 25 = .ok (.ifCond .le 16, 3) := by decide +kernel
theorem d_Y_nearWasOn_28 : decode tb_Y_nearWasOn 28 = .ok (.aload_n 0, 1) := by decide +kernel
theorem d_Y_nearWasOn_29 : decode tb_Y_nearWasOn 29 = .ok (.getfield 125, 3) := by decide +kernel
theorem d_Y_nearWasOn_32 : decode tb_Y_nearWasOn 32 = .ok (.iload_n 3, 1) := by decide +kernel
theorem d_Y_nearWasOn_33 : decode tb_Y_nearWasOn 33 = .ok (.baload, 1) := by decide +kernel
theorem d_Y_nearWasOn_34 : decode tb_Y_nearWasOn 34 = .ok (.ifCond .eq 7, 3) := by decide +kernel
theorem d_Y_nearWasOn_37 : decode tb_Y_nearWasOn 37 = .ok (.iconst 1, 1) := by decide +kernel
theorem d_Y_nearWasOn_38 : decode tb_Y_nearWasOn 38 = .ok (.goto 4, 3) := by decide +kernel
theorem d_Y_nearWasOn_41 : decode tb_Y_nearWasOn 41 = .ok (.iconst 0, 1) := by decide +kernel
theorem d_Y_nearWasOn_42 : decode tb_Y_nearWasOn 42 = .ok (.istore_n 2, 1) := by decide +kernel
theorem d_Y_nearWasOn_43 : decode tb_Y_nearWasOn 43 = .ok (.iinc 3 1, 3) := by decide +kernel
theorem d_Y_nearWasOn_46 : decode tb_Y_nearWasOn 46 = .ok (.goto (-42), 3) := by decide +kernel
theorem d_Y_nearWasOn_49 : decode tb_Y_nearWasOn 49 = .ok (.iload_n 2, 1) := by decide +kernel
theorem d_Y_nearWasOn_50 : decode tb_Y_nearWasOn 50 = .ok (.ireturn, 1) := by decide +kernel
theorem d_Y_air_0 : decode tb_Y_air 0 = .ok (.aload_n 0, 1) := by decide +kernel
theorem d_Y_air_1 : decode tb_Y_air 1 = .ok (.getfield 119, 3) := by decide +kernel
theorem d_Y_air_4 : decode tb_Y_air 4 = .ok (.iload_n 1, 1) := by decide +kernel
theorem d_Y_air_5 : decode tb_Y_air 5 = .ok (.iconst 0, 1) := by decide +kernel
theorem d_Y_air_6 : decode tb_Y_air 6 = .ok (.iastore, 1) := by decide +kernel
theorem d_Y_air_7 : decode tb_Y_air 7 = .ok (.aload_n 0, 1) := by decide +kernel
theorem d_Y_air_8 : decode tb_Y_air 8 = .ok (.getfield 74, 3) := by decide +kernel
theorem d_Y_air_11 : decode tb_Y_air 11 = .ok (.iload_n 1, 1) := by decide +kernel
theorem d_Y_air_12 : decode tb_Y_air 12 = .ok (.iaload, 1) := by decide +kernel
theorem d_Y_air_13 : decode tb_Y_air 13 = .ok (.ifCond .lt 32, 3) := by decide +kernel
theorem d_Y_air_16 : decode tb_Y_air 16 = .ok (.aload_n 0, 1) := by decide +kernel
theorem d_Y_air_17 : decode tb_Y_air 17 = .ok (.getfield 119, 3) := by decide +kernel
theorem d_Y_air_20 : decode tb_Y_air 20 = .ok (.iload_n 1, 1) := by decide +kernel
theorem d_Y_air_21 : decode tb_Y_air 21 = .ok (.iconst 2, 1) := by decide +kernel
theorem d_Y_air_22 : decode tb_Y_air 22 = .ok (.iastore, 1) := by decide +kernel
theorem d_Y_air_23 : decode tb_Y_air 23 = .ok (.aload_n 0, 1) := by decide +kernel
theorem d_Y_air_24 : decode tb_Y_air 24 = .ok (.getfield 122, 3) := by decide +kernel
theorem d_Y_air_27 : decode tb_Y_air 27 = .ok (.iload_n 1, 1) := by decide +kernel
theorem d_Y_air_28 : decode tb_Y_air 28 = .ok (.aload_n 0, 1) := by decide +kernel
theorem d_Y_air_29 : decode tb_Y_air 29 = .ok (.getfield 74, 3) := by decide +kernel
theorem d_Y_air_32 : decode tb_Y_air 32 = .ok (.iload_n 1, 1) := by decide +kernel
theorem d_Y_air_33 : decode tb_Y_air 33 = .ok (.iaload, 1) := by decide +kernel
theorem d_Y_air_34 : decode tb_Y_air 34 = .ok (.iastore, 1) := by decide +kernel
theorem d_Y_air_35 : decode tb_Y_air 35 = .ok (.aload_n 0, 1) := by decide +kernel
theorem d_Y_air_36 : decode tb_Y_air 36 = .ok (.getfield 74, 3) := by decide +kernel
theorem d_Y_air_39 : decode tb_Y_air 39 = .ok (.iload_n 1, 1) := by decide +kernel
theorem d_Y_air_40 : decode tb_Y_air 40 = .ok (.iconst (-1), 1) := by decide +kernel
theorem d_Y_air_41 : decode tb_Y_air 41 = .ok (.iastore, 1) := by decide +kernel
theorem d_Y_air_42 : decode tb_Y_air 42 = .ok (.goto 130, 3) := by decide +kernel
theorem d_Y_air_45 : decode tb_Y_air 45 = .ok (.aload_n 0, 1) := by decide +kernel
theorem d_Y_air_46 : decode tb_Y_air 46 = .ok (.getfield 77, 3) := by decide +kernel
theorem d_Y_air_49 : decode tb_Y_air 49 = .ok (.iload_n 1, 1) := by decide +kernel
theorem d_Y_air_50 : decode tb_Y_air 50 = .ok (.baload, 1) := by decide +kernel
theorem d_Y_air_51 : decode tb_Y_air 51 = .ok (.ifCond .ne 121, 3) := by decide +kernel
theorem d_Y_air_54 : decode tb_Y_air 54 = .ok (.aload_n 0, 1) := by decide +kernel
theorem d_Y_air_55 : decode tb_Y_air 55 = .ok (.getfield 62, 3) := by decide +kernel
theorem d_Y_air_58 : decode tb_Y_air 58 = .ok (.iload_n 1, 1) := by decide +kernel
theorem d_Y_air_59 : decode tb_Y_air 59 = .ok (.iaload, 1) := by decide +kernel
theorem d_Y_air_60 : decode tb_Y_air 60 = .ok (.ifCond .le 112, 3) := by decide +kernel
theorem d_Y_air_63 : decode tb_Y_air 63 = .ok (.aload_n 0, 1) := by decide +kernel
theorem d_Y_air_64 : decode tb_Y_air 64 = .ok (.getfield 65, 3) := by decide +kernel
theorem d_Y_air_67 : decode tb_Y_air 67 = .ok (.iload_n 1, 1) := by decide +kernel
theorem d_Y_air_68 : decode tb_Y_air 68 = .ok (.iaload, 1) := by decide +kernel
theorem d_Y_air_69 : decode tb_Y_air 69 = .ok (.ifCond .le 16, 3) := by decide +kernel
theorem d_Y_air_72 : decode tb_Y_air 72 = .ok (.aload_n 0, 1) := by decide +kernel
theorem d_Y_air_73 : decode tb_Y_air 73 = .ok (.getfield 65, 3) := by decide +kernel
theorem d_Y_air_76 : decode tb_Y_air 76 = .ok (.iload_n 1, 1) := by decide +kernel
theorem d_Y_air_77 : decode tb_Y_air 77 = .ok (.dup2, 1) := by decide +kernel
theorem d_Y_air_78 : decode tb_Y_air 78 = .ok (.iaload, 1) := by decide +kernel
theorem d_Y_air_79 : decode tb_Y_air 79 = .ok (.iconst 1, 1) := by decide +kernel
theorem d_Y_air_80 : decode tb_Y_air 80 = .ok (.isub, 1) := by decide +kernel
theorem d_Y_air_81 : decode tb_Y_air 81 = .ok (.iastore, 1) := by decide +kernel
theorem d_Y_air_82 : decode tb_Y_air 82 = .ok (.goto 90, 3) := by decide +kernel
theorem d_Y_air_85 : decode tb_Y_air 85 = .ok (.aload_n 0, 1) := by decide +kernel
theorem d_Y_air_86 : decode tb_Y_air 86 = .ok (.iload_n 1, 1) := by decide +kernel
theorem d_Y_air_87 : decode tb_Y_air 87 = .ok (.invokevirtual 204, 3) := by decide +kernel
theorem d_Y_air_90 : decode tb_Y_air 90 = .ok (.ifCond .eq 65, 3) := by decide +kernel
theorem d_Y_air_93 : decode tb_Y_air 93 = .ok (.aload_n 0, 1) := by decide +kernel
theorem d_Y_air_94 : decode tb_Y_air 94 = .ok (.getfield 68, 3) := by decide +kernel
theorem d_Y_air_97 : decode tb_Y_air 97 = .ok (.iload_n 1, 1) := by decide +kernel
theorem d_Y_air_98 : decode tb_Y_air 98 = .ok (.dup2, 1) := by decide +kernel
theorem d_Y_air_99 : decode tb_Y_air 99 = .ok (.iaload, 1) := by decide +kernel
theorem d_Y_air_100 : decode tb_Y_air 100 = .ok (.iconst 1, 1) := by decide +kernel
theorem d_Y_air_101 : decode tb_Y_air 101 = .ok (.iadd, 1) := by decide +kernel
theorem d_Y_air_102 : decode tb_Y_air 102 = .ok (.iastore, 1) := by decide +kernel
theorem d_Y_air_103 : decode tb_Y_air 103 = .ok (.aload_n 0, 1) := by decide +kernel
theorem d_Y_air_104 : decode tb_Y_air 104 = .ok (.getfield 68, 3) := by decide +kernel
theorem d_Y_air_107 : decode tb_Y_air 107 = .ok (.iload_n 1, 1) := by decide +kernel
theorem d_Y_air_108 : decode tb_Y_air 108 = .ok (.iaload, 1) := by decide +kernel
theorem d_Y_air_109 : decode tb_Y_air 109 = .ok (.iconst 5, 1) := by decide +kernel
theorem d_Y_air_110 : decode tb_Y_air 110 = .ok (.if_icmp .ne 11, 3) := by decide +kernel
theorem d_Y_air_113 : decode tb_Y_air 113 = .ok (.aload_n 0, 1) := by decide +kernel
theorem d_Y_air_114 : decode tb_Y_air 114 = .ok (.iload_n 1, 1) := by decide +kernel
theorem d_Y_air_115 : decode tb_Y_air 115 = .ok (.invokevirtual 207, 3) := by decide +kernel
theorem d_Y_air_118 : decode tb_Y_air 118 = .ok (.goto 54, 3) := by decide +kernel
theorem d_Y_air_121 : decode tb_Y_air 121 = .ok (.iconst 4, 1) := by decide +kernel
theorem d_Y_air_122 : decode tb_Y_air 122 = .ok (.aload_n 0, 1) := by decide +kernel
theorem d_Y_air_123 : decode tb_Y_air 123 = .ok (.getfield 68, 3) := by decide +kernel
theorem d_Y_air_126 : decode tb_Y_air 126 = .ok (.iload_n 1, 1) := by decide +kernel
theorem d_Y_air_127 : decode tb_Y_air 127 = .ok (.iaload, 1) := by decide +kernel
theorem d_Y_air_128 : decode tb_Y_air 128 = .ok (.ishl, 1) := by decide +kernel
theorem d_Y_air_129 : decode tb_Y_air 129 = .ok (.istore_n 2, 1) := by decide +kernel
theorem d_Y_air_130 : decode tb_Y_air 130 = .ok (.aload_n 0, 1) := by decide +kernel
theorem d_Y_air_131 : decode tb_Y_air 131 = .ok (.getfield 65, 3) := by decide +kernel
theorem d_Y_air_134 : decode tb_Y_air 134 = .ok (.iload_n 1, 1) := by decide +kernel
theorem d_Y_air_135 : decode tb_Y_air 135 = .ok (.aload_n 0, 1) := by decide +kernel
theorem d_Y_air_136 : decode tb_Y_air 136 = .ok (.iload_n 2, 1) := by decide +kernel
theorem d_Y_air_137 : decode tb_Y_air 137 = .ok (.bipush 32, 2) := by decide +kernel
theorem d_Y_air_139 : decode tb_Y_air 139 = .ok (.if_icmp .le 8, 3) := by decide +kernel
theorem d_Y_air_142 : decode tb_Y_air 142 = .ok (.bipush 32, 2) := by decide +kernel
theorem d_Y_air_144 : decode tb_Y_air 144 = .ok (.goto 4, 3) := by decide +kernel
theorem d_Y_air_147 : decode tb_Y_air 147 = .ok (.iload_n 2, 1) := by decide +kernel
theorem d_Y_air_148 : decode tb_Y_air 148 = .ok (.invokevirtual 158, 3) := by decide +kernel
theorem d_Y_air_151 : decode tb_Y_air 151 = .ok (.iastore, 1) := by decide +kernel
theorem d_Y_air_152 : decode tb_Y_air 152 = .ok (.goto 20, 3) := by decide +kernel
theorem d_Y_air_155 : decode tb_Y_air 155 = .ok (.aload_n 0, 1) := by decide +kernel
theorem d_Y_air_156 : decode tb_Y_air 156 = .ok (.getfield 119, 3) := by decide +kernel
theorem d_Y_air_159 : decode tb_Y_air 159 = .ok (.iload_n 1, 1) := by decide +kernel
theorem d_Y_air_160 : decode tb_Y_air 160 = .ok (.iconst 1, 1) := by decide +kernel
theorem d_Y_air_161 : decode tb_Y_air 161 = .ok (.iastore, 1) := by decide +kernel
theorem d_Y_air_162 : decode tb_Y_air 162 = .ok (.aload_n 0, 1) := by decide +kernel
theorem d_Y_air_163 : decode tb_Y_air 163 = .ok (.dup, 1) := by decide +kernel
theorem d_Y_air_164 : decode tb_Y_air 164 = .ok (.getfield 210, 3) := by decide +kernel
theorem d_Y_air_167 : decode tb_Y_air 167 = .ok (.iconst 1, 1) := by decide +kernel
theorem d_Y_air_168 : decode tb_Y_air 168 = .ok (.iadd, 1) := by decide +kernel
theorem d_Y_air_169 : decode tb_Y_air 169 = .ok (.putfield 210, 3) := by decide +kernel
theorem d_Y_air_172 : decode tb_Y_air 172 = .ok (.return_, 1) := by decide +kernel
theorem d_Y_heardFrom_0 : decode tb_Y_heardFrom 0 = .ok (.iconst (-1), 1) := by decide +kernel
theorem d_Y_heardFrom_1 : decode tb_Y_heardFrom 1 = .ok (.istore_n 2, 1) := by decide +kernel
theorem d_Y_heardFrom_2 : decode tb_Y_heardFrom 2 = .ok (.iconst 0, 1) := by decide +kernel
theorem d_Y_heardFrom_3 : decode tb_Y_heardFrom 3 = .ok (.istore_n 3, 1) := by decide +kernel
theorem d_Y_heardFrom_4 : decode tb_Y_heardFrom 4 = .ok (.iconst 0, 1) := by decide +kernel
theorem d_Y_heardFrom_5 : decode tb_Y_heardFrom 5 = .ok (.istore 4, 2) := by decide +kernel
theorem d_Y_heardFrom_7 : decode tb_Y_heardFrom 7 = .ok (.iload 4, 2) := by decide +kernel
theorem d_Y_heardFrom_9 : decode tb_Y_heardFrom 9 = .ok (.bipush 7, 2) := by decide +kernel
theorem d_Y_heardFrom_11 : decode tb_Y_heardFrom 11 = .ok (.if_icmp .ge 40, 3) := by decide +kernel
theorem d_Y_heardFrom_14 : decode tb_Y_heardFrom 14 = .ok (.aload_n 0, 1) := by decide +kernel
theorem d_Y_heardFrom_15 : decode tb_Y_heardFrom 15 = .ok (.getfield 7, 3) := by decide +kernel
theorem d_Y_heardFrom_18 : decode tb_Y_heardFrom 18 = .ok (.bipush 7, 2) := by decide +kernel
theorem d_Y_heardFrom_20 : decode tb_Y_heardFrom 20 = .ok (.iload_n 1, 1) := by decide +kernel
theorem d_Y_heardFrom_21 : decode tb_Y_heardFrom 21 = .ok (.imul, 1) := by decide +kernel
theorem d_Y_heardFrom_22 : decode tb_Y_heardFrom 22 = .ok (.iload 4, 2) := by decide +kernel
theorem d_Y_heardFrom_24 : decode tb_Y_heardFrom 24 = .ok (.iadd, 1) := by decide +kernel
theorem d_Y_heardFrom_25 : decode tb_Y_heardFrom 25 = .ok (.iaload, 1) := by decide +kernel
theorem d_Y_heardFrom_26 : decode tb_Y_heardFrom 26 = .ok (.ifCond .le 19, 3) := by decide +kernel
theorem d_Y_heardFrom_29 : decode tb_Y_heardFrom 29 = .ok (.aload_n 0, 1) := by decide +kernel
theorem d_Y_heardFrom_30 : decode tb_Y_heardFrom 30 = .ok (.getfield 119, 3) := by decide +kernel
theorem d_Y_heardFrom_33 : decode tb_Y_heardFrom 33 = .ok (.iload 4, 2) := by decide +kernel
theorem d_Y_heardFrom_35 : decode tb_Y_heardFrom 35 = .ok (.iaload, 1) := by decide +kernel
theorem d_Y_heardFrom_36 : decode tb_Y_heardFrom 36 = .ok (.ifCond .le 9, 3) := by decide +kernel
theorem d_Y_heardFrom_39 : decode tb_Y_heardFrom 39 = .ok (.iload 4, 2) := by decide +kernel
theorem d_Y_heardFrom_41 : decode tb_Y_heardFrom 41 = .ok (.istore_n 2, 1) := by decide +kernel
theorem d_Y_heardFrom_42 : decode tb_Y_heardFrom 42 = .ok (.iinc 3 1, 3) := by decide +kernel
theorem d_Y_heardFrom_45 : decode tb_Y_heardFrom 45 = .ok (.iinc 4 1, 3) := by decide +kernel
theorem d_Y_heardFrom_48 : decode tb_Y_heardFrom 48 = .ok (.goto (-41), 3) := by decide +kernel
theorem d_Y_heardFrom_51 : decode tb_Y_heardFrom 51 = .ok (.iload_n 3, 1) := by decide +kernel
theorem d_Y_heardFrom_52 : decode tb_Y_heardFrom 52 = .ok (.iconst 1, 1) := by decide +kernel
theorem d_Y_heardFrom_53 : decode tb_Y_heardFrom 53 = .ok (.if_icmp .ne 16, 3) := by decide +kernel
theorem d_Y_heardFrom_56 : decode tb_Y_heardFrom 56 = .ok (.aload_n 0, 1) := by decide +kernel
theorem d_Y_heardFrom_57 : decode tb_Y_heardFrom 57 = .ok (.getfield 119, 3) := by decide +kernel
theorem d_Y_heardFrom_60 : decode tb_Y_heardFrom 60 = .ok (.iload_n 1, 1) := by decide +kernel
theorem d_Y_heardFrom_61 : decode tb_Y_heardFrom 61 = .ok (.iaload, 1) := by decide +kernel
theorem d_Y_heardFrom_62 : decode tb_Y_heardFrom 62 = .ok (.ifCond .ne 7, 3) := by decide +kernel
theorem d_Y_heardFrom_65 : decode tb_Y_heardFrom 65 = .ok (.iload_n 2, 1) := by decide +kernel
theorem d_Y_heardFrom_66 : decode tb_Y_heardFrom 66 = .ok (.goto 4, 3) := by decide +kernel
theorem d_Y_heardFrom_69 : decode tb_Y_heardFrom 69 = .ok (.iconst (-1), 1) := by decide +kernel
theorem d_Y_heardFrom_70 : decode tb_Y_heardFrom 70 = .ok (.ireturn, 1) := by decide +kernel
theorem d_Y_takes_0 : decode tb_Y_takes 0 = .ok (.aload_n 0, 1) := by decide +kernel
theorem d_Y_takes_1 : decode tb_Y_takes 1 = .ok (.getfield 119, 3) := by decide +kernel
theorem d_Y_takes_4 : decode tb_Y_takes 4 = .ok (.iload_n 2, 1) := by decide +kernel
theorem d_Y_takes_5 : decode tb_Y_takes 5 = .ok (.iaload, 1) := by decide +kernel
theorem d_Y_takes_6 : decode tb_Y_takes 6 = .ok (.iconst 2, 1) := by decide +kernel
theorem d_Y_takes_7 : decode tb_Y_takes 7 = .ok (.if_icmp .ne 59, 3) := by decide +kernel
theorem d_Y_takes_10 : decode tb_Y_takes 10 = .ok (.aload_n 0, 1) := by decide +kernel
theorem d_Y_takes_11 : decode tb_Y_takes 11 = .ok (.getfield 122, 3) := by decide +kernel
theorem d_Y_takes_14 : decode tb_Y_takes 14 = .ok (.iload_n 2, 1) := by decide +kernel
theorem d_Y_takes_15 : decode tb_Y_takes 15 = .ok (.iaload, 1) := by decide +kernel
theorem d_Y_takes_16 : decode tb_Y_takes 16 = .ok (.iload_n 1, 1) := by decide +kernel
theorem d_Y_takes_17 : decode tb_Y_takes 17 = .ok (.if_icmp .ne 48, 3) := by decide +kernel
theorem d_Y_takes_20 : decode tb_Y_takes 20 = .ok (.aload_n 0, 1) := by decide +kernel
theorem d_Y_takes_21 : decode tb_Y_takes 21 = .ok (.getfield 77, 3) := by decide +kernel
theorem d_Y_takes_24 : decode tb_Y_takes 24 = .ok (.iload_n 1, 1) := by decide +kernel
theorem d_Y_takes_25 : decode tb_Y_takes 25 = .ok (.baload, 1) := by decide +kernel
theorem d_Y_takes_26 : decode tb_Y_takes 26 = .ok (.ifCond .eq 39, 3) := by decide +kernel
theorem d_Y_takes_29 : decode tb_Y_takes 29 = .ok (.aload_n 0, 1) := by decide +kernel
theorem d_Y_takes_30 : decode tb_Y_takes 30 = .ok (.getfield 89, 3) := by decide +kernel
theorem d_Y_takes_33 : decode tb_Y_takes 33 = .ok (.aload_n 0, 1) := by decide +kernel
theorem d_Y_takes_34 : decode tb_Y_takes 34 = .ok (.getfield 59, 3) := by decide +kernel
theorem d_Y_takes_37 : decode tb_Y_takes 37 = .ok (.iconst 4, 1) := by decide +kernel
theorem d_Y_takes_38 : decode tb_Y_takes 38 = .ok (.iload_n 1, 1) := by decide +kernel
theorem d_Y_takes_39 : decode tb_Y_takes 39 = .ok (.imul, 1) := by decide +kernel
theorem d_Y_takes_40 : decode tb_Y_takes 40 = .ok (.iaload, 1) := by decide +kernel
theorem d_Y_takes_41 : decode tb_Y_takes 41 = .ok (.iaload, 1) := by decide +kernel
theorem d_Y_takes_42 : decode tb_Y_takes 42 = .ok (.iload_n 2, 1) := by decide +kernel
theorem d_Y_takes_43 : decode tb_Y_takes 43 = .ok (.if_icmp .ne 22, 3) := by decide +kernel
theorem d_Y_takes_46 : decode tb_Y_takes 46 = .ok (.aload_n 0, 1) := by decide +kernel
theorem d_Y_takes_47 : decode tb_Y_takes 47 = .ok (.getfield 131, 3) := by decide +kernel
theorem d_Y_takes_50 : decode tb_Y_takes 50 = .ok (.iload_n 1, 1) := by decide +kernel
theorem d_Y_takes_51 : decode tb_Y_takes 51 = .ok (.iconst 1, 1) := by decide +kernel
theorem d_Y_takes_52 : decode tb_Y_takes 52 = .ok (.bastore, 1) := by decide +kernel
theorem d_Y_takes_53 : decode tb_Y_takes 53 = .ok (.aload_n 0, 1) := by decide +kernel
theorem d_Y_takes_54 : decode tb_Y_takes 54 = .ok (.getfield 77, 3) := by decide +kernel
theorem d_Y_takes_57 : decode tb_Y_takes 57 = .ok (.iload_n 1, 1) := by decide +kernel
theorem d_Y_takes_58 : decode tb_Y_takes 58 = .ok (.iconst 0, 1) := by decide +kernel
theorem d_Y_takes_59 : decode tb_Y_takes 59 = .ok (.bastore, 1) := by decide +kernel
theorem d_Y_takes_60 : decode tb_Y_takes 60 = .ok (.aload_n 0, 1) := by decide +kernel
theorem d_Y_takes_61 : decode tb_Y_takes 61 = .ok (.iload_n 1, 1) := by decide +kernel
theorem d_Y_takes_62 : decode tb_Y_takes 62 = .ok (.invokevirtual 168, 3) := by decide +kernel
theorem d_Y_takes_65 : decode tb_Y_takes 65 = .ok (.return_, 1) := by decide +kernel
theorem d_Y_takes_66 : decode tb_Y_takes 66 = .ok (.aload_n 0, 1) := by decide +kernel
theorem d_Y_takes_67 : decode tb_Y_takes 67 = .ok (.getfield 59, 3) := by decide +kernel
theorem d_Y_takes_70 : decode tb_Y_takes 70 = .ok (.iconst 4, 1) := by decide +kernel
theorem d_Y_takes_71 : decode tb_Y_takes 71 = .ok (.iload_n 2, 1) := by decide +kernel
theorem d_Y_takes_72 : decode tb_Y_takes 72 = .ok (.imul, 1) := by decide +kernel
theorem d_Y_takes_73 : decode tb_Y_takes 73 = .ok (.iaload, 1) := by decide +kernel
theorem d_Y_takes_74 : decode tb_Y_takes 74 = .ok (.istore_n 3, 1) := by decide +kernel
theorem d_Y_takes_75 : decode tb_Y_takes 75 = .ok (.aload_n 0, 1) := by decide +kernel
theorem d_Y_takes_76 : decode tb_Y_takes 76 = .ok (.getfield 86, 3) := by decide +kernel
theorem d_Y_takes_79 : decode tb_Y_takes 79 = .ok (.iload_n 3, 1) := by decide +kernel
theorem d_Y_takes_80 : decode tb_Y_takes 80 = .ok (.iaload, 1) := by decide +kernel
theorem d_Y_takes_81 : decode tb_Y_takes 81 = .ok (.iconst 2, 1) := by decide +kernel
theorem d_Y_takes_82 : decode tb_Y_takes 82 = .ok (.if_icmp .ne 12, 3) := by decide +kernel
theorem d_Y_takes_85 : decode tb_Y_takes 85 = .ok (.aload_n 0, 1) := by decide +kernel
theorem d_Y_takes_86 : decode tb_Y_takes 86 = .ok (.iload_n 1, 1) := by decide +kernel
theorem d_Y_takes_87 : decode tb_Y_takes 87 = .ok (.iload_n 2, 1) := by decide +kernel
theorem d_Y_takes_88 : decode tb_Y_takes 88 = .ok (.invokevirtual 213, 3) := by decide +kernel
theorem d_Y_takes_91 : decode tb_Y_takes 91 = .ok (.goto 115, 3) := by decide +kernel
theorem d_Y_takes_94 : decode tb_Y_takes 94 = .ok (.aload_n 0, 1) := by decide +kernel
theorem d_Y_takes_95 : decode tb_Y_takes 95 = .ok (.getfield 86, 3) := by decide +kernel
theorem d_Y_takes_98 : decode tb_Y_takes 98 = .ok (.iload_n 3, 1) := by decide +kernel
theorem d_Y_takes_99 : decode tb_Y_takes 99 = .ok (.iaload, 1) := by decide +kernel
theorem d_Y_takes_100 : decode tb_Y_takes 100 = .ok (.iconst 1, 1) := by decide +kernel
theorem d_Y_takes_101 : decode tb_Y_takes 101 = .ok (.if_icmp .ne 23, 3) := by decide +kernel
theorem d_Y_takes_104 : decode tb_Y_takes 104 = .ok (.aload_n 0, 1) := by decide +kernel
theorem d_Y_takes_105 : decode tb_Y_takes 105 = .ok (.getfield 35, 3) := by decide +kernel
theorem d_Y_takes_108 : decode tb_Y_takes 108 = .ok (.iload_n 1, 1) := by decide +kernel
theorem d_Y_takes_109 : decode tb_Y_takes 109 = .ok (.iaload, 1) := by decide +kernel
theorem d_Y_takes_110 : decode tb_Y_takes 110 = .ok (.sipush 255, 3) := by decide +kernel
theorem d_Y_takes_113 : decode tb_Y_takes 113 = .ok (.if_icmp .eq 11, 3) := by decide +kernel
theorem d_Y_takes_116 : decode tb_Y_takes 116 = .ok (.aload_n 0, 1) := by decide +kernel
theorem d_Y_takes_117 : decode tb_Y_takes 117 = .ok (.iload_n 1, 1) := by decide +kernel
theorem d_Y_takes_118 : decode tb_Y_takes 118 = .ok (.invokevirtual 150, 3) := by decide +kernel
theorem d_Y_takes_121 : decode tb_Y_takes 121 = .ok (.goto 85, 3) := by decide +kernel
theorem d_Y_takes_124 : decode tb_Y_takes 124 = .ok (.aload_n 0, 1) := by decide +kernel
theorem d_Y_takes_125 : decode tb_Y_takes 125 = .ok (.getfield 89, 3) := by decide +kernel
theorem d_Y_takes_128 : decode tb_Y_takes 128 = .ok (.iload_n 3, 1) := by decide +kernel
theorem d_Y_takes_129 : decode tb_Y_takes 129 = .ok (.iaload, 1) := by decide +kernel
theorem d_Y_takes_130 : decode tb_Y_takes 130 = .ok (.iload_n 1, 1) := by decide +kernel
theorem d_Y_takes_131 : decode tb_Y_takes 131 = .ok (.if_icmp .ne 75, 3) := by decide +kernel
theorem d_Y_takes_134 : decode tb_Y_takes 134 = .ok (.aload_n 0, 1) := by decide +kernel
theorem d_Y_takes_135 : decode tb_Y_takes 135 = .ok (.getfield 74, 3) := by decide +kernel
theorem d_Y_takes_138 : decode tb_Y_takes 138 = .ok (.iload_n 1, 1) := by decide +kernel
theorem d_Y_takes_139 : decode tb_Y_takes 139 = .ok (.iload_n 2, 1) := by decide +kernel
theorem d_Y_takes_140 : decode tb_Y_takes 140 = .ok (.iastore, 1) := by decide +kernel
theorem d_Y_takes_141 : decode tb_Y_takes 141 = .ok (.aload_n 0, 1) := by decide +kernel
theorem d_Y_takes_142 : decode tb_Y_takes 142 = .ok (.getfield 26, 3) := by decide +kernel
theorem d_Y_takes_145 : decode tb_Y_takes 145 = .ok (.bipush 7, 2) := by decide +kernel
theorem d_Y_takes_147 : decode tb_Y_takes 147 = .ok (.iload_n 1, 1) := by decide +kernel
theorem d_Y_takes_148 : decode tb_Y_takes 148 = .ok (.imul, 1) := by decide +kernel
theorem d_Y_takes_149 : decode tb_Y_takes 149 = .ok (.iload_n 2, 1) := by decide +kernel
theorem d_Y_takes_150 : decode tb_Y_takes 150 = .ok (.iadd, 1) := by decide +kernel
theorem d_Y_takes_151 : decode tb_Y_takes 151 = .ok (.iaload, 1) := by decide +kernel
theorem d_Y_takes_152 : decode tb_Y_takes 152 = .ok (.aload_n 0, 1) := by decide +kernel
theorem d_Y_takes_153 : decode tb_Y_takes 153 = .ok (.getfield 83, 3) := by decide +kernel
theorem d_Y_takes_156 : decode tb_Y_takes 156 = .ok (.iload_n 3, 1) := by decide +kernel
theorem d_Y_takes_157 : decode tb_Y_takes 157 = .ok (.iaload, 1) := by decide +kernel
theorem d_Y_takes_158 : decode tb_Y_takes 158 = .ok (.if_icmp .ne 4, 3) := by decide +kernel
theorem d_Y_takes_161 : decode tb_Y_takes 161 = .ok (.return_, 1) := by decide +kernel
theorem d_Y_takes_162 : decode tb_Y_takes 162 = .ok (.aload_n 0, 1) := by decide +kernel
theorem d_Y_takes_163 : decode tb_Y_takes 163 = .ok (.getfield 26, 3) := by decide +kernel
theorem d_Y_takes_166 : decode tb_Y_takes 166 = .ok (.bipush 7, 2) := by decide +kernel
theorem d_Y_takes_168 : decode tb_Y_takes 168 = .ok (.iload_n 1, 1) := by decide +kernel
theorem d_Y_takes_169 : decode tb_Y_takes 169 = .ok (.imul, 1) := by decide +kernel
theorem d_Y_takes_170 : decode tb_Y_takes 170 = .ok (.iload_n 2, 1) := by decide +kernel
theorem d_Y_takes_171 : decode tb_Y_takes 171 = .ok (.iadd, 1) := by decide +kernel
theorem d_Y_takes_172 : decode tb_Y_takes 172 = .ok (.aload_n 0, 1) := by decide +kernel
theorem d_Y_takes_173 : decode tb_Y_takes 173 = .ok (.getfield 83, 3) := by decide +kernel
theorem d_Y_takes_176 : decode tb_Y_takes 176 = .ok (.iload_n 3, 1) := by decide +kernel
theorem d_Y_takes_177 : decode tb_Y_takes 177 = .ok (.iaload, 1) := by decide +kernel
theorem d_Y_takes_178 : decode tb_Y_takes 178 = .ok (.iastore, 1) := by decide +kernel
theorem d_Y_takes_179 : decode tb_Y_takes 179 = .ok (.aload_n 0, 1) := by decide +kernel
theorem d_Y_takes_180 : decode tb_Y_takes 180 = .ok (.getfield 86, 3) := by decide +kernel
theorem d_Y_takes_183 : decode tb_Y_takes 183 = .ok (.iload_n 3, 1) := by decide +kernel
theorem d_Y_takes_184 : decode tb_Y_takes 184 = .ok (.iaload, 1) := by decide +kernel
theorem d_Y_takes_185 : decode tb_Y_takes 185 = .ok (.iconst 3, 1) := by decide +kernel
theorem d_Y_takes_186 : decode tb_Y_takes 186 = .ok (.if_icmp .ne 13, 3) := by decide +kernel
theorem d_Y_takes_189 : decode tb_Y_takes 189 = .ok (.aload_n 0, 1) := by decide +kernel
theorem d_Y_takes_190 : decode tb_Y_takes 190 = .ok (.iload_n 1, 1) := by decide +kernel
theorem d_Y_takes_191 : decode tb_Y_takes 191 = .ok (.iload_n 2, 1) := by decide +kernel
theorem d_Y_takes_192 : decode tb_Y_takes 192 = .ok (.iload_n 3, 1) := by decide +kernel
theorem d_Y_takes_193 : decode tb_Y_takes 193 = .ok (.invokevirtual 216, 3) := by decide +kernel
theorem d_Y_takes_196 : decode tb_Y_takes 196 = .ok (.goto 10, 3) := by decide +kernel
theorem d_Y_takes_199 : decode tb_Y_takes 199 = .ok (.aload_n 0, 1) := by decide +kernel
theorem d_Y_takes_200 : decode tb_Y_takes 200 = .ok (.iload_n 1, 1) := by decide +kernel
theorem d_Y_takes_201 : decode tb_Y_takes 201 = .ok (.iload_n 2, 1) := by decide +kernel
theorem d_Y_takes_202 : decode tb_Y_takes 202 = .ok (.iload_n 3, 1) := by decide +kernel
theorem d_Y_takes_203 : decode tb_Y_takes 203 = .ok (.invokevirtual 220, 3) := by decide +kernel
theorem d_Y_takes_206 : decode tb_Y_takes 206 = .ok (.return_, 1) := by decide +kernel
theorem d_Y_slot_0 : decode tb_Y_slot 0 = .ok (.aload_n 0, 1) := by decide +kernel
theorem d_Y_slot_1 : decode tb_Y_slot 1 = .ok (.dup, 1) := by decide +kernel
theorem d_Y_slot_2 : decode tb_Y_slot 2 = .ok (.getfield 223, 3) := by decide +kernel
theorem d_Y_slot_5 : decode tb_Y_slot 5 = .ok (.iconst 1, 1) := by decide +kernel
theorem d_Y_slot_6 : decode tb_Y_slot 6 = .ok (.iadd, 1) := by decide +kernel
theorem d_Y_slot_7 : decode tb_Y_slot 7 = .ok (.putfield 223, 3) := by decide +kernel
theorem d_Y_slot_10 : decode tb_Y_slot 10 = .ok (.iconst 0, 1) := by decide +kernel
theorem d_Y_slot_11 : decode tb_Y_slot 11 = .ok (.istore_n 1, 1) := by decide +kernel
theorem d_Y_slot_12 : decode tb_Y_slot 12 = .ok (.iload_n 1, 1) := by decide +kernel
theorem d_Y_slot_13 : decode tb_Y_slot 13 = .ok (.bipush 7, 2) := by decide +kernel
theorem d_Y_slot_15 : decode tb_Y_slot 15 = .ok (.if_icmp .ge 35, 3) := by decide +kernel
theorem d_Y_slot_18 : decode tb_Y_slot 18 = .ok (.aload_n 0, 1) := by decide +kernel
theorem d_Y_slot_19 : decode tb_Y_slot 19 = .ok (.getfield 128, 3) := by decide +kernel
theorem d_Y_slot_22 : decode tb_Y_slot 22 = .ok (.iload_n 1, 1) := by decide +kernel
theorem d_Y_slot_23 : decode tb_Y_slot 23 = .ok (.aload_n 0, 1) := by decide +kernel
theorem d_Y_slot_24 : decode tb_Y_slot 24 = .ok (.getfield 77, 3) := by decide +kernel
theorem d_Y_slot_27 : decode tb_Y_slot 27 = .ok (.iload_n 1, 1) := by decide +kernel
theorem d_Y_slot_28 : decode tb_Y_slot 28 = .ok (.baload, 1) := by decide +kernel
theorem d_Y_slot_29 : decode tb_Y_slot 29 = .ok (.bastore, 1) := by decide +kernel
theorem d_Y_slot_30 : decode tb_Y_slot 30 = .ok (.aload_n 0, 1) := by decide +kernel
theorem d_Y_slot_31 : decode tb_Y_slot 31 = .ok (.getfield 131, 3) := by decide +kernel
theorem d_Y_slot_34 : decode tb_Y_slot 34 = .ok (.iload_n 1, 1) := by decide +kernel
theorem d_Y_slot_35 : decode tb_Y_slot 35 = .ok (.iconst 0, 1) := by decide +kernel
theorem d_Y_slot_36 : decode tb_Y_slot 36 = .ok (.bastore, 1) := by decide +kernel
theorem d_Y_slot_37 : decode tb_Y_slot 37 = .ok (.aload_n 0, 1) := by decide +kernel
theorem d_Y_slot_38 : decode tb_Y_slot 38 = .ok (.getfield 119, 3) := by decide +kernel
theorem d_Y_slot_41 : decode tb_Y_slot 41 = .ok (.iload_n 1, 1) := by decide +kernel
theorem d_Y_slot_42 : decode tb_Y_slot 42 = .ok (.iconst 0, 1) := by decide +kernel
theorem d_Y_slot_43 : decode tb_Y_slot 43 = .ok (.iastore, 1) := by decide +kernel
theorem d_Y_slot_44 : decode tb_Y_slot 44 = .ok (.iinc 1 1, 3) := by decide +kernel
theorem d_Y_slot_47 : decode tb_Y_slot 47 = .ok (.goto (-35), 3) := by decide +kernel
theorem d_Y_slot_50 : decode tb_Y_slot 50 = .ok (.iconst 0, 1) := by decide +kernel
theorem d_Y_slot_51 : decode tb_Y_slot 51 = .ok (.istore_n 1, 1) := by decide +kernel
theorem d_Y_slot_52 : decode tb_Y_slot 52 = .ok (.iload_n 1, 1) := by decide +kernel
theorem d_Y_slot_53 : decode tb_Y_slot 53 = .ok (.bipush 7, 2) := by decide +kernel
theorem d_Y_slot_55 : decode tb_Y_slot 55 = .ok (.if_icmp .ge 23, 3) := by decide +kernel
theorem d_Y_slot_58 : decode tb_Y_slot 58 = .ok (.aload_n 0, 1) := by decide +kernel
theorem d_Y_slot_59 : decode tb_Y_slot 59 = .ok (.getfield 29, 3) := by decide +kernel
theorem d_Y_slot_62 : decode tb_Y_slot 62 = .ok (.iload_n 1, 1) := by decide +kernel
theorem d_Y_slot_63 : decode tb_Y_slot 63 = .ok (.baload, 1) := by decide +kernel
theorem d_Y_slot_64 : decode tb_Y_slot 64 = .ok (.ifCond .ne 8, 3) := by decide +kernel
theorem d_Y_slot_67 : decode tb_Y_slot 67 = .ok (.aload_n 0, 1) := by decide +kernel
theorem d_Y_slot_68 : decode tb_Y_slot 68 = .ok (.iload_n 1, 1) := by decide +kernel
theorem d_Y_slot_69 : decode tb_Y_slot 69 = .ok (.invokevirtual 226, 3) := by decide +kernel
theorem d_Y_slot_72 : decode tb_Y_slot 72 = .ok (.iinc 1 1, 3) := by decide +kernel
theorem d_Y_slot_75 : decode tb_Y_slot 75 = .ok (.goto (-23), 3) := by decide +kernel
theorem d_Y_slot_78 : decode tb_Y_slot 78 = .ok (.iconst 0, 1) := by decide +kernel
theorem d_Y_slot_79 : decode tb_Y_slot 79 = .ok (.istore_n 1, 1) := by decide +kernel
theorem d_Y_slot_80 : decode tb_Y_slot 80 = .ok (.iload_n 1, 1) := by decide +kernel
theorem d_Y_slot_81 : decode tb_Y_slot 81 = .ok (.bipush 7, 2) := by decide +kernel
theorem d_Y_slot_83 : decode tb_Y_slot 83 = .ok (.if_icmp .ge 38, 3) := by decide +kernel
theorem d_Y_slot_86 : decode tb_Y_slot 86 = .ok (.aload_n 0, 1) := by decide +kernel
theorem d_Y_slot_87 : decode tb_Y_slot 87 = .ok (.getfield 29, 3) := by decide +kernel
theorem d_Y_slot_90 : decode tb_Y_slot 90 = .ok (.iload_n 1, 1) := by decide +kernel
theorem d_Y_slot_91 : decode tb_Y_slot 91 = .ok (.baload, 1) := by decide +kernel
theorem d_Y_slot_92 : decode tb_Y_slot 92 = .ok (.ifCond .eq 7, 3) := by decide +kernel
theorem d_Y_slot_95 : decode tb_Y_slot 95 = .ok (.iconst (-1), 1) := by decide +kernel
theorem d_Y_slot_96 : decode tb_Y_slot 96 = .ok (.goto 8, 3) := by decide +kernel
theorem d_Y_slot_99 : decode tb_Y_slot 99 = .ok (.aload_n 0, 1) := by decide +kernel
theorem d_Y_slot_100 : decode tb_Y_slot 100 = .ok (.iload_n 1, 1) := by decide +kernel
theorem d_Y_slot_101 : decode tb_Y_slot 101 = .ok (.invokevirtual 229, 3) := by decide +kernel
theorem d_Y_slot_104 : decode tb_Y_slot 104 = .ok (.istore_n 2, 1) := by decide +kernel
theorem d_Y_slot_105 : decode tb_Y_slot 105 = .ok (.iload_n 2, 1) := by decide +kernel
theorem d_Y_slot_106 : decode tb_Y_slot 106 = .ok (.ifCond .lt 9, 3) := by decide +kernel
theorem d_Y_slot_109 : decode tb_Y_slot 109 = .ok (.aload_n 0, 1) := by decide +kernel
theorem d_Y_slot_110 : decode tb_Y_slot 110 = .ok (.iload_n 1, 1) := by decide +kernel
theorem d_Y_slot_111 : decode tb_Y_slot 111 = .ok (.iload_n 2, 1) := by decide +kernel
theorem d_Y_slot_112 : decode tb_Y_slot 112 = .ok (.invokevirtual 232, 3) := by decide +kernel
theorem d_Y_slot_115 : decode tb_Y_slot 115 = .ok (.iinc 1 1, 3) := by decide +kernel
theorem d_Y_slot_118 : decode tb_Y_slot 118 = .ok (.goto (-38), 3) := by decide +kernel
theorem d_Y_slot_121 : decode tb_Y_slot 121 = .ok (.iconst 0, 1) := by decide +kernel
theorem d_Y_slot_122 : decode tb_Y_slot 122 = .ok (.istore_n 1, 1) := by decide +kernel
theorem d_Y_slot_123 : decode tb_Y_slot 123 = .ok (.iload_n 1, 1) := by decide +kernel
theorem d_Y_slot_124 : decode tb_Y_slot 124 = .ok (.bipush 7, 2) := by decide +kernel
theorem d_Y_slot_126 : decode tb_Y_slot 126 = .ok (.if_icmp .ge 60, 3) := by decide +kernel
theorem d_Y_slot_129 : decode tb_Y_slot 129 = .ok (.aload_n 0, 1) := by decide +kernel
theorem d_Y_slot_130 : decode tb_Y_slot 130 = .ok (.getfield 119, 3) := by decide +kernel
theorem d_Y_slot_133 : decode tb_Y_slot 133 = .ok (.iload_n 1, 1) := by decide +kernel
theorem d_Y_slot_134 : decode tb_Y_slot 134 = .ok (.iaload, 1) := by decide +kernel
theorem d_Y_slot_135 : decode tb_Y_slot 135 = .ok (.iconst 1, 1) := by decide +kernel
theorem d_Y_slot_136 : decode tb_Y_slot 136 = .ok (.if_icmp .ne 27, 3) := by decide +kernel
theorem d_Y_slot_139 : decode tb_Y_slot 139 = .ok (.aload_n 0, 1) := by decide +kernel
theorem d_Y_slot_140 : decode tb_Y_slot 140 = .ok (.getfield 89, 3) := by decide +kernel
theorem d_Y_slot_143 : decode tb_Y_slot 143 = .ok (.aload_n 0, 1) := by decide +kernel
theorem d_Y_slot_144 : decode tb_Y_slot 144 = .ok (.getfield 59, 3) := by decide +kernel
theorem d_Y_slot_147 : decode tb_Y_slot 147 = .ok (.iconst 4, 1) := by decide +kernel
theorem d_Y_slot_148 : decode tb_Y_slot 148 = .ok (.iload_n 1, 1) := by decide +kernel
theorem d_Y_slot_149 : decode tb_Y_slot 149 = .ok (.imul, 1) := by decide +kernel
theorem d_Y_slot_150 : decode tb_Y_slot 150 = .ok (.iaload, 1) := by decide +kernel
theorem d_Y_slot_151 : decode tb_Y_slot 151 = .ok (.iaload, 1) := by decide +kernel
theorem d_Y_slot_152 : decode tb_Y_slot 152 = .ok (.ifCond .ge 11, 3) := by decide +kernel
theorem d_Y_slot_155 : decode tb_Y_slot 155 = .ok (.aload_n 0, 1) := by decide +kernel
theorem d_Y_slot_156 : decode tb_Y_slot 156 = .ok (.iload_n 1, 1) := by decide +kernel
theorem d_Y_slot_157 : decode tb_Y_slot 157 = .ok (.invokevirtual 168, 3) := by decide +kernel
theorem d_Y_slot_160 : decode tb_Y_slot 160 = .ok (.goto 20, 3) := by decide +kernel
theorem d_Y_slot_163 : decode tb_Y_slot 163 = .ok (.aload_n 0, 1) := by decide +kernel
theorem d_Y_slot_164 : decode tb_Y_slot 164 = .ok (.getfield 119, 3) := by decide +kernel
theorem d_Y_slot_167 : decode tb_Y_slot 167 = .ok (.iload_n 1, 1) := by decide +kernel
theorem d_Y_slot_168 : decode tb_Y_slot 168 = .ok (.iaload, 1) := by decide +kernel
theorem d_Y_slot_169 : decode tb_Y_slot 169 = .ok (.iconst 1, 1) := by decide +kernel
theorem d_Y_slot_170 : decode tb_Y_slot 170 = .ok (.if_icmp .ne 10, 3) := by decide +kernel
theorem d_Y_slot_173 : decode tb_Y_slot 173 = .ok (.aload_n 0, 1) := by decide +kernel
theorem d_Y_slot_174 : decode tb_Y_slot 174 = .ok (.getfield 77, 3) := by decide +kernel
theorem d_Y_slot_177 : decode tb_Y_slot 177 = .ok (.iload_n 1, 1) := by decide +kernel
theorem d_Y_slot_178 : decode tb_Y_slot 178 = .ok (.iconst 1, 1) := by decide +kernel
theorem d_Y_slot_179 : decode tb_Y_slot 179 = .ok (.bastore, 1) := by decide +kernel
theorem d_Y_slot_180 : decode tb_Y_slot 180 = .ok (.iinc 1 1, 3) := by decide +kernel
theorem d_Y_slot_183 : decode tb_Y_slot 183 = .ok (.goto (-60), 3) := by decide +kernel
theorem d_Y_slot_186 : decode tb_Y_slot 186 = .ok (.iconst 0, 1) := by decide +kernel
theorem d_Y_slot_187 : decode tb_Y_slot 187 = .ok (.istore_n 1, 1) := by decide +kernel
theorem d_Y_slot_188 : decode tb_Y_slot 188 = .ok (.iload_n 1, 1) := by decide +kernel
theorem d_Y_slot_189 : decode tb_Y_slot 189 = .ok (.bipush 7, 2) := by decide +kernel
theorem d_Y_slot_191 : decode tb_Y_slot 191 = .ok (.if_icmp .ge 41, 3) := by decide +kernel
theorem d_Y_slot_194 : decode tb_Y_slot 194 = .ok (.aload_n 0, 1) := by decide +kernel
theorem d_Y_slot_195 : decode tb_Y_slot 195 = .ok (.getfield 29, 3) := by decide +kernel
theorem d_Y_slot_198 : decode tb_Y_slot 198 = .ok (.iload_n 1, 1) := by decide +kernel
theorem d_Y_slot_199 : decode tb_Y_slot 199 = .ok (.baload, 1) := by decide +kernel
theorem d_Y_slot_200 : decode tb_Y_slot 200 = .ok (.ifCond .ne 26, 3) := by decide +kernel
theorem d_Y_slot_203 : decode tb_Y_slot 203 = .ok (.aload_n 0, 1) := by decide +kernel
theorem d_Y_slot_204 : decode tb_Y_slot 204 = .ok (.getfield 128, 3) := by decide +kernel
theorem d_Y_slot_207 : decode tb_Y_slot 207 = .ok (.iload_n 1, 1) := by decide +kernel
theorem d_Y_slot_208 : decode tb_Y_slot 208 = .ok (.baload, 1) := by decide +kernel
theorem d_Y_slot_209 : decode tb_Y_slot 209 = .ok (.ifCond .eq 17, 3) := by decide +kernel
theorem d_Y_slot_212 : decode tb_Y_slot 212 = .ok (.aload_n 0, 1) := by decide +kernel
theorem d_Y_slot_213 : decode tb_Y_slot 213 = .ok (.getfield 131, 3) := by decide +kernel
theorem d_Y_slot_216 : decode tb_Y_slot 216 = .ok (.iload_n 1, 1) := by decide +kernel
theorem d_Y_slot_217 : decode tb_Y_slot 217 = .ok (.baload, 1) := by decide +kernel
theorem d_Y_slot_218 : decode tb_Y_slot 218 = .ok (.ifCond .ne 8, 3) := by decide +kernel
theorem d_Y_slot_221 : decode tb_Y_slot 221 = .ok (.aload_n 0, 1) := by decide +kernel
theorem d_Y_slot_222 : decode tb_Y_slot 222 = .ok (.iload_n 1, 1) := by decide +kernel
theorem d_Y_slot_223 : decode tb_Y_slot 223 = .ok (.invokevirtual 235, 3) := by decide +kernel
theorem d_Y_slot_226 : decode tb_Y_slot 226 = .ok (.iinc 1 1, 3) := by decide +kernel
theorem d_Y_slot_229 : decode tb_Y_slot 229 = .ok (.goto (-41), 3) := by decide +kernel
theorem d_Y_slot_232 : decode tb_Y_slot 232 = .ok (.iconst 0, 1) := by decide +kernel
theorem d_Y_slot_233 : decode tb_Y_slot 233 = .ok (.istore_n 1, 1) := by decide +kernel
theorem d_Y_slot_234 : decode tb_Y_slot 234 = .ok (.iload_n 1, 1) := by decide +kernel
theorem d_Y_slot_235 : decode tb_Y_slot 235 = .ok (.bipush 7, 2) := by decide +kernel
theorem d_Y_slot_237 : decode tb_Y_slot 237 = .ok (.if_icmp .ge 43, 3) := by decide +kernel
theorem d_Y_slot_240 : decode tb_Y_slot 240 = .ok (.aload_n 0, 1) := by decide +kernel
theorem d_Y_slot_241 : decode tb_Y_slot 241 = .ok (.getfield 29, 3) := by decide +kernel
theorem d_Y_slot_244 : decode tb_Y_slot 244 = .ok (.iload_n 1, 1) := by decide +kernel
theorem d_Y_slot_245 : decode tb_Y_slot 245 = .ok (.baload, 1) := by decide +kernel
theorem d_Y_slot_246 : decode tb_Y_slot 246 = .ok (.ifCond .ne 8, 3) := by decide +kernel
theorem d_Y_slot_249 : decode tb_Y_slot 249 = .ok (.aload_n 0, 1) := by decide +kernel
theorem d_Y_slot_250 : decode tb_Y_slot 250 = .ok (.iload_n 1, 1) := by decide +kernel
theorem d_Y_slot_251 : decode tb_Y_slot 251 = .ok (.invokevirtual 238, 3) := by decide +kernel
theorem d_Y_slot_254 : decode tb_Y_slot 254 = .ok (.aload_n 0, 1) := by decide +kernel
theorem d_Y_slot_255 : decode tb_Y_slot 255 = .ok (.getfield 125, 3) := by decide +kernel
theorem d_Y_slot_258 : decode tb_Y_slot 258 = .ok (.iload_n 1, 1) := by decide +kernel
theorem d_Y_slot_259 : decode tb_Y_slot 259 = .ok (.aload_n 0, 1) := by decide +kernel
theorem d_Y_slot_260 : decode tb_Y_slot 260 = .ok (.getfield 119, 3) := by decide +kernel
theorem d_Y_slot_263 : decode tb_Y_slot 263 = .ok (.iload_n 1, 1) := by decide +kernel
theorem d_Y_slot_264 : decode tb_Y_slot 264 = .ok (.iaload, 1) := by decide +kernel
theorem d_Y_slot_265 : decode tb_Y_slot 265 = .ok (.ifCond .le 7, 3) := by decide +kernel
theorem d_Y_slot_268 : decode tb_Y_slot 268 = .ok (.iconst 1, 1) := by decide +kernel
theorem d_Y_slot_269 : decode tb_Y_slot 269 = .ok (.goto 4, 3) := by decide +kernel
theorem d_Y_slot_272 : decode tb_Y_slot 272 = .ok (.iconst 0, 1) := by decide +kernel
theorem d_Y_slot_273 : decode tb_Y_slot 273 = .ok (.bastore, 1) := by decide +kernel
theorem d_Y_slot_274 : decode tb_Y_slot 274 = .ok (.iinc 1 1, 3) := by decide +kernel
theorem d_Y_slot_277 : decode tb_Y_slot 277 = .ok (.goto (-43), 3) := by decide +kernel
theorem d_Y_slot_280 : decode tb_Y_slot 280 = .ok (.return_, 1) := by decide +kernel
theorem d_Y_unheard_0 : decode tb_Y_unheard 0 = .ok (.aload_n 0, 1) := by decide +kernel
theorem d_Y_unheard_1 : decode tb_Y_unheard 1 = .ok (.getfield 77, 3) := by decide +kernel
theorem d_Y_unheard_4 : decode tb_Y_unheard 4 = .ok (.iload_n 1, 1) := by decide +kernel
theorem d_Y_unheard_5 : decode tb_Y_unheard 5 = .ok (.iconst 0, 1) := by decide +kernel
theorem d_Y_unheard_6 : decode tb_Y_unheard 6 = .ok (.bastore, 1) := by decide +kernel
theorem d_Y_unheard_7 : decode tb_Y_unheard 7 = .ok (.aload_n 0, 1) := by decide +kernel
theorem d_Y_unheard_8 : decode tb_Y_unheard 8 = .ok (.getfield 71, 3) := by decide +kernel
theorem d_Y_unheard_11 : decode tb_Y_unheard 11 = .ok (.iload_n 1, 1) := by decide +kernel
theorem d_Y_unheard_12 : decode tb_Y_unheard 12 = .ok (.dup2, 1) := by decide +kernel
theorem d_Y_unheard_13 : decode tb_Y_unheard 13 = .ok (.iaload, 1) := by decide +kernel
theorem d_Y_unheard_14 : decode tb_Y_unheard 14 = .ok (.iconst 1, 1) := by decide +kernel
theorem d_Y_unheard_15 : decode tb_Y_unheard 15 = .ok (.iadd, 1) := by decide +kernel
theorem d_Y_unheard_16 : decode tb_Y_unheard 16 = .ok (.iastore, 1) := by decide +kernel
theorem d_Y_unheard_17 : decode tb_Y_unheard 17 = .ok (.aload_n 0, 1) := by decide +kernel
theorem d_Y_unheard_18 : decode tb_Y_unheard 18 = .ok (.getfield 71, 3) := by decide +kernel
theorem d_Y_unheard_21 : decode tb_Y_unheard 21 = .ok (.iload_n 1, 1) := by decide +kernel
theorem d_Y_unheard_22 : decode tb_Y_unheard 22 = .ok (.iaload, 1) := by decide +kernel
theorem d_Y_unheard_23 : decode tb_Y_unheard 23 = .ok (.iconst 4, 1) := by decide +kernel
theorem d_Y_unheard_24 : decode tb_Y_unheard 24 = .ok (.if_icmp .ne 9, 3) := by decide +kernel
theorem d_Y_unheard_27 : decode tb_Y_unheard 27 = .ok (.aload_n 0, 1) := by decide +kernel
theorem d_Y_unheard_28 : decode tb_Y_unheard 28 = .ok (.iload_n 1, 1) := by decide +kernel
theorem d_Y_unheard_29 : decode tb_Y_unheard 29 = .ok (.invokevirtual 207, 3) := by decide +kernel
theorem d_Y_unheard_32 : decode tb_Y_unheard 32 = .ok (.return_, 1) := by decide +kernel
theorem d_Y_unheard_33 : decode tb_Y_unheard 33 = .ok (.aload_n 0, 1) := by decide +kernel
theorem d_Y_unheard_34 : decode tb_Y_unheard 34 = .ok (.getfield 68, 3) := by decide +kernel
theorem d_Y_unheard_37 : decode tb_Y_unheard 37 = .ok (.iload_n 1, 1) := by decide +kernel
theorem d_Y_unheard_38 : decode tb_Y_unheard 38 = .ok (.iconst 0, 1) := by decide +kernel
theorem d_Y_unheard_39 : decode tb_Y_unheard 39 = .ok (.iastore, 1) := by decide +kernel
theorem d_Y_unheard_40 : decode tb_Y_unheard 40 = .ok (.aload_n 0, 1) := by decide +kernel
theorem d_Y_unheard_41 : decode tb_Y_unheard 41 = .ok (.getfield 65, 3) := by decide +kernel
theorem d_Y_unheard_44 : decode tb_Y_unheard 44 = .ok (.iload_n 1, 1) := by decide +kernel
theorem d_Y_unheard_45 : decode tb_Y_unheard 45 = .ok (.aload_n 0, 1) := by decide +kernel
theorem d_Y_unheard_46 : decode tb_Y_unheard 46 = .ok (.iconst 4, 1) := by decide +kernel
theorem d_Y_unheard_47 : decode tb_Y_unheard 47 = .ok (.invokevirtual 158, 3) := by decide +kernel
theorem d_Y_unheard_50 : decode tb_Y_unheard 50 = .ok (.iastore, 1) := by decide +kernel
theorem d_Y_unheard_51 : decode tb_Y_unheard 51 = .ok (.return_, 1) := by decide +kernel
theorem d_Y_later_0 : decode tb_Y_later 0 = .ok (.aload_n 0, 1) := by decide +kernel
theorem d_Y_later_1 : decode tb_Y_later 1 = .ok (.iload_n 1, 1) := by decide +kernel
theorem d_Y_later_2 : decode tb_Y_later 2 = .ok (.invokevirtual 241, 3) := by decide +kernel
theorem d_Y_later_5 : decode tb_Y_later 5 = .ok (.iload_n 1, 1) := by decide +kernel
theorem d_Y_later_6 : decode tb_Y_later 6 = .ok (.ifCond .le 47, 3) := by decide +kernel
theorem d_Y_later_9 : decode tb_Y_later 9 = .ok (.aload_n 0, 1) := by decide +kernel
theorem d_Y_later_10 : decode tb_Y_later 10 = .ok (.getfield 35, 3) := by decide +kernel
theorem d_Y_later_13 : decode tb_Y_later 13 = .ok (.iload_n 1, 1) := by decide +kernel
theorem d_Y_later_14 : decode tb_Y_later 14 = .ok (.iaload, 1) := by decide +kernel
theorem d_Y_later_15 : decode tb_Y_later 15 = .ok (.sipush 255, 3) := by decide +kernel
theorem d_Y_later_18 : decode tb_Y_later 18 = .ok (.if_icmp .ne 35, 3) := by decide +kernel
theorem d_Y_later_21 : decode tb_Y_later 21 = .ok (.aload_n 0, 1) := by decide +kernel
theorem d_Y_later_22 : decode tb_Y_later 22 = .ok (.getfield 223, 3) := by decide +kernel
theorem d_Y_later_25 : decode tb_Y_later 25 = .ok (.bipush 16, 2) := by decide +kernel
theorem d_Y_later_27 : decode tb_Y_later 27 = .ok (.irem, 1) := by decide +kernel
theorem d_Y_later_28 : decode tb_Y_later 28 = .ok (.ifCond .ne 25, 3) := by decide +kernel
theorem d_Y_later_31 : decode tb_Y_later 31 = .ok (.aload_n 0, 1) := by decide +kernel
theorem d_Y_later_32 : decode tb_Y_later 32 = .ok (.iload_n 1, 1) := by decide +kernel
theorem d_Y_later_33 : decode tb_Y_later 33 = .ok (.iconst 1, 1) := by decide +kernel
theorem d_Y_later_34 : decode tb_Y_later 34 = .ok (.invokevirtual 178, 3) := by decide +kernel
theorem d_Y_later_37 : decode tb_Y_later 37 = .ok (.ifCond .ne 16, 3) := by decide +kernel
theorem d_Y_later_40 : decode tb_Y_later 40 = .ok (.aload_n 0, 1) := by decide +kernel
theorem d_Y_later_41 : decode tb_Y_later 41 = .ok (.iconst 1, 1) := by decide +kernel
theorem d_Y_later_42 : decode tb_Y_later 42 = .ok (.iconst (-1), 1) := by decide +kernel
theorem d_Y_later_43 : decode tb_Y_later 43 = .ok (.invokevirtual 182, 3) := by decide +kernel
theorem d_Y_later_46 : decode tb_Y_later 46 = .ok (.istore_n 2, 1) := by decide +kernel
theorem d_Y_later_47 : decode tb_Y_later 47 = .ok (.aload_n 0, 1) := by decide +kernel
theorem d_Y_later_48 : decode tb_Y_later 48 = .ok (.iload_n 1, 1) := by decide +kernel
theorem d_Y_later_49 : decode tb_Y_later 49 = .ok (.iload_n 2, 1) := by decide +kernel
theorem d_Y_later_50 : decode tb_Y_later 50 = .ok (.invokevirtual 186, 3) := by decide +kernel
theorem d_Y_later_53 : decode tb_Y_later 53 = .ok (.aload_n 0, 1) := by decide +kernel
theorem d_Y_later_54 : decode tb_Y_later 54 = .ok (.getfield 223, 3) := by decide +kernel
theorem d_Y_later_57 : decode tb_Y_later 57 = .ok (.bipush 64, 2) := by decide +kernel
theorem d_Y_later_59 : decode tb_Y_later 59 = .ok (.irem, 1) := by decide +kernel
theorem d_Y_later_60 : decode tb_Y_later 60 = .ok (.ifCond .ne 44, 3) := by decide +kernel
theorem d_Y_later_63 : decode tb_Y_later 63 = .ok (.aload_n 0, 1) := by decide +kernel
theorem d_Y_later_64 : decode tb_Y_later 64 = .ok (.getfield 38, 3) := by decide +kernel
theorem d_Y_later_67 : decode tb_Y_later 67 = .ok (.iload_n 1, 1) := by decide +kernel
theorem d_Y_later_68 : decode tb_Y_later 68 = .ok (.iaload, 1) := by decide +kernel
theorem d_Y_later_69 : decode tb_Y_later 69 = .ok (.ifCond .lt 35, 3) := by decide +kernel
theorem d_Y_later_72 : decode tb_Y_later 72 = .ok (.aload_n 0, 1) := by decide +kernel
theorem d_Y_later_73 : decode tb_Y_later 73 = .ok (.iload_n 1, 1) := by decide +kernel
theorem d_Y_later_74 : decode tb_Y_later 74 = .ok (.invokevirtual 190, 3) := by decide +kernel
theorem d_Y_later_77 : decode tb_Y_later 77 = .ok (.istore_n 2, 1) := by decide +kernel
theorem d_Y_later_78 : decode tb_Y_later 78 = .ok (.aload_n 0, 1) := by decide +kernel
theorem d_Y_later_79 : decode tb_Y_later 79 = .ok (.getfield 23, 3) := by decide +kernel
theorem d_Y_later_82 : decode tb_Y_later 82 = .ok (.bipush 8, 2) := by decide +kernel
theorem d_Y_later_84 : decode tb_Y_later 84 = .ok (.iload_n 1, 1) := by decide +kernel
theorem d_Y_later_85 : decode tb_Y_later 85 = .ok (.imul, 1) := by decide +kernel
theorem d_Y_later_86 : decode tb_Y_later 86 = .ok (.dup2, 1) := by decide +kernel
theorem d_Y_later_87 : decode tb_Y_later 87 = .ok (.iaload, 1) := by decide +kernel
theorem d_Y_later_88 : decode tb_Y_later 88 = .ok (.iconst 1, 1) := by decide +kernel
theorem d_Y_later_89 : decode tb_Y_later 89 = .ok (.iadd, 1) := by decide +kernel
theorem d_Y_later_90 : decode tb_Y_later 90 = .ok (.iastore, 1) := by decide +kernel
theorem d_Y_later_91 : decode tb_Y_later 91 = .ok (.aload_n 0, 1) := by decide +kernel
theorem d_Y_later_92 : decode tb_Y_later 92 = .ok (.iload_n 1, 1) := by decide +kernel
theorem d_Y_later_93 : decode tb_Y_later 93 = .ok (.aload_n 0, 1) := by decide +kernel
theorem d_Y_later_94 : decode tb_Y_later 94 = .ok (.getfield 38, 3) := by decide +kernel
theorem d_Y_later_97 : decode tb_Y_later 97 = .ok (.iload_n 1, 1) := by decide +kernel
theorem d_Y_later_98 : decode tb_Y_later 98 = .ok (.iaload, 1) := by decide +kernel
theorem d_Y_later_99 : decode tb_Y_later 99 = .ok (.iload_n 2, 1) := by decide +kernel
theorem d_Y_later_100 : decode tb_Y_later 100 = .ok (.iconst 0, 1) := by decide +kernel
theorem d_Y_later_101 : decode tb_Y_later 101 = .ok (.invokevirtual 193, 3) := by decide +kernel
theorem d_Y_later_104 : decode tb_Y_later 104 = .ok (.return_, 1) := by decide +kernel
theorem d_Y_isNode_0 : decode tb_Y_isNode 0 = .ok (.iload_n 0, 1) := by decide +kernel
theorem d_Y_isNode_1 : decode tb_Y_isNode 1 = .ok (.ifCond .lt 13, 3) := by decide +kernel
theorem d_Y_isNode_4 : decode tb_Y_isNode 4 = .ok (.iload_n 0, 1) := by decide +kernel
theorem d_Y_isNode_5 : decode tb_Y_isNode 5 = .ok (.bipush 7, 2) := by decide +kernel
theorem d_Y_isNode_7 : decode tb_Y_isNode 7 = .ok (.if_icmp .ge 7, 3) := by decide +kernel
theorem d_Y_isNode_10 : decode tb_Y_isNode 10 = .ok (.iconst 1, 1) := by decide +kernel
theorem d_Y_isNode_11 : decode tb_Y_isNode 11 = .ok (.goto 4, 3) := by decide +kernel
theorem d_Y_isNode_14 : decode tb_Y_isNode 14 = .ok (.iconst 0, 1) := by decide +kernel
theorem d_Y_isNode_15 : decode tb_Y_isNode 15 = .ok (.ireturn, 1) := by decide +kernel
theorem d_Y_link_0 : decode tb_Y_link 0 = .ok (.iload_n 1, 1) := by decide +kernel
theorem d_Y_link_1 : decode tb_Y_link 1 = .ok (.invokestatic 244, 3) := by decide +kernel
theorem d_Y_link_4 : decode tb_Y_link 4 = .ok (.ifCond .eq 25, 3) := by decide +kernel
theorem d_Y_link_7 : decode tb_Y_link 7 = .ok (.iload_n 2, 1) := by decide +kernel
theorem d_Y_link_8 : decode tb_Y_link 8 = .ok (.invokestatic 244, 3) := by decide +kernel
theorem d_Y_link_11 : decode tb_Y_link 11 = .ok (.ifCond .eq 18, 3) := by decide +kernel
theorem d_Y_link_14 : decode tb_Y_link 14 = .ok (.iload_n 1, 1) := by decide +kernel
theorem d_Y_link_15 : decode tb_Y_link 15 = .ok (.iload_n 2, 1) := by decide +kernel
theorem d_Y_link_16 : decode tb_Y_link 16 = .ok (.if_icmp .eq 13, 3) := by decide +kernel
theorem d_Y_link_19 : decode tb_Y_link 19 = .ok (.iload_n 3, 1) := by decide +kernel
theorem d_Y_link_20 : decode tb_Y_link 20 = .ok (.ifCond .lt 9, 3) := by decide +kernel
theorem d_Y_link_23 : decode tb_Y_link 23 = .ok (.iload_n 3, 1) := by decide +kernel
theorem d_Y_link_24 : decode tb_Y_link 24 = .ok (.bipush 9, 2) := by decide +kernel
theorem d_Y_link_26 : decode tb_Y_link 26 = .ok (.if_icmp .le 5, 3) := by decide +kernel
theorem d_Y_link_29 : decode tb_Y_link 29 = .ok (.iconst 0, 1) := by decide +kernel
theorem d_Y_link_30 : decode tb_Y_link 30 = .ok (.ireturn, 1) := by decide +kernel
theorem d_Y_link_31 : decode tb_Y_link 31 = .ok (.aload_n 0, 1) := by decide +kernel
theorem d_Y_link_32 : decode tb_Y_link 32 = .ok (.getfield 7, 3) := by decide +kernel
theorem d_Y_link_35 : decode tb_Y_link 35 = .ok (.bipush 7, 2) := by decide +kernel
theorem d_Y_link_37 : decode tb_Y_link 37 = .ok (.iload_n 1, 1) := by decide +kernel
theorem d_Y_link_38 : decode tb_Y_link 38 = .ok (.imul, 1) := by decide +kernel
theorem d_Y_link_39 : decode tb_Y_link 39 = .ok (.iload_n 2, 1) := by decide +kernel
theorem d_Y_link_40 : decode tb_Y_link 40 = .ok (.iadd, 1) := by decide +kernel
theorem d_Y_link_41 : decode tb_Y_link 41 = .ok (.iload_n 3, 1) := by decide +kernel
theorem d_Y_link_42 : decode tb_Y_link 42 = .ok (.iastore, 1) := by decide +kernel
theorem d_Y_link_43 : decode tb_Y_link 43 = .ok (.aload_n 0, 1) := by decide +kernel
theorem d_Y_link_44 : decode tb_Y_link 44 = .ok (.getfield 7, 3) := by decide +kernel
theorem d_Y_link_47 : decode tb_Y_link 47 = .ok (.bipush 7, 2) := by decide +kernel
theorem d_Y_link_49 : decode tb_Y_link 49 = .ok (.iload_n 2, 1) := by decide +kernel
theorem d_Y_link_50 : decode tb_Y_link 50 = .ok (.imul, 1) := by decide +kernel
theorem d_Y_link_51 : decode tb_Y_link 51 = .ok (.iload_n 1, 1) := by decide +kernel
theorem d_Y_link_52 : decode tb_Y_link 52 = .ok (.iadd, 1) := by decide +kernel
theorem d_Y_link_53 : decode tb_Y_link 53 = .ok (.iload_n 3, 1) := by decide +kernel
theorem d_Y_link_54 : decode tb_Y_link 54 = .ok (.iastore, 1) := by decide +kernel
theorem d_Y_link_55 : decode tb_Y_link 55 = .ok (.iconst 1, 1) := by decide +kernel
theorem d_Y_link_56 : decode tb_Y_link 56 = .ok (.ireturn, 1) := by decide +kernel
theorem d_Y_kill_0 : decode tb_Y_kill 0 = .ok (.iload_n 1, 1) := by decide +kernel
theorem d_Y_kill_1 : decode tb_Y_kill 1 = .ok (.invokestatic 244, 3) := by decide +kernel
theorem d_Y_kill_4 : decode tb_Y_kill 4 = .ok (.ifCond .eq 16, 3) := by decide +kernel
theorem d_Y_kill_7 : decode tb_Y_kill 7 = .ok (.iload_n 1, 1) := by decide +kernel
theorem d_Y_kill_8 : decode tb_Y_kill 8 = .ok (.ifCond .eq 12, 3) := by decide +kernel
theorem d_Y_kill_11 : decode tb_Y_kill 11 = .ok (.aload_n 0, 1) := by decide +kernel
theorem d_Y_kill_12 : decode tb_Y_kill 12 = .ok (.getfield 29, 3) := by decide +kernel
theorem d_Y_kill_15 : decode tb_Y_kill 15 = .ok (.iload_n 1, 1) := by decide +kernel
theorem d_Y_kill_16 : decode tb_Y_kill 16 = .ok (.baload, 1) := by decide +kernel
theorem d_Y_kill_17 : decode tb_Y_kill 17 = .ok (.ifCond .eq 5, 3) := by decide +kernel
theorem d_Y_kill_20 : decode tb_Y_kill 20 = .ok (.iconst 0, 1) := by decide +kernel
theorem d_Y_kill_21 : decode tb_Y_kill 21 = .ok (.ireturn, 1) := by decide +kernel
theorem d_Y_kill_22 : decode tb_Y_kill 22 = .ok (.aload_n 0, 1) := by decide +kernel
theorem d_Y_kill_23 : decode tb_Y_kill 23 = .ok (.getfield 29, 3) := by decide +kernel
theorem d_Y_kill_26 : decode tb_Y_kill 26 = .ok (.iload_n 1, 1) := by decide +kernel
theorem d_Y_kill_27 : decode tb_Y_kill 27 = .ok (.iconst 1, 1) := by decide +kernel
theorem d_Y_kill_28 : decode tb_Y_kill 28 = .ok (.bastore, 1) := by decide +kernel
theorem d_Y_kill_29 : decode tb_Y_kill 29 = .ok (.iconst 0, 1) := by decide +kernel
theorem d_Y_kill_30 : decode tb_Y_kill 30 = .ok (.istore_n 2, 1) := by decide +kernel
theorem d_Y_kill_31 : decode tb_Y_kill 31 = .ok (.iload_n 2, 1) := by decide +kernel
theorem d_Y_kill_32 : decode tb_Y_kill 32 = .ok (.aload_n 0, 1) := by decide +kernel
theorem d_Y_kill_33 : decode tb_Y_kill 33 = .ok (.getfield 62, 3) := by decide +kernel
theorem d_Y_kill_36 : decode tb_Y_kill 36 = .ok (.iload_n 1, 1) := by decide +kernel
theorem d_Y_kill_37 : decode tb_Y_kill 37 = .ok (.iaload, 1) := by decide +kernel
theorem d_Y_kill_38 : decode tb_Y_kill 38 = .ok (.if_icmp .ge 25, 3) := by decide +kernel
theorem d_Y_kill_41 : decode tb_Y_kill 41 = .ok (.aload_n 0, 1) := by decide +kernel
theorem d_Y_kill_42 : decode tb_Y_kill 42 = .ok (.getfield 80, 3) := by decide +kernel
theorem d_Y_kill_45 : decode tb_Y_kill 45 = .ok (.aload_n 0, 1) := by decide +kernel
theorem d_Y_kill_46 : decode tb_Y_kill 46 = .ok (.getfield 59, 3) := by decide +kernel
theorem d_Y_kill_49 : decode tb_Y_kill 49 = .ok (.iconst 4, 1) := by decide +kernel
theorem d_Y_kill_50 : decode tb_Y_kill 50 = .ok (.iload_n 1, 1) := by decide +kernel
theorem d_Y_kill_51 : decode tb_Y_kill 51 = .ok (.imul, 1) := by decide +kernel
theorem d_Y_kill_52 : decode tb_Y_kill 52 = .ok (.iload_n 2, 1) := by decide +kernel
theorem d_Y_kill_53 : decode tb_Y_kill 53 = .ok (.iadd, 1) := by decide +kernel
theorem d_Y_kill_54 : decode tb_Y_kill 54 = .ok (.iaload, 1) := by decide +kernel
theorem d_Y_kill_55 : decode tb_Y_kill 55 = .ok (.iconst 0, 1) := by decide +kernel
theorem d_Y_kill_56 : decode tb_Y_kill 56 = .ok (.bastore, 1) := by decide +kernel
theorem d_Y_kill_57 : decode tb_Y_kill 57 = .ok (.iinc 2 1, 3) := by decide +kernel
theorem d_Y_kill_60 : decode tb_Y_kill 60 = .ok (.goto (-29), 3) := by decide +kernel
theorem d_Y_kill_63 : decode tb_Y_kill 63 = .ok (.aload_n 0, 1) := by decide +kernel
theorem d_Y_kill_64 : decode tb_Y_kill 64 = .ok (.getfield 62, 3) := by decide +kernel
theorem d_Y_kill_67 : decode tb_Y_kill 67 = .ok (.iload_n 1, 1) := by decide +kernel
theorem d_Y_kill_68 : decode tb_Y_kill 68 = .ok (.iconst 0, 1) := by decide +kernel
theorem d_Y_kill_69 : decode tb_Y_kill 69 = .ok (.iastore, 1) := by decide +kernel
theorem d_Y_kill_70 : decode tb_Y_kill 70 = .ok (.aload_n 0, 1) := by decide +kernel
theorem d_Y_kill_71 : decode tb_Y_kill 71 = .ok (.getfield 74, 3) := by decide +kernel
theorem d_Y_kill_74 : decode tb_Y_kill 74 = .ok (.iload_n 1, 1) := by decide +kernel
theorem d_Y_kill_75 : decode tb_Y_kill 75 = .ok (.iconst (-1), 1) := by decide +kernel
theorem d_Y_kill_76 : decode tb_Y_kill 76 = .ok (.iastore, 1) := by decide +kernel
theorem d_Y_kill_77 : decode tb_Y_kill 77 = .ok (.aload_n 0, 1) := by decide +kernel
theorem d_Y_kill_78 : decode tb_Y_kill 78 = .ok (.getfield 77, 3) := by decide +kernel
theorem d_Y_kill_81 : decode tb_Y_kill 81 = .ok (.iload_n 1, 1) := by decide +kernel
theorem d_Y_kill_82 : decode tb_Y_kill 82 = .ok (.iconst 0, 1) := by decide +kernel
theorem d_Y_kill_83 : decode tb_Y_kill 83 = .ok (.bastore, 1) := by decide +kernel
theorem d_Y_kill_84 : decode tb_Y_kill 84 = .ok (.iconst 1, 1) := by decide +kernel
theorem d_Y_kill_85 : decode tb_Y_kill 85 = .ok (.ireturn, 1) := by decide +kernel
theorem d_Y_repair_0 : decode tb_Y_repair 0 = .ok (.aload_n 0, 1) := by decide +kernel
theorem d_Y_repair_1 : decode tb_Y_repair 1 = .ok (.getfield 32, 3) := by decide +kernel
theorem d_Y_repair_4 : decode tb_Y_repair 4 = .ok (.iconst 0, 1) := by decide +kernel
theorem d_Y_repair_5 : decode tb_Y_repair 5 = .ok (.dup2, 1) := by decide +kernel
theorem d_Y_repair_6 : decode tb_Y_repair 6 = .ok (.iaload, 1) := by decide +kernel
theorem d_Y_repair_7 : decode tb_Y_repair 7 = .ok (.iconst 1, 1) := by decide +kernel
theorem d_Y_repair_8 : decode tb_Y_repair 8 = .ok (.iadd, 1) := by decide +kernel
theorem d_Y_repair_9 : decode tb_Y_repair 9 = .ok (.iastore, 1) := by decide +kernel
theorem d_Y_repair_10 : decode tb_Y_repair 10 = .ok (.aload_n 0, 1) := by decide +kernel
theorem d_Y_repair_11 : decode tb_Y_repair 11 = .ok (.iconst 0, 1) := by decide +kernel
theorem d_Y_repair_12 : decode tb_Y_repair 12 = .ok (.invokevirtual 150, 3) := by decide +kernel
theorem d_Y_repair_15 : decode tb_Y_repair 15 = .ok (.aload_n 0, 1) := by decide +kernel
theorem d_Y_repair_16 : decode tb_Y_repair 16 = .ok (.getfield 32, 3) := by decide +kernel
theorem d_Y_repair_19 : decode tb_Y_repair 19 = .ok (.iconst 0, 1) := by decide +kernel
theorem d_Y_repair_20 : decode tb_Y_repair 20 = .ok (.iaload, 1) := by decide +kernel
theorem d_Y_repair_21 : decode tb_Y_repair 21 = .ok (.ireturn, 1) := by decide +kernel
theorem d_Y_send_0 : decode tb_Y_send 0 = .ok (.iload_n 1, 1) := by decide +kernel
theorem d_Y_send_1 : decode tb_Y_send 1 = .ok (.invokestatic 244, 3) := by decide +kernel
theorem d_Y_send_4 : decode tb_Y_send 4 = .ok (.ifCond .eq 48, 3) := by decide +kernel
theorem d_Y_send_7 : decode tb_Y_send 7 = .ok (.iload_n 2, 1) := by decide +kernel
theorem d_Y_send_8 : decode tb_Y_send 8 = .ok (.invokestatic 244, 3) := by decide +kernel
theorem d_Y_send_11 : decode tb_Y_send 11 = .ok (.ifCond .eq 41, 3) := by decide +kernel
theorem d_Y_send_14 : decode tb_Y_send 14 = .ok (.iload_n 1, 1) := by decide +kernel
theorem d_Y_send_15 : decode tb_Y_send 15 = .ok (.iload_n 2, 1) := by decide +kernel
theorem d_Y_send_16 : decode tb_Y_send 16 = .ok (.if_icmp .eq 36, 3) := by decide +kernel
theorem d_Y_send_19 : decode tb_Y_send 19 = .ok (.iload_n 3, 1) := by decide +kernel
theorem d_Y_send_20 : decode tb_Y_send 20 = .ok (.iconst 1, 1) := by decide +kernel
theorem d_Y_send_21 : decode tb_Y_send 21 = .ok (.if_icmp .lt 31, 3) := by decide +kernel
theorem d_Y_send_24 : decode tb_Y_send 24 = .ok (.iload_n 3, 1) := by decide +kernel
theorem d_Y_send_25 : decode tb_Y_send 25 = .ok (.bipush 15, 2) := by decide +kernel
theorem d_Y_send_27 : decode tb_Y_send 27 = .ok (.if_icmp .gt 25, 3) := by decide +kernel
theorem d_Y_send_30 : decode tb_Y_send 30 = .ok (.iload 4, 2) := by decide +kernel
theorem d_Y_send_32 : decode tb_Y_send 32 = .ok (.ifCond .lt 20, 3) := by decide +kernel
theorem d_Y_send_35 : decode tb_Y_send 35 = .ok (.iload 4, 2) := by decide +kernel
theorem d_Y_send_37 : decode tb_Y_send 37 = .ok (.sipush 999, 3) := by decide +kernel
theorem d_Y_send_40 : decode tb_Y_send 40 = .ok (.if_icmp .gt 12, 3) := by decide +kernel
theorem d_Y_send_43 : decode tb_Y_send 43 = .ok (.aload_n 0, 1) := by decide +kernel
theorem d_Y_send_44 : decode tb_Y_send 44 = .ok (.getfield 29, 3) := by decide +kernel
theorem d_Y_send_47 : decode tb_Y_send 47 = .ok (.iload_n 1, 1) := by decide +kernel
theorem d_Y_send_48 : decode tb_Y_send 48 = .ok (.baload, 1) := by decide +kernel
theorem d_Y_send_49 : decode tb_Y_send 49 = .ok (.ifCond .eq 5, 3) := by decide +kernel
theorem d_Y_send_52 : decode tb_Y_send 52 = .ok (.iconst (-1), 1) := by decide +kernel
theorem d_Y_send_53 : decode tb_Y_send 53 = .ok (.ireturn, 1) := by decide +kernel
theorem d_Y_send_54 : decode tb_Y_send 54 = .ok (.aload_n 0, 1) := by decide +kernel
theorem d_Y_send_55 : decode tb_Y_send 55 = .ok (.dup, 1) := by decide +kernel
theorem d_Y_send_56 : decode tb_Y_send 56 = .ok (.getfield 247, 3) := by decide +kernel
theorem d_Y_send_59 : decode tb_Y_send 59 = .ok (.iconst 1, 1) := by decide +kernel
theorem d_Y_send_60 : decode tb_Y_send 60 = .ok (.iadd, 1) := by decide +kernel
theorem d_Y_send_61 : decode tb_Y_send 61 = .ok (.putfield 247, 3) := by decide +kernel
theorem d_Y_send_64 : decode tb_Y_send 64 = .ok (.aload_n 0, 1) := by decide +kernel
theorem d_Y_send_65 : decode tb_Y_send 65 = .ok (.iload_n 1, 1) := by decide +kernel
theorem d_Y_send_66 : decode tb_Y_send 66 = .ok (.iload_n 1, 1) := by decide +kernel
theorem d_Y_send_67 : decode tb_Y_send 67 = .ok (.iload_n 2, 1) := by decide +kernel
theorem d_Y_send_68 : decode tb_Y_send 68 = .ok (.iload_n 3, 1) := by decide +kernel
theorem d_Y_send_69 : decode tb_Y_send 69 = .ok (.iload 4, 2) := by decide +kernel
theorem d_Y_send_71 : decode tb_Y_send 71 = .ok (.iconst 0, 1) := by decide +kernel
theorem d_Y_send_72 : decode tb_Y_send 72 = .ok (.invokevirtual 200, 3) := by decide +kernel
theorem d_Y_send_75 : decode tb_Y_send 75 = .ok (.aload_n 0, 1) := by decide +kernel
theorem d_Y_send_76 : decode tb_Y_send 76 = .ok (.getfield 247, 3) := by decide +kernel
theorem d_Y_send_79 : decode tb_Y_send 79 = .ok (.ireturn, 1) := by decide +kernel
theorem d_Y_tick_0 : decode tb_Y_tick 0 = .ok (.iload_n 1, 1) := by decide +kernel
theorem d_Y_tick_1 : decode tb_Y_tick 1 = .ok (.ifCond .lt 9, 3) := by decide +kernel
theorem d_Y_tick_4 : decode tb_Y_tick 4 = .ok (.iload_n 1, 1) := by decide +kernel
theorem d_Y_tick_5 : decode tb_Y_tick 5 = .ok (.bipush 100, 2) := by decide +kernel
theorem d_Y_tick_7 : decode tb_Y_tick 7 = .ok (.if_icmp .le 5, 3) := by decide +kernel
theorem d_Y_tick_10 : decode tb_Y_tick 10 = .ok (.iconst (-1), 1) := by decide +kernel
theorem d_Y_tick_11 : decode tb_Y_tick 11 = .ok (.ireturn, 1) := by decide +kernel
theorem d_Y_tick_12 : decode tb_Y_tick 12 = .ok (.iconst 0, 1) := by decide +kernel
theorem d_Y_tick_13 : decode tb_Y_tick 13 = .ok (.istore_n 2, 1) := by decide +kernel
theorem d_Y_tick_14 : decode tb_Y_tick 14 = .ok (.iload_n 2, 1) := by decide +kernel
theorem d_Y_tick_15 : decode tb_Y_tick 15 = .ok (.iload_n 1, 1) := by decide +kernel
theorem d_Y_tick_16 : decode tb_Y_tick 16 = .ok (.if_icmp .ge 13, 3) := by decide +kernel
theorem d_Y_tick_19 : decode tb_Y_tick 19 = .ok (.aload_n 0, 1) := by decide +kernel
theorem d_Y_tick_20 : decode tb_Y_tick 20 = .ok (.invokevirtual 250, 3) := by decide +kernel
theorem d_Y_tick_23 : decode tb_Y_tick 23 = .ok (.iinc 2 1, 3) := by decide +kernel
theorem d_Y_tick_26 : decode tb_Y_tick 26 = .ok (.goto (-12), 3) := by decide +kernel
theorem d_Y_tick_29 : decode tb_Y_tick 29 = .ok (.aload_n 0, 1) := by decide +kernel
theorem d_Y_tick_30 : decode tb_Y_tick 30 = .ok (.getfield 223, 3) := by decide +kernel
theorem d_Y_tick_33 : decode tb_Y_tick 33 = .ok (.ireturn, 1) := by decide +kernel
theorem d_Y_node_0 : decode tb_Y_node 0 = .ok (.iload_n 1, 1) := by decide +kernel
theorem d_Y_node_1 : decode tb_Y_node 1 = .ok (.invokestatic 244, 3) := by decide +kernel
theorem d_Y_node_4 : decode tb_Y_node 4 = .ok (.ifCond .eq 13, 3) := by decide +kernel
theorem d_Y_node_7 : decode tb_Y_node 7 = .ok (.iload_n 2, 1) := by decide +kernel
theorem d_Y_node_8 : decode tb_Y_node 8 = .ok (.ifCond .lt 9, 3) := by decide +kernel
theorem d_Y_node_11 : decode tb_Y_node 11 = .ok (.iload_n 2, 1) := by decide +kernel
theorem d_Y_node_12 : decode tb_Y_node 12 = .ok (.bipush 12, 2) := by decide +kernel
theorem d_Y_node_14 : decode tb_Y_node 14 = .ok (.if_icmp .le 5, 3) := by decide +kernel
theorem d_Y_node_17 : decode tb_Y_node 17 = .ok (.iconst (-1), 1) := by decide +kernel
theorem d_Y_node_18 : decode tb_Y_node 18 = .ok (.ireturn, 1) := by decide +kernel
theorem d_Y_node_19 : decode tb_Y_node 19 = .ok (.aload_n 0, 1) := by decide +kernel
theorem d_Y_node_20 : decode tb_Y_node 20 = .ok (.getfield 62, 3) := by decide +kernel
theorem d_Y_node_23 : decode tb_Y_node 23 = .ok (.iload_n 1, 1) := by decide +kernel
theorem d_Y_node_24 : decode tb_Y_node 24 = .ok (.iaload, 1) := by decide +kernel
theorem d_Y_node_25 : decode tb_Y_node 25 = .ok (.ifCond .le 7, 3) := by decide +kernel
theorem d_Y_node_28 : decode tb_Y_node 28 = .ok (.iconst 1, 1) := by decide +kernel
theorem d_Y_node_29 : decode tb_Y_node 29 = .ok (.goto 4, 3) := by decide +kernel
theorem d_Y_node_32 : decode tb_Y_node 32 = .ok (.iconst 0, 1) := by decide +kernel
theorem d_Y_node_33 : decode tb_Y_node 33 = .ok (.istore_n 3, 1) := by decide +kernel
theorem d_Y_node_34 : decode tb_Y_node 34 = .ok (.iload_n 2, 1) := by decide +kernel
theorem d_Y_node_35 : decode tb_Y_node 35 = .ok (.tableswitch 205 0 11 #[61, 68, 77, 84, 91, 98, 105, 112, 127, 142, 157, 164], 61) := by decide +kernel
theorem d_Y_node_96 : decode tb_Y_node 96 = .ok (.aload_n 0, 1) := by decide +kernel
theorem d_Y_node_97 : decode tb_Y_node 97 = .ok (.getfield 35, 3) := by decide +kernel
theorem d_Y_node_100 : decode tb_Y_node 100 = .ok (.iload_n 1, 1) := by decide +kernel
theorem d_Y_node_101 : decode tb_Y_node 101 = .ok (.iaload, 1) := by decide +kernel
theorem d_Y_node_102 : decode tb_Y_node 102 = .ok (.ireturn, 1) := by decide +kernel
theorem d_Y_node_103 : decode tb_Y_node 103 = .ok (.aload_n 0, 1) := by decide +kernel
theorem d_Y_node_104 : decode tb_Y_node 104 = .ok (.getfield 38, 3) := by decide +kernel
theorem d_Y_node_107 : decode tb_Y_node 107 = .ok (.iload_n 1, 1) := by decide +kernel
theorem d_Y_node_108 : decode tb_Y_node 108 = .ok (.iaload, 1) := by decide +kernel
theorem d_Y_node_109 : decode tb_Y_node 109 = .ok (.iconst 1, 1) := by decide +kernel
theorem d_Y_node_110 : decode tb_Y_node 110 = .ok (.iadd, 1) := by decide +kernel
theorem d_Y_node_111 : decode tb_Y_node 111 = .ok (.ireturn, 1) := by decide +kernel
theorem d_Y_node_112 : decode tb_Y_node 112 = .ok (.aload_n 0, 1) := by decide +kernel
theorem d_Y_node_113 : decode tb_Y_node 113 = .ok (.getfield 32, 3) := by decide +kernel
theorem d_Y_node_116 : decode tb_Y_node 116 = .ok (.iload_n 1, 1) := by decide +kernel
theorem d_Y_node_117 : decode tb_Y_node 117 = .ok (.iaload, 1) := by decide +kernel
theorem d_Y_node_118 : decode tb_Y_node 118 = .ok (.ireturn, 1) := by decide +kernel
theorem d_Y_node_119 : decode tb_Y_node 119 = .ok (.aload_n 0, 1) := by decide +kernel
theorem d_Y_node_120 : decode tb_Y_node 120 = .ok (.getfield 47, 3) := by decide +kernel
theorem d_Y_node_123 : decode tb_Y_node 123 = .ok (.iload_n 1, 1) := by decide +kernel
theorem d_Y_node_124 : decode tb_Y_node 124 = .ok (.iaload, 1) := by decide +kernel
theorem d_Y_node_125 : decode tb_Y_node 125 = .ok (.ireturn, 1) := by decide +kernel
theorem d_Y_node_126 : decode tb_Y_node 126 = .ok (.aload_n 0, 1) := by decide +kernel
theorem d_Y_node_127 : decode tb_Y_node 127 = .ok (.getfield 50, 3) := by decide +kernel
theorem d_Y_node_130 : decode tb_Y_node 130 = .ok (.iload_n 1, 1) := by decide +kernel
theorem d_Y_node_131 : decode tb_Y_node 131 = .ok (.iaload, 1) := by decide +kernel
theorem d_Y_node_132 : decode tb_Y_node 132 = .ok (.ireturn, 1) := by decide +kernel
theorem d_Y_node_133 : decode tb_Y_node 133 = .ok (.aload_n 0, 1) := by decide +kernel
theorem d_Y_node_134 : decode tb_Y_node 134 = .ok (.getfield 56, 3) := by decide +kernel
theorem d_Y_node_137 : decode tb_Y_node 137 = .ok (.iload_n 1, 1) := by decide +kernel
theorem d_Y_node_138 : decode tb_Y_node 138 = .ok (.iaload, 1) := by decide +kernel
theorem d_Y_node_139 : decode tb_Y_node 139 = .ok (.ireturn, 1) := by decide +kernel
theorem d_Y_node_140 : decode tb_Y_node 140 = .ok (.aload_n 0, 1) := by decide +kernel
theorem d_Y_node_141 : decode tb_Y_node 141 = .ok (.getfield 62, 3) := by decide +kernel
theorem d_Y_node_144 : decode tb_Y_node 144 = .ok (.iload_n 1, 1) := by decide +kernel
theorem d_Y_node_145 : decode tb_Y_node 145 = .ok (.iaload, 1) := by decide +kernel
theorem d_Y_node_146 : decode tb_Y_node 146 = .ok (.ireturn, 1) := by decide +kernel
theorem d_Y_node_147 : decode tb_Y_node 147 = .ok (.iload_n 3, 1) := by decide +kernel
theorem d_Y_node_148 : decode tb_Y_node 148 = .ok (.ifCond .eq 12, 3) := by decide +kernel
theorem d_Y_node_151 : decode tb_Y_node 151 = .ok (.aload_n 0, 1) := by decide +kernel
theorem d_Y_node_152 : decode tb_Y_node 152 = .ok (.getfield 65, 3) := by decide +kernel
theorem d_Y_node_155 : decode tb_Y_node 155 = .ok (.iload_n 1, 1) := by decide +kernel
theorem d_Y_node_156 : decode tb_Y_node 156 = .ok (.iaload, 1) := by decide +kernel
theorem d_Y_node_157 : decode tb_Y_node 157 = .ok (.goto 4, 3) := by decide +kernel
theorem d_Y_node_160 : decode tb_Y_node 160 = .ok (.iconst 0, 1) := by decide +kernel
theorem d_Y_node_161 : decode tb_Y_node 161 = .ok (.ireturn, 1) := by decide +kernel
theorem d_Y_node_162 : decode tb_Y_node 162 = .ok (.iload_n 3, 1) := by decide +kernel
theorem d_Y_node_163 : decode tb_Y_node 163 = .ok (.ifCond .eq 12, 3) := by decide +kernel
theorem d_Y_node_166 : decode tb_Y_node 166 = .ok (.aload_n 0, 1) := by decide +kernel
theorem d_Y_node_167 : decode tb_Y_node 167 = .ok (.getfield 68, 3) := by decide +kernel
theorem d_Y_node_170 : decode tb_Y_node 170 = .ok (.iload_n 1, 1) := by decide +kernel
theorem d_Y_node_171 : decode tb_Y_node 171 = .ok (.iaload, 1) := by decide +kernel
theorem d_Y_node_172 : decode tb_Y_node 172 = .ok (.goto 4, 3) := by decide +kernel
theorem d_Y_node_175 : decode tb_Y_node 175 = .ok (.iconst 0, 1) := by decide +kernel
theorem d_Y_node_176 : decode tb_Y_node 176 = .ok (.ireturn, 1) := by decide +kernel
theorem d_Y_node_177 : decode tb_Y_node 177 = .ok (.iload_n 3, 1) := by decide +kernel
theorem d_Y_node_178 : decode tb_Y_node 178 = .ok (.ifCond .eq 12, 3) := by decide +kernel
theorem d_Y_node_181 : decode tb_Y_node 181 = .ok (.aload_n 0, 1) := by decide +kernel
theorem d_Y_node_182 : decode tb_Y_node 182 = .ok (.getfield 71, 3) := by decide +kernel
theorem d_Y_node_185 : decode tb_Y_node 185 = .ok (.iload_n 1, 1) := by decide +kernel
theorem d_Y_node_186 : decode tb_Y_node 186 = .ok (.iaload, 1) := by decide +kernel
theorem d_Y_node_187 : decode tb_Y_node 187 = .ok (.goto 4, 3) := by decide +kernel
theorem d_Y_node_190 : decode tb_Y_node 190 = .ok (.iconst 0, 1) := by decide +kernel
theorem d_Y_node_191 : decode tb_Y_node 191 = .ok (.ireturn, 1) := by decide +kernel
theorem d_Y_node_192 : decode tb_Y_node 192 = .ok (.aload_n 0, 1) := by decide +kernel
theorem d_Y_node_193 : decode tb_Y_node 193 = .ok (.getfield 41, 3) := by decide +kernel
theorem d_Y_node_196 : decode tb_Y_node 196 = .ok (.iload_n 1, 1) := by decide +kernel
theorem d_Y_node_197 : decode tb_Y_node 197 = .ok (.iaload, 1) := by decide +kernel
theorem d_Y_node_198 : decode tb_Y_node 198 = .ok (.ireturn, 1) := by decide +kernel
theorem d_Y_node_199 : decode tb_Y_node 199 = .ok (.aload_n 0, 1) := by decide +kernel
theorem d_Y_node_200 : decode tb_Y_node 200 = .ok (.getfield 29, 3) := by decide +kernel
theorem d_Y_node_203 : decode tb_Y_node 203 = .ok (.iload_n 1, 1) := by decide +kernel
theorem d_Y_node_204 : decode tb_Y_node 204 = .ok (.baload, 1) := by decide +kernel
theorem d_Y_node_205 : decode tb_Y_node 205 = .ok (.ifCond .eq 7, 3) := by decide +kernel
theorem d_Y_node_208 : decode tb_Y_node 208 = .ok (.iconst 1, 1) := by decide +kernel
theorem d_Y_node_209 : decode tb_Y_node 209 = .ok (.goto 30, 3) := by decide +kernel
theorem d_Y_node_212 : decode tb_Y_node 212 = .ok (.aload_n 0, 1) := by decide +kernel
theorem d_Y_node_213 : decode tb_Y_node 213 = .ok (.getfield 77, 3) := by decide +kernel
theorem d_Y_node_216 : decode tb_Y_node 216 = .ok (.iload_n 1, 1) := by decide +kernel
theorem d_Y_node_217 : decode tb_Y_node 217 = .ok (.baload, 1) := by decide +kernel
theorem d_Y_node_218 : decode tb_Y_node 218 = .ok (.ifCond .eq 7, 3) := by decide +kernel
theorem d_Y_node_221 : decode tb_Y_node 221 = .ok (.iconst 2, 1) := by decide +kernel
theorem d_Y_node_222 : decode tb_Y_node 222 = .ok (.goto 17, 3) := by decide +kernel
theorem d_Y_node_225 : decode tb_Y_node 225 = .ok (.aload_n 0, 1) := by decide +kernel
theorem d_Y_node_226 : decode tb_Y_node 226 = .ok (.getfield 74, 3) := by decide +kernel
theorem d_Y_node_229 : decode tb_Y_node 229 = .ok (.iload_n 1, 1) := by decide +kernel
theorem d_Y_node_230 : decode tb_Y_node 230 = .ok (.iaload, 1) := by decide +kernel
theorem d_Y_node_231 : decode tb_Y_node 231 = .ok (.ifCond .lt 7, 3) := by decide +kernel
theorem d_Y_node_234 : decode tb_Y_node 234 = .ok (.iconst 3, 1) := by decide +kernel
theorem d_Y_node_235 : decode tb_Y_node 235 = .ok (.goto 4, 3) := by decide +kernel
theorem d_Y_node_238 : decode tb_Y_node 238 = .ok (.iconst 0, 1) := by decide +kernel
theorem d_Y_node_239 : decode tb_Y_node 239 = .ok (.ireturn, 1) := by decide +kernel
theorem d_Y_node_240 : decode tb_Y_node 240 = .ok (.aload_n 0, 1) := by decide +kernel
theorem d_Y_node_241 : decode tb_Y_node 241 = .ok (.getfield 23, 3) := by decide +kernel
theorem d_Y_node_244 : decode tb_Y_node 244 = .ok (.bipush 8, 2) := by decide +kernel
theorem d_Y_node_246 : decode tb_Y_node 246 = .ok (.iload_n 1, 1) := by decide +kernel
theorem d_Y_node_247 : decode tb_Y_node 247 = .ok (.imul, 1) := by decide +kernel
theorem d_Y_node_248 : decode tb_Y_node 248 = .ok (.iaload, 1) := by decide +kernel
theorem d_Y_node_249 : decode tb_Y_node 249 = .ok (.ireturn, 1) := by decide +kernel
theorem d_Y_next_0 : decode tb_Y_next 0 = .ok (.iload_n 1, 1) := by decide +kernel
theorem d_Y_next_1 : decode tb_Y_next 1 = .ok (.invokestatic 244, 3) := by decide +kernel
theorem d_Y_next_4 : decode tb_Y_next 4 = .ok (.ifCond .eq 15, 3) := by decide +kernel
theorem d_Y_next_7 : decode tb_Y_next 7 = .ok (.iload_n 2, 1) := by decide +kernel
theorem d_Y_next_8 : decode tb_Y_next 8 = .ok (.invokestatic 244, 3) := by decide +kernel
theorem d_Y_next_11 : decode tb_Y_next 11 = .ok (.ifCond .eq 8, 3) := by decide +kernel
theorem d_Y_next_14 : decode tb_Y_next 14 = .ok (.iload_n 1, 1) := by decide +kernel
theorem d_Y_next_15 : decode tb_Y_next 15 = .ok (.iload_n 2, 1) := by decide +kernel
theorem d_Y_next_16 : decode tb_Y_next 16 = .ok (.if_icmp .ne 7, 3) := by decide +kernel
theorem d_Y_next_19 : decode tb_Y_next 19 = .ok (.iconst 0, 1) := by decide +kernel
theorem d_Y_next_20 : decode tb_Y_next 20 = .ok (.goto 16, 3) := by decide +kernel
theorem d_Y_next_23 : decode tb_Y_next 23 = .ok (.aload_n 0, 1) := by decide +kernel
theorem d_Y_next_24 : decode tb_Y_next 24 = .ok (.getfield 20, 3) := by decide +kernel
theorem d_Y_next_27 : decode tb_Y_next 27 = .ok (.bipush 7, 2) := by decide +kernel
theorem d_Y_next_29 : decode tb_Y_next 29 = .ok (.iload_n 1, 1) := by decide +kernel
theorem d_Y_next_30 : decode tb_Y_next 30 = .ok (.imul, 1) := by decide +kernel
theorem d_Y_next_31 : decode tb_Y_next 31 = .ok (.iload_n 2, 1) := by decide +kernel
theorem d_Y_next_32 : decode tb_Y_next 32 = .ok (.iadd, 1) := by decide +kernel
theorem d_Y_next_33 : decode tb_Y_next 33 = .ok (.iaload, 1) := by decide +kernel
theorem d_Y_next_34 : decode tb_Y_next 34 = .ok (.iconst 1, 1) := by decide +kernel
theorem d_Y_next_35 : decode tb_Y_next 35 = .ok (.iadd, 1) := by decide +kernel
theorem d_Y_next_36 : decode tb_Y_next 36 = .ok (.ireturn, 1) := by decide +kernel
theorem d_Y_known_0 : decode tb_Y_known 0 = .ok (.iload_n 1, 1) := by decide +kernel
theorem d_Y_known_1 : decode tb_Y_known 1 = .ok (.invokestatic 244, 3) := by decide +kernel
theorem d_Y_known_4 : decode tb_Y_known 4 = .ok (.ifCond .eq 29, 3) := by decide +kernel
theorem d_Y_known_7 : decode tb_Y_known 7 = .ok (.iload_n 2, 1) := by decide +kernel
theorem d_Y_known_8 : decode tb_Y_known 8 = .ok (.invokestatic 244, 3) := by decide +kernel
theorem d_Y_known_11 : decode tb_Y_known 11 = .ok (.ifCond .eq 22, 3) := by decide +kernel
theorem d_Y_known_14 : decode tb_Y_known 14 = .ok (.iload_n 1, 1) := by decide +kernel
theorem d_Y_known_15 : decode tb_Y_known 15 = .ok (.iload_n 2, 1) := by decide +kernel
theorem d_Y_known_16 : decode tb_Y_known 16 = .ok (.if_icmp .eq 17, 3) := by decide +kernel
theorem d_Y_known_19 : decode tb_Y_known 19 = .ok (.aload_n 0, 1) := by decide +kernel
theorem d_Y_known_20 : decode tb_Y_known 20 = .ok (.getfield 16, 3) := by decide +kernel
theorem d_Y_known_23 : decode tb_Y_known 23 = .ok (.bipush 7, 2) := by decide +kernel
theorem d_Y_known_25 : decode tb_Y_known 25 = .ok (.iload_n 1, 1) := by decide +kernel
theorem d_Y_known_26 : decode tb_Y_known 26 = .ok (.imul, 1) := by decide +kernel
theorem d_Y_known_27 : decode tb_Y_known 27 = .ok (.iload_n 2, 1) := by decide +kernel
theorem d_Y_known_28 : decode tb_Y_known 28 = .ok (.iadd, 1) := by decide +kernel
theorem d_Y_known_29 : decode tb_Y_known 29 = .ok (.baload, 1) := by decide +kernel
theorem d_Y_known_30 : decode tb_Y_known 30 = .ok (.ifCond .ne 7, 3) := by decide +kernel
theorem d_Y_known_33 : decode tb_Y_known 33 = .ok (.iconst 0, 1) := by decide +kernel
theorem d_Y_known_34 : decode tb_Y_known 34 = .ok (.goto 14, 3) := by decide +kernel
theorem d_Y_known_37 : decode tb_Y_known 37 = .ok (.aload_n 0, 1) := by decide +kernel
theorem d_Y_known_38 : decode tb_Y_known 38 = .ok (.getfield 13, 3) := by decide +kernel
theorem d_Y_known_41 : decode tb_Y_known 41 = .ok (.bipush 7, 2) := by decide +kernel
theorem d_Y_known_43 : decode tb_Y_known 43 = .ok (.iload_n 1, 1) := by decide +kernel
theorem d_Y_known_44 : decode tb_Y_known 44 = .ok (.imul, 1) := by decide +kernel
theorem d_Y_known_45 : decode tb_Y_known 45 = .ok (.iload_n 2, 1) := by decide +kernel
theorem d_Y_known_46 : decode tb_Y_known 46 = .ok (.iadd, 1) := by decide +kernel
theorem d_Y_known_47 : decode tb_Y_known 47 = .ok (.iaload, 1) := by decide +kernel
theorem d_Y_known_48 : decode tb_Y_known 48 = .ok (.ireturn, 1) := by decide +kernel
theorem d_Y_delivered_0 : decode tb_Y_delivered 0 = .ok (.iload_n 1, 1) := by decide +kernel
theorem d_Y_delivered_1 : decode tb_Y_delivered 1 = .ok (.invokestatic 244, 3) := by decide +kernel
theorem d_Y_delivered_4 : decode tb_Y_delivered 4 = .ok (.ifCond .eq 14, 3) := by decide +kernel
theorem d_Y_delivered_7 : decode tb_Y_delivered 7 = .ok (.iload_n 2, 1) := by decide +kernel
theorem d_Y_delivered_8 : decode tb_Y_delivered 8 = .ok (.iconst (-1), 1) := by decide +kernel
theorem d_Y_delivered_9 : decode tb_Y_delivered 9 = .ok (.if_icmp .lt 9, 3) := by decide +kernel
theorem d_Y_delivered_12 : decode tb_Y_delivered 12 = .ok (.iload_n 2, 1) := by decide +kernel
theorem d_Y_delivered_13 : decode tb_Y_delivered 13 = .ok (.bipush 7, 2) := by decide +kernel
theorem d_Y_delivered_15 : decode tb_Y_delivered 15 = .ok (.if_icmp .le 5, 3) := by decide +kernel
theorem d_Y_delivered_18 : decode tb_Y_delivered 18 = .ok (.iconst 0, 1) := by decide +kernel
theorem d_Y_delivered_19 : decode tb_Y_delivered 19 = .ok (.ireturn, 1) := by decide +kernel
theorem d_Y_delivered_20 : decode tb_Y_delivered 20 = .ok (.iload_n 2, 1) := by decide +kernel
theorem d_Y_delivered_21 : decode tb_Y_delivered 21 = .ok (.iconst (-1), 1) := by decide +kernel
theorem d_Y_delivered_22 : decode tb_Y_delivered 22 = .ok (.if_icmp .ne 10, 3) := by decide +kernel
theorem d_Y_delivered_25 : decode tb_Y_delivered 25 = .ok (.aload_n 0, 1) := by decide +kernel
theorem d_Y_delivered_26 : decode tb_Y_delivered 26 = .ok (.getfield 134, 3) := by decide +kernel
theorem d_Y_delivered_29 : decode tb_Y_delivered 29 = .ok (.iload_n 1, 1) := by decide +kernel
theorem d_Y_delivered_30 : decode tb_Y_delivered 30 = .ok (.iaload, 1) := by decide +kernel
theorem d_Y_delivered_31 : decode tb_Y_delivered 31 = .ok (.ireturn, 1) := by decide +kernel
theorem d_Y_delivered_32 : decode tb_Y_delivered 32 = .ok (.iload_n 2, 1) := by decide +kernel
theorem d_Y_delivered_33 : decode tb_Y_delivered 33 = .ok (.aload_n 0, 1) := by decide +kernel
theorem d_Y_delivered_34 : decode tb_Y_delivered 34 = .ok (.getfield 134, 3) := by decide +kernel
theorem d_Y_delivered_37 : decode tb_Y_delivered 37 = .ok (.iload_n 1, 1) := by decide +kernel
theorem d_Y_delivered_38 : decode tb_Y_delivered 38 = .ok (.iaload, 1) := by decide +kernel
theorem d_Y_delivered_39 : decode tb_Y_delivered 39 = .ok (.if_icmp .ge 17, 3) := by decide +kernel
theorem d_Y_delivered_42 : decode tb_Y_delivered 42 = .ok (.aload_n 0, 1) := by decide +kernel
theorem d_Y_delivered_43 : decode tb_Y_delivered 43 = .ok (.getfield 137, 3) := by decide +kernel
theorem d_Y_delivered_46 : decode tb_Y_delivered 46 = .ok (.bipush 8, 2) := by decide +kernel
theorem d_Y_delivered_48 : decode tb_Y_delivered 48 = .ok (.iload_n 1, 1) := by decide +kernel
theorem d_Y_delivered_49 : decode tb_Y_delivered 49 = .ok (.imul, 1) := by decide +kernel
theorem d_Y_delivered_50 : decode tb_Y_delivered 50 = .ok (.iload_n 2, 1) := by decide +kernel
theorem d_Y_delivered_51 : decode tb_Y_delivered 51 = .ok (.iadd, 1) := by decide +kernel
theorem d_Y_delivered_52 : decode tb_Y_delivered 52 = .ok (.iaload, 1) := by decide +kernel
theorem d_Y_delivered_53 : decode tb_Y_delivered 53 = .ok (.goto 4, 3) := by decide +kernel
theorem d_Y_delivered_56 : decode tb_Y_delivered 56 = .ok (.iconst 0, 1) := by decide +kernel
theorem d_Y_delivered_57 : decode tb_Y_delivered 57 = .ok (.ireturn, 1) := by decide +kernel
theorem d_Y_count_0 : decode tb_Y_count 0 = .ok (.iload_n 1, 1) := by decide +kernel
theorem d_Y_count_1 : decode tb_Y_count 1 = .ok (.ifCond .ne 10, 3) := by decide +kernel
theorem d_Y_count_4 : decode tb_Y_count 4 = .ok (.aload_n 0, 1) := by decide +kernel
theorem d_Y_count_5 : decode tb_Y_count 5 = .ok (.getfield 162, 3) := by decide +kernel
theorem d_Y_count_8 : decode tb_Y_count 8 = .ok (.goto 28, 3) := by decide +kernel
theorem d_Y_count_11 : decode tb_Y_count 11 = .ok (.iload_n 1, 1) := by decide +kernel
theorem d_Y_count_12 : decode tb_Y_count 12 = .ok (.iconst 1, 1) := by decide +kernel
theorem d_Y_count_13 : decode tb_Y_count 13 = .ok (.if_icmp .ne 10, 3) := by decide +kernel
theorem d_Y_count_16 : decode tb_Y_count 16 = .ok (.aload_n 0, 1) := by decide +kernel
theorem d_Y_count_17 : decode tb_Y_count 17 = .ok (.getfield 197, 3) := by decide +kernel
theorem d_Y_count_20 : decode tb_Y_count 20 = .ok (.goto 16, 3) := by decide +kernel
theorem d_Y_count_23 : decode tb_Y_count 23 = .ok (.iload_n 1, 1) := by decide +kernel
theorem d_Y_count_24 : decode tb_Y_count 24 = .ok (.iconst 2, 1) := by decide +kernel
theorem d_Y_count_25 : decode tb_Y_count 25 = .ok (.if_icmp .ne 10, 3) := by decide +kernel
theorem d_Y_count_28 : decode tb_Y_count 28 = .ok (.aload_n 0, 1) := by decide +kernel
theorem d_Y_count_29 : decode tb_Y_count 29 = .ok (.getfield 210, 3) := by decide +kernel
theorem d_Y_count_32 : decode tb_Y_count 32 = .ok (.goto 4, 3) := by decide +kernel
theorem d_Y_count_35 : decode tb_Y_count 35 = .ok (.iconst 0, 1) := by decide +kernel
theorem d_Y_count_36 : decode tb_Y_count 36 = .ok (.ireturn, 1) := by decide +kernel
end
section
theorem d_L_cell_0 : decode tb_L_cell 0 = .ok (.iload_n 1, 1) := by decide +kernel
theorem d_L_cell_1 : decode tb_L_cell 1 = .ok (.aload_n 0, 1) := by decide +kernel
theorem d_L_cell_2 : decode tb_L_cell 2 = .ok (.arraylength, 1) := by decide +kernel
theorem d_L_cell_3 : decode tb_L_cell 3 = .ok (.if_icmp .ge 9, 3) := by decide +kernel
theorem d_L_cell_6 : decode tb_L_cell 6 = .ok (.aload_n 0, 1) := by decide +kernel
theorem d_L_cell_7 : decode tb_L_cell 7 = .ok (.iload_n 1, 1) := by decide +kernel
theorem d_L_cell_8 : decode tb_L_cell 8 = .ok (.iaload, 1) := by decide +kernel
theorem d_L_cell_9 : decode tb_L_cell 9 = .ok (.goto 4, 3) := by decide +kernel
theorem d_L_cell_12 : decode tb_L_cell 12 = .ok (.iconst 0, 1) := by decide +kernel
theorem d_L_cell_13 : decode tb_L_cell 13 = .ok (.ireturn, 1) := by decide +kernel
theorem d_L_law_0 : decode code 0 = .ok (.new 7, 3) := by decide +kernel
theorem d_L_law_3 : decode code 3 = .ok (.dup, 1) := by decide +kernel
theorem d_L_law_4 : decode code 4 = .ok (.aload_n 0, 1) := by decide +kernel
theorem d_L_law_5 : decode code 5 = .ok (.iconst 0, 1) := by decide +kernel
theorem d_L_law_6 : decode code 6 = .ok (.invokestatic 9, 3) := by decide +kernel
theorem d_L_law_9 : decode code 9 = .ok (.aload_n 0, 1) := by decide +kernel
theorem d_L_law_10 : decode code 10 = .ok (.iconst 1, 1) := by decide +kernel
theorem d_L_law_11 : decode code 11 = .ok (.invokestatic 9, 3) := by decide +kernel
theorem d_L_law_14 : decode code 14 = .ok (.aload_n 0, 1) := by decide +kernel
theorem d_L_law_15 : decode code 15 = .ok (.iconst 2, 1) := by decide +kernel
theorem d_L_law_16 : decode code 16 = .ok (.invokestatic 9, 3) := by decide +kernel
theorem d_L_law_19 : decode code 19 = .ok (.invokespecial 15, 3) := by decide +kernel
theorem d_L_law_22 : decode code 22 = .ok (.astore_n 1, 1) := by decide +kernel
theorem d_L_law_23 : decode code 23 = .ok (.new 18, 3) := by decide +kernel
theorem d_L_law_26 : decode code 26 = .ok (.dup, 1) := by decide +kernel
theorem d_L_law_27 : decode code 27 = .ok (.aload_n 0, 1) := by decide +kernel
theorem d_L_law_28 : decode code 28 = .ok (.iconst 0, 1) := by decide +kernel
theorem d_L_law_29 : decode code 29 = .ok (.invokestatic 9, 3) := by decide +kernel
theorem d_L_law_32 : decode code 32 = .ok (.aload_n 0, 1) := by decide +kernel
theorem d_L_law_33 : decode code 33 = .ok (.iconst 1, 1) := by decide +kernel
theorem d_L_law_34 : decode code 34 = .ok (.invokestatic 9, 3) := by decide +kernel
theorem d_L_law_37 : decode code 37 = .ok (.aload_n 0, 1) := by decide +kernel
theorem d_L_law_38 : decode code 38 = .ok (.iconst 2, 1) := by decide +kernel
theorem d_L_law_39 : decode code 39 = .ok (.invokestatic 9, 3) := by decide +kernel
theorem d_L_law_42 : decode code 42 = .ok (.invokespecial 20, 3) := by decide +kernel
theorem d_L_law_45 : decode code 45 = .ok (.astore_n 2, 1) := by decide +kernel
theorem d_L_law_46 : decode code 46 = .ok (.iconst 3, 1) := by decide +kernel
theorem d_L_law_47 : decode code 47 = .ok (.istore_n 3, 1) := by decide +kernel
theorem d_L_law_48 : decode code 48 = .ok (.iload_n 3, 1) := by decide +kernel
theorem d_L_law_49 : decode code 49 = .ok (.aload_n 0, 1) := by decide +kernel
theorem d_L_law_50 : decode code 50 = .ok (.arraylength, 1) := by decide +kernel
theorem d_L_law_51 : decode code 51 = .ok (.iconst 5, 1) := by decide +kernel
theorem d_L_law_52 : decode code 52 = .ok (.isub, 1) := by decide +kernel
theorem d_L_law_53 : decode code 53 = .ok (.if_icmp .gt 379, 3) := by decide +kernel
theorem d_L_law_56 : decode code 56 = .ok (.aload_n 0, 1) := by decide +kernel
theorem d_L_law_57 : decode code 57 = .ok (.iload_n 3, 1) := by decide +kernel
theorem d_L_law_58 : decode code 58 = .ok (.iaload, 1) := by decide +kernel
theorem d_L_law_59 : decode code 59 = .ok (.bipush 15, 2) := by decide +kernel
theorem d_L_law_61 : decode code 61 = .ok (.iand, 1) := by decide +kernel
theorem d_L_law_62 : decode code 62 = .ok (.tableswitch 364 0 9 #[54, 97, 120, 133, 186, 209, 242, 275, 308, 341], 54) := by decide +kernel
theorem d_L_law_116 : decode code 116 = .ok (.aload_n 1, 1) := by decide +kernel
theorem d_L_law_117 : decode code 117 = .ok (.aload_n 0, 1) := by decide +kernel
theorem d_L_law_118 : decode code 118 = .ok (.iload_n 3, 1) := by decide +kernel
theorem d_L_law_119 : decode code 119 = .ok (.iconst 1, 1) := by decide +kernel
theorem d_L_law_120 : decode code 120 = .ok (.iadd, 1) := by decide +kernel
theorem d_L_law_121 : decode code 121 = .ok (.iaload, 1) := by decide +kernel
theorem d_L_law_122 : decode code 122 = .ok (.aload_n 0, 1) := by decide +kernel
theorem d_L_law_123 : decode code 123 = .ok (.iload_n 3, 1) := by decide +kernel
theorem d_L_law_124 : decode code 124 = .ok (.iconst 2, 1) := by decide +kernel
theorem d_L_law_125 : decode code 125 = .ok (.iadd, 1) := by decide +kernel
theorem d_L_law_126 : decode code 126 = .ok (.iaload, 1) := by decide +kernel
theorem d_L_law_127 : decode code 127 = .ok (.aload_n 0, 1) := by decide +kernel
theorem d_L_law_128 : decode code 128 = .ok (.iload_n 3, 1) := by decide +kernel
theorem d_L_law_129 : decode code 129 = .ok (.iconst 3, 1) := by decide +kernel
theorem d_L_law_130 : decode code 130 = .ok (.iadd, 1) := by decide +kernel
theorem d_L_law_131 : decode code 131 = .ok (.iaload, 1) := by decide +kernel
theorem d_L_law_132 : decode code 132 = .ok (.invokevirtual 21, 3) := by decide +kernel
theorem d_L_law_135 : decode code 135 = .ok (.aload_n 2, 1) := by decide +kernel
theorem d_L_law_136 : decode code 136 = .ok (.aload_n 0, 1) := by decide +kernel
theorem d_L_law_137 : decode code 137 = .ok (.iload_n 3, 1) := by decide +kernel
theorem d_L_law_138 : decode code 138 = .ok (.iconst 1, 1) := by decide +kernel
theorem d_L_law_139 : decode code 139 = .ok (.iadd, 1) := by decide +kernel
theorem d_L_law_140 : decode code 140 = .ok (.iaload, 1) := by decide +kernel
theorem d_L_law_141 : decode code 141 = .ok (.aload_n 0, 1) := by decide +kernel
theorem d_L_law_142 : decode code 142 = .ok (.iload_n 3, 1) := by decide +kernel
theorem d_L_law_143 : decode code 143 = .ok (.iconst 2, 1) := by decide +kernel
theorem d_L_law_144 : decode code 144 = .ok (.iadd, 1) := by decide +kernel
theorem d_L_law_145 : decode code 145 = .ok (.iaload, 1) := by decide +kernel
theorem d_L_law_146 : decode code 146 = .ok (.aload_n 0, 1) := by decide +kernel
theorem d_L_law_147 : decode code 147 = .ok (.iload_n 3, 1) := by decide +kernel
theorem d_L_law_148 : decode code 148 = .ok (.iconst 3, 1) := by decide +kernel
theorem d_L_law_149 : decode code 149 = .ok (.iadd, 1) := by decide +kernel
theorem d_L_law_150 : decode code 150 = .ok (.iaload, 1) := by decide +kernel
theorem d_L_law_151 : decode code 151 = .ok (.invokevirtual 25, 3) := by decide +kernel
theorem d_L_law_154 : decode code 154 = .ok (.if_icmp .eq 272, 3) := by decide +kernel
theorem d_L_law_157 : decode code 157 = .ok (.iconst 0, 1) := by decide +kernel
theorem d_L_law_158 : decode code 158 = .ok (.ireturn, 1) := by decide +kernel
theorem d_L_law_159 : decode code 159 = .ok (.aload_n 1, 1) := by decide +kernel
theorem d_L_law_160 : decode code 160 = .ok (.aload_n 0, 1) := by decide +kernel
theorem d_L_law_161 : decode code 161 = .ok (.iload_n 3, 1) := by decide +kernel
theorem d_L_law_162 : decode code 162 = .ok (.iconst 1, 1) := by decide +kernel
theorem d_L_law_163 : decode code 163 = .ok (.iadd, 1) := by decide +kernel
theorem d_L_law_164 : decode code 164 = .ok (.iaload, 1) := by decide +kernel
theorem d_L_law_165 : decode code 165 = .ok (.invokevirtual 26, 3) := by decide +kernel
theorem d_L_law_168 : decode code 168 = .ok (.aload_n 2, 1) := by decide +kernel
theorem d_L_law_169 : decode code 169 = .ok (.aload_n 0, 1) := by decide +kernel
theorem d_L_law_170 : decode code 170 = .ok (.iload_n 3, 1) := by decide +kernel
theorem d_L_law_171 : decode code 171 = .ok (.iconst 1, 1) := by decide +kernel
theorem d_L_law_172 : decode code 172 = .ok (.iadd, 1) := by decide +kernel
theorem d_L_law_173 : decode code 173 = .ok (.iaload, 1) := by decide +kernel
theorem d_L_law_174 : decode code 174 = .ok (.invokevirtual 30, 3) := by decide +kernel
theorem d_L_law_177 : decode code 177 = .ok (.if_icmp .eq 249, 3) := by decide +kernel
theorem d_L_law_180 : decode code 180 = .ok (.iconst 0, 1) := by decide +kernel
theorem d_L_law_181 : decode code 181 = .ok (.ireturn, 1) := by decide +kernel
theorem d_L_law_182 : decode code 182 = .ok (.aload_n 1, 1) := by decide +kernel
theorem d_L_law_183 : decode code 183 = .ok (.invokevirtual 31, 3) := by decide +kernel
theorem d_L_law_186 : decode code 186 = .ok (.aload_n 2, 1) := by decide +kernel
theorem d_L_law_187 : decode code 187 = .ok (.invokevirtual 35, 3) := by decide +kernel
theorem d_L_law_190 : decode code 190 = .ok (.if_icmp .eq 236, 3) := by decide +kernel
theorem d_L_law_193 : decode code 193 = .ok (.iconst 0, 1) := by decide +kernel
theorem d_L_law_194 : decode code 194 = .ok (.ireturn, 1) := by decide +kernel
theorem d_L_law_195 : decode code 195 = .ok (.aload_n 1, 1) := by decide +kernel
theorem d_L_law_196 : decode code 196 = .ok (.aload_n 0, 1) := by decide +kernel
theorem d_L_law_197 : decode code 197 = .ok (.iload_n 3, 1) := by decide +kernel
theorem d_L_law_198 : decode code 198 = .ok (.iconst 1, 1) := by decide +kernel
theorem d_L_law_199 : decode code 199 = .ok (.iadd, 1) := by decide +kernel
theorem d_L_law_200 : decode code 200 = .ok (.iaload, 1) := by decide +kernel
theorem d_L_law_201 : decode code 201 = .ok (.aload_n 0, 1) := by decide +kernel
theorem d_L_law_202 : decode code 202 = .ok (.iload_n 3, 1) := by decide +kernel
theorem d_L_law_203 : decode code 203 = .ok (.iconst 2, 1) := by decide +kernel
theorem d_L_law_204 : decode code 204 = .ok (.iadd, 1) := by decide +kernel
theorem d_L_law_205 : decode code 205 = .ok (.iaload, 1) := by decide +kernel
theorem d_L_law_206 : decode code 206 = .ok (.aload_n 0, 1) := by decide +kernel
theorem d_L_law_207 : decode code 207 = .ok (.iload_n 3, 1) := by decide +kernel
theorem d_L_law_208 : decode code 208 = .ok (.iconst 3, 1) := by decide +kernel
theorem d_L_law_209 : decode code 209 = .ok (.iadd, 1) := by decide +kernel
theorem d_L_law_210 : decode code 210 = .ok (.iaload, 1) := by decide +kernel
theorem d_L_law_211 : decode code 211 = .ok (.aload_n 0, 1) := by decide +kernel
theorem d_L_law_212 : decode code 212 = .ok (.iload_n 3, 1) := by decide +kernel
theorem d_L_law_213 : decode code 213 = .ok (.iconst 4, 1) := by decide +kernel
theorem d_L_law_214 : decode code 214 = .ok (.iadd, 1) := by decide +kernel
theorem d_L_law_215 : decode code 215 = .ok (.iaload, 1) := by decide +kernel
theorem d_L_law_216 : decode code 216 = .ok (.invokevirtual 36, 3) := by decide +kernel
theorem d_L_law_219 : decode code 219 = .ok (.aload_n 2, 1) := by decide +kernel
theorem d_L_law_220 : decode code 220 = .ok (.aload_n 0, 1) := by decide +kernel
theorem d_L_law_221 : decode code 221 = .ok (.iload_n 3, 1) := by decide +kernel
theorem d_L_law_222 : decode code 222 = .ok (.iconst 1, 1) := by decide +kernel
theorem d_L_law_223 : decode code 223 = .ok (.iadd, 1) := by decide +kernel
theorem d_L_law_224 : decode code 224 = .ok (.iaload, 1) := by decide +kernel
theorem d_L_law_225 : decode code 225 = .ok (.aload_n 0, 1) := by decide +kernel
theorem d_L_law_226 : decode code 226 = .ok (.iload_n 3, 1) := by decide +kernel
theorem d_L_law_227 : decode code 227 = .ok (.iconst 2, 1) := by decide +kernel
theorem d_L_law_228 : decode code 228 = .ok (.iadd, 1) := by decide +kernel
theorem d_L_law_229 : decode code 229 = .ok (.iaload, 1) := by decide +kernel
theorem d_L_law_230 : decode code 230 = .ok (.aload_n 0, 1) := by decide +kernel
theorem d_L_law_231 : decode code 231 = .ok (.iload_n 3, 1) := by decide +kernel
theorem d_L_law_232 : decode code 232 = .ok (.iconst 3, 1) := by decide +kernel
theorem d_L_law_233 : decode code 233 = .ok (.iadd, 1) := by decide +kernel
theorem d_L_law_234 : decode code 234 = .ok (.iaload, 1) := by decide +kernel
theorem d_L_law_235 : decode code 235 = .ok (.aload_n 0, 1) := by decide +kernel
theorem d_L_law_236 : decode code 236 = .ok (.iload_n 3, 1) := by decide +kernel
theorem d_L_law_237 : decode code 237 = .ok (.iconst 4, 1) := by decide +kernel
theorem d_L_law_238 : decode code 238 = .ok (.iadd, 1) := by decide +kernel
theorem d_L_law_239 : decode code 239 = .ok (.iaload, 1) := by decide +kernel
theorem d_L_law_240 : decode code 240 = .ok (.invokevirtual 40, 3) := by decide +kernel
theorem d_L_law_243 : decode code 243 = .ok (.if_icmp .eq 183, 3) := by decide +kernel
theorem d_L_law_246 : decode code 246 = .ok (.iconst 0, 1) := by decide +kernel
theorem d_L_law_247 : decode code 247 = .ok (.ireturn, 1) := by decide +kernel
theorem d_L_law_248 : decode code 248 = .ok (.aload_n 1, 1) := by decide +kernel
theorem d_L_law_249 : decode code 249 = .ok (.aload_n 0, 1) := by decide +kernel
theorem d_L_law_250 : decode code 250 = .ok (.iload_n 3, 1) := by decide +kernel
theorem d_L_law_251 : decode code 251 = .ok (.iconst 1, 1) := by decide +kernel
theorem d_L_law_252 : decode code 252 = .ok (.iadd, 1) := by decide +kernel
theorem d_L_law_253 : decode code 253 = .ok (.iaload, 1) := by decide +kernel
theorem d_L_law_254 : decode code 254 = .ok (.invokevirtual 41, 3) := by decide +kernel
theorem d_L_law_257 : decode code 257 = .ok (.aload_n 2, 1) := by decide +kernel
theorem d_L_law_258 : decode code 258 = .ok (.aload_n 0, 1) := by decide +kernel
theorem d_L_law_259 : decode code 259 = .ok (.iload_n 3, 1) := by decide +kernel
theorem d_L_law_260 : decode code 260 = .ok (.iconst 1, 1) := by decide +kernel
theorem d_L_law_261 : decode code 261 = .ok (.iadd, 1) := by decide +kernel
theorem d_L_law_262 : decode code 262 = .ok (.iaload, 1) := by decide +kernel
theorem d_L_law_263 : decode code 263 = .ok (.invokevirtual 45, 3) := by decide +kernel
theorem d_L_law_266 : decode code 266 = .ok (.if_icmp .eq 160, 3) := by decide +kernel
theorem d_L_law_269 : decode code 269 = .ok (.iconst 0, 1) := by decide +kernel
theorem d_L_law_270 : decode code 270 = .ok (.ireturn, 1) := by decide +kernel
theorem d_L_law_271 : decode code 271 = .ok (.aload_n 1, 1) := by decide +kernel
theorem d_L_law_272 : decode code 272 = .ok (.aload_n 0, 1) := by decide +kernel
theorem d_L_law_273 : decode code 273 = .ok (.iload_n 3, 1) := by decide +kernel
theorem d_L_law_274 : decode code 274 = .ok (.iconst 1, 1) := by decide +kernel
theorem d_L_law_275 : decode code 275 = .ok (.iadd, 1) := by decide +kernel
theorem d_L_law_276 : decode code 276 = .ok (.iaload, 1) := by decide +kernel
theorem d_L_law_277 : decode code 277 = .ok (.aload_n 0, 1) := by decide +kernel
theorem d_L_law_278 : decode code 278 = .ok (.iload_n 3, 1) := by decide +kernel
theorem d_L_law_279 : decode code 279 = .ok (.iconst 2, 1) := by decide +kernel
theorem d_L_law_280 : decode code 280 = .ok (.iadd, 1) := by decide +kernel
theorem d_L_law_281 : decode code 281 = .ok (.iaload, 1) := by decide +kernel
theorem d_L_law_282 : decode code 282 = .ok (.invokevirtual 46, 3) := by decide +kernel
theorem d_L_law_285 : decode code 285 = .ok (.aload_n 2, 1) := by decide +kernel
theorem d_L_law_286 : decode code 286 = .ok (.aload_n 0, 1) := by decide +kernel
theorem d_L_law_287 : decode code 287 = .ok (.iload_n 3, 1) := by decide +kernel
theorem d_L_law_288 : decode code 288 = .ok (.iconst 1, 1) := by decide +kernel
theorem d_L_law_289 : decode code 289 = .ok (.iadd, 1) := by decide +kernel
theorem d_L_law_290 : decode code 290 = .ok (.iaload, 1) := by decide +kernel
theorem d_L_law_291 : decode code 291 = .ok (.aload_n 0, 1) := by decide +kernel
theorem d_L_law_292 : decode code 292 = .ok (.iload_n 3, 1) := by decide +kernel
theorem d_L_law_293 : decode code 293 = .ok (.iconst 2, 1) := by decide +kernel
theorem d_L_law_294 : decode code 294 = .ok (.iadd, 1) := by decide +kernel
theorem d_L_law_295 : decode code 295 = .ok (.iaload, 1) := by decide +kernel
theorem d_L_law_296 : decode code 296 = .ok (.invokevirtual 50, 3) := by decide +kernel
theorem d_L_law_299 : decode code 299 = .ok (.if_icmp .eq 127, 3) := by decide +kernel
theorem d_L_law_302 : decode code 302 = .ok (.iconst 0, 1) := by decide +kernel
theorem d_L_law_303 : decode code 303 = .ok (.ireturn, 1) := by decide +kernel
theorem d_L_law_304 : decode code 304 = .ok (.aload_n 1, 1) := by decide +kernel
theorem d_L_law_305 : decode code 305 = .ok (.aload_n 0, 1) := by decide +kernel
theorem d_L_law_306 : decode code 306 = .ok (.iload_n 3, 1) := by decide +kernel
theorem d_L_law_307 : decode code 307 = .ok (.iconst 1, 1) := by decide +kernel
theorem d_L_law_308 : decode code 308 = .ok (.iadd, 1) := by decide +kernel
theorem d_L_law_309 : decode code 309 = .ok (.iaload, 1) := by decide +kernel
theorem d_L_law_310 : decode code 310 = .ok (.aload_n 0, 1) := by decide +kernel
theorem d_L_law_311 : decode code 311 = .ok (.iload_n 3, 1) := by decide +kernel
theorem d_L_law_312 : decode code 312 = .ok (.iconst 2, 1) := by decide +kernel
theorem d_L_law_313 : decode code 313 = .ok (.iadd, 1) := by decide +kernel
theorem d_L_law_314 : decode code 314 = .ok (.iaload, 1) := by decide +kernel
theorem d_L_law_315 : decode code 315 = .ok (.invokevirtual 51, 3) := by decide +kernel
theorem d_L_law_318 : decode code 318 = .ok (.aload_n 2, 1) := by decide +kernel
theorem d_L_law_319 : decode code 319 = .ok (.aload_n 0, 1) := by decide +kernel
theorem d_L_law_320 : decode code 320 = .ok (.iload_n 3, 1) := by decide +kernel
theorem d_L_law_321 : decode code 321 = .ok (.iconst 1, 1) := by decide +kernel
theorem d_L_law_322 : decode code 322 = .ok (.iadd, 1) := by decide +kernel
theorem d_L_law_323 : decode code 323 = .ok (.iaload, 1) := by decide +kernel
theorem d_L_law_324 : decode code 324 = .ok (.aload_n 0, 1) := by decide +kernel
theorem d_L_law_325 : decode code 325 = .ok (.iload_n 3, 1) := by decide +kernel
theorem d_L_law_326 : decode code 326 = .ok (.iconst 2, 1) := by decide +kernel
theorem d_L_law_327 : decode code 327 = .ok (.iadd, 1) := by decide +kernel
theorem d_L_law_328 : decode code 328 = .ok (.iaload, 1) := by decide +kernel
theorem d_L_law_329 : decode code 329 = .ok (.invokevirtual 54, 3) := by decide +kernel
theorem d_L_law_332 : decode code 332 = .ok (.if_icmp .eq 94, 3) := by decide +kernel
theorem d_L_law_335 : decode code 335 = .ok (.iconst 0, 1) := by decide +kernel
theorem d_L_law_336 : decode code 336 = .ok (.ireturn, 1) := by decide +kernel
theorem d_L_law_337 : decode code 337 = .ok (.aload_n 1, 1) := by decide +kernel
theorem d_L_law_338 : decode code 338 = .ok (.aload_n 0, 1) := by decide +kernel
theorem d_L_law_339 : decode code 339 = .ok (.iload_n 3, 1) := by decide +kernel
theorem d_L_law_340 : decode code 340 = .ok (.iconst 1, 1) := by decide +kernel
theorem d_L_law_341 : decode code 341 = .ok (.iadd, 1) := by decide +kernel
theorem d_L_law_342 : decode code 342 = .ok (.iaload, 1) := by decide +kernel
theorem d_L_law_343 : decode code 343 = .ok (.aload_n 0, 1) := by decide +kernel
theorem d_L_law_344 : decode code 344 = .ok (.iload_n 3, 1) := by decide +kernel
theorem d_L_law_345 : decode code 345 = .ok (.iconst 2, 1) := by decide +kernel
theorem d_L_law_346 : decode code 346 = .ok (.iadd, 1) := by decide +kernel
theorem d_L_law_347 : decode code 347 = .ok (.iaload, 1) := by decide +kernel
theorem d_L_law_348 : decode code 348 = .ok (.invokevirtual 55, 3) := by decide +kernel
theorem d_L_law_351 : decode code 351 = .ok (.aload_n 2, 1) := by decide +kernel
theorem d_L_law_352 : decode code 352 = .ok (.aload_n 0, 1) := by decide +kernel
theorem d_L_law_353 : decode code 353 = .ok (.iload_n 3, 1) := by decide +kernel
theorem d_L_law_354 : decode code 354 = .ok (.iconst 1, 1) := by decide +kernel
theorem d_L_law_355 : decode code 355 = .ok (.iadd, 1) := by decide +kernel
theorem d_L_law_356 : decode code 356 = .ok (.iaload, 1) := by decide +kernel
theorem d_L_law_357 : decode code 357 = .ok (.aload_n 0, 1) := by decide +kernel
theorem d_L_law_358 : decode code 358 = .ok (.iload_n 3, 1) := by decide +kernel
theorem d_L_law_359 : decode code 359 = .ok (.iconst 2, 1) := by decide +kernel
theorem d_L_law_360 : decode code 360 = .ok (.iadd, 1) := by decide +kernel
theorem d_L_law_361 : decode code 361 = .ok (.iaload, 1) := by decide +kernel
theorem d_L_law_362 : decode code 362 = .ok (.invokevirtual 58, 3) := by decide +kernel
theorem d_L_law_365 : decode code 365 = .ok (.if_icmp .eq 61, 3) := by decide +kernel
theorem d_L_law_368 : decode code 368 = .ok (.iconst 0, 1) := by decide +kernel
theorem d_L_law_369 : decode code 369 = .ok (.ireturn, 1) := by decide +kernel
theorem d_L_law_370 : decode code 370 = .ok (.aload_n 1, 1) := by decide +kernel
theorem d_L_law_371 : decode code 371 = .ok (.aload_n 0, 1) := by decide +kernel
theorem d_L_law_372 : decode code 372 = .ok (.iload_n 3, 1) := by decide +kernel
theorem d_L_law_373 : decode code 373 = .ok (.iconst 1, 1) := by decide +kernel
theorem d_L_law_374 : decode code 374 = .ok (.iadd, 1) := by decide +kernel
theorem d_L_law_375 : decode code 375 = .ok (.iaload, 1) := by decide +kernel
theorem d_L_law_376 : decode code 376 = .ok (.aload_n 0, 1) := by decide +kernel
theorem d_L_law_377 : decode code 377 = .ok (.iload_n 3, 1) := by decide +kernel
theorem d_L_law_378 : decode code 378 = .ok (.iconst 2, 1) := by decide +kernel
theorem d_L_law_379 : decode code 379 = .ok (.iadd, 1) := by decide +kernel
theorem d_L_law_380 : decode code 380 = .ok (.iaload, 1) := by decide +kernel
theorem d_L_law_381 : decode code 381 = .ok (.invokevirtual 59, 3) := by decide +kernel
theorem d_L_law_384 : decode code 384 = .ok (.aload_n 2, 1) := by decide +kernel
theorem d_L_law_385 : decode code 385 = .ok (.aload_n 0, 1) := by decide +kernel
theorem d_L_law_386 : decode code 386 = .ok (.iload_n 3, 1) := by decide +kernel
theorem d_L_law_387 : decode code 387 = .ok (.iconst 1, 1) := by decide +kernel
theorem d_L_law_388 : decode code 388 = .ok (.iadd, 1) := by decide +kernel
theorem d_L_law_389 : decode code 389 = .ok (.iaload, 1) := by decide +kernel
theorem d_L_law_390 : decode code 390 = .ok (.aload_n 0, 1) := by decide +kernel
theorem d_L_law_391 : decode code 391 = .ok (.iload_n 3, 1) := by decide +kernel
theorem d_L_law_392 : decode code 392 = .ok (.iconst 2, 1) := by decide +kernel
theorem d_L_law_393 : decode code 393 = .ok (.iadd, 1) := by decide +kernel
theorem d_L_law_394 : decode code 394 = .ok (.iaload, 1) := by decide +kernel
theorem d_L_law_395 : decode code 395 = .ok (.invokevirtual 62, 3) := by decide +kernel
theorem d_L_law_398 : decode code 398 = .ok (.if_icmp .eq 28, 3) := by decide +kernel
theorem d_L_law_401 : decode code 401 = .ok (.iconst 0, 1) := by decide +kernel
theorem d_L_law_402 : decode code 402 = .ok (.ireturn, 1) := by decide +kernel
theorem d_L_law_403 : decode code 403 = .ok (.aload_n 1, 1) := by decide +kernel
theorem d_L_law_404 : decode code 404 = .ok (.aload_n 0, 1) := by decide +kernel
theorem d_L_law_405 : decode code 405 = .ok (.iload_n 3, 1) := by decide +kernel
theorem d_L_law_406 : decode code 406 = .ok (.iconst 1, 1) := by decide +kernel
theorem d_L_law_407 : decode code 407 = .ok (.iadd, 1) := by decide +kernel
theorem d_L_law_408 : decode code 408 = .ok (.iaload, 1) := by decide +kernel
theorem d_L_law_409 : decode code 409 = .ok (.invokevirtual 63, 3) := by decide +kernel
theorem d_L_law_412 : decode code 412 = .ok (.aload_n 2, 1) := by decide +kernel
theorem d_L_law_413 : decode code 413 = .ok (.aload_n 0, 1) := by decide +kernel
theorem d_L_law_414 : decode code 414 = .ok (.iload_n 3, 1) := by decide +kernel
theorem d_L_law_415 : decode code 415 = .ok (.iconst 1, 1) := by decide +kernel
theorem d_L_law_416 : decode code 416 = .ok (.iadd, 1) := by decide +kernel
theorem d_L_law_417 : decode code 417 = .ok (.iaload, 1) := by decide +kernel
theorem d_L_law_418 : decode code 418 = .ok (.invokevirtual 66, 3) := by decide +kernel
theorem d_L_law_421 : decode code 421 = .ok (.if_icmp .eq 5, 3) := by decide +kernel
theorem d_L_law_424 : decode code 424 = .ok (.iconst 0, 1) := by decide +kernel
theorem d_L_law_425 : decode code 425 = .ok (.ireturn, 1) := by decide +kernel
theorem d_L_law_426 : decode code 426 = .ok (.iinc 3 5, 3) := by decide +kernel
theorem d_L_law_429 : decode code 429 = .ok (.goto (-381), 3) := by decide +kernel
theorem d_L_law_432 : decode code 432 = .ok (.iconst 1, 1) := by decide +kernel
theorem d_L_law_433 : decode code 433 = .ok (.ireturn, 1) := by decide +kernel
end
section
/-! Arrays.fill of seven ints -/
theorem d_JA_fill_0 : decode tb_JA_fill 0 = .ok (.iconst 0, 1) := by decide +kernel
theorem d_JA_fill_1 : decode tb_JA_fill 1 = .ok (.istore_n 2, 1) := by decide +kernel
theorem d_JA_fill_2 : decode tb_JA_fill 2 = .ok (.aload_n 0, 1) := by decide +kernel
theorem d_JA_fill_3 : decode tb_JA_fill 3 = .ok (.arraylength, 1) := by decide +kernel
theorem d_JA_fill_4 : decode tb_JA_fill 4 = .ok (.istore_n 3, 1) := by decide +kernel
theorem d_JA_fill_5 : decode tb_JA_fill 5 = .ok (.iload_n 2, 1) := by decide +kernel
theorem d_JA_fill_6 : decode tb_JA_fill 6 = .ok (.iload_n 3, 1) := by decide +kernel
theorem d_JA_fill_7 : decode tb_JA_fill 7 = .ok (.if_icmp .ge 13, 3) := by decide +kernel
theorem d_JA_fill_10 : decode tb_JA_fill 10 = .ok (.aload_n 0, 1) := by decide +kernel
theorem d_JA_fill_11 : decode tb_JA_fill 11 = .ok (.iload_n 2, 1) := by decide +kernel
theorem d_JA_fill_12 : decode tb_JA_fill 12 = .ok (.iload_n 1, 1) := by decide +kernel
theorem d_JA_fill_13 : decode tb_JA_fill 13 = .ok (.iastore, 1) := by decide +kernel
theorem d_JA_fill_14 : decode tb_JA_fill 14 = .ok (.iinc 2 1, 3) := by decide +kernel
theorem d_JA_fill_17 : decode tb_JA_fill 17 = .ok (.goto (-12), 3) := by decide +kernel
theorem d_JA_fill_20 : decode tb_JA_fill 20 = .ok (.return_, 1) := by decide +kernel
theorem va_upup {α : Type} (f : Nat → α) (k : Nat) (v w : α) : va_up (va_up f k v) k w = va_up f k w := by
  funext j
  by_cases h : j = k
  · subst h
    rw [va_up_self, va_up_self]
  · rw [va_up_ne _ _ h, va_up_ne _ _ h, va_up_ne _ _ h]
def tv_fl (f : Nat → Int32) (v : Int32) (k : Nat) : Nat → Int32 := fun j => if j < k then v else f j
theorem tv_fl_s (f : Nat → Int32) (v : Int32) (k : Nat) : upd (tv_fl f v k) k v = tv_fl f v (k + 1) := by
  funext j
  by_cases h : j = k
  · subst h
    simp [upd, tv_fl]
  · have : j < k + 1 ↔ j < k := by omega
    simp [upd, tv_fl, h, this]
theorem fill_a : ∀ k, k < 7 → (¬ Int32.ofNat 7 ≤ Int32.ofNat k) ∧ (¬ (Int32.ofNat k < 0 ∨ 7 ≤ (Int32.ofNat k).toNatClampNeg)) ∧ (Int32.ofNat k).toNatClampNeg = k ∧ Int32.ofNat k + 1 = Int32.ofNat (k + 1) := by decide
section FILL
variable {X : tv_X} {n a : Nat} {h : Nat → tv_C} {f : Nat → Int32} {v : Int32} {rm : Room} {P : Option Value → Nat → (Nat → tv_C) → Prop}
set_option maxHeartbeats 4000000 in
theorem fill_lp (hC : tv_K X tb_JA_fill 4 "java/util/Arrays" tm_wg tm_ns tm_cl tm_ty rm) (hr : tv_ret X none) (hE : tv_end X P 0 0) (ha : 0 < a ∧ a ≤ n) (hP : P none n (va_up h a (.inl (0, (7, .inl (tv_fl f v 7)))))) : ∀ c k, k + c = 7 → V X 0 0 n (va_up h a (.inl (0, (7, .inl (tv_fl f v k))))) 5 [some (.ref a), some (.int v), some (.int (Int32.ofNat k)), some (.int (Int32.ofNat 7))] []
  | 0, k, hk => by
    obtain rfl : k = 7 := by omega
    refine V.blk hC [(.iload_n 2, 1), (.iload_n 3, 1)] 5 _ _ ⟨d_JA_fill_5, d_JA_fill_6, trivial⟩ (show tv_run _ _ _ _ = some (7, _, [.int (Int32.ofNat 7), .int (Int32.ofNat 7)]) from rfl) ?_
    refine V.icmp_ge hC d_JA_fill_7 (tgt := 20) (by decide) (fun _ => ?_) (fun hc => absurd (by decide) hc)
    exact V.vret hC hr hE d_JA_fill_20 hP
  | c + 1, k, hk => by
    obtain ⟨a1, a2, a3, a4⟩ := fill_a k (by omega)
    refine V.blk hC [(.iload_n 2, 1), (.iload_n 3, 1)] 5 _ _ ⟨d_JA_fill_5, d_JA_fill_6, trivial⟩ (show tv_run _ _ _ _ = some (7, _, [.int (Int32.ofNat 7), .int (Int32.ofNat k)]) from rfl) ?_
    refine V.icmp_ge hC d_JA_fill_7 (tgt := 20) (by decide) (fun hc => absurd hc a1) (fun _ => ?_)
    refine V.blk hC [(.aload_n 0, 1), (.iload_n 2, 1), (.iload_n 1, 1)] 10 _ _ ⟨d_JA_fill_10, d_JA_fill_11, d_JA_fill_12, trivial⟩ (show tv_run _ _ _ _ = some (13, _, [.int v, .int (Int32.ofNat k), .ref a]) from rfl) ?_
    refine V.iast hC ha (va_up_self _ _ _) rfl a2 d_JA_fill_13 ?_
    rw [va_upup, a3, tv_fl_s]
    refine V.blk hC [(.iinc 2 1, 3)] 14 _ _ ⟨d_JA_fill_14, trivial⟩ (show tv_run _ _ _ _ = some (17, [some (.ref a), some (.int v), some (.int (Int32.ofNat k + 1)), some (.int (Int32.ofNat 7))], []) from rfl) ?_
    rw [a4]
    refine V.goto hC d_JA_fill_17 (tgt := 5) (by decide) ?_
    exact fill_lp hC hr hE ha hP c (k + 1) (by omega)
theorem c_fill0 (ha : 0 < a ∧ a ≤ n) (hh : h a = .inl (0, (7, .inl f))) (v : Int32) : tv_Met ty_JA_fill (Cond.code ty_JA_fill tb_JA_fill 4 none :: tm_wg) tm_ns tm_cl tm_ty 0 0 0 0 [.ref a, .int v] n h (fun v' n' h' => v' = none ∧ n' = n ∧ h' = va_up h a (.inl (0, (7, .inl (tv_fl f v 7))))) := by
  refine tv_Met.of (by decide) rfl (tm_le rfl) ?_
  intro X hC hnm hr hE
  have hC : tv_K X tb_JA_fill 4 "java/util/Arrays" tm_wg tm_ns tm_cl tm_ty { frames := 0, cells := 0, slots := 0, locals := 0 } := hC
  show V X 0 0 n h 0 [some (.ref a), some (.int v), none, none] []
  refine V.blk hC [(.iconst 0, 1), (.istore_n 2, 1), (.aload_n 0, 1)] 0 _ _ ⟨d_JA_fill_0, d_JA_fill_1, d_JA_fill_2, trivial⟩ (show tv_run _ _ _ _ = some (3, [some (.ref a), some (.int v), some (.int (Int32.ofNat 0)), none], [.ref a]) from rfl) ?_
  refine V.alen hC ha hh rfl d_JA_fill_3 ?_
  refine V.blk hC [(.istore_n 3, 1)] 4 _ _ ⟨d_JA_fill_4, trivial⟩ (show tv_run _ _ _ _ = some (5, [some (.ref a), some (.int v), some (.int (Int32.ofNat 0)), some (.int (Int32.ofNat 7))], []) from rfl) ?_
  refine V.congr (h' := va_up h a (.inl (0, (7, .inl (tv_fl f v 0))))) (fun q _ => ?_) (fill_lp hC hr hE ha ⟨rfl, rfl, rfl⟩ 7 0 (by omega))
  by_cases hq : q = a
  · subst hq
    rw [va_up_self, hh]
    rfl
  · rw [va_up_ne _ _ hq]
end FILL
theorem sFl_ne (σ : tm_S) (a : Nat) (v : Int32) : ∀ q, q ≠ a → (sFl σ a v).1 q = σ.1 q ∧ (sFl σ a v).2 q = σ.2 q := by
  intro q hq
  refine ⟨?_, rfl⟩
  funext j
  simp [sFl, hq]
theorem c_JA_fill (σ : tm_S) (q : Nat) (hq : kd q = 4) (v : Int32) : tv_Met ty_JA_fill (Cond.code ty_JA_fill tb_JA_fill 4 none :: tm_wg) tm_ns tm_cl tm_ty 0 0 0 0 [.ref q, .int v] tm_n (hp σ) (tm_P none (sFl σ q v)) := by
  have e1 : (sFl σ q v).1 q = tv_fl (σ.1 q) v 7 := by
    funext j
    simp [sFl, tv_fl]
  have e : hp (sFl σ q v) = va_up (hp σ) q (.inl (0, (7, .inl (tv_fl (σ.1 q) v 7)))) := by
    rw [hp_up (sFl_ne σ q v), hq, e1]
    rfl
  unfold tm_P
  rw [e]
  exact c_fill0 (kd_in hq (by decide)) (hp_at hq) v
end
