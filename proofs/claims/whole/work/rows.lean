section
-- ===== PART A: goes FIRST, ahead of the names: the tables' words, and 'selects' of the private methods out of them =====
/-- a private method of a class that the tables say can be made, by its rows of tables_1 -/
def lw_okq (q : MethodName × Nat) : Prop := (q.1.cls ≠ "java/lang/invoke/MethodHandle" ∧ q.1.cls ≠ "java/lang/invoke/VarHandle") ∧ Cond.instantiable q.1.cls q.2 ∈ tables_1 ∧ Cond.privateMethod q.1 ∈ tables_1 ∧ Cond.instanceMethod q.1 ∈ tables_1
theorem lw_p0 : lw_okq (⟨"TrickleMesh", "resetTimer", "(LTrickleMesh$Node;)V"⟩, 11) := ⟨⟨by decide +kernel, by decide +kernel⟩, List.mem_of_getElem? (i := 11) (by decide +kernel), List.mem_of_getElem? (i := 210) (by decide +kernel), List.mem_of_getElem? (i := 211) (by decide +kernel)⟩
theorem lw_p1 : lw_okq (⟨"TrickleMesh", "beginInterval", "(LTrickleMesh$Timer;I)V"⟩, 11) := ⟨⟨by decide +kernel, by decide +kernel⟩, List.mem_of_getElem? (i := 11) (by decide +kernel), List.mem_of_getElem? (i := 214) (by decide +kernel), List.mem_of_getElem? (i := 215) (by decide +kernel)⟩
theorem lw_p2 : lw_okq (⟨"TrickleMesh", "draw", "(I)I"⟩, 11) := ⟨⟨by decide +kernel, by decide +kernel⟩, List.mem_of_getElem? (i := 11) (by decide +kernel), List.mem_of_getElem? (i := 218) (by decide +kernel), List.mem_of_getElem? (i := 219) (by decide +kernel)⟩
theorem lw_p3 : lw_okq (⟨"TrickleMesh", "sendOn", "(LTrickleMesh$Node;IIIIZ)V"⟩, 11) := ⟨⟨by decide +kernel, by decide +kernel⟩, List.mem_of_getElem? (i := 11) (by decide +kernel), List.mem_of_getElem? (i := 276) (by decide +kernel), List.mem_of_getElem? (i := 277) (by decide +kernel)⟩
theorem lw_p4 : lw_okq (⟨"TrickleMesh", "enqueue", "(LTrickleMesh$Node;II)LTrickleMesh$Frame;"⟩, 11) := ⟨⟨by decide +kernel, by decide +kernel⟩, List.mem_of_getElem? (i := 11) (by decide +kernel), List.mem_of_getElem? (i := 280) (by decide +kernel), List.mem_of_getElem? (i := 281) (by decide +kernel)⟩
theorem lw_p5 : lw_okq (⟨"TrickleMesh", "rememberTheAir", "()V"⟩, 11) := ⟨⟨by decide +kernel, by decide +kernel⟩, List.mem_of_getElem? (i := 11) (by decide +kernel), List.mem_of_getElem? (i := 292) (by decide +kernel), List.mem_of_getElem? (i := 293) (by decide +kernel)⟩
theorem lw_p6 : lw_okq (⟨"TrickleMesh", "goOnTheAir", "()V"⟩, 11) := ⟨⟨by decide +kernel, by decide +kernel⟩, List.mem_of_getElem? (i := 11) (by decide +kernel), List.mem_of_getElem? (i := 296) (by decide +kernel), List.mem_of_getElem? (i := 297) (by decide +kernel)⟩
theorem lw_p7 : lw_okq (⟨"TrickleMesh", "seemsBusy", "(LTrickleMesh$Node;)Z"⟩, 11) := ⟨⟨by decide +kernel, by decide +kernel⟩, List.mem_of_getElem? (i := 11) (by decide +kernel), List.mem_of_getElem? (i := 300) (by decide +kernel), List.mem_of_getElem? (i := 301) (by decide +kernel)⟩
theorem lw_p8 : lw_okq (⟨"TrickleMesh", "failFirst", "(LTrickleMesh$Node;)V"⟩, 11) := ⟨⟨by decide +kernel, by decide +kernel⟩, List.mem_of_getElem? (i := 11) (by decide +kernel), List.mem_of_getElem? (i := 304) (by decide +kernel), List.mem_of_getElem? (i := 305) (by decide +kernel)⟩
theorem lw_p9 : lw_okq (⟨"TrickleMesh", "removeFirst", "(LTrickleMesh$Radio;)V"⟩, 11) := ⟨⟨by decide +kernel, by decide +kernel⟩, List.mem_of_getElem? (i := 11) (by decide +kernel), List.mem_of_getElem? (i := 308) (by decide +kernel), List.mem_of_getElem? (i := 309) (by decide +kernel)⟩
theorem lw_p10 : lw_okq (⟨"TrickleMesh", "choose", "(LTrickleMesh$Node;)V"⟩, 11) := ⟨⟨by decide +kernel, by decide +kernel⟩, List.mem_of_getElem? (i := 11) (by decide +kernel), List.mem_of_getElem? (i := 312) (by decide +kernel), List.mem_of_getElem? (i := 313) (by decide +kernel)⟩
theorem lw_p11 : lw_okq (⟨"TrickleMesh", "bestParent", "(LTrickleMesh$Node;)I"⟩, 11) := ⟨⟨by decide +kernel, by decide +kernel⟩, List.mem_of_getElem? (i := 11) (by decide +kernel), List.mem_of_getElem? (i := 316) (by decide +kernel), List.mem_of_getElem? (i := 317) (by decide +kernel)⟩
theorem lw_p12 : lw_okq (⟨"TrickleMesh", "isBetter", "(LTrickleMesh$Node;II)Z"⟩, 11) := ⟨⟨by decide +kernel, by decide +kernel⟩, List.mem_of_getElem? (i := 11) (by decide +kernel), List.mem_of_getElem? (i := 320) (by decide +kernel), List.mem_of_getElem? (i := 321) (by decide +kernel)⟩
theorem lw_p13 : lw_okq (⟨"TrickleMesh", "rankBelow", "(LTrickleMesh$Node;I)I"⟩, 11) := ⟨⟨by decide +kernel, by decide +kernel⟩, List.mem_of_getElem? (i := 11) (by decide +kernel), List.mem_of_getElem? (i := 324) (by decide +kernel), List.mem_of_getElem? (i := 325) (by decide +kernel)⟩
theorem lw_p14 : lw_okq (⟨"TrickleMesh", "announce", "(LTrickleMesh$Node;IIZ)V"⟩, 11) := ⟨⟨by decide +kernel, by decide +kernel⟩, List.mem_of_getElem? (i := 11) (by decide +kernel), List.mem_of_getElem? (i := 331) (by decide +kernel), List.mem_of_getElem? (i := 332) (by decide +kernel)⟩
theorem lw_p15 : lw_okq (⟨"TrickleMesh", "hearTheAir", "()V"⟩, 11) := ⟨⟨by decide +kernel, by decide +kernel⟩, List.mem_of_getElem? (i := 11) (by decide +kernel), List.mem_of_getElem? (i := 338) (by decide +kernel), List.mem_of_getElem? (i := 339) (by decide +kernel)⟩
def lw_privs_1 : List (MethodName × Nat) := [(⟨"TrickleMesh", "resetTimer", "(LTrickleMesh$Node;)V"⟩, 11), (⟨"TrickleMesh", "beginInterval", "(LTrickleMesh$Timer;I)V"⟩, 11), (⟨"TrickleMesh", "draw", "(I)I"⟩, 11), (⟨"TrickleMesh", "sendOn", "(LTrickleMesh$Node;IIIIZ)V"⟩, 11), (⟨"TrickleMesh", "enqueue", "(LTrickleMesh$Node;II)LTrickleMesh$Frame;"⟩, 11), (⟨"TrickleMesh", "rememberTheAir", "()V"⟩, 11), (⟨"TrickleMesh", "goOnTheAir", "()V"⟩, 11), (⟨"TrickleMesh", "seemsBusy", "(LTrickleMesh$Node;)Z"⟩, 11), (⟨"TrickleMesh", "failFirst", "(LTrickleMesh$Node;)V"⟩, 11), (⟨"TrickleMesh", "removeFirst", "(LTrickleMesh$Radio;)V"⟩, 11), (⟨"TrickleMesh", "choose", "(LTrickleMesh$Node;)V"⟩, 11), (⟨"TrickleMesh", "bestParent", "(LTrickleMesh$Node;)I"⟩, 11), (⟨"TrickleMesh", "isBetter", "(LTrickleMesh$Node;II)Z"⟩, 11), (⟨"TrickleMesh", "rankBelow", "(LTrickleMesh$Node;I)I"⟩, 11), (⟨"TrickleMesh", "announce", "(LTrickleMesh$Node;IIZ)V"⟩, 11), (⟨"TrickleMesh", "hearTheAir", "()V"⟩, 11)]
theorem lw_r1 : ∀ q ∈ lw_privs_1, lw_okq q := List.forall_mem_cons.mpr ⟨lw_p0, List.forall_mem_cons.mpr ⟨lw_p1, List.forall_mem_cons.mpr ⟨lw_p2, List.forall_mem_cons.mpr ⟨lw_p3, List.forall_mem_cons.mpr ⟨lw_p4, List.forall_mem_cons.mpr ⟨lw_p5, List.forall_mem_cons.mpr ⟨lw_p6, List.forall_mem_cons.mpr ⟨lw_p7, List.forall_mem_cons.mpr ⟨lw_p8, List.forall_mem_cons.mpr ⟨lw_p9, List.forall_mem_cons.mpr ⟨lw_p10, List.forall_mem_cons.mpr ⟨lw_p11, List.forall_mem_cons.mpr ⟨lw_p12, List.forall_mem_cons.mpr ⟨lw_p13, List.forall_mem_cons.mpr ⟨lw_p14, List.forall_mem_cons.mpr ⟨lw_p15, fun _ h => absurd h List.not_mem_nil⟩⟩⟩⟩⟩⟩⟩⟩⟩⟩⟩⟩⟩⟩⟩⟩
theorem lw_p16 : lw_okq (⟨"TrickleMesh", "onlySpeaker", "(I)I"⟩, 11) := ⟨⟨by decide +kernel, by decide +kernel⟩, List.mem_of_getElem? (i := 11) (by decide +kernel), List.mem_of_getElem? (i := 342) (by decide +kernel), List.mem_of_getElem? (i := 343) (by decide +kernel)⟩
theorem lw_p17 : lw_okq (⟨"TrickleMesh", "takeWhatWasHeard", "()V"⟩, 11) := ⟨⟨by decide +kernel, by decide +kernel⟩, List.mem_of_getElem? (i := 11) (by decide +kernel), List.mem_of_getElem? (i := 346) (by decide +kernel), List.mem_of_getElem? (i := 347) (by decide +kernel)⟩
theorem lw_p18 : lw_okq (⟨"TrickleMesh", "takeAck", "(LTrickleMesh$Node;LTrickleMesh$Node;)V"⟩, 11) := ⟨⟨by decide +kernel, by decide +kernel⟩, List.mem_of_getElem? (i := 11) (by decide +kernel), List.mem_of_getElem? (i := 350) (by decide +kernel), List.mem_of_getElem? (i := 351) (by decide +kernel)⟩
theorem lw_p19 : lw_okq (⟨"TrickleMesh", "takeSolicit", "(LTrickleMesh$Node;)V"⟩, 11) := ⟨⟨by decide +kernel, by decide +kernel⟩, List.mem_of_getElem? (i := 11) (by decide +kernel), List.mem_of_getElem? (i := 354) (by decide +kernel), List.mem_of_getElem? (i := 355) (by decide +kernel)⟩
theorem lw_p20 : lw_okq (⟨"TrickleMesh", "takeAdvert", "(LTrickleMesh$Node;LTrickleMesh$Node;)V"⟩, 11) := ⟨⟨by decide +kernel, by decide +kernel⟩, List.mem_of_getElem? (i := 11) (by decide +kernel), List.mem_of_getElem? (i := 358) (by decide +kernel), List.mem_of_getElem? (i := 359) (by decide +kernel)⟩
theorem lw_p21 : lw_okq (⟨"TrickleMesh", "takeVersion", "(LTrickleMesh$Node;I)V"⟩, 11) := ⟨⟨by decide +kernel, by decide +kernel⟩, List.mem_of_getElem? (i := 11) (by decide +kernel), List.mem_of_getElem? (i := 362) (by decide +kernel), List.mem_of_getElem? (i := 363) (by decide +kernel)⟩
theorem lw_p22 : lw_okq (⟨"TrickleMesh", "takeOwn", "(LTrickleMesh$Node;LTrickleMesh$Node;LTrickleMesh$Frame;)V"⟩, 11) := ⟨⟨by decide +kernel, by decide +kernel⟩, List.mem_of_getElem? (i := 11) (by decide +kernel), List.mem_of_getElem? (i := 367) (by decide +kernel), List.mem_of_getElem? (i := 368) (by decide +kernel)⟩
theorem lw_p23 : lw_okq (⟨"TrickleMesh", "receiveAnnounce", "(LTrickleMesh$Node;ILTrickleMesh$Frame;)V"⟩, 11) := ⟨⟨by decide +kernel, by decide +kernel⟩, List.mem_of_getElem? (i := 11) (by decide +kernel), List.mem_of_getElem? (i := 371) (by decide +kernel), List.mem_of_getElem? (i := 372) (by decide +kernel)⟩
theorem lw_p24 : lw_okq (⟨"TrickleMesh", "receiveValue", "(LTrickleMesh$Node;ILTrickleMesh$Frame;)V"⟩, 11) := ⟨⟨by decide +kernel, by decide +kernel⟩, List.mem_of_getElem? (i := 11) (by decide +kernel), List.mem_of_getElem? (i := 378) (by decide +kernel), List.mem_of_getElem? (i := 379) (by decide +kernel)⟩
theorem lw_p25 : lw_okq (⟨"TrickleMesh", "deliver", "(LTrickleMesh$Node;LTrickleMesh$Frame;)V"⟩, 11) := ⟨⟨by decide +kernel, by decide +kernel⟩, List.mem_of_getElem? (i := 11) (by decide +kernel), List.mem_of_getElem? (i := 382) (by decide +kernel), List.mem_of_getElem? (i := 383) (by decide +kernel)⟩
theorem lw_p26 : lw_okq (⟨"TrickleMesh", "settleWhatWasOnTheAir", "()V"⟩, 11) := ⟨⟨by decide +kernel, by decide +kernel⟩, List.mem_of_getElem? (i := 11) (by decide +kernel), List.mem_of_getElem? (i := 386) (by decide +kernel), List.mem_of_getElem? (i := 387) (by decide +kernel)⟩
theorem lw_p27 : lw_okq (⟨"TrickleMesh", "settleWhatWasListenedFor", "()V"⟩, 11) := ⟨⟨by decide +kernel, by decide +kernel⟩, List.mem_of_getElem? (i := 11) (by decide +kernel), List.mem_of_getElem? (i := 390) (by decide +kernel), List.mem_of_getElem? (i := 391) (by decide +kernel)⟩
theorem lw_p28 : lw_okq (⟨"TrickleMesh", "runTimers", "()V"⟩, 11) := ⟨⟨by decide +kernel, by decide +kernel⟩, List.mem_of_getElem? (i := 11) (by decide +kernel), List.mem_of_getElem? (i := 394) (by decide +kernel), List.mem_of_getElem? (i := 395) (by decide +kernel)⟩
theorem lw_p29 : lw_okq (⟨"TrickleMesh", "runTimer", "(LTrickleMesh$Node;)V"⟩, 11) := ⟨⟨by decide +kernel, by decide +kernel⟩, List.mem_of_getElem? (i := 11) (by decide +kernel), List.mem_of_getElem? (i := 398) (by decide +kernel), List.mem_of_getElem? (i := 399) (by decide +kernel)⟩
theorem lw_p30 : lw_okq (⟨"TrickleMesh", "enqueueOnce", "(LTrickleMesh$Node;I)V"⟩, 11) := ⟨⟨by decide +kernel, by decide +kernel⟩, List.mem_of_getElem? (i := 11) (by decide +kernel), List.mem_of_getElem? (i := 402) (by decide +kernel), List.mem_of_getElem? (i := 403) (by decide +kernel)⟩
theorem lw_p31 : lw_okq (⟨"TrickleMeshModel", "reset", "(I)V"⟩, 52) := ⟨⟨by decide +kernel, by decide +kernel⟩, List.mem_of_getElem? (i := 432) (by decide +kernel), List.mem_of_getElem? (i := 438) (by decide +kernel), List.mem_of_getElem? (i := 439) (by decide +kernel)⟩
def lw_privs_2 : List (MethodName × Nat) := [(⟨"TrickleMesh", "onlySpeaker", "(I)I"⟩, 11), (⟨"TrickleMesh", "takeWhatWasHeard", "()V"⟩, 11), (⟨"TrickleMesh", "takeAck", "(LTrickleMesh$Node;LTrickleMesh$Node;)V"⟩, 11), (⟨"TrickleMesh", "takeSolicit", "(LTrickleMesh$Node;)V"⟩, 11), (⟨"TrickleMesh", "takeAdvert", "(LTrickleMesh$Node;LTrickleMesh$Node;)V"⟩, 11), (⟨"TrickleMesh", "takeVersion", "(LTrickleMesh$Node;I)V"⟩, 11), (⟨"TrickleMesh", "takeOwn", "(LTrickleMesh$Node;LTrickleMesh$Node;LTrickleMesh$Frame;)V"⟩, 11), (⟨"TrickleMesh", "receiveAnnounce", "(LTrickleMesh$Node;ILTrickleMesh$Frame;)V"⟩, 11), (⟨"TrickleMesh", "receiveValue", "(LTrickleMesh$Node;ILTrickleMesh$Frame;)V"⟩, 11), (⟨"TrickleMesh", "deliver", "(LTrickleMesh$Node;LTrickleMesh$Frame;)V"⟩, 11), (⟨"TrickleMesh", "settleWhatWasOnTheAir", "()V"⟩, 11), (⟨"TrickleMesh", "settleWhatWasListenedFor", "()V"⟩, 11), (⟨"TrickleMesh", "runTimers", "()V"⟩, 11), (⟨"TrickleMesh", "runTimer", "(LTrickleMesh$Node;)V"⟩, 11), (⟨"TrickleMesh", "enqueueOnce", "(LTrickleMesh$Node;I)V"⟩, 11), (⟨"TrickleMeshModel", "reset", "(I)V"⟩, 52)]
theorem lw_r2 : ∀ q ∈ lw_privs_2, lw_okq q := List.forall_mem_cons.mpr ⟨lw_p16, List.forall_mem_cons.mpr ⟨lw_p17, List.forall_mem_cons.mpr ⟨lw_p18, List.forall_mem_cons.mpr ⟨lw_p19, List.forall_mem_cons.mpr ⟨lw_p20, List.forall_mem_cons.mpr ⟨lw_p21, List.forall_mem_cons.mpr ⟨lw_p22, List.forall_mem_cons.mpr ⟨lw_p23, List.forall_mem_cons.mpr ⟨lw_p24, List.forall_mem_cons.mpr ⟨lw_p25, List.forall_mem_cons.mpr ⟨lw_p26, List.forall_mem_cons.mpr ⟨lw_p27, List.forall_mem_cons.mpr ⟨lw_p28, List.forall_mem_cons.mpr ⟨lw_p29, List.forall_mem_cons.mpr ⟨lw_p30, List.forall_mem_cons.mpr ⟨lw_p31, fun _ h => absurd h List.not_mem_nil⟩⟩⟩⟩⟩⟩⟩⟩⟩⟩⟩⟩⟩⟩⟩⟩
theorem lw_p32 : lw_okq (⟨"TrickleMeshModel", "begin", "(I)V"⟩, 52) := ⟨⟨by decide +kernel, by decide +kernel⟩, List.mem_of_getElem? (i := 432) (by decide +kernel), List.mem_of_getElem? (i := 442) (by decide +kernel), List.mem_of_getElem? (i := 443) (by decide +kernel)⟩
theorem lw_p33 : lw_okq (⟨"TrickleMeshModel", "draw", "(I)I"⟩, 52) := ⟨⟨by decide +kernel, by decide +kernel⟩, List.mem_of_getElem? (i := 432) (by decide +kernel), List.mem_of_getElem? (i := 446) (by decide +kernel), List.mem_of_getElem? (i := 447) (by decide +kernel)⟩
theorem lw_p34 : lw_okq (⟨"TrickleMeshModel", "sendOn", "(IIIIIZ)V"⟩, 52) := ⟨⟨by decide +kernel, by decide +kernel⟩, List.mem_of_getElem? (i := 432) (by decide +kernel), List.mem_of_getElem? (i := 628) (by decide +kernel), List.mem_of_getElem? (i := 629) (by decide +kernel)⟩
theorem lw_p35 : lw_okq (⟨"TrickleMeshModel", "makeFrame", "(II)I"⟩, 52) := ⟨⟨by decide +kernel, by decide +kernel⟩, List.mem_of_getElem? (i := 432) (by decide +kernel), List.mem_of_getElem? (i := 632) (by decide +kernel), List.mem_of_getElem? (i := 633) (by decide +kernel)⟩
theorem lw_p36 : lw_okq (⟨"TrickleMeshModel", "queue", "(II)V"⟩, 52) := ⟨⟨by decide +kernel, by decide +kernel⟩, List.mem_of_getElem? (i := 432) (by decide +kernel), List.mem_of_getElem? (i := 636) (by decide +kernel), List.mem_of_getElem? (i := 637) (by decide +kernel)⟩
theorem lw_p37 : lw_okq (⟨"TrickleMeshModel", "first", "(I)V"⟩, 52) := ⟨⟨by decide +kernel, by decide +kernel⟩, List.mem_of_getElem? (i := 432) (by decide +kernel), List.mem_of_getElem? (i := 640) (by decide +kernel), List.mem_of_getElem? (i := 641) (by decide +kernel)⟩
theorem lw_p38 : lw_okq (⟨"TrickleMeshModel", "slot", "()V"⟩, 52) := ⟨⟨by decide +kernel, by decide +kernel⟩, List.mem_of_getElem? (i := 432) (by decide +kernel), List.mem_of_getElem? (i := 648) (by decide +kernel), List.mem_of_getElem? (i := 649) (by decide +kernel)⟩
theorem lw_p39 : lw_okq (⟨"TrickleMeshModel", "air", "(I)V"⟩, 52) := ⟨⟨by decide +kernel, by decide +kernel⟩, List.mem_of_getElem? (i := 432) (by decide +kernel), List.mem_of_getElem? (i := 652) (by decide +kernel), List.mem_of_getElem? (i := 653) (by decide +kernel)⟩
theorem lw_p40 : lw_okq (⟨"TrickleMeshModel", "nearWasOn", "(I)Z"⟩, 52) := ⟨⟨by decide +kernel, by decide +kernel⟩, List.mem_of_getElem? (i := 432) (by decide +kernel), List.mem_of_getElem? (i := 656) (by decide +kernel), List.mem_of_getElem? (i := 657) (by decide +kernel)⟩
theorem lw_p41 : lw_okq (⟨"TrickleMeshModel", "fails", "(I)V"⟩, 52) := ⟨⟨by decide +kernel, by decide +kernel⟩, List.mem_of_getElem? (i := 432) (by decide +kernel), List.mem_of_getElem? (i := 660) (by decide +kernel), List.mem_of_getElem? (i := 661) (by decide +kernel)⟩
theorem lw_p42 : lw_okq (⟨"TrickleMeshModel", "done", "(I)V"⟩, 52) := ⟨⟨by decide +kernel, by decide +kernel⟩, List.mem_of_getElem? (i := 432) (by decide +kernel), List.mem_of_getElem? (i := 664) (by decide +kernel), List.mem_of_getElem? (i := 665) (by decide +kernel)⟩
theorem lw_p43 : lw_okq (⟨"TrickleMeshModel", "choose", "(I)Z"⟩, 52) := ⟨⟨by decide +kernel, by decide +kernel⟩, List.mem_of_getElem? (i := 432) (by decide +kernel), List.mem_of_getElem? (i := 668) (by decide +kernel), List.mem_of_getElem? (i := 669) (by decide +kernel)⟩
theorem lw_p44 : lw_okq (⟨"TrickleMeshModel", "allGoals", "(I)I"⟩, 52) := ⟨⟨by decide +kernel, by decide +kernel⟩, List.mem_of_getElem? (i := 432) (by decide +kernel), List.mem_of_getElem? (i := 672) (by decide +kernel), List.mem_of_getElem? (i := 673) (by decide +kernel)⟩
theorem lw_p45 : lw_okq (⟨"TrickleMeshModel", "announce", "(IIIZ)V"⟩, 52) := ⟨⟨by decide +kernel, by decide +kernel⟩, List.mem_of_getElem? (i := 432) (by decide +kernel), List.mem_of_getElem? (i := 676) (by decide +kernel), List.mem_of_getElem? (i := 677) (by decide +kernel)⟩
theorem lw_p46 : lw_okq (⟨"TrickleMeshModel", "heardFrom", "(I)I"⟩, 52) := ⟨⟨by decide +kernel, by decide +kernel⟩, List.mem_of_getElem? (i := 432) (by decide +kernel), List.mem_of_getElem? (i := 680) (by decide +kernel), List.mem_of_getElem? (i := 681) (by decide +kernel)⟩
theorem lw_p47 : lw_okq (⟨"TrickleMeshModel", "takes", "(II)V"⟩, 52) := ⟨⟨by decide +kernel, by decide +kernel⟩, List.mem_of_getElem? (i := 432) (by decide +kernel), List.mem_of_getElem? (i := 684) (by decide +kernel), List.mem_of_getElem? (i := 685) (by decide +kernel)⟩
def lw_privs_3 : List (MethodName × Nat) := [(⟨"TrickleMeshModel", "begin", "(I)V"⟩, 52), (⟨"TrickleMeshModel", "draw", "(I)I"⟩, 52), (⟨"TrickleMeshModel", "sendOn", "(IIIIIZ)V"⟩, 52), (⟨"TrickleMeshModel", "makeFrame", "(II)I"⟩, 52), (⟨"TrickleMeshModel", "queue", "(II)V"⟩, 52), (⟨"TrickleMeshModel", "first", "(I)V"⟩, 52), (⟨"TrickleMeshModel", "slot", "()V"⟩, 52), (⟨"TrickleMeshModel", "air", "(I)V"⟩, 52), (⟨"TrickleMeshModel", "nearWasOn", "(I)Z"⟩, 52), (⟨"TrickleMeshModel", "fails", "(I)V"⟩, 52), (⟨"TrickleMeshModel", "done", "(I)V"⟩, 52), (⟨"TrickleMeshModel", "choose", "(I)Z"⟩, 52), (⟨"TrickleMeshModel", "allGoals", "(I)I"⟩, 52), (⟨"TrickleMeshModel", "announce", "(IIIZ)V"⟩, 52), (⟨"TrickleMeshModel", "heardFrom", "(I)I"⟩, 52), (⟨"TrickleMeshModel", "takes", "(II)V"⟩, 52)]
theorem lw_r3 : ∀ q ∈ lw_privs_3, lw_okq q := List.forall_mem_cons.mpr ⟨lw_p32, List.forall_mem_cons.mpr ⟨lw_p33, List.forall_mem_cons.mpr ⟨lw_p34, List.forall_mem_cons.mpr ⟨lw_p35, List.forall_mem_cons.mpr ⟨lw_p36, List.forall_mem_cons.mpr ⟨lw_p37, List.forall_mem_cons.mpr ⟨lw_p38, List.forall_mem_cons.mpr ⟨lw_p39, List.forall_mem_cons.mpr ⟨lw_p40, List.forall_mem_cons.mpr ⟨lw_p41, List.forall_mem_cons.mpr ⟨lw_p42, List.forall_mem_cons.mpr ⟨lw_p43, List.forall_mem_cons.mpr ⟨lw_p44, List.forall_mem_cons.mpr ⟨lw_p45, List.forall_mem_cons.mpr ⟨lw_p46, List.forall_mem_cons.mpr ⟨lw_p47, fun _ h => absurd h List.not_mem_nil⟩⟩⟩⟩⟩⟩⟩⟩⟩⟩⟩⟩⟩⟩⟩⟩
theorem lw_p48 : lw_okq (⟨"TrickleMeshModel", "advert", "(II)V"⟩, 52) := ⟨⟨by decide +kernel, by decide +kernel⟩, List.mem_of_getElem? (i := 432) (by decide +kernel), List.mem_of_getElem? (i := 688) (by decide +kernel), List.mem_of_getElem? (i := 689) (by decide +kernel)⟩
theorem lw_p49 : lw_okq (⟨"TrickleMeshModel", "announced", "(III)V"⟩, 52) := ⟨⟨by decide +kernel, by decide +kernel⟩, List.mem_of_getElem? (i := 432) (by decide +kernel), List.mem_of_getElem? (i := 692) (by decide +kernel), List.mem_of_getElem? (i := 693) (by decide +kernel)⟩
theorem lw_p50 : lw_okq (⟨"TrickleMeshModel", "valued", "(III)V"⟩, 52) := ⟨⟨by decide +kernel, by decide +kernel⟩, List.mem_of_getElem? (i := 432) (by decide +kernel), List.mem_of_getElem? (i := 696) (by decide +kernel), List.mem_of_getElem? (i := 697) (by decide +kernel)⟩
theorem lw_p51 : lw_okq (⟨"TrickleMeshModel", "unheard", "(I)V"⟩, 52) := ⟨⟨by decide +kernel, by decide +kernel⟩, List.mem_of_getElem? (i := 432) (by decide +kernel), List.mem_of_getElem? (i := 700) (by decide +kernel), List.mem_of_getElem? (i := 701) (by decide +kernel)⟩
theorem lw_p52 : lw_okq (⟨"TrickleMeshModel", "later", "(I)V"⟩, 52) := ⟨⟨by decide +kernel, by decide +kernel⟩, List.mem_of_getElem? (i := 432) (by decide +kernel), List.mem_of_getElem? (i := 704) (by decide +kernel), List.mem_of_getElem? (i := 705) (by decide +kernel)⟩
theorem lw_p53 : lw_okq (⟨"TrickleMeshModel", "timer", "(I)V"⟩, 52) := ⟨⟨by decide +kernel, by decide +kernel⟩, List.mem_of_getElem? (i := 432) (by decide +kernel), List.mem_of_getElem? (i := 708) (by decide +kernel), List.mem_of_getElem? (i := 709) (by decide +kernel)⟩
theorem lw_p54 : lw_okq (⟨"TrickleMeshModel", "queues", "(II)Z"⟩, 52) := ⟨⟨by decide +kernel, by decide +kernel⟩, List.mem_of_getElem? (i := 432) (by decide +kernel), List.mem_of_getElem? (i := 712) (by decide +kernel), List.mem_of_getElem? (i := 713) (by decide +kernel)⟩
def lw_privs_4 : List (MethodName × Nat) := [(⟨"TrickleMeshModel", "advert", "(II)V"⟩, 52), (⟨"TrickleMeshModel", "announced", "(III)V"⟩, 52), (⟨"TrickleMeshModel", "valued", "(III)V"⟩, 52), (⟨"TrickleMeshModel", "unheard", "(I)V"⟩, 52), (⟨"TrickleMeshModel", "later", "(I)V"⟩, 52), (⟨"TrickleMeshModel", "timer", "(I)V"⟩, 52), (⟨"TrickleMeshModel", "queues", "(II)Z"⟩, 52)]
theorem lw_r4 : ∀ q ∈ lw_privs_4, lw_okq q := List.forall_mem_cons.mpr ⟨lw_p48, List.forall_mem_cons.mpr ⟨lw_p49, List.forall_mem_cons.mpr ⟨lw_p50, List.forall_mem_cons.mpr ⟨lw_p51, List.forall_mem_cons.mpr ⟨lw_p52, List.forall_mem_cons.mpr ⟨lw_p53, List.forall_mem_cons.mpr ⟨lw_p54, fun _ h => absurd h List.not_mem_nil⟩⟩⟩⟩⟩⟩⟩
def lw_privs : List (MethodName × Nat) := lw_privs_1 ++ (lw_privs_2 ++ (lw_privs_3 ++ (lw_privs_4)))
def lw_tbl : List Cond := k2_sels lw_privs ++ tables_1
theorem lw_privs_ok : ∀ q ∈ lw_privs, lw_okq q := by
  show ∀ q ∈ lw_privs_1 ++ (lw_privs_2 ++ (lw_privs_3 ++ (lw_privs_4))), lw_okq q
  exact List.forall_mem_append.mpr ⟨lw_r1, List.forall_mem_append.mpr ⟨lw_r2, List.forall_mem_append.mpr ⟨lw_r3, lw_r4⟩⟩⟩
end
section
/-! THE CLAIM OUT OF ONE WALK OF THE LAW'S BODY. Your part is whole_start (and what it stands on); all else here is the same for every law, but numbers. -/
def R_law : String := "TrickleMeshLaw"
def lw_P (b : Addr) (xs : List Int32) (args : Array Value) (s : State) : Prop := args = #[.ref b] ∧ s.IntsAt b xs ∧ xs.length ≤ 2563 ∧ (Jvm.Cond.and given_1 narrow_1).before args s = true
def lw_Q (_ : Array Value) (s : State) (o : Outcome) (t : State) : Prop := o = .returned (some (.int 1)) ∧ Framed s o t [] 600000 7302250
def lw_Z (below : List Frame) (a : Array Value) (s : State) : State → Prop := fun t => ∃ o, t.status = .running ∧ Ended t below o ∧ lw_Q a s o t
/-- the law's own end, with 1 on the stack, nothing written that was there before, its room as the claim has it -/
theorem lw_ret {p : Program} {l : Launch} {e : Env} {s : State} {m : MethodId} {below : List Frame} {meth : Method} {c : Code} {b : Nat} (hx : p.tables.exec = Jvm.exec) (hb : c.code = code) (hr : meth.sig.returnType = ret) (hlocks : meth.locks = false) {pc : Nat} {H : Heap} {ls : Array Slot} (hdg : decode code pc = .ok (.ireturn, 1)) : W p l e room_1 s m #[Value.ref b] below meth c H [] 600000 7302250 (lw_Z below #[Value.ref b] s) (F0 m pc ls [.int 1]) := by
  intro T hT X
  obtain ⟨fs, hret, hrun, hended, hW, hframe⟩ := X.leave (v := some (.int 1)) (hlocks := hlocks) (fun h => by rw [hr] at h; cases h)
  have hmeth' : T.vm.method? m = some meth := X.method'
  refine ⟨T.setFrames fs, ?_, .returned (some (.int 1)), hrun, hended, rfl, ⟨_, rfl⟩, hW, hframe⟩
  jvm_step X.here [X.here.top, hx, hb, hdg, hmeth', hr, ret, narrow_b1]
  (try refine ⟨rfl, ?_⟩); (try refine ⟨rfl, ?_⟩)
  first | (intro acts; rw [hret _ acts rfl rfl rfl]) | rw [hret _ _ rfl rfl rfl]
  exact Steps.refl _
/-- what holds at the law's entry: the machine, the code, the tables' words (any of lw_tbl by 'hts w (by decide +kernel)'), the script of L ints xs at the cell b, what the Statement gives of the start (any of its parts by flat_of_before) -/
def lw_At (p : Program) (s : State) (m : MethodId) (meth : Method) (c : Code) (b L : Nat) (xs : Nat → Int32) : Prop :=
  p.tables.exec = Jvm.exec ∧ c.code = code ∧ meth.sig.returnType = ret ∧ c.maxLocals = 4 ∧ s.vm.findClass R_law = some m.cls ∧ (∀ w ∈ lw_tbl, w.before #[Value.ref b] s = true) ∧ va_X b L xs s s.heap ∧ b < s.heap.size ∧ meth.locks = false ∧ (Jvm.Cond.and given_1 narrow_1).before #[Value.ref b] s = true
end
section
/-! A judgement over W: the heap is a function from small addresses to cells (0: the script; a + 1: the cell b + a), the locals are a list. -/
def tv_r (bs b : Nat) : Nat → Nat := fun a => match a with
  | 0 => bs
  | a + 1 => b + a
def tv_v (bs b : Nat) (v : Value) : Value := match v with
  | .int x => .int x
  | .long x => .long x
  | .float x => .float x
  | .double x => .double x
  | .null => .null
  | .ref a => .ref (tv_r bs b a)
  | .retAddr x => .retAddr x
theorem tv_v_cat (bs b : Nat) (v : Value) : (tv_v bs b v).category = v.category := by cases v <;> rfl
theorem tv_v_sum (bs b : Nat) (st : List Value) : ((st.map (tv_v bs b)).map fun v => v.category).sum = (st.map fun v => v.category).sum := by
  induction st with
  | nil => rfl
  | cons v t ih => simp only [List.map_cons, List.sum_cons, tv_v_cat, ih]
/-- a cell: an array (the number of its element type, its contents) or an object (the number of its class, its fields) -/
abbrev tv_C : Type := (Nat × vp_A) ⊕ (Nat × List Value)
def tv_A (bs b : Nat) (a : vp_A) : vp_A := (a.1, match a.2 with
  | .inl f => .inl f
  | .inr (.inl f) => .inr (.inl f)
  | .inr (.inr (.inl f)) => .inr (.inr (.inl f))
  | .inr (.inr (.inr (.inl f))) => .inr (.inr (.inr (.inl f)))
  | .inr (.inr (.inr (.inr f))) => .inr (.inr (.inr (.inr (fun j => (f j).map (tv_r bs b))))))
def tv_E (G : Nat → ClassId) (bs b : Nat) (c : tv_C) : va_E := match c with
  | .inl q => .inl (G q.1, tv_A bs b q.2)
  | .inr q => .inr (q.1, q.2.map (tv_v bs b))
def tv_W (G : Nat → ClassId) (bs b n : Nat) (h : Nat → tv_C) : va_W := (List.range n).map fun a => (b + a, tv_E G bs b (h (a + 1)))
theorem tv_W_at {G : Nat → ClassId} {bs b n a : Nat} {h : Nat → tv_C} (ha : a < n) : (tv_W G bs b n h)[a]? = some (b + a, tv_E G bs b (h (a + 1))) := by
  unfold tv_W
  rw [List.getElem?_map, List.getElem?_range ha]
  rfl
theorem tv_W_len (G : Nat → ClassId) (bs b n : Nat) (h : Nat → tv_C) : (tv_W G bs b n h).length = n := by simp [tv_W]
theorem tv_W_inv {G : Nat → ClassId} {bs b n a : Nat} {h : Nat → tv_C} {q : Nat × va_E} (hq : (tv_W G bs b n h)[a]? = some q) : a < n ∧ q = (b + a, tv_E G bs b (h (a + 1))) := by
  have ha : a < n := by
    have h1 := (List.getElem?_eq_some_iff.mp hq).1
    rw [tv_W_len] at h1
    exact h1
  rw [tv_W_at ha] at hq
  exact ⟨ha, (Option.some.inj hq).symm⟩
theorem tv_W_set {G : Nat → ClassId} {bs b n a : Nat} {h : Nat → tv_C} (ha : a < n) (c : tv_C) : (tv_W G bs b n h).set a (b + a, tv_E G bs b c) = tv_W G bs b n (va_up h (a + 1) c) := by
  apply List.ext_getElem?
  intro i
  by_cases hi : i = a
  · subst hi
    rw [List.getElem?_set_self (by rw [tv_W_len]; exact ha), tv_W_at ha, va_up_self]
  · rw [List.getElem?_set_ne (Ne.symm hi)]
    by_cases hn : i < n
    · rw [tv_W_at hn, tv_W_at hn, va_up_ne _ _ (by omega)]
    · rw [List.getElem?_eq_none (by rw [tv_W_len]; omega), List.getElem?_eq_none (by rw [tv_W_len]; omega)]
theorem tv_W_push (G : Nat → ClassId) (bs b n : Nat) (h : Nat → tv_C) (c : tv_C) : tv_W G bs b n h ++ [(b + n, tv_E G bs b c)] = tv_W G bs b (n + 1) (va_up h (n + 1) c) := by
  apply List.ext_getElem?
  intro i
  by_cases hi : i < n
  · rw [List.getElem?_append_left (by rw [tv_W_len]; exact hi), tv_W_at hi, tv_W_at (Nat.lt_succ_of_lt hi), va_up_ne _ _ (by omega)]
  · by_cases he : i = n
    · subst he
      rw [List.getElem?_append_right (by rw [tv_W_len]; omega), tv_W_len, tv_W_at (Nat.lt_succ_self _), va_up_self, Nat.sub_self]
      rfl
    · rw [List.getElem?_eq_none (by rw [List.length_append, tv_W_len]; simp; omega), List.getElem?_eq_none (by rw [tv_W_len]; omega)]
theorem tv_D (G : Nat → ClassId) (bs b n : Nat) (h : Nat → tv_C) : va_D (fun q => b ≤ q) (tv_W G bs b n h) := by
  refine ⟨fun i j p q hi hj he => ?_, fun k q hk => ?_⟩
  · obtain ⟨_, rfl⟩ := tv_W_inv hi
    obtain ⟨_, rfl⟩ := tv_W_inv hj
    have he : b + i = b + j := he
    omega
  · obtain ⟨_, rfl⟩ := tv_W_inv hk
    exact Nat.le_add_right _ _
/-- the heap H holds the cells h 1 .. h n, no more; the script is h 0 -/
def tv_R (cl : List vw_C) (D : va_G) (G : Nat → ClassId) (bs b n : Nat) (h : Nat → tv_C) (s : State) (H : Heap) : Prop :=
  H.size = b + n ∧ va_P D cl (tv_W G bs b n h) H ∧ ∀ (L : Nat) (xs : Nat → Int32), h 0 = .inl (0, (L, .inl xs)) → va_X bs L xs s H
def tv_ok (v : Value) : Bool := match v with
  | .int _ => true
  | .null => true
  | .ref _ => true
  | _ => false
theorem tv_ok_cat {v : Value} (h : tv_ok v = true) : v.category = 1 := by cases v <;> first | rfl | cases h
def tv_g (bs b : Nat) (ls : List (Option Value)) (i : Nat) : Option (Nat × Value) := match ls[i]? with
  | some (some v) => if tv_ok v = true then some (i, tv_v bs b v) else none
  | _ => none
def tv_ps (bs b : Nat) (ls : List (Option Value)) : List (Nat × Value) := (List.range ls.length).filterMap (tv_g bs b ls)
theorem tv_g_some {bs b i : Nat} {ls : List (Option Value)} {q : Nat × Value} (h : tv_g bs b ls i = some q) : ∃ v, ls[i]? = some (some v) ∧ tv_ok v = true ∧ q = (i, tv_v bs b v) := by
  unfold tv_g at h
  cases hc : ls[i]? with
  | none => rw [hc] at h; cases h
  | some o =>
    rw [hc] at h
    cases o with
    | none => cases h
    | some v =>
      by_cases ho : tv_ok v = true
      · simp only [ho, if_true] at h
        exact ⟨v, rfl, ho, (Option.some.inj h).symm⟩
      · simp only [ho] at h
        cases h
theorem tv_ps_mem {bs b i : Nat} {ls : List (Option Value)} {v : Value} (h : ls[i]? = some (some v)) (ho : tv_ok v = true) : (i, tv_v bs b v) ∈ tv_ps bs b ls := by
  refine List.mem_filterMap.mpr ⟨i, List.mem_range.mpr (List.getElem?_eq_some_iff.mp h).1, ?_⟩
  unfold tv_g
  rw [h]
  simp only [ho, if_true]
theorem tv_ps_inv {bs b : Nat} {ls : List (Option Value)} {q : Nat × Value} (h : q ∈ tv_ps bs b ls) : ∃ v, ls[q.1]? = some (some v) ∧ tv_ok v = true ∧ q.2 = tv_v bs b v := by
  obtain ⟨i, _, hi⟩ := List.mem_filterMap.mp h
  obtain ⟨v, h1, h2, rfl⟩ := tv_g_some hi
  exact ⟨v, h1, h2, rfl⟩
theorem tv_at {real : Array Slot} {N bs b i : Nat} {ls : List (Option Value)} {v : Value} (hl : lv_has real N (tv_ps bs b ls)) (h : ls[i]? = some (some v)) (ho : tv_ok v = true) : real[i]? = some (.val (tv_v bs b v)) := hl.2.2 _ (tv_ps_mem h ho)
/-- a store into a local -/
theorem tv_set {real : Array Slot} {N bs b i : Nat} {ls : List (Option Value)} {v : Value} (hl : lv_has real N ((i, tv_v bs b v) :: (tv_ps bs b ls).filter (fun q => !(q.1 == i) && !(q.1 + 1 == i && q.2.category == 2)))) : lv_has real N (tv_ps bs b (ls.set i (some v))) := by
  refine ⟨hl.1, hl.2.1, fun q hq => ?_⟩
  obtain ⟨w, h1, h2, h3⟩ := tv_ps_inv hq
  obtain ⟨j, u⟩ := q
  dsimp only at h1 h3 ⊢
  subst h3
  by_cases hj : j = i
  · subst hj
    have hlt : j < (ls.set j (some v)).length := (List.getElem?_eq_some_iff.mp h1).1
    rw [List.length_set] at hlt
    rw [List.getElem?_set_self hlt] at h1
    have hw : v = w := Option.some.inj (Option.some.inj h1)
    subst hw
    exact hl.2.2 _ List.mem_cons_self
  · rw [List.getElem?_set_ne (Ne.symm hj)] at h1
    refine hl.2.2 (j, tv_v bs b w) (List.mem_cons_of_mem _ (List.mem_filter.mpr ⟨tv_ps_mem h1 h2, ?_⟩))
    have hc : ((tv_v bs b w).category == 2) = false := by rw [tv_v_cat, tv_ok_cat h2]; rfl
    simp only [hc, Bool.and_false, Bool.not_false, Bool.and_true, Bool.not_eq_true', beq_eq_false_iff_ne, ne_eq]
    exact hj
/-- one activation of a method: the machine, the wanted end, the tables -/
abbrev tv_X : Type := (Program × Launch × Env × Room × State × MethodId × Array Value × List Frame × Method × Code) × (State → Prop) × (List vw_C × List FieldType × va_G × (Nat → ClassId) × Nat × Nat)
def tv_T (G : Nat → ClassId) (tys : List FieldType) : List (ClassId × FieldType) := (List.range tys.length).map fun t => (G t, tys.getD t .int)
theorem tv_T_at {G : Nat → ClassId} {tys : List FieldType} {t : Nat} {ty : FieldType} (h : tys[t]? = some ty) : (tv_T G tys)[t]? = some (G t, ty) := by
  have hlt : t < tys.length := (List.getElem?_eq_some_iff.mp h).1
  unfold tv_T
  rw [List.getElem?_map, List.getElem?_range hlt]
  simp [h]
/-- what a row takes of the activation: the code, the words Ts, the words of nest mates Ns, the room -/
def tv_K (X : tv_X) (cc : ByteArray) (nL : Nat) (own : String) (Ts Ns : List Cond) (CL : List vw_C) (TY : List FieldType) (rm : Room) : Prop := match X with
  | ((p, l, e, R, s, m, args, below, meth, c), Q, (cl, tys, D, G, bs, b)) =>
    p.tables.exec = Jvm.exec ∧ c.code = cc ∧ c.maxLocals = nL ∧ s.vm.findClass own = some m.cls ∧ (∀ w ∈ Ts, w.before args s = true) ∧ (∀ w ∈ Ns, va_Nw w s) ∧ va_K D cl (tv_T G tys) s ∧ meth.locks = false ∧ bs < b ∧ b ≤ s.heap.size ∧ R = rm ∧ cl = CL ∧ tys = TY
def V (X : tv_X) (cells slots n : Nat) (h : Nat → tv_C) (pc : Nat) (ls : List (Option Value)) (st : List Value) : Prop := match X with
  | ((p, l, e, R, s, m, args, below, meth, c), Q, (cl, tys, D, G, bs, b)) =>
    ∀ (H : Heap) (locs : List Loc) (real : Array Slot), tv_R cl D G bs b n h s H → va_S (fun q => b ≤ q) s.heap H locs → lv_has real ls.length (tv_ps bs b ls) → W p l e R s m args below meth c H locs cells slots Q (F0 m pc real (st.map (tv_v bs b)))
end
section
/-! straight stretches: constants, locals, stack and arithmetic in one step -/
def tv_li (ls : List (Option Value)) (k : Nat) : Option Int32 := match ls[k]? with
  | some (some (.int x)) => some x
  | _ => none
theorem tv_li_at {ls : List (Option Value)} {k : Nat} {x : Int32} (h : tv_li ls k = some x) : ls[k]? = some (some (.int x)) := by
  unfold tv_li at h
  split at h
  · rename_i y hy
    rw [hy, Option.some.inj h]
  · cases h
def tv_la (ls : List (Option Value)) (k : Nat) : Option Value := match ls[k]? with
  | some (some (.ref a)) => some (.ref a)
  | some (some .null) => some .null
  | _ => none
theorem tv_la_at {ls : List (Option Value)} {k : Nat} {v : Value} (h : tv_la ls k = some v) : ls[k]? = some (some v) ∧ (v = .null ∨ ∃ a, v = .ref a) := by
  unfold tv_la at h
  split at h
  · rename_i a ha
    obtain rfl := Option.some.inj h
    exact ⟨ha, Or.inr ⟨a, rfl⟩⟩
  · rename_i ha
    obtain rfl := Option.some.inj h
    exact ⟨ha, Or.inl rfl⟩
  · cases h
def tv_st (ls : List (Option Value)) (k : Nat) (v : Value) : Option (List (Option Value)) := if k < ls.length then some (ls.set k (some v)) else none
theorem tv_st_at {ls ls' : List (Option Value)} {k : Nat} {v : Value} (h : tv_st ls k v = some ls') : k < ls.length ∧ ls' = ls.set k (some v) := by
  unfold tv_st at h
  split at h
  · rename_i hk
    exact ⟨hk, (Option.some.inj h).symm⟩
  · cases h
/-- one instruction: its length, the locals and the stack behind it -/
def tv_s1 (i : Instr) (ls : List (Option Value)) (st : List Value) : Option (Nat × List (Option Value) × List Value) := match i, st with
  | .iconst k, st => some (1, ls, .int (Int32.ofInt k) :: st)
  | .bipush k, st => some (2, ls, .int (Int8.ofInt k).toInt32 :: st)
  | .sipush k, st => some (3, ls, .int (Int16.ofInt k).toInt32 :: st)
  | .aconst_null, st => some (1, ls, .null :: st)
  | .iload_n k, st => (tv_li ls (k : Nat)).map fun x => (1, ls, .int x :: st)
  | .iload k, st => (tv_li ls k).map fun x => (2, ls, .int x :: st)
  | .aload_n k, st => (tv_la ls (k : Nat)).map fun v => (1, ls, v :: st)
  | .aload k, st => (tv_la ls k).map fun v => (2, ls, v :: st)
  | .istore_n k, .int x :: st => (tv_st ls (k : Nat) (.int x)).map fun ls' => (1, ls', st)
  | .istore k, .int x :: st => (tv_st ls k (.int x)).map fun ls' => (2, ls', st)
  | .astore_n k, .ref x :: st => (tv_st ls (k : Nat) (.ref x)).map fun ls' => (1, ls', st)
  | .astore k, .ref x :: st => (tv_st ls k (.ref x)).map fun ls' => (2, ls', st)
  | .astore_n k, .null :: st => (tv_st ls (k : Nat) .null).map fun ls' => (1, ls', st)
  | .astore k, .null :: st => (tv_st ls k .null).map fun ls' => (2, ls', st)
  | .iinc k d, st => (tv_li ls k).map fun x => (3, ls.set k (some (.int (x + Int32.ofInt d))), st)
  | .iadd, .int y :: .int x :: st => some (1, ls, .int (x + y) :: st)
  | .isub, .int y :: .int x :: st => some (1, ls, .int (x - y) :: st)
  | .imul, .int y :: .int x :: st => some (1, ls, .int (x * y) :: st)
  | .iand, .int y :: .int x :: st => some (1, ls, .int (x &&& y) :: st)
  | .ior, .int y :: .int x :: st => some (1, ls, .int (x ||| y) :: st)
  | .ixor, .int y :: .int x :: st => some (1, ls, .int (x ^^^ y) :: st)
  | .ishl, .int y :: .int x :: st => some (1, ls, .int (x <<< (y &&& 31)) :: st)
  | .ishr, .int y :: .int x :: st => some (1, ls, .int (x >>> (y &&& 31)) :: st)
  | .iushr, .int y :: .int x :: st => some (1, ls, .int (x.toUInt32 >>> (y.toUInt32 &&& Int32.toUInt32 31)).toInt32 :: st)
  | .ineg, .int x :: st => some (1, ls, .int (-x) :: st)
  | .dup, v :: st => if tv_ok v = true then some (1, ls, v :: v :: st) else none
  | .pop, v :: st => if tv_ok v = true then some (1, ls, st) else none
  | .dup_x1, v :: w :: st => if tv_ok v = true ∧ tv_ok w = true then some (1, ls, v :: w :: v :: st) else none
  | .dup_x2, v :: w :: u :: st => if tv_ok v = true ∧ tv_ok w = true ∧ tv_ok u = true then some (1, ls, v :: w :: u :: v :: st) else none
  | .dup2, v :: w :: st => if tv_ok v = true ∧ tv_ok w = true then some (1, ls, v :: w :: v :: w :: st) else none
  | _, _ => none
def tv_dec (cc : ByteArray) (pc : Nat) (is : List (Instr × Nat)) : Prop := match is with
  | [] => True
  | i :: t => decode cc pc = .ok i ∧ tv_dec cc (pc + i.2) t
def tv_run (is : List (Instr × Nat)) (pc : Nat) (ls : List (Option Value)) (st : List Value) : Option (Nat × List (Option Value) × List Value) := match is with
  | [] => some (pc, ls, st)
  | i :: t => match tv_s1 i.1 ls st with
    | none => none
    | some r => if r.1 = i.2 then tv_run t (pc + i.2) r.2.1 r.2.2 else none
theorem tv_cat1 {v : Value} (bs b : Nat) (h : tv_ok v = true) : (tv_v bs b v).category = 1 := by rw [tv_v_cat]; exact tv_ok_cat h
section TVB
variable {X : tv_X} {cells slots n : Nat} {h : Nat → tv_C} {pc : Nat} {ls ls' : List (Option Value)} {st st' : List Value} {cc : ByteArray} {nL : Nat} {own : String} {Ts Ns : List Cond} {CL : List vw_C} {TY : List FieldType} {rm : Room}
theorem tv_len {real : Array Slot} {k : Nat} {v : Option Value} {l : List (Nat × Value)} (hl : lv_has real ls.length l) : lv_has real (ls.set k v).length l := by rw [List.length_set]; exact hl
set_option maxHeartbeats 4000000 in
theorem V.one (hC : tv_K X cc nL own Ts Ns CL TY rm) {i : Instr} {len : Nat} (hd : decode cc pc = .ok (i, len)) (hs : tv_s1 i ls st = some (len, ls', st')) (k : V X cells slots n h (pc + len) ls' st') : V X cells slots n h pc ls st := by
  obtain ⟨⟨p, l, e, R, s, m, args, below, meth, c⟩, Q, ⟨cl, tys, D, G, bs, b⟩⟩ := X
  obtain ⟨hx, hb, -⟩ := hC
  intro H locs real hR hS hl
  unfold tv_s1 at hs
  split at hs
  · cases hs; exact lv_iconst hx hb hd rfl (k H locs real hR hS hl)
  · cases hs; exact lv_bipush hx hb hd rfl (k H locs real hR hS hl)
  · cases hs; exact lv_sipush hx hb hd rfl (k H locs real hR hS hl)
  · cases hs; exact lv_null hx hb hd (k H locs real hR hS hl)
  · obtain ⟨x, h1, h2⟩ := Option.map_eq_some_iff.mp hs
    cases h2
    exact lv_iload_n hx hb hd rfl (tv_at hl (tv_li_at h1) rfl) (k H locs real hR hS hl)
  · obtain ⟨x, h1, h2⟩ := Option.map_eq_some_iff.mp hs
    cases h2
    exact lv_iload hx hb hd (tv_at hl (tv_li_at h1) rfl) (k H locs real hR hS hl)
  · obtain ⟨v, h1, h2⟩ := Option.map_eq_some_iff.mp hs
    cases h2
    obtain ⟨h3, rfl | ⟨a, rfl⟩⟩ := tv_la_at h1
    · exact lv_aload_nN hx hb hd rfl (tv_at hl h3 rfl) (k H locs real hR hS hl)
    · exact lv_aload_n hx hb hd rfl (tv_at hl h3 rfl) (k H locs real hR hS hl)
  · obtain ⟨v, h1, h2⟩ := Option.map_eq_some_iff.mp hs
    cases h2
    obtain ⟨h3, rfl | ⟨a, rfl⟩⟩ := tv_la_at h1
    · exact lv_aloadN hx hb hd (tv_at hl h3 rfl) (k H locs real hR hS hl)
    · exact lv_aload hx hb hd (tv_at hl h3 rfl) (k H locs real hR hS hl)
  · obtain ⟨l2, h1, h2⟩ := Option.map_eq_some_iff.mp hs
    cases h2
    obtain ⟨h3, rfl⟩ := tv_st_at h1
    exact lv_istore_n hx hb hd rfl hl h3 rfl (fun r2 h4 => k H locs r2 hR hS (tv_len (tv_set h4)))
  · obtain ⟨l2, h1, h2⟩ := Option.map_eq_some_iff.mp hs
    cases h2
    obtain ⟨h3, rfl⟩ := tv_st_at h1
    exact lv_istore hx hb hd hl h3 rfl (fun r2 h4 => k H locs r2 hR hS (tv_len (tv_set h4)))
  · obtain ⟨l2, h1, h2⟩ := Option.map_eq_some_iff.mp hs
    cases h2
    obtain ⟨h3, rfl⟩ := tv_st_at h1
    exact lv_astore_n hx hb hd rfl hl h3 rfl (fun r2 h4 => k H locs r2 hR hS (tv_len (tv_set h4)))
  · obtain ⟨l2, h1, h2⟩ := Option.map_eq_some_iff.mp hs
    cases h2
    obtain ⟨h3, rfl⟩ := tv_st_at h1
    exact lv_astore hx hb hd hl h3 rfl (fun r2 h4 => k H locs r2 hR hS (tv_len (tv_set h4)))
  · obtain ⟨l2, h1, h2⟩ := Option.map_eq_some_iff.mp hs
    cases h2
    obtain ⟨h3, rfl⟩ := tv_st_at h1
    exact lv_astore_nN hx hb hd rfl hl h3 rfl (fun r2 h4 => k H locs r2 hR hS (tv_len (tv_set h4)))
  · obtain ⟨l2, h1, h2⟩ := Option.map_eq_some_iff.mp hs
    cases h2
    obtain ⟨h3, rfl⟩ := tv_st_at h1
    exact lv_astoreN hx hb hd hl h3 rfl (fun r2 h4 => k H locs r2 hR hS (tv_len (tv_set h4)))
  · obtain ⟨x, h1, h2⟩ := Option.map_eq_some_iff.mp hs
    cases h2
    obtain ⟨q, hq⟩ := List.getElem?_of_mem (tv_ps_mem (bs := bs) (b := b) (tv_li_at h1) rfl)
    exact lv_iinc hx hb hd hl hq rfl (List.getElem?_eq_some_iff.mp (tv_li_at h1)).1 rfl (fun r2 h4 => k H locs r2 hR hS (tv_len (tv_set h4)))
  · cases hs; exact lv_iadd hx hb hd (k H locs real hR hS hl)
  · cases hs; exact lv_isub hx hb hd (k H locs real hR hS hl)
  · cases hs; exact lv_imul hx hb hd (k H locs real hR hS hl)
  · cases hs; exact lv_iand hx hb hd (k H locs real hR hS hl)
  · cases hs; exact lv_ior hx hb hd (k H locs real hR hS hl)
  · cases hs; exact lv_ixor hx hb hd (k H locs real hR hS hl)
  · cases hs; exact lv_ishl hx hb hd (k H locs real hR hS hl)
  · cases hs; exact lv_ishr hx hb hd (k H locs real hR hS hl)
  · cases hs; exact lv_iushr hx hb hd rfl (k H locs real hR hS hl)
  · cases hs; exact lv_ineg hx hb hd (k H locs real hR hS hl)
  · split at hs
    · rename_i h1; cases hs; exact lv_dup hx hb hd (tv_cat1 bs b h1) (k H locs real hR hS hl)
    · cases hs
  · split at hs
    · rename_i h1; cases hs; exact lv_pop hx hb hd (tv_cat1 bs b h1) (k H locs real hR hS hl)
    · cases hs
  · split at hs
    · rename_i h1; cases hs; exact lv_dup_x1 hx hb hd (tv_cat1 bs b h1.1) (tv_cat1 bs b h1.2) (k H locs real hR hS hl)
    · cases hs
  · split at hs
    · rename_i h1; cases hs; exact lv_dup_x2 hx hb hd (tv_cat1 bs b h1.1) (tv_cat1 bs b h1.2.1) (tv_cat1 bs b h1.2.2) (k H locs real hR hS hl)
    · cases hs
  · split at hs
    · rename_i h1; cases hs; exact lv_dup2_11 hx hb hd (tv_cat1 bs b h1.1) (tv_cat1 bs b h1.2) (k H locs real hR hS hl)
    · cases hs
  · cases hs
theorem V.blk (hC : tv_K X cc nL own Ts Ns CL TY rm) {pc' : Nat} : ∀ (is : List (Instr × Nat)) (pc : Nat) (ls : List (Option Value)) (st : List Value), tv_dec cc pc is → tv_run is pc ls st = some (pc', ls', st') → V X cells slots n h pc' ls' st' → V X cells slots n h pc ls st
  | [], pc, ls, st, _, hr, k => by
    cases hr
    exact k
  | i :: t, pc, ls, st, hd, hr, k => by
    unfold tv_run at hr
    split at hr
    · cases hr
    · rename_i r hs
      split at hr
      · rename_i he
        refine V.one hC (i := i.1) (len := i.2) hd.1 (hs.trans ?_) (V.blk hC t _ _ _ hd.2 hr k)
        rw [← he]
      · cases hr
end TVB
end
section
/-! rows over V: branches -/
section TVC
variable {X : tv_X} {cells slots n : Nat} {h : Nat → tv_C} {pc : Nat} {ls : List (Option Value)} {st : List Value} {cc : ByteArray} {nL : Nat} {own : String} {Ts Ns : List Cond} {CL : List vw_C} {TY : List FieldType} {rm : Room}
theorem V.if_eq (hC : tv_K X cc nL own Ts Ns CL TY rm) {x : Int32} {off : Int} {tgt : Nat} (hd : decode cc pc = .ok (.ifCond .eq off, 3)) (ht : (pc : Int) + off = (tgt : Int)) (kt : x = 0 → V X cells slots n h tgt ls st) (kf : ¬ x = 0 → V X cells slots n h (pc + 3) ls st) : V X cells slots n h pc ls (.int x :: st) := by
  obtain ⟨⟨p, l, e, R, s, m, args, below, meth, c⟩, Q, ⟨cl, tys, D, G, bs, b⟩⟩ := X
  obtain ⟨hx, hb, -⟩ := hC
  intro H locs real hR hS hl
  exact lv_if_eq hx hb hd ht (fun q => kt q H locs real hR hS hl) (fun q => kf q H locs real hR hS hl)
theorem V.icmp_eq (hC : tv_K X cc nL own Ts Ns CL TY rm) {x y : Int32} {off : Int} {tgt : Nat} (hd : decode cc pc = .ok (.if_icmp .eq off, 3)) (ht : (pc : Int) + off = (tgt : Int)) (kt : x = y → V X cells slots n h tgt ls st) (kf : ¬ x = y → V X cells slots n h (pc + 3) ls st) : V X cells slots n h pc ls (.int y :: .int x :: st) := by
  obtain ⟨⟨p, l, e, R, s, m, args, below, meth, c⟩, Q, ⟨cl, tys, D, G, bs, b⟩⟩ := X
  obtain ⟨hx, hb, -⟩ := hC
  intro H locs real hR hS hl
  exact lv_icmp_eq hx hb hd ht (fun q => kt q H locs real hR hS hl) (fun q => kf q H locs real hR hS hl)
theorem V.if_ne (hC : tv_K X cc nL own Ts Ns CL TY rm) {x : Int32} {off : Int} {tgt : Nat} (hd : decode cc pc = .ok (.ifCond .ne off, 3)) (ht : (pc : Int) + off = (tgt : Int)) (kt : ¬ x = 0 → V X cells slots n h tgt ls st) (kf : x = 0 → V X cells slots n h (pc + 3) ls st) : V X cells slots n h pc ls (.int x :: st) := by
  obtain ⟨⟨p, l, e, R, s, m, args, below, meth, c⟩, Q, ⟨cl, tys, D, G, bs, b⟩⟩ := X
  obtain ⟨hx, hb, -⟩ := hC
  intro H locs real hR hS hl
  exact lv_if_ne hx hb hd ht (fun q => kt q H locs real hR hS hl) (fun q => kf q H locs real hR hS hl)
theorem V.icmp_ne (hC : tv_K X cc nL own Ts Ns CL TY rm) {x y : Int32} {off : Int} {tgt : Nat} (hd : decode cc pc = .ok (.if_icmp .ne off, 3)) (ht : (pc : Int) + off = (tgt : Int)) (kt : ¬ x = y → V X cells slots n h tgt ls st) (kf : x = y → V X cells slots n h (pc + 3) ls st) : V X cells slots n h pc ls (.int y :: .int x :: st) := by
  obtain ⟨⟨p, l, e, R, s, m, args, below, meth, c⟩, Q, ⟨cl, tys, D, G, bs, b⟩⟩ := X
  obtain ⟨hx, hb, -⟩ := hC
  intro H locs real hR hS hl
  exact lv_icmp_ne hx hb hd ht (fun q => kt q H locs real hR hS hl) (fun q => kf q H locs real hR hS hl)
theorem V.if_lt (hC : tv_K X cc nL own Ts Ns CL TY rm) {x : Int32} {off : Int} {tgt : Nat} (hd : decode cc pc = .ok (.ifCond .lt off, 3)) (ht : (pc : Int) + off = (tgt : Int)) (kt : x < 0 → V X cells slots n h tgt ls st) (kf : ¬ x < 0 → V X cells slots n h (pc + 3) ls st) : V X cells slots n h pc ls (.int x :: st) := by
  obtain ⟨⟨p, l, e, R, s, m, args, below, meth, c⟩, Q, ⟨cl, tys, D, G, bs, b⟩⟩ := X
  obtain ⟨hx, hb, -⟩ := hC
  intro H locs real hR hS hl
  exact lv_if_lt hx hb hd ht (fun q => kt q H locs real hR hS hl) (fun q => kf q H locs real hR hS hl)
theorem V.icmp_lt (hC : tv_K X cc nL own Ts Ns CL TY rm) {x y : Int32} {off : Int} {tgt : Nat} (hd : decode cc pc = .ok (.if_icmp .lt off, 3)) (ht : (pc : Int) + off = (tgt : Int)) (kt : x < y → V X cells slots n h tgt ls st) (kf : ¬ x < y → V X cells slots n h (pc + 3) ls st) : V X cells slots n h pc ls (.int y :: .int x :: st) := by
  obtain ⟨⟨p, l, e, R, s, m, args, below, meth, c⟩, Q, ⟨cl, tys, D, G, bs, b⟩⟩ := X
  obtain ⟨hx, hb, -⟩ := hC
  intro H locs real hR hS hl
  exact lv_icmp_lt hx hb hd ht (fun q => kt q H locs real hR hS hl) (fun q => kf q H locs real hR hS hl)
theorem V.if_ge (hC : tv_K X cc nL own Ts Ns CL TY rm) {x : Int32} {off : Int} {tgt : Nat} (hd : decode cc pc = .ok (.ifCond .ge off, 3)) (ht : (pc : Int) + off = (tgt : Int)) (kt : 0 ≤ x → V X cells slots n h tgt ls st) (kf : ¬ 0 ≤ x → V X cells slots n h (pc + 3) ls st) : V X cells slots n h pc ls (.int x :: st) := by
  obtain ⟨⟨p, l, e, R, s, m, args, below, meth, c⟩, Q, ⟨cl, tys, D, G, bs, b⟩⟩ := X
  obtain ⟨hx, hb, -⟩ := hC
  intro H locs real hR hS hl
  exact lv_if_ge hx hb hd ht (fun q => kt q H locs real hR hS hl) (fun q => kf q H locs real hR hS hl)
theorem V.icmp_ge (hC : tv_K X cc nL own Ts Ns CL TY rm) {x y : Int32} {off : Int} {tgt : Nat} (hd : decode cc pc = .ok (.if_icmp .ge off, 3)) (ht : (pc : Int) + off = (tgt : Int)) (kt : y ≤ x → V X cells slots n h tgt ls st) (kf : ¬ y ≤ x → V X cells slots n h (pc + 3) ls st) : V X cells slots n h pc ls (.int y :: .int x :: st) := by
  obtain ⟨⟨p, l, e, R, s, m, args, below, meth, c⟩, Q, ⟨cl, tys, D, G, bs, b⟩⟩ := X
  obtain ⟨hx, hb, -⟩ := hC
  intro H locs real hR hS hl
  exact lv_icmp_ge hx hb hd ht (fun q => kt q H locs real hR hS hl) (fun q => kf q H locs real hR hS hl)
theorem V.if_gt (hC : tv_K X cc nL own Ts Ns CL TY rm) {x : Int32} {off : Int} {tgt : Nat} (hd : decode cc pc = .ok (.ifCond .gt off, 3)) (ht : (pc : Int) + off = (tgt : Int)) (kt : 0 < x → V X cells slots n h tgt ls st) (kf : ¬ 0 < x → V X cells slots n h (pc + 3) ls st) : V X cells slots n h pc ls (.int x :: st) := by
  obtain ⟨⟨p, l, e, R, s, m, args, below, meth, c⟩, Q, ⟨cl, tys, D, G, bs, b⟩⟩ := X
  obtain ⟨hx, hb, -⟩ := hC
  intro H locs real hR hS hl
  exact lv_if_gt hx hb hd ht (fun q => kt q H locs real hR hS hl) (fun q => kf q H locs real hR hS hl)
theorem V.icmp_gt (hC : tv_K X cc nL own Ts Ns CL TY rm) {x y : Int32} {off : Int} {tgt : Nat} (hd : decode cc pc = .ok (.if_icmp .gt off, 3)) (ht : (pc : Int) + off = (tgt : Int)) (kt : y < x → V X cells slots n h tgt ls st) (kf : ¬ y < x → V X cells slots n h (pc + 3) ls st) : V X cells slots n h pc ls (.int y :: .int x :: st) := by
  obtain ⟨⟨p, l, e, R, s, m, args, below, meth, c⟩, Q, ⟨cl, tys, D, G, bs, b⟩⟩ := X
  obtain ⟨hx, hb, -⟩ := hC
  intro H locs real hR hS hl
  exact lv_icmp_gt hx hb hd ht (fun q => kt q H locs real hR hS hl) (fun q => kf q H locs real hR hS hl)
theorem V.if_le (hC : tv_K X cc nL own Ts Ns CL TY rm) {x : Int32} {off : Int} {tgt : Nat} (hd : decode cc pc = .ok (.ifCond .le off, 3)) (ht : (pc : Int) + off = (tgt : Int)) (kt : x ≤ 0 → V X cells slots n h tgt ls st) (kf : ¬ x ≤ 0 → V X cells slots n h (pc + 3) ls st) : V X cells slots n h pc ls (.int x :: st) := by
  obtain ⟨⟨p, l, e, R, s, m, args, below, meth, c⟩, Q, ⟨cl, tys, D, G, bs, b⟩⟩ := X
  obtain ⟨hx, hb, -⟩ := hC
  intro H locs real hR hS hl
  exact lv_if_le hx hb hd ht (fun q => kt q H locs real hR hS hl) (fun q => kf q H locs real hR hS hl)
theorem V.icmp_le (hC : tv_K X cc nL own Ts Ns CL TY rm) {x y : Int32} {off : Int} {tgt : Nat} (hd : decode cc pc = .ok (.if_icmp .le off, 3)) (ht : (pc : Int) + off = (tgt : Int)) (kt : x ≤ y → V X cells slots n h tgt ls st) (kf : ¬ x ≤ y → V X cells slots n h (pc + 3) ls st) : V X cells slots n h pc ls (.int y :: .int x :: st) := by
  obtain ⟨⟨p, l, e, R, s, m, args, below, meth, c⟩, Q, ⟨cl, tys, D, G, bs, b⟩⟩ := X
  obtain ⟨hx, hb, -⟩ := hC
  intro H locs real hR hS hl
  exact lv_icmp_le hx hb hd ht (fun q => kt q H locs real hR hS hl) (fun q => kf q H locs real hR hS hl)
theorem V.goto (hC : tv_K X cc nL own Ts Ns CL TY rm) {off : Int} {tgt : Nat} (hd : decode cc pc = .ok (.goto off, 3)) (ht : (pc : Int) + off = (tgt : Int)) (k : V X cells slots n h tgt ls st) : V X cells slots n h pc ls st := by
  obtain ⟨⟨p, l, e, R, s, m, args, below, meth, c⟩, Q, ⟨cl, tys, D, G, bs, b⟩⟩ := X
  obtain ⟨hx, hb, -⟩ := hC
  intro H locs real hR hS hl
  exact lv_goto hx hb hd ht (k H locs real hR hS hl)
theorem V.ifnonnull (hC : tv_K X cc nL own Ts Ns CL TY rm) {x : Nat} {off : Int} {tgt : Nat} (hd : decode cc pc = .ok (.ifnonnull off, 3)) (ht : (pc : Int) + off = (tgt : Int)) (k : V X cells slots n h tgt ls st) : V X cells slots n h pc ls (.ref x :: st) := by
  obtain ⟨⟨p, l, e, R, s, m, args, below, meth, c⟩, Q, ⟨cl, tys, D, G, bs, b⟩⟩ := X
  obtain ⟨hx, hb, -⟩ := hC
  intro H locs real hR hS hl
  exact lv_ifnonnull hx hb hd ht (k H locs real hR hS hl)
theorem V.ifnull (hC : tv_K X cc nL own Ts Ns CL TY rm) {x : Nat} {off : Int} (hd : decode cc pc = .ok (.ifnull off, 3)) (k : V X cells slots n h (pc + 3) ls st) : V X cells slots n h pc ls (.ref x :: st) := by
  obtain ⟨⟨p, l, e, R, s, m, args, below, meth, c⟩, Q, ⟨cl, tys, D, G, bs, b⟩⟩ := X
  obtain ⟨hx, hb, -⟩ := hC
  intro H locs real hR hS hl
  exact lv_ifnull hx hb hd (k H locs real hR hS hl)
theorem V.ifnullN (hC : tv_K X cc nL own Ts Ns CL TY rm) {off : Int} {tgt : Nat} (hd : decode cc pc = .ok (.ifnull off, 3)) (ht : (pc : Int) + off = (tgt : Int)) (k : V X cells slots n h tgt ls st) : V X cells slots n h pc ls (.null :: st) := by
  obtain ⟨⟨p, l, e, R, s, m, args, below, meth, c⟩, Q, ⟨cl, tys, D, G, bs, b⟩⟩ := X
  obtain ⟨hx, hb, -⟩ := hC
  intro H locs real hR hS hl
  exact lv_ifnullN hx hb hd ht (k H locs real hR hS hl)
theorem V.ifnonnullN (hC : tv_K X cc nL own Ts Ns CL TY rm) {off : Int} (hd : decode cc pc = .ok (.ifnonnull off, 3)) (k : V X cells slots n h (pc + 3) ls st) : V X cells slots n h pc ls (.null :: st) := by
  obtain ⟨⟨p, l, e, R, s, m, args, below, meth, c⟩, Q, ⟨cl, tys, D, G, bs, b⟩⟩ := X
  obtain ⟨hx, hb, -⟩ := hC
  intro H locs real hR hS hl
  exact lv_ifnonnullN hx hb hd (k H locs real hR hS hl)
theorem V.lookup (hC : tv_K X cc nL own Ts Ns CL TY rm) {dflt : Int} {ps : Array (Int × Int)} {len : Nat} {x : Int32} {off : Int} {tgt : Nat} (hd : decode cc pc = .ok (.lookupswitch dflt ps, len)) (hp : (ps.toList.zip (ps.toList.drop 1)).all (fun (a, next) => a.1 < next.1) = true) (ho : Op.lookupswitch.offset ps.toList dflt x.toInt = off) (ht : (pc : Int) + off = (tgt : Int)) (k : V X cells slots n h tgt ls st) : V X cells slots n h pc ls (.int x :: st) := by
  obtain ⟨⟨p, l, e, R, s, m, args, below, meth, c⟩, Q, ⟨cl, tys, D, G, bs, b⟩⟩ := X
  obtain ⟨hx, hb, -⟩ := hC
  intro H locs real hR hS hl
  exact lv_lookup hx hb hd hp ho ht (k H locs real hR hS hl)
theorem V.tableOut (hC : tv_K X cc nL own Ts Ns CL TY rm) {dflt lo hi : Int} {offs : Array Int} {len : Nat} {x : Int32} {tgt : Nat} (hd : decode cc pc = .ok (.tableswitch dflt lo hi offs, len)) (hq : x.toInt < lo ∨ hi < x.toInt) (ht : (pc : Int) + dflt = (tgt : Int)) (k : V X cells slots n h tgt ls st) : V X cells slots n h pc ls (.int x :: st) := by
  obtain ⟨⟨p, l, e, R, s, m, args, below, meth, c⟩, Q, ⟨cl, tys, D, G, bs, b⟩⟩ := X
  obtain ⟨hx, hb, -⟩ := hC
  intro H locs real hR hS hl
  exact lv_tableOut hx hb hd hq ht (k H locs real hR hS hl)
theorem V.tableIn (hC : tv_K X cc nL own Ts Ns CL TY rm) {dflt lo hi : Int} {offs : Array Int} {len : Nat} {x : Int32} {off : Int} {tgt : Nat} (hd : decode cc pc = .ok (.tableswitch dflt lo hi offs, len)) (h1 : ¬ x.toInt < lo) (h2 : ¬ hi < x.toInt) (ho : offs[(x.toInt - lo).toNat]? = some off) (ht : (pc : Int) + off = (tgt : Int)) (k : V X cells slots n h tgt ls st) : V X cells slots n h pc ls (.int x :: st) := by
  obtain ⟨⟨p, l, e, R, s, m, args, below, meth, c⟩, Q, ⟨cl, tys, D, G, bs, b⟩⟩ := X
  obtain ⟨hx, hb, -⟩ := hC
  intro H locs real hR hS hl
  exact lv_tableIn hx hb hd h1 h2 ho ht (k H locs real hR hS hl)
theorem V.ldc (hC : tv_K X cc nL own Ts Ns CL TY rm) {index : Nat} {v : Int32} (hw : Cond.constant own index v ∈ Ts) (hd : decode cc pc = .ok (.ldc index, 2)) (k : V X cells slots n h (pc + 2) ls (.int v :: st)) : V X cells slots n h pc ls st := by
  obtain ⟨⟨p, l, e, R, s, m, args, below, meth, c⟩, Q, ⟨cl, tys, D, G, bs, b⟩⟩ := X
  obtain ⟨hx, hb, -, hown, hts, -⟩ := hC
  intro H locs real hR hS hl
  exact lv_ldc hx hb hown (hts _ hw) hd (k H locs real hR hS hl)
theorem V.idiv (hC : tv_K X cc nL own Ts Ns CL TY rm) {x y : Int32} (hd : decode cc pc = .ok (.idiv, 1)) (hne : ¬ y = 0) (k : V X cells slots n h (pc + 1) ls (.int (x / y) :: st)) : V X cells slots n h pc ls (.int y :: .int x :: st) := by
  obtain ⟨⟨p, l, e, R, s, m, args, below, meth, c⟩, Q, ⟨cl, tys, D, G, bs, b⟩⟩ := X
  obtain ⟨hx, hb, -⟩ := hC
  intro H locs real hR hS hl
  exact lv_idiv hx hb hd hne (k H locs real hR hS hl)
theorem V.irem (hC : tv_K X cc nL own Ts Ns CL TY rm) {x y : Int32} (hd : decode cc pc = .ok (.irem, 1)) (hne : ¬ y = 0) (k : V X cells slots n h (pc + 1) ls (.int (x - x / y * y) :: st)) : V X cells slots n h pc ls (.int y :: .int x :: st) := by
  obtain ⟨⟨p, l, e, R, s, m, args, below, meth, c⟩, Q, ⟨cl, tys, D, G, bs, b⟩⟩ := X
  obtain ⟨hx, hb, -⟩ := hC
  intro H locs real hR hS hl
  exact lv_irem hx hb hd hne (k H locs real hR hS hl)
theorem V.mmax (hC : tv_K X cc nL own Ts Ns CL TY rm) (hn : ls.length = nL) {index : Nat} (hw : Cond.methodLink own index Lib.Math.max.name ∈ Ts ∧ Cond.static Lib.Math.max.name ∈ Ts ∧ Cond.initialized "java/lang/Math" ∈ Ts ∧ Cond.code Lib.Math.max.name Lib.Math.max.code 2 (some .int) ∈ Ts) (hr : 1 ≤ rm.frames ∧ (st.map fun v => v.category).sum + 13 ≤ rm.locals ∧ cells ≤ rm.cells ∧ slots ≤ rm.slots) {x y : Int32} (hd : decode cc pc = .ok (.invokestatic index, 3)) (k : V X cells slots n h (pc + 3) ls (.int (if x < y then y else x) :: st)) : V X cells slots n h pc ls (.int y :: .int x :: st) := by
  obtain ⟨⟨p, l, e, R, s, m, args, below, meth, c⟩, Q, ⟨cl, tys, D, G, bs, b⟩⟩ := X
  obtain ⟨hx, hb, hml, hown, hts, -, -, -, -, -, rfl, rfl, rfl⟩ := hC
  intro H locs real hR hS hl
  exact va_mmax hx hb (by rw [hml, ← hn, hl.1]) hown (hts _ hw.1) (hts _ hw.2.1) (hts _ hw.2.2.1) (hts _ hw.2.2.2) hr.1 (by rw [tv_v_sum]; exact hr.2.1) hr.2.2.1 hr.2.2.2 hd (k H locs real hR hS hl)
theorem V.mmin (hC : tv_K X cc nL own Ts Ns CL TY rm) (hn : ls.length = nL) {index : Nat} (hw : Cond.methodLink own index Lib.Math.min.name ∈ Ts ∧ Cond.static Lib.Math.min.name ∈ Ts ∧ Cond.initialized "java/lang/Math" ∈ Ts ∧ Cond.code Lib.Math.min.name Lib.Math.min.code 2 (some .int) ∈ Ts) (hr : 1 ≤ rm.frames ∧ (st.map fun v => v.category).sum + 13 ≤ rm.locals ∧ cells ≤ rm.cells ∧ slots ≤ rm.slots) {x y : Int32} (hd : decode cc pc = .ok (.invokestatic index, 3)) (k : V X cells slots n h (pc + 3) ls (.int (if y < x then y else x) :: st)) : V X cells slots n h pc ls (.int y :: .int x :: st) := by
  obtain ⟨⟨p, l, e, R, s, m, args, below, meth, c⟩, Q, ⟨cl, tys, D, G, bs, b⟩⟩ := X
  obtain ⟨hx, hb, hml, hown, hts, -, -, -, -, -, rfl, rfl, rfl⟩ := hC
  intro H locs real hR hS hl
  exact va_mmin hx hb (by rw [hml, ← hn, hl.1]) hown (hts _ hw.1) (hts _ hw.2.1) (hts _ hw.2.2.1) (hts _ hw.2.2.2) hr.1 (by rw [tv_v_sum]; exact hr.2.1) hr.2.2.1 hr.2.2.2 hd (k H locs real hR hS hl)
end TVC
end
section
/-! rows over V: fields and arrays -/
/-- a field that an instruction names: the place idx of own's pool is slot k of the class ci -/
def tv_F (Ts Ns : List Cond) (CL : List vw_C) (own : String) (idx ci k : Nat) (C : String) (T : u_T) (N : Nat) : Prop :=
  CL[ci]? = some (C, T, N) ∧ k < N ∧ (∀ w ∈ u_ws C T N, w ∈ Ts) ∧ (Cond.fieldLink own idx (T k).1 (T k).2.1 (T k).2.2.1 ∈ Ts ∨ ∃ host, Cond.fieldLinkNest own idx (T k).1 (T k).2.1 (T k).2.2.1 host ∈ Ns)
theorem tv_rf (bs b : Nat) (r : Option Nat) : tv_v bs b (va_rf r) = va_rf (r.map (tv_r bs b)) := by cases r <;> rfl
theorem tv_sc {bs a : Nat} {h : Nat → tv_C} {s : State} {H H1 : Heap} {x : tv_C} (ha : 0 < a) (hs : ∀ (L : Nat) (xs : Nat → Int32), h 0 = .inl (0, (L, .inl xs)) → va_X bs L xs s H) (hk : H1[bs]? = H[bs]?) : ∀ (L : Nat) (xs : Nat → Int32), va_up h a x 0 = .inl (0, (L, .inl xs)) → va_X bs L xs s H1 := by
  intro L xs h0
  rw [va_up_ne _ _ (by omega)] at h0
  exact (hs L xs h0).kept hk
section TVH
variable {X : tv_X} {cells slots n : Nat} {h : Nat → tv_C} {pc : Nat} {ls : List (Option Value)} {st : List Value} {cc : ByteArray} {nL : Nat} {own : String} {Ts Ns : List Cond} {CL : List vw_C} {TY : List FieldType} {rm : Room}
theorem V.getf (hC : tv_K X cc nL own Ts Ns CL TY rm) {idx ci k a : Nat} {C : String} {T : u_T} {N : Nat} {fs : List Value} {v : Value} (hF : tv_F Ts Ns CL own idx ci k C T N) (ha : 0 < a ∧ a ≤ n) (hh : h a = .inr (ci, fs)) (hv : fs[k]? = some v) (hd : decode cc pc = .ok (.getfield idx, 3)) (kk : V X cells slots n h (pc + 3) ls (v :: st)) : V X cells slots n h pc ls (.ref a :: st) := by
  obtain ⟨⟨p, l, e, R, s, m, args, below, meth, c⟩, Q, ⟨cl, tys, D, G, bs, b⟩⟩ := X
  obtain ⟨hx, hb, hml, hown, hts, hns, hK, hlk, hbs, hbz, rfl, rfl, rfl⟩ := hC
  obtain ⟨hc, hk, hin, hlink⟩ := hF
  obtain ⟨a, rfl⟩ : ∃ a', a = a' + 1 := ⟨a - 1, by omega⟩
  intro H locs real hR hS hl
  have he : (tv_W G bs b n h)[a]? = some (b + a, .inr (ci, fs.map (tv_v bs b))) := by rw [tv_W_at (by omega), hh]; rfl
  have hv' : (fs.map (tv_v bs b))[k]? = some (tv_v bs b v) := by rw [List.getElem?_map, hv]; rfl
  rcases hlink with hw | ⟨host, hw⟩
  · exact va_get hx hb hts hin hown hK hR.2.1 a he hc k hk (hts _ hw) (fun _ h9 => h9) hv' hd (kk H locs real hR hS hl)
  · exact va_getN hx hb hts hin hown hK hR.2.1 a he hc k hk (va_Nw.use rfl (hns _ hw)) (fun _ h9 => h9) hv' hd (kk H locs real hR hS hl)
theorem V.putf (hC : tv_K X cc nL own Ts Ns CL TY rm) {idx ci k a : Nat} {C : String} {T : u_T} {N : Nat} {fs : List Value} {v : Value} {ty : FieldType} (hF : tv_F Ts Ns CL own idx ci k C T N) (tyT : Nat → FieldType) (hty : ∀ k, k < N → parseFieldDescriptor (T k).2.2.1 = some (tyT k)) (hnm : ∀ a, a < N → ∀ b, b < N → a ≠ b → (T a).2.1 ≠ (T b).2.1) (hfin : (T k).2.2.2 = false) (hds : parseFieldDescriptor (T k).2.2.1 = some ty) (hfit : ∀ bs b, narrow ty (tv_v bs b v) = tv_v bs b v ∧ fits ty (tv_v bs b v) = true) (ha : 0 < a ∧ a ≤ n) (hh : h a = .inr (ci, fs)) (hlen : k < fs.length) (hd : decode cc pc = .ok (.putfield idx, 3)) (kk : V X cells slots n (va_up h a (.inr (ci, fs.set k v))) (pc + 3) ls st) : V X cells slots n h pc ls (v :: .ref a :: st) := by
  obtain ⟨⟨p, l, e, R, s, m, args, below, meth, c⟩, Q, ⟨cl, tys, D, G, bs, b⟩⟩ := X
  obtain ⟨hx, hb, hml, hown, hts, hns, hK, hlk, hbs, hbz, rfl, rfl, rfl⟩ := hC
  obtain ⟨hc, hk, hin, hlink⟩ := hF
  obtain ⟨a, rfl⟩ : ∃ a', a = a' + 1 := ⟨a - 1, by omega⟩
  intro H locs real hR hS hl
  have he : (tv_W G bs b n h)[a]? = some (b + a, .inr (ci, fs.map (tv_v bs b))) := by rw [tv_W_at (by omega), hh]; rfl
  have hap := va_apart (own := own) hts hin tyT hty hnm hK hc
  obtain ⟨r, h1, cell, q1, q2, q3, q4⟩ := hR.2.1 a _ he
  have hr : r = (C, T, N) := Option.some.inj (h1.symm.trans hc)
  subst hr
  obtain ⟨hSl, hfc, kC, hkC, hkind⟩ := hK.1 ci _ hc
  obtain ⟨cf, kf, fi, f, hi, hsl⟩ := hSl k hk
  have hlay := hts _ (hin _ (u_in_lay hk))
  unfold u_lay at hlay
  rw [if_neg (by rw [hfin]; decide)] at hlay
  have hst := (u_facts hfc hkC (u_lays hts hin hk) hi).1
  have h6 := u_store hfc hkC hkind hlay hi hds (hfit bs b).1 (hfit bs b).2
  have fin : ∀ H1 : Heap, H1[b + a]? = some (cell.setSlot f.slot (tv_v bs b v)) → H1.size = H.size → (∀ q, q ≠ b + a → H1[q]? = H[q]?) → W p l e R s m args below meth c H1 (locs ++ [⟨b + a, f.slot⟩]) cells slots Q (F0 m (pc + 3) real (st.map (tv_v bs b))) := by
    intro H1 e1 e2 e3
    rw [hsl] at e1 ⊢
    refine kk H1 _ real ⟨e2.trans hR.1, ?_, tv_sc (by omega) hR.2.2 (e3 bs (by omega))⟩ (hS.put e2 e3 (Nat.le_add_right _ _)) hl
    have hm : tv_E G bs b (.inr (ci, fs.set k v)) = .inr (ci, (fs.map (tv_v bs b)).set k (tv_v bs b v)) := by
      show (Sum.inr (ci, (fs.set k v).map (tv_v bs b)) : va_E) = _
      rw [List.map_set]
    rw [← tv_W_set (by omega), hm]
    exact hR.2.1.set (tv_D G bs b n h) he ⟨_, hc, t_OB.to (V := updV (vp_V (fs.map (tv_v bs b))) k (tv_v bs b v)) ⟨_, e1, q2, q3, t_set q4 hap hk _⟩ (fun j _ => vp_updV_set (by rw [List.length_map]; exact hlen) _ j)⟩ e3
  rcases hlink with hw | ⟨host, hw⟩
  · exact W.putK hx hb (f := f) ⟨hown, hts _ hw, ⟨_, _, _, hi⟩, hst⟩ (by rw [q2]; exact h6) q1 q3 (by rw [hsl]; exact k2_hasslot (q4 k hk)) rfl rfl hd fin
  · exact va_WputK hx hb (f := f) hown (va_Nw.use rfl (hns _ hw)) hi hst (by rw [q2]; exact h6) q1 q3 (by rw [hsl]; exact k2_hasslot (q4 k hk)) rfl rfl hd fin
def tv_nm (X : tv_X) : String := match X with
  | ((p, l, e, R, s, m, args, below, meth, c), Q, (cl, tys, D, G, bs, b)) => meth.name
/-- a final field, in the constructor of its class -/
theorem V.putF (hC : tv_K X cc nL own Ts Ns CL TY rm) (hinit : tv_nm X = "<init>") {idx ci k a : Nat} {C : String} {T : u_T} {N : Nat} {fs : List Value} {v : Value} {ty : FieldType} (hF : CL[ci]? = some (C, T, N) ∧ k < N ∧ (∀ w ∈ u_ws C T N, w ∈ Ts) ∧ Cond.fieldLink own idx (T k).1 (T k).2.1 (T k).2.2.1 ∈ Ts) (tyT : Nat → FieldType) (hty : ∀ k, k < N → parseFieldDescriptor (T k).2.2.1 = some (tyT k)) (hnm : ∀ a, a < N → ∀ b, b < N → a ≠ b → (T a).2.1 ≠ (T b).2.1) (hfin : (T k).2.2.2 = true) (hdecl : (T k).1 = own) (hds : parseFieldDescriptor (T k).2.2.1 = some ty) (hfit : ∀ bs b, narrow ty (tv_v bs b v) = tv_v bs b v ∧ fits ty (tv_v bs b v) = true) (ha : 0 < a ∧ a ≤ n) (hh : h a = .inr (ci, fs)) (hlen : k < fs.length) (hd : decode cc pc = .ok (.putfield idx, 3)) (kk : V X cells slots n (va_up h a (.inr (ci, fs.set k v))) (pc + 3) ls st) : V X cells slots n h pc ls (v :: .ref a :: st) := by
  obtain ⟨⟨p, l, e, R, s, m, args, below, meth, c⟩, Q, ⟨cl, tys, D, G, bs, b⟩⟩ := X
  obtain ⟨hx, hb, hml, hown, hts, hns, hK, hlk, hbs, hbz, rfl, rfl, rfl⟩ := hC
  obtain ⟨hc, hk, hin, hw⟩ := hF
  obtain ⟨a, rfl⟩ : ∃ a', a = a' + 1 := ⟨a - 1, by omega⟩
  intro H locs real hR hS hl
  have he : (tv_W G bs b n h)[a]? = some (b + a, .inr (ci, fs.map (tv_v bs b))) := by rw [tv_W_at (by omega), hh]; rfl
  have hap := va_apart (own := own) hts hin tyT hty hnm hK hc
  obtain ⟨r, h1, cell, q1, q2, q3, q4⟩ := hR.2.1 a _ he
  have hr : r = (C, T, N) := Option.some.inj (h1.symm.trans hc)
  subst hr
  obtain ⟨hSl, hfc, kC, hkC, hkind⟩ := hK.1 ci _ hc
  obtain ⟨cf, kf, fi, f, hi, hsl⟩ := hSl k hk
  have hlay := hts _ (hin _ (u_in_lay hk))
  unfold u_lay at hlay
  rw [if_pos hfin] at hlay
  have hst := (u_facts hfc hkC (u_lays hts hin hk) hi).1
  have hcf : m.cls = cf := by
    obtain ⟨_, _, c2, _, _, _, -, -, hf2, -, -, -, hown2, -⟩ := Cond.laysFinal_spec hlay
    have e1 : c2 = cf := by have := hi.symm.trans hf2; simp at this; exact this.1.symm
    rw [hdecl] at hown2
    rw [← e1]; exact Option.some.inj (hown.symm.trans hown2)
  have h6 := u_fits hfc hkC hkind (Or.inr hlay) hi hds (hfit bs b).1 (hfit bs b).2
  refine W.putFinK hx hb hown (hts _ hw) hi hst hcf hinit (by rw [q2]; exact h6) q1 q3 (by rw [hsl]; exact k2_hasslot (q4 k hk)) rfl rfl hd fun H1 e1 e2 e3 => ?_
  have e3 : ∀ q : Nat, q ≠ b + a → H1[q]? = H[q]? := e3
  rw [hsl] at e1 ⊢
  refine kk H1 _ real ⟨e2.trans hR.1, ?_, tv_sc (by omega) hR.2.2 (e3 bs (by omega))⟩ (hS.put e2 e3 (Nat.le_add_right _ _)) hl
  have hm : tv_E G bs b (.inr (ci, fs.set k v)) = .inr (ci, (fs.map (tv_v bs b)).set k (tv_v bs b v)) := by
    show (Sum.inr (ci, (fs.set k v).map (tv_v bs b)) : va_E) = _
    rw [List.map_set]
  rw [← tv_W_set (by omega), hm]
  exact hR.2.1.set (tv_D G bs b n h) he ⟨_, hc, t_OB.to (V := updV (vp_V (fs.map (tv_v bs b))) k (tv_v bs b v)) ⟨_, e1, q2, q3, t_set q4 hap hk _⟩ (fun j _ => vp_updV_set (by rw [List.length_map]; exact hlen) _ j)⟩ e3
theorem V.iald (hC : tv_K X cc nL own Ts Ns CL TY rm) {t a len : Nat} {f : Nat → Int32} {i : Int32} (ha : 0 < a ∧ a ≤ n) (hh : h a = .inl (t, (len, .inl f))) (ht : TY[t]? = some .int) (hin : vp_in i len) (hd : decode cc pc = .ok (.iaload, 1)) (kk : V X cells slots n h (pc + 1) ls (.int (f i.toNatClampNeg) :: st)) : V X cells slots n h pc ls (.int i :: .ref a :: st) := by
  obtain ⟨⟨p, l, e, R, s, m, args, below, meth, c⟩, Q, ⟨cl, tys, D, G, bs, b⟩⟩ := X
  obtain ⟨hx, hb, hml, hown, hts, hns, hK, hlk, hbs, hbz, rfl, rfl, rfl⟩ := hC
  obtain ⟨a, rfl⟩ : ∃ a', a = a' + 1 := ⟨a - 1, by omega⟩
  intro H locs real hR hS hl
  have he : (tv_W G bs b n h)[a]? = some (b + a, .inl (G t, (len, .inl f))) := by rw [tv_W_at (by omega), hh]; rfl
  exact va_iald hx hb hK hR.2.1 a t he (tv_T_at ht) hin hd (kk H locs real hR hS hl)
theorem V.zald (hC : tv_K X cc nL own Ts Ns CL TY rm) {t a len : Nat} {f : Nat → Int32} {i : Int32} (ha : 0 < a ∧ a ≤ n) (hh : h a = .inl (t, (len, .inl f))) (ht : TY[t]? = some .boolean) (hin : vp_in i len) (hd : decode cc pc = .ok (.baload, 1)) (kk : V X cells slots n h (pc + 1) ls (.int (f i.toNatClampNeg) :: st)) : V X cells slots n h pc ls (.int i :: .ref a :: st) := by
  obtain ⟨⟨p, l, e, R, s, m, args, below, meth, c⟩, Q, ⟨cl, tys, D, G, bs, b⟩⟩ := X
  obtain ⟨hx, hb, hml, hown, hts, hns, hK, hlk, hbs, hbz, rfl, rfl, rfl⟩ := hC
  obtain ⟨a, rfl⟩ : ∃ a', a = a' + 1 := ⟨a - 1, by omega⟩
  intro H locs real hR hS hl
  have he : (tv_W G bs b n h)[a]? = some (b + a, .inl (G t, (len, .inl f))) := by rw [tv_W_at (by omega), hh]; rfl
  exact va_zald hx hb hK hR.2.1 a t he (tv_T_at ht) hin hd (kk H locs real hR hS hl)
/-- the script's own ints -/
theorem V.sld (hC : tv_K X cc nL own Ts Ns CL TY rm) {L : Nat} {xs : Nat → Int32} {i : Int32} (hh : h 0 = .inl (0, (L, .inl xs))) (hin : vp_in i L) (hd : decode cc pc = .ok (.iaload, 1)) (kk : V X cells slots n h (pc + 1) ls (.int (xs i.toNatClampNeg) :: st)) : V X cells slots n h pc ls (.int i :: .ref 0 :: st) := by
  obtain ⟨⟨p, l, e, R, s, m, args, below, meth, c⟩, Q, ⟨cl, tys, D, G, bs, b⟩⟩ := X
  obtain ⟨hx, hb, -⟩ := hC
  intro H locs real hR hS hl
  obtain ⟨scr, h1, h2, h3, h4, h5⟩ := hR.2.2 L xs hh
  have hlt : i.toNatClampNeg < L := Nat.not_le.mp fun q => hin (Or.inr q)
  exact W.iald (v := .int (xs i.toNatClampNeg)) hx hb h1 h2 h3 (by rw [h4]; exact hin) (h5 _ hlt) rfl rfl hd (kk H locs real hR hS hl)
theorem V.slen (hC : tv_K X cc nL own Ts Ns CL TY rm) {L : Nat} {xs : Nat → Int32} (hh : h 0 = .inl (0, (L, .inl xs))) (hd : decode cc pc = .ok (.arraylength, 1)) (kk : V X cells slots n h (pc + 1) ls (.int (Int32.ofNat L) :: st)) : V X cells slots n h pc ls (.ref 0 :: st) := by
  obtain ⟨⟨p, l, e, R, s, m, args, below, meth, c⟩, Q, ⟨cl, tys, D, G, bs, b⟩⟩ := X
  obtain ⟨hx, hb, -⟩ := hC
  intro H locs real hR hS hl
  obtain ⟨scr, h1, h2, h3, h4, h5⟩ := hR.2.2 L xs hh
  exact W.alen (n := Int32.ofNat L) hx hb h1 h2 (by rw [h4] <;> rfl) rfl rfl hd (kk H locs real hR hS hl)
theorem V.alen (hC : tv_K X cc nL own Ts Ns CL TY rm) {t a : Nat} {x : vp_A} {ty : FieldType} (ha : 0 < a ∧ a ≤ n) (hh : h a = .inl (t, x)) (ht : TY[t]? = some ty) (hd : decode cc pc = .ok (.arraylength, 1)) (kk : V X cells slots n h (pc + 1) ls (.int (Int32.ofNat x.1) :: st)) : V X cells slots n h pc ls (.ref a :: st) := by
  obtain ⟨⟨p, l, e, R, s, m, args, below, meth, c⟩, Q, ⟨cl, tys, D, G, bs, b⟩⟩ := X
  obtain ⟨hx, hb, hml, hown, hts, hns, hK, hlk, hbs, hbz, rfl, rfl, rfl⟩ := hC
  obtain ⟨a, rfl⟩ : ∃ a', a = a' + 1 := ⟨a - 1, by omega⟩
  intro H locs real hR hS hl
  have he : (tv_W G bs b n h)[a]? = some (b + a, .inl (G t, tv_A bs b x)) := by rw [tv_W_at (by omega), hh]; rfl
  exact va_alen hx hb hK hR.2.1 a t he (tv_T_at ht) rfl hd (kk H locs real hR hS hl)
theorem V.iast (hC : tv_K X cc nL own Ts Ns CL TY rm) {t a len : Nat} {f : Nat → Int32} {i x : Int32} (ha : 0 < a ∧ a ≤ n) (hh : h a = .inl (t, (len, .inl f))) (ht : TY[t]? = some .int) (hin : vp_in i len) (hd : decode cc pc = .ok (.iastore, 1)) (kk : V X cells slots n (va_up h a (.inl (t, (len, .inl (upd f i.toNatClampNeg x))))) (pc + 1) ls st) : V X cells slots n h pc ls (.int x :: .int i :: .ref a :: st) := by
  obtain ⟨⟨p, l, e, R, s, m, args, below, meth, c⟩, Q, ⟨cl, tys, D, G, bs, b⟩⟩ := X
  obtain ⟨hx, hb, hml, hown, hts, hns, hK, hlk, hbs, hbz, rfl, rfl, rfl⟩ := hC
  obtain ⟨a, rfl⟩ : ∃ a', a = a' + 1 := ⟨a - 1, by omega⟩
  intro H locs real hR hS hl
  have he : (tv_W G bs b n h)[a]? = some (b + a, .inl (G t, (len, .inl f))) := by rw [tv_W_at (by omega), hh]; rfl
  refine W.iast hx hb (hR.2.1 a _ he) ((hK.2 t _ (tv_T_at ht)).1 len (fun j => .int (f j))) (fun q => by cases q) (by show ¬ (i < 0 ∨ (arrV _ _ _).slots.size ≤ _); rw [arrV_size]; exact hin) rfl rfl hd fun H1 e1 e2 e3 => ?_
  have e3 : ∀ q : Nat, q ≠ b + a → H1[q]? = H[q]? := e3
  refine kk H1 _ real ⟨e2.trans hR.1, ?_, tv_sc (by omega) hR.2.2 (e3 bs (by omega))⟩ (hS.put e2 e3 (Nat.le_add_right _ _)) hl
  rw [← tv_W_set (by omega)]
  refine hR.2.1.set (tv_D G bs b n h) he ?_ e3
  show H1[b + a]? = some (vp_cell _ _)
  rw [e1]
  show some ((vp_cell _ (len, .inl f)).setSlot _ _) = some (vp_cell _ (len, .inl _))
  rw [vp_cell_i, vp_cell_i, arrV_store]
  congr 2
  funext q
  by_cases hq : q = i.toNatClampNeg
  · subst hq
    simp [updV, upd]
  · simp [updV, upd, hq]
theorem V.zast (hC : tv_K X cc nL own Ts Ns CL TY rm) {t a len : Nat} {f : Nat → Int32} {i x : Int32} (ha : 0 < a ∧ a ≤ n) (hh : h a = .inl (t, (len, .inl f))) (ht : TY[t]? = some .boolean) (hin : vp_in i len) (hz : x = 0 ∨ x = 1) (hd : decode cc pc = .ok (.bastore, 1)) (kk : V X cells slots n (va_up h a (.inl (t, (len, .inl (upd f i.toNatClampNeg x))))) (pc + 1) ls st) : V X cells slots n h pc ls (.int x :: .int i :: .ref a :: st) := by
  obtain ⟨⟨p, l, e, R, s, m, args, below, meth, c⟩, Q, ⟨cl, tys, D, G, bs, b⟩⟩ := X
  obtain ⟨hx, hb, hml, hown, hts, hns, hK, hlk, hbs, hbz, rfl, rfl, rfl⟩ := hC
  obtain ⟨a, rfl⟩ : ∃ a', a = a' + 1 := ⟨a - 1, by omega⟩
  intro H locs real hR hS hl
  have he : (tv_W G bs b n h)[a]? = some (b + a, .inl (G t, (len, .inl f))) := by rw [tv_W_at (by omega), hh]; rfl
  refine W.zast hx hb (hR.2.1 a _ he) ((hK.2 t _ (tv_T_at ht)).1 len (fun j => .int (f j))) (fun q => by cases q) (by show ¬ (i < 0 ∨ (arrV _ _ _).slots.size ≤ _); rw [arrV_size]; exact hin) rfl rfl hd fun H1 e1 e2 e3 => ?_
  have e3 : ∀ q : Nat, q ≠ b + a → H1[q]? = H[q]? := e3
  refine kk H1 _ real ⟨e2.trans hR.1, ?_, tv_sc (by omega) hR.2.2 (e3 bs (by omega))⟩ (hS.put e2 e3 (Nat.le_add_right _ _)) hl
  rw [← tv_W_set (by omega)]
  refine hR.2.1.set (tv_D G bs b n h) he ?_ e3
  show H1[b + a]? = some (vp_cell _ _)
  rw [e1]
  show some ((vp_cell _ (len, .inl f)).setSlot _ _) = some (vp_cell _ (len, .inl _))
  rw [vp_cell_i, vp_cell_i, arrV_store]
  congr 2
  funext q
  by_cases hq : q = i.toNatClampNeg
  · subst hq
    have hn : narrow .boolean (.int x) = .int x := by rcases hz with rfl | rfl <;> decide
    simp [updV, upd, hn]
  · simp [updV, upd, hq]
theorem V.aald (hC : tv_K X cc nL own Ts Ns CL TY rm) {t a len : Nat} {f : Nat → Option Nat} {i : Int32} {ty : FieldType} (ha : 0 < a ∧ a ≤ n) (hh : h a = .inl (t, (len, .inr (.inr (.inr (.inr f)))))) (ht : TY[t]? = some ty) (href : ty.isReference = true) (hin : vp_in i len) (hd : decode cc pc = .ok (.aaload, 1)) (kk : V X cells slots n h (pc + 1) ls (va_rf (f i.toNatClampNeg) :: st)) : V X cells slots n h pc ls (.int i :: .ref a :: st) := by
  obtain ⟨⟨p, l, e, R, s, m, args, below, meth, c⟩, Q, ⟨cl, tys, D, G, bs, b⟩⟩ := X
  obtain ⟨hx, hb, hml, hown, hts, hns, hK, hlk, hbs, hbz, rfl, rfl, rfl⟩ := hC
  obtain ⟨a, rfl⟩ : ∃ a', a = a' + 1 := ⟨a - 1, by omega⟩
  intro H locs real hR hS hl
  have he : (tv_W G bs b n h)[a]? = some (b + a, .inl (G t, (len, .inr (.inr (.inr (.inr (fun j => (f j).map (tv_r bs b)))))))) := by rw [tv_W_at (by omega), hh]; rfl
  have hlt : i.toNatClampNeg < len := Nat.not_le.mp fun q => hin (Or.inr q)
  have k1 := kk H locs real hR hS hl
  rw [List.map_cons, tv_rf] at k1
  exact W.aald (v := va_rf ((f i.toNatClampNeg).map (tv_r bs b))) (ty := ty) hx hb (hR.2.1 a _ he) ((hK.2 t _ (tv_T_at ht)).1 len (fun j => va_rf ((f j).map (tv_r bs b)))) href (fun q => by cases q) (by show ¬ (i < 0 ∨ (arrV _ _ _).slots.size ≤ _); rw [arrV_size]; exact hin) (by show (arrV _ _ _).slots[_]? = _; rw [arrV_read _ _ hlt]) rfl rfl hd k1
theorem V.aast (hC : tv_K X cc nL own Ts Ns CL TY rm) {t a len ci v : Nat} {f : Nat → Option Nat} {i : Int32} {r : vw_C} {vs : List Value} (ht : TY[t]? = some (.object r.1)) (hcl : CL[ci]? = some r) (ha : 0 < a ∧ a ≤ n) (hh : h a = .inl (t, (len, .inr (.inr (.inr (.inr f)))))) (hv : 0 < v ∧ v ≤ n) (hhv : h v = .inr (ci, vs)) (hin : vp_in i len) (hd : decode cc pc = .ok (.aastore, 1)) (kk : V X cells slots n (va_up h a (.inl (t, (len, .inr (.inr (.inr (.inr (va_up f i.toNatClampNeg (some v))))))))) (pc + 1) ls st) : V X cells slots n h pc ls (.ref v :: .int i :: .ref a :: st) := by
  obtain ⟨⟨p, l, e, R, s, m, args, below, meth, c⟩, Q, ⟨cl, tys, D, G, bs, b⟩⟩ := X
  obtain ⟨hx, hb, hml, hown, hts, hns, hK, hlk, hbs, hbz, rfl, rfl, rfl⟩ := hC
  obtain ⟨a, rfl⟩ : ∃ a', a = a' + 1 := ⟨a - 1, by omega⟩
  obtain ⟨v, rfl⟩ : ∃ a', v = a' + 1 := ⟨v - 1, by omega⟩
  intro H locs real hR hS hl
  have he : (tv_W G bs b n h)[a]? = some (b + a, .inl (G t, (len, .inr (.inr (.inr (.inr (fun j => (f j).map (tv_r bs b)))))))) := by rw [tv_W_at (by omega), hh]; rfl
  have hev : (tv_W G bs b n h)[v]? = some (b + v, .inr (ci, vs.map (tv_v bs b))) := by rw [tv_W_at (by omega), hhv]; rfl
  have hlt : i.toNatClampNeg < len := Nat.not_le.mp fun q => hin (Or.inr q)
  have h0 : ¬ i < 0 := fun q => hin (Or.inl q)
  obtain ⟨r2, hr2, cellV, g1, g2, g3, -⟩ := hR.2.1 v _ hev
  have hcls := (hK.1 ci r hcl).2
  obtain ⟨kA, comp, k1, k2, k3, -⟩ := (hK.2 t _ (tv_T_at ht)).2
  have hcomp : comp = D.1 ci := Option.some.inj (k3.symm.trans hcls.1)
  subst hcomp
  obtain ⟨kC, hkC, -⟩ := hcls.2
  refine W.aast hx hb (hR.2.1 a _ he) (fun q h => by cases h) (fun h => by cases h) k1 k2 rfl hkC ⟨h0, by show _ < (arrV _ _ _).slots.size; rw [arrV_size]; exact hlt⟩ g1 (fun q h => by rw [g3] at h; cases h) (by rw [g2]; exact hkC) (by rw [g2]; exact va_assign hcls) rfl rfl hd fun H1 e1 e2 e3 => ?_
  have e3 : ∀ q : Nat, q ≠ b + a → H1[q]? = H[q]? := e3
  refine kk H1 _ real ⟨e2.trans hR.1, ?_, tv_sc (by omega) hR.2.2 (e3 bs (by omega))⟩ (hS.put e2 e3 (Nat.le_add_right _ _)) hl
  rw [← tv_W_set (by omega)]
  refine hR.2.1.set (tv_D G bs b n h) he ?_ e3
  show H1[b + a]? = some (vp_cell _ _)
  rw [e1]
  show some ((vp_cell _ (len, .inr (.inr (.inr (.inr _))))).setSlot _ _) = some (vp_cell _ (len, .inr (.inr (.inr (.inr _)))))
  rw [vp_cell_q, vp_cell_q, arrV_store]
  congr 2
  funext q
  by_cases hq : q = i.toNatClampNeg
  · subst hq
    simp [updV, va_up, va_rf, tv_r]
  · simp [updV, va_up, hq]
end TVH
end
section
/-! rows over V: new cells -/
section TVN
variable {X : tv_X} {cells slots n : Nat} {h : Nat → tv_C} {pc : Nat} {ls : List (Option Value)} {st : List Value} {cc : ByteArray} {nL : Nat} {own : String} {Ts Ns : List Cond} {CL : List vw_C} {TY : List FieldType} {rm : Room}
/-- a cell more at the heap's end -/
theorem tv_more {cl : List vw_C} {D : va_G} {G : Nat → ClassId} {bs b n : Nat} {h : Nat → tv_C} {s : State} {H H1 : Heap} {x : tv_C} (hbs : bs < b) (hR : tv_R cl D G bs b n h s H) (he : va_at D cl (b + n, tv_E G bs b x) H1) (hz : H1.size = b + n + 1) (ho : ∀ q, q < b + n → H1[q]? = H[q]?) : tv_R cl D G bs b (n + 1) (va_up h (n + 1) x) s H1 := by
  refine ⟨hz, ?_, tv_sc (by omega) hR.2.2 (ho bs (by omega))⟩
  rw [← tv_W_push]
  refine (hR.2.1.kept (fun k q hq => ho q.1 ?_)).app (fun k q hq => ?_)
  · have := (hR.2.1 k q hq).lt
    rw [hR.1] at this
    exact this
  · have hk : k < 1 := (List.getElem?_eq_some_iff.mp hq).1
    obtain rfl : k = 0 := by omega
    cases hq
    exact he
theorem tv_S_more {A : Nat → Prop} {H0 H H1 : Heap} {locs : List Loc} {k : Nat} (hS : va_S A H0 H locs) (hk : H.size = k) (hz : H1.size = k + 1) (ho : ∀ q, q < k → H1[q]? = H[q]?) : va_S A H0 H1 locs := by
  subst hk
  exact ⟨Nat.le_trans hS.1 (by omega), fun q h1 h2 => (ho q (Nat.lt_of_lt_of_le h1 hS.1)).trans (hS.2.1 q h1 h2), hS.2.2⟩
theorem V.new (hC : tv_K X cc nL own Ts Ns CL TY rm) {idx ci : Nat} {C : String} {T : u_T} {N : Nat} {fs : List Value} (tyT : Nat → FieldType) (hty : ∀ k, k < N → parseFieldDescriptor (T k).2.2.1 = some (tyT k)) (hc : CL[ci]? = some (C, T, N)) (hin : ∀ w ∈ u_ws C T N, w ∈ Ts) (hw : Cond.classLink own idx C ∈ Ts ∧ Cond.instantiable C N ∈ Ts ∧ Cond.initialized C ∈ Ts) (hfs : ∀ bs b j, j < N → defaultValue (tyT j) = vp_V (fs.map (tv_v bs b)) j) (hrm : cells + 1 ≤ rm.cells ∧ slots + N ≤ rm.slots) (hd : decode cc pc = .ok (.new idx, 3)) (kk : V X (cells + 1) (slots + N) (n + 1) (va_up h (n + 1) (.inr (ci, fs))) (pc + 3) ls (.ref (n + 1) :: st)) : V X cells slots n h pc ls st := by
  obtain ⟨⟨p, l, e, R, s, m, args, below, meth, c⟩, Q, ⟨cl, tys, D, G, bs, b⟩⟩ := X
  obtain ⟨hx, hb, hml, hown, hts, hns, hK, hlk, hbs, hbz, rfl, rfl, rfl⟩ := hC
  intro H locs real hR hS hl
  have hKn := hK.1 ci _ hc
  refine W.newcK hx hb hown (hts _ hw.1) (hts _ hw.2.1) (hts _ hw.2.2) rfl hd hrm.1 hrm.2 hKn.2.1 hR.1 fun H1 kC hkC e1 z1 o1 => ?_
  exact kk H1 locs real (tv_more hbs hR ⟨_, hc, (u_born tyT hts hin hKn hkC e1 hty).to (hfs bs b)⟩ z1 o1) (tv_S_more hS hR.1 z1 o1) hl
theorem V.newi (hC : tv_K X cc nL own Ts Ns CL TY rm) {t N : Nat} {k : Int32} (ht : TY[t]? = some .int) (hw : Cond.arrayClass .int ∈ Ts) (hk : ¬ k < 0) (hN : k.toNatClampNeg = N) (hby : N * 4 ≤ 536870912) (hrm : cells + 1 ≤ rm.cells ∧ slots + N ≤ rm.slots) (hd : decode cc pc = .ok (.newarray .int, 2)) (kk : V X (cells + 1) (slots + N) (n + 1) (va_up h (n + 1) (.inl (t, (N, .inl (fun _ => 0))))) (pc + 2) ls (.ref (n + 1) :: st)) : V X cells slots n h pc ls (.int k :: st) := by
  obtain ⟨⟨p, l, e, R, s, m, args, below, meth, c⟩, Q, ⟨cl, tys, D, G, bs, b⟩⟩ := X
  obtain ⟨hx, hb, hml, hown, hts, hns, hK, hlk, hbs, hbz, rfl, rfl, rfl⟩ := hC
  intro H locs real hR hS hl
  refine va_newaK hx hb (atype := .int) (hts _ hw) rfl hd rfl hk hN hby hrm.1 hrm.2 hR.1 fun H1 cA e1 z1 o1 hAr hNm => ?_
  have hG : cA = G t := Option.some.inj (hNm.symm.trans (hK.2 t _ (tv_T_at ht)).2)
  subst hG
  exact kk H1 locs real (tv_more hbs hR e1 z1 o1) (tv_S_more hS hR.1 z1 o1) hl
theorem V.newz (hC : tv_K X cc nL own Ts Ns CL TY rm) {t N : Nat} {k : Int32} (ht : TY[t]? = some .boolean) (hw : Cond.arrayClass .boolean ∈ Ts) (hk : ¬ k < 0) (hN : k.toNatClampNeg = N) (hby : N * 1 ≤ 536870912) (hrm : cells + 1 ≤ rm.cells ∧ slots + N ≤ rm.slots) (hd : decode cc pc = .ok (.newarray .boolean, 2)) (kk : V X (cells + 1) (slots + N) (n + 1) (va_up h (n + 1) (.inl (t, (N, .inl (fun _ => 0))))) (pc + 2) ls (.ref (n + 1) :: st)) : V X cells slots n h pc ls (.int k :: st) := by
  obtain ⟨⟨p, l, e, R, s, m, args, below, meth, c⟩, Q, ⟨cl, tys, D, G, bs, b⟩⟩ := X
  obtain ⟨hx, hb, hml, hown, hts, hns, hK, hlk, hbs, hbz, rfl, rfl, rfl⟩ := hC
  intro H locs real hR hS hl
  refine va_newaK hx hb (atype := .boolean) (hts _ hw) rfl hd rfl hk hN hby hrm.1 hrm.2 hR.1 fun H1 cA e1 z1 o1 hAr hNm => ?_
  have hG : cA = G t := Option.some.inj (hNm.symm.trans (hK.2 t _ (tv_T_at ht)).2)
  subst hG
  exact kk H1 locs real (tv_more hbs hR e1 z1 o1) (tv_S_more hS hR.1 z1 o1) hl
theorem V.newq (hC : tv_K X cc nL own Ts Ns CL TY rm) {t N idx : Nat} {C : String} {k : Int32} (ht : TY[t]? = some (.object C)) (hw : Cond.classLink own idx C ∈ Ts ∧ Cond.arrayOver (.object C) ∈ Ns) (hk : ¬ k < 0) (hN : k.toNatClampNeg = N) (hby : N * 4 ≤ 536870912) (hrm : cells + 1 ≤ rm.cells ∧ slots + N ≤ rm.slots) (hd : decode cc pc = .ok (.anewarray idx, 3)) (kk : V X (cells + 1) (slots + N) (n + 1) (va_up h (n + 1) (.inl (t, (N, .inr (.inr (.inr (.inr (fun _ => none)))))))) (pc + 3) ls (.ref (n + 1) :: st)) : V X cells slots n h pc ls (.int k :: st) := by
  obtain ⟨⟨p, l, e, R, s, m, args, below, meth, c⟩, Q, ⟨cl, tys, D, G, bs, b⟩⟩ := X
  obtain ⟨hx, hb, hml, hown, hts, hns, hK, hlk, hbs, hbz, rfl, rfl, rfl⟩ := hC
  intro H locs real hR hS hl
  subst hN
  refine W.anew hx hb hown (hts _ hw.1) (hns _ hw.2) rfl hd rfl hk hby hrm.1 hrm.2 fun cA kA comp f1 f2 f3 f4 => ?_
  have hG : cA = G t := by
    obtain ⟨kA', comp', -, -, -, g4⟩ := (hK.2 t _ (tv_T_at ht)).2
    exact Option.some.inj (f1.symm.trans g4)
  subst hG
  generalize hH1 : H.push ({ cls := G t, slots := Array.replicate k.toNatClampNeg .null, vm := .none } : Cell) = H1
  have z1 : H1.size = b + n + 1 := by rw [← hH1, Array.size_push, hR.1]
  have e1 : H1[b + n]? = some (arrV (G t) k.toNatClampNeg (fun _ => .null)) := by rw [← hH1, ← hR.1, Array.getElem?_push_size, ← arrV_new]
  have o1 : ∀ q : Nat, q < b + n → H1[q]? = H[q]? := fun q hq => by rw [← hH1, Array.getElem?_push, if_neg (by rw [hR.1]; omega)]
  have k1 := kk H1 locs real (tv_more hbs hR (show H1[b + n]? = some (vp_cell _ _) by rw [tv_A, vp_cell_q]; exact e1) z1 o1) (tv_S_more hS hR.1 z1 o1) hl
  rw [hR.1]
  exact k1
end TVN
end
section
/-! contracts over V, calls, ends -/
/-- a method's end: an answer v and a heap h with P -/
def tv_Q (CL : List vw_C) (D : va_G) (G : Nat → ClassId) (bs b : Nat) (P : Option Value → Nat → (Nat → tv_C) → Prop) : Array Value → State → Outcome → State → Prop := fun _ st oc t =>
  (∃ (v : Option Value) (n : Nat) (h : Nat → tv_C), oc = .returned (v.map (tv_v bs b)) ∧ P v n h ∧ tv_R CL D G bs b n h t t.heap) ∧ va_F (fun q => b ≤ q) st t
def tv_Pc (Ns : List Cond) (CL : List vw_C) (TY : List FieldType) (D : va_G) (G : Nat → ClassId) (bs b n : Nat) (h : Nat → tv_C) (U : State) : Prop :=
  tv_R CL D G bs b n h U U.heap ∧ (∀ w ∈ Ns, va_Nw w U) ∧ va_K D CL (tv_T G TY) U ∧ bs < b
/-- the contract of y at the arguments av and the heap h -/
def tv_Met (y : MethodName) (ws Ns : List Cond) (CL : List vw_C) (TY : List FieldType) (fr lo mc ms : Nat) (av : List Value) (n : Nat) (h : Nat → tv_C) (P : Option Value → Nat → (Nat → tv_C) → Prop) : Prop :=
  ∀ (l : Launch) (D : va_G) (G : Nat → ClassId) (bs b : Nat), Met l y ws { frames := fr, cells := mc, slots := ms, locals := lo } (va_Pc (av.map (tv_v bs b)) (tv_Pc Ns CL TY D G bs b n h)) (tv_Q CL D G bs b P) mc ms (fun q => b ≤ q)
theorem tv_R.moved {cl : List vw_C} {D : va_G} {G : Nat → ClassId} {bs b n : Nat} {h : Nat → tv_C} {u U : State} {H : Heap} (hvm : u.vm.Alike U.vm) (hR : tv_R cl D G bs b n h u H) : tv_R cl D G bs b n h U H :=
  ⟨hR.1, hR.2.1, fun L xs h0 => (hR.2.2 L xs h0).moved hvm⟩
def tv_ret (X : tv_X) (ret : Option FieldType) : Prop := match X with
  | ((p, l, e, R, s, m, args, below, meth, c), Q, (cl, tys, D, G, bs, b)) => meth.sig.returnType = ret
/-- the wanted end is that of a contract -/
def tv_end (X : tv_X) (P : Option Value → Nat → (Nat → tv_C) → Prop) (mc ms : Nat) : Prop := match X with
  | ((p, l, e, R, s, m, args, below, meth, c), Q, (cl, tys, D, G, bs, b)) => Q = MQ below (tv_Q cl D G bs b P) args s mc ms (fun q => b ≤ q)
theorem tv_args {bs b : Nat} : ∀ (av : List Value) (i j : Nat) (v : Value), (∀ w ∈ av, tv_ok w = true) → av[j]? = some v → (i + j, tv_v bs b v) ∈ lv_args i (av.map (tv_v bs b))
  | [], i, j, v, _, h => by simp at h
  | w :: t, i, j, v, ho, h => by
    have hw : (tv_v bs b w).category = 1 := tv_cat1 bs b (ho w List.mem_cons_self)
    rw [List.map_cons, lv_args, if_neg (by rw [hw]; decide)]
    cases j with
    | zero =>
      have : w = v := by simpa using h
      subst this
      exact List.mem_cons_self
    | succ j =>
      have h1 : t[j]? = some v := by simpa using h
      have := tv_args (bs := bs) (b := b) t (i + 1) j v (fun u hu => ho u (List.mem_cons_of_mem _ hu)) h1
      rw [show i + (j + 1) = i + 1 + j by omega]
      exact List.mem_cons_of_mem _ this
theorem tv_sl {bs b : Nat} : ∀ (av : List Value), (∀ w ∈ av, tv_ok w = true) → (lg_sl (av.map (tv_v bs b))).length = av.length
  | [], _ => rfl
  | w :: t, ho => by
    have hw : (tv_v bs b w).category = 1 := tv_cat1 bs b (ho w List.mem_cons_self)
    have ih := tv_sl (bs := bs) (b := b) t (fun u hu => ho u (List.mem_cons_of_mem _ hu))
    unfold lg_sl at ih ⊢
    rw [List.map_cons, List.flatMap_cons, if_neg (by rw [hw]; decide), List.length_append, ih]
    simp; omega
/-- the locals at a method's entry -/
def tv_in (av : List Value) (nL : Nat) : List (Option Value) := av.map some ++ List.replicate (nL - av.length) none
theorem tv_Met.of {y : MethodName} {bytes : ByteArray} {maxL : Nat} {ret : Option FieldType} {ws' Ns : List Cond} {CL : List vw_C} {TY : List FieldType} {fr lo mc ms : Nat} {av : List Value} {n : Nat} {h : Nat → tv_C} {P : Option Value → Nat → (Nat → tv_C) → Prop}
    (hy : plainName y.cls = true) (hav0 : av.all tv_ok = true) (hlen : av.length ≤ maxL)
    (body : ∀ X : tv_X, tv_K X bytes maxL y.cls ws' Ns CL TY { frames := fr, cells := mc, slots := ms, locals := lo } → tv_nm X = y.name → tv_ret X ret → tv_end X P mc ms → V X 0 0 n h 0 (tv_in av maxL) []) :
    tv_Met y (Cond.code y bytes maxL ret :: ws') Ns CL TY fr lo mc ms av n h P := by
  have hav : ∀ w ∈ av, tv_ok w = true := List.all_eq_true.mp hav0
  intro l D G bs b
  refine Met.ofW (cc := bytes) (maxL := maxL) (ret := ret) hy rfl ?_
  intro p e s m args below meth c s₁ B hml hv
  obtain ⟨rfl, hR, hN, hK, hbs⟩ := hv
  have hts := atoms_spec (ws := Cond.code y bytes maxL ret :: ws') B.pre
  have hown : s.vm.findClass y.cls = some m.cls := findClass_of_methodNamed B.named
  have hb0 := body ((p, l, e, (headSpec (Cond.code y bytes maxL ret :: ws') { frames := fr, cells := mc, slots := ms, locals := lo }).room, s, m, (av.map (tv_v bs b)).toArray, below, meth, c), MQ below (tv_Q CL D G bs b P) (av.map (tv_v bs b)).toArray s mc ms (fun q => b ≤ q), (CL, TY, D, G, bs, b))
    ⟨B.exec, B.bytes, hml, hown, fun w hw => hts w (List.mem_cons_of_mem _ hw), hN, hK, B.notSynchronized, hbs, by rw [hR.1]; exact Nat.le_add_right _ _, rfl, rfl, rfl⟩ (name_of_methodNamed B.named B.method).1 B.returns rfl
  have hl := lv_entry (av.map (tv_v bs b)) (n := maxL) (by rw [tv_sl av hav]; exact hlen)
  rw [lg_entry_eq]
  refine hb0 s.heap [] _ hR va_S.rf ?_
  have hlen2 : (tv_in av maxL).length = maxL := by simp [tv_in]; omega
  rw [hlen2]
  refine ⟨hl.1, hl.2.1, fun q hq => hl.2.2 q ?_⟩
  obtain ⟨v, h1, h2, h3⟩ := tv_ps_inv hq
  obtain ⟨j, u⟩ := q
  dsimp only at h1 h3
  subst h3
  have h4 : av[j]? = some v := by
    unfold tv_in at h1
    by_cases hj : j < av.length
    · rw [List.getElem?_append_left (by rw [List.length_map]; exact hj), List.getElem?_map] at h1
      cases hc : av[j]? with
      | none => rw [hc] at h1; cases h1
      | some w => rw [hc] at h1; exact Option.some.inj h1
    · rw [List.getElem?_append_right (by rw [List.length_map]; omega)] at h1
      have := List.mem_of_getElem? h1
      have := List.eq_of_mem_replicate this
      cases this
  have := tv_args (bs := bs) (b := b) av 0 j v hav h4
  rw [Nat.zero_add] at this
  exact this
section TVE
variable {X : tv_X} {cells slots n : Nat} {h : Nat → tv_C} {pc : Nat} {ls : List (Option Value)} {st : List Value} {cc : ByteArray} {nL : Nat} {own : String} {Ts Ns : List Cond} {CL : List vw_C} {TY : List FieldType} {rm : Room} {P : Option Value → Nat → (Nat → tv_C) → Prop}
theorem V.iret (hC : tv_K X cc nL own Ts Ns CL TY rm) (hr : tv_ret X (some .int)) (hE : tv_end X P cells slots) {v : Int32} (hd : decode cc pc = .ok (.ireturn, 1)) (hp : P (some (.int v)) n h) : V X cells slots n h pc ls [.int v] := by
  obtain ⟨⟨p, l, e, R, s, m, args, below, meth, c⟩, Q, ⟨cl, tys, D, G, bs, b⟩⟩ := X
  obtain ⟨hx, hb, hml, hown, hts, hns, hK, hlk, hbs, hbz, rfl, rfl, rfl⟩ := hC
  obtain rfl : Q = _ := hE
  intro H locs real hR hS hl
  exact W.iret hx hb hr (fun t ht hW => ⟨⟨some (.int v), n, h, rfl, hp, (by rw [ht]; exact hR.moved hW.alike)⟩, hS.F ht⟩) hS.2.2 hd
theorem V.zret (hC : tv_K X cc nL own Ts Ns CL TY rm) (hr : tv_ret X (some .boolean)) (hE : tv_end X P cells slots) {v : Int32} (hv : narrow .boolean (.int v) = .int v) (hd : decode cc pc = .ok (.ireturn, 1)) (hp : P (some (.int v)) n h) : V X cells slots n h pc ls [.int v] := by
  obtain ⟨⟨p, l, e, R, s, m, args, below, meth, c⟩, Q, ⟨cl, tys, D, G, bs, b⟩⟩ := X
  obtain ⟨hx, hb, hml, hown, hts, hns, hK, hlk, hbs, hbz, rfl, rfl, rfl⟩ := hC
  obtain rfl : Q = _ := hE
  intro H locs real hR hS hl
  exact W.zret hx hb hr hv (fun t ht hW => ⟨⟨some (.int v), n, h, rfl, hp, (by rw [ht]; exact hR.moved hW.alike)⟩, hS.F ht⟩) hS.2.2 hd
theorem V.vret (hC : tv_K X cc nL own Ts Ns CL TY rm) (hr : tv_ret X none) (hE : tv_end X P cells slots) (hd : decode cc pc = .ok (.return_, 1)) (hp : P none n h) : V X cells slots n h pc ls [] := by
  obtain ⟨⟨p, l, e, R, s, m, args, below, meth, c⟩, Q, ⟨cl, tys, D, G, bs, b⟩⟩ := X
  obtain ⟨hx, hb, hml, hown, hts, hns, hK, hlk, hbs, hbz, rfl, rfl, rfl⟩ := hC
  obtain rfl : Q = _ := hE
  intro H locs real hR hS hl
  exact W.vret hx hb hr (fun t ht hW => ⟨⟨none, n, h, rfl, hp, (by rw [ht]; exact hR.moved hW.alike)⟩, hS.F ht⟩) hS.2.2 hd
theorem V.aret (hC : tv_K X cc nL own Ts Ns CL TY rm) {rt : FieldType} (hr : tv_ret X (some rt)) (hrt : (∃ n, rt = .object n) ∨ ∃ t, rt = .array t) (hE : tv_end X P cells slots) {v : Value} (hv : v = .null ∨ ∃ a, v = .ref a) (hd : decode cc pc = .ok (.areturn, 1)) (hp : P (some v) n h) : V X cells slots n h pc ls [v] := by
  obtain ⟨⟨p, l, e, R, s, m, args, below, meth, c⟩, Q, ⟨cl, tys, D, G, bs, b⟩⟩ := X
  obtain ⟨hx, hb, hml, hown, hts, hns, hK, hlk, hbs, hbz, rfl, rfl, rfl⟩ := hC
  obtain rfl : Q = _ := hE
  intro H locs real hR hS hl
  have hv2 : tv_v bs b v = .null ∨ ∃ a, tv_v bs b v = .ref a := by
    rcases hv with rfl | ⟨a, rfl⟩
    · exact Or.inl rfl
    · exact Or.inr ⟨_, rfl⟩
  exact W.aret hx hb hr hrt hv2 (fun t ht hW => ⟨⟨some v, n, h, rfl, hp, (by rw [ht]; exact hR.moved hW.alike)⟩, hS.F ht⟩) hS.2.2 hd
/-- behind a call -/
theorem tv_go {p : Program} {l : Launch} {e : Env} {R : Room} {s : State} {m : MethodId} {args : Array Value} {below : List Frame} {meth : Method} {c : Code} {H : Heap} {locs : List Loc} {mc ms : Nat} {Q : State → Prop} {cl : List vw_C} {D : va_G} {G : Nat → ClassId} {bs b : Nat} {real : Array Slot} {st0 rest : List Value} {a : Array Value}
    (hr : va_Run p l e R s m args below meth c H locs cells slots mc ms (F0 m pc real st0) rest (tv_Q cl D G bs b P a) (fun q => b ≤ q)) (hS : va_S (fun q => b ≤ q) s.heap H locs)
    (kk : ∀ (v : Option Value) (n' : Nat) (h' : Nat → tv_C) (H1 : Heap) (locs1 : List Loc), P v n' h' → tv_R cl D G bs b n' h' s H1 → va_S (fun q => b ≤ q) s.heap H1 locs1 → W p l e R s m args below meth c H1 locs1 (cells + mc) (slots + ms) Q (F0 m (pc + 3) real ((v.map (tv_v bs b)).toList ++ rest))) :
    W p l e R s m args below meth c H locs cells slots Q (F0 m pc real st0) := by
  intro T hT X
  obtain ⟨v, st₀, t, T', L, h0, X', hL, e1, e2, ⟨⟨v', n', h', hv, hp, hR1⟩, hz, hk⟩, st⟩ := hr T hT X
  have hv2 : v = v'.map (tv_v bs b) := Outcome.returned.inj hv
  subst hv2
  rw [h0] at hz hk
  have hal : t.vm.Alike s.vm := by rw [← e2]; exact X'.warmed.alike.symm
  obtain ⟨t2, a1, b1⟩ := kk v' n' h' T'.heap (locs ++ L) hp (by rw [e1]; exact hR1.moved hal)
    ⟨Nat.le_trans hS.1 (by rw [e1]; exact hz), fun q h1 h2 => by rw [e1, hk q (Nat.lt_of_lt_of_le h1 hS.1) h2]; exact hS.2.1 q h1 h2, fun q hq => by
      rcases List.mem_append.mp hq with h | h
      · exact hS.2.2 q h
      · exact hL q h⟩ T' rfl X'
  exact ⟨t2, st t2 a1, b1⟩
/-- an array type over arrays stays as the tables move -/
theorem tv_AOA {t : FieldType} {u U : State} (hvm : u.vm.Alike U.vm) (h : va_Nw (.arrayOver (.array t)) u) : va_Nw (.arrayOver (.array t)) U := by
  obtain ⟨comp, c, k, h1, h2, h3, h4, h5⟩ := arrayOverA_spec h
  obtain ⟨k', hk', he⟩ := hvm.2.2 _ _ h3
  have hi : (U.vm.classes.findIdx? fun (x : Class) => match x.kind with | .array component _ => component == comp | _ => false) = some c := by
    rw [hvm.findIdx?_eq _ (fun _ => rfl)]
    exact h2
  have hkind : k'.kind = .array comp (.array t) := by rw [he]; exact h4
  have f1 : U.vm.findClass (FieldType.array t).toString = some comp := by rw [hvm.findClass]; exact h1
  have f2 : U.vm.findClass ("[" ++ (FieldType.array t).toString) = some c := by rw [hvm.findClass]; exact h5
  unfold va_Nw Cond.before Cond.holds
  simp only [Cond.value]
  rw [f1, Option.bind_some]
  refine (congrArg (fun o : Option Nat => (o.bind (fun c => (U.vm.classes[c]?).map fun (k : Class) => match k.kind with | .array _ ty => decide (ty = FieldType.array t) && decide (U.vm.findClass ("[" ++ (FieldType.array t).toString) = some c) | _ => false) == some true)) hi).trans ?_
  simp [hk', hkind, f2]
/-- a word of a nest mate: it stays as the tables warm -/
def tv_nest (w : Cond) : Prop := (∃ a i b n d h, w = .fieldLinkNest a i b n d h) ∨ (∃ a i x h, w = .methodLinkNest a i x h) ∨ (∃ C, w = .arrayOver (.object C)) ∨ ∃ t, w = .arrayOver (.array t)
theorem tv_nest_warm {w : Cond} {s U : State} (hw : tv_nest w) (hW : s.WarmedH U.vm) (hZ : va_Nw w s) : va_Nw w U := by
  rcases hw with ⟨a, i, b, n, d, h, rfl⟩ | ⟨a, i, x, h, rfl⟩ | ⟨C, rfl⟩ | ⟨t, rfl⟩
  · exact va_Nw.warmF hW hZ
  · exact va_Nw.warmM hW hZ
  · exact va_AO.moved hW.alike hZ
  · exact tv_AOA hW.alike hZ
theorem tv_nest_same {w : Cond} {u U : State} (hw : tv_nest w) (h : u.vm = U.vm) (hZ : va_Nw w u) : va_Nw w U := by
  rcases hw with ⟨a, i, b, n, d, h1, rfl⟩ | ⟨a, i, x, h1, rfl⟩ | ⟨C, rfl⟩ | ⟨t, rfl⟩
  · exact va_Nw.same rfl h hZ
  · exact va_Nw.same rfl h hZ
  · exact va_AO.moved (h ▸ Vm.Alike.refl u.vm) hZ
  · exact tv_AOA (h ▸ Vm.Alike.refl u.vm) hZ
theorem tv_blind {D : va_G} {G : Nat → ClassId} {bs b : Nat} {av : List Value} (hNs : ∀ w ∈ Ns, tv_nest w) : FrameBlind (va_Pc av (tv_Pc Ns CL TY D G bs b n h)) := by
  intro a U g mk q
  obtain ⟨q0, qR, qN, qK, qb⟩ := q
  exact ⟨q0, qR.moved (U := U.calling g mk a) (Vm.Alike.refl U.vm), fun w hw => tv_nest_same (u := U) (U := U.calling g mk a) (hNs w hw) rfl (qN w hw), va_K.moved (u := U) (U := U.calling g mk a) (Vm.Alike.refl U.vm) qK, qb⟩
theorem V.callVN (hC : tv_K X cc nL own Ts Ns CL TY rm) (hNs : ∀ w ∈ Ns, tv_nest w) (hnl : ls.length = nL) {y : MethodName} {bytes : ByteArray} {maxL : Nat} {ret : Option FieldType} {ws' : List Cond} {fr lo mc ms idx : Nat} {host : String} {C : String} {T : u_T} {N ci a : Nat} {fs : List Value} {As stk : List Value} (hM : tv_Met y (Cond.code y bytes maxL ret :: ws') Ns CL TY fr lo mc ms (.ref a :: As) n h P) (hG : GoodIn Ts (Cond.code y bytes maxL ret :: ws')) (hw : Cond.methodLinkNest own idx y host ∈ Ns ∧ Cond.initialized y.cls ∈ Ts ∧ Cond.instanceMethod y ∈ Ts ∧ Cond.selects C y y ∈ Ts) (hy : y.cls ≠ "java/lang/invoke/MethodHandle" ∧ y.cls ≠ "java/lang/invoke/VarHandle" ∧ (parseMethodDescriptor y.desc).map (fun d => d.parameters.length) = some As.length) (hrm : fr + 1 ≤ rm.frames ∧ 8 + (maxL + 11) + lo ≤ rm.locals ∧ cells + mc ≤ rm.cells ∧ slots + ms ≤ rm.slots) (hcl : CL[ci]? = some (C, T, N)) (ha : 0 < a ∧ a ≤ n) (hh : h a = .inr (ci, fs)) (hstk : stk = As.reverse ++ .ref a :: st) (hsum : (st.map fun v => v.category).sum ≤ 8) (hd : decode cc pc = .ok (.invokevirtual idx, 3)) (kk : ∀ (v : Option Value) (n' : Nat) (h' : Nat → tv_C), P v n' h' → V X (cells + mc) (slots + ms) n' h' (pc + 3) ls (v.toList ++ st)) : V X cells slots n h pc ls stk := by
  obtain ⟨⟨p, l, e, R, s, m, args, below, meth, c⟩, Q, ⟨cl, tys, D, G, bs, b⟩⟩ := X
  obtain ⟨hx, hb, hml, hown, hts, hns, hK, hlk, hbs, hbz, rfl, rfl, rfl⟩ := hC
  obtain ⟨a, rfl⟩ : ∃ a', a = a' + 1 := ⟨a - 1, by omega⟩
  subst hstk
  intro H locs real hR hS hl
  have he : (tv_W G bs b n h)[a]? = some (b + a, .inr (ci, fs.map (tv_v bs b))) := by rw [tv_W_at (by omega), hh]; rfl
  have hp : PreV s H C (b + a) (va_Pc ((Value.ref (a + 1) :: As).map (tv_v bs b)) (tv_Pc Ns cl tys D G bs b n h)) (As.map (tv_v bs b)) := ⟨tv_blind hNs, va_recv hK hR.2.1 hcl he, fun U hU hW => ⟨rfl, (by rw [hU]; exact hR.moved hW.alike), fun w hw => tv_nest_warm (hNs w hw) hW (hns w hw), va_K.moved hW.alike hK, hbs⟩⟩
  refine tv_go (va_runVN (As := As.map (tv_v bs b)) (rest := st.map (tv_v bs b)) ⟨hx, hb, hml, hown, hts⟩ (hM l D G bs b) ⟨va_cnB As.length hts hG rfl rfl rfl (hns _ hw.1) (hts _ hw.2.1) hy ⟨hrm.1, hrm.2.1⟩, hts _ hw.2.2.1, hts _ hw.2.2.2⟩ hp rfl (by rw [List.length_map]) (hl.1.trans hnl) (by show List.map _ _ = _; rw [List.map_append, List.map_reverse]; rfl) (lv_room (by rw [tv_v_sum]; exact hsum)) hd ⟨hrm.2.2.1, hrm.2.2.2⟩) hS (fun v n' h' H1 locs1 hp1 hR1 hS1 => ?_)
  have k1 := kk v n' h' hp1 H1 locs1 real hR1 hS1 hl
  cases v <;> exact k1
theorem V.callSN (hC : tv_K X cc nL own Ts Ns CL TY rm) (hNs : ∀ w ∈ Ns, tv_nest w) (hnl : ls.length = nL) {y : MethodName} {bytes : ByteArray} {maxL : Nat} {ret : Option FieldType} {ws' : List Cond} {fr lo mc ms idx : Nat} {host : String} {As stk : List Value} (hM : tv_Met y (Cond.code y bytes maxL ret :: ws') Ns CL TY fr lo mc ms (As) n h P) (hG : GoodIn Ts (Cond.code y bytes maxL ret :: ws')) (hw : Cond.methodLinkNest own idx y host ∈ Ns ∧ Cond.initialized y.cls ∈ Ts ∧ Cond.static y ∈ Ts) (hy : y.cls ≠ "java/lang/invoke/MethodHandle" ∧ y.cls ≠ "java/lang/invoke/VarHandle" ∧ (parseMethodDescriptor y.desc).map (fun d => d.parameters.length) = some As.length) (hrm : fr + 1 ≤ rm.frames ∧ 8 + (maxL + 11) + lo ≤ rm.locals ∧ cells + mc ≤ rm.cells ∧ slots + ms ≤ rm.slots) (hstk : stk = As.reverse ++ st) (hsum : (st.map fun v => v.category).sum ≤ 8) (hd : decode cc pc = .ok (.invokestatic idx, 3)) (kk : ∀ (v : Option Value) (n' : Nat) (h' : Nat → tv_C), P v n' h' → V X (cells + mc) (slots + ms) n' h' (pc + 3) ls (v.toList ++ st)) : V X cells slots n h pc ls stk := by
  obtain ⟨⟨p, l, e, R, s, m, args, below, meth, c⟩, Q, ⟨cl, tys, D, G, bs, b⟩⟩ := X
  obtain ⟨hx, hb, hml, hown, hts, hns, hK, hlk, hbs, hbz, rfl, rfl, rfl⟩ := hC
  subst hstk
  intro H locs real hR hS hl
  have hp : PreS s H (va_Pc (As.map (tv_v bs b)) (tv_Pc Ns cl tys D G bs b n h)) (As.map (tv_v bs b)) := ⟨tv_blind hNs, fun U hU hW => ⟨rfl, (by rw [hU]; exact hR.moved hW.alike), fun w hw => tv_nest_warm (hNs w hw) hW (hns w hw), va_K.moved hW.alike hK, hbs⟩⟩
  refine tv_go (va_runSN (As := As.map (tv_v bs b)) (rest := st.map (tv_v bs b)) ⟨hx, hb, hml, hown, hts⟩ (hM l D G bs b) ⟨va_cnB As.length hts hG rfl rfl rfl (hns _ hw.1) (hts _ hw.2.1) hy ⟨hrm.1, hrm.2.1⟩, hts _ hw.2.2, trivial⟩ hp rfl (by rw [List.length_map]) (hl.1.trans hnl) (by show List.map _ _ = _; rw [List.map_append, List.map_reverse]) (lv_room (by rw [tv_v_sum]; exact hsum)) hd ⟨hrm.2.2.1, hrm.2.2.2⟩) hS (fun v n' h' H1 locs1 hp1 hR1 hS1 => ?_)
  have k1 := kk v n' h' hp1 H1 locs1 real hR1 hS1 hl
  cases v <;> exact k1
theorem V.callIN (hC : tv_K X cc nL own Ts Ns CL TY rm) (hNs : ∀ w ∈ Ns, tv_nest w) (hnl : ls.length = nL) {y : MethodName} {bytes : ByteArray} {maxL : Nat} {ws' : List Cond} {fr lo mc ms idx : Nat} {host : String} {a : Nat} {As stk : List Value} (hM : tv_Met y (Cond.code y bytes maxL none :: ws') Ns CL TY fr lo mc ms (.ref a :: As) n h P) (hG : GoodIn Ts (Cond.code y bytes maxL none :: ws')) (hw : Cond.methodLinkNest own idx y host ∈ Ns ∧ Cond.initialized y.cls ∈ Ts ∧ Cond.instanceMethod y ∈ Ts) (hnm : y.name = "<init>") (hy : y.cls ≠ "java/lang/invoke/MethodHandle" ∧ y.cls ≠ "java/lang/invoke/VarHandle" ∧ (parseMethodDescriptor y.desc).map (fun d => d.parameters.length) = some As.length) (hrm : fr + 1 ≤ rm.frames ∧ 8 + (maxL + 11) + lo ≤ rm.locals ∧ cells + mc ≤ rm.cells ∧ slots + ms ≤ rm.slots) (ha : 0 < a ∧ a ≤ n) (hstk : stk = As.reverse ++ .ref a :: st) (hsum : (st.map fun v => v.category).sum ≤ 8) (hd : decode cc pc = .ok (.invokespecial idx, 3)) (kk : ∀ (v : Option Value) (n' : Nat) (h' : Nat → tv_C), P v n' h' → V X (cells + mc) (slots + ms) n' h' (pc + 3) ls (v.toList ++ st)) : V X cells slots n h pc ls stk := by
  obtain ⟨⟨p, l, e, R, s, m, args, below, meth, c⟩, Q, ⟨cl, tys, D, G, bs, b⟩⟩ := X
  obtain ⟨hx, hb, hml, hown, hts, hns, hK, hlk, hbs, hbz, rfl, rfl, rfl⟩ := hC
  obtain ⟨a, rfl⟩ : ∃ a', a = a' + 1 := ⟨a - 1, by omega⟩
  subst hstk
  intro H locs real hR hS hl
  have hp : PreS s H (va_Pc ((Value.ref (a + 1) :: As).map (tv_v bs b)) (tv_Pc Ns cl tys D G bs b n h)) (.ref (b + a) :: As.map (tv_v bs b)) := ⟨tv_blind hNs, fun U hU hW => ⟨rfl, (by rw [hU]; exact hR.moved hW.alike), fun w hw => tv_nest_warm (hNs w hw) hW (hns w hw), va_K.moved hW.alike hK, hbs⟩⟩
  refine tv_go (va_runIN (As := As.map (tv_v bs b)) (rest := st.map (tv_v bs b)) ⟨hx, hb, hml, hown, hts⟩ (hM l D G bs b) ⟨va_cnB As.length hts hG rfl rfl rfl (hns _ hw.1) (hts _ hw.2.1) hy ⟨hrm.1, hrm.2.1⟩, hnm, hts _ hw.2.2⟩ hp rfl (by rw [List.length_map]) (hl.1.trans hnl) (by show List.map _ _ = _; rw [List.map_append, List.map_reverse]; rfl) (lv_room (by rw [tv_v_sum]; exact hsum)) hd ⟨hrm.2.2.1, hrm.2.2.2⟩) hS (fun v n' h' H1 locs1 hp1 hR1 hS1 => ?_)
  have k1 := kk v n' h' hp1 H1 locs1 real hR1 hS1 hl
  cases v <;> exact k1
theorem V.callV (hC : tv_K X cc nL own Ts Ns CL TY rm) (hNs : ∀ w ∈ Ns, tv_nest w) (hnl : ls.length = nL) {y : MethodName} {bytes : ByteArray} {maxL : Nat} {ret : Option FieldType} {ws' : List Cond} {fr lo mc ms idx : Nat} {C : String} {T : u_T} {N ci a : Nat} {fs : List Value} {As stk : List Value} (hM : tv_Met y (Cond.code y bytes maxL ret :: ws') Ns CL TY fr lo mc ms (.ref a :: As) n h P) (hG : GoodIn Ts (Cond.code y bytes maxL ret :: ws')) (hw : Cond.methodLink own idx y ∈ Ts ∧ Cond.initialized y.cls ∈ Ts ∧ Cond.instanceMethod y ∈ Ts ∧ Cond.selects C y y ∈ Ts) (hy : y.cls ≠ "java/lang/invoke/MethodHandle" ∧ y.cls ≠ "java/lang/invoke/VarHandle" ∧ (parseMethodDescriptor y.desc).map (fun d => d.parameters.length) = some As.length) (hrm : fr + 1 ≤ rm.frames ∧ 8 + (maxL + 11) + lo ≤ rm.locals ∧ cells + mc ≤ rm.cells ∧ slots + ms ≤ rm.slots) (hcl : CL[ci]? = some (C, T, N)) (ha : 0 < a ∧ a ≤ n) (hh : h a = .inr (ci, fs)) (hstk : stk = As.reverse ++ .ref a :: st) (hsum : (st.map fun v => v.category).sum ≤ 8) (hd : decode cc pc = .ok (.invokevirtual idx, 3)) (kk : ∀ (v : Option Value) (n' : Nat) (h' : Nat → tv_C), P v n' h' → V X (cells + mc) (slots + ms) n' h' (pc + 3) ls (v.toList ++ st)) : V X cells slots n h pc ls stk := by
  obtain ⟨⟨p, l, e, R, s, m, args, below, meth, c⟩, Q, ⟨cl, tys, D, G, bs, b⟩⟩ := X
  obtain ⟨hx, hb, hml, hown, hts, hns, hK, hlk, hbs, hbz, rfl, rfl, rfl⟩ := hC
  obtain ⟨a, rfl⟩ : ∃ a', a = a' + 1 := ⟨a - 1, by omega⟩
  subst hstk
  intro H locs real hR hS hl
  have he : (tv_W G bs b n h)[a]? = some (b + a, .inr (ci, fs.map (tv_v bs b))) := by rw [tv_W_at (by omega), hh]; rfl
  have hp : PreV s H C (b + a) (va_Pc ((Value.ref (a + 1) :: As).map (tv_v bs b)) (tv_Pc Ns cl tys D G bs b n h)) (As.map (tv_v bs b)) := ⟨tv_blind hNs, va_recv hK hR.2.1 hcl he, fun U hU hW => ⟨rfl, (by rw [hU]; exact hR.moved hW.alike), fun w hw => tv_nest_warm (hNs w hw) hW (hns w hw), va_K.moved hW.alike hK, hbs⟩⟩
  refine tv_go (va_runV (As := As.map (tv_v bs b)) (rest := st.map (tv_v bs b)) ⟨hx, hb, hml, hown, hts⟩ (hM l D G bs b) ⟨callB_of As.length hts hG rfl rfl rfl (hts _ hw.2.1) (hts _ hw.1) hy ⟨hrm.1, hrm.2.1⟩, hts _ hw.2.2.1, hts _ hw.2.2.2⟩ hp rfl (by rw [List.length_map]) (hl.1.trans hnl) (by show List.map _ _ = _; rw [List.map_append, List.map_reverse]; rfl) (lv_room (by rw [tv_v_sum]; exact hsum)) hd ⟨hrm.2.2.1, hrm.2.2.2⟩) hS (fun v n' h' H1 locs1 hp1 hR1 hS1 => ?_)
  have k1 := kk v n' h' hp1 H1 locs1 real hR1 hS1 hl
  cases v <;> exact k1
theorem V.callS (hC : tv_K X cc nL own Ts Ns CL TY rm) (hNs : ∀ w ∈ Ns, tv_nest w) (hnl : ls.length = nL) {y : MethodName} {bytes : ByteArray} {maxL : Nat} {ret : Option FieldType} {ws' : List Cond} {fr lo mc ms idx : Nat} {As stk : List Value} (hM : tv_Met y (Cond.code y bytes maxL ret :: ws') Ns CL TY fr lo mc ms (As) n h P) (hG : GoodIn Ts (Cond.code y bytes maxL ret :: ws')) (hw : Cond.methodLink own idx y ∈ Ts ∧ Cond.initialized y.cls ∈ Ts ∧ Cond.static y ∈ Ts) (hy : y.cls ≠ "java/lang/invoke/MethodHandle" ∧ y.cls ≠ "java/lang/invoke/VarHandle" ∧ (parseMethodDescriptor y.desc).map (fun d => d.parameters.length) = some As.length) (hrm : fr + 1 ≤ rm.frames ∧ 8 + (maxL + 11) + lo ≤ rm.locals ∧ cells + mc ≤ rm.cells ∧ slots + ms ≤ rm.slots) (hstk : stk = As.reverse ++ st) (hsum : (st.map fun v => v.category).sum ≤ 8) (hd : decode cc pc = .ok (.invokestatic idx, 3)) (kk : ∀ (v : Option Value) (n' : Nat) (h' : Nat → tv_C), P v n' h' → V X (cells + mc) (slots + ms) n' h' (pc + 3) ls (v.toList ++ st)) : V X cells slots n h pc ls stk := by
  obtain ⟨⟨p, l, e, R, s, m, args, below, meth, c⟩, Q, ⟨cl, tys, D, G, bs, b⟩⟩ := X
  obtain ⟨hx, hb, hml, hown, hts, hns, hK, hlk, hbs, hbz, rfl, rfl, rfl⟩ := hC
  subst hstk
  intro H locs real hR hS hl
  have hp : PreS s H (va_Pc (As.map (tv_v bs b)) (tv_Pc Ns cl tys D G bs b n h)) (As.map (tv_v bs b)) := ⟨tv_blind hNs, fun U hU hW => ⟨rfl, (by rw [hU]; exact hR.moved hW.alike), fun w hw => tv_nest_warm (hNs w hw) hW (hns w hw), va_K.moved hW.alike hK, hbs⟩⟩
  refine tv_go (va_runS (As := As.map (tv_v bs b)) (rest := st.map (tv_v bs b)) ⟨hx, hb, hml, hown, hts⟩ (hM l D G bs b) ⟨callB_of As.length hts hG rfl rfl rfl (hts _ hw.2.1) (hts _ hw.1) hy ⟨hrm.1, hrm.2.1⟩, hts _ hw.2.2⟩ hp rfl (by rw [List.length_map]) (hl.1.trans hnl) (by show List.map _ _ = _; rw [List.map_append, List.map_reverse]) (lv_room (by rw [tv_v_sum]; exact hsum)) hd ⟨hrm.2.2.1, hrm.2.2.2⟩) hS (fun v n' h' H1 locs1 hp1 hR1 hS1 => ?_)
  have k1 := kk v n' h' hp1 H1 locs1 real hR1 hS1 hl
  cases v <;> exact k1
theorem V.callI (hC : tv_K X cc nL own Ts Ns CL TY rm) (hNs : ∀ w ∈ Ns, tv_nest w) (hnl : ls.length = nL) {y : MethodName} {bytes : ByteArray} {maxL : Nat} {ws' : List Cond} {fr lo mc ms idx : Nat} {a : Nat} {As stk : List Value} (hM : tv_Met y (Cond.code y bytes maxL none :: ws') Ns CL TY fr lo mc ms (.ref a :: As) n h P) (hG : GoodIn Ts (Cond.code y bytes maxL none :: ws')) (hw : Cond.methodLink own idx y ∈ Ts ∧ Cond.initialized y.cls ∈ Ts ∧ Cond.instanceMethod y ∈ Ts) (hnm : y.name = "<init>") (hy : y.cls ≠ "java/lang/invoke/MethodHandle" ∧ y.cls ≠ "java/lang/invoke/VarHandle" ∧ (parseMethodDescriptor y.desc).map (fun d => d.parameters.length) = some As.length) (hrm : fr + 1 ≤ rm.frames ∧ 8 + (maxL + 11) + lo ≤ rm.locals ∧ cells + mc ≤ rm.cells ∧ slots + ms ≤ rm.slots) (ha : 0 < a ∧ a ≤ n) (hstk : stk = As.reverse ++ .ref a :: st) (hsum : (st.map fun v => v.category).sum ≤ 8) (hd : decode cc pc = .ok (.invokespecial idx, 3)) (kk : ∀ (v : Option Value) (n' : Nat) (h' : Nat → tv_C), P v n' h' → V X (cells + mc) (slots + ms) n' h' (pc + 3) ls (v.toList ++ st)) : V X cells slots n h pc ls stk := by
  obtain ⟨⟨p, l, e, R, s, m, args, below, meth, c⟩, Q, ⟨cl, tys, D, G, bs, b⟩⟩ := X
  obtain ⟨hx, hb, hml, hown, hts, hns, hK, hlk, hbs, hbz, rfl, rfl, rfl⟩ := hC
  obtain ⟨a, rfl⟩ : ∃ a', a = a' + 1 := ⟨a - 1, by omega⟩
  subst hstk
  intro H locs real hR hS hl
  have hp : PreS s H (va_Pc ((Value.ref (a + 1) :: As).map (tv_v bs b)) (tv_Pc Ns cl tys D G bs b n h)) (.ref (b + a) :: As.map (tv_v bs b)) := ⟨tv_blind hNs, fun U hU hW => ⟨rfl, (by rw [hU]; exact hR.moved hW.alike), fun w hw => tv_nest_warm (hNs w hw) hW (hns w hw), va_K.moved hW.alike hK, hbs⟩⟩
  refine tv_go (va_runI (As := As.map (tv_v bs b)) (rest := st.map (tv_v bs b)) ⟨hx, hb, hml, hown, hts⟩ (hM l D G bs b) ⟨callB_of As.length hts hG rfl rfl rfl (hts _ hw.2.1) (hts _ hw.1) hy ⟨hrm.1, hrm.2.1⟩, hnm, hts _ hw.2.2⟩ hp rfl (by rw [List.length_map]) (hl.1.trans hnl) (by show List.map _ _ = _; rw [List.map_append, List.map_reverse]; rfl) (lv_room (by rw [tv_v_sum]; exact hsum)) hd ⟨hrm.2.2.1, hrm.2.2.2⟩) hS (fun v n' h' H1 locs1 hp1 hR1 hS1 => ?_)
  have k1 := kk v n' h' hp1 H1 locs1 real hR1 hS1 hl
  cases v <;> exact k1
theorem V.objInit (hC : tv_K X cc nL own Ts Ns CL TY rm) (hnl : ls.length = nL) {idx a : Nat} (hw : Cond.methodLink own idx Lib.objectInit ∈ Ts ∧ Cond.instanceMethod Lib.objectInit ∈ Ts ∧ Cond.code Lib.objectInit ⟨#[0xb1]⟩ 1 none ∈ Ts) (hrm : 1 ≤ rm.frames ∧ (st.map fun v => v.category).sum + 12 ≤ rm.locals) (hd : decode cc pc = .ok (.invokespecial idx, 3)) (kk : V X cells slots n h (pc + 3) ls st) : V X cells slots n h pc ls (.ref a :: st) := by
  obtain ⟨⟨p, l, e, R, s, m, args, below, meth, c⟩, Q, ⟨cl, tys, D, G, bs, b⟩⟩ := X
  obtain ⟨hx, hb, hml, hown, hts, hns, hK, hlk, hbs, hbz, rfl, rfl, rfl⟩ := hC
  intro H locs real hR hS hl
  exact W.objInit hx hb hown (hts _ hw.1) (hts _ hw.2.1) (hts _ hw.2.2) rfl (by rw [hml, ← hnl]; exact hl.1) rfl hd hrm.1 (by show 2 * 0 + _ + 12 ≤ _; rw [tv_v_sum]; omega) (kk H locs real hR hS hl)
end TVE
end
section
/-! forgetting locals; System.arraycopy of ints over V -/
def tv_le (a b : List (Option Value)) : Prop := a.length = b.length ∧ ∀ (i : Nat) (v : Value), a[i]? = some (some v) → b[i]? = some (some v)
theorem tv_le_nil : tv_le [] [] := ⟨rfl, fun _ _ h => h⟩
theorem tv_le_none {a b : List (Option Value)} {x : Option Value} (h : tv_le a b) : tv_le (none :: a) (x :: b) := by
  refine ⟨by rw [List.length_cons, List.length_cons, h.1], fun i v hi => ?_⟩
  cases i with
  | zero => simp at hi
  | succ i => simpa using h.2 i v (by simpa using hi)
theorem tv_le_some {a b : List (Option Value)} {x : Option Value} (h : tv_le a b) : tv_le (x :: a) (x :: b) := by
  refine ⟨by rw [List.length_cons, List.length_cons, h.1], fun i v hi => ?_⟩
  cases i with
  | zero => simpa using hi
  | succ i => simpa using h.2 i v (by simpa using hi)
theorem V.less {X : tv_X} {cells slots n : Nat} {h : Nat → tv_C} {pc : Nat} {ls ls' : List (Option Value)} {st : List Value} (hle : tv_le ls' ls) (k : V X cells slots n h pc ls' st) : V X cells slots n h pc ls st := by
  obtain ⟨⟨p, l, e, R, s, m, args, below, meth, c⟩, Q, ⟨cl, tys, D, G, bs, b⟩⟩ := X
  intro H locs real hR hS hl
  refine k H locs real hR hS ⟨by rw [hle.1]; exact hl.1, hl.2.1, fun q hq => ?_⟩
  obtain ⟨v, h1, h2, h3⟩ := tv_ps_inv hq
  have h4 := hl.2.2 (q.1, tv_v bs b v) (tv_ps_mem (hle.2 _ _ h1) h2)
  rw [h3]
  exact h4
section TVCP
variable {X : tv_X} {cells slots n : Nat} {h : Nat → tv_C} {pc : Nat} {ls : List (Option Value)} {st : List Value} {cc : ByteArray} {nL : Nat} {own : String} {Ts Ns : List Cond} {CL : List vw_C} {TY : List FieldType} {rm : Room}
theorem V.acopy (hC : tv_K X cc nL own Ts Ns CL TY rm) (hnl : ls.length = nL) {idx t sa da len : Nat} {f g : Nat → Int32} (hw : Cond.methodLink own idx arraycopyName ∈ Ts ∧ Cond.native arraycopyName ∈ Ts ∧ Cond.static arraycopyName ∈ Ts ∧ Cond.initialized "java/lang/System" ∈ Ts) (hsa : 0 < sa ∧ sa ≤ n) (hhs : h sa = .inl (t, (len, .inl f))) (hda : 0 < da ∧ da ≤ n) (hhd : h da = .inl (t, (len, .inl g))) (ht : TY[t]? = some .int) {sp dp k : Int32} (h1 : ¬ sp < 0) (h2 : ¬ dp < 0) (h3 : ¬ k < 0) (h4 : sp.toNatClampNeg + k.toNatClampNeg ≤ len) (h5 : dp.toNatClampNeg + k.toNatClampNeg ≤ len) (hrm : 1 ≤ rm.frames ∧ (st.map fun v => v.category).sum + (nativeFrameWords "java/lang/System" "arraycopy" 5 + 11) ≤ rm.locals) (hd : decode cc pc = .ok (.invokestatic idx, 3)) (kk : V X cells slots n (va_up h da (.inl (t, (len, .inl (va_cpy f g sp.toNatClampNeg dp.toNatClampNeg k.toNatClampNeg))))) (pc + 3) ls st) : V X cells slots n h pc ls (.int k :: .int dp :: .ref da :: .int sp :: .ref sa :: st) := by
  obtain ⟨⟨p, l, e, R, s, m, args, below, meth, c⟩, Q, ⟨cl, tys, D, G, bs, b⟩⟩ := X
  obtain ⟨hx, hb, hml, hown, hts, hns, hK, hlk, hbs, hbz, rfl, rfl, rfl⟩ := hC
  obtain ⟨sa, rfl⟩ : ∃ a', sa = a' + 1 := ⟨sa - 1, by omega⟩
  obtain ⟨da, rfl⟩ : ∃ a', da = a' + 1 := ⟨da - 1, by omega⟩
  have nn : ∀ z : Int32, ¬ z < 0 → z.toInt = (z.toNatClampNeg : Int) := by
    intro z hz
    have hz0 : (0 : Int) ≤ z.toInt := by
      have := Int32.not_lt.mp hz
      simpa using Int32.le_iff_toInt_le.mp this
    show z.toInt = ((z.toInt.toNat : Nat) : Int)
    omega
  intro H locs real hR hS hl T hT XX
  have hes : (tv_W G bs b n h)[sa]? = some (b + sa, .inl (G t, (len, .inl f))) := by rw [tv_W_at (by omega), hhs]; rfl
  have hed : (tv_W G bs b n h)[da]? = some (b + da, .inl (G t, (len, .inl g))) := by rw [tv_W_at (by omega), hhd]; rfl
  have hc0 : H[b + sa]? = some (vp_cell (G t) (len, .inl f)) := hR.2.1 sa _ hes
  have hc1 : H[b + da]? = some (vp_cell (G t) (len, .inl g)) := hR.2.1 da _ hed
  obtain ⟨-, k0, hk0, cm0, hkk0⟩ := (hK.2 t _ (tv_T_at ht)).1 len (fun j => .int (f j))
  obtain ⟨-, k1, hk1, cm1, hkk1⟩ := (hK.2 t _ (tv_T_at ht)).1 len (fun j => .int (g j))
  obtain ⟨vm', X', step⟩ := XX.arraycopy hx hown (hts _ hw.1) (hts _ hw.2.1) (hts _ hw.2.2.1) (hts _ hw.2.2.2) (src := b + sa) (dst := b + da) (cs := vp_cell (G t) (len, .inl f)) (cd := vp_cell (G t) (len, .inl g)) (srcPos := sp) (destPos := dp) (n := k) (by rw [hT]; exact hc0) (by rw [hT]; exact hc1)
    (fun _ h => by cases h) (fun _ h => by cases h) (fun h => by cases h) (fun h => by cases h) hk0 hk1 hkk0 hkk1 (by rfl) h1 h2 h3
    (by rw [nn sp h1, nn k h3]; show ¬ _ > ((arrV (G t) len (fun j => .int (f j))).slots.size : Int); rw [arrV_size]; omega)
    (by rw [nn dp h2, nn k h3]; show ¬ _ > ((arrV (G t) len (fun j => .int (g j))).slots.size : Int); rw [arrV_size]; omega)
    (fun vm₁ _ i hi => by
      have e : (vp_cell (G t) (len, .inl f)).slots.getD (sp.toNatClampNeg + i) .null = .int (f (sp.toNatClampNeg + i)) := by
        show (arrV (G t) len (fun j => .int (f j))).slots.getD _ _ = _
        rw [Array.getD_eq_getD_getElem?, arrV_read _ _ (by omega)]
        rfl
      refine ⟨?_, ?_⟩
      · rw [e]; rfl
      · rw [e]; exact trivial)
    (g := F0 m pc real (.int k :: .int dp :: .ref (b + da) :: .int sp :: .ref (b + sa) :: st.map (tv_v bs b))) rfl (by rw [hml, ← hnl]; exact hl.1) (rest := st.map (tv_v bs b)) rfl (by rw [hb]; exact hd) hrm.1 (by show 2 * 0 + _ + _ ≤ _; rw [tv_v_sum]; have := hrm.2; omega)
  have e1 : copied (vp_cell (G t) (len, .inl f)) (vp_cell (G t) (len, .inl g)) sp dp k = vp_cell (G t) (len, .inl (va_cpy f g sp.toNatClampNeg dp.toNatClampNeg k.toNatClampNeg)) := va_copied (fun z => .int z) (G t) (G t) f g h4
  rw [e1] at X' step
  have hlt : b + da < H.size := (Array.getElem?_eq_some_iff.mp hc1).1
  generalize hcell : vp_cell (G t) (len, .inl (va_cpy f g sp.toNatClampNeg dp.toNatClampNeg k.toNatClampNeg)) = cell at X' step e1
  have hheap : ((T.setVm vm').setCell (b + da) cell).heap = H.setIfInBounds (b + da) cell := by rw [← hT]; rfl
  have oq : ∀ q : Nat, q ≠ b + da → (H.setIfInBounds (b + da) cell)[q]? = H[q]? := fun q hq => by simp [Array.getElem?_setIfInBounds, Ne.symm hq]
  have oa : (H.setIfInBounds (b + da) cell)[b + da]? = some cell := by simp [Array.getElem?_setIfInBounds, hlt]
  have hP1 : va_P D cl (tv_W G bs b n (va_up h (da + 1) (.inl (t, (len, .inl (va_cpy f g sp.toNatClampNeg dp.toNatClampNeg k.toNatClampNeg)))))) (H.setIfInBounds (b + da) cell) := by
    rw [← tv_W_set (by omega)]
    exact hR.2.1.set (tv_D G bs b n h) hed (by show (H.setIfInBounds (b + da) cell)[b + da]? = some (vp_cell _ _); rw [oa, ← hcell]; rfl) oq
  obtain ⟨t2, a1, b1⟩ := kk (H.setIfInBounds (b + da) cell) _ real ⟨by rw [Array.size_setIfInBounds]; exact hR.1, hP1, tv_sc (by omega) hR.2.2 (oq bs (by omega))⟩ ⟨by rw [Array.size_setIfInBounds]; exact hS.1, fun q g1 g2 => by
      rw [oq q (fun e => g2 (by show b ≤ q; omega))]
      exact hS.2.1 q g1 g2, fun q hq => by
      rcases List.mem_append.mp hq with h | h
      · exact hS.2.2 q h
      · obtain ⟨z, -, hz⟩ := List.mem_map.mp h
        rw [← hz]
        exact Nat.le_add_right _ _⟩ hl _ hheap X'
  exact ⟨t2, step t2 a1, b1⟩
end TVCP
end
section
/-! names, by program (wip/whole/names.py): classes, fields, methods, words -/
def tm_wg : List Cond := lw_tbl.filter goodWord
def tR_F : String := "TrickleMesh$Frame"
def tR_N : String := "TrickleMesh$Node"
def tR_R : String := "TrickleMesh$Radio"
def tR_T : String := "TrickleMesh$Timer"
def tR_X : String := "TrickleMesh"
def tR_Y : String := "TrickleMeshModel"
def tR_L : String := "TrickleMeshLaw"
def tT_F : u_T := fun k => match k with
  | 0 => ("TrickleMesh$Frame", "serial", "I", false)
  | 1 => ("TrickleMesh$Frame", "kind", "I", false)
  | 2 => ("TrickleMesh$Frame", "to", "I", false)
  | 3 => ("TrickleMesh$Frame", "goals", "I", false)
  | 4 => ("TrickleMesh$Frame", "withdrawal", "Z", false)
  | 5 => ("TrickleMesh$Frame", "numbers", "[I", true)
  | 6 => ("TrickleMesh$Frame", "source", "I", false)
  | 7 => ("TrickleMesh$Frame", "goal", "I", false)
  | 8 => ("TrickleMesh$Frame", "hops", "I", false)
  | 9 => ("TrickleMesh$Frame", "value", "I", false)
  | 10 => ("TrickleMesh$Frame", "down", "Z", false)
  | _ => ("TrickleMesh$Frame", "erred", "Z", false)
def tt_F : Nat → FieldType := fun k => match k with
  | 0 => .int
  | 1 => .int
  | 2 => .int
  | 3 => .int
  | 4 => .boolean
  | 5 => .array .int
  | 6 => .int
  | 7 => .int
  | 8 => .int
  | 9 => .int
  | 10 => .boolean
  | _ => .boolean
theorem tn_F : ∀ a, a < 12 → ∀ b, b < 12 → a ≠ b → (tT_F a).2.1 ≠ (tT_F b).2.1 := by decide +kernel
theorem to_F : ∀ k, k < 12 → parseFieldDescriptor (tT_F k).2.2.1 = some (tt_F k) := by decide +kernel
theorem tl_F : ∀ w ∈ u_ws tR_F tT_F 12, w ∈ tm_wg := by decide +kernel
def tT_N : u_T := fun k => match k with
  | 0 => ("TrickleMesh$Node", "id", "I", true)
  | 1 => ("TrickleMesh$Node", "radio", "LTrickleMesh$Radio;", true)
  | 2 => ("TrickleMesh$Node", "timer", "LTrickleMesh$Timer;", true)
  | 3 => ("TrickleMesh$Node", "ranks", "[I", true)
  | 4 => ("TrickleMesh$Node", "nexts", "[I", true)
  | 5 => ("TrickleMesh$Node", "numbers", "[I", true)
  | 6 => ("TrickleMesh$Node", "received", "[I", true)
  | 7 => ("TrickleMesh$Node", "arrivals", "[I", true)
  | 8 => ("TrickleMesh$Node", "arrived", "I", false)
  | 9 => ("TrickleMesh$Node", "alive", "Z", false)
  | 10 => ("TrickleMesh$Node", "version", "I", false)
  | 11 => ("TrickleMesh$Node", "rank", "I", false)
  | 12 => ("TrickleMesh$Node", "parent", "I", false)
  | _ => ("TrickleMesh$Node", "least", "I", false)
def tt_N : Nat → FieldType := fun k => match k with
  | 0 => .int
  | 1 => .object "TrickleMesh$Radio"
  | 2 => .object "TrickleMesh$Timer"
  | 3 => .array .int
  | 4 => .array .int
  | 5 => .array .int
  | 6 => .array .int
  | 7 => .array .int
  | 8 => .int
  | 9 => .boolean
  | 10 => .int
  | 11 => .int
  | 12 => .int
  | _ => .int
theorem tn_N : ∀ a, a < 14 → ∀ b, b < 14 → a ≠ b → (tT_N a).2.1 ≠ (tT_N b).2.1 := by decide +kernel
theorem to_N : ∀ k, k < 14 → parseFieldDescriptor (tT_N k).2.2.1 = some (tt_N k) := by decide +kernel
theorem tl_N : ∀ w ∈ u_ws tR_N tT_N 14, w ∈ tm_wg := by decide +kernel
def tT_R : u_T := fun k => match k with
  | 0 => ("TrickleMesh$Radio", "frames", "[LTrickleMesh$Frame;", true)
  | 1 => ("TrickleMesh$Radio", "size", "I", false)
  | 2 => ("TrickleMesh$Radio", "wait", "I", false)
  | 3 => ("TrickleMesh$Radio", "busy", "I", false)
  | 4 => ("TrickleMesh$Radio", "tries", "I", false)
  | 5 => ("TrickleMesh$Radio", "air", "I", false)
  | 6 => ("TrickleMesh$Radio", "wasOnAir", "Z", false)
  | 7 => ("TrickleMesh$Radio", "ackTo", "I", false)
  | 8 => ("TrickleMesh$Radio", "owes", "I", false)
  | 9 => ("TrickleMesh$Radio", "listens", "Z", false)
  | _ => ("TrickleMesh$Radio", "hears", "I", false)
def tt_R : Nat → FieldType := fun k => match k with
  | 0 => .array (.object "TrickleMesh$Frame")
  | 1 => .int
  | 2 => .int
  | 3 => .int
  | 4 => .int
  | 5 => .int
  | 6 => .boolean
  | 7 => .int
  | 8 => .int
  | 9 => .boolean
  | _ => .int
theorem tn_R : ∀ a, a < 11 → ∀ b, b < 11 → a ≠ b → (tT_R a).2.1 ≠ (tT_R b).2.1 := by decide +kernel
theorem to_R : ∀ k, k < 11 → parseFieldDescriptor (tT_R k).2.2.1 = some (tt_R k) := by decide +kernel
theorem tl_R : ∀ w ∈ u_ws tR_R tT_R 11, w ∈ tm_wg := by decide +kernel
def tT_T : u_T := fun k => match k with
  | 0 => ("TrickleMesh$Timer", "started", "Z", false)
  | 1 => ("TrickleMesh$Timer", "interval", "I", false)
  | 2 => ("TrickleMesh$Timer", "clock", "I", false)
  | 3 => ("TrickleMesh$Timer", "point", "I", false)
  | _ => ("TrickleMesh$Timer", "count", "I", false)
def tt_T : Nat → FieldType := fun k => match k with
  | 0 => .boolean
  | 1 => .int
  | 2 => .int
  | 3 => .int
  | _ => .int
theorem tn_T : ∀ a, a < 5 → ∀ b, b < 5 → a ≠ b → (tT_T a).2.1 ≠ (tT_T b).2.1 := by decide +kernel
theorem to_T : ∀ k, k < 5 → parseFieldDescriptor (tT_T k).2.2.1 = some (tt_T k) := by decide +kernel
theorem tl_T : ∀ w ∈ u_ws tR_T tT_T 5, w ∈ tm_wg := by decide +kernel
def tT_X : u_T := fun k => match k with
  | 0 => ("TrickleMesh", "rise", "I", true)
  | 1 => ("TrickleMesh", "redundant", "I", true)
  | 2 => ("TrickleMesh", "nodes", "[LTrickleMesh$Node;", true)
  | 3 => ("TrickleMesh", "costs", "[[I", true)
  | 4 => ("TrickleMesh", "seed", "I", false)
  | 5 => ("TrickleMesh", "ticks", "I", false)
  | 6 => ("TrickleMesh", "serials", "I", false)
  | 7 => ("TrickleMesh", "sentValues", "I", false)
  | 8 => ("TrickleMesh", "droppedValues", "I", false)
  | 9 => ("TrickleMesh", "deliveredValues", "I", false)
  | _ => ("TrickleMesh", "airedFrames", "I", false)
def tt_X : Nat → FieldType := fun k => match k with
  | 0 => .int
  | 1 => .int
  | 2 => .array (.object "TrickleMesh$Node")
  | 3 => .array (.array .int)
  | 4 => .int
  | 5 => .int
  | 6 => .int
  | 7 => .int
  | 8 => .int
  | 9 => .int
  | _ => .int
theorem tn_X : ∀ a, a < 11 → ∀ b, b < 11 → a ≠ b → (tT_X a).2.1 ≠ (tT_X b).2.1 := by decide +kernel
theorem to_X : ∀ k, k < 11 → parseFieldDescriptor (tT_X k).2.2.1 = some (tt_X k) := by decide +kernel
theorem tl_X : ∀ w ∈ u_ws tR_X tT_X 11, w ∈ tm_wg := by decide +kernel
def tT_Y : u_T := fun k => match k with
  | 0 => ("TrickleMeshModel", "drawn", "I", false)
  | 1 => ("TrickleMeshModel", "rise", "I", true)
  | 2 => ("TrickleMeshModel", "redundant", "I", true)
  | 3 => ("TrickleMeshModel", "ticks", "I", false)
  | 4 => ("TrickleMeshModel", "cost", "[I", false)
  | 5 => ("TrickleMeshModel", "ranks", "[I", false)
  | 6 => ("TrickleMeshModel", "knows", "[Z", false)
  | 7 => ("TrickleMeshModel", "nextOf", "[I", false)
  | 8 => ("TrickleMeshModel", "numbers", "[I", false)
  | 9 => ("TrickleMeshModel", "lastFrom", "[I", false)
  | 10 => ("TrickleMeshModel", "dead", "[Z", false)
  | 11 => ("TrickleMeshModel", "version", "[I", false)
  | 12 => ("TrickleMeshModel", "rank", "[I", false)
  | 13 => ("TrickleMeshModel", "parent", "[I", false)
  | 14 => ("TrickleMeshModel", "least", "[I", false)
  | 15 => ("TrickleMeshModel", "timed", "[Z", false)
  | 16 => ("TrickleMeshModel", "interval", "[I", false)
  | 17 => ("TrickleMeshModel", "clock", "[I", false)
  | 18 => ("TrickleMeshModel", "point", "[I", false)
  | 19 => ("TrickleMeshModel", "heardCount", "[I", false)
  | 20 => ("TrickleMeshModel", "queued", "[I", false)
  | 21 => ("TrickleMeshModel", "many", "[I", false)
  | 22 => ("TrickleMeshModel", "wait", "[I", false)
  | 23 => ("TrickleMeshModel", "busy", "[I", false)
  | 24 => ("TrickleMeshModel", "tries", "[I", false)
  | 25 => ("TrickleMeshModel", "owes", "[I", false)
  | 26 => ("TrickleMeshModel", "listens", "[Z", false)
  | 27 => ("TrickleMeshModel", "used", "[Z", false)
  | 28 => ("TrickleMeshModel", "name", "[I", false)
  | 29 => ("TrickleMeshModel", "kind", "[I", false)
  | 30 => ("TrickleMeshModel", "to", "[I", false)
  | 31 => ("TrickleMeshModel", "goals", "[I", false)
  | 32 => ("TrickleMeshModel", "goalNumbers", "[I", false)
  | 33 => ("TrickleMeshModel", "withdraws", "[Z", false)
  | 34 => ("TrickleMeshModel", "source", "[I", false)
  | 35 => ("TrickleMeshModel", "goal", "[I", false)
  | 36 => ("TrickleMeshModel", "hops", "[I", false)
  | 37 => ("TrickleMeshModel", "load", "[I", false)
  | 38 => ("TrickleMeshModel", "down", "[Z", false)
  | 39 => ("TrickleMeshModel", "erred", "[Z", false)
  | 40 => ("TrickleMeshModel", "names", "I", false)
  | 41 => ("TrickleMeshModel", "onAir", "[I", false)
  | 42 => ("TrickleMeshModel", "ackFor", "[I", false)
  | 43 => ("TrickleMeshModel", "wasOn", "[Z", false)
  | 44 => ("TrickleMeshModel", "listened", "[Z", false)
  | 45 => ("TrickleMeshModel", "answered", "[Z", false)
  | 46 => ("TrickleMeshModel", "sends", "I", false)
  | 47 => ("TrickleMeshModel", "dropped", "I", false)
  | 48 => ("TrickleMeshModel", "deliveredAll", "I", false)
  | 49 => ("TrickleMeshModel", "framesOn", "I", false)
  | 50 => ("TrickleMeshModel", "got", "[I", false)
  | _ => ("TrickleMeshModel", "latest", "[I", false)
def tt_Y : Nat → FieldType := fun k => match k with
  | 0 => .int
  | 1 => .int
  | 2 => .int
  | 3 => .int
  | 4 => .array .int
  | 5 => .array .int
  | 6 => .array .boolean
  | 7 => .array .int
  | 8 => .array .int
  | 9 => .array .int
  | 10 => .array .boolean
  | 11 => .array .int
  | 12 => .array .int
  | 13 => .array .int
  | 14 => .array .int
  | 15 => .array .boolean
  | 16 => .array .int
  | 17 => .array .int
  | 18 => .array .int
  | 19 => .array .int
  | 20 => .array .int
  | 21 => .array .int
  | 22 => .array .int
  | 23 => .array .int
  | 24 => .array .int
  | 25 => .array .int
  | 26 => .array .boolean
  | 27 => .array .boolean
  | 28 => .array .int
  | 29 => .array .int
  | 30 => .array .int
  | 31 => .array .int
  | 32 => .array .int
  | 33 => .array .boolean
  | 34 => .array .int
  | 35 => .array .int
  | 36 => .array .int
  | 37 => .array .int
  | 38 => .array .boolean
  | 39 => .array .boolean
  | 40 => .int
  | 41 => .array .int
  | 42 => .array .int
  | 43 => .array .boolean
  | 44 => .array .boolean
  | 45 => .array .boolean
  | 46 => .int
  | 47 => .int
  | 48 => .int
  | 49 => .int
  | 50 => .array .int
  | _ => .array .int
theorem tn_Y : ∀ a, a < 52 → ∀ b, b < 52 → a ≠ b → (tT_Y a).2.1 ≠ (tT_Y b).2.1 := by decide +kernel
theorem to_Y : ∀ k, k < 52 → parseFieldDescriptor (tT_Y k).2.2.1 = some (tt_Y k) := by decide +kernel
theorem tl_Y : ∀ w ∈ u_ws tR_Y tT_Y 52, w ∈ tm_wg := by decide +kernel
abbrev tm_cl : List vw_C := [(tR_F, tT_F, 12), (tR_N, tT_N, 14), (tR_R, tT_R, 11), (tR_T, tT_T, 5), (tR_X, tT_X, 11), (tR_Y, tT_Y, 52)]
abbrev tb_X_init : ByteArray := prog_1_method_1_code
def ty_X_init : MethodName := ⟨"TrickleMesh", "<init>", "(III)V"⟩
theorem tc_X_init : Cond.code ty_X_init tb_X_init 5 (Option.none : Option Jvm.ClassFile.FieldType) ∈ tm_wg := List.mem_filter.mpr ⟨List.mem_append_right _ (List.mem_of_getElem? (i := 14) (by decide +kernel)), by decide +kernel⟩
abbrev tb_N_init : ByteArray := prog_3_method_1_code
def ty_N_init : MethodName := ⟨"TrickleMesh$Node", "<init>", "(I)V"⟩
theorem tc_N_init : Cond.code ty_N_init tb_N_init 2 (Option.none : Option Jvm.ClassFile.FieldType) ∈ tm_wg := List.mem_filter.mpr ⟨List.mem_append_right _ (List.mem_of_getElem? (i := 31) (by decide +kernel)), by decide +kernel⟩
abbrev tb_R_init : ByteArray := prog_4_method_1_code
def ty_R_init : MethodName := ⟨"TrickleMesh$Radio", "<init>", "()V"⟩
theorem tc_R_init : Cond.code ty_R_init tb_R_init 2 (Option.none : Option Jvm.ClassFile.FieldType) ∈ tm_wg := List.mem_filter.mpr ⟨List.mem_append_right _ (List.mem_of_getElem? (i := 37) (by decide +kernel)), by decide +kernel⟩
abbrev tb_F_init : ByteArray := prog_2_method_1_code
def ty_F_init : MethodName := ⟨"TrickleMesh$Frame", "<init>", "()V"⟩
theorem tc_F_init : Cond.code ty_F_init tb_F_init 1 (Option.none : Option Jvm.ClassFile.FieldType) ∈ tm_wg := List.mem_filter.mpr ⟨List.mem_append_right _ (List.mem_of_getElem? (i := 44) (by decide +kernel)), by decide +kernel⟩
abbrev tb_T_init : ByteArray := prog_5_method_1_code
def ty_T_init : MethodName := ⟨"TrickleMesh$Timer", "<init>", "()V"⟩
theorem tc_T_init : Cond.code ty_T_init tb_T_init 1 (Option.none : Option Jvm.ClassFile.FieldType) ∈ tm_wg := List.mem_filter.mpr ⟨List.mem_append_right _ (List.mem_of_getElem? (i := 132) (by decide +kernel)), by decide +kernel⟩
abbrev tb_JA_fill : ByteArray := prog_10_method_103_code
def ty_JA_fill : MethodName := ⟨"java/util/Arrays", "fill", "([II)V"⟩
theorem tc_JA_fill : Cond.code ty_JA_fill tb_JA_fill 4 (Option.none : Option Jvm.ClassFile.FieldType) ∈ tm_wg := List.mem_filter.mpr ⟨List.mem_append_right _ (List.mem_of_getElem? (i := 153) (by decide +kernel)), by decide +kernel⟩
abbrev tb_X_resetTimer : ByteArray := prog_1_method_29_code
def ty_X_resetTimer : MethodName := ⟨"TrickleMesh", "resetTimer", "(LTrickleMesh$Node;)V"⟩
theorem tc_X_resetTimer : Cond.code ty_X_resetTimer tb_X_resetTimer 2 (Option.none : Option Jvm.ClassFile.FieldType) ∈ tm_wg := List.mem_filter.mpr ⟨List.mem_append_right _ (List.mem_of_getElem? (i := 212) (by decide +kernel)), by decide +kernel⟩
abbrev tb_X_beginInterval : ByteArray := prog_1_method_30_code
def ty_X_beginInterval : MethodName := ⟨"TrickleMesh", "beginInterval", "(LTrickleMesh$Timer;I)V"⟩
theorem tc_X_beginInterval : Cond.code ty_X_beginInterval tb_X_beginInterval 4 (Option.none : Option Jvm.ClassFile.FieldType) ∈ tm_wg := List.mem_filter.mpr ⟨List.mem_append_right _ (List.mem_of_getElem? (i := 216) (by decide +kernel)), by decide +kernel⟩
abbrev tb_X_draw : ByteArray := prog_1_method_14_code
def ty_X_draw : MethodName := ⟨"TrickleMesh", "draw", "(I)I"⟩
theorem tc_X_draw : Cond.code ty_X_draw tb_X_draw 2 (Option.some Jvm.ClassFile.FieldType.int) ∈ tm_wg := List.mem_filter.mpr ⟨List.mem_append_right _ (List.mem_of_getElem? (i := 220) (by decide +kernel)), by decide +kernel⟩
abbrev tb_X_link : ByteArray := prog_1_method_2_code
def ty_X_link : MethodName := ⟨"TrickleMesh", "link", "(III)Z"⟩
theorem tc_X_link : Cond.code ty_X_link tb_X_link 4 (Option.some Jvm.ClassFile.FieldType.boolean) ∈ tm_wg := List.mem_filter.mpr ⟨List.mem_append_right _ (List.mem_of_getElem? (i := 259) (by decide +kernel)), by decide +kernel⟩
abbrev tb_X_isNode : ByteArray := prog_1_method_12_code
def ty_X_isNode : MethodName := ⟨"TrickleMesh", "isNode", "(I)Z"⟩
theorem tc_X_isNode : Cond.code ty_X_isNode tb_X_isNode 1 (Option.some Jvm.ClassFile.FieldType.boolean) ∈ tm_wg := List.mem_filter.mpr ⟨List.mem_append_right _ (List.mem_of_getElem? (i := 262) (by decide +kernel)), by decide +kernel⟩
abbrev tb_X_kill : ByteArray := prog_1_method_3_code
def ty_X_kill : MethodName := ⟨"TrickleMesh", "kill", "(I)Z"⟩
theorem tc_X_kill : Cond.code ty_X_kill tb_X_kill 3 (Option.some Jvm.ClassFile.FieldType.boolean) ∈ tm_wg := List.mem_filter.mpr ⟨List.mem_append_right _ (List.mem_of_getElem? (i := 266) (by decide +kernel)), by decide +kernel⟩
abbrev tb_X_repair : ByteArray := prog_1_method_4_code
def ty_X_repair : MethodName := ⟨"TrickleMesh", "repair", "()I"⟩
theorem tc_X_repair : Cond.code ty_X_repair tb_X_repair 2 (Option.some Jvm.ClassFile.FieldType.int) ∈ tm_wg := List.mem_filter.mpr ⟨List.mem_append_right _ (List.mem_of_getElem? (i := 270) (by decide +kernel)), by decide +kernel⟩
abbrev tb_X_send : ByteArray := prog_1_method_5_code
def ty_X_send : MethodName := ⟨"TrickleMesh", "send", "(IIII)I"⟩
theorem tc_X_send : Cond.code ty_X_send tb_X_send 5 (Option.some Jvm.ClassFile.FieldType.int) ∈ tm_wg := List.mem_filter.mpr ⟨List.mem_append_right _ (List.mem_of_getElem? (i := 274) (by decide +kernel)), by decide +kernel⟩
abbrev tb_X_sendOn : ByteArray := prog_1_method_44_code
def ty_X_sendOn : MethodName := ⟨"TrickleMesh", "sendOn", "(LTrickleMesh$Node;IIIIZ)V"⟩
theorem tc_X_sendOn : Cond.code ty_X_sendOn tb_X_sendOn 10 (Option.none : Option Jvm.ClassFile.FieldType) ∈ tm_wg := List.mem_filter.mpr ⟨List.mem_append_right _ (List.mem_of_getElem? (i := 278) (by decide +kernel)), by decide +kernel⟩
abbrev tb_X_enqueue : ByteArray := prog_1_method_15_code
def ty_X_enqueue : MethodName := ⟨"TrickleMesh", "enqueue", "(LTrickleMesh$Node;II)LTrickleMesh$Frame;"⟩
theorem tc_X_enqueue : Cond.code ty_X_enqueue tb_X_enqueue 6 (Option.some (Jvm.ClassFile.FieldType.object "TrickleMesh$Frame")) ∈ tm_wg := List.mem_filter.mpr ⟨List.mem_append_right _ (List.mem_of_getElem? (i := 282) (by decide +kernel)), by decide +kernel⟩
abbrev tb_R_beginFirst : ByteArray := prog_4_method_2_code
def ty_R_beginFirst : MethodName := ⟨"TrickleMesh$Radio", "beginFirst", "(I)V"⟩
theorem tc_R_beginFirst : Cond.code ty_R_beginFirst tb_R_beginFirst 2 (Option.none : Option Jvm.ClassFile.FieldType) ∈ tm_wg := List.mem_filter.mpr ⟨List.mem_append_right _ (List.mem_of_getElem? (i := 286) (by decide +kernel)), by decide +kernel⟩
abbrev tb_X_tick : ByteArray := prog_1_method_6_code
def ty_X_tick : MethodName := ⟨"TrickleMesh", "tick", "(I)I"⟩
theorem tc_X_tick : Cond.code ty_X_tick tb_X_tick 3 (Option.some Jvm.ClassFile.FieldType.int) ∈ tm_wg := List.mem_filter.mpr ⟨List.mem_append_right _ (List.mem_of_getElem? (i := 290) (by decide +kernel)), by decide +kernel⟩
abbrev tb_X_rememberTheAir : ByteArray := prog_1_method_19_code
def ty_X_rememberTheAir : MethodName := ⟨"TrickleMesh", "rememberTheAir", "()V"⟩
theorem tc_X_rememberTheAir : Cond.code ty_X_rememberTheAir tb_X_rememberTheAir 3 (Option.none : Option Jvm.ClassFile.FieldType) ∈ tm_wg := List.mem_filter.mpr ⟨List.mem_append_right _ (List.mem_of_getElem? (i := 294) (by decide +kernel)), by decide +kernel⟩
abbrev tb_X_goOnTheAir : ByteArray := prog_1_method_20_code
def ty_X_goOnTheAir : MethodName := ⟨"TrickleMesh", "goOnTheAir", "()V"⟩
theorem tc_X_goOnTheAir : Cond.code ty_X_goOnTheAir tb_X_goOnTheAir 4 (Option.none : Option Jvm.ClassFile.FieldType) ∈ tm_wg := List.mem_filter.mpr ⟨List.mem_append_right _ (List.mem_of_getElem? (i := 298) (by decide +kernel)), by decide +kernel⟩
abbrev tb_X_seemsBusy : ByteArray := prog_1_method_21_code
def ty_X_seemsBusy : MethodName := ⟨"TrickleMesh", "seemsBusy", "(LTrickleMesh$Node;)Z"⟩
theorem tc_X_seemsBusy : Cond.code ty_X_seemsBusy tb_X_seemsBusy 3 (Option.some Jvm.ClassFile.FieldType.boolean) ∈ tm_wg := List.mem_filter.mpr ⟨List.mem_append_right _ (List.mem_of_getElem? (i := 302) (by decide +kernel)), by decide +kernel⟩
abbrev tb_X_failFirst : ByteArray := prog_1_method_18_code
def ty_X_failFirst : MethodName := ⟨"TrickleMesh", "failFirst", "(LTrickleMesh$Node;)V"⟩
theorem tc_X_failFirst : Cond.code ty_X_failFirst tb_X_failFirst 5 (Option.none : Option Jvm.ClassFile.FieldType) ∈ tm_wg := List.mem_filter.mpr ⟨List.mem_append_right _ (List.mem_of_getElem? (i := 306) (by decide +kernel)), by decide +kernel⟩
abbrev tb_X_removeFirst : ByteArray := prog_1_method_17_code
def ty_X_removeFirst : MethodName := ⟨"TrickleMesh", "removeFirst", "(LTrickleMesh$Radio;)V"⟩
theorem tc_X_removeFirst : Cond.code ty_X_removeFirst tb_X_removeFirst 4 (Option.none : Option Jvm.ClassFile.FieldType) ∈ tm_wg := List.mem_filter.mpr ⟨List.mem_append_right _ (List.mem_of_getElem? (i := 310) (by decide +kernel)), by decide +kernel⟩
abbrev tb_X_choose : ByteArray := prog_1_method_36_code
def ty_X_choose : MethodName := ⟨"TrickleMesh", "choose", "(LTrickleMesh$Node;)V"⟩
theorem tc_X_choose : Cond.code ty_X_choose tb_X_choose 6 (Option.none : Option Jvm.ClassFile.FieldType) ∈ tm_wg := List.mem_filter.mpr ⟨List.mem_append_right _ (List.mem_of_getElem? (i := 314) (by decide +kernel)), by decide +kernel⟩
abbrev tb_X_bestParent : ByteArray := prog_1_method_37_code
def ty_X_bestParent : MethodName := ⟨"TrickleMesh", "bestParent", "(LTrickleMesh$Node;)I"⟩
theorem tc_X_bestParent : Cond.code ty_X_bestParent tb_X_bestParent 5 (Option.some Jvm.ClassFile.FieldType.int) ∈ tm_wg := List.mem_filter.mpr ⟨List.mem_append_right _ (List.mem_of_getElem? (i := 318) (by decide +kernel)), by decide +kernel⟩
abbrev tb_X_isBetter : ByteArray := prog_1_method_38_code
def ty_X_isBetter : MethodName := ⟨"TrickleMesh", "isBetter", "(LTrickleMesh$Node;II)Z"⟩
theorem tc_X_isBetter : Cond.code ty_X_isBetter tb_X_isBetter 5 (Option.some Jvm.ClassFile.FieldType.boolean) ∈ tm_wg := List.mem_filter.mpr ⟨List.mem_append_right _ (List.mem_of_getElem? (i := 322) (by decide +kernel)), by decide +kernel⟩
abbrev tb_X_rankBelow : ByteArray := prog_1_method_39_code
def ty_X_rankBelow : MethodName := ⟨"TrickleMesh", "rankBelow", "(LTrickleMesh$Node;I)I"⟩
theorem tc_X_rankBelow : Cond.code ty_X_rankBelow tb_X_rankBelow 3 (Option.some Jvm.ClassFile.FieldType.int) ∈ tm_wg := List.mem_filter.mpr ⟨List.mem_append_right _ (List.mem_of_getElem? (i := 326) (by decide +kernel)), by decide +kernel⟩
abbrev tb_X_ownGoals : ByteArray := prog_1_method_40_code
def ty_X_ownGoals : MethodName := ⟨"TrickleMesh", "ownGoals", "(LTrickleMesh$Node;)I"⟩
theorem tc_X_ownGoals : Cond.code ty_X_ownGoals tb_X_ownGoals 3 (Option.some Jvm.ClassFile.FieldType.int) ∈ tm_wg := List.mem_filter.mpr ⟨List.mem_append_right _ (List.mem_of_getElem? (i := 329) (by decide +kernel)), by decide +kernel⟩
abbrev tb_X_announce : ByteArray := prog_1_method_41_code
def ty_X_announce : MethodName := ⟨"TrickleMesh", "announce", "(LTrickleMesh$Node;IIZ)V"⟩
theorem tc_X_announce : Cond.code ty_X_announce tb_X_announce 6 (Option.none : Option Jvm.ClassFile.FieldType) ∈ tm_wg := List.mem_filter.mpr ⟨List.mem_append_right _ (List.mem_of_getElem? (i := 333) (by decide +kernel)), by decide +kernel⟩
abbrev tb_X_hearTheAir : ByteArray := prog_1_method_22_code
def ty_X_hearTheAir : MethodName := ⟨"TrickleMesh", "hearTheAir", "()V"⟩
theorem tc_X_hearTheAir : Cond.code ty_X_hearTheAir tb_X_hearTheAir 4 (Option.none : Option Jvm.ClassFile.FieldType) ∈ tm_wg := List.mem_filter.mpr ⟨List.mem_append_right _ (List.mem_of_getElem? (i := 340) (by decide +kernel)), by decide +kernel⟩
abbrev tb_X_onlySpeaker : ByteArray := prog_1_method_23_code
def ty_X_onlySpeaker : MethodName := ⟨"TrickleMesh", "onlySpeaker", "(I)I"⟩
theorem tc_X_onlySpeaker : Cond.code ty_X_onlySpeaker tb_X_onlySpeaker 4 (Option.some Jvm.ClassFile.FieldType.int) ∈ tm_wg := List.mem_filter.mpr ⟨List.mem_append_right _ (List.mem_of_getElem? (i := 344) (by decide +kernel)), by decide +kernel⟩
abbrev tb_X_takeWhatWasHeard : ByteArray := prog_1_method_24_code
def ty_X_takeWhatWasHeard : MethodName := ⟨"TrickleMesh", "takeWhatWasHeard", "()V"⟩
theorem tc_X_takeWhatWasHeard : Cond.code ty_X_takeWhatWasHeard tb_X_takeWhatWasHeard 6 (Option.none : Option Jvm.ClassFile.FieldType) ∈ tm_wg := List.mem_filter.mpr ⟨List.mem_append_right _ (List.mem_of_getElem? (i := 348) (by decide +kernel)), by decide +kernel⟩
abbrev tb_X_takeAck : ByteArray := prog_1_method_31_code
def ty_X_takeAck : MethodName := ⟨"TrickleMesh", "takeAck", "(LTrickleMesh$Node;LTrickleMesh$Node;)V"⟩
theorem tc_X_takeAck : Cond.code ty_X_takeAck tb_X_takeAck 5 (Option.none : Option Jvm.ClassFile.FieldType) ∈ tm_wg := List.mem_filter.mpr ⟨List.mem_append_right _ (List.mem_of_getElem? (i := 352) (by decide +kernel)), by decide +kernel⟩
abbrev tb_X_takeSolicit : ByteArray := prog_1_method_32_code
def ty_X_takeSolicit : MethodName := ⟨"TrickleMesh", "takeSolicit", "(LTrickleMesh$Node;)V"⟩
theorem tc_X_takeSolicit : Cond.code ty_X_takeSolicit tb_X_takeSolicit 2 (Option.none : Option Jvm.ClassFile.FieldType) ∈ tm_wg := List.mem_filter.mpr ⟨List.mem_append_right _ (List.mem_of_getElem? (i := 356) (by decide +kernel)), by decide +kernel⟩
abbrev tb_X_takeAdvert : ByteArray := prog_1_method_33_code
def ty_X_takeAdvert : MethodName := ⟨"TrickleMesh", "takeAdvert", "(LTrickleMesh$Node;LTrickleMesh$Node;)V"⟩
theorem tc_X_takeAdvert : Cond.code ty_X_takeAdvert tb_X_takeAdvert 5 (Option.none : Option Jvm.ClassFile.FieldType) ∈ tm_wg := List.mem_filter.mpr ⟨List.mem_append_right _ (List.mem_of_getElem? (i := 360) (by decide +kernel)), by decide +kernel⟩
abbrev tb_X_takeVersion : ByteArray := prog_1_method_34_code
def ty_X_takeVersion : MethodName := ⟨"TrickleMesh", "takeVersion", "(LTrickleMesh$Node;I)V"⟩
theorem tc_X_takeVersion : Cond.code ty_X_takeVersion tb_X_takeVersion 4 (Option.none : Option Jvm.ClassFile.FieldType) ∈ tm_wg := List.mem_filter.mpr ⟨List.mem_append_right _ (List.mem_of_getElem? (i := 364) (by decide +kernel)), by decide +kernel⟩
abbrev tb_X_takeOwn : ByteArray := prog_1_method_35_code
def ty_X_takeOwn : MethodName := ⟨"TrickleMesh", "takeOwn", "(LTrickleMesh$Node;LTrickleMesh$Node;LTrickleMesh$Frame;)V"⟩
theorem tc_X_takeOwn : Cond.code ty_X_takeOwn tb_X_takeOwn 4 (Option.none : Option Jvm.ClassFile.FieldType) ∈ tm_wg := List.mem_filter.mpr ⟨List.mem_append_right _ (List.mem_of_getElem? (i := 369) (by decide +kernel)), by decide +kernel⟩
abbrev tb_X_receiveAnnounce : ByteArray := prog_1_method_42_code
def ty_X_receiveAnnounce : MethodName := ⟨"TrickleMesh", "receiveAnnounce", "(LTrickleMesh$Node;ILTrickleMesh$Frame;)V"⟩
theorem tc_X_receiveAnnounce : Cond.code ty_X_receiveAnnounce tb_X_receiveAnnounce 7 (Option.none : Option Jvm.ClassFile.FieldType) ∈ tm_wg := List.mem_filter.mpr ⟨List.mem_append_right _ (List.mem_of_getElem? (i := 373) (by decide +kernel)), by decide +kernel⟩
abbrev tb_X_changeRoute : ByteArray := prog_1_method_43_code
def ty_X_changeRoute : MethodName := ⟨"TrickleMesh", "changeRoute", "(LTrickleMesh$Node;IILTrickleMesh$Frame;)Z"⟩
theorem tc_X_changeRoute : Cond.code ty_X_changeRoute tb_X_changeRoute 7 (Option.some Jvm.ClassFile.FieldType.boolean) ∈ tm_wg := List.mem_filter.mpr ⟨List.mem_append_right _ (List.mem_of_getElem? (i := 376) (by decide +kernel)), by decide +kernel⟩
abbrev tb_X_receiveValue : ByteArray := prog_1_method_45_code
def ty_X_receiveValue : MethodName := ⟨"TrickleMesh", "receiveValue", "(LTrickleMesh$Node;ILTrickleMesh$Frame;)V"⟩
theorem tc_X_receiveValue : Cond.code ty_X_receiveValue tb_X_receiveValue 5 (Option.none : Option Jvm.ClassFile.FieldType) ∈ tm_wg := List.mem_filter.mpr ⟨List.mem_append_right _ (List.mem_of_getElem? (i := 380) (by decide +kernel)), by decide +kernel⟩
abbrev tb_X_deliver : ByteArray := prog_1_method_46_code
def ty_X_deliver : MethodName := ⟨"TrickleMesh", "deliver", "(LTrickleMesh$Node;LTrickleMesh$Frame;)V"⟩
theorem tc_X_deliver : Cond.code ty_X_deliver tb_X_deliver 3 (Option.none : Option Jvm.ClassFile.FieldType) ∈ tm_wg := List.mem_filter.mpr ⟨List.mem_append_right _ (List.mem_of_getElem? (i := 384) (by decide +kernel)), by decide +kernel⟩
abbrev tb_X_settleWhatWasOnTheAir : ByteArray := prog_1_method_25_code
def ty_X_settleWhatWasOnTheAir : MethodName := ⟨"TrickleMesh", "settleWhatWasOnTheAir", "()V"⟩
theorem tc_X_settleWhatWasOnTheAir : Cond.code ty_X_settleWhatWasOnTheAir tb_X_settleWhatWasOnTheAir 3 (Option.none : Option Jvm.ClassFile.FieldType) ∈ tm_wg := List.mem_filter.mpr ⟨List.mem_append_right _ (List.mem_of_getElem? (i := 388) (by decide +kernel)), by decide +kernel⟩
abbrev tb_X_settleWhatWasListenedFor : ByteArray := prog_1_method_26_code
def ty_X_settleWhatWasListenedFor : MethodName := ⟨"TrickleMesh", "settleWhatWasListenedFor", "()V"⟩
theorem tc_X_settleWhatWasListenedFor : Cond.code ty_X_settleWhatWasListenedFor tb_X_settleWhatWasListenedFor 3 (Option.none : Option Jvm.ClassFile.FieldType) ∈ tm_wg := List.mem_filter.mpr ⟨List.mem_append_right _ (List.mem_of_getElem? (i := 392) (by decide +kernel)), by decide +kernel⟩
abbrev tb_X_runTimers : ByteArray := prog_1_method_27_code
def ty_X_runTimers : MethodName := ⟨"TrickleMesh", "runTimers", "()V"⟩
theorem tc_X_runTimers : Cond.code ty_X_runTimers tb_X_runTimers 3 (Option.none : Option Jvm.ClassFile.FieldType) ∈ tm_wg := List.mem_filter.mpr ⟨List.mem_append_right _ (List.mem_of_getElem? (i := 396) (by decide +kernel)), by decide +kernel⟩
abbrev tb_X_runTimer : ByteArray := prog_1_method_28_code
def ty_X_runTimer : MethodName := ⟨"TrickleMesh", "runTimer", "(LTrickleMesh$Node;)V"⟩
theorem tc_X_runTimer : Cond.code ty_X_runTimer tb_X_runTimer 3 (Option.none : Option Jvm.ClassFile.FieldType) ∈ tm_wg := List.mem_filter.mpr ⟨List.mem_append_right _ (List.mem_of_getElem? (i := 400) (by decide +kernel)), by decide +kernel⟩
abbrev tb_X_enqueueOnce : ByteArray := prog_1_method_16_code
def ty_X_enqueueOnce : MethodName := ⟨"TrickleMesh", "enqueueOnce", "(LTrickleMesh$Node;I)V"⟩
theorem tc_X_enqueueOnce : Cond.code ty_X_enqueueOnce tb_X_enqueueOnce 4 (Option.none : Option Jvm.ClassFile.FieldType) ∈ tm_wg := List.mem_filter.mpr ⟨List.mem_append_right _ (List.mem_of_getElem? (i := 404) (by decide +kernel)), by decide +kernel⟩
abbrev tb_X_node : ByteArray := prog_1_method_7_code
def ty_X_node : MethodName := ⟨"TrickleMesh", "node", "(II)I"⟩
theorem tc_X_node : Cond.code ty_X_node tb_X_node 6 (Option.some Jvm.ClassFile.FieldType.int) ∈ tm_wg := List.mem_filter.mpr ⟨List.mem_append_right _ (List.mem_of_getElem? (i := 408) (by decide +kernel)), by decide +kernel⟩
abbrev tb_X_condition : ByteArray := prog_1_method_13_code
def ty_X_condition : MethodName := ⟨"TrickleMesh", "condition", "(LTrickleMesh$Node;)I"⟩
theorem tc_X_condition : Cond.code ty_X_condition tb_X_condition 1 (Option.some Jvm.ClassFile.FieldType.int) ∈ tm_wg := List.mem_filter.mpr ⟨List.mem_append_right _ (List.mem_of_getElem? (i := 411) (by decide +kernel)), by decide +kernel⟩
abbrev tb_X_next : ByteArray := prog_1_method_8_code
def ty_X_next : MethodName := ⟨"TrickleMesh", "next", "(II)I"⟩
theorem tc_X_next : Cond.code ty_X_next tb_X_next 3 (Option.some Jvm.ClassFile.FieldType.int) ∈ tm_wg := List.mem_filter.mpr ⟨List.mem_append_right _ (List.mem_of_getElem? (i := 415) (by decide +kernel)), by decide +kernel⟩
abbrev tb_X_known : ByteArray := prog_1_method_9_code
def ty_X_known : MethodName := ⟨"TrickleMesh", "known", "(II)I"⟩
theorem tc_X_known : Cond.code ty_X_known tb_X_known 3 (Option.some Jvm.ClassFile.FieldType.int) ∈ tm_wg := List.mem_filter.mpr ⟨List.mem_append_right _ (List.mem_of_getElem? (i := 419) (by decide +kernel)), by decide +kernel⟩
abbrev tb_X_delivered : ByteArray := prog_1_method_10_code
def ty_X_delivered : MethodName := ⟨"TrickleMesh", "delivered", "(II)I"⟩
theorem tc_X_delivered : Cond.code ty_X_delivered tb_X_delivered 4 (Option.some Jvm.ClassFile.FieldType.int) ∈ tm_wg := List.mem_filter.mpr ⟨List.mem_append_right _ (List.mem_of_getElem? (i := 423) (by decide +kernel)), by decide +kernel⟩
abbrev tb_X_count : ByteArray := prog_1_method_11_code
def ty_X_count : MethodName := ⟨"TrickleMesh", "count", "(I)I"⟩
theorem tc_X_count : Cond.code ty_X_count tb_X_count 2 (Option.some Jvm.ClassFile.FieldType.int) ∈ tm_wg := List.mem_filter.mpr ⟨List.mem_append_right _ (List.mem_of_getElem? (i := 427) (by decide +kernel)), by decide +kernel⟩
abbrev tb_L_cell : ByteArray := method_2_code
def ty_L_cell : MethodName := ⟨"TrickleMeshLaw", "cell", "([II)I"⟩
theorem tc_L_cell : Cond.code ty_L_cell tb_L_cell 2 (Option.some Jvm.ClassFile.FieldType.int) ∈ tm_wg := List.mem_filter.mpr ⟨List.mem_append_right _ (List.mem_of_getElem? (i := 430) (by decide +kernel)), by decide +kernel⟩
abbrev tb_Y_init : ByteArray := prog_7_method_1_code
def ty_Y_init : MethodName := ⟨"TrickleMeshModel", "<init>", "(III)V"⟩
theorem tc_Y_init : Cond.code ty_Y_init tb_Y_init 5 (Option.none : Option Jvm.ClassFile.FieldType) ∈ tm_wg := List.mem_filter.mpr ⟨List.mem_append_right _ (List.mem_of_getElem? (i := 435) (by decide +kernel)), by decide +kernel⟩
abbrev tb_Y_reset : ByteArray := prog_7_method_10_code
def ty_Y_reset : MethodName := ⟨"TrickleMeshModel", "reset", "(I)V"⟩
theorem tc_Y_reset : Cond.code ty_Y_reset tb_Y_reset 2 (Option.none : Option Jvm.ClassFile.FieldType) ∈ tm_wg := List.mem_filter.mpr ⟨List.mem_append_right _ (List.mem_of_getElem? (i := 440) (by decide +kernel)), by decide +kernel⟩
abbrev tb_Y_begin : ByteArray := prog_7_method_9_code
def ty_Y_begin : MethodName := ⟨"TrickleMeshModel", "begin", "(I)V"⟩
theorem tc_Y_begin : Cond.code ty_Y_begin tb_Y_begin 2 (Option.none : Option Jvm.ClassFile.FieldType) ∈ tm_wg := List.mem_filter.mpr ⟨List.mem_append_right _ (List.mem_of_getElem? (i := 444) (by decide +kernel)), by decide +kernel⟩
abbrev tb_Y_draw : ByteArray := prog_7_method_2_code
def ty_Y_draw : MethodName := ⟨"TrickleMeshModel", "draw", "(I)I"⟩
theorem tc_Y_draw : Cond.code ty_Y_draw tb_Y_draw 2 (Option.some Jvm.ClassFile.FieldType.int) ∈ tm_wg := List.mem_filter.mpr ⟨List.mem_append_right _ (List.mem_of_getElem? (i := 448) (by decide +kernel)), by decide +kernel⟩
abbrev tb_Y_link : ByteArray := prog_7_method_27_code
def ty_Y_link : MethodName := ⟨"TrickleMeshModel", "link", "(III)Z"⟩
theorem tc_Y_link : Cond.code ty_Y_link tb_Y_link 4 (Option.some Jvm.ClassFile.FieldType.boolean) ∈ tm_wg := List.mem_filter.mpr ⟨List.mem_append_right _ (List.mem_of_getElem? (i := 611) (by decide +kernel)), by decide +kernel⟩
abbrev tb_Y_isNode : ByteArray := prog_7_method_26_code
def ty_Y_isNode : MethodName := ⟨"TrickleMeshModel", "isNode", "(I)Z"⟩
theorem tc_Y_isNode : Cond.code ty_Y_isNode tb_Y_isNode 1 (Option.some Jvm.ClassFile.FieldType.boolean) ∈ tm_wg := List.mem_filter.mpr ⟨List.mem_append_right _ (List.mem_of_getElem? (i := 614) (by decide +kernel)), by decide +kernel⟩
abbrev tb_Y_kill : ByteArray := prog_7_method_28_code
def ty_Y_kill : MethodName := ⟨"TrickleMeshModel", "kill", "(I)Z"⟩
theorem tc_Y_kill : Cond.code ty_Y_kill tb_Y_kill 3 (Option.some Jvm.ClassFile.FieldType.boolean) ∈ tm_wg := List.mem_filter.mpr ⟨List.mem_append_right _ (List.mem_of_getElem? (i := 618) (by decide +kernel)), by decide +kernel⟩
abbrev tb_Y_repair : ByteArray := prog_7_method_29_code
def ty_Y_repair : MethodName := ⟨"TrickleMeshModel", "repair", "()I"⟩
theorem tc_Y_repair : Cond.code ty_Y_repair tb_Y_repair 1 (Option.some Jvm.ClassFile.FieldType.int) ∈ tm_wg := List.mem_filter.mpr ⟨List.mem_append_right _ (List.mem_of_getElem? (i := 622) (by decide +kernel)), by decide +kernel⟩
abbrev tb_Y_send : ByteArray := prog_7_method_30_code
def ty_Y_send : MethodName := ⟨"TrickleMeshModel", "send", "(IIII)I"⟩
theorem tc_Y_send : Cond.code ty_Y_send tb_Y_send 5 (Option.some Jvm.ClassFile.FieldType.int) ∈ tm_wg := List.mem_filter.mpr ⟨List.mem_append_right _ (List.mem_of_getElem? (i := 626) (by decide +kernel)), by decide +kernel⟩
abbrev tb_Y_sendOn : ByteArray := prog_7_method_17_code
def ty_Y_sendOn : MethodName := ⟨"TrickleMeshModel", "sendOn", "(IIIIIZ)V"⟩
theorem tc_Y_sendOn : Cond.code ty_Y_sendOn tb_Y_sendOn 10 (Option.none : Option Jvm.ClassFile.FieldType) ∈ tm_wg := List.mem_filter.mpr ⟨List.mem_append_right _ (List.mem_of_getElem? (i := 630) (by decide +kernel)), by decide +kernel⟩
abbrev tb_Y_makeFrame : ByteArray := prog_7_method_3_code
def ty_Y_makeFrame : MethodName := ⟨"TrickleMeshModel", "makeFrame", "(II)I"⟩
theorem tc_Y_makeFrame : Cond.code ty_Y_makeFrame tb_Y_makeFrame 4 (Option.some Jvm.ClassFile.FieldType.int) ∈ tm_wg := List.mem_filter.mpr ⟨List.mem_append_right _ (List.mem_of_getElem? (i := 634) (by decide +kernel)), by decide +kernel⟩
abbrev tb_Y_queue : ByteArray := prog_7_method_5_code
def ty_Y_queue : MethodName := ⟨"TrickleMeshModel", "queue", "(II)V"⟩
theorem tc_Y_queue : Cond.code ty_Y_queue tb_Y_queue 3 (Option.none : Option Jvm.ClassFile.FieldType) ∈ tm_wg := List.mem_filter.mpr ⟨List.mem_append_right _ (List.mem_of_getElem? (i := 638) (by decide +kernel)), by decide +kernel⟩
abbrev tb_Y_first : ByteArray := prog_7_method_4_code
def ty_Y_first : MethodName := ⟨"TrickleMeshModel", "first", "(I)V"⟩
theorem tc_Y_first : Cond.code ty_Y_first tb_Y_first 2 (Option.none : Option Jvm.ClassFile.FieldType) ∈ tm_wg := List.mem_filter.mpr ⟨List.mem_append_right _ (List.mem_of_getElem? (i := 642) (by decide +kernel)), by decide +kernel⟩
abbrev tb_Y_tick : ByteArray := prog_7_method_31_code
def ty_Y_tick : MethodName := ⟨"TrickleMeshModel", "tick", "(I)I"⟩
theorem tc_Y_tick : Cond.code ty_Y_tick tb_Y_tick 3 (Option.some Jvm.ClassFile.FieldType.int) ∈ tm_wg := List.mem_filter.mpr ⟨List.mem_append_right _ (List.mem_of_getElem? (i := 646) (by decide +kernel)), by decide +kernel⟩
abbrev tb_Y_slot : ByteArray := prog_7_method_23_code
def ty_Y_slot : MethodName := ⟨"TrickleMeshModel", "slot", "()V"⟩
theorem tc_Y_slot : Cond.code ty_Y_slot tb_Y_slot 3 (Option.none : Option Jvm.ClassFile.FieldType) ∈ tm_wg := List.mem_filter.mpr ⟨List.mem_append_right _ (List.mem_of_getElem? (i := 650) (by decide +kernel)), by decide +kernel⟩
abbrev tb_Y_air : ByteArray := prog_7_method_20_code
def ty_Y_air : MethodName := ⟨"TrickleMeshModel", "air", "(I)V"⟩
theorem tc_Y_air : Cond.code ty_Y_air tb_Y_air 3 (Option.none : Option Jvm.ClassFile.FieldType) ∈ tm_wg := List.mem_filter.mpr ⟨List.mem_append_right _ (List.mem_of_getElem? (i := 654) (by decide +kernel)), by decide +kernel⟩
abbrev tb_Y_nearWasOn : ByteArray := prog_7_method_19_code
def ty_Y_nearWasOn : MethodName := ⟨"TrickleMeshModel", "nearWasOn", "(I)Z"⟩
theorem tc_Y_nearWasOn : Cond.code ty_Y_nearWasOn tb_Y_nearWasOn 4 (Option.some Jvm.ClassFile.FieldType.boolean) ∈ tm_wg := List.mem_filter.mpr ⟨List.mem_append_right _ (List.mem_of_getElem? (i := 658) (by decide +kernel)), by decide +kernel⟩
abbrev tb_Y_fails : ByteArray := prog_7_method_8_code
def ty_Y_fails : MethodName := ⟨"TrickleMeshModel", "fails", "(I)V"⟩
theorem tc_Y_fails : Cond.code ty_Y_fails tb_Y_fails 5 (Option.none : Option Jvm.ClassFile.FieldType) ∈ tm_wg := List.mem_filter.mpr ⟨List.mem_append_right _ (List.mem_of_getElem? (i := 662) (by decide +kernel)), by decide +kernel⟩
abbrev tb_Y_done : ByteArray := prog_7_method_7_code
def ty_Y_done : MethodName := ⟨"TrickleMeshModel", "done", "(I)V"⟩
theorem tc_Y_done : Cond.code ty_Y_done tb_Y_done 3 (Option.none : Option Jvm.ClassFile.FieldType) ∈ tm_wg := List.mem_filter.mpr ⟨List.mem_append_right _ (List.mem_of_getElem? (i := 666) (by decide +kernel)), by decide +kernel⟩
abbrev tb_Y_choose : ByteArray := prog_7_method_14_code
def ty_Y_choose : MethodName := ⟨"TrickleMeshModel", "choose", "(I)Z"⟩
theorem tc_Y_choose : Cond.code ty_Y_choose tb_Y_choose 9 (Option.some Jvm.ClassFile.FieldType.boolean) ∈ tm_wg := List.mem_filter.mpr ⟨List.mem_append_right _ (List.mem_of_getElem? (i := 670) (by decide +kernel)), by decide +kernel⟩
abbrev tb_Y_allGoals : ByteArray := prog_7_method_13_code
def ty_Y_allGoals : MethodName := ⟨"TrickleMeshModel", "allGoals", "(I)I"⟩
theorem tc_Y_allGoals : Cond.code ty_Y_allGoals tb_Y_allGoals 4 (Option.some Jvm.ClassFile.FieldType.int) ∈ tm_wg := List.mem_filter.mpr ⟨List.mem_append_right _ (List.mem_of_getElem? (i := 674) (by decide +kernel)), by decide +kernel⟩
abbrev tb_Y_announce : ByteArray := prog_7_method_12_code
def ty_Y_announce : MethodName := ⟨"TrickleMeshModel", "announce", "(IIIZ)V"⟩
theorem tc_Y_announce : Cond.code ty_Y_announce tb_Y_announce 7 (Option.none : Option Jvm.ClassFile.FieldType) ∈ tm_wg := List.mem_filter.mpr ⟨List.mem_append_right _ (List.mem_of_getElem? (i := 678) (by decide +kernel)), by decide +kernel⟩
abbrev tb_Y_heardFrom : ByteArray := prog_7_method_21_code
def ty_Y_heardFrom : MethodName := ⟨"TrickleMeshModel", "heardFrom", "(I)I"⟩
theorem tc_Y_heardFrom : Cond.code ty_Y_heardFrom tb_Y_heardFrom 5 (Option.some Jvm.ClassFile.FieldType.int) ∈ tm_wg := List.mem_filter.mpr ⟨List.mem_append_right _ (List.mem_of_getElem? (i := 682) (by decide +kernel)), by decide +kernel⟩
abbrev tb_Y_takes : ByteArray := prog_7_method_22_code
def ty_Y_takes : MethodName := ⟨"TrickleMeshModel", "takes", "(II)V"⟩
theorem tc_Y_takes : Cond.code ty_Y_takes tb_Y_takes 4 (Option.none : Option Jvm.ClassFile.FieldType) ∈ tm_wg := List.mem_filter.mpr ⟨List.mem_append_right _ (List.mem_of_getElem? (i := 686) (by decide +kernel)), by decide +kernel⟩
abbrev tb_Y_advert : ByteArray := prog_7_method_15_code
def ty_Y_advert : MethodName := ⟨"TrickleMeshModel", "advert", "(II)V"⟩
theorem tc_Y_advert : Cond.code ty_Y_advert tb_Y_advert 4 (Option.none : Option Jvm.ClassFile.FieldType) ∈ tm_wg := List.mem_filter.mpr ⟨List.mem_append_right _ (List.mem_of_getElem? (i := 690) (by decide +kernel)), by decide +kernel⟩
abbrev tb_Y_announced : ByteArray := prog_7_method_16_code
def ty_Y_announced : MethodName := ⟨"TrickleMeshModel", "announced", "(III)V"⟩
theorem tc_Y_announced : Cond.code ty_Y_announced tb_Y_announced 10 (Option.none : Option Jvm.ClassFile.FieldType) ∈ tm_wg := List.mem_filter.mpr ⟨List.mem_append_right _ (List.mem_of_getElem? (i := 694) (by decide +kernel)), by decide +kernel⟩
abbrev tb_Y_valued : ByteArray := prog_7_method_18_code
def ty_Y_valued : MethodName := ⟨"TrickleMeshModel", "valued", "(III)V"⟩
theorem tc_Y_valued : Cond.code ty_Y_valued tb_Y_valued 6 (Option.none : Option Jvm.ClassFile.FieldType) ∈ tm_wg := List.mem_filter.mpr ⟨List.mem_append_right _ (List.mem_of_getElem? (i := 698) (by decide +kernel)), by decide +kernel⟩
abbrev tb_Y_unheard : ByteArray := prog_7_method_24_code
def ty_Y_unheard : MethodName := ⟨"TrickleMeshModel", "unheard", "(I)V"⟩
theorem tc_Y_unheard : Cond.code ty_Y_unheard tb_Y_unheard 2 (Option.none : Option Jvm.ClassFile.FieldType) ∈ tm_wg := List.mem_filter.mpr ⟨List.mem_append_right _ (List.mem_of_getElem? (i := 702) (by decide +kernel)), by decide +kernel⟩
abbrev tb_Y_later : ByteArray := prog_7_method_25_code
def ty_Y_later : MethodName := ⟨"TrickleMeshModel", "later", "(I)V"⟩
theorem tc_Y_later : Cond.code ty_Y_later tb_Y_later 3 (Option.none : Option Jvm.ClassFile.FieldType) ∈ tm_wg := List.mem_filter.mpr ⟨List.mem_append_right _ (List.mem_of_getElem? (i := 706) (by decide +kernel)), by decide +kernel⟩
abbrev tb_Y_timer : ByteArray := prog_7_method_11_code
def ty_Y_timer : MethodName := ⟨"TrickleMeshModel", "timer", "(I)V"⟩
theorem tc_Y_timer : Cond.code ty_Y_timer tb_Y_timer 3 (Option.none : Option Jvm.ClassFile.FieldType) ∈ tm_wg := List.mem_filter.mpr ⟨List.mem_append_right _ (List.mem_of_getElem? (i := 710) (by decide +kernel)), by decide +kernel⟩
abbrev tb_Y_queues : ByteArray := prog_7_method_6_code
def ty_Y_queues : MethodName := ⟨"TrickleMeshModel", "queues", "(II)Z"⟩
theorem tc_Y_queues : Cond.code ty_Y_queues tb_Y_queues 5 (Option.some Jvm.ClassFile.FieldType.boolean) ∈ tm_wg := List.mem_filter.mpr ⟨List.mem_append_right _ (List.mem_of_getElem? (i := 714) (by decide +kernel)), by decide +kernel⟩
abbrev tb_Y_node : ByteArray := prog_7_method_32_code
def ty_Y_node : MethodName := ⟨"TrickleMeshModel", "node", "(II)I"⟩
theorem tc_Y_node : Cond.code ty_Y_node tb_Y_node 4 (Option.some Jvm.ClassFile.FieldType.int) ∈ tm_wg := List.mem_filter.mpr ⟨List.mem_append_right _ (List.mem_of_getElem? (i := 718) (by decide +kernel)), by decide +kernel⟩
abbrev tb_Y_next : ByteArray := prog_7_method_33_code
def ty_Y_next : MethodName := ⟨"TrickleMeshModel", "next", "(II)I"⟩
theorem tc_Y_next : Cond.code ty_Y_next tb_Y_next 3 (Option.some Jvm.ClassFile.FieldType.int) ∈ tm_wg := List.mem_filter.mpr ⟨List.mem_append_right _ (List.mem_of_getElem? (i := 722) (by decide +kernel)), by decide +kernel⟩
abbrev tb_Y_known : ByteArray := prog_7_method_34_code
def ty_Y_known : MethodName := ⟨"TrickleMeshModel", "known", "(II)I"⟩
theorem tc_Y_known : Cond.code ty_Y_known tb_Y_known 3 (Option.some Jvm.ClassFile.FieldType.int) ∈ tm_wg := List.mem_filter.mpr ⟨List.mem_append_right _ (List.mem_of_getElem? (i := 726) (by decide +kernel)), by decide +kernel⟩
abbrev tb_Y_delivered : ByteArray := prog_7_method_35_code
def ty_Y_delivered : MethodName := ⟨"TrickleMeshModel", "delivered", "(II)I"⟩
theorem tc_Y_delivered : Cond.code ty_Y_delivered tb_Y_delivered 3 (Option.some Jvm.ClassFile.FieldType.int) ∈ tm_wg := List.mem_filter.mpr ⟨List.mem_append_right _ (List.mem_of_getElem? (i := 730) (by decide +kernel)), by decide +kernel⟩
abbrev tb_Y_count : ByteArray := prog_7_method_36_code
def ty_Y_count : MethodName := ⟨"TrickleMeshModel", "count", "(I)I"⟩
theorem tc_Y_count : Cond.code ty_Y_count tb_Y_count 2 (Option.some Jvm.ClassFile.FieldType.int) ∈ tm_wg := List.mem_filter.mpr ⟨List.mem_append_right _ (List.mem_of_getElem? (i := 734) (by decide +kernel)), by decide +kernel⟩
end
section
/-! the places of the pools that the code names, by program (wip/whole/names.py) -/
def tm_ns : List Cond := [.arrayOver (.object "TrickleMesh$Node"), .arrayOver (.array .int), .arrayOver (.object "TrickleMesh$Frame"), .methodLinkNest "TrickleMesh$Radio" 30 ty_F_init "TrickleMesh", .methodLinkNest "TrickleMesh$Node" 20 ty_T_init "TrickleMesh"]
theorem tm_ns_in : ∀ w ∈ tm_ns, w ∈ lw_tbl := by decide +kernel
theorem ti_L : Cond.initialized "TrickleMeshLaw" ∈ tm_wg := List.mem_filter.mpr ⟨List.mem_append_right _ (List.mem_of_getElem? (i := 0) (by decide +kernel)), by decide +kernel⟩
theorem ti_X : Cond.initialized "TrickleMesh" ∈ tm_wg := List.mem_filter.mpr ⟨List.mem_append_right _ (List.mem_of_getElem? (i := 1) (by decide +kernel)), by decide +kernel⟩
theorem ti_JM : Cond.initialized "java/lang/Math" ∈ tm_wg := List.mem_filter.mpr ⟨List.mem_append_right _ (List.mem_of_getElem? (i := 2) (by decide +kernel)), by decide +kernel⟩
theorem ti_N : Cond.initialized "TrickleMesh$Node" ∈ tm_wg := List.mem_filter.mpr ⟨List.mem_append_right _ (List.mem_of_getElem? (i := 3) (by decide +kernel)), by decide +kernel⟩
theorem ti_R : Cond.initialized "TrickleMesh$Radio" ∈ tm_wg := List.mem_filter.mpr ⟨List.mem_append_right _ (List.mem_of_getElem? (i := 4) (by decide +kernel)), by decide +kernel⟩
theorem ti_F : Cond.initialized "TrickleMesh$Frame" ∈ tm_wg := List.mem_filter.mpr ⟨List.mem_append_right _ (List.mem_of_getElem? (i := 5) (by decide +kernel)), by decide +kernel⟩
theorem ti_T : Cond.initialized "TrickleMesh$Timer" ∈ tm_wg := List.mem_filter.mpr ⟨List.mem_append_right _ (List.mem_of_getElem? (i := 6) (by decide +kernel)), by decide +kernel⟩
theorem ti_JA : Cond.initialized "java/util/Arrays" ∈ tm_wg := List.mem_filter.mpr ⟨List.mem_append_right _ (List.mem_of_getElem? (i := 7) (by decide +kernel)), by decide +kernel⟩
theorem ti_Y : Cond.initialized "TrickleMeshModel" ∈ tm_wg := List.mem_filter.mpr ⟨List.mem_append_right _ (List.mem_of_getElem? (i := 8) (by decide +kernel)), by decide +kernel⟩
theorem ti_JS : Cond.initialized "java/lang/System" ∈ tm_wg := List.mem_filter.mpr ⟨List.mem_append_right _ (List.mem_of_getElem? (i := 9) (by decide +kernel)), by decide +kernel⟩
theorem tg_L_15 : Cond.methodLink "TrickleMeshLaw" 15 ty_X_init ∈ tm_wg ∧ Cond.initialized ty_X_init.cls ∈ tm_wg ∧ Cond.instanceMethod ty_X_init ∈ tm_wg := ⟨List.mem_filter.mpr ⟨List.mem_append_right _ (List.mem_of_getElem? (i := 12) (by decide +kernel)), by decide +kernel⟩, ti_X, List.mem_filter.mpr ⟨List.mem_append_right _ (List.mem_of_getElem? (i := 13) (by decide +kernel)), by decide +kernel⟩⟩
theorem th_X_init : ty_X_init.cls ≠ "java/lang/invoke/MethodHandle" ∧ ty_X_init.cls ≠ "java/lang/invoke/VarHandle" ∧ (parseMethodDescriptor ty_X_init.desc).map (fun d => d.parameters.length) = some 3 := ⟨by decide, by decide, by decide +kernel⟩
theorem tg_X_24 : Cond.methodLink "TrickleMesh" 24 Lib.Math.min.name ∈ tm_wg ∧ Cond.static Lib.Math.min.name ∈ tm_wg ∧ Cond.initialized "java/lang/Math" ∈ tm_wg ∧ Cond.code Lib.Math.min.name Lib.Math.min.code 2 (some .int) ∈ tm_wg := ⟨List.mem_filter.mpr ⟨List.mem_append_right _ (List.mem_of_getElem? (i := 22) (by decide +kernel)), by decide +kernel⟩, List.mem_filter.mpr ⟨List.mem_append_right _ (List.mem_of_getElem? (i := 23) (by decide +kernel)), by decide +kernel⟩, ti_JM, List.mem_filter.mpr ⟨List.mem_append_right _ (List.mem_of_getElem? (i := 24) (by decide +kernel)), by decide +kernel⟩⟩
theorem tg_X_30 : Cond.methodLink "TrickleMesh" 30 Lib.Math.max.name ∈ tm_wg ∧ Cond.static Lib.Math.max.name ∈ tm_wg ∧ Cond.initialized "java/lang/Math" ∈ tm_wg ∧ Cond.code Lib.Math.max.name Lib.Math.max.code 2 (some .int) ∈ tm_wg := ⟨List.mem_filter.mpr ⟨List.mem_append_right _ (List.mem_of_getElem? (i := 25) (by decide +kernel)), by decide +kernel⟩, List.mem_filter.mpr ⟨List.mem_append_right _ (List.mem_of_getElem? (i := 26) (by decide +kernel)), by decide +kernel⟩, ti_JM, List.mem_filter.mpr ⟨List.mem_append_right _ (List.mem_of_getElem? (i := 27) (by decide +kernel)), by decide +kernel⟩⟩
theorem tg_X_39 : Cond.methodLink "TrickleMesh" 39 ty_N_init ∈ tm_wg ∧ Cond.initialized ty_N_init.cls ∈ tm_wg ∧ Cond.instanceMethod ty_N_init ∈ tm_wg := ⟨List.mem_filter.mpr ⟨List.mem_append_right _ (List.mem_of_getElem? (i := 29) (by decide +kernel)), by decide +kernel⟩, ti_N, List.mem_filter.mpr ⟨List.mem_append_right _ (List.mem_of_getElem? (i := 30) (by decide +kernel)), by decide +kernel⟩⟩
theorem th_N_init : ty_N_init.cls ≠ "java/lang/invoke/MethodHandle" ∧ ty_N_init.cls ≠ "java/lang/invoke/VarHandle" ∧ (parseMethodDescriptor ty_N_init.desc).map (fun d => d.parameters.length) = some 1 := ⟨by decide, by decide, by decide +kernel⟩
theorem tg_N_11 : Cond.methodLink "TrickleMesh$Node" 11 ty_R_init ∈ tm_wg ∧ Cond.initialized ty_R_init.cls ∈ tm_wg ∧ Cond.instanceMethod ty_R_init ∈ tm_wg := ⟨List.mem_filter.mpr ⟨List.mem_append_right _ (List.mem_of_getElem? (i := 35) (by decide +kernel)), by decide +kernel⟩, ti_R, List.mem_filter.mpr ⟨List.mem_append_right _ (List.mem_of_getElem? (i := 36) (by decide +kernel)), by decide +kernel⟩⟩
theorem th_R_init : ty_R_init.cls ≠ "java/lang/invoke/MethodHandle" ∧ ty_R_init.cls ≠ "java/lang/invoke/VarHandle" ∧ (parseMethodDescriptor ty_R_init.desc).map (fun d => d.parameters.length) = some 0 := ⟨by decide, by decide, by decide +kernel⟩
theorem tg_R_30 : Cond.methodLinkNest "TrickleMesh$Radio" 30 ty_F_init "TrickleMesh" ∈ tm_ns ∧ Cond.initialized ty_F_init.cls ∈ tm_wg ∧ Cond.instanceMethod ty_F_init ∈ tm_wg := ⟨by decide +kernel, ti_F, List.mem_filter.mpr ⟨List.mem_append_right _ (List.mem_of_getElem? (i := 43) (by decide +kernel)), by decide +kernel⟩⟩
theorem th_F_init : ty_F_init.cls ≠ "java/lang/invoke/MethodHandle" ∧ ty_F_init.cls ≠ "java/lang/invoke/VarHandle" ∧ (parseMethodDescriptor ty_F_init.desc).map (fun d => d.parameters.length) = some 0 := ⟨by decide, by decide, by decide +kernel⟩
theorem tq_X_176 : Cond.fieldLink "TrickleMesh" 176 (tT_F 0).1 (tT_F 0).2.1 (tT_F 0).2.2.1 ∈ tm_wg := List.mem_filter.mpr ⟨List.mem_append_right _ (List.mem_of_getElem? (i := 46) (by decide +kernel)), by decide +kernel⟩
theorem tf_X_176 : tv_F tm_wg tm_ns tm_cl "TrickleMesh" 176 0 0 tR_F tT_F 12 := ⟨rfl, by decide, tl_F, Or.inl tq_X_176⟩
theorem tq_X_181 : Cond.fieldLink "TrickleMesh" 181 (tT_F 1).1 (tT_F 1).2.1 (tT_F 1).2.2.1 ∈ tm_wg := List.mem_filter.mpr ⟨List.mem_append_right _ (List.mem_of_getElem? (i := 47) (by decide +kernel)), by decide +kernel⟩
theorem tf_X_181 : tv_F tm_wg tm_ns tm_cl "TrickleMesh" 181 0 1 tR_F tT_F 12 := ⟨rfl, by decide, tl_F, Or.inl tq_X_181⟩
theorem tq_F_9 : Cond.fieldLink "TrickleMesh$Frame" 9 (tT_F 2).1 (tT_F 2).2.1 (tT_F 2).2.2.1 ∈ tm_wg := List.mem_filter.mpr ⟨List.mem_append_right _ (List.mem_of_getElem? (i := 48) (by decide +kernel)), by decide +kernel⟩
theorem tf_F_9 : tv_F tm_wg tm_ns tm_cl "TrickleMesh$Frame" 9 0 2 tR_F tT_F 12 := ⟨rfl, by decide, tl_F, Or.inl tq_F_9⟩
theorem tq_X_184 : Cond.fieldLink "TrickleMesh" 184 (tT_F 2).1 (tT_F 2).2.1 (tT_F 2).2.2.1 ∈ tm_wg := List.mem_filter.mpr ⟨List.mem_append_right _ (List.mem_of_getElem? (i := 49) (by decide +kernel)), by decide +kernel⟩
theorem tf_X_184 : tv_F tm_wg tm_ns tm_cl "TrickleMesh" 184 0 2 tR_F tT_F 12 := ⟨rfl, by decide, tl_F, Or.inl tq_X_184⟩
theorem tq_X_295 : Cond.fieldLink "TrickleMesh" 295 (tT_F 3).1 (tT_F 3).2.1 (tT_F 3).2.2.1 ∈ tm_wg := List.mem_filter.mpr ⟨List.mem_append_right _ (List.mem_of_getElem? (i := 50) (by decide +kernel)), by decide +kernel⟩
theorem tf_X_295 : tv_F tm_wg tm_ns tm_cl "TrickleMesh" 295 0 3 tR_F tT_F 12 := ⟨rfl, by decide, tl_F, Or.inl tq_X_295⟩
theorem tq_X_298 : Cond.fieldLink "TrickleMesh" 298 (tT_F 4).1 (tT_F 4).2.1 (tT_F 4).2.2.1 ∈ tm_wg := List.mem_filter.mpr ⟨List.mem_append_right _ (List.mem_of_getElem? (i := 51) (by decide +kernel)), by decide +kernel⟩
theorem tf_X_298 : tv_F tm_wg tm_ns tm_cl "TrickleMesh" 298 0 4 tR_F tT_F 12 := ⟨rfl, by decide, tl_F, Or.inl tq_X_298⟩
theorem tq_F_15 : Cond.fieldLink "TrickleMesh$Frame" 15 (tT_F 5).1 (tT_F 5).2.1 (tT_F 5).2.2.1 ∈ tm_wg := List.mem_filter.mpr ⟨List.mem_append_right _ (List.mem_of_getElem? (i := 52) (by decide +kernel)), by decide +kernel⟩
theorem tf_F_15 : tv_F tm_wg tm_ns tm_cl "TrickleMesh$Frame" 15 0 5 tR_F tT_F 12 := ⟨rfl, by decide, tl_F, Or.inl tq_F_15⟩
theorem tq_X_301 : Cond.fieldLink "TrickleMesh" 301 (tT_F 5).1 (tT_F 5).2.1 (tT_F 5).2.2.1 ∈ tm_wg := List.mem_filter.mpr ⟨List.mem_append_right _ (List.mem_of_getElem? (i := 53) (by decide +kernel)), by decide +kernel⟩
theorem tf_X_301 : tv_F tm_wg tm_ns tm_cl "TrickleMesh" 301 0 5 tR_F tT_F 12 := ⟨rfl, by decide, tl_F, Or.inl tq_X_301⟩
theorem tq_X_312 : Cond.fieldLink "TrickleMesh" 312 (tT_F 6).1 (tT_F 6).2.1 (tT_F 6).2.2.1 ∈ tm_wg := List.mem_filter.mpr ⟨List.mem_append_right _ (List.mem_of_getElem? (i := 54) (by decide +kernel)), by decide +kernel⟩
theorem tf_X_312 : tv_F tm_wg tm_ns tm_cl "TrickleMesh" 312 0 6 tR_F tT_F 12 := ⟨rfl, by decide, tl_F, Or.inl tq_X_312⟩
theorem tq_X_315 : Cond.fieldLink "TrickleMesh" 315 (tT_F 7).1 (tT_F 7).2.1 (tT_F 7).2.2.1 ∈ tm_wg := List.mem_filter.mpr ⟨List.mem_append_right _ (List.mem_of_getElem? (i := 55) (by decide +kernel)), by decide +kernel⟩
theorem tf_X_315 : tv_F tm_wg tm_ns tm_cl "TrickleMesh" 315 0 7 tR_F tT_F 12 := ⟨rfl, by decide, tl_F, Or.inl tq_X_315⟩
theorem tq_X_318 : Cond.fieldLink "TrickleMesh" 318 (tT_F 8).1 (tT_F 8).2.1 (tT_F 8).2.2.1 ∈ tm_wg := List.mem_filter.mpr ⟨List.mem_append_right _ (List.mem_of_getElem? (i := 56) (by decide +kernel)), by decide +kernel⟩
theorem tf_X_318 : tv_F tm_wg tm_ns tm_cl "TrickleMesh" 318 0 8 tR_F tT_F 12 := ⟨rfl, by decide, tl_F, Or.inl tq_X_318⟩
theorem tq_X_321 : Cond.fieldLink "TrickleMesh" 321 (tT_F 9).1 (tT_F 9).2.1 (tT_F 9).2.2.1 ∈ tm_wg := List.mem_filter.mpr ⟨List.mem_append_right _ (List.mem_of_getElem? (i := 57) (by decide +kernel)), by decide +kernel⟩
theorem tf_X_321 : tv_F tm_wg tm_ns tm_cl "TrickleMesh" 321 0 9 tR_F tT_F 12 := ⟨rfl, by decide, tl_F, Or.inl tq_X_321⟩
theorem tq_X_324 : Cond.fieldLink "TrickleMesh" 324 (tT_F 10).1 (tT_F 10).2.1 (tT_F 10).2.2.1 ∈ tm_wg := List.mem_filter.mpr ⟨List.mem_append_right _ (List.mem_of_getElem? (i := 58) (by decide +kernel)), by decide +kernel⟩
theorem tf_X_324 : tv_F tm_wg tm_ns tm_cl "TrickleMesh" 324 0 10 tR_F tT_F 12 := ⟨rfl, by decide, tl_F, Or.inl tq_X_324⟩
theorem tq_X_327 : Cond.fieldLink "TrickleMesh" 327 (tT_F 11).1 (tT_F 11).2.1 (tT_F 11).2.2.1 ∈ tm_wg := List.mem_filter.mpr ⟨List.mem_append_right _ (List.mem_of_getElem? (i := 59) (by decide +kernel)), by decide +kernel⟩
theorem tf_X_327 : tv_F tm_wg tm_ns tm_cl "TrickleMesh" 327 0 11 tR_F tT_F 12 := ⟨rfl, by decide, tl_F, Or.inl tq_X_327⟩
theorem tq_R_11 : Cond.fieldLink "TrickleMesh$Radio" 11 (tT_R 0).1 (tT_R 0).2.1 (tT_R 0).2.2.1 ∈ tm_wg := List.mem_filter.mpr ⟨List.mem_append_right _ (List.mem_of_getElem? (i := 86) (by decide +kernel)), by decide +kernel⟩
theorem tf_R_11 : tv_F tm_wg tm_ns tm_cl "TrickleMesh$Radio" 11 2 0 tR_R tT_R 11 := ⟨rfl, by decide, tl_R, Or.inl tq_R_11⟩
theorem tq_X_169 : Cond.fieldLink "TrickleMesh" 169 (tT_R 0).1 (tT_R 0).2.1 (tT_R 0).2.2.1 ∈ tm_wg := List.mem_filter.mpr ⟨List.mem_append_right _ (List.mem_of_getElem? (i := 87) (by decide +kernel)), by decide +kernel⟩
theorem tf_X_169 : tv_F tm_wg tm_ns tm_cl "TrickleMesh" 169 2 0 tR_R tT_R 11 := ⟨rfl, by decide, tl_R, Or.inl tq_X_169⟩
theorem tq_X_73 : Cond.fieldLink "TrickleMesh" 73 (tT_R 1).1 (tT_R 1).2.1 (tT_R 1).2.2.1 ∈ tm_wg := List.mem_filter.mpr ⟨List.mem_append_right _ (List.mem_of_getElem? (i := 88) (by decide +kernel)), by decide +kernel⟩
theorem tf_X_73 : tv_F tm_wg tm_ns tm_cl "TrickleMesh" 73 2 1 tR_R tT_R 11 := ⟨rfl, by decide, tl_R, Or.inl tq_X_73⟩
theorem tq_R_37 : Cond.fieldLink "TrickleMesh$Radio" 37 (tT_R 2).1 (tT_R 2).2.1 (tT_R 2).2.2.1 ∈ tm_wg := List.mem_filter.mpr ⟨List.mem_append_right _ (List.mem_of_getElem? (i := 89) (by decide +kernel)), by decide +kernel⟩
theorem tf_R_37 : tv_F tm_wg tm_ns tm_cl "TrickleMesh$Radio" 37 2 2 tR_R tT_R 11 := ⟨rfl, by decide, tl_R, Or.inl tq_R_37⟩
theorem tq_X_127 : Cond.fieldLink "TrickleMesh" 127 (tT_R 2).1 (tT_R 2).2.1 (tT_R 2).2.2.1 ∈ tm_wg := List.mem_filter.mpr ⟨List.mem_append_right _ (List.mem_of_getElem? (i := 90) (by decide +kernel)), by decide +kernel⟩
theorem tf_X_127 : tv_F tm_wg tm_ns tm_cl "TrickleMesh" 127 2 2 tR_R tT_R 11 := ⟨rfl, by decide, tl_R, Or.inl tq_X_127⟩
theorem tq_R_31 : Cond.fieldLink "TrickleMesh$Radio" 31 (tT_R 3).1 (tT_R 3).2.1 (tT_R 3).2.2.1 ∈ tm_wg := List.mem_filter.mpr ⟨List.mem_append_right _ (List.mem_of_getElem? (i := 91) (by decide +kernel)), by decide +kernel⟩
theorem tf_R_31 : tv_F tm_wg tm_ns tm_cl "TrickleMesh$Radio" 31 2 3 tR_R tT_R 11 := ⟨rfl, by decide, tl_R, Or.inl tq_R_31⟩
theorem tq_X_130 : Cond.fieldLink "TrickleMesh" 130 (tT_R 3).1 (tT_R 3).2.1 (tT_R 3).2.2.1 ∈ tm_wg := List.mem_filter.mpr ⟨List.mem_append_right _ (List.mem_of_getElem? (i := 92) (by decide +kernel)), by decide +kernel⟩
theorem tf_X_130 : tv_F tm_wg tm_ns tm_cl "TrickleMesh" 130 2 3 tR_R tT_R 11 := ⟨rfl, by decide, tl_R, Or.inl tq_X_130⟩
theorem tq_R_34 : Cond.fieldLink "TrickleMesh$Radio" 34 (tT_R 4).1 (tT_R 4).2.1 (tT_R 4).2.2.1 ∈ tm_wg := List.mem_filter.mpr ⟨List.mem_append_right _ (List.mem_of_getElem? (i := 93) (by decide +kernel)), by decide +kernel⟩
theorem tf_R_34 : tv_F tm_wg tm_ns tm_cl "TrickleMesh$Radio" 34 2 4 tR_R tT_R 11 := ⟨rfl, by decide, tl_R, Or.inl tq_R_34⟩
theorem tq_X_133 : Cond.fieldLink "TrickleMesh" 133 (tT_R 4).1 (tT_R 4).2.1 (tT_R 4).2.2.1 ∈ tm_wg := List.mem_filter.mpr ⟨List.mem_append_right _ (List.mem_of_getElem? (i := 94) (by decide +kernel)), by decide +kernel⟩
theorem tf_X_133 : tv_F tm_wg tm_ns tm_cl "TrickleMesh" 133 2 4 tR_R tT_R 11 := ⟨rfl, by decide, tl_R, Or.inl tq_X_133⟩
theorem tq_R_17 : Cond.fieldLink "TrickleMesh$Radio" 17 (tT_R 5).1 (tT_R 5).2.1 (tT_R 5).2.2.1 ∈ tm_wg := List.mem_filter.mpr ⟨List.mem_append_right _ (List.mem_of_getElem? (i := 95) (by decide +kernel)), by decide +kernel⟩
theorem tf_R_17 : tv_F tm_wg tm_ns tm_cl "TrickleMesh$Radio" 17 2 5 tR_R tT_R 11 := ⟨rfl, by decide, tl_R, Or.inl tq_R_17⟩
theorem tq_X_205 : Cond.fieldLink "TrickleMesh" 205 (tT_R 5).1 (tT_R 5).2.1 (tT_R 5).2.2.1 ∈ tm_wg := List.mem_filter.mpr ⟨List.mem_append_right _ (List.mem_of_getElem? (i := 96) (by decide +kernel)), by decide +kernel⟩
theorem tf_X_205 : tv_F tm_wg tm_ns tm_cl "TrickleMesh" 205 2 5 tR_R tT_R 11 := ⟨rfl, by decide, tl_R, Or.inl tq_X_205⟩
theorem tq_X_208 : Cond.fieldLink "TrickleMesh" 208 (tT_R 6).1 (tT_R 6).2.1 (tT_R 6).2.2.1 ∈ tm_wg := List.mem_filter.mpr ⟨List.mem_append_right _ (List.mem_of_getElem? (i := 97) (by decide +kernel)), by decide +kernel⟩
theorem tf_X_208 : tv_F tm_wg tm_ns tm_cl "TrickleMesh" 208 2 6 tR_R tT_R 11 := ⟨rfl, by decide, tl_R, Or.inl tq_X_208⟩
theorem tq_R_21 : Cond.fieldLink "TrickleMesh$Radio" 21 (tT_R 7).1 (tT_R 7).2.1 (tT_R 7).2.2.1 ∈ tm_wg := List.mem_filter.mpr ⟨List.mem_append_right _ (List.mem_of_getElem? (i := 98) (by decide +kernel)), by decide +kernel⟩
theorem tf_R_21 : tv_F tm_wg tm_ns tm_cl "TrickleMesh$Radio" 21 2 7 tR_R tT_R 11 := ⟨rfl, by decide, tl_R, Or.inl tq_R_21⟩
theorem tq_X_211 : Cond.fieldLink "TrickleMesh" 211 (tT_R 7).1 (tT_R 7).2.1 (tT_R 7).2.2.1 ∈ tm_wg := List.mem_filter.mpr ⟨List.mem_append_right _ (List.mem_of_getElem? (i := 99) (by decide +kernel)), by decide +kernel⟩
theorem tf_X_211 : tv_F tm_wg tm_ns tm_cl "TrickleMesh" 211 2 7 tR_R tT_R 11 := ⟨rfl, by decide, tl_R, Or.inl tq_X_211⟩
theorem tq_R_24 : Cond.fieldLink "TrickleMesh$Radio" 24 (tT_R 8).1 (tT_R 8).2.1 (tT_R 8).2.2.1 ∈ tm_wg := List.mem_filter.mpr ⟨List.mem_append_right _ (List.mem_of_getElem? (i := 100) (by decide +kernel)), by decide +kernel⟩
theorem tf_R_24 : tv_F tm_wg tm_ns tm_cl "TrickleMesh$Radio" 24 2 8 tR_R tT_R 11 := ⟨rfl, by decide, tl_R, Or.inl tq_R_24⟩
theorem tq_X_78 : Cond.fieldLink "TrickleMesh" 78 (tT_R 8).1 (tT_R 8).2.1 (tT_R 8).2.2.1 ∈ tm_wg := List.mem_filter.mpr ⟨List.mem_append_right _ (List.mem_of_getElem? (i := 101) (by decide +kernel)), by decide +kernel⟩
theorem tf_X_78 : tv_F tm_wg tm_ns tm_cl "TrickleMesh" 78 2 8 tR_R tT_R 11 := ⟨rfl, by decide, tl_R, Or.inl tq_X_78⟩
theorem tq_X_81 : Cond.fieldLink "TrickleMesh" 81 (tT_R 9).1 (tT_R 9).2.1 (tT_R 9).2.2.1 ∈ tm_wg := List.mem_filter.mpr ⟨List.mem_append_right _ (List.mem_of_getElem? (i := 102) (by decide +kernel)), by decide +kernel⟩
theorem tf_X_81 : tv_F tm_wg tm_ns tm_cl "TrickleMesh" 81 2 9 tR_R tT_R 11 := ⟨rfl, by decide, tl_R, Or.inl tq_X_81⟩
theorem tq_R_27 : Cond.fieldLink "TrickleMesh$Radio" 27 (tT_R 10).1 (tT_R 10).2.1 (tT_R 10).2.2.1 ∈ tm_wg := List.mem_filter.mpr ⟨List.mem_append_right _ (List.mem_of_getElem? (i := 103) (by decide +kernel)), by decide +kernel⟩
theorem tf_R_27 : tv_F tm_wg tm_ns tm_cl "TrickleMesh$Radio" 27 2 10 tR_R tT_R 11 := ⟨rfl, by decide, tl_R, Or.inl tq_R_27⟩
theorem tq_X_227 : Cond.fieldLink "TrickleMesh" 227 (tT_R 10).1 (tT_R 10).2.1 (tT_R 10).2.2.1 ∈ tm_wg := List.mem_filter.mpr ⟨List.mem_append_right _ (List.mem_of_getElem? (i := 104) (by decide +kernel)), by decide +kernel⟩
theorem tf_X_227 : tv_F tm_wg tm_ns tm_cl "TrickleMesh" 227 2 10 tR_R tT_R 11 := ⟨rfl, by decide, tl_R, Or.inl tq_X_227⟩
theorem tg_N_20 : Cond.methodLinkNest "TrickleMesh$Node" 20 ty_T_init "TrickleMesh" ∈ tm_ns ∧ Cond.initialized ty_T_init.cls ∈ tm_wg ∧ Cond.instanceMethod ty_T_init ∈ tm_wg := ⟨by decide +kernel, ti_T, List.mem_filter.mpr ⟨List.mem_append_right _ (List.mem_of_getElem? (i := 131) (by decide +kernel)), by decide +kernel⟩⟩
theorem th_T_init : ty_T_init.cls ≠ "java/lang/invoke/MethodHandle" ∧ ty_T_init.cls ≠ "java/lang/invoke/VarHandle" ∧ (parseMethodDescriptor ty_T_init.desc).map (fun d => d.parameters.length) = some 0 := ⟨by decide, by decide, by decide +kernel⟩
theorem tq_X_52 : Cond.fieldLink "TrickleMesh" 52 (tT_T 0).1 (tT_T 0).2.1 (tT_T 0).2.2.1 ∈ tm_wg := List.mem_filter.mpr ⟨List.mem_append_right _ (List.mem_of_getElem? (i := 134) (by decide +kernel)), by decide +kernel⟩
theorem tf_X_52 : tv_F tm_wg tm_ns tm_cl "TrickleMesh" 52 3 0 tR_T tT_T 5 := ⟨rfl, by decide, tl_T, Or.inl tq_X_52⟩
theorem tq_T_9 : Cond.fieldLink "TrickleMesh$Timer" 9 (tT_T 1).1 (tT_T 1).2.1 (tT_T 1).2.2.1 ∈ tm_wg := List.mem_filter.mpr ⟨List.mem_append_right _ (List.mem_of_getElem? (i := 135) (by decide +kernel)), by decide +kernel⟩
theorem tf_T_9 : tv_F tm_wg tm_ns tm_cl "TrickleMesh$Timer" 9 3 1 tR_T tT_T 5 := ⟨rfl, by decide, tl_T, Or.inl tq_T_9⟩
theorem tq_X_118 : Cond.fieldLink "TrickleMesh" 118 (tT_T 1).1 (tT_T 1).2.1 (tT_T 1).2.2.1 ∈ tm_wg := List.mem_filter.mpr ⟨List.mem_append_right _ (List.mem_of_getElem? (i := 136) (by decide +kernel)), by decide +kernel⟩
theorem tf_X_118 : tv_F tm_wg tm_ns tm_cl "TrickleMesh" 118 3 1 tR_T tT_T 5 := ⟨rfl, by decide, tl_T, Or.inl tq_X_118⟩
theorem tq_X_121 : Cond.fieldLink "TrickleMesh" 121 (tT_T 2).1 (tT_T 2).2.1 (tT_T 2).2.2.1 ∈ tm_wg := List.mem_filter.mpr ⟨List.mem_append_right _ (List.mem_of_getElem? (i := 137) (by decide +kernel)), by decide +kernel⟩
theorem tf_X_121 : tv_F tm_wg tm_ns tm_cl "TrickleMesh" 121 3 2 tR_T tT_T 5 := ⟨rfl, by decide, tl_T, Or.inl tq_X_121⟩
theorem tq_X_258 : Cond.fieldLink "TrickleMesh" 258 (tT_T 3).1 (tT_T 3).2.1 (tT_T 3).2.2.1 ∈ tm_wg := List.mem_filter.mpr ⟨List.mem_append_right _ (List.mem_of_getElem? (i := 138) (by decide +kernel)), by decide +kernel⟩
theorem tf_X_258 : tv_F tm_wg tm_ns tm_cl "TrickleMesh" 258 3 3 tR_T tT_T 5 := ⟨rfl, by decide, tl_T, Or.inl tq_X_258⟩
theorem tq_X_124 : Cond.fieldLink "TrickleMesh" 124 (tT_T 4).1 (tT_T 4).2.1 (tT_T 4).2.2.1 ∈ tm_wg := List.mem_filter.mpr ⟨List.mem_append_right _ (List.mem_of_getElem? (i := 139) (by decide +kernel)), by decide +kernel⟩
theorem tf_X_124 : tv_F tm_wg tm_ns tm_cl "TrickleMesh" 124 3 4 tR_T tT_T 5 := ⟨rfl, by decide, tl_T, Or.inl tq_X_124⟩
theorem tg_N_58 : Cond.methodLink "TrickleMesh$Node" 58 ty_JA_fill ∈ tm_wg ∧ Cond.initialized ty_JA_fill.cls ∈ tm_wg ∧ Cond.static ty_JA_fill ∈ tm_wg := ⟨List.mem_filter.mpr ⟨List.mem_append_right _ (List.mem_of_getElem? (i := 151) (by decide +kernel)), by decide +kernel⟩, ti_JA, List.mem_filter.mpr ⟨List.mem_append_right _ (List.mem_of_getElem? (i := 152) (by decide +kernel)), by decide +kernel⟩⟩
theorem th_JA_fill : ty_JA_fill.cls ≠ "java/lang/invoke/MethodHandle" ∧ ty_JA_fill.cls ≠ "java/lang/invoke/VarHandle" ∧ (parseMethodDescriptor ty_JA_fill.desc).map (fun d => d.parameters.length) = some 2 := ⟨by decide, by decide, by decide +kernel⟩
theorem tq_N_55 : Cond.fieldLink "TrickleMesh$Node" 55 (tT_N 0).1 (tT_N 0).2.1 (tT_N 0).2.2.1 ∈ tm_wg := List.mem_filter.mpr ⟨List.mem_append_right _ (List.mem_of_getElem? (i := 154) (by decide +kernel)), by decide +kernel⟩
theorem tf_N_55 : tv_F tm_wg tm_ns tm_cl "TrickleMesh$Node" 55 1 0 tR_N tT_N 14 := ⟨rfl, by decide, tl_N, Or.inl tq_N_55⟩
theorem tq_X_221 : Cond.fieldLink "TrickleMesh" 221 (tT_N 0).1 (tT_N 0).2.1 (tT_N 0).2.2.1 ∈ tm_wg := List.mem_filter.mpr ⟨List.mem_append_right _ (List.mem_of_getElem? (i := 155) (by decide +kernel)), by decide +kernel⟩
theorem tf_X_221 : tv_F tm_wg tm_ns tm_cl "TrickleMesh" 221 1 0 tR_N tT_N 14 := ⟨rfl, by decide, tl_N, Or.inl tq_X_221⟩
theorem tq_N_12 : Cond.fieldLink "TrickleMesh$Node" 12 (tT_N 1).1 (tT_N 1).2.1 (tT_N 1).2.2.1 ∈ tm_wg := List.mem_filter.mpr ⟨List.mem_append_right _ (List.mem_of_getElem? (i := 156) (by decide +kernel)), by decide +kernel⟩
theorem tf_N_12 : tv_F tm_wg tm_ns tm_cl "TrickleMesh$Node" 12 1 1 tR_N tT_N 14 := ⟨rfl, by decide, tl_N, Or.inl tq_N_12⟩
theorem tq_X_69 : Cond.fieldLink "TrickleMesh" 69 (tT_N 1).1 (tT_N 1).2.1 (tT_N 1).2.2.1 ∈ tm_wg := List.mem_filter.mpr ⟨List.mem_append_right _ (List.mem_of_getElem? (i := 157) (by decide +kernel)), by decide +kernel⟩
theorem tf_X_69 : tv_F tm_wg tm_ns tm_cl "TrickleMesh" 69 1 1 tR_N tT_N 14 := ⟨rfl, by decide, tl_N, Or.inl tq_X_69⟩
theorem tq_N_21 : Cond.fieldLink "TrickleMesh$Node" 21 (tT_N 2).1 (tT_N 2).2.1 (tT_N 2).2.2.1 ∈ tm_wg := List.mem_filter.mpr ⟨List.mem_append_right _ (List.mem_of_getElem? (i := 158) (by decide +kernel)), by decide +kernel⟩
theorem tf_N_21 : tv_F tm_wg tm_ns tm_cl "TrickleMesh$Node" 21 1 2 tR_N tT_N 14 := ⟨rfl, by decide, tl_N, Or.inl tq_N_21⟩
theorem tq_X_48 : Cond.fieldLink "TrickleMesh" 48 (tT_N 2).1 (tT_N 2).2.1 (tT_N 2).2.2.1 ∈ tm_wg := List.mem_filter.mpr ⟨List.mem_append_right _ (List.mem_of_getElem? (i := 159) (by decide +kernel)), by decide +kernel⟩
theorem tf_X_48 : tv_F tm_wg tm_ns tm_cl "TrickleMesh" 48 1 2 tR_N tT_N 14 := ⟨rfl, by decide, tl_N, Or.inl tq_X_48⟩
theorem tq_N_25 : Cond.fieldLink "TrickleMesh$Node" 25 (tT_N 3).1 (tT_N 3).2.1 (tT_N 3).2.2.1 ∈ tm_wg := List.mem_filter.mpr ⟨List.mem_append_right _ (List.mem_of_getElem? (i := 160) (by decide +kernel)), by decide +kernel⟩
theorem tf_N_25 : tv_F tm_wg tm_ns tm_cl "TrickleMesh$Node" 25 1 3 tR_N tT_N 14 := ⟨rfl, by decide, tl_N, Or.inl tq_N_25⟩
theorem tq_X_150 : Cond.fieldLink "TrickleMesh" 150 (tT_N 3).1 (tT_N 3).2.1 (tT_N 3).2.2.1 ∈ tm_wg := List.mem_filter.mpr ⟨List.mem_append_right _ (List.mem_of_getElem? (i := 161) (by decide +kernel)), by decide +kernel⟩
theorem tf_X_150 : tv_F tm_wg tm_ns tm_cl "TrickleMesh" 150 1 3 tR_N tT_N 14 := ⟨rfl, by decide, tl_N, Or.inl tq_X_150⟩
theorem tq_N_29 : Cond.fieldLink "TrickleMesh$Node" 29 (tT_N 4).1 (tT_N 4).2.1 (tT_N 4).2.2.1 ∈ tm_wg := List.mem_filter.mpr ⟨List.mem_append_right _ (List.mem_of_getElem? (i := 162) (by decide +kernel)), by decide +kernel⟩
theorem tf_N_29 : tv_F tm_wg tm_ns tm_cl "TrickleMesh$Node" 29 1 4 tR_N tT_N 14 := ⟨rfl, by decide, tl_N, Or.inl tq_N_29⟩
theorem tq_X_147 : Cond.fieldLink "TrickleMesh" 147 (tT_N 4).1 (tT_N 4).2.1 (tT_N 4).2.2.1 ∈ tm_wg := List.mem_filter.mpr ⟨List.mem_append_right _ (List.mem_of_getElem? (i := 163) (by decide +kernel)), by decide +kernel⟩
theorem tf_X_147 : tv_F tm_wg tm_ns tm_cl "TrickleMesh" 147 1 4 tR_N tT_N 14 := ⟨rfl, by decide, tl_N, Or.inl tq_X_147⟩
theorem tq_N_32 : Cond.fieldLink "TrickleMesh$Node" 32 (tT_N 5).1 (tT_N 5).2.1 (tT_N 5).2.2.1 ∈ tm_wg := List.mem_filter.mpr ⟨List.mem_append_right _ (List.mem_of_getElem? (i := 164) (by decide +kernel)), by decide +kernel⟩
theorem tf_N_32 : tv_F tm_wg tm_ns tm_cl "TrickleMesh$Node" 32 1 5 tR_N tT_N 14 := ⟨rfl, by decide, tl_N, Or.inl tq_N_32⟩
theorem tq_X_143 : Cond.fieldLink "TrickleMesh" 143 (tT_N 5).1 (tT_N 5).2.1 (tT_N 5).2.2.1 ∈ tm_wg := List.mem_filter.mpr ⟨List.mem_append_right _ (List.mem_of_getElem? (i := 165) (by decide +kernel)), by decide +kernel⟩
theorem tf_X_143 : tv_F tm_wg tm_ns tm_cl "TrickleMesh" 143 1 5 tR_N tT_N 14 := ⟨rfl, by decide, tl_N, Or.inl tq_X_143⟩
theorem tq_N_35 : Cond.fieldLink "TrickleMesh$Node" 35 (tT_N 6).1 (tT_N 6).2.1 (tT_N 6).2.2.1 ∈ tm_wg := List.mem_filter.mpr ⟨List.mem_append_right _ (List.mem_of_getElem? (i := 166) (by decide +kernel)), by decide +kernel⟩
theorem tf_N_35 : tv_F tm_wg tm_ns tm_cl "TrickleMesh$Node" 35 1 6 tR_N tT_N 14 := ⟨rfl, by decide, tl_N, Or.inl tq_N_35⟩
theorem tq_X_274 : Cond.fieldLink "TrickleMesh" 274 (tT_N 6).1 (tT_N 6).2.1 (tT_N 6).2.2.1 ∈ tm_wg := List.mem_filter.mpr ⟨List.mem_append_right _ (List.mem_of_getElem? (i := 167) (by decide +kernel)), by decide +kernel⟩
theorem tf_X_274 : tv_F tm_wg tm_ns tm_cl "TrickleMesh" 274 1 6 tR_N tT_N 14 := ⟨rfl, by decide, tl_N, Or.inl tq_X_274⟩
theorem tq_N_38 : Cond.fieldLink "TrickleMesh$Node" 38 (tT_N 7).1 (tT_N 7).2.1 (tT_N 7).2.2.1 ∈ tm_wg := List.mem_filter.mpr ⟨List.mem_append_right _ (List.mem_of_getElem? (i := 168) (by decide +kernel)), by decide +kernel⟩
theorem tf_N_38 : tv_F tm_wg tm_ns tm_cl "TrickleMesh$Node" 38 1 7 tR_N tT_N 14 := ⟨rfl, by decide, tl_N, Or.inl tq_N_38⟩
theorem tq_X_156 : Cond.fieldLink "TrickleMesh" 156 (tT_N 7).1 (tT_N 7).2.1 (tT_N 7).2.2.1 ∈ tm_wg := List.mem_filter.mpr ⟨List.mem_append_right _ (List.mem_of_getElem? (i := 169) (by decide +kernel)), by decide +kernel⟩
theorem tf_X_156 : tv_F tm_wg tm_ns tm_cl "TrickleMesh" 156 1 7 tR_N tT_N 14 := ⟨rfl, by decide, tl_N, Or.inl tq_X_156⟩
theorem tq_X_153 : Cond.fieldLink "TrickleMesh" 153 (tT_N 8).1 (tT_N 8).2.1 (tT_N 8).2.2.1 ∈ tm_wg := List.mem_filter.mpr ⟨List.mem_append_right _ (List.mem_of_getElem? (i := 170) (by decide +kernel)), by decide +kernel⟩
theorem tf_X_153 : tv_F tm_wg tm_ns tm_cl "TrickleMesh" 153 1 8 tR_N tT_N 14 := ⟨rfl, by decide, tl_N, Or.inl tq_X_153⟩
theorem tq_N_41 : Cond.fieldLink "TrickleMesh$Node" 41 (tT_N 9).1 (tT_N 9).2.1 (tT_N 9).2.2.1 ∈ tm_wg := List.mem_filter.mpr ⟨List.mem_append_right _ (List.mem_of_getElem? (i := 171) (by decide +kernel)), by decide +kernel⟩
theorem tf_N_41 : tv_F tm_wg tm_ns tm_cl "TrickleMesh$Node" 41 1 9 tR_N tT_N 14 := ⟨rfl, by decide, tl_N, Or.inl tq_N_41⟩
theorem tq_X_66 : Cond.fieldLink "TrickleMesh" 66 (tT_N 9).1 (tT_N 9).2.1 (tT_N 9).2.2.1 ∈ tm_wg := List.mem_filter.mpr ⟨List.mem_append_right _ (List.mem_of_getElem? (i := 172) (by decide +kernel)), by decide +kernel⟩
theorem tf_X_66 : tv_F tm_wg tm_ns tm_cl "TrickleMesh" 66 1 9 tR_N tT_N 14 := ⟨rfl, by decide, tl_N, Or.inl tq_X_66⟩
theorem tq_X_42 : Cond.fieldLink "TrickleMesh" 42 (tT_N 10).1 (tT_N 10).2.1 (tT_N 10).2.2.1 ∈ tm_wg := List.mem_filter.mpr ⟨List.mem_append_right _ (List.mem_of_getElem? (i := 173) (by decide +kernel)), by decide +kernel⟩
theorem tf_X_42 : tv_F tm_wg tm_ns tm_cl "TrickleMesh" 42 1 10 tR_N tT_N 14 := ⟨rfl, by decide, tl_N, Or.inl tq_X_42⟩
theorem tq_N_45 : Cond.fieldLink "TrickleMesh$Node" 45 (tT_N 11).1 (tT_N 11).2.1 (tT_N 11).2.2.1 ∈ tm_wg := List.mem_filter.mpr ⟨List.mem_append_right _ (List.mem_of_getElem? (i := 174) (by decide +kernel)), by decide +kernel⟩
theorem tf_N_45 : tv_F tm_wg tm_ns tm_cl "TrickleMesh$Node" 45 1 11 tR_N tT_N 14 := ⟨rfl, by decide, tl_N, Or.inl tq_N_45⟩
theorem tq_X_45 : Cond.fieldLink "TrickleMesh" 45 (tT_N 11).1 (tT_N 11).2.1 (tT_N 11).2.2.1 ∈ tm_wg := List.mem_filter.mpr ⟨List.mem_append_right _ (List.mem_of_getElem? (i := 175) (by decide +kernel)), by decide +kernel⟩
theorem tf_X_45 : tv_F tm_wg tm_ns tm_cl "TrickleMesh" 45 1 11 tR_N tT_N 14 := ⟨rfl, by decide, tl_N, Or.inl tq_X_45⟩
theorem tq_N_49 : Cond.fieldLink "TrickleMesh$Node" 49 (tT_N 12).1 (tT_N 12).2.1 (tT_N 12).2.2.1 ∈ tm_wg := List.mem_filter.mpr ⟨List.mem_append_right _ (List.mem_of_getElem? (i := 176) (by decide +kernel)), by decide +kernel⟩
theorem tf_N_49 : tv_F tm_wg tm_ns tm_cl "TrickleMesh$Node" 49 1 12 tR_N tT_N 14 := ⟨rfl, by decide, tl_N, Or.inl tq_N_49⟩
theorem tq_X_115 : Cond.fieldLink "TrickleMesh" 115 (tT_N 12).1 (tT_N 12).2.1 (tT_N 12).2.2.1 ∈ tm_wg := List.mem_filter.mpr ⟨List.mem_append_right _ (List.mem_of_getElem? (i := 177) (by decide +kernel)), by decide +kernel⟩
theorem tf_X_115 : tv_F tm_wg tm_ns tm_cl "TrickleMesh" 115 1 12 tR_N tT_N 14 := ⟨rfl, by decide, tl_N, Or.inl tq_X_115⟩
theorem tq_N_52 : Cond.fieldLink "TrickleMesh$Node" 52 (tT_N 13).1 (tT_N 13).2.1 (tT_N 13).2.2.1 ∈ tm_wg := List.mem_filter.mpr ⟨List.mem_append_right _ (List.mem_of_getElem? (i := 178) (by decide +kernel)), by decide +kernel⟩
theorem tf_N_52 : tv_F tm_wg tm_ns tm_cl "TrickleMesh$Node" 52 1 13 tR_N tT_N 14 := ⟨rfl, by decide, tl_N, Or.inl tq_N_52⟩
theorem tq_X_136 : Cond.fieldLink "TrickleMesh" 136 (tT_N 13).1 (tT_N 13).2.1 (tT_N 13).2.2.1 ∈ tm_wg := List.mem_filter.mpr ⟨List.mem_append_right _ (List.mem_of_getElem? (i := 179) (by decide +kernel)), by decide +kernel⟩
theorem tf_X_136 : tv_F tm_wg tm_ns tm_cl "TrickleMesh" 136 1 13 tR_N tT_N 14 := ⟨rfl, by decide, tl_N, Or.inl tq_X_136⟩
theorem tg_X_58 : Cond.methodLink "TrickleMesh" 58 ty_X_resetTimer ∈ tm_wg ∧ Cond.initialized ty_X_resetTimer.cls ∈ tm_wg ∧ Cond.instanceMethod ty_X_resetTimer ∈ tm_wg ∧ Cond.selects "TrickleMesh" ty_X_resetTimer ty_X_resetTimer ∈ tm_wg := ⟨List.mem_filter.mpr ⟨List.mem_append_right _ (List.mem_of_getElem? (i := 209) (by decide +kernel)), by decide +kernel⟩, ti_X, ⟨List.mem_filter.mpr ⟨List.mem_append_right _ (List.mem_of_getElem? (i := 211) (by decide +kernel)), by decide +kernel⟩, List.mem_filter.mpr ⟨List.mem_append_left _ (List.mem_of_getElem? (i := 0) (by decide +kernel)), by decide +kernel⟩⟩⟩
theorem th_X_resetTimer : ty_X_resetTimer.cls ≠ "java/lang/invoke/MethodHandle" ∧ ty_X_resetTimer.cls ≠ "java/lang/invoke/VarHandle" ∧ (parseMethodDescriptor ty_X_resetTimer.desc).map (fun d => d.parameters.length) = some 1 := ⟨by decide, by decide, by decide +kernel⟩
theorem tg_X_261 : Cond.methodLink "TrickleMesh" 261 ty_X_beginInterval ∈ tm_wg ∧ Cond.initialized ty_X_beginInterval.cls ∈ tm_wg ∧ Cond.instanceMethod ty_X_beginInterval ∈ tm_wg ∧ Cond.selects "TrickleMesh" ty_X_beginInterval ty_X_beginInterval ∈ tm_wg := ⟨List.mem_filter.mpr ⟨List.mem_append_right _ (List.mem_of_getElem? (i := 213) (by decide +kernel)), by decide +kernel⟩, ti_X, ⟨List.mem_filter.mpr ⟨List.mem_append_right _ (List.mem_of_getElem? (i := 215) (by decide +kernel)), by decide +kernel⟩, List.mem_filter.mpr ⟨List.mem_append_left _ (List.mem_of_getElem? (i := 1) (by decide +kernel)), by decide +kernel⟩⟩⟩
theorem th_X_beginInterval : ty_X_beginInterval.cls ≠ "java/lang/invoke/MethodHandle" ∧ ty_X_beginInterval.cls ≠ "java/lang/invoke/VarHandle" ∧ (parseMethodDescriptor ty_X_beginInterval.desc).map (fun d => d.parameters.length) = some 2 := ⟨by decide, by decide, by decide +kernel⟩
theorem tg_X_187 : Cond.methodLink "TrickleMesh" 187 ty_X_draw ∈ tm_wg ∧ Cond.initialized ty_X_draw.cls ∈ tm_wg ∧ Cond.instanceMethod ty_X_draw ∈ tm_wg ∧ Cond.selects "TrickleMesh" ty_X_draw ty_X_draw ∈ tm_wg := ⟨List.mem_filter.mpr ⟨List.mem_append_right _ (List.mem_of_getElem? (i := 217) (by decide +kernel)), by decide +kernel⟩, ti_X, ⟨List.mem_filter.mpr ⟨List.mem_append_right _ (List.mem_of_getElem? (i := 219) (by decide +kernel)), by decide +kernel⟩, List.mem_filter.mpr ⟨List.mem_append_left _ (List.mem_of_getElem? (i := 2) (by decide +kernel)), by decide +kernel⟩⟩⟩
theorem th_X_draw : ty_X_draw.cls ≠ "java/lang/invoke/MethodHandle" ∧ ty_X_draw.cls ≠ "java/lang/invoke/VarHandle" ∧ (parseMethodDescriptor ty_X_draw.desc).map (fun d => d.parameters.length) = some 1 := ⟨by decide, by decide, by decide +kernel⟩
theorem tk_X_168 : Cond.constant "TrickleMesh" 168 1103515245 ∈ tm_wg := List.mem_filter.mpr ⟨List.mem_append_right _ (List.mem_of_getElem? (i := 221) (by decide +kernel)), by decide +kernel⟩
theorem tq_X_33 : Cond.fieldLink "TrickleMesh" 33 (tT_X 0).1 (tT_X 0).2.1 (tT_X 0).2.2.1 ∈ tm_wg := List.mem_filter.mpr ⟨List.mem_append_right _ (List.mem_of_getElem? (i := 222) (by decide +kernel)), by decide +kernel⟩
theorem tf_X_33 : tv_F tm_wg tm_ns tm_cl "TrickleMesh" 33 4 0 tR_X tT_X 11 := ⟨rfl, by decide, tl_X, Or.inl tq_X_33⟩
theorem tq_X_36 : Cond.fieldLink "TrickleMesh" 36 (tT_X 1).1 (tT_X 1).2.1 (tT_X 1).2.2.1 ∈ tm_wg := List.mem_filter.mpr ⟨List.mem_append_right _ (List.mem_of_getElem? (i := 223) (by decide +kernel)), by decide +kernel⟩
theorem tf_X_36 : tv_F tm_wg tm_ns tm_cl "TrickleMesh" 36 4 1 tR_X tT_X 11 := ⟨rfl, by decide, tl_X, Or.inl tq_X_36⟩
theorem tq_X_11 : Cond.fieldLink "TrickleMesh" 11 (tT_X 2).1 (tT_X 2).2.1 (tT_X 2).2.2.1 ∈ tm_wg := List.mem_filter.mpr ⟨List.mem_append_right _ (List.mem_of_getElem? (i := 224) (by decide +kernel)), by decide +kernel⟩
theorem tf_X_11 : tv_F tm_wg tm_ns tm_cl "TrickleMesh" 11 4 2 tR_X tT_X 11 := ⟨rfl, by decide, tl_X, Or.inl tq_X_11⟩
theorem tq_X_17 : Cond.fieldLink "TrickleMesh" 17 (tT_X 3).1 (tT_X 3).2.1 (tT_X 3).2.2.1 ∈ tm_wg := List.mem_filter.mpr ⟨List.mem_append_right _ (List.mem_of_getElem? (i := 225) (by decide +kernel)), by decide +kernel⟩
theorem tf_X_17 : tv_F tm_wg tm_ns tm_cl "TrickleMesh" 17 4 3 tR_X tT_X 11 := ⟨rfl, by decide, tl_X, Or.inl tq_X_17⟩
theorem tq_X_20 : Cond.fieldLink "TrickleMesh" 20 (tT_X 4).1 (tT_X 4).2.1 (tT_X 4).2.2.1 ∈ tm_wg := List.mem_filter.mpr ⟨List.mem_append_right _ (List.mem_of_getElem? (i := 226) (by decide +kernel)), by decide +kernel⟩
theorem tf_X_20 : tv_F tm_wg tm_ns tm_cl "TrickleMesh" 20 4 4 tR_X tT_X 11 := ⟨rfl, by decide, tl_X, Or.inl tq_X_20⟩
theorem tq_X_91 : Cond.fieldLink "TrickleMesh" 91 (tT_X 5).1 (tT_X 5).2.1 (tT_X 5).2.2.1 ∈ tm_wg := List.mem_filter.mpr ⟨List.mem_append_right _ (List.mem_of_getElem? (i := 227) (by decide +kernel)), by decide +kernel⟩
theorem tf_X_91 : tv_F tm_wg tm_ns tm_cl "TrickleMesh" 91 4 5 tR_X tT_X 11 := ⟨rfl, by decide, tl_X, Or.inl tq_X_91⟩
theorem tq_X_173 : Cond.fieldLink "TrickleMesh" 173 (tT_X 6).1 (tT_X 6).2.1 (tT_X 6).2.2.1 ∈ tm_wg := List.mem_filter.mpr ⟨List.mem_append_right _ (List.mem_of_getElem? (i := 228) (by decide +kernel)), by decide +kernel⟩
theorem tf_X_173 : tv_F tm_wg tm_ns tm_cl "TrickleMesh" 173 4 6 tR_X tT_X 11 := ⟨rfl, by decide, tl_X, Or.inl tq_X_173⟩
theorem tq_X_84 : Cond.fieldLink "TrickleMesh" 84 (tT_X 7).1 (tT_X 7).2.1 (tT_X 7).2.2.1 ∈ tm_wg := List.mem_filter.mpr ⟨List.mem_append_right _ (List.mem_of_getElem? (i := 229) (by decide +kernel)), by decide +kernel⟩
theorem tf_X_84 : tv_F tm_wg tm_ns tm_cl "TrickleMesh" 84 4 7 tR_X tT_X 11 := ⟨rfl, by decide, tl_X, Or.inl tq_X_84⟩
theorem tq_X_159 : Cond.fieldLink "TrickleMesh" 159 (tT_X 8).1 (tT_X 8).2.1 (tT_X 8).2.2.1 ∈ tm_wg := List.mem_filter.mpr ⟨List.mem_append_right _ (List.mem_of_getElem? (i := 230) (by decide +kernel)), by decide +kernel⟩
theorem tf_X_159 : tv_F tm_wg tm_ns tm_cl "TrickleMesh" 159 4 8 tR_X tT_X 11 := ⟨rfl, by decide, tl_X, Or.inl tq_X_159⟩
theorem tq_X_162 : Cond.fieldLink "TrickleMesh" 162 (tT_X 9).1 (tT_X 9).2.1 (tT_X 9).2.2.1 ∈ tm_wg := List.mem_filter.mpr ⟨List.mem_append_right _ (List.mem_of_getElem? (i := 231) (by decide +kernel)), by decide +kernel⟩
theorem tf_X_162 : tv_F tm_wg tm_ns tm_cl "TrickleMesh" 162 4 9 tR_X tT_X 11 := ⟨rfl, by decide, tl_X, Or.inl tq_X_162⟩
theorem tq_X_165 : Cond.fieldLink "TrickleMesh" 165 (tT_X 10).1 (tT_X 10).2.1 (tT_X 10).2.2.1 ∈ tm_wg := List.mem_filter.mpr ⟨List.mem_append_right _ (List.mem_of_getElem? (i := 232) (by decide +kernel)), by decide +kernel⟩
theorem tf_X_165 : tv_F tm_wg tm_ns tm_cl "TrickleMesh" 165 4 10 tR_X tT_X 11 := ⟨rfl, by decide, tl_X, Or.inl tq_X_165⟩
theorem tg_L_21 : Cond.methodLink "TrickleMeshLaw" 21 ty_X_link ∈ tm_wg ∧ Cond.initialized ty_X_link.cls ∈ tm_wg ∧ Cond.instanceMethod ty_X_link ∈ tm_wg ∧ Cond.selects "TrickleMesh" ty_X_link ty_X_link ∈ tm_wg := ⟨List.mem_filter.mpr ⟨List.mem_append_right _ (List.mem_of_getElem? (i := 256) (by decide +kernel)), by decide +kernel⟩, ti_X, ⟨List.mem_filter.mpr ⟨List.mem_append_right _ (List.mem_of_getElem? (i := 257) (by decide +kernel)), by decide +kernel⟩, List.mem_filter.mpr ⟨List.mem_append_right _ (List.mem_of_getElem? (i := 258) (by decide +kernel)), by decide +kernel⟩⟩⟩
theorem th_X_link : ty_X_link.cls ≠ "java/lang/invoke/MethodHandle" ∧ ty_X_link.cls ≠ "java/lang/invoke/VarHandle" ∧ (parseMethodDescriptor ty_X_link.desc).map (fun d => d.parameters.length) = some 3 := ⟨by decide, by decide, by decide +kernel⟩
theorem tg_X_62 : Cond.methodLink "TrickleMesh" 62 ty_X_isNode ∈ tm_wg ∧ Cond.initialized ty_X_isNode.cls ∈ tm_wg ∧ Cond.static ty_X_isNode ∈ tm_wg := ⟨List.mem_filter.mpr ⟨List.mem_append_right _ (List.mem_of_getElem? (i := 260) (by decide +kernel)), by decide +kernel⟩, ti_X, List.mem_filter.mpr ⟨List.mem_append_right _ (List.mem_of_getElem? (i := 261) (by decide +kernel)), by decide +kernel⟩⟩
theorem th_X_isNode : ty_X_isNode.cls ≠ "java/lang/invoke/MethodHandle" ∧ ty_X_isNode.cls ≠ "java/lang/invoke/VarHandle" ∧ (parseMethodDescriptor ty_X_isNode.desc).map (fun d => d.parameters.length) = some 1 := ⟨by decide, by decide, by decide +kernel⟩
theorem tg_L_26 : Cond.methodLink "TrickleMeshLaw" 26 ty_X_kill ∈ tm_wg ∧ Cond.initialized ty_X_kill.cls ∈ tm_wg ∧ Cond.instanceMethod ty_X_kill ∈ tm_wg ∧ Cond.selects "TrickleMesh" ty_X_kill ty_X_kill ∈ tm_wg := ⟨List.mem_filter.mpr ⟨List.mem_append_right _ (List.mem_of_getElem? (i := 263) (by decide +kernel)), by decide +kernel⟩, ti_X, ⟨List.mem_filter.mpr ⟨List.mem_append_right _ (List.mem_of_getElem? (i := 264) (by decide +kernel)), by decide +kernel⟩, List.mem_filter.mpr ⟨List.mem_append_right _ (List.mem_of_getElem? (i := 265) (by decide +kernel)), by decide +kernel⟩⟩⟩
theorem th_X_kill : ty_X_kill.cls ≠ "java/lang/invoke/MethodHandle" ∧ ty_X_kill.cls ≠ "java/lang/invoke/VarHandle" ∧ (parseMethodDescriptor ty_X_kill.desc).map (fun d => d.parameters.length) = some 1 := ⟨by decide, by decide, by decide +kernel⟩
theorem tg_L_31 : Cond.methodLink "TrickleMeshLaw" 31 ty_X_repair ∈ tm_wg ∧ Cond.initialized ty_X_repair.cls ∈ tm_wg ∧ Cond.instanceMethod ty_X_repair ∈ tm_wg ∧ Cond.selects "TrickleMesh" ty_X_repair ty_X_repair ∈ tm_wg := ⟨List.mem_filter.mpr ⟨List.mem_append_right _ (List.mem_of_getElem? (i := 267) (by decide +kernel)), by decide +kernel⟩, ti_X, ⟨List.mem_filter.mpr ⟨List.mem_append_right _ (List.mem_of_getElem? (i := 268) (by decide +kernel)), by decide +kernel⟩, List.mem_filter.mpr ⟨List.mem_append_right _ (List.mem_of_getElem? (i := 269) (by decide +kernel)), by decide +kernel⟩⟩⟩
theorem th_X_repair : ty_X_repair.cls ≠ "java/lang/invoke/MethodHandle" ∧ ty_X_repair.cls ≠ "java/lang/invoke/VarHandle" ∧ (parseMethodDescriptor ty_X_repair.desc).map (fun d => d.parameters.length) = some 0 := ⟨by decide, by decide, by decide +kernel⟩
theorem tg_L_36 : Cond.methodLink "TrickleMeshLaw" 36 ty_X_send ∈ tm_wg ∧ Cond.initialized ty_X_send.cls ∈ tm_wg ∧ Cond.instanceMethod ty_X_send ∈ tm_wg ∧ Cond.selects "TrickleMesh" ty_X_send ty_X_send ∈ tm_wg := ⟨List.mem_filter.mpr ⟨List.mem_append_right _ (List.mem_of_getElem? (i := 271) (by decide +kernel)), by decide +kernel⟩, ti_X, ⟨List.mem_filter.mpr ⟨List.mem_append_right _ (List.mem_of_getElem? (i := 272) (by decide +kernel)), by decide +kernel⟩, List.mem_filter.mpr ⟨List.mem_append_right _ (List.mem_of_getElem? (i := 273) (by decide +kernel)), by decide +kernel⟩⟩⟩
theorem th_X_send : ty_X_send.cls ≠ "java/lang/invoke/MethodHandle" ∧ ty_X_send.cls ≠ "java/lang/invoke/VarHandle" ∧ (parseMethodDescriptor ty_X_send.desc).map (fun d => d.parameters.length) = some 4 := ⟨by decide, by decide, by decide +kernel⟩
theorem tg_X_87 : Cond.methodLink "TrickleMesh" 87 ty_X_sendOn ∈ tm_wg ∧ Cond.initialized ty_X_sendOn.cls ∈ tm_wg ∧ Cond.instanceMethod ty_X_sendOn ∈ tm_wg ∧ Cond.selects "TrickleMesh" ty_X_sendOn ty_X_sendOn ∈ tm_wg := ⟨List.mem_filter.mpr ⟨List.mem_append_right _ (List.mem_of_getElem? (i := 275) (by decide +kernel)), by decide +kernel⟩, ti_X, ⟨List.mem_filter.mpr ⟨List.mem_append_right _ (List.mem_of_getElem? (i := 277) (by decide +kernel)), by decide +kernel⟩, List.mem_filter.mpr ⟨List.mem_append_left _ (List.mem_of_getElem? (i := 3) (by decide +kernel)), by decide +kernel⟩⟩⟩
theorem th_X_sendOn : ty_X_sendOn.cls ≠ "java/lang/invoke/MethodHandle" ∧ ty_X_sendOn.cls ≠ "java/lang/invoke/VarHandle" ∧ (parseMethodDescriptor ty_X_sendOn.desc).map (fun d => d.parameters.length) = some 6 := ⟨by decide, by decide, by decide +kernel⟩
theorem tg_X_194 : Cond.methodLink "TrickleMesh" 194 ty_X_enqueue ∈ tm_wg ∧ Cond.initialized ty_X_enqueue.cls ∈ tm_wg ∧ Cond.instanceMethod ty_X_enqueue ∈ tm_wg ∧ Cond.selects "TrickleMesh" ty_X_enqueue ty_X_enqueue ∈ tm_wg := ⟨List.mem_filter.mpr ⟨List.mem_append_right _ (List.mem_of_getElem? (i := 279) (by decide +kernel)), by decide +kernel⟩, ti_X, ⟨List.mem_filter.mpr ⟨List.mem_append_right _ (List.mem_of_getElem? (i := 281) (by decide +kernel)), by decide +kernel⟩, List.mem_filter.mpr ⟨List.mem_append_left _ (List.mem_of_getElem? (i := 4) (by decide +kernel)), by decide +kernel⟩⟩⟩
theorem th_X_enqueue : ty_X_enqueue.cls ≠ "java/lang/invoke/MethodHandle" ∧ ty_X_enqueue.cls ≠ "java/lang/invoke/VarHandle" ∧ (parseMethodDescriptor ty_X_enqueue.desc).map (fun d => d.parameters.length) = some 3 := ⟨by decide, by decide, by decide +kernel⟩
theorem tg_X_191 : Cond.methodLink "TrickleMesh" 191 ty_R_beginFirst ∈ tm_wg ∧ Cond.initialized ty_R_beginFirst.cls ∈ tm_wg ∧ Cond.instanceMethod ty_R_beginFirst ∈ tm_wg ∧ Cond.selects "TrickleMesh$Radio" ty_R_beginFirst ty_R_beginFirst ∈ tm_wg := ⟨List.mem_filter.mpr ⟨List.mem_append_right _ (List.mem_of_getElem? (i := 283) (by decide +kernel)), by decide +kernel⟩, ti_R, ⟨List.mem_filter.mpr ⟨List.mem_append_right _ (List.mem_of_getElem? (i := 284) (by decide +kernel)), by decide +kernel⟩, List.mem_filter.mpr ⟨List.mem_append_right _ (List.mem_of_getElem? (i := 285) (by decide +kernel)), by decide +kernel⟩⟩⟩
theorem th_R_beginFirst : ty_R_beginFirst.cls ≠ "java/lang/invoke/MethodHandle" ∧ ty_R_beginFirst.cls ≠ "java/lang/invoke/VarHandle" ∧ (parseMethodDescriptor ty_R_beginFirst.desc).map (fun d => d.parameters.length) = some 1 := ⟨by decide, by decide, by decide +kernel⟩
theorem tg_L_41 : Cond.methodLink "TrickleMeshLaw" 41 ty_X_tick ∈ tm_wg ∧ Cond.initialized ty_X_tick.cls ∈ tm_wg ∧ Cond.instanceMethod ty_X_tick ∈ tm_wg ∧ Cond.selects "TrickleMesh" ty_X_tick ty_X_tick ∈ tm_wg := ⟨List.mem_filter.mpr ⟨List.mem_append_right _ (List.mem_of_getElem? (i := 287) (by decide +kernel)), by decide +kernel⟩, ti_X, ⟨List.mem_filter.mpr ⟨List.mem_append_right _ (List.mem_of_getElem? (i := 288) (by decide +kernel)), by decide +kernel⟩, List.mem_filter.mpr ⟨List.mem_append_right _ (List.mem_of_getElem? (i := 289) (by decide +kernel)), by decide +kernel⟩⟩⟩
theorem th_X_tick : ty_X_tick.cls ≠ "java/lang/invoke/MethodHandle" ∧ ty_X_tick.cls ≠ "java/lang/invoke/VarHandle" ∧ (parseMethodDescriptor ty_X_tick.desc).map (fun d => d.parameters.length) = some 1 := ⟨by decide, by decide, by decide +kernel⟩
theorem tg_X_94 : Cond.methodLink "TrickleMesh" 94 ty_X_rememberTheAir ∈ tm_wg ∧ Cond.initialized ty_X_rememberTheAir.cls ∈ tm_wg ∧ Cond.instanceMethod ty_X_rememberTheAir ∈ tm_wg ∧ Cond.selects "TrickleMesh" ty_X_rememberTheAir ty_X_rememberTheAir ∈ tm_wg := ⟨List.mem_filter.mpr ⟨List.mem_append_right _ (List.mem_of_getElem? (i := 291) (by decide +kernel)), by decide +kernel⟩, ti_X, ⟨List.mem_filter.mpr ⟨List.mem_append_right _ (List.mem_of_getElem? (i := 293) (by decide +kernel)), by decide +kernel⟩, List.mem_filter.mpr ⟨List.mem_append_left _ (List.mem_of_getElem? (i := 5) (by decide +kernel)), by decide +kernel⟩⟩⟩
theorem th_X_rememberTheAir : ty_X_rememberTheAir.cls ≠ "java/lang/invoke/MethodHandle" ∧ ty_X_rememberTheAir.cls ≠ "java/lang/invoke/VarHandle" ∧ (parseMethodDescriptor ty_X_rememberTheAir.desc).map (fun d => d.parameters.length) = some 0 := ⟨by decide, by decide, by decide +kernel⟩
theorem tg_X_97 : Cond.methodLink "TrickleMesh" 97 ty_X_goOnTheAir ∈ tm_wg ∧ Cond.initialized ty_X_goOnTheAir.cls ∈ tm_wg ∧ Cond.instanceMethod ty_X_goOnTheAir ∈ tm_wg ∧ Cond.selects "TrickleMesh" ty_X_goOnTheAir ty_X_goOnTheAir ∈ tm_wg := ⟨List.mem_filter.mpr ⟨List.mem_append_right _ (List.mem_of_getElem? (i := 295) (by decide +kernel)), by decide +kernel⟩, ti_X, ⟨List.mem_filter.mpr ⟨List.mem_append_right _ (List.mem_of_getElem? (i := 297) (by decide +kernel)), by decide +kernel⟩, List.mem_filter.mpr ⟨List.mem_append_left _ (List.mem_of_getElem? (i := 6) (by decide +kernel)), by decide +kernel⟩⟩⟩
theorem th_X_goOnTheAir : ty_X_goOnTheAir.cls ≠ "java/lang/invoke/MethodHandle" ∧ ty_X_goOnTheAir.cls ≠ "java/lang/invoke/VarHandle" ∧ (parseMethodDescriptor ty_X_goOnTheAir.desc).map (fun d => d.parameters.length) = some 0 := ⟨by decide, by decide, by decide +kernel⟩
theorem tg_X_214 : Cond.methodLink "TrickleMesh" 214 ty_X_seemsBusy ∈ tm_wg ∧ Cond.initialized ty_X_seemsBusy.cls ∈ tm_wg ∧ Cond.instanceMethod ty_X_seemsBusy ∈ tm_wg ∧ Cond.selects "TrickleMesh" ty_X_seemsBusy ty_X_seemsBusy ∈ tm_wg := ⟨List.mem_filter.mpr ⟨List.mem_append_right _ (List.mem_of_getElem? (i := 299) (by decide +kernel)), by decide +kernel⟩, ti_X, ⟨List.mem_filter.mpr ⟨List.mem_append_right _ (List.mem_of_getElem? (i := 301) (by decide +kernel)), by decide +kernel⟩, List.mem_filter.mpr ⟨List.mem_append_left _ (List.mem_of_getElem? (i := 7) (by decide +kernel)), by decide +kernel⟩⟩⟩
theorem th_X_seemsBusy : ty_X_seemsBusy.cls ≠ "java/lang/invoke/MethodHandle" ∧ ty_X_seemsBusy.cls ≠ "java/lang/invoke/VarHandle" ∧ (parseMethodDescriptor ty_X_seemsBusy.desc).map (fun d => d.parameters.length) = some 1 := ⟨by decide, by decide, by decide +kernel⟩
theorem tg_X_218 : Cond.methodLink "TrickleMesh" 218 ty_X_failFirst ∈ tm_wg ∧ Cond.initialized ty_X_failFirst.cls ∈ tm_wg ∧ Cond.instanceMethod ty_X_failFirst ∈ tm_wg ∧ Cond.selects "TrickleMesh" ty_X_failFirst ty_X_failFirst ∈ tm_wg := ⟨List.mem_filter.mpr ⟨List.mem_append_right _ (List.mem_of_getElem? (i := 303) (by decide +kernel)), by decide +kernel⟩, ti_X, ⟨List.mem_filter.mpr ⟨List.mem_append_right _ (List.mem_of_getElem? (i := 305) (by decide +kernel)), by decide +kernel⟩, List.mem_filter.mpr ⟨List.mem_append_left _ (List.mem_of_getElem? (i := 8) (by decide +kernel)), by decide +kernel⟩⟩⟩
theorem th_X_failFirst : ty_X_failFirst.cls ≠ "java/lang/invoke/MethodHandle" ∧ ty_X_failFirst.cls ≠ "java/lang/invoke/VarHandle" ∧ (parseMethodDescriptor ty_X_failFirst.desc).map (fun d => d.parameters.length) = some 1 := ⟨by decide, by decide, by decide +kernel⟩
theorem tg_X_198 : Cond.methodLink "TrickleMesh" 198 ty_X_removeFirst ∈ tm_wg ∧ Cond.initialized ty_X_removeFirst.cls ∈ tm_wg ∧ Cond.instanceMethod ty_X_removeFirst ∈ tm_wg ∧ Cond.selects "TrickleMesh" ty_X_removeFirst ty_X_removeFirst ∈ tm_wg := ⟨List.mem_filter.mpr ⟨List.mem_append_right _ (List.mem_of_getElem? (i := 307) (by decide +kernel)), by decide +kernel⟩, ti_X, ⟨List.mem_filter.mpr ⟨List.mem_append_right _ (List.mem_of_getElem? (i := 309) (by decide +kernel)), by decide +kernel⟩, List.mem_filter.mpr ⟨List.mem_append_left _ (List.mem_of_getElem? (i := 9) (by decide +kernel)), by decide +kernel⟩⟩⟩
theorem th_X_removeFirst : ty_X_removeFirst.cls ≠ "java/lang/invoke/MethodHandle" ∧ ty_X_removeFirst.cls ≠ "java/lang/invoke/VarHandle" ∧ (parseMethodDescriptor ty_X_removeFirst.desc).map (fun d => d.parameters.length) = some 1 := ⟨by decide, by decide, by decide +kernel⟩
theorem tg_X_202 : Cond.methodLink "TrickleMesh" 202 ty_X_choose ∈ tm_wg ∧ Cond.initialized ty_X_choose.cls ∈ tm_wg ∧ Cond.instanceMethod ty_X_choose ∈ tm_wg ∧ Cond.selects "TrickleMesh" ty_X_choose ty_X_choose ∈ tm_wg := ⟨List.mem_filter.mpr ⟨List.mem_append_right _ (List.mem_of_getElem? (i := 311) (by decide +kernel)), by decide +kernel⟩, ti_X, ⟨List.mem_filter.mpr ⟨List.mem_append_right _ (List.mem_of_getElem? (i := 313) (by decide +kernel)), by decide +kernel⟩, List.mem_filter.mpr ⟨List.mem_append_left _ (List.mem_of_getElem? (i := 10) (by decide +kernel)), by decide +kernel⟩⟩⟩
theorem th_X_choose : ty_X_choose.cls ≠ "java/lang/invoke/MethodHandle" ∧ ty_X_choose.cls ≠ "java/lang/invoke/VarHandle" ∧ (parseMethodDescriptor ty_X_choose.desc).map (fun d => d.parameters.length) = some 1 := ⟨by decide, by decide, by decide +kernel⟩
theorem tg_X_284 : Cond.methodLink "TrickleMesh" 284 ty_X_bestParent ∈ tm_wg ∧ Cond.initialized ty_X_bestParent.cls ∈ tm_wg ∧ Cond.instanceMethod ty_X_bestParent ∈ tm_wg ∧ Cond.selects "TrickleMesh" ty_X_bestParent ty_X_bestParent ∈ tm_wg := ⟨List.mem_filter.mpr ⟨List.mem_append_right _ (List.mem_of_getElem? (i := 315) (by decide +kernel)), by decide +kernel⟩, ti_X, ⟨List.mem_filter.mpr ⟨List.mem_append_right _ (List.mem_of_getElem? (i := 317) (by decide +kernel)), by decide +kernel⟩, List.mem_filter.mpr ⟨List.mem_append_left _ (List.mem_of_getElem? (i := 11) (by decide +kernel)), by decide +kernel⟩⟩⟩
theorem th_X_bestParent : ty_X_bestParent.cls ≠ "java/lang/invoke/MethodHandle" ∧ ty_X_bestParent.cls ≠ "java/lang/invoke/VarHandle" ∧ (parseMethodDescriptor ty_X_bestParent.desc).map (fun d => d.parameters.length) = some 1 := ⟨by decide, by decide, by decide +kernel⟩
theorem tg_X_291 : Cond.methodLink "TrickleMesh" 291 ty_X_isBetter ∈ tm_wg ∧ Cond.initialized ty_X_isBetter.cls ∈ tm_wg ∧ Cond.instanceMethod ty_X_isBetter ∈ tm_wg ∧ Cond.selects "TrickleMesh" ty_X_isBetter ty_X_isBetter ∈ tm_wg := ⟨List.mem_filter.mpr ⟨List.mem_append_right _ (List.mem_of_getElem? (i := 319) (by decide +kernel)), by decide +kernel⟩, ti_X, ⟨List.mem_filter.mpr ⟨List.mem_append_right _ (List.mem_of_getElem? (i := 321) (by decide +kernel)), by decide +kernel⟩, List.mem_filter.mpr ⟨List.mem_append_left _ (List.mem_of_getElem? (i := 12) (by decide +kernel)), by decide +kernel⟩⟩⟩
theorem th_X_isBetter : ty_X_isBetter.cls ≠ "java/lang/invoke/MethodHandle" ∧ ty_X_isBetter.cls ≠ "java/lang/invoke/VarHandle" ∧ (parseMethodDescriptor ty_X_isBetter.desc).map (fun d => d.parameters.length) = some 3 := ⟨by decide, by decide, by decide +kernel⟩
theorem tg_X_287 : Cond.methodLink "TrickleMesh" 287 ty_X_rankBelow ∈ tm_wg ∧ Cond.initialized ty_X_rankBelow.cls ∈ tm_wg ∧ Cond.instanceMethod ty_X_rankBelow ∈ tm_wg ∧ Cond.selects "TrickleMesh" ty_X_rankBelow ty_X_rankBelow ∈ tm_wg := ⟨List.mem_filter.mpr ⟨List.mem_append_right _ (List.mem_of_getElem? (i := 323) (by decide +kernel)), by decide +kernel⟩, ti_X, ⟨List.mem_filter.mpr ⟨List.mem_append_right _ (List.mem_of_getElem? (i := 325) (by decide +kernel)), by decide +kernel⟩, List.mem_filter.mpr ⟨List.mem_append_left _ (List.mem_of_getElem? (i := 13) (by decide +kernel)), by decide +kernel⟩⟩⟩
theorem th_X_rankBelow : ty_X_rankBelow.cls ≠ "java/lang/invoke/MethodHandle" ∧ ty_X_rankBelow.cls ≠ "java/lang/invoke/VarHandle" ∧ (parseMethodDescriptor ty_X_rankBelow.desc).map (fun d => d.parameters.length) = some 2 := ⟨by decide, by decide, by decide +kernel⟩
theorem tg_X_251 : Cond.methodLink "TrickleMesh" 251 ty_X_ownGoals ∈ tm_wg ∧ Cond.initialized ty_X_ownGoals.cls ∈ tm_wg ∧ Cond.static ty_X_ownGoals ∈ tm_wg := ⟨List.mem_filter.mpr ⟨List.mem_append_right _ (List.mem_of_getElem? (i := 327) (by decide +kernel)), by decide +kernel⟩, ti_X, List.mem_filter.mpr ⟨List.mem_append_right _ (List.mem_of_getElem? (i := 328) (by decide +kernel)), by decide +kernel⟩⟩
theorem th_X_ownGoals : ty_X_ownGoals.cls ≠ "java/lang/invoke/MethodHandle" ∧ ty_X_ownGoals.cls ≠ "java/lang/invoke/VarHandle" ∧ (parseMethodDescriptor ty_X_ownGoals.desc).map (fun d => d.parameters.length) = some 1 := ⟨by decide, by decide, by decide +kernel⟩
theorem tg_X_254 : Cond.methodLink "TrickleMesh" 254 ty_X_announce ∈ tm_wg ∧ Cond.initialized ty_X_announce.cls ∈ tm_wg ∧ Cond.instanceMethod ty_X_announce ∈ tm_wg ∧ Cond.selects "TrickleMesh" ty_X_announce ty_X_announce ∈ tm_wg := ⟨List.mem_filter.mpr ⟨List.mem_append_right _ (List.mem_of_getElem? (i := 330) (by decide +kernel)), by decide +kernel⟩, ti_X, ⟨List.mem_filter.mpr ⟨List.mem_append_right _ (List.mem_of_getElem? (i := 332) (by decide +kernel)), by decide +kernel⟩, List.mem_filter.mpr ⟨List.mem_append_left _ (List.mem_of_getElem? (i := 14) (by decide +kernel)), by decide +kernel⟩⟩⟩
theorem th_X_announce : ty_X_announce.cls ≠ "java/lang/invoke/MethodHandle" ∧ ty_X_announce.cls ≠ "java/lang/invoke/VarHandle" ∧ (parseMethodDescriptor ty_X_announce.desc).map (fun d => d.parameters.length) = some 4 := ⟨by decide, by decide, by decide +kernel⟩
theorem tg_X_302 : Cond.methodLink "TrickleMesh" 302 arraycopyName ∈ tm_wg ∧ Cond.native arraycopyName ∈ tm_wg ∧ Cond.static arraycopyName ∈ tm_wg ∧ Cond.initialized "java/lang/System" ∈ tm_wg := ⟨List.mem_filter.mpr ⟨List.mem_append_right _ (List.mem_of_getElem? (i := 334) (by decide +kernel)), by decide +kernel⟩, List.mem_filter.mpr ⟨List.mem_append_right _ (List.mem_of_getElem? (i := 336) (by decide +kernel)), by decide +kernel⟩, List.mem_filter.mpr ⟨List.mem_append_right _ (List.mem_of_getElem? (i := 335) (by decide +kernel)), by decide +kernel⟩, ti_JS⟩
theorem tg_X_100 : Cond.methodLink "TrickleMesh" 100 ty_X_hearTheAir ∈ tm_wg ∧ Cond.initialized ty_X_hearTheAir.cls ∈ tm_wg ∧ Cond.instanceMethod ty_X_hearTheAir ∈ tm_wg ∧ Cond.selects "TrickleMesh" ty_X_hearTheAir ty_X_hearTheAir ∈ tm_wg := ⟨List.mem_filter.mpr ⟨List.mem_append_right _ (List.mem_of_getElem? (i := 337) (by decide +kernel)), by decide +kernel⟩, ti_X, ⟨List.mem_filter.mpr ⟨List.mem_append_right _ (List.mem_of_getElem? (i := 339) (by decide +kernel)), by decide +kernel⟩, List.mem_filter.mpr ⟨List.mem_append_left _ (List.mem_of_getElem? (i := 15) (by decide +kernel)), by decide +kernel⟩⟩⟩
theorem th_X_hearTheAir : ty_X_hearTheAir.cls ≠ "java/lang/invoke/MethodHandle" ∧ ty_X_hearTheAir.cls ≠ "java/lang/invoke/VarHandle" ∧ (parseMethodDescriptor ty_X_hearTheAir.desc).map (fun d => d.parameters.length) = some 0 := ⟨by decide, by decide, by decide +kernel⟩
theorem tg_X_224 : Cond.methodLink "TrickleMesh" 224 ty_X_onlySpeaker ∈ tm_wg ∧ Cond.initialized ty_X_onlySpeaker.cls ∈ tm_wg ∧ Cond.instanceMethod ty_X_onlySpeaker ∈ tm_wg ∧ Cond.selects "TrickleMesh" ty_X_onlySpeaker ty_X_onlySpeaker ∈ tm_wg := ⟨List.mem_filter.mpr ⟨List.mem_append_right _ (List.mem_of_getElem? (i := 341) (by decide +kernel)), by decide +kernel⟩, ti_X, ⟨List.mem_filter.mpr ⟨List.mem_append_right _ (List.mem_of_getElem? (i := 343) (by decide +kernel)), by decide +kernel⟩, List.mem_filter.mpr ⟨List.mem_append_left _ (List.mem_of_getElem? (i := 16) (by decide +kernel)), by decide +kernel⟩⟩⟩
theorem th_X_onlySpeaker : ty_X_onlySpeaker.cls ≠ "java/lang/invoke/MethodHandle" ∧ ty_X_onlySpeaker.cls ≠ "java/lang/invoke/VarHandle" ∧ (parseMethodDescriptor ty_X_onlySpeaker.desc).map (fun d => d.parameters.length) = some 1 := ⟨by decide, by decide, by decide +kernel⟩
theorem tg_X_103 : Cond.methodLink "TrickleMesh" 103 ty_X_takeWhatWasHeard ∈ tm_wg ∧ Cond.initialized ty_X_takeWhatWasHeard.cls ∈ tm_wg ∧ Cond.instanceMethod ty_X_takeWhatWasHeard ∈ tm_wg ∧ Cond.selects "TrickleMesh" ty_X_takeWhatWasHeard ty_X_takeWhatWasHeard ∈ tm_wg := ⟨List.mem_filter.mpr ⟨List.mem_append_right _ (List.mem_of_getElem? (i := 345) (by decide +kernel)), by decide +kernel⟩, ti_X, ⟨List.mem_filter.mpr ⟨List.mem_append_right _ (List.mem_of_getElem? (i := 347) (by decide +kernel)), by decide +kernel⟩, List.mem_filter.mpr ⟨List.mem_append_left _ (List.mem_of_getElem? (i := 17) (by decide +kernel)), by decide +kernel⟩⟩⟩
theorem th_X_takeWhatWasHeard : ty_X_takeWhatWasHeard.cls ≠ "java/lang/invoke/MethodHandle" ∧ ty_X_takeWhatWasHeard.cls ≠ "java/lang/invoke/VarHandle" ∧ (parseMethodDescriptor ty_X_takeWhatWasHeard.desc).map (fun d => d.parameters.length) = some 0 := ⟨by decide, by decide, by decide +kernel⟩
theorem tg_X_230 : Cond.methodLink "TrickleMesh" 230 ty_X_takeAck ∈ tm_wg ∧ Cond.initialized ty_X_takeAck.cls ∈ tm_wg ∧ Cond.instanceMethod ty_X_takeAck ∈ tm_wg ∧ Cond.selects "TrickleMesh" ty_X_takeAck ty_X_takeAck ∈ tm_wg := ⟨List.mem_filter.mpr ⟨List.mem_append_right _ (List.mem_of_getElem? (i := 349) (by decide +kernel)), by decide +kernel⟩, ti_X, ⟨List.mem_filter.mpr ⟨List.mem_append_right _ (List.mem_of_getElem? (i := 351) (by decide +kernel)), by decide +kernel⟩, List.mem_filter.mpr ⟨List.mem_append_left _ (List.mem_of_getElem? (i := 18) (by decide +kernel)), by decide +kernel⟩⟩⟩
theorem th_X_takeAck : ty_X_takeAck.cls ≠ "java/lang/invoke/MethodHandle" ∧ ty_X_takeAck.cls ≠ "java/lang/invoke/VarHandle" ∧ (parseMethodDescriptor ty_X_takeAck.desc).map (fun d => d.parameters.length) = some 2 := ⟨by decide, by decide, by decide +kernel⟩
theorem tg_X_234 : Cond.methodLink "TrickleMesh" 234 ty_X_takeSolicit ∈ tm_wg ∧ Cond.initialized ty_X_takeSolicit.cls ∈ tm_wg ∧ Cond.instanceMethod ty_X_takeSolicit ∈ tm_wg ∧ Cond.selects "TrickleMesh" ty_X_takeSolicit ty_X_takeSolicit ∈ tm_wg := ⟨List.mem_filter.mpr ⟨List.mem_append_right _ (List.mem_of_getElem? (i := 353) (by decide +kernel)), by decide +kernel⟩, ti_X, ⟨List.mem_filter.mpr ⟨List.mem_append_right _ (List.mem_of_getElem? (i := 355) (by decide +kernel)), by decide +kernel⟩, List.mem_filter.mpr ⟨List.mem_append_left _ (List.mem_of_getElem? (i := 19) (by decide +kernel)), by decide +kernel⟩⟩⟩
theorem th_X_takeSolicit : ty_X_takeSolicit.cls ≠ "java/lang/invoke/MethodHandle" ∧ ty_X_takeSolicit.cls ≠ "java/lang/invoke/VarHandle" ∧ (parseMethodDescriptor ty_X_takeSolicit.desc).map (fun d => d.parameters.length) = some 1 := ⟨by decide, by decide, by decide +kernel⟩
theorem tg_X_237 : Cond.methodLink "TrickleMesh" 237 ty_X_takeAdvert ∈ tm_wg ∧ Cond.initialized ty_X_takeAdvert.cls ∈ tm_wg ∧ Cond.instanceMethod ty_X_takeAdvert ∈ tm_wg ∧ Cond.selects "TrickleMesh" ty_X_takeAdvert ty_X_takeAdvert ∈ tm_wg := ⟨List.mem_filter.mpr ⟨List.mem_append_right _ (List.mem_of_getElem? (i := 357) (by decide +kernel)), by decide +kernel⟩, ti_X, ⟨List.mem_filter.mpr ⟨List.mem_append_right _ (List.mem_of_getElem? (i := 359) (by decide +kernel)), by decide +kernel⟩, List.mem_filter.mpr ⟨List.mem_append_left _ (List.mem_of_getElem? (i := 20) (by decide +kernel)), by decide +kernel⟩⟩⟩
theorem th_X_takeAdvert : ty_X_takeAdvert.cls ≠ "java/lang/invoke/MethodHandle" ∧ ty_X_takeAdvert.cls ≠ "java/lang/invoke/VarHandle" ∧ (parseMethodDescriptor ty_X_takeAdvert.desc).map (fun d => d.parameters.length) = some 2 := ⟨by decide, by decide, by decide +kernel⟩
theorem tg_X_265 : Cond.methodLink "TrickleMesh" 265 ty_X_takeVersion ∈ tm_wg ∧ Cond.initialized ty_X_takeVersion.cls ∈ tm_wg ∧ Cond.instanceMethod ty_X_takeVersion ∈ tm_wg ∧ Cond.selects "TrickleMesh" ty_X_takeVersion ty_X_takeVersion ∈ tm_wg := ⟨List.mem_filter.mpr ⟨List.mem_append_right _ (List.mem_of_getElem? (i := 361) (by decide +kernel)), by decide +kernel⟩, ti_X, ⟨List.mem_filter.mpr ⟨List.mem_append_right _ (List.mem_of_getElem? (i := 363) (by decide +kernel)), by decide +kernel⟩, List.mem_filter.mpr ⟨List.mem_append_left _ (List.mem_of_getElem? (i := 21) (by decide +kernel)), by decide +kernel⟩⟩⟩
theorem th_X_takeVersion : ty_X_takeVersion.cls ≠ "java/lang/invoke/MethodHandle" ∧ ty_X_takeVersion.cls ≠ "java/lang/invoke/VarHandle" ∧ (parseMethodDescriptor ty_X_takeVersion.desc).map (fun d => d.parameters.length) = some 2 := ⟨by decide, by decide, by decide +kernel⟩
theorem tg_X_268 : Cond.methodLink "TrickleMesh" 268 ty_JA_fill ∈ tm_wg ∧ Cond.initialized ty_JA_fill.cls ∈ tm_wg ∧ Cond.static ty_JA_fill ∈ tm_wg := ⟨List.mem_filter.mpr ⟨List.mem_append_right _ (List.mem_of_getElem? (i := 365) (by decide +kernel)), by decide +kernel⟩, ti_JA, List.mem_filter.mpr ⟨List.mem_append_right _ (List.mem_of_getElem? (i := 152) (by decide +kernel)), by decide +kernel⟩⟩
theorem tg_X_240 : Cond.methodLink "TrickleMesh" 240 ty_X_takeOwn ∈ tm_wg ∧ Cond.initialized ty_X_takeOwn.cls ∈ tm_wg ∧ Cond.instanceMethod ty_X_takeOwn ∈ tm_wg ∧ Cond.selects "TrickleMesh" ty_X_takeOwn ty_X_takeOwn ∈ tm_wg := ⟨List.mem_filter.mpr ⟨List.mem_append_right _ (List.mem_of_getElem? (i := 366) (by decide +kernel)), by decide +kernel⟩, ti_X, ⟨List.mem_filter.mpr ⟨List.mem_append_right _ (List.mem_of_getElem? (i := 368) (by decide +kernel)), by decide +kernel⟩, List.mem_filter.mpr ⟨List.mem_append_left _ (List.mem_of_getElem? (i := 22) (by decide +kernel)), by decide +kernel⟩⟩⟩
theorem th_X_takeOwn : ty_X_takeOwn.cls ≠ "java/lang/invoke/MethodHandle" ∧ ty_X_takeOwn.cls ≠ "java/lang/invoke/VarHandle" ∧ (parseMethodDescriptor ty_X_takeOwn.desc).map (fun d => d.parameters.length) = some 3 := ⟨by decide, by decide, by decide +kernel⟩
theorem tg_X_277 : Cond.methodLink "TrickleMesh" 277 ty_X_receiveAnnounce ∈ tm_wg ∧ Cond.initialized ty_X_receiveAnnounce.cls ∈ tm_wg ∧ Cond.instanceMethod ty_X_receiveAnnounce ∈ tm_wg ∧ Cond.selects "TrickleMesh" ty_X_receiveAnnounce ty_X_receiveAnnounce ∈ tm_wg := ⟨List.mem_filter.mpr ⟨List.mem_append_right _ (List.mem_of_getElem? (i := 370) (by decide +kernel)), by decide +kernel⟩, ti_X, ⟨List.mem_filter.mpr ⟨List.mem_append_right _ (List.mem_of_getElem? (i := 372) (by decide +kernel)), by decide +kernel⟩, List.mem_filter.mpr ⟨List.mem_append_left _ (List.mem_of_getElem? (i := 23) (by decide +kernel)), by decide +kernel⟩⟩⟩
theorem th_X_receiveAnnounce : ty_X_receiveAnnounce.cls ≠ "java/lang/invoke/MethodHandle" ∧ ty_X_receiveAnnounce.cls ≠ "java/lang/invoke/VarHandle" ∧ (parseMethodDescriptor ty_X_receiveAnnounce.desc).map (fun d => d.parameters.length) = some 3 := ⟨by decide, by decide, by decide +kernel⟩
theorem tg_X_308 : Cond.methodLink "TrickleMesh" 308 ty_X_changeRoute ∈ tm_wg ∧ Cond.initialized ty_X_changeRoute.cls ∈ tm_wg ∧ Cond.static ty_X_changeRoute ∈ tm_wg := ⟨List.mem_filter.mpr ⟨List.mem_append_right _ (List.mem_of_getElem? (i := 374) (by decide +kernel)), by decide +kernel⟩, ti_X, List.mem_filter.mpr ⟨List.mem_append_right _ (List.mem_of_getElem? (i := 375) (by decide +kernel)), by decide +kernel⟩⟩
theorem th_X_changeRoute : ty_X_changeRoute.cls ≠ "java/lang/invoke/MethodHandle" ∧ ty_X_changeRoute.cls ≠ "java/lang/invoke/VarHandle" ∧ (parseMethodDescriptor ty_X_changeRoute.desc).map (fun d => d.parameters.length) = some 4 := ⟨by decide, by decide, by decide +kernel⟩
theorem tg_X_281 : Cond.methodLink "TrickleMesh" 281 ty_X_receiveValue ∈ tm_wg ∧ Cond.initialized ty_X_receiveValue.cls ∈ tm_wg ∧ Cond.instanceMethod ty_X_receiveValue ∈ tm_wg ∧ Cond.selects "TrickleMesh" ty_X_receiveValue ty_X_receiveValue ∈ tm_wg := ⟨List.mem_filter.mpr ⟨List.mem_append_right _ (List.mem_of_getElem? (i := 377) (by decide +kernel)), by decide +kernel⟩, ti_X, ⟨List.mem_filter.mpr ⟨List.mem_append_right _ (List.mem_of_getElem? (i := 379) (by decide +kernel)), by decide +kernel⟩, List.mem_filter.mpr ⟨List.mem_append_left _ (List.mem_of_getElem? (i := 24) (by decide +kernel)), by decide +kernel⟩⟩⟩
theorem th_X_receiveValue : ty_X_receiveValue.cls ≠ "java/lang/invoke/MethodHandle" ∧ ty_X_receiveValue.cls ≠ "java/lang/invoke/VarHandle" ∧ (parseMethodDescriptor ty_X_receiveValue.desc).map (fun d => d.parameters.length) = some 3 := ⟨by decide, by decide, by decide +kernel⟩
theorem tg_X_330 : Cond.methodLink "TrickleMesh" 330 ty_X_deliver ∈ tm_wg ∧ Cond.initialized ty_X_deliver.cls ∈ tm_wg ∧ Cond.instanceMethod ty_X_deliver ∈ tm_wg ∧ Cond.selects "TrickleMesh" ty_X_deliver ty_X_deliver ∈ tm_wg := ⟨List.mem_filter.mpr ⟨List.mem_append_right _ (List.mem_of_getElem? (i := 381) (by decide +kernel)), by decide +kernel⟩, ti_X, ⟨List.mem_filter.mpr ⟨List.mem_append_right _ (List.mem_of_getElem? (i := 383) (by decide +kernel)), by decide +kernel⟩, List.mem_filter.mpr ⟨List.mem_append_left _ (List.mem_of_getElem? (i := 25) (by decide +kernel)), by decide +kernel⟩⟩⟩
theorem th_X_deliver : ty_X_deliver.cls ≠ "java/lang/invoke/MethodHandle" ∧ ty_X_deliver.cls ≠ "java/lang/invoke/VarHandle" ∧ (parseMethodDescriptor ty_X_deliver.desc).map (fun d => d.parameters.length) = some 2 := ⟨by decide, by decide, by decide +kernel⟩
theorem tg_X_106 : Cond.methodLink "TrickleMesh" 106 ty_X_settleWhatWasOnTheAir ∈ tm_wg ∧ Cond.initialized ty_X_settleWhatWasOnTheAir.cls ∈ tm_wg ∧ Cond.instanceMethod ty_X_settleWhatWasOnTheAir ∈ tm_wg ∧ Cond.selects "TrickleMesh" ty_X_settleWhatWasOnTheAir ty_X_settleWhatWasOnTheAir ∈ tm_wg := ⟨List.mem_filter.mpr ⟨List.mem_append_right _ (List.mem_of_getElem? (i := 385) (by decide +kernel)), by decide +kernel⟩, ti_X, ⟨List.mem_filter.mpr ⟨List.mem_append_right _ (List.mem_of_getElem? (i := 387) (by decide +kernel)), by decide +kernel⟩, List.mem_filter.mpr ⟨List.mem_append_left _ (List.mem_of_getElem? (i := 26) (by decide +kernel)), by decide +kernel⟩⟩⟩
theorem th_X_settleWhatWasOnTheAir : ty_X_settleWhatWasOnTheAir.cls ≠ "java/lang/invoke/MethodHandle" ∧ ty_X_settleWhatWasOnTheAir.cls ≠ "java/lang/invoke/VarHandle" ∧ (parseMethodDescriptor ty_X_settleWhatWasOnTheAir.desc).map (fun d => d.parameters.length) = some 0 := ⟨by decide, by decide, by decide +kernel⟩
theorem tg_X_109 : Cond.methodLink "TrickleMesh" 109 ty_X_settleWhatWasListenedFor ∈ tm_wg ∧ Cond.initialized ty_X_settleWhatWasListenedFor.cls ∈ tm_wg ∧ Cond.instanceMethod ty_X_settleWhatWasListenedFor ∈ tm_wg ∧ Cond.selects "TrickleMesh" ty_X_settleWhatWasListenedFor ty_X_settleWhatWasListenedFor ∈ tm_wg := ⟨List.mem_filter.mpr ⟨List.mem_append_right _ (List.mem_of_getElem? (i := 389) (by decide +kernel)), by decide +kernel⟩, ti_X, ⟨List.mem_filter.mpr ⟨List.mem_append_right _ (List.mem_of_getElem? (i := 391) (by decide +kernel)), by decide +kernel⟩, List.mem_filter.mpr ⟨List.mem_append_left _ (List.mem_of_getElem? (i := 27) (by decide +kernel)), by decide +kernel⟩⟩⟩
theorem th_X_settleWhatWasListenedFor : ty_X_settleWhatWasListenedFor.cls ≠ "java/lang/invoke/MethodHandle" ∧ ty_X_settleWhatWasListenedFor.cls ≠ "java/lang/invoke/VarHandle" ∧ (parseMethodDescriptor ty_X_settleWhatWasListenedFor.desc).map (fun d => d.parameters.length) = some 0 := ⟨by decide, by decide, by decide +kernel⟩
theorem tg_X_112 : Cond.methodLink "TrickleMesh" 112 ty_X_runTimers ∈ tm_wg ∧ Cond.initialized ty_X_runTimers.cls ∈ tm_wg ∧ Cond.instanceMethod ty_X_runTimers ∈ tm_wg ∧ Cond.selects "TrickleMesh" ty_X_runTimers ty_X_runTimers ∈ tm_wg := ⟨List.mem_filter.mpr ⟨List.mem_append_right _ (List.mem_of_getElem? (i := 393) (by decide +kernel)), by decide +kernel⟩, ti_X, ⟨List.mem_filter.mpr ⟨List.mem_append_right _ (List.mem_of_getElem? (i := 395) (by decide +kernel)), by decide +kernel⟩, List.mem_filter.mpr ⟨List.mem_append_left _ (List.mem_of_getElem? (i := 28) (by decide +kernel)), by decide +kernel⟩⟩⟩
theorem th_X_runTimers : ty_X_runTimers.cls ≠ "java/lang/invoke/MethodHandle" ∧ ty_X_runTimers.cls ≠ "java/lang/invoke/VarHandle" ∧ (parseMethodDescriptor ty_X_runTimers.desc).map (fun d => d.parameters.length) = some 0 := ⟨by decide, by decide, by decide +kernel⟩
theorem tg_X_244 : Cond.methodLink "TrickleMesh" 244 ty_X_runTimer ∈ tm_wg ∧ Cond.initialized ty_X_runTimer.cls ∈ tm_wg ∧ Cond.instanceMethod ty_X_runTimer ∈ tm_wg ∧ Cond.selects "TrickleMesh" ty_X_runTimer ty_X_runTimer ∈ tm_wg := ⟨List.mem_filter.mpr ⟨List.mem_append_right _ (List.mem_of_getElem? (i := 397) (by decide +kernel)), by decide +kernel⟩, ti_X, ⟨List.mem_filter.mpr ⟨List.mem_append_right _ (List.mem_of_getElem? (i := 399) (by decide +kernel)), by decide +kernel⟩, List.mem_filter.mpr ⟨List.mem_append_left _ (List.mem_of_getElem? (i := 29) (by decide +kernel)), by decide +kernel⟩⟩⟩
theorem th_X_runTimer : ty_X_runTimer.cls ≠ "java/lang/invoke/MethodHandle" ∧ ty_X_runTimer.cls ≠ "java/lang/invoke/VarHandle" ∧ (parseMethodDescriptor ty_X_runTimer.desc).map (fun d => d.parameters.length) = some 1 := ⟨by decide, by decide, by decide +kernel⟩
theorem tg_X_247 : Cond.methodLink "TrickleMesh" 247 ty_X_enqueueOnce ∈ tm_wg ∧ Cond.initialized ty_X_enqueueOnce.cls ∈ tm_wg ∧ Cond.instanceMethod ty_X_enqueueOnce ∈ tm_wg ∧ Cond.selects "TrickleMesh" ty_X_enqueueOnce ty_X_enqueueOnce ∈ tm_wg := ⟨List.mem_filter.mpr ⟨List.mem_append_right _ (List.mem_of_getElem? (i := 401) (by decide +kernel)), by decide +kernel⟩, ti_X, ⟨List.mem_filter.mpr ⟨List.mem_append_right _ (List.mem_of_getElem? (i := 403) (by decide +kernel)), by decide +kernel⟩, List.mem_filter.mpr ⟨List.mem_append_left _ (List.mem_of_getElem? (i := 30) (by decide +kernel)), by decide +kernel⟩⟩⟩
theorem th_X_enqueueOnce : ty_X_enqueueOnce.cls ≠ "java/lang/invoke/MethodHandle" ∧ ty_X_enqueueOnce.cls ≠ "java/lang/invoke/VarHandle" ∧ (parseMethodDescriptor ty_X_enqueueOnce.desc).map (fun d => d.parameters.length) = some 2 := ⟨by decide, by decide, by decide +kernel⟩
theorem tg_L_46 : Cond.methodLink "TrickleMeshLaw" 46 ty_X_node ∈ tm_wg ∧ Cond.initialized ty_X_node.cls ∈ tm_wg ∧ Cond.instanceMethod ty_X_node ∈ tm_wg ∧ Cond.selects "TrickleMesh" ty_X_node ty_X_node ∈ tm_wg := ⟨List.mem_filter.mpr ⟨List.mem_append_right _ (List.mem_of_getElem? (i := 405) (by decide +kernel)), by decide +kernel⟩, ti_X, ⟨List.mem_filter.mpr ⟨List.mem_append_right _ (List.mem_of_getElem? (i := 406) (by decide +kernel)), by decide +kernel⟩, List.mem_filter.mpr ⟨List.mem_append_right _ (List.mem_of_getElem? (i := 407) (by decide +kernel)), by decide +kernel⟩⟩⟩
theorem th_X_node : ty_X_node.cls ≠ "java/lang/invoke/MethodHandle" ∧ ty_X_node.cls ≠ "java/lang/invoke/VarHandle" ∧ (parseMethodDescriptor ty_X_node.desc).map (fun d => d.parameters.length) = some 2 := ⟨by decide, by decide, by decide +kernel⟩
theorem tg_X_139 : Cond.methodLink "TrickleMesh" 139 ty_X_condition ∈ tm_wg ∧ Cond.initialized ty_X_condition.cls ∈ tm_wg ∧ Cond.static ty_X_condition ∈ tm_wg := ⟨List.mem_filter.mpr ⟨List.mem_append_right _ (List.mem_of_getElem? (i := 409) (by decide +kernel)), by decide +kernel⟩, ti_X, List.mem_filter.mpr ⟨List.mem_append_right _ (List.mem_of_getElem? (i := 410) (by decide +kernel)), by decide +kernel⟩⟩
theorem th_X_condition : ty_X_condition.cls ≠ "java/lang/invoke/MethodHandle" ∧ ty_X_condition.cls ≠ "java/lang/invoke/VarHandle" ∧ (parseMethodDescriptor ty_X_condition.desc).map (fun d => d.parameters.length) = some 1 := ⟨by decide, by decide, by decide +kernel⟩
theorem tg_L_51 : Cond.methodLink "TrickleMeshLaw" 51 ty_X_next ∈ tm_wg ∧ Cond.initialized ty_X_next.cls ∈ tm_wg ∧ Cond.instanceMethod ty_X_next ∈ tm_wg ∧ Cond.selects "TrickleMesh" ty_X_next ty_X_next ∈ tm_wg := ⟨List.mem_filter.mpr ⟨List.mem_append_right _ (List.mem_of_getElem? (i := 412) (by decide +kernel)), by decide +kernel⟩, ti_X, ⟨List.mem_filter.mpr ⟨List.mem_append_right _ (List.mem_of_getElem? (i := 413) (by decide +kernel)), by decide +kernel⟩, List.mem_filter.mpr ⟨List.mem_append_right _ (List.mem_of_getElem? (i := 414) (by decide +kernel)), by decide +kernel⟩⟩⟩
theorem th_X_next : ty_X_next.cls ≠ "java/lang/invoke/MethodHandle" ∧ ty_X_next.cls ≠ "java/lang/invoke/VarHandle" ∧ (parseMethodDescriptor ty_X_next.desc).map (fun d => d.parameters.length) = some 2 := ⟨by decide, by decide, by decide +kernel⟩
theorem tg_L_55 : Cond.methodLink "TrickleMeshLaw" 55 ty_X_known ∈ tm_wg ∧ Cond.initialized ty_X_known.cls ∈ tm_wg ∧ Cond.instanceMethod ty_X_known ∈ tm_wg ∧ Cond.selects "TrickleMesh" ty_X_known ty_X_known ∈ tm_wg := ⟨List.mem_filter.mpr ⟨List.mem_append_right _ (List.mem_of_getElem? (i := 416) (by decide +kernel)), by decide +kernel⟩, ti_X, ⟨List.mem_filter.mpr ⟨List.mem_append_right _ (List.mem_of_getElem? (i := 417) (by decide +kernel)), by decide +kernel⟩, List.mem_filter.mpr ⟨List.mem_append_right _ (List.mem_of_getElem? (i := 418) (by decide +kernel)), by decide +kernel⟩⟩⟩
theorem th_X_known : ty_X_known.cls ≠ "java/lang/invoke/MethodHandle" ∧ ty_X_known.cls ≠ "java/lang/invoke/VarHandle" ∧ (parseMethodDescriptor ty_X_known.desc).map (fun d => d.parameters.length) = some 2 := ⟨by decide, by decide, by decide +kernel⟩
theorem tg_L_59 : Cond.methodLink "TrickleMeshLaw" 59 ty_X_delivered ∈ tm_wg ∧ Cond.initialized ty_X_delivered.cls ∈ tm_wg ∧ Cond.instanceMethod ty_X_delivered ∈ tm_wg ∧ Cond.selects "TrickleMesh" ty_X_delivered ty_X_delivered ∈ tm_wg := ⟨List.mem_filter.mpr ⟨List.mem_append_right _ (List.mem_of_getElem? (i := 420) (by decide +kernel)), by decide +kernel⟩, ti_X, ⟨List.mem_filter.mpr ⟨List.mem_append_right _ (List.mem_of_getElem? (i := 421) (by decide +kernel)), by decide +kernel⟩, List.mem_filter.mpr ⟨List.mem_append_right _ (List.mem_of_getElem? (i := 422) (by decide +kernel)), by decide +kernel⟩⟩⟩
theorem th_X_delivered : ty_X_delivered.cls ≠ "java/lang/invoke/MethodHandle" ∧ ty_X_delivered.cls ≠ "java/lang/invoke/VarHandle" ∧ (parseMethodDescriptor ty_X_delivered.desc).map (fun d => d.parameters.length) = some 2 := ⟨by decide, by decide, by decide +kernel⟩
theorem tg_L_63 : Cond.methodLink "TrickleMeshLaw" 63 ty_X_count ∈ tm_wg ∧ Cond.initialized ty_X_count.cls ∈ tm_wg ∧ Cond.instanceMethod ty_X_count ∈ tm_wg ∧ Cond.selects "TrickleMesh" ty_X_count ty_X_count ∈ tm_wg := ⟨List.mem_filter.mpr ⟨List.mem_append_right _ (List.mem_of_getElem? (i := 424) (by decide +kernel)), by decide +kernel⟩, ti_X, ⟨List.mem_filter.mpr ⟨List.mem_append_right _ (List.mem_of_getElem? (i := 425) (by decide +kernel)), by decide +kernel⟩, List.mem_filter.mpr ⟨List.mem_append_right _ (List.mem_of_getElem? (i := 426) (by decide +kernel)), by decide +kernel⟩⟩⟩
theorem th_X_count : ty_X_count.cls ≠ "java/lang/invoke/MethodHandle" ∧ ty_X_count.cls ≠ "java/lang/invoke/VarHandle" ∧ (parseMethodDescriptor ty_X_count.desc).map (fun d => d.parameters.length) = some 1 := ⟨by decide, by decide, by decide +kernel⟩
theorem tg_L_9 : Cond.methodLink "TrickleMeshLaw" 9 ty_L_cell ∈ tm_wg ∧ Cond.initialized ty_L_cell.cls ∈ tm_wg ∧ Cond.static ty_L_cell ∈ tm_wg := ⟨List.mem_filter.mpr ⟨List.mem_append_right _ (List.mem_of_getElem? (i := 428) (by decide +kernel)), by decide +kernel⟩, ti_L, List.mem_filter.mpr ⟨List.mem_append_right _ (List.mem_of_getElem? (i := 429) (by decide +kernel)), by decide +kernel⟩⟩
theorem th_L_cell : ty_L_cell.cls ≠ "java/lang/invoke/MethodHandle" ∧ ty_L_cell.cls ≠ "java/lang/invoke/VarHandle" ∧ (parseMethodDescriptor ty_L_cell.desc).map (fun d => d.parameters.length) = some 2 := ⟨by decide, by decide, by decide +kernel⟩
theorem tg_L_20 : Cond.methodLink "TrickleMeshLaw" 20 ty_Y_init ∈ tm_wg ∧ Cond.initialized ty_Y_init.cls ∈ tm_wg ∧ Cond.instanceMethod ty_Y_init ∈ tm_wg := ⟨List.mem_filter.mpr ⟨List.mem_append_right _ (List.mem_of_getElem? (i := 433) (by decide +kernel)), by decide +kernel⟩, ti_Y, List.mem_filter.mpr ⟨List.mem_append_right _ (List.mem_of_getElem? (i := 434) (by decide +kernel)), by decide +kernel⟩⟩
theorem th_Y_init : ty_Y_init.cls ≠ "java/lang/invoke/MethodHandle" ∧ ty_Y_init.cls ≠ "java/lang/invoke/VarHandle" ∧ (parseMethodDescriptor ty_Y_init.desc).map (fun d => d.parameters.length) = some 3 := ⟨by decide, by decide, by decide +kernel⟩
theorem tg_Y_150 : Cond.methodLink "TrickleMeshModel" 150 ty_Y_reset ∈ tm_wg ∧ Cond.initialized ty_Y_reset.cls ∈ tm_wg ∧ Cond.instanceMethod ty_Y_reset ∈ tm_wg ∧ Cond.selects "TrickleMeshModel" ty_Y_reset ty_Y_reset ∈ tm_wg := ⟨List.mem_filter.mpr ⟨List.mem_append_right _ (List.mem_of_getElem? (i := 437) (by decide +kernel)), by decide +kernel⟩, ti_Y, ⟨List.mem_filter.mpr ⟨List.mem_append_right _ (List.mem_of_getElem? (i := 439) (by decide +kernel)), by decide +kernel⟩, List.mem_filter.mpr ⟨List.mem_append_left _ (List.mem_of_getElem? (i := 31) (by decide +kernel)), by decide +kernel⟩⟩⟩
theorem th_Y_reset : ty_Y_reset.cls ≠ "java/lang/invoke/MethodHandle" ∧ ty_Y_reset.cls ≠ "java/lang/invoke/VarHandle" ∧ (parseMethodDescriptor ty_Y_reset.desc).map (fun d => d.parameters.length) = some 1 := ⟨by decide, by decide, by decide +kernel⟩
theorem tg_Y_175 : Cond.methodLink "TrickleMeshModel" 175 ty_Y_begin ∈ tm_wg ∧ Cond.initialized ty_Y_begin.cls ∈ tm_wg ∧ Cond.instanceMethod ty_Y_begin ∈ tm_wg ∧ Cond.selects "TrickleMeshModel" ty_Y_begin ty_Y_begin ∈ tm_wg := ⟨List.mem_filter.mpr ⟨List.mem_append_right _ (List.mem_of_getElem? (i := 441) (by decide +kernel)), by decide +kernel⟩, ti_Y, ⟨List.mem_filter.mpr ⟨List.mem_append_right _ (List.mem_of_getElem? (i := 443) (by decide +kernel)), by decide +kernel⟩, List.mem_filter.mpr ⟨List.mem_append_left _ (List.mem_of_getElem? (i := 32) (by decide +kernel)), by decide +kernel⟩⟩⟩
theorem th_Y_begin : ty_Y_begin.cls ≠ "java/lang/invoke/MethodHandle" ∧ ty_Y_begin.cls ≠ "java/lang/invoke/VarHandle" ∧ (parseMethodDescriptor ty_Y_begin.desc).map (fun d => d.parameters.length) = some 1 := ⟨by decide, by decide, by decide +kernel⟩
theorem tg_Y_158 : Cond.methodLink "TrickleMeshModel" 158 ty_Y_draw ∈ tm_wg ∧ Cond.initialized ty_Y_draw.cls ∈ tm_wg ∧ Cond.instanceMethod ty_Y_draw ∈ tm_wg ∧ Cond.selects "TrickleMeshModel" ty_Y_draw ty_Y_draw ∈ tm_wg := ⟨List.mem_filter.mpr ⟨List.mem_append_right _ (List.mem_of_getElem? (i := 445) (by decide +kernel)), by decide +kernel⟩, ti_Y, ⟨List.mem_filter.mpr ⟨List.mem_append_right _ (List.mem_of_getElem? (i := 447) (by decide +kernel)), by decide +kernel⟩, List.mem_filter.mpr ⟨List.mem_append_left _ (List.mem_of_getElem? (i := 33) (by decide +kernel)), by decide +kernel⟩⟩⟩
theorem th_Y_draw : ty_Y_draw.cls ≠ "java/lang/invoke/MethodHandle" ∧ ty_Y_draw.cls ≠ "java/lang/invoke/VarHandle" ∧ (parseMethodDescriptor ty_Y_draw.desc).map (fun d => d.parameters.length) = some 1 := ⟨by decide, by decide, by decide +kernel⟩
theorem tk_Y_154 : Cond.constant "TrickleMeshModel" 154 1103515245 ∈ tm_wg := List.mem_filter.mpr ⟨List.mem_append_right _ (List.mem_of_getElem? (i := 449) (by decide +kernel)), by decide +kernel⟩
theorem tq_Y_140 : Cond.fieldLink "TrickleMeshModel" 140 (tT_Y 0).1 (tT_Y 0).2.1 (tT_Y 0).2.2.1 ∈ tm_wg := List.mem_filter.mpr ⟨List.mem_append_right _ (List.mem_of_getElem? (i := 450) (by decide +kernel)), by decide +kernel⟩
theorem tf_Y_140 : tv_F tm_wg tm_ns tm_cl "TrickleMeshModel" 140 5 0 tR_Y tT_Y 52 := ⟨rfl, by decide, tl_Y, Or.inl tq_Y_140⟩
theorem tq_Y_144 : Cond.fieldLink "TrickleMeshModel" 144 (tT_Y 1).1 (tT_Y 1).2.1 (tT_Y 1).2.2.1 ∈ tm_wg := List.mem_filter.mpr ⟨List.mem_append_right _ (List.mem_of_getElem? (i := 451) (by decide +kernel)), by decide +kernel⟩
theorem tf_Y_144 : tv_F tm_wg tm_ns tm_cl "TrickleMeshModel" 144 5 1 tR_Y tT_Y 52 := ⟨rfl, by decide, tl_Y, Or.inl tq_Y_144⟩
theorem tq_Y_147 : Cond.fieldLink "TrickleMeshModel" 147 (tT_Y 2).1 (tT_Y 2).2.1 (tT_Y 2).2.2.1 ∈ tm_wg := List.mem_filter.mpr ⟨List.mem_append_right _ (List.mem_of_getElem? (i := 452) (by decide +kernel)), by decide +kernel⟩
theorem tf_Y_147 : tv_F tm_wg tm_ns tm_cl "TrickleMeshModel" 147 5 2 tR_Y tT_Y 52 := ⟨rfl, by decide, tl_Y, Or.inl tq_Y_147⟩
theorem tq_Y_223 : Cond.fieldLink "TrickleMeshModel" 223 (tT_Y 3).1 (tT_Y 3).2.1 (tT_Y 3).2.2.1 ∈ tm_wg := List.mem_filter.mpr ⟨List.mem_append_right _ (List.mem_of_getElem? (i := 453) (by decide +kernel)), by decide +kernel⟩
theorem tf_Y_223 : tv_F tm_wg tm_ns tm_cl "TrickleMeshModel" 223 5 3 tR_Y tT_Y 52 := ⟨rfl, by decide, tl_Y, Or.inl tq_Y_223⟩
theorem tq_Y_7 : Cond.fieldLink "TrickleMeshModel" 7 (tT_Y 4).1 (tT_Y 4).2.1 (tT_Y 4).2.2.1 ∈ tm_wg := List.mem_filter.mpr ⟨List.mem_append_right _ (List.mem_of_getElem? (i := 454) (by decide +kernel)), by decide +kernel⟩
theorem tf_Y_7 : tv_F tm_wg tm_ns tm_cl "TrickleMeshModel" 7 5 4 tR_Y tT_Y 52 := ⟨rfl, by decide, tl_Y, Or.inl tq_Y_7⟩
theorem tq_Y_13 : Cond.fieldLink "TrickleMeshModel" 13 (tT_Y 5).1 (tT_Y 5).2.1 (tT_Y 5).2.2.1 ∈ tm_wg := List.mem_filter.mpr ⟨List.mem_append_right _ (List.mem_of_getElem? (i := 455) (by decide +kernel)), by decide +kernel⟩
theorem tf_Y_13 : tv_F tm_wg tm_ns tm_cl "TrickleMeshModel" 13 5 5 tR_Y tT_Y 52 := ⟨rfl, by decide, tl_Y, Or.inl tq_Y_13⟩
theorem tq_Y_16 : Cond.fieldLink "TrickleMeshModel" 16 (tT_Y 6).1 (tT_Y 6).2.1 (tT_Y 6).2.2.1 ∈ tm_wg := List.mem_filter.mpr ⟨List.mem_append_right _ (List.mem_of_getElem? (i := 456) (by decide +kernel)), by decide +kernel⟩
theorem tf_Y_16 : tv_F tm_wg tm_ns tm_cl "TrickleMeshModel" 16 5 6 tR_Y tT_Y 52 := ⟨rfl, by decide, tl_Y, Or.inl tq_Y_16⟩
theorem tq_Y_20 : Cond.fieldLink "TrickleMeshModel" 20 (tT_Y 7).1 (tT_Y 7).2.1 (tT_Y 7).2.2.1 ∈ tm_wg := List.mem_filter.mpr ⟨List.mem_append_right _ (List.mem_of_getElem? (i := 457) (by decide +kernel)), by decide +kernel⟩
theorem tf_Y_20 : tv_F tm_wg tm_ns tm_cl "TrickleMeshModel" 20 5 7 tR_Y tT_Y 52 := ⟨rfl, by decide, tl_Y, Or.inl tq_Y_20⟩
theorem tq_Y_23 : Cond.fieldLink "TrickleMeshModel" 23 (tT_Y 8).1 (tT_Y 8).2.1 (tT_Y 8).2.2.1 ∈ tm_wg := List.mem_filter.mpr ⟨List.mem_append_right _ (List.mem_of_getElem? (i := 458) (by decide +kernel)), by decide +kernel⟩
theorem tf_Y_23 : tv_F tm_wg tm_ns tm_cl "TrickleMeshModel" 23 5 8 tR_Y tT_Y 52 := ⟨rfl, by decide, tl_Y, Or.inl tq_Y_23⟩
theorem tq_Y_26 : Cond.fieldLink "TrickleMeshModel" 26 (tT_Y 9).1 (tT_Y 9).2.1 (tT_Y 9).2.2.1 ∈ tm_wg := List.mem_filter.mpr ⟨List.mem_append_right _ (List.mem_of_getElem? (i := 459) (by decide +kernel)), by decide +kernel⟩
theorem tf_Y_26 : tv_F tm_wg tm_ns tm_cl "TrickleMeshModel" 26 5 9 tR_Y tT_Y 52 := ⟨rfl, by decide, tl_Y, Or.inl tq_Y_26⟩
theorem tq_Y_29 : Cond.fieldLink "TrickleMeshModel" 29 (tT_Y 10).1 (tT_Y 10).2.1 (tT_Y 10).2.2.1 ∈ tm_wg := List.mem_filter.mpr ⟨List.mem_append_right _ (List.mem_of_getElem? (i := 460) (by decide +kernel)), by decide +kernel⟩
theorem tf_Y_29 : tv_F tm_wg tm_ns tm_cl "TrickleMeshModel" 29 5 10 tR_Y tT_Y 52 := ⟨rfl, by decide, tl_Y, Or.inl tq_Y_29⟩
theorem tq_Y_32 : Cond.fieldLink "TrickleMeshModel" 32 (tT_Y 11).1 (tT_Y 11).2.1 (tT_Y 11).2.2.1 ∈ tm_wg := List.mem_filter.mpr ⟨List.mem_append_right _ (List.mem_of_getElem? (i := 461) (by decide +kernel)), by decide +kernel⟩
theorem tf_Y_32 : tv_F tm_wg tm_ns tm_cl "TrickleMeshModel" 32 5 11 tR_Y tT_Y 52 := ⟨rfl, by decide, tl_Y, Or.inl tq_Y_32⟩
theorem tq_Y_35 : Cond.fieldLink "TrickleMeshModel" 35 (tT_Y 12).1 (tT_Y 12).2.1 (tT_Y 12).2.2.1 ∈ tm_wg := List.mem_filter.mpr ⟨List.mem_append_right _ (List.mem_of_getElem? (i := 462) (by decide +kernel)), by decide +kernel⟩
theorem tf_Y_35 : tv_F tm_wg tm_ns tm_cl "TrickleMeshModel" 35 5 12 tR_Y tT_Y 52 := ⟨rfl, by decide, tl_Y, Or.inl tq_Y_35⟩
theorem tq_Y_38 : Cond.fieldLink "TrickleMeshModel" 38 (tT_Y 13).1 (tT_Y 13).2.1 (tT_Y 13).2.2.1 ∈ tm_wg := List.mem_filter.mpr ⟨List.mem_append_right _ (List.mem_of_getElem? (i := 463) (by decide +kernel)), by decide +kernel⟩
theorem tf_Y_38 : tv_F tm_wg tm_ns tm_cl "TrickleMeshModel" 38 5 13 tR_Y tT_Y 52 := ⟨rfl, by decide, tl_Y, Or.inl tq_Y_38⟩
theorem tq_Y_41 : Cond.fieldLink "TrickleMeshModel" 41 (tT_Y 14).1 (tT_Y 14).2.1 (tT_Y 14).2.2.1 ∈ tm_wg := List.mem_filter.mpr ⟨List.mem_append_right _ (List.mem_of_getElem? (i := 464) (by decide +kernel)), by decide +kernel⟩
theorem tf_Y_41 : tv_F tm_wg tm_ns tm_cl "TrickleMeshModel" 41 5 14 tR_Y tT_Y 52 := ⟨rfl, by decide, tl_Y, Or.inl tq_Y_41⟩
theorem tq_Y_44 : Cond.fieldLink "TrickleMeshModel" 44 (tT_Y 15).1 (tT_Y 15).2.1 (tT_Y 15).2.2.1 ∈ tm_wg := List.mem_filter.mpr ⟨List.mem_append_right _ (List.mem_of_getElem? (i := 465) (by decide +kernel)), by decide +kernel⟩
theorem tf_Y_44 : tv_F tm_wg tm_ns tm_cl "TrickleMeshModel" 44 5 15 tR_Y tT_Y 52 := ⟨rfl, by decide, tl_Y, Or.inl tq_Y_44⟩
theorem tq_Y_47 : Cond.fieldLink "TrickleMeshModel" 47 (tT_Y 16).1 (tT_Y 16).2.1 (tT_Y 16).2.2.1 ∈ tm_wg := List.mem_filter.mpr ⟨List.mem_append_right _ (List.mem_of_getElem? (i := 466) (by decide +kernel)), by decide +kernel⟩
theorem tf_Y_47 : tv_F tm_wg tm_ns tm_cl "TrickleMeshModel" 47 5 16 tR_Y tT_Y 52 := ⟨rfl, by decide, tl_Y, Or.inl tq_Y_47⟩
theorem tq_Y_50 : Cond.fieldLink "TrickleMeshModel" 50 (tT_Y 17).1 (tT_Y 17).2.1 (tT_Y 17).2.2.1 ∈ tm_wg := List.mem_filter.mpr ⟨List.mem_append_right _ (List.mem_of_getElem? (i := 467) (by decide +kernel)), by decide +kernel⟩
theorem tf_Y_50 : tv_F tm_wg tm_ns tm_cl "TrickleMeshModel" 50 5 17 tR_Y tT_Y 52 := ⟨rfl, by decide, tl_Y, Or.inl tq_Y_50⟩
theorem tq_Y_53 : Cond.fieldLink "TrickleMeshModel" 53 (tT_Y 18).1 (tT_Y 18).2.1 (tT_Y 18).2.2.1 ∈ tm_wg := List.mem_filter.mpr ⟨List.mem_append_right _ (List.mem_of_getElem? (i := 468) (by decide +kernel)), by decide +kernel⟩
theorem tf_Y_53 : tv_F tm_wg tm_ns tm_cl "TrickleMeshModel" 53 5 18 tR_Y tT_Y 52 := ⟨rfl, by decide, tl_Y, Or.inl tq_Y_53⟩
theorem tq_Y_56 : Cond.fieldLink "TrickleMeshModel" 56 (tT_Y 19).1 (tT_Y 19).2.1 (tT_Y 19).2.2.1 ∈ tm_wg := List.mem_filter.mpr ⟨List.mem_append_right _ (List.mem_of_getElem? (i := 469) (by decide +kernel)), by decide +kernel⟩
theorem tf_Y_56 : tv_F tm_wg tm_ns tm_cl "TrickleMeshModel" 56 5 19 tR_Y tT_Y 52 := ⟨rfl, by decide, tl_Y, Or.inl tq_Y_56⟩
theorem tq_Y_59 : Cond.fieldLink "TrickleMeshModel" 59 (tT_Y 20).1 (tT_Y 20).2.1 (tT_Y 20).2.2.1 ∈ tm_wg := List.mem_filter.mpr ⟨List.mem_append_right _ (List.mem_of_getElem? (i := 470) (by decide +kernel)), by decide +kernel⟩
theorem tf_Y_59 : tv_F tm_wg tm_ns tm_cl "TrickleMeshModel" 59 5 20 tR_Y tT_Y 52 := ⟨rfl, by decide, tl_Y, Or.inl tq_Y_59⟩
theorem tq_Y_62 : Cond.fieldLink "TrickleMeshModel" 62 (tT_Y 21).1 (tT_Y 21).2.1 (tT_Y 21).2.2.1 ∈ tm_wg := List.mem_filter.mpr ⟨List.mem_append_right _ (List.mem_of_getElem? (i := 471) (by decide +kernel)), by decide +kernel⟩
theorem tf_Y_62 : tv_F tm_wg tm_ns tm_cl "TrickleMeshModel" 62 5 21 tR_Y tT_Y 52 := ⟨rfl, by decide, tl_Y, Or.inl tq_Y_62⟩
theorem tq_Y_65 : Cond.fieldLink "TrickleMeshModel" 65 (tT_Y 22).1 (tT_Y 22).2.1 (tT_Y 22).2.2.1 ∈ tm_wg := List.mem_filter.mpr ⟨List.mem_append_right _ (List.mem_of_getElem? (i := 472) (by decide +kernel)), by decide +kernel⟩
theorem tf_Y_65 : tv_F tm_wg tm_ns tm_cl "TrickleMeshModel" 65 5 22 tR_Y tT_Y 52 := ⟨rfl, by decide, tl_Y, Or.inl tq_Y_65⟩
theorem tq_Y_68 : Cond.fieldLink "TrickleMeshModel" 68 (tT_Y 23).1 (tT_Y 23).2.1 (tT_Y 23).2.2.1 ∈ tm_wg := List.mem_filter.mpr ⟨List.mem_append_right _ (List.mem_of_getElem? (i := 473) (by decide +kernel)), by decide +kernel⟩
theorem tf_Y_68 : tv_F tm_wg tm_ns tm_cl "TrickleMeshModel" 68 5 23 tR_Y tT_Y 52 := ⟨rfl, by decide, tl_Y, Or.inl tq_Y_68⟩
theorem tq_Y_71 : Cond.fieldLink "TrickleMeshModel" 71 (tT_Y 24).1 (tT_Y 24).2.1 (tT_Y 24).2.2.1 ∈ tm_wg := List.mem_filter.mpr ⟨List.mem_append_right _ (List.mem_of_getElem? (i := 474) (by decide +kernel)), by decide +kernel⟩
theorem tf_Y_71 : tv_F tm_wg tm_ns tm_cl "TrickleMeshModel" 71 5 24 tR_Y tT_Y 52 := ⟨rfl, by decide, tl_Y, Or.inl tq_Y_71⟩
theorem tq_Y_74 : Cond.fieldLink "TrickleMeshModel" 74 (tT_Y 25).1 (tT_Y 25).2.1 (tT_Y 25).2.2.1 ∈ tm_wg := List.mem_filter.mpr ⟨List.mem_append_right _ (List.mem_of_getElem? (i := 475) (by decide +kernel)), by decide +kernel⟩
theorem tf_Y_74 : tv_F tm_wg tm_ns tm_cl "TrickleMeshModel" 74 5 25 tR_Y tT_Y 52 := ⟨rfl, by decide, tl_Y, Or.inl tq_Y_74⟩
theorem tq_Y_77 : Cond.fieldLink "TrickleMeshModel" 77 (tT_Y 26).1 (tT_Y 26).2.1 (tT_Y 26).2.2.1 ∈ tm_wg := List.mem_filter.mpr ⟨List.mem_append_right _ (List.mem_of_getElem? (i := 476) (by decide +kernel)), by decide +kernel⟩
theorem tf_Y_77 : tv_F tm_wg tm_ns tm_cl "TrickleMeshModel" 77 5 26 tR_Y tT_Y 52 := ⟨rfl, by decide, tl_Y, Or.inl tq_Y_77⟩
theorem tq_Y_80 : Cond.fieldLink "TrickleMeshModel" 80 (tT_Y 27).1 (tT_Y 27).2.1 (tT_Y 27).2.2.1 ∈ tm_wg := List.mem_filter.mpr ⟨List.mem_append_right _ (List.mem_of_getElem? (i := 477) (by decide +kernel)), by decide +kernel⟩
theorem tf_Y_80 : tv_F tm_wg tm_ns tm_cl "TrickleMeshModel" 80 5 27 tR_Y tT_Y 52 := ⟨rfl, by decide, tl_Y, Or.inl tq_Y_80⟩
theorem tq_Y_83 : Cond.fieldLink "TrickleMeshModel" 83 (tT_Y 28).1 (tT_Y 28).2.1 (tT_Y 28).2.2.1 ∈ tm_wg := List.mem_filter.mpr ⟨List.mem_append_right _ (List.mem_of_getElem? (i := 478) (by decide +kernel)), by decide +kernel⟩
theorem tf_Y_83 : tv_F tm_wg tm_ns tm_cl "TrickleMeshModel" 83 5 28 tR_Y tT_Y 52 := ⟨rfl, by decide, tl_Y, Or.inl tq_Y_83⟩
theorem tq_Y_86 : Cond.fieldLink "TrickleMeshModel" 86 (tT_Y 29).1 (tT_Y 29).2.1 (tT_Y 29).2.2.1 ∈ tm_wg := List.mem_filter.mpr ⟨List.mem_append_right _ (List.mem_of_getElem? (i := 479) (by decide +kernel)), by decide +kernel⟩
theorem tf_Y_86 : tv_F tm_wg tm_ns tm_cl "TrickleMeshModel" 86 5 29 tR_Y tT_Y 52 := ⟨rfl, by decide, tl_Y, Or.inl tq_Y_86⟩
theorem tq_Y_89 : Cond.fieldLink "TrickleMeshModel" 89 (tT_Y 30).1 (tT_Y 30).2.1 (tT_Y 30).2.2.1 ∈ tm_wg := List.mem_filter.mpr ⟨List.mem_append_right _ (List.mem_of_getElem? (i := 480) (by decide +kernel)), by decide +kernel⟩
theorem tf_Y_89 : tv_F tm_wg tm_ns tm_cl "TrickleMeshModel" 89 5 30 tR_Y tT_Y 52 := ⟨rfl, by decide, tl_Y, Or.inl tq_Y_89⟩
theorem tq_Y_92 : Cond.fieldLink "TrickleMeshModel" 92 (tT_Y 31).1 (tT_Y 31).2.1 (tT_Y 31).2.2.1 ∈ tm_wg := List.mem_filter.mpr ⟨List.mem_append_right _ (List.mem_of_getElem? (i := 481) (by decide +kernel)), by decide +kernel⟩
theorem tf_Y_92 : tv_F tm_wg tm_ns tm_cl "TrickleMeshModel" 92 5 31 tR_Y tT_Y 52 := ⟨rfl, by decide, tl_Y, Or.inl tq_Y_92⟩
theorem tq_Y_95 : Cond.fieldLink "TrickleMeshModel" 95 (tT_Y 32).1 (tT_Y 32).2.1 (tT_Y 32).2.2.1 ∈ tm_wg := List.mem_filter.mpr ⟨List.mem_append_right _ (List.mem_of_getElem? (i := 482) (by decide +kernel)), by decide +kernel⟩
theorem tf_Y_95 : tv_F tm_wg tm_ns tm_cl "TrickleMeshModel" 95 5 32 tR_Y tT_Y 52 := ⟨rfl, by decide, tl_Y, Or.inl tq_Y_95⟩
theorem tq_Y_98 : Cond.fieldLink "TrickleMeshModel" 98 (tT_Y 33).1 (tT_Y 33).2.1 (tT_Y 33).2.2.1 ∈ tm_wg := List.mem_filter.mpr ⟨List.mem_append_right _ (List.mem_of_getElem? (i := 483) (by decide +kernel)), by decide +kernel⟩
theorem tf_Y_98 : tv_F tm_wg tm_ns tm_cl "TrickleMeshModel" 98 5 33 tR_Y tT_Y 52 := ⟨rfl, by decide, tl_Y, Or.inl tq_Y_98⟩
theorem tq_Y_101 : Cond.fieldLink "TrickleMeshModel" 101 (tT_Y 34).1 (tT_Y 34).2.1 (tT_Y 34).2.2.1 ∈ tm_wg := List.mem_filter.mpr ⟨List.mem_append_right _ (List.mem_of_getElem? (i := 484) (by decide +kernel)), by decide +kernel⟩
theorem tf_Y_101 : tv_F tm_wg tm_ns tm_cl "TrickleMeshModel" 101 5 34 tR_Y tT_Y 52 := ⟨rfl, by decide, tl_Y, Or.inl tq_Y_101⟩
theorem tq_Y_104 : Cond.fieldLink "TrickleMeshModel" 104 (tT_Y 35).1 (tT_Y 35).2.1 (tT_Y 35).2.2.1 ∈ tm_wg := List.mem_filter.mpr ⟨List.mem_append_right _ (List.mem_of_getElem? (i := 485) (by decide +kernel)), by decide +kernel⟩
theorem tf_Y_104 : tv_F tm_wg tm_ns tm_cl "TrickleMeshModel" 104 5 35 tR_Y tT_Y 52 := ⟨rfl, by decide, tl_Y, Or.inl tq_Y_104⟩
theorem tq_Y_107 : Cond.fieldLink "TrickleMeshModel" 107 (tT_Y 36).1 (tT_Y 36).2.1 (tT_Y 36).2.2.1 ∈ tm_wg := List.mem_filter.mpr ⟨List.mem_append_right _ (List.mem_of_getElem? (i := 486) (by decide +kernel)), by decide +kernel⟩
theorem tf_Y_107 : tv_F tm_wg tm_ns tm_cl "TrickleMeshModel" 107 5 36 tR_Y tT_Y 52 := ⟨rfl, by decide, tl_Y, Or.inl tq_Y_107⟩
theorem tq_Y_110 : Cond.fieldLink "TrickleMeshModel" 110 (tT_Y 37).1 (tT_Y 37).2.1 (tT_Y 37).2.2.1 ∈ tm_wg := List.mem_filter.mpr ⟨List.mem_append_right _ (List.mem_of_getElem? (i := 487) (by decide +kernel)), by decide +kernel⟩
theorem tf_Y_110 : tv_F tm_wg tm_ns tm_cl "TrickleMeshModel" 110 5 37 tR_Y tT_Y 52 := ⟨rfl, by decide, tl_Y, Or.inl tq_Y_110⟩
theorem tq_Y_113 : Cond.fieldLink "TrickleMeshModel" 113 (tT_Y 38).1 (tT_Y 38).2.1 (tT_Y 38).2.2.1 ∈ tm_wg := List.mem_filter.mpr ⟨List.mem_append_right _ (List.mem_of_getElem? (i := 488) (by decide +kernel)), by decide +kernel⟩
theorem tf_Y_113 : tv_F tm_wg tm_ns tm_cl "TrickleMeshModel" 113 5 38 tR_Y tT_Y 52 := ⟨rfl, by decide, tl_Y, Or.inl tq_Y_113⟩
theorem tq_Y_116 : Cond.fieldLink "TrickleMeshModel" 116 (tT_Y 39).1 (tT_Y 39).2.1 (tT_Y 39).2.2.1 ∈ tm_wg := List.mem_filter.mpr ⟨List.mem_append_right _ (List.mem_of_getElem? (i := 489) (by decide +kernel)), by decide +kernel⟩
theorem tf_Y_116 : tv_F tm_wg tm_ns tm_cl "TrickleMeshModel" 116 5 39 tR_Y tT_Y 52 := ⟨rfl, by decide, tl_Y, Or.inl tq_Y_116⟩
theorem tq_Y_155 : Cond.fieldLink "TrickleMeshModel" 155 (tT_Y 40).1 (tT_Y 40).2.1 (tT_Y 40).2.2.1 ∈ tm_wg := List.mem_filter.mpr ⟨List.mem_append_right _ (List.mem_of_getElem? (i := 490) (by decide +kernel)), by decide +kernel⟩
theorem tf_Y_155 : tv_F tm_wg tm_ns tm_cl "TrickleMeshModel" 155 5 40 tR_Y tT_Y 52 := ⟨rfl, by decide, tl_Y, Or.inl tq_Y_155⟩
theorem tq_Y_119 : Cond.fieldLink "TrickleMeshModel" 119 (tT_Y 41).1 (tT_Y 41).2.1 (tT_Y 41).2.2.1 ∈ tm_wg := List.mem_filter.mpr ⟨List.mem_append_right _ (List.mem_of_getElem? (i := 491) (by decide +kernel)), by decide +kernel⟩
theorem tf_Y_119 : tv_F tm_wg tm_ns tm_cl "TrickleMeshModel" 119 5 41 tR_Y tT_Y 52 := ⟨rfl, by decide, tl_Y, Or.inl tq_Y_119⟩
theorem tq_Y_122 : Cond.fieldLink "TrickleMeshModel" 122 (tT_Y 42).1 (tT_Y 42).2.1 (tT_Y 42).2.2.1 ∈ tm_wg := List.mem_filter.mpr ⟨List.mem_append_right _ (List.mem_of_getElem? (i := 492) (by decide +kernel)), by decide +kernel⟩
theorem tf_Y_122 : tv_F tm_wg tm_ns tm_cl "TrickleMeshModel" 122 5 42 tR_Y tT_Y 52 := ⟨rfl, by decide, tl_Y, Or.inl tq_Y_122⟩
theorem tq_Y_125 : Cond.fieldLink "TrickleMeshModel" 125 (tT_Y 43).1 (tT_Y 43).2.1 (tT_Y 43).2.2.1 ∈ tm_wg := List.mem_filter.mpr ⟨List.mem_append_right _ (List.mem_of_getElem? (i := 493) (by decide +kernel)), by decide +kernel⟩
theorem tf_Y_125 : tv_F tm_wg tm_ns tm_cl "TrickleMeshModel" 125 5 43 tR_Y tT_Y 52 := ⟨rfl, by decide, tl_Y, Or.inl tq_Y_125⟩
theorem tq_Y_128 : Cond.fieldLink "TrickleMeshModel" 128 (tT_Y 44).1 (tT_Y 44).2.1 (tT_Y 44).2.2.1 ∈ tm_wg := List.mem_filter.mpr ⟨List.mem_append_right _ (List.mem_of_getElem? (i := 494) (by decide +kernel)), by decide +kernel⟩
theorem tf_Y_128 : tv_F tm_wg tm_ns tm_cl "TrickleMeshModel" 128 5 44 tR_Y tT_Y 52 := ⟨rfl, by decide, tl_Y, Or.inl tq_Y_128⟩
theorem tq_Y_131 : Cond.fieldLink "TrickleMeshModel" 131 (tT_Y 45).1 (tT_Y 45).2.1 (tT_Y 45).2.2.1 ∈ tm_wg := List.mem_filter.mpr ⟨List.mem_append_right _ (List.mem_of_getElem? (i := 495) (by decide +kernel)), by decide +kernel⟩
theorem tf_Y_131 : tv_F tm_wg tm_ns tm_cl "TrickleMeshModel" 131 5 45 tR_Y tT_Y 52 := ⟨rfl, by decide, tl_Y, Or.inl tq_Y_131⟩
theorem tq_Y_247 : Cond.fieldLink "TrickleMeshModel" 247 (tT_Y 46).1 (tT_Y 46).2.1 (tT_Y 46).2.2.1 ∈ tm_wg := List.mem_filter.mpr ⟨List.mem_append_right _ (List.mem_of_getElem? (i := 496) (by decide +kernel)), by decide +kernel⟩
theorem tf_Y_247 : tv_F tm_wg tm_ns tm_cl "TrickleMeshModel" 247 5 46 tR_Y tT_Y 52 := ⟨rfl, by decide, tl_Y, Or.inl tq_Y_247⟩
theorem tq_Y_162 : Cond.fieldLink "TrickleMeshModel" 162 (tT_Y 47).1 (tT_Y 47).2.1 (tT_Y 47).2.2.1 ∈ tm_wg := List.mem_filter.mpr ⟨List.mem_append_right _ (List.mem_of_getElem? (i := 497) (by decide +kernel)), by decide +kernel⟩
theorem tf_Y_162 : tv_F tm_wg tm_ns tm_cl "TrickleMeshModel" 162 5 47 tR_Y tT_Y 52 := ⟨rfl, by decide, tl_Y, Or.inl tq_Y_162⟩
theorem tq_Y_197 : Cond.fieldLink "TrickleMeshModel" 197 (tT_Y 48).1 (tT_Y 48).2.1 (tT_Y 48).2.2.1 ∈ tm_wg := List.mem_filter.mpr ⟨List.mem_append_right _ (List.mem_of_getElem? (i := 498) (by decide +kernel)), by decide +kernel⟩
theorem tf_Y_197 : tv_F tm_wg tm_ns tm_cl "TrickleMeshModel" 197 5 48 tR_Y tT_Y 52 := ⟨rfl, by decide, tl_Y, Or.inl tq_Y_197⟩
theorem tq_Y_210 : Cond.fieldLink "TrickleMeshModel" 210 (tT_Y 49).1 (tT_Y 49).2.1 (tT_Y 49).2.2.1 ∈ tm_wg := List.mem_filter.mpr ⟨List.mem_append_right _ (List.mem_of_getElem? (i := 499) (by decide +kernel)), by decide +kernel⟩
theorem tf_Y_210 : tv_F tm_wg tm_ns tm_cl "TrickleMeshModel" 210 5 49 tR_Y tT_Y 52 := ⟨rfl, by decide, tl_Y, Or.inl tq_Y_210⟩
theorem tq_Y_134 : Cond.fieldLink "TrickleMeshModel" 134 (tT_Y 50).1 (tT_Y 50).2.1 (tT_Y 50).2.2.1 ∈ tm_wg := List.mem_filter.mpr ⟨List.mem_append_right _ (List.mem_of_getElem? (i := 500) (by decide +kernel)), by decide +kernel⟩
theorem tf_Y_134 : tv_F tm_wg tm_ns tm_cl "TrickleMeshModel" 134 5 50 tR_Y tT_Y 52 := ⟨rfl, by decide, tl_Y, Or.inl tq_Y_134⟩
theorem tq_Y_137 : Cond.fieldLink "TrickleMeshModel" 137 (tT_Y 51).1 (tT_Y 51).2.1 (tT_Y 51).2.2.1 ∈ tm_wg := List.mem_filter.mpr ⟨List.mem_append_right _ (List.mem_of_getElem? (i := 501) (by decide +kernel)), by decide +kernel⟩
theorem tf_Y_137 : tv_F tm_wg tm_ns tm_cl "TrickleMeshModel" 137 5 51 tR_Y tT_Y 52 := ⟨rfl, by decide, tl_Y, Or.inl tq_Y_137⟩
theorem tg_L_25 : Cond.methodLink "TrickleMeshLaw" 25 ty_Y_link ∈ tm_wg ∧ Cond.initialized ty_Y_link.cls ∈ tm_wg ∧ Cond.instanceMethod ty_Y_link ∈ tm_wg ∧ Cond.selects "TrickleMeshModel" ty_Y_link ty_Y_link ∈ tm_wg := ⟨List.mem_filter.mpr ⟨List.mem_append_right _ (List.mem_of_getElem? (i := 608) (by decide +kernel)), by decide +kernel⟩, ti_Y, ⟨List.mem_filter.mpr ⟨List.mem_append_right _ (List.mem_of_getElem? (i := 609) (by decide +kernel)), by decide +kernel⟩, List.mem_filter.mpr ⟨List.mem_append_right _ (List.mem_of_getElem? (i := 610) (by decide +kernel)), by decide +kernel⟩⟩⟩
theorem th_Y_link : ty_Y_link.cls ≠ "java/lang/invoke/MethodHandle" ∧ ty_Y_link.cls ≠ "java/lang/invoke/VarHandle" ∧ (parseMethodDescriptor ty_Y_link.desc).map (fun d => d.parameters.length) = some 3 := ⟨by decide, by decide, by decide +kernel⟩
theorem tg_Y_244 : Cond.methodLink "TrickleMeshModel" 244 ty_Y_isNode ∈ tm_wg ∧ Cond.initialized ty_Y_isNode.cls ∈ tm_wg ∧ Cond.static ty_Y_isNode ∈ tm_wg := ⟨List.mem_filter.mpr ⟨List.mem_append_right _ (List.mem_of_getElem? (i := 612) (by decide +kernel)), by decide +kernel⟩, ti_Y, List.mem_filter.mpr ⟨List.mem_append_right _ (List.mem_of_getElem? (i := 613) (by decide +kernel)), by decide +kernel⟩⟩
theorem th_Y_isNode : ty_Y_isNode.cls ≠ "java/lang/invoke/MethodHandle" ∧ ty_Y_isNode.cls ≠ "java/lang/invoke/VarHandle" ∧ (parseMethodDescriptor ty_Y_isNode.desc).map (fun d => d.parameters.length) = some 1 := ⟨by decide, by decide, by decide +kernel⟩
theorem tg_L_30 : Cond.methodLink "TrickleMeshLaw" 30 ty_Y_kill ∈ tm_wg ∧ Cond.initialized ty_Y_kill.cls ∈ tm_wg ∧ Cond.instanceMethod ty_Y_kill ∈ tm_wg ∧ Cond.selects "TrickleMeshModel" ty_Y_kill ty_Y_kill ∈ tm_wg := ⟨List.mem_filter.mpr ⟨List.mem_append_right _ (List.mem_of_getElem? (i := 615) (by decide +kernel)), by decide +kernel⟩, ti_Y, ⟨List.mem_filter.mpr ⟨List.mem_append_right _ (List.mem_of_getElem? (i := 616) (by decide +kernel)), by decide +kernel⟩, List.mem_filter.mpr ⟨List.mem_append_right _ (List.mem_of_getElem? (i := 617) (by decide +kernel)), by decide +kernel⟩⟩⟩
theorem th_Y_kill : ty_Y_kill.cls ≠ "java/lang/invoke/MethodHandle" ∧ ty_Y_kill.cls ≠ "java/lang/invoke/VarHandle" ∧ (parseMethodDescriptor ty_Y_kill.desc).map (fun d => d.parameters.length) = some 1 := ⟨by decide, by decide, by decide +kernel⟩
theorem tg_L_35 : Cond.methodLink "TrickleMeshLaw" 35 ty_Y_repair ∈ tm_wg ∧ Cond.initialized ty_Y_repair.cls ∈ tm_wg ∧ Cond.instanceMethod ty_Y_repair ∈ tm_wg ∧ Cond.selects "TrickleMeshModel" ty_Y_repair ty_Y_repair ∈ tm_wg := ⟨List.mem_filter.mpr ⟨List.mem_append_right _ (List.mem_of_getElem? (i := 619) (by decide +kernel)), by decide +kernel⟩, ti_Y, ⟨List.mem_filter.mpr ⟨List.mem_append_right _ (List.mem_of_getElem? (i := 620) (by decide +kernel)), by decide +kernel⟩, List.mem_filter.mpr ⟨List.mem_append_right _ (List.mem_of_getElem? (i := 621) (by decide +kernel)), by decide +kernel⟩⟩⟩
theorem th_Y_repair : ty_Y_repair.cls ≠ "java/lang/invoke/MethodHandle" ∧ ty_Y_repair.cls ≠ "java/lang/invoke/VarHandle" ∧ (parseMethodDescriptor ty_Y_repair.desc).map (fun d => d.parameters.length) = some 0 := ⟨by decide, by decide, by decide +kernel⟩
theorem tg_L_40 : Cond.methodLink "TrickleMeshLaw" 40 ty_Y_send ∈ tm_wg ∧ Cond.initialized ty_Y_send.cls ∈ tm_wg ∧ Cond.instanceMethod ty_Y_send ∈ tm_wg ∧ Cond.selects "TrickleMeshModel" ty_Y_send ty_Y_send ∈ tm_wg := ⟨List.mem_filter.mpr ⟨List.mem_append_right _ (List.mem_of_getElem? (i := 623) (by decide +kernel)), by decide +kernel⟩, ti_Y, ⟨List.mem_filter.mpr ⟨List.mem_append_right _ (List.mem_of_getElem? (i := 624) (by decide +kernel)), by decide +kernel⟩, List.mem_filter.mpr ⟨List.mem_append_right _ (List.mem_of_getElem? (i := 625) (by decide +kernel)), by decide +kernel⟩⟩⟩
theorem th_Y_send : ty_Y_send.cls ≠ "java/lang/invoke/MethodHandle" ∧ ty_Y_send.cls ≠ "java/lang/invoke/VarHandle" ∧ (parseMethodDescriptor ty_Y_send.desc).map (fun d => d.parameters.length) = some 4 := ⟨by decide, by decide, by decide +kernel⟩
theorem tg_Y_200 : Cond.methodLink "TrickleMeshModel" 200 ty_Y_sendOn ∈ tm_wg ∧ Cond.initialized ty_Y_sendOn.cls ∈ tm_wg ∧ Cond.instanceMethod ty_Y_sendOn ∈ tm_wg ∧ Cond.selects "TrickleMeshModel" ty_Y_sendOn ty_Y_sendOn ∈ tm_wg := ⟨List.mem_filter.mpr ⟨List.mem_append_right _ (List.mem_of_getElem? (i := 627) (by decide +kernel)), by decide +kernel⟩, ti_Y, ⟨List.mem_filter.mpr ⟨List.mem_append_right _ (List.mem_of_getElem? (i := 629) (by decide +kernel)), by decide +kernel⟩, List.mem_filter.mpr ⟨List.mem_append_left _ (List.mem_of_getElem? (i := 34) (by decide +kernel)), by decide +kernel⟩⟩⟩
theorem th_Y_sendOn : ty_Y_sendOn.cls ≠ "java/lang/invoke/MethodHandle" ∧ ty_Y_sendOn.cls ≠ "java/lang/invoke/VarHandle" ∧ (parseMethodDescriptor ty_Y_sendOn.desc).map (fun d => d.parameters.length) = some 6 := ⟨by decide, by decide, by decide +kernel⟩
theorem tg_Y_182 : Cond.methodLink "TrickleMeshModel" 182 ty_Y_makeFrame ∈ tm_wg ∧ Cond.initialized ty_Y_makeFrame.cls ∈ tm_wg ∧ Cond.instanceMethod ty_Y_makeFrame ∈ tm_wg ∧ Cond.selects "TrickleMeshModel" ty_Y_makeFrame ty_Y_makeFrame ∈ tm_wg := ⟨List.mem_filter.mpr ⟨List.mem_append_right _ (List.mem_of_getElem? (i := 631) (by decide +kernel)), by decide +kernel⟩, ti_Y, ⟨List.mem_filter.mpr ⟨List.mem_append_right _ (List.mem_of_getElem? (i := 633) (by decide +kernel)), by decide +kernel⟩, List.mem_filter.mpr ⟨List.mem_append_left _ (List.mem_of_getElem? (i := 35) (by decide +kernel)), by decide +kernel⟩⟩⟩
theorem th_Y_makeFrame : ty_Y_makeFrame.cls ≠ "java/lang/invoke/MethodHandle" ∧ ty_Y_makeFrame.cls ≠ "java/lang/invoke/VarHandle" ∧ (parseMethodDescriptor ty_Y_makeFrame.desc).map (fun d => d.parameters.length) = some 2 := ⟨by decide, by decide, by decide +kernel⟩
theorem tg_Y_186 : Cond.methodLink "TrickleMeshModel" 186 ty_Y_queue ∈ tm_wg ∧ Cond.initialized ty_Y_queue.cls ∈ tm_wg ∧ Cond.instanceMethod ty_Y_queue ∈ tm_wg ∧ Cond.selects "TrickleMeshModel" ty_Y_queue ty_Y_queue ∈ tm_wg := ⟨List.mem_filter.mpr ⟨List.mem_append_right _ (List.mem_of_getElem? (i := 635) (by decide +kernel)), by decide +kernel⟩, ti_Y, ⟨List.mem_filter.mpr ⟨List.mem_append_right _ (List.mem_of_getElem? (i := 637) (by decide +kernel)), by decide +kernel⟩, List.mem_filter.mpr ⟨List.mem_append_left _ (List.mem_of_getElem? (i := 36) (by decide +kernel)), by decide +kernel⟩⟩⟩
theorem th_Y_queue : ty_Y_queue.cls ≠ "java/lang/invoke/MethodHandle" ∧ ty_Y_queue.cls ≠ "java/lang/invoke/VarHandle" ∧ (parseMethodDescriptor ty_Y_queue.desc).map (fun d => d.parameters.length) = some 2 := ⟨by decide, by decide, by decide +kernel⟩
theorem tg_Y_165 : Cond.methodLink "TrickleMeshModel" 165 ty_Y_first ∈ tm_wg ∧ Cond.initialized ty_Y_first.cls ∈ tm_wg ∧ Cond.instanceMethod ty_Y_first ∈ tm_wg ∧ Cond.selects "TrickleMeshModel" ty_Y_first ty_Y_first ∈ tm_wg := ⟨List.mem_filter.mpr ⟨List.mem_append_right _ (List.mem_of_getElem? (i := 639) (by decide +kernel)), by decide +kernel⟩, ti_Y, ⟨List.mem_filter.mpr ⟨List.mem_append_right _ (List.mem_of_getElem? (i := 641) (by decide +kernel)), by decide +kernel⟩, List.mem_filter.mpr ⟨List.mem_append_left _ (List.mem_of_getElem? (i := 37) (by decide +kernel)), by decide +kernel⟩⟩⟩
theorem th_Y_first : ty_Y_first.cls ≠ "java/lang/invoke/MethodHandle" ∧ ty_Y_first.cls ≠ "java/lang/invoke/VarHandle" ∧ (parseMethodDescriptor ty_Y_first.desc).map (fun d => d.parameters.length) = some 1 := ⟨by decide, by decide, by decide +kernel⟩
theorem tg_L_45 : Cond.methodLink "TrickleMeshLaw" 45 ty_Y_tick ∈ tm_wg ∧ Cond.initialized ty_Y_tick.cls ∈ tm_wg ∧ Cond.instanceMethod ty_Y_tick ∈ tm_wg ∧ Cond.selects "TrickleMeshModel" ty_Y_tick ty_Y_tick ∈ tm_wg := ⟨List.mem_filter.mpr ⟨List.mem_append_right _ (List.mem_of_getElem? (i := 643) (by decide +kernel)), by decide +kernel⟩, ti_Y, ⟨List.mem_filter.mpr ⟨List.mem_append_right _ (List.mem_of_getElem? (i := 644) (by decide +kernel)), by decide +kernel⟩, List.mem_filter.mpr ⟨List.mem_append_right _ (List.mem_of_getElem? (i := 645) (by decide +kernel)), by decide +kernel⟩⟩⟩
theorem th_Y_tick : ty_Y_tick.cls ≠ "java/lang/invoke/MethodHandle" ∧ ty_Y_tick.cls ≠ "java/lang/invoke/VarHandle" ∧ (parseMethodDescriptor ty_Y_tick.desc).map (fun d => d.parameters.length) = some 1 := ⟨by decide, by decide, by decide +kernel⟩
theorem tg_Y_250 : Cond.methodLink "TrickleMeshModel" 250 ty_Y_slot ∈ tm_wg ∧ Cond.initialized ty_Y_slot.cls ∈ tm_wg ∧ Cond.instanceMethod ty_Y_slot ∈ tm_wg ∧ Cond.selects "TrickleMeshModel" ty_Y_slot ty_Y_slot ∈ tm_wg := ⟨List.mem_filter.mpr ⟨List.mem_append_right _ (List.mem_of_getElem? (i := 647) (by decide +kernel)), by decide +kernel⟩, ti_Y, ⟨List.mem_filter.mpr ⟨List.mem_append_right _ (List.mem_of_getElem? (i := 649) (by decide +kernel)), by decide +kernel⟩, List.mem_filter.mpr ⟨List.mem_append_left _ (List.mem_of_getElem? (i := 38) (by decide +kernel)), by decide +kernel⟩⟩⟩
theorem th_Y_slot : ty_Y_slot.cls ≠ "java/lang/invoke/MethodHandle" ∧ ty_Y_slot.cls ≠ "java/lang/invoke/VarHandle" ∧ (parseMethodDescriptor ty_Y_slot.desc).map (fun d => d.parameters.length) = some 0 := ⟨by decide, by decide, by decide +kernel⟩
theorem tg_Y_226 : Cond.methodLink "TrickleMeshModel" 226 ty_Y_air ∈ tm_wg ∧ Cond.initialized ty_Y_air.cls ∈ tm_wg ∧ Cond.instanceMethod ty_Y_air ∈ tm_wg ∧ Cond.selects "TrickleMeshModel" ty_Y_air ty_Y_air ∈ tm_wg := ⟨List.mem_filter.mpr ⟨List.mem_append_right _ (List.mem_of_getElem? (i := 651) (by decide +kernel)), by decide +kernel⟩, ti_Y, ⟨List.mem_filter.mpr ⟨List.mem_append_right _ (List.mem_of_getElem? (i := 653) (by decide +kernel)), by decide +kernel⟩, List.mem_filter.mpr ⟨List.mem_append_left _ (List.mem_of_getElem? (i := 39) (by decide +kernel)), by decide +kernel⟩⟩⟩
theorem th_Y_air : ty_Y_air.cls ≠ "java/lang/invoke/MethodHandle" ∧ ty_Y_air.cls ≠ "java/lang/invoke/VarHandle" ∧ (parseMethodDescriptor ty_Y_air.desc).map (fun d => d.parameters.length) = some 1 := ⟨by decide, by decide, by decide +kernel⟩
theorem tg_Y_204 : Cond.methodLink "TrickleMeshModel" 204 ty_Y_nearWasOn ∈ tm_wg ∧ Cond.initialized ty_Y_nearWasOn.cls ∈ tm_wg ∧ Cond.instanceMethod ty_Y_nearWasOn ∈ tm_wg ∧ Cond.selects "TrickleMeshModel" ty_Y_nearWasOn ty_Y_nearWasOn ∈ tm_wg := ⟨List.mem_filter.mpr ⟨List.mem_append_right _ (List.mem_of_getElem? (i := 655) (by decide +kernel)), by decide +kernel⟩, ti_Y, ⟨List.mem_filter.mpr ⟨List.mem_append_right _ (List.mem_of_getElem? (i := 657) (by decide +kernel)), by decide +kernel⟩, List.mem_filter.mpr ⟨List.mem_append_left _ (List.mem_of_getElem? (i := 40) (by decide +kernel)), by decide +kernel⟩⟩⟩
theorem th_Y_nearWasOn : ty_Y_nearWasOn.cls ≠ "java/lang/invoke/MethodHandle" ∧ ty_Y_nearWasOn.cls ≠ "java/lang/invoke/VarHandle" ∧ (parseMethodDescriptor ty_Y_nearWasOn.desc).map (fun d => d.parameters.length) = some 1 := ⟨by decide, by decide, by decide +kernel⟩
theorem tg_Y_207 : Cond.methodLink "TrickleMeshModel" 207 ty_Y_fails ∈ tm_wg ∧ Cond.initialized ty_Y_fails.cls ∈ tm_wg ∧ Cond.instanceMethod ty_Y_fails ∈ tm_wg ∧ Cond.selects "TrickleMeshModel" ty_Y_fails ty_Y_fails ∈ tm_wg := ⟨List.mem_filter.mpr ⟨List.mem_append_right _ (List.mem_of_getElem? (i := 659) (by decide +kernel)), by decide +kernel⟩, ti_Y, ⟨List.mem_filter.mpr ⟨List.mem_append_right _ (List.mem_of_getElem? (i := 661) (by decide +kernel)), by decide +kernel⟩, List.mem_filter.mpr ⟨List.mem_append_left _ (List.mem_of_getElem? (i := 41) (by decide +kernel)), by decide +kernel⟩⟩⟩
theorem th_Y_fails : ty_Y_fails.cls ≠ "java/lang/invoke/MethodHandle" ∧ ty_Y_fails.cls ≠ "java/lang/invoke/VarHandle" ∧ (parseMethodDescriptor ty_Y_fails.desc).map (fun d => d.parameters.length) = some 1 := ⟨by decide, by decide, by decide +kernel⟩
theorem tg_Y_168 : Cond.methodLink "TrickleMeshModel" 168 ty_Y_done ∈ tm_wg ∧ Cond.initialized ty_Y_done.cls ∈ tm_wg ∧ Cond.instanceMethod ty_Y_done ∈ tm_wg ∧ Cond.selects "TrickleMeshModel" ty_Y_done ty_Y_done ∈ tm_wg := ⟨List.mem_filter.mpr ⟨List.mem_append_right _ (List.mem_of_getElem? (i := 663) (by decide +kernel)), by decide +kernel⟩, ti_Y, ⟨List.mem_filter.mpr ⟨List.mem_append_right _ (List.mem_of_getElem? (i := 665) (by decide +kernel)), by decide +kernel⟩, List.mem_filter.mpr ⟨List.mem_append_left _ (List.mem_of_getElem? (i := 42) (by decide +kernel)), by decide +kernel⟩⟩⟩
theorem th_Y_done : ty_Y_done.cls ≠ "java/lang/invoke/MethodHandle" ∧ ty_Y_done.cls ≠ "java/lang/invoke/VarHandle" ∧ (parseMethodDescriptor ty_Y_done.desc).map (fun d => d.parameters.length) = some 1 := ⟨by decide, by decide, by decide +kernel⟩
theorem tg_Y_171 : Cond.methodLink "TrickleMeshModel" 171 ty_Y_choose ∈ tm_wg ∧ Cond.initialized ty_Y_choose.cls ∈ tm_wg ∧ Cond.instanceMethod ty_Y_choose ∈ tm_wg ∧ Cond.selects "TrickleMeshModel" ty_Y_choose ty_Y_choose ∈ tm_wg := ⟨List.mem_filter.mpr ⟨List.mem_append_right _ (List.mem_of_getElem? (i := 667) (by decide +kernel)), by decide +kernel⟩, ti_Y, ⟨List.mem_filter.mpr ⟨List.mem_append_right _ (List.mem_of_getElem? (i := 669) (by decide +kernel)), by decide +kernel⟩, List.mem_filter.mpr ⟨List.mem_append_left _ (List.mem_of_getElem? (i := 43) (by decide +kernel)), by decide +kernel⟩⟩⟩
theorem th_Y_choose : ty_Y_choose.cls ≠ "java/lang/invoke/MethodHandle" ∧ ty_Y_choose.cls ≠ "java/lang/invoke/VarHandle" ∧ (parseMethodDescriptor ty_Y_choose.desc).map (fun d => d.parameters.length) = some 1 := ⟨by decide, by decide, by decide +kernel⟩
theorem tg_Y_190 : Cond.methodLink "TrickleMeshModel" 190 ty_Y_allGoals ∈ tm_wg ∧ Cond.initialized ty_Y_allGoals.cls ∈ tm_wg ∧ Cond.instanceMethod ty_Y_allGoals ∈ tm_wg ∧ Cond.selects "TrickleMeshModel" ty_Y_allGoals ty_Y_allGoals ∈ tm_wg := ⟨List.mem_filter.mpr ⟨List.mem_append_right _ (List.mem_of_getElem? (i := 671) (by decide +kernel)), by decide +kernel⟩, ti_Y, ⟨List.mem_filter.mpr ⟨List.mem_append_right _ (List.mem_of_getElem? (i := 673) (by decide +kernel)), by decide +kernel⟩, List.mem_filter.mpr ⟨List.mem_append_left _ (List.mem_of_getElem? (i := 44) (by decide +kernel)), by decide +kernel⟩⟩⟩
theorem th_Y_allGoals : ty_Y_allGoals.cls ≠ "java/lang/invoke/MethodHandle" ∧ ty_Y_allGoals.cls ≠ "java/lang/invoke/VarHandle" ∧ (parseMethodDescriptor ty_Y_allGoals.desc).map (fun d => d.parameters.length) = some 1 := ⟨by decide, by decide, by decide +kernel⟩
theorem tg_Y_193 : Cond.methodLink "TrickleMeshModel" 193 ty_Y_announce ∈ tm_wg ∧ Cond.initialized ty_Y_announce.cls ∈ tm_wg ∧ Cond.instanceMethod ty_Y_announce ∈ tm_wg ∧ Cond.selects "TrickleMeshModel" ty_Y_announce ty_Y_announce ∈ tm_wg := ⟨List.mem_filter.mpr ⟨List.mem_append_right _ (List.mem_of_getElem? (i := 675) (by decide +kernel)), by decide +kernel⟩, ti_Y, ⟨List.mem_filter.mpr ⟨List.mem_append_right _ (List.mem_of_getElem? (i := 677) (by decide +kernel)), by decide +kernel⟩, List.mem_filter.mpr ⟨List.mem_append_left _ (List.mem_of_getElem? (i := 45) (by decide +kernel)), by decide +kernel⟩⟩⟩
theorem th_Y_announce : ty_Y_announce.cls ≠ "java/lang/invoke/MethodHandle" ∧ ty_Y_announce.cls ≠ "java/lang/invoke/VarHandle" ∧ (parseMethodDescriptor ty_Y_announce.desc).map (fun d => d.parameters.length) = some 4 := ⟨by decide, by decide, by decide +kernel⟩
theorem tg_Y_229 : Cond.methodLink "TrickleMeshModel" 229 ty_Y_heardFrom ∈ tm_wg ∧ Cond.initialized ty_Y_heardFrom.cls ∈ tm_wg ∧ Cond.instanceMethod ty_Y_heardFrom ∈ tm_wg ∧ Cond.selects "TrickleMeshModel" ty_Y_heardFrom ty_Y_heardFrom ∈ tm_wg := ⟨List.mem_filter.mpr ⟨List.mem_append_right _ (List.mem_of_getElem? (i := 679) (by decide +kernel)), by decide +kernel⟩, ti_Y, ⟨List.mem_filter.mpr ⟨List.mem_append_right _ (List.mem_of_getElem? (i := 681) (by decide +kernel)), by decide +kernel⟩, List.mem_filter.mpr ⟨List.mem_append_left _ (List.mem_of_getElem? (i := 46) (by decide +kernel)), by decide +kernel⟩⟩⟩
theorem th_Y_heardFrom : ty_Y_heardFrom.cls ≠ "java/lang/invoke/MethodHandle" ∧ ty_Y_heardFrom.cls ≠ "java/lang/invoke/VarHandle" ∧ (parseMethodDescriptor ty_Y_heardFrom.desc).map (fun d => d.parameters.length) = some 1 := ⟨by decide, by decide, by decide +kernel⟩
theorem tg_Y_232 : Cond.methodLink "TrickleMeshModel" 232 ty_Y_takes ∈ tm_wg ∧ Cond.initialized ty_Y_takes.cls ∈ tm_wg ∧ Cond.instanceMethod ty_Y_takes ∈ tm_wg ∧ Cond.selects "TrickleMeshModel" ty_Y_takes ty_Y_takes ∈ tm_wg := ⟨List.mem_filter.mpr ⟨List.mem_append_right _ (List.mem_of_getElem? (i := 683) (by decide +kernel)), by decide +kernel⟩, ti_Y, ⟨List.mem_filter.mpr ⟨List.mem_append_right _ (List.mem_of_getElem? (i := 685) (by decide +kernel)), by decide +kernel⟩, List.mem_filter.mpr ⟨List.mem_append_left _ (List.mem_of_getElem? (i := 47) (by decide +kernel)), by decide +kernel⟩⟩⟩
theorem th_Y_takes : ty_Y_takes.cls ≠ "java/lang/invoke/MethodHandle" ∧ ty_Y_takes.cls ≠ "java/lang/invoke/VarHandle" ∧ (parseMethodDescriptor ty_Y_takes.desc).map (fun d => d.parameters.length) = some 2 := ⟨by decide, by decide, by decide +kernel⟩
theorem tg_Y_213 : Cond.methodLink "TrickleMeshModel" 213 ty_Y_advert ∈ tm_wg ∧ Cond.initialized ty_Y_advert.cls ∈ tm_wg ∧ Cond.instanceMethod ty_Y_advert ∈ tm_wg ∧ Cond.selects "TrickleMeshModel" ty_Y_advert ty_Y_advert ∈ tm_wg := ⟨List.mem_filter.mpr ⟨List.mem_append_right _ (List.mem_of_getElem? (i := 687) (by decide +kernel)), by decide +kernel⟩, ti_Y, ⟨List.mem_filter.mpr ⟨List.mem_append_right _ (List.mem_of_getElem? (i := 689) (by decide +kernel)), by decide +kernel⟩, List.mem_filter.mpr ⟨List.mem_append_left _ (List.mem_of_getElem? (i := 48) (by decide +kernel)), by decide +kernel⟩⟩⟩
theorem th_Y_advert : ty_Y_advert.cls ≠ "java/lang/invoke/MethodHandle" ∧ ty_Y_advert.cls ≠ "java/lang/invoke/VarHandle" ∧ (parseMethodDescriptor ty_Y_advert.desc).map (fun d => d.parameters.length) = some 2 := ⟨by decide, by decide, by decide +kernel⟩
theorem tg_Y_216 : Cond.methodLink "TrickleMeshModel" 216 ty_Y_announced ∈ tm_wg ∧ Cond.initialized ty_Y_announced.cls ∈ tm_wg ∧ Cond.instanceMethod ty_Y_announced ∈ tm_wg ∧ Cond.selects "TrickleMeshModel" ty_Y_announced ty_Y_announced ∈ tm_wg := ⟨List.mem_filter.mpr ⟨List.mem_append_right _ (List.mem_of_getElem? (i := 691) (by decide +kernel)), by decide +kernel⟩, ti_Y, ⟨List.mem_filter.mpr ⟨List.mem_append_right _ (List.mem_of_getElem? (i := 693) (by decide +kernel)), by decide +kernel⟩, List.mem_filter.mpr ⟨List.mem_append_left _ (List.mem_of_getElem? (i := 49) (by decide +kernel)), by decide +kernel⟩⟩⟩
theorem th_Y_announced : ty_Y_announced.cls ≠ "java/lang/invoke/MethodHandle" ∧ ty_Y_announced.cls ≠ "java/lang/invoke/VarHandle" ∧ (parseMethodDescriptor ty_Y_announced.desc).map (fun d => d.parameters.length) = some 3 := ⟨by decide, by decide, by decide +kernel⟩
theorem tg_Y_220 : Cond.methodLink "TrickleMeshModel" 220 ty_Y_valued ∈ tm_wg ∧ Cond.initialized ty_Y_valued.cls ∈ tm_wg ∧ Cond.instanceMethod ty_Y_valued ∈ tm_wg ∧ Cond.selects "TrickleMeshModel" ty_Y_valued ty_Y_valued ∈ tm_wg := ⟨List.mem_filter.mpr ⟨List.mem_append_right _ (List.mem_of_getElem? (i := 695) (by decide +kernel)), by decide +kernel⟩, ti_Y, ⟨List.mem_filter.mpr ⟨List.mem_append_right _ (List.mem_of_getElem? (i := 697) (by decide +kernel)), by decide +kernel⟩, List.mem_filter.mpr ⟨List.mem_append_left _ (List.mem_of_getElem? (i := 50) (by decide +kernel)), by decide +kernel⟩⟩⟩
theorem th_Y_valued : ty_Y_valued.cls ≠ "java/lang/invoke/MethodHandle" ∧ ty_Y_valued.cls ≠ "java/lang/invoke/VarHandle" ∧ (parseMethodDescriptor ty_Y_valued.desc).map (fun d => d.parameters.length) = some 3 := ⟨by decide, by decide, by decide +kernel⟩
theorem tg_Y_235 : Cond.methodLink "TrickleMeshModel" 235 ty_Y_unheard ∈ tm_wg ∧ Cond.initialized ty_Y_unheard.cls ∈ tm_wg ∧ Cond.instanceMethod ty_Y_unheard ∈ tm_wg ∧ Cond.selects "TrickleMeshModel" ty_Y_unheard ty_Y_unheard ∈ tm_wg := ⟨List.mem_filter.mpr ⟨List.mem_append_right _ (List.mem_of_getElem? (i := 699) (by decide +kernel)), by decide +kernel⟩, ti_Y, ⟨List.mem_filter.mpr ⟨List.mem_append_right _ (List.mem_of_getElem? (i := 701) (by decide +kernel)), by decide +kernel⟩, List.mem_filter.mpr ⟨List.mem_append_left _ (List.mem_of_getElem? (i := 51) (by decide +kernel)), by decide +kernel⟩⟩⟩
theorem th_Y_unheard : ty_Y_unheard.cls ≠ "java/lang/invoke/MethodHandle" ∧ ty_Y_unheard.cls ≠ "java/lang/invoke/VarHandle" ∧ (parseMethodDescriptor ty_Y_unheard.desc).map (fun d => d.parameters.length) = some 1 := ⟨by decide, by decide, by decide +kernel⟩
theorem tg_Y_238 : Cond.methodLink "TrickleMeshModel" 238 ty_Y_later ∈ tm_wg ∧ Cond.initialized ty_Y_later.cls ∈ tm_wg ∧ Cond.instanceMethod ty_Y_later ∈ tm_wg ∧ Cond.selects "TrickleMeshModel" ty_Y_later ty_Y_later ∈ tm_wg := ⟨List.mem_filter.mpr ⟨List.mem_append_right _ (List.mem_of_getElem? (i := 703) (by decide +kernel)), by decide +kernel⟩, ti_Y, ⟨List.mem_filter.mpr ⟨List.mem_append_right _ (List.mem_of_getElem? (i := 705) (by decide +kernel)), by decide +kernel⟩, List.mem_filter.mpr ⟨List.mem_append_left _ (List.mem_of_getElem? (i := 52) (by decide +kernel)), by decide +kernel⟩⟩⟩
theorem th_Y_later : ty_Y_later.cls ≠ "java/lang/invoke/MethodHandle" ∧ ty_Y_later.cls ≠ "java/lang/invoke/VarHandle" ∧ (parseMethodDescriptor ty_Y_later.desc).map (fun d => d.parameters.length) = some 1 := ⟨by decide, by decide, by decide +kernel⟩
theorem tg_Y_241 : Cond.methodLink "TrickleMeshModel" 241 ty_Y_timer ∈ tm_wg ∧ Cond.initialized ty_Y_timer.cls ∈ tm_wg ∧ Cond.instanceMethod ty_Y_timer ∈ tm_wg ∧ Cond.selects "TrickleMeshModel" ty_Y_timer ty_Y_timer ∈ tm_wg := ⟨List.mem_filter.mpr ⟨List.mem_append_right _ (List.mem_of_getElem? (i := 707) (by decide +kernel)), by decide +kernel⟩, ti_Y, ⟨List.mem_filter.mpr ⟨List.mem_append_right _ (List.mem_of_getElem? (i := 709) (by decide +kernel)), by decide +kernel⟩, List.mem_filter.mpr ⟨List.mem_append_left _ (List.mem_of_getElem? (i := 53) (by decide +kernel)), by decide +kernel⟩⟩⟩
theorem th_Y_timer : ty_Y_timer.cls ≠ "java/lang/invoke/MethodHandle" ∧ ty_Y_timer.cls ≠ "java/lang/invoke/VarHandle" ∧ (parseMethodDescriptor ty_Y_timer.desc).map (fun d => d.parameters.length) = some 1 := ⟨by decide, by decide, by decide +kernel⟩
theorem tg_Y_178 : Cond.methodLink "TrickleMeshModel" 178 ty_Y_queues ∈ tm_wg ∧ Cond.initialized ty_Y_queues.cls ∈ tm_wg ∧ Cond.instanceMethod ty_Y_queues ∈ tm_wg ∧ Cond.selects "TrickleMeshModel" ty_Y_queues ty_Y_queues ∈ tm_wg := ⟨List.mem_filter.mpr ⟨List.mem_append_right _ (List.mem_of_getElem? (i := 711) (by decide +kernel)), by decide +kernel⟩, ti_Y, ⟨List.mem_filter.mpr ⟨List.mem_append_right _ (List.mem_of_getElem? (i := 713) (by decide +kernel)), by decide +kernel⟩, List.mem_filter.mpr ⟨List.mem_append_left _ (List.mem_of_getElem? (i := 54) (by decide +kernel)), by decide +kernel⟩⟩⟩
theorem th_Y_queues : ty_Y_queues.cls ≠ "java/lang/invoke/MethodHandle" ∧ ty_Y_queues.cls ≠ "java/lang/invoke/VarHandle" ∧ (parseMethodDescriptor ty_Y_queues.desc).map (fun d => d.parameters.length) = some 2 := ⟨by decide, by decide, by decide +kernel⟩
theorem tg_L_50 : Cond.methodLink "TrickleMeshLaw" 50 ty_Y_node ∈ tm_wg ∧ Cond.initialized ty_Y_node.cls ∈ tm_wg ∧ Cond.instanceMethod ty_Y_node ∈ tm_wg ∧ Cond.selects "TrickleMeshModel" ty_Y_node ty_Y_node ∈ tm_wg := ⟨List.mem_filter.mpr ⟨List.mem_append_right _ (List.mem_of_getElem? (i := 715) (by decide +kernel)), by decide +kernel⟩, ti_Y, ⟨List.mem_filter.mpr ⟨List.mem_append_right _ (List.mem_of_getElem? (i := 716) (by decide +kernel)), by decide +kernel⟩, List.mem_filter.mpr ⟨List.mem_append_right _ (List.mem_of_getElem? (i := 717) (by decide +kernel)), by decide +kernel⟩⟩⟩
theorem th_Y_node : ty_Y_node.cls ≠ "java/lang/invoke/MethodHandle" ∧ ty_Y_node.cls ≠ "java/lang/invoke/VarHandle" ∧ (parseMethodDescriptor ty_Y_node.desc).map (fun d => d.parameters.length) = some 2 := ⟨by decide, by decide, by decide +kernel⟩
theorem tg_L_54 : Cond.methodLink "TrickleMeshLaw" 54 ty_Y_next ∈ tm_wg ∧ Cond.initialized ty_Y_next.cls ∈ tm_wg ∧ Cond.instanceMethod ty_Y_next ∈ tm_wg ∧ Cond.selects "TrickleMeshModel" ty_Y_next ty_Y_next ∈ tm_wg := ⟨List.mem_filter.mpr ⟨List.mem_append_right _ (List.mem_of_getElem? (i := 719) (by decide +kernel)), by decide +kernel⟩, ti_Y, ⟨List.mem_filter.mpr ⟨List.mem_append_right _ (List.mem_of_getElem? (i := 720) (by decide +kernel)), by decide +kernel⟩, List.mem_filter.mpr ⟨List.mem_append_right _ (List.mem_of_getElem? (i := 721) (by decide +kernel)), by decide +kernel⟩⟩⟩
theorem th_Y_next : ty_Y_next.cls ≠ "java/lang/invoke/MethodHandle" ∧ ty_Y_next.cls ≠ "java/lang/invoke/VarHandle" ∧ (parseMethodDescriptor ty_Y_next.desc).map (fun d => d.parameters.length) = some 2 := ⟨by decide, by decide, by decide +kernel⟩
theorem tg_L_58 : Cond.methodLink "TrickleMeshLaw" 58 ty_Y_known ∈ tm_wg ∧ Cond.initialized ty_Y_known.cls ∈ tm_wg ∧ Cond.instanceMethod ty_Y_known ∈ tm_wg ∧ Cond.selects "TrickleMeshModel" ty_Y_known ty_Y_known ∈ tm_wg := ⟨List.mem_filter.mpr ⟨List.mem_append_right _ (List.mem_of_getElem? (i := 723) (by decide +kernel)), by decide +kernel⟩, ti_Y, ⟨List.mem_filter.mpr ⟨List.mem_append_right _ (List.mem_of_getElem? (i := 724) (by decide +kernel)), by decide +kernel⟩, List.mem_filter.mpr ⟨List.mem_append_right _ (List.mem_of_getElem? (i := 725) (by decide +kernel)), by decide +kernel⟩⟩⟩
theorem th_Y_known : ty_Y_known.cls ≠ "java/lang/invoke/MethodHandle" ∧ ty_Y_known.cls ≠ "java/lang/invoke/VarHandle" ∧ (parseMethodDescriptor ty_Y_known.desc).map (fun d => d.parameters.length) = some 2 := ⟨by decide, by decide, by decide +kernel⟩
theorem tg_L_62 : Cond.methodLink "TrickleMeshLaw" 62 ty_Y_delivered ∈ tm_wg ∧ Cond.initialized ty_Y_delivered.cls ∈ tm_wg ∧ Cond.instanceMethod ty_Y_delivered ∈ tm_wg ∧ Cond.selects "TrickleMeshModel" ty_Y_delivered ty_Y_delivered ∈ tm_wg := ⟨List.mem_filter.mpr ⟨List.mem_append_right _ (List.mem_of_getElem? (i := 727) (by decide +kernel)), by decide +kernel⟩, ti_Y, ⟨List.mem_filter.mpr ⟨List.mem_append_right _ (List.mem_of_getElem? (i := 728) (by decide +kernel)), by decide +kernel⟩, List.mem_filter.mpr ⟨List.mem_append_right _ (List.mem_of_getElem? (i := 729) (by decide +kernel)), by decide +kernel⟩⟩⟩
theorem th_Y_delivered : ty_Y_delivered.cls ≠ "java/lang/invoke/MethodHandle" ∧ ty_Y_delivered.cls ≠ "java/lang/invoke/VarHandle" ∧ (parseMethodDescriptor ty_Y_delivered.desc).map (fun d => d.parameters.length) = some 2 := ⟨by decide, by decide, by decide +kernel⟩
theorem tg_L_66 : Cond.methodLink "TrickleMeshLaw" 66 ty_Y_count ∈ tm_wg ∧ Cond.initialized ty_Y_count.cls ∈ tm_wg ∧ Cond.instanceMethod ty_Y_count ∈ tm_wg ∧ Cond.selects "TrickleMeshModel" ty_Y_count ty_Y_count ∈ tm_wg := ⟨List.mem_filter.mpr ⟨List.mem_append_right _ (List.mem_of_getElem? (i := 731) (by decide +kernel)), by decide +kernel⟩, ti_Y, ⟨List.mem_filter.mpr ⟨List.mem_append_right _ (List.mem_of_getElem? (i := 732) (by decide +kernel)), by decide +kernel⟩, List.mem_filter.mpr ⟨List.mem_append_right _ (List.mem_of_getElem? (i := 733) (by decide +kernel)), by decide +kernel⟩⟩⟩
theorem th_Y_count : ty_Y_count.cls ≠ "java/lang/invoke/MethodHandle" ∧ ty_Y_count.cls ≠ "java/lang/invoke/VarHandle" ∧ (parseMethodDescriptor ty_Y_count.desc).map (fun d => d.parameters.length) = some 1 := ⟨by decide, by decide, by decide +kernel⟩
theorem tw_L_7 : Cond.classLink "TrickleMeshLaw" 7 "TrickleMesh" ∈ tm_wg := List.mem_filter.mpr ⟨List.mem_append_right _ (List.mem_of_getElem? (i := 10) (by decide +kernel)), by decide +kernel⟩
theorem tm_mk_X : Cond.instantiable "TrickleMesh" 11 ∈ tm_wg := List.mem_filter.mpr ⟨List.mem_append_right _ (List.mem_of_getElem? (i := 11) (by decide +kernel)), by decide +kernel⟩
theorem tg_X_1 : Cond.methodLink "TrickleMesh" 1 Lib.objectInit ∈ tm_wg ∧ Cond.instanceMethod Lib.objectInit ∈ tm_wg ∧ Cond.code Lib.objectInit ⟨#[0xb1]⟩ 1 none ∈ tm_wg := ⟨List.mem_filter.mpr ⟨List.mem_append_right _ (List.mem_of_getElem? (i := 15) (by decide +kernel)), by decide +kernel⟩, List.mem_filter.mpr ⟨List.mem_append_right _ (List.mem_of_getElem? (i := 16) (by decide +kernel)), by decide +kernel⟩, List.mem_filter.mpr ⟨List.mem_append_right _ (List.mem_of_getElem? (i := 17) (by decide +kernel)), by decide +kernel⟩⟩
theorem tw_X_9 : Cond.classLink "TrickleMesh" 9 "TrickleMesh$Node" ∈ tm_wg := List.mem_filter.mpr ⟨List.mem_append_right _ (List.mem_of_getElem? (i := 18) (by decide +kernel)), by decide +kernel⟩
theorem tw_X_15 : Cond.classLink "TrickleMesh" 15 "[[I" ∈ tm_wg := List.mem_filter.mpr ⟨List.mem_append_right _ (List.mem_of_getElem? (i := 20) (by decide +kernel)), by decide +kernel⟩
theorem tm_mk_N : Cond.instantiable "TrickleMesh$Node" 14 ∈ tm_wg := List.mem_filter.mpr ⟨List.mem_append_right _ (List.mem_of_getElem? (i := 28) (by decide +kernel)), by decide +kernel⟩
theorem tg_N_3 : Cond.methodLink "TrickleMesh$Node" 3 Lib.objectInit ∈ tm_wg ∧ Cond.instanceMethod Lib.objectInit ∈ tm_wg ∧ Cond.code Lib.objectInit ⟨#[0xb1]⟩ 1 none ∈ tm_wg := ⟨List.mem_filter.mpr ⟨List.mem_append_right _ (List.mem_of_getElem? (i := 32) (by decide +kernel)), by decide +kernel⟩, List.mem_filter.mpr ⟨List.mem_append_right _ (List.mem_of_getElem? (i := 16) (by decide +kernel)), by decide +kernel⟩, List.mem_filter.mpr ⟨List.mem_append_right _ (List.mem_of_getElem? (i := 17) (by decide +kernel)), by decide +kernel⟩⟩
theorem tw_N_9 : Cond.classLink "TrickleMesh$Node" 9 "TrickleMesh$Radio" ∈ tm_wg := List.mem_filter.mpr ⟨List.mem_append_right _ (List.mem_of_getElem? (i := 33) (by decide +kernel)), by decide +kernel⟩
theorem tm_mk_R : Cond.instantiable "TrickleMesh$Radio" 11 ∈ tm_wg := List.mem_filter.mpr ⟨List.mem_append_right _ (List.mem_of_getElem? (i := 34) (by decide +kernel)), by decide +kernel⟩
theorem tg_R_3 : Cond.methodLink "TrickleMesh$Radio" 3 Lib.objectInit ∈ tm_wg ∧ Cond.instanceMethod Lib.objectInit ∈ tm_wg ∧ Cond.code Lib.objectInit ⟨#[0xb1]⟩ 1 none ∈ tm_wg := ⟨List.mem_filter.mpr ⟨List.mem_append_right _ (List.mem_of_getElem? (i := 38) (by decide +kernel)), by decide +kernel⟩, List.mem_filter.mpr ⟨List.mem_append_right _ (List.mem_of_getElem? (i := 16) (by decide +kernel)), by decide +kernel⟩, List.mem_filter.mpr ⟨List.mem_append_right _ (List.mem_of_getElem? (i := 17) (by decide +kernel)), by decide +kernel⟩⟩
theorem tw_R_9 : Cond.classLink "TrickleMesh$Radio" 9 "TrickleMesh$Frame" ∈ tm_wg := List.mem_filter.mpr ⟨List.mem_append_right _ (List.mem_of_getElem? (i := 39) (by decide +kernel)), by decide +kernel⟩
theorem tm_mk_F : Cond.instantiable "TrickleMesh$Frame" 12 ∈ tm_wg := List.mem_filter.mpr ⟨List.mem_append_right _ (List.mem_of_getElem? (i := 41) (by decide +kernel)), by decide +kernel⟩
theorem tg_F_3 : Cond.methodLink "TrickleMesh$Frame" 3 Lib.objectInit ∈ tm_wg ∧ Cond.instanceMethod Lib.objectInit ∈ tm_wg ∧ Cond.code Lib.objectInit ⟨#[0xb1]⟩ 1 none ∈ tm_wg := ⟨List.mem_filter.mpr ⟨List.mem_append_right _ (List.mem_of_getElem? (i := 45) (by decide +kernel)), by decide +kernel⟩, List.mem_filter.mpr ⟨List.mem_append_right _ (List.mem_of_getElem? (i := 16) (by decide +kernel)), by decide +kernel⟩, List.mem_filter.mpr ⟨List.mem_append_right _ (List.mem_of_getElem? (i := 17) (by decide +kernel)), by decide +kernel⟩⟩
theorem tm_ar_int : Cond.arrayClass .int ∈ tm_wg := List.mem_filter.mpr ⟨List.mem_append_right _ (List.mem_of_getElem? (i := 85) (by decide +kernel)), by decide +kernel⟩
theorem tw_N_18 : Cond.classLink "TrickleMesh$Node" 18 "TrickleMesh$Timer" ∈ tm_wg := List.mem_filter.mpr ⟨List.mem_append_right _ (List.mem_of_getElem? (i := 128) (by decide +kernel)), by decide +kernel⟩
theorem tm_mk_T : Cond.instantiable "TrickleMesh$Timer" 5 ∈ tm_wg := List.mem_filter.mpr ⟨List.mem_append_right _ (List.mem_of_getElem? (i := 129) (by decide +kernel)), by decide +kernel⟩
theorem tg_T_3 : Cond.methodLink "TrickleMesh$Timer" 3 Lib.objectInit ∈ tm_wg ∧ Cond.instanceMethod Lib.objectInit ∈ tm_wg ∧ Cond.code Lib.objectInit ⟨#[0xb1]⟩ 1 none ∈ tm_wg := ⟨List.mem_filter.mpr ⟨List.mem_append_right _ (List.mem_of_getElem? (i := 133) (by decide +kernel)), by decide +kernel⟩, List.mem_filter.mpr ⟨List.mem_append_right _ (List.mem_of_getElem? (i := 16) (by decide +kernel)), by decide +kernel⟩, List.mem_filter.mpr ⟨List.mem_append_right _ (List.mem_of_getElem? (i := 17) (by decide +kernel)), by decide +kernel⟩⟩
theorem tw_L_18 : Cond.classLink "TrickleMeshLaw" 18 "TrickleMeshModel" ∈ tm_wg := List.mem_filter.mpr ⟨List.mem_append_right _ (List.mem_of_getElem? (i := 431) (by decide +kernel)), by decide +kernel⟩
theorem tm_mk_Y : Cond.instantiable "TrickleMeshModel" 52 ∈ tm_wg := List.mem_filter.mpr ⟨List.mem_append_right _ (List.mem_of_getElem? (i := 432) (by decide +kernel)), by decide +kernel⟩
theorem tg_Y_1 : Cond.methodLink "TrickleMeshModel" 1 Lib.objectInit ∈ tm_wg ∧ Cond.instanceMethod Lib.objectInit ∈ tm_wg ∧ Cond.code Lib.objectInit ⟨#[0xb1]⟩ 1 none ∈ tm_wg := ⟨List.mem_filter.mpr ⟨List.mem_append_right _ (List.mem_of_getElem? (i := 436) (by decide +kernel)), by decide +kernel⟩, List.mem_filter.mpr ⟨List.mem_append_right _ (List.mem_of_getElem? (i := 16) (by decide +kernel)), by decide +kernel⟩, List.mem_filter.mpr ⟨List.mem_append_right _ (List.mem_of_getElem? (i := 17) (by decide +kernel)), by decide +kernel⟩⟩
theorem tm_ar_boolean : Cond.arrayClass .boolean ∈ tm_wg := List.mem_filter.mpr ⟨List.mem_append_right _ (List.mem_of_getElem? (i := 607) (by decide +kernel)), by decide +kernel⟩
end
section
/-! the flat state and the heap that it stands for, by program (wip/whole/decomp.py) -/
abbrev tm_S : Type := (Nat → Nat → Int32) × (Nat → Nat → Nat)
abbrev tm_n : Nat := 173
abbrev tm_fu : Nat := 200
abbrev tm_fl : Nat := 600
abbrev tm_ty : List FieldType := [.int, .boolean, .object "TrickleMesh$Node", .object "TrickleMesh$Frame", .array .int]
def tm_kn : List Nat := [5, 6, 7, 8, 4, 8, 4, 8, 4, 8, 4, 9, 4, 4, 4, 4, 10]
def tm_ky : List Nat := [12, 12, 13, 12, 12, 12, 14, 15, 15, 15, 15, 14, 15, 15, 15, 15, 16, 15, 15, 15, 15, 15, 14, 17, 18, 18, 18, 18, 19, 17, 18, 18, 18, 18, 17, 17, 15, 15, 14, 14, 14, 15, 20]
/-- the kind of an address -/
def kd (q : Nat) : Nat := if q = 0 then 0 else if q = 1 then 1 else if q = 2 then 2 else if q = 3 then 3 else if q ≤ 10 then 4 else if q < 130 then tm_kn.getD ((q - 11) % 17) 99 else if q = 130 then 11 else if q ≤ 173 then tm_ky.getD (q - 131) 99 else 99
/-- the cell of a kind at q, its ints and its changing references -/
def tm_c (k q : Nat) (w : Nat → Int32) (p : Nat → Nat) : tv_C := match k with
  | 0 => .inl (0, (p 0, .inl w))
  | 1 => .inr (4, [.int (w 0), .int (w 1), .ref 2, .ref 3, .int (w 4), .int (w 5), .int (w 6), .int (w 7), .int (w 8), .int (w 9), .int (w 10)])
  | 2 => .inl (2, (7, .inr (.inr (.inr (.inr (fun j => some (11 + 17 * j)))))))
  | 3 => .inl (4, (7, .inr (.inr (.inr (.inr (fun j => some (4 + j)))))))
  | 4 => .inl (0, (7, .inl w))
  | 5 => .inr (1, [.int (w 0), .ref (q + 1), .ref (q + 11), .ref (q + 12), .ref (q + 13), .ref (q + 14), .ref (q + 15), .ref (q + 16), .int (w 8), .int (w 9), .int (w 10), .int (w 11), .int (w 12), .int (w 13)])
  | 6 => .inr (2, [.ref (q + 1), .int (w 1), .int (w 2), .int (w 3), .int (w 4), .int (w 5), .int (w 6), .int (w 7), .int (w 8), .int (w 9), .int (w 10)])
  | 7 => .inl (3, (4, .inr (.inr (.inr (.inr (fun j => some (p j)))))))
  | 8 => .inr (0, [.int (w 0), .int (w 1), .int (w 2), .int (w 3), .int (w 4), .ref (q + 1), .int (w 6), .int (w 7), .int (w 8), .int (w 9), .int (w 10), .int (w 11)])
  | 9 => .inr (3, [.int (w 0), .int (w 1), .int (w 2), .int (w 3), .int (w 4)])
  | 10 => .inl (0, (8, .inl w))
  | 11 => .inr (5, [.int (w 0), .int (w 1), .int (w 2), .int (w 3), .ref 131, .ref 132, .ref 133, .ref 134, .ref 135, .ref 136, .ref 137, .ref 138, .ref 139, .ref 140, .ref 141, .ref 142, .ref 143, .ref 144, .ref 145, .ref 146, .ref 147, .ref 148, .ref 149, .ref 150, .ref 151, .ref 152, .ref 153, .ref 154, .ref 155, .ref 156, .ref 157, .ref 158, .ref 159, .ref 160, .ref 161, .ref 162, .ref 163, .ref 164, .ref 165, .ref 166, .int (w 40), .ref 167, .ref 168, .ref 169, .ref 170, .ref 171, .int (w 46), .int (w 47), .int (w 48), .int (w 49), .ref 172, .ref 173])
  | 12 => .inl (0, (49, .inl w))
  | 13 => .inl (1, (49, .inl w))
  | 14 => .inl (1, (7, .inl w))
  | 15 => .inl (0, (7, .inl w))
  | 16 => .inl (0, (28, .inl w))
  | 17 => .inl (1, (32, .inl w))
  | 18 => .inl (0, (32, .inl w))
  | 19 => .inl (0, (224, .inl w))
  | 20 => .inl (0, (56, .inl w))
  | _ => .inr (99, [])
def hp (σ : tm_S) : Nat → tv_C := fun q => tm_c (kd q) q (σ.1 q) (σ.2 q)
theorem hp_at {σ : tm_S} {q k : Nat} (h : kd q = k) : hp σ q = tm_c k q (σ.1 q) (σ.2 q) := by unfold hp; rw [h]
theorem kd_in {q k : Nat} (h : kd q = k) (hk : k ≠ 0 ∧ k ≠ 99) : 0 < q ∧ q ≤ tm_n := by
  by_cases h0 : q = 0
  · subst h0; exact absurd h.symm hk.1
  · by_cases hn : q ≤ tm_n
    · exact ⟨by omega, hn⟩
    · exfalso
      apply hk.2
      rw [← h]
      have hn : ¬ q ≤ 173 := hn
      unfold kd
      rw [if_neg h0, if_neg (by omega), if_neg (by omega), if_neg (by omega), if_neg (by omega), if_neg (by omega), if_neg (by omega), if_neg hn]
theorem kd_5_6_a : ∀ q, q < 174 → kd q = 5 → kd (q + 1) = 6 := by decide +kernel
theorem kd_5_6 {q : Nat} (h : kd q = 5) : kd (q + 1) = 6 := kd_5_6_a q (Nat.lt_succ_of_le (kd_in h (by decide)).2) h
theorem kd_5_9_a : ∀ q, q < 174 → kd q = 5 → kd (q + 11) = 9 := by decide +kernel
theorem kd_5_9 {q : Nat} (h : kd q = 5) : kd (q + 11) = 9 := kd_5_9_a q (Nat.lt_succ_of_le (kd_in h (by decide)).2) h
theorem kd_5_12_a : ∀ q, q < 174 → kd q = 5 → kd (q + 12) = 4 := by decide +kernel
theorem kd_5_12 {q : Nat} (h : kd q = 5) : kd (q + 12) = 4 := kd_5_12_a q (Nat.lt_succ_of_le (kd_in h (by decide)).2) h
theorem kd_5_13_a : ∀ q, q < 174 → kd q = 5 → kd (q + 13) = 4 := by decide +kernel
theorem kd_5_13 {q : Nat} (h : kd q = 5) : kd (q + 13) = 4 := kd_5_13_a q (Nat.lt_succ_of_le (kd_in h (by decide)).2) h
theorem kd_5_14_a : ∀ q, q < 174 → kd q = 5 → kd (q + 14) = 4 := by decide +kernel
theorem kd_5_14 {q : Nat} (h : kd q = 5) : kd (q + 14) = 4 := kd_5_14_a q (Nat.lt_succ_of_le (kd_in h (by decide)).2) h
theorem kd_5_15_a : ∀ q, q < 174 → kd q = 5 → kd (q + 15) = 4 := by decide +kernel
theorem kd_5_15 {q : Nat} (h : kd q = 5) : kd (q + 15) = 4 := kd_5_15_a q (Nat.lt_succ_of_le (kd_in h (by decide)).2) h
theorem kd_5_16_a : ∀ q, q < 174 → kd q = 5 → kd (q + 16) = 10 := by decide +kernel
theorem kd_5_16 {q : Nat} (h : kd q = 5) : kd (q + 16) = 10 := kd_5_16_a q (Nat.lt_succ_of_le (kd_in h (by decide)).2) h
theorem kd_6_7_a : ∀ q, q < 174 → kd q = 6 → kd (q + 1) = 7 := by decide +kernel
theorem kd_6_7 {q : Nat} (h : kd q = 6) : kd (q + 1) = 7 := kd_6_7_a q (Nat.lt_succ_of_le (kd_in h (by decide)).2) h
theorem kd_8_4_a : ∀ q, q < 174 → kd q = 8 → kd (q + 1) = 4 := by decide +kernel
theorem kd_8_4 {q : Nat} (h : kd q = 8) : kd (q + 1) = 4 := kd_8_4_a q (Nat.lt_succ_of_le (kd_in h (by decide)).2) h
abbrev tm_n1 : Nat := 129
theorem kd_i1_a : ∀ q, q < 174 → kd q < 11 → q ≤ 129 := by decide +kernel
theorem kd_i1 {q k : Nat} (h : kd q = k) (hk : k ≠ 0 ∧ k < 11) : 0 < q ∧ q ≤ tm_n1 := by
  have h1 := kd_in h ⟨hk.1, by omega⟩
  exact ⟨h1.1, kd_i1_a q (Nat.lt_succ_of_le h1.2) (by rw [h]; exact hk.2)⟩
theorem kd_nodes_a : ∀ m, m < 7 → kd (11 + 17 * m) = 5 := by decide +kernel
theorem kd_nodes {i : Int32} (h : ¬ (i < 0 ∨ 7 ≤ i.toNatClampNeg)) : kd (11 + 17 * i.toNatClampNeg) = 5 := kd_nodes_a _ (Nat.not_le.mp fun q => h (Or.inr q))
theorem kd_costs_a : ∀ m, m < 7 → kd (4 + m) = 4 := by decide +kernel
theorem kd_costs {i : Int32} (h : ¬ (i < 0 ∨ 7 ≤ i.toNatClampNeg)) : kd (4 + i.toNatClampNeg) = 4 := kd_costs_a _ (Nat.not_le.mp fun q => h (Or.inr q))
theorem kd_0 : kd 0 = 0 := by decide +kernel
theorem kd_1 : kd 1 = 1 := by decide +kernel
theorem kd_2 : kd 2 = 2 := by decide +kernel
theorem kd_3 : kd 3 = 3 := by decide +kernel
theorem kd_130 : kd 130 = 11 := by decide +kernel
theorem kd_131 : kd 131 = 12 := by decide +kernel
theorem kd_132 : kd 132 = 12 := by decide +kernel
theorem kd_133 : kd 133 = 13 := by decide +kernel
theorem kd_134 : kd 134 = 12 := by decide +kernel
theorem kd_135 : kd 135 = 12 := by decide +kernel
theorem kd_136 : kd 136 = 12 := by decide +kernel
theorem kd_137 : kd 137 = 14 := by decide +kernel
theorem kd_138 : kd 138 = 15 := by decide +kernel
theorem kd_139 : kd 139 = 15 := by decide +kernel
theorem kd_140 : kd 140 = 15 := by decide +kernel
theorem kd_141 : kd 141 = 15 := by decide +kernel
theorem kd_142 : kd 142 = 14 := by decide +kernel
theorem kd_143 : kd 143 = 15 := by decide +kernel
theorem kd_144 : kd 144 = 15 := by decide +kernel
theorem kd_145 : kd 145 = 15 := by decide +kernel
theorem kd_146 : kd 146 = 15 := by decide +kernel
theorem kd_147 : kd 147 = 16 := by decide +kernel
theorem kd_148 : kd 148 = 15 := by decide +kernel
theorem kd_149 : kd 149 = 15 := by decide +kernel
theorem kd_150 : kd 150 = 15 := by decide +kernel
theorem kd_151 : kd 151 = 15 := by decide +kernel
theorem kd_152 : kd 152 = 15 := by decide +kernel
theorem kd_153 : kd 153 = 14 := by decide +kernel
theorem kd_154 : kd 154 = 17 := by decide +kernel
theorem kd_155 : kd 155 = 18 := by decide +kernel
theorem kd_156 : kd 156 = 18 := by decide +kernel
theorem kd_157 : kd 157 = 18 := by decide +kernel
theorem kd_158 : kd 158 = 18 := by decide +kernel
theorem kd_159 : kd 159 = 19 := by decide +kernel
theorem kd_160 : kd 160 = 17 := by decide +kernel
theorem kd_161 : kd 161 = 18 := by decide +kernel
theorem kd_162 : kd 162 = 18 := by decide +kernel
theorem kd_163 : kd 163 = 18 := by decide +kernel
theorem kd_164 : kd 164 = 18 := by decide +kernel
theorem kd_165 : kd 165 = 17 := by decide +kernel
theorem kd_166 : kd 166 = 17 := by decide +kernel
theorem kd_167 : kd 167 = 15 := by decide +kernel
theorem kd_168 : kd 168 = 15 := by decide +kernel
theorem kd_169 : kd 169 = 14 := by decide +kernel
theorem kd_170 : kd 170 = 14 := by decide +kernel
theorem kd_171 : kd 171 = 14 := by decide +kernel
theorem kd_172 : kd 172 = 15 := by decide +kernel
theorem kd_173 : kd 173 = 20 := by decide +kernel
end
section
/-! rows over the flat state -/
theorem tm_if {α : Type} {c : Prop} [Decidable c] {A : Option α} {r : α} (h : (if c then A else none) = some r) : c ∧ A = some r := by
  by_cases hc : c
  · rw [if_pos hc] at h; exact ⟨hc, h⟩
  · rw [if_neg hc] at h; cases h
def tm_w {α β : Type} (x : α) (f : α → Option β) : Option β := f x
theorem tm_ww {α β : Type} {x : α} {f : α → Option β} {r : β} (h : tm_w x f = some r) : ∃ z, z = x ∧ f z = some r := ⟨x, rfl, h⟩
theorem tm_bd {α β : Type} {o : Option α} {f : α → Option β} {r : β} (h : o.bind f = some r) : ∃ z, o = some z ∧ f z = some r := by
  cases o with
  | none => cases h
  | some z => exact ⟨z, rfl, h⟩
abbrev tm_P1 (v : Option Value) (σ : tm_S) : Option Value → Nat → (Nat → tv_C) → Prop := fun v' n h => v' = v ∧ n = tm_n1 ∧ h = hp σ
abbrev tm_P (v : Option Value) (σ : tm_S) : Option Value → Nat → (Nat → tv_C) → Prop := fun v' n h => v' = v ∧ n = tm_n ∧ h = hp σ
theorem tm_gd {c : Cond} (h : c ∈ tm_wg) : GoodIn tm_wg (c :: tm_wg) := by
  intro w hw
  rcases List.mem_cons.mp hw with rfl | hw
  · exact ⟨h, good_of_word (List.mem_filter.mp h).2⟩
  · exact ⟨hw, good_of_word (List.mem_filter.mp hw).2⟩
theorem tm_nest : ∀ w ∈ tm_ns, tv_nest w := by
  intro w hw
  simp only [tm_ns, List.mem_cons, List.not_mem_nil, or_false] at hw
  rcases hw with rfl | rfl | rfl | rfl | rfl
  · exact Or.inr (Or.inr (Or.inl ⟨_, rfl⟩))
  · exact Or.inr (Or.inr (Or.inr ⟨_, rfl⟩))
  · exact Or.inr (Or.inr (Or.inl ⟨_, rfl⟩))
  · exact Or.inr (Or.inl ⟨_, _, _, _, rfl⟩)
  · exact Or.inr (Or.inl ⟨_, _, _, _, rfl⟩)
theorem tm_fi {x : Int32} : ∀ bs b, narrow .int (tv_v bs b (.int x)) = tv_v bs b (.int x) ∧ fits .int (tv_v bs b (.int x)) = true := fun _ _ => ⟨rfl, rfl⟩
theorem tm_nz {x : Int32} (h : x = 0 ∨ x = 1) : narrow .boolean (.int x) = .int x := by rcases h with rfl | rfl <;> decide
theorem tm_fz {x : Int32} (h : x = 0 ∨ x = 1) : ∀ bs b, narrow .boolean (tv_v bs b (.int x)) = tv_v bs b (.int x) ∧ fits .boolean (tv_v bs b (.int x)) = true := by
  intro bs b
  refine ⟨tm_nz h, ?_⟩
  rcases h with rfl | rfl <;> rfl
theorem tm_rf (r : Option Nat) : va_rf r = .null ∨ ∃ a, va_rf r = .ref a := by
  cases r with
  | none => exact Or.inl rfl
  | some a => exact Or.inr ⟨a, rfl⟩
def sI (σ : tm_S) (a k : Nat) (v : Int32) : tm_S := (fun x j => if x = a ∧ j = k then v else σ.1 x j, σ.2)
def sP (σ : tm_S) (a k : Nat) (r : Nat) : tm_S := (σ.1, fun x j => if x = a ∧ j = k then r else σ.2 x j)
/-- seven ints of s into d -/
def sC (σ : tm_S) (s d : Nat) : tm_S := (fun x j => if x = d ∧ j < 7 then σ.1 s j else σ.1 x j, σ.2)
/-- seven times v into a -/
def sFl (σ : tm_S) (a : Nat) (v : Int32) : tm_S := (fun x j => if x = a ∧ j < 7 then v else σ.1 x j, σ.2)
/-- a change of one address -/
theorem hp_up {σ τ : tm_S} {a : Nat} (h : ∀ q, q ≠ a → τ.1 q = σ.1 q ∧ τ.2 q = σ.2 q) : hp τ = va_up (hp σ) a (tm_c (kd a) a (τ.1 a) (τ.2 a)) := by
  funext q
  by_cases hq : q = a
  · subst hq
    rw [va_up_self]
    rfl
  · rw [va_up_ne _ _ hq]
    unfold hp
    rw [(h q hq).1, (h q hq).2]
theorem sI_at (σ : tm_S) (a k : Nat) (v : Int32) : (sI σ a k v).1 a = upd (σ.1 a) k v := by
  funext j
  by_cases hj : j = k <;> simp [sI, upd, hj]
theorem sI_ne (σ : tm_S) (a k : Nat) (v : Int32) : ∀ q, q ≠ a → (sI σ a k v).1 q = σ.1 q ∧ (sI σ a k v).2 q = σ.2 q := by
  intro q hq
  refine ⟨?_, rfl⟩
  funext j
  simp [sI, hq]
theorem hp_sI (σ : tm_S) (a k : Nat) (v : Int32) : hp (sI σ a k v) = va_up (hp σ) a (tm_c (kd a) a (upd (σ.1 a) k v) (σ.2 a)) := by
  rw [hp_up (sI_ne σ a k v), sI_at]
  rfl
theorem sP_ne (σ : tm_S) (a k r : Nat) : ∀ q, q ≠ a → (sP σ a k r).1 q = σ.1 q ∧ (sP σ a k r).2 q = σ.2 q := by
  intro q hq
  refine ⟨rfl, ?_⟩
  funext j
  simp [sP, hq]
theorem sC_ne (σ : tm_S) (s d : Nat) : ∀ q, q ≠ d → (sC σ s d).1 q = σ.1 q ∧ (sC σ s d).2 q = σ.2 q := by
  intro q hq
  refine ⟨?_, rfl⟩
  funext j
  simp [sC, hq]
section TVR2
variable {X : tv_X} {cells slots n : Nat} {σ : tm_S} {pc : Nat} {ls : List (Option Value)} {st : List Value} {cc : ByteArray} {nL : Nat} {own : String} {rm : Room}
theorem V.seti (hC : tv_K X cc nL own tm_wg tm_ns tm_cl tm_ty rm) {idx ci k q K : Nat} {C : String} {T : u_T} {N : Nat} {x : Int32} {ty : FieldType} {fs : List Value} (hF : tv_F tm_wg tm_ns tm_cl own idx ci k C T N) (tyT : Nat → FieldType) (hty : ∀ k, k < N → parseFieldDescriptor (T k).2.2.1 = some (tyT k)) (hnm : ∀ a, a < N → ∀ b, b < N → a ≠ b → (T a).2.1 ≠ (T b).2.1) (hfin : (T k).2.2.2 = false) (hds : parseFieldDescriptor (T k).2.2.1 = some ty) (hfit : ∀ bs b, narrow ty (tv_v bs b (.int x)) = tv_v bs b (.int x) ∧ fits ty (tv_v bs b (.int x)) = true) (hq : kd q = K) (hK : 0 < q ∧ q ≤ n) (hc : tm_c K q (σ.1 q) (σ.2 q) = .inr (ci, fs)) (hs : tm_c K q (upd (σ.1 q) k x) (σ.2 q) = .inr (ci, fs.set k (.int x))) (hlen : k < fs.length) (hd : decode cc pc = .ok (.putfield idx, 3)) (kk : V X cells slots n (hp (sI σ q k x)) (pc + 3) ls st) : V X cells slots n (hp σ) pc ls (.int x :: .ref q :: st) := by
  refine V.putf hC hF tyT hty hnm hfin hds hfit hK ((hp_at hq).trans hc) hlen hd ?_
  rw [hp_sI, hq, hs] at kk
  exact kk
theorem V.seta (hC : tv_K X cc nL own tm_wg tm_ns tm_cl tm_ty rm) {t q K len : Nat} {i x : Int32} (hq : kd q = K) (hK : 0 < q ∧ q ≤ n) (hc : tm_c K q (σ.1 q) (σ.2 q) = .inl (t, (len, .inl (σ.1 q)))) (hs : tm_c K q (upd (σ.1 q) i.toNatClampNeg x) (σ.2 q) = .inl (t, (len, .inl (upd (σ.1 q) i.toNatClampNeg x)))) (ht : tm_ty[t]? = some .int) (hin : ¬ (i < 0 ∨ len ≤ i.toNatClampNeg)) (hd : decode cc pc = .ok (.iastore, 1)) (kk : V X cells slots n (hp (sI σ q i.toNatClampNeg x)) (pc + 1) ls st) : V X cells slots n (hp σ) pc ls (.int x :: .int i :: .ref q :: st) := by
  refine V.iast hC hK ((hp_at hq).trans hc) ht hin hd ?_
  rw [hp_sI, hq, hs] at kk
  exact kk
theorem V.setz (hC : tv_K X cc nL own tm_wg tm_ns tm_cl tm_ty rm) {t q K len : Nat} {i x : Int32} (hq : kd q = K) (hK : 0 < q ∧ q ≤ n) (hc : tm_c K q (σ.1 q) (σ.2 q) = .inl (t, (len, .inl (σ.1 q)))) (hs : tm_c K q (upd (σ.1 q) i.toNatClampNeg x) (σ.2 q) = .inl (t, (len, .inl (upd (σ.1 q) i.toNatClampNeg x)))) (ht : tm_ty[t]? = some .boolean) (hin : ¬ (i < 0 ∨ len ≤ i.toNatClampNeg)) (hz : x = 0 ∨ x = 1) (hd : decode cc pc = .ok (.bastore, 1)) (kk : V X cells slots n (hp (sI σ q i.toNatClampNeg x)) (pc + 1) ls st) : V X cells slots n (hp σ) pc ls (.int x :: .int i :: .ref q :: st) := by
  refine V.zast hC hK ((hp_at hq).trans hc) ht hin hz hd ?_
  rw [hp_sI, hq, hs] at kk
  exact kk
theorem V.setp (hC : tv_K X cc nL own tm_wg tm_ns tm_cl tm_ty rm) {q r : Nat} {i : Int32} (hq : kd q = 7) (hr : kd r = 8) (hqn : 0 < q ∧ q ≤ n) (hrn : 0 < r ∧ r ≤ n) (hin : ¬ (i < 0 ∨ 4 ≤ i.toNatClampNeg)) (hd : decode cc pc = .ok (.aastore, 1)) (kk : V X cells slots n (hp (sP σ q i.toNatClampNeg r)) (pc + 1) ls st) : V X cells slots n (hp σ) pc ls (.ref r :: .int i :: .ref q :: st) := by
  refine V.aast hC (t := 3) (ci := 0) (r := (tR_F, tT_F, 12)) (f := fun j => some (σ.2 q j)) (len := 4) rfl rfl hqn (hp_at hq) hrn (hp_at hr) hin hd ?_
  rw [hp_up (sP_ne σ q i.toNatClampNeg r), hq] at kk
  have e : (fun j => some ((sP σ q i.toNatClampNeg r).2 q j)) = va_up (fun j => some (σ.2 q j)) i.toNatClampNeg (some r) := by
    funext j
    by_cases hj : j = i.toNatClampNeg <;> simp [sP, va_up, hj]
  rw [← e]
  exact kk
theorem V.copy (hC : tv_K X cc nL own tm_wg tm_ns tm_cl tm_ty rm) (hnl : ls.length = nL) {idx s d : Nat} (hw : Cond.methodLink own idx arraycopyName ∈ tm_wg ∧ Cond.native arraycopyName ∈ tm_wg ∧ Cond.static arraycopyName ∈ tm_wg ∧ Cond.initialized "java/lang/System" ∈ tm_wg) (hs : kd s = 4) (hdd : kd d = 4) (hsn : 0 < s ∧ s ≤ n) (hdn : 0 < d ∧ d ≤ n) (hrm : 1 ≤ rm.frames ∧ (st.map fun v => v.category).sum + (nativeFrameWords "java/lang/System" "arraycopy" 5 + 11) ≤ rm.locals) (hd : decode cc pc = .ok (.invokestatic idx, 3)) (kk : V X cells slots n (hp (sC σ s d)) (pc + 3) ls st) : V X cells slots n (hp σ) pc ls (.int 7 :: .int 0 :: .ref d :: .int 0 :: .ref s :: st) := by
  refine V.acopy hC hnl hw hsn (hp_at hs) hdn (hp_at hdd) rfl (by decide) (by decide) (by decide) (by decide) (by decide) hrm hd ?_
  rw [hp_up (sC_ne σ s d), hdd] at kk
  have e : (sC σ s d).1 d = va_cpy (σ.1 s) (σ.1 d) (0 : Int32).toNatClampNeg (0 : Int32).toNatClampNeg (7 : Int32).toNatClampNeg := by
    funext j
    have h0 : (0 : Int32).toNatClampNeg = 0 := by decide
    have h7 : (7 : Int32).toNatClampNeg = 7 := by decide
    simp [sC, va_cpy, h0, h7]
  rw [← e]
  exact kk
end TVR2
end
section
/-! switches, the law's end, less and more room, another heap -/
theorem tm_ne {x k : Int32} (h : ¬ x = k) : x.toInt ≠ k.toInt := fun e => h (Int32.toInt_inj.mp e)
theorem tm_out3 {x : Int32} (h0 : ¬ x = (0 : Int32)) (h1 : ¬ x = (1 : Int32)) (h2 : ¬ x = (2 : Int32)) : x.toInt < 0 ∨ 2 < x.toInt := by
  have g0 : x.toInt ≠ 0 := tm_ne h0
  have g1 : x.toInt ≠ 1 := tm_ne h1
  have g2 : x.toInt ≠ 2 := tm_ne h2
  omega
theorem tm_out10 {x : Int32} (h0 : ¬ x = (0 : Int32)) (h1 : ¬ x = (1 : Int32)) (h2 : ¬ x = (2 : Int32)) (h3 : ¬ x = (3 : Int32)) (h4 : ¬ x = (4 : Int32)) (h5 : ¬ x = (5 : Int32)) (h6 : ¬ x = (6 : Int32)) (h7 : ¬ x = (7 : Int32)) (h8 : ¬ x = (8 : Int32)) (h9 : ¬ x = (9 : Int32)) : x.toInt < 0 ∨ 9 < x.toInt := by
  have g0 : x.toInt ≠ 0 := tm_ne h0
  have g1 : x.toInt ≠ 1 := tm_ne h1
  have g2 : x.toInt ≠ 2 := tm_ne h2
  have g3 : x.toInt ≠ 3 := tm_ne h3
  have g4 : x.toInt ≠ 4 := tm_ne h4
  have g5 : x.toInt ≠ 5 := tm_ne h5
  have g6 : x.toInt ≠ 6 := tm_ne h6
  have g7 : x.toInt ≠ 7 := tm_ne h7
  have g8 : x.toInt ≠ 8 := tm_ne h8
  have g9 : x.toInt ≠ 9 := tm_ne h9
  omega
theorem tm_out12 {x : Int32} (h0 : ¬ x = (0 : Int32)) (h1 : ¬ x = (1 : Int32)) (h2 : ¬ x = (2 : Int32)) (h3 : ¬ x = (3 : Int32)) (h4 : ¬ x = (4 : Int32)) (h5 : ¬ x = (5 : Int32)) (h6 : ¬ x = (6 : Int32)) (h7 : ¬ x = (7 : Int32)) (h8 : ¬ x = (8 : Int32)) (h9 : ¬ x = (9 : Int32)) (h10 : ¬ x = (10 : Int32)) (h11 : ¬ x = (11 : Int32)) : x.toInt < 0 ∨ 11 < x.toInt := by
  have g0 : x.toInt ≠ 0 := tm_ne h0
  have g1 : x.toInt ≠ 1 := tm_ne h1
  have g2 : x.toInt ≠ 2 := tm_ne h2
  have g3 : x.toInt ≠ 3 := tm_ne h3
  have g4 : x.toInt ≠ 4 := tm_ne h4
  have g5 : x.toInt ≠ 5 := tm_ne h5
  have g6 : x.toInt ≠ 6 := tm_ne h6
  have g7 : x.toInt ≠ 7 := tm_ne h7
  have g8 : x.toInt ≠ 8 := tm_ne h8
  have g9 : x.toInt ≠ 9 := tm_ne h9
  have g10 : x.toInt ≠ 10 := tm_ne h10
  have g11 : x.toInt ≠ 11 := tm_ne h11
  omega
theorem tm_out13 {x : Int32} (h0 : ¬ x = (0 : Int32)) (h1 : ¬ x = (1 : Int32)) (h2 : ¬ x = (2 : Int32)) (h3 : ¬ x = (3 : Int32)) (h4 : ¬ x = (4 : Int32)) (h5 : ¬ x = (5 : Int32)) (h6 : ¬ x = (6 : Int32)) (h7 : ¬ x = (7 : Int32)) (h8 : ¬ x = (8 : Int32)) (h9 : ¬ x = (9 : Int32)) (h10 : ¬ x = (10 : Int32)) (h11 : ¬ x = (11 : Int32)) (h12 : ¬ x = (12 : Int32)) : x.toInt < 0 ∨ 12 < x.toInt := by
  have g0 : x.toInt ≠ 0 := tm_ne h0
  have g1 : x.toInt ≠ 1 := tm_ne h1
  have g2 : x.toInt ≠ 2 := tm_ne h2
  have g3 : x.toInt ≠ 3 := tm_ne h3
  have g4 : x.toInt ≠ 4 := tm_ne h4
  have g5 : x.toInt ≠ 5 := tm_ne h5
  have g6 : x.toInt ≠ 6 := tm_ne h6
  have g7 : x.toInt ≠ 7 := tm_ne h7
  have g8 : x.toInt ≠ 8 := tm_ne h8
  have g9 : x.toInt ≠ 9 := tm_ne h9
  have g10 : x.toInt ≠ 10 := tm_ne h10
  have g11 : x.toInt ≠ 11 := tm_ne h11
  have g12 : x.toInt ≠ 12 := tm_ne h12
  omega
abbrev tm_lc : Nat := 1000
abbrev tm_ls : Nat := 10000
def tv_law (X : tv_X) : Prop := match X with
  | ((p, l, e, R, s, m, args, below, meth, c), Q, (cl, tys, D, G, bs, b)) => args = #[Value.ref bs] ∧ Q = lw_Z below #[Value.ref bs] s ∧ meth.sig.returnType = ret ∧ b = s.heap.size
section TVL
variable {X : tv_X} {cells slots n : Nat} {h h' : Nat → tv_C} {pc : Nat} {ls : List (Option Value)} {st : List Value} {nL : Nat} {own : String} {Ts Ns : List Cond} {CL : List vw_C} {TY : List FieldType}
theorem V.lret (hC : tv_K X code nL own Ts Ns CL TY room_1) (hE : tv_law X) {x : Int32} (hd : decode code pc = .ok (.ireturn, 1)) (h1 : x = 1) : V X tm_lc tm_ls n h pc ls [.int x] := by
  obtain ⟨⟨p, l, e, R, s, m, args, below, meth, c⟩, Q, ⟨cl, tys, D, G, bs, b⟩⟩ := X
  obtain ⟨hx, hb, hml, hown, hts, hns, hK, hlk, hbs, hbz, rfl, rfl, rfl⟩ := hC
  obtain ⟨rfl, rfl, hr, rfl⟩ := hE
  subst h1
  intro H locs real hR hS hl
  exact va_forget (fun q hq => hS.2.2 q hq) (W.widen (by decide) (by decide) (lw_ret hx hb hr hlk hd))
theorem V.widen {k m : Nat} (h1 : cells ≤ k) (h2 : slots ≤ m) (kk : V X k m n h pc ls st) : V X cells slots n h pc ls st := by
  obtain ⟨⟨p, l, e, R, s, m, args, below, meth, c⟩, Q, ⟨cl, tys, D, G, bs, b⟩⟩ := X
  intro H locs real hR hS hl
  exact W.widen h1 h2 (kk H locs real hR hS hl)
theorem tv_W_congr {G : Nat → ClassId} {bs b n : Nat} {h h' : Nat → tv_C} (he : ∀ q, q ≤ n → h q = h' q) : tv_W G bs b n h = tv_W G bs b n h' := by
  unfold tv_W
  apply List.map_congr_left
  intro a ha
  have ha := List.mem_range.mp ha
  rw [he (a + 1) (by omega)]
theorem V.congr (he : ∀ q, q ≤ n → h q = h' q) (kk : V X cells slots n h' pc ls st) : V X cells slots n h pc ls st := by
  obtain ⟨⟨p, l, e, R, s, m, args, below, meth, c⟩, Q, ⟨cl, tys, D, G, bs, b⟩⟩ := X
  intro H locs real hR hS hl
  refine kk H locs real ⟨hR.1, ?_, ?_⟩ hS hl
  · rw [← tv_W_congr he]
    exact hR.2.1
  · rw [← he 0 (Nat.zero_le _)]
    exact hR.2.2
end TVL
end
