section
-- ===== PART A: goes FIRST, ahead of the names: the tables' words, and 'selects' of the private methods out of them =====
/-- a private method of a class that the tables say can be made, by its rows of tables_1 -/
def lw_okq (q : MethodName × Nat) : Prop := (q.1.cls ≠ "java/lang/invoke/MethodHandle" ∧ q.1.cls ≠ "java/lang/invoke/VarHandle") ∧ Cond.instantiable q.1.cls q.2 ∈ tables_1 ∧ Cond.privateMethod q.1 ∈ tables_1 ∧ Cond.instanceMethod q.1 ∈ tables_1
theorem lw_p0 : lw_okq (⟨"SaidShorter", "refused", "(I)I"⟩, 15) := ⟨⟨by decide +kernel, by decide +kernel⟩, List.mem_of_getElem? (i := 18) (by decide +kernel), List.mem_of_getElem? (i := 215) (by decide +kernel), List.mem_of_getElem? (i := 216) (by decide +kernel)⟩
theorem lw_p1 : lw_okq (⟨"SaidShorter$Letters", "passStatement", "()Z"⟩, 3) := ⟨⟨by decide +kernel, by decide +kernel⟩, List.mem_of_getElem? (i := 26) (by decide +kernel), List.mem_of_getElem? (i := 235) (by decide +kernel), List.mem_of_getElem? (i := 236) (by decide +kernel)⟩
theorem lw_p2 : lw_okq (⟨"SaidShorter$Letters", "here", "()I"⟩, 3) := ⟨⟨by decide +kernel, by decide +kernel⟩, List.mem_of_getElem? (i := 26) (by decide +kernel), List.mem_of_getElem? (i := 239) (by decide +kernel), List.mem_of_getElem? (i := 240) (by decide +kernel)⟩
theorem lw_p3 : lw_okq (⟨"SaidShorter$Letters", "passWithin", "(II)Z"⟩, 3) := ⟨⟨by decide +kernel, by decide +kernel⟩, List.mem_of_getElem? (i := 26) (by decide +kernel), List.mem_of_getElem? (i := 243) (by decide +kernel), List.mem_of_getElem? (i := 244) (by decide +kernel)⟩
theorem lw_p4 : lw_okq (⟨"SaidShorter$Letters", "passSaying", "()Z"⟩, 3) := ⟨⟨by decide +kernel, by decide +kernel⟩, List.mem_of_getElem? (i := 26) (by decide +kernel), List.mem_of_getElem? (i := 247) (by decide +kernel), List.mem_of_getElem? (i := 248) (by decide +kernel)⟩
theorem lw_p5 : lw_okq (⟨"SaidShorter", "tellAll", "()I"⟩, 15) := ⟨⟨by decide +kernel, by decide +kernel⟩, List.mem_of_getElem? (i := 18) (by decide +kernel), List.mem_of_getElem? (i := 258) (by decide +kernel), List.mem_of_getElem? (i := 259) (by decide +kernel)⟩
theorem lw_p6 : lw_okq (⟨"SaidShorter$Saying", "addFrom", "(LSaidShorter$Saying;II)V"⟩, 2) := ⟨⟨by decide +kernel, by decide +kernel⟩, List.mem_of_getElem? (i := 52) (by decide +kernel), List.mem_of_getElem? (i := 270) (by decide +kernel), List.mem_of_getElem? (i := 271) (by decide +kernel)⟩
theorem lw_p7 : lw_okq (⟨"SaidShorter", "tellStatement", "()Z"⟩, 15) := ⟨⟨by decide +kernel, by decide +kernel⟩, List.mem_of_getElem? (i := 18) (by decide +kernel), List.mem_of_getElem? (i := 287) (by decide +kernel), List.mem_of_getElem? (i := 288) (by decide +kernel)⟩
theorem lw_p8 : lw_okq (⟨"SaidShorter$Listener", "hear", "(II)I"⟩, 3) := ⟨⟨by decide +kernel, by decide +kernel⟩, List.mem_of_getElem? (i := 111) (by decide +kernel), List.mem_of_getElem? (i := 370) (by decide +kernel), List.mem_of_getElem? (i := 371) (by decide +kernel)⟩
theorem lw_p9 : lw_okq (⟨"SaidShorter$Listener", "meaningOfLeaf", "(I)I"⟩, 3) := ⟨⟨by decide +kernel, by decide +kernel⟩, List.mem_of_getElem? (i := 111) (by decide +kernel), List.mem_of_getElem? (i := 426) (by decide +kernel), List.mem_of_getElem? (i := 427) (by decide +kernel)⟩
theorem lw_p10 : lw_okq (⟨"SaidShorter", "noStranger", "(I)Z"⟩, 15) := ⟨⟨by decide +kernel, by decide +kernel⟩, List.mem_of_getElem? (i := 18) (by decide +kernel), List.mem_of_getElem? (i := 452) (by decide +kernel), List.mem_of_getElem? (i := 453) (by decide +kernel)⟩
theorem lw_p11 : lw_okq (⟨"SaidShorter", "noScholar", "(I)Z"⟩, 15) := ⟨⟨by decide +kernel, by decide +kernel⟩, List.mem_of_getElem? (i := 18) (by decide +kernel), List.mem_of_getElem? (i := 493) (by decide +kernel), List.mem_of_getElem? (i := 494) (by decide +kernel)⟩
theorem lw_p12 : lw_okq (⟨"SaidShorter", "noListener", "(I)Z"⟩, 15) := ⟨⟨by decide +kernel, by decide +kernel⟩, List.mem_of_getElem? (i := 18) (by decide +kernel), List.mem_of_getElem? (i := 505) (by decide +kernel), List.mem_of_getElem? (i := 506) (by decide +kernel)⟩
theorem lw_p13 : lw_okq (⟨"SaidShorter", "listenAs", "(I)V"⟩, 15) := ⟨⟨by decide +kernel, by decide +kernel⟩, List.mem_of_getElem? (i := 18) (by decide +kernel), List.mem_of_getElem? (i := 509) (by decide +kernel), List.mem_of_getElem? (i := 510) (by decide +kernel)⟩
theorem lw_p14 : lw_okq (⟨"SaidShorter", "meaningOf", "(I)I"⟩, 15) := ⟨⟨by decide +kernel, by decide +kernel⟩, List.mem_of_getElem? (i := 18) (by decide +kernel), List.mem_of_getElem? (i := 513) (by decide +kernel), List.mem_of_getElem? (i := 514) (by decide +kernel)⟩
theorem lw_p15 : lw_okq (⟨"SaidShorter", "concludeAllAs", "(I)V"⟩, 15) := ⟨⟨by decide +kernel, by decide +kernel⟩, List.mem_of_getElem? (i := 18) (by decide +kernel), List.mem_of_getElem? (i := 525) (by decide +kernel), List.mem_of_getElem? (i := 526) (by decide +kernel)⟩
def lw_privs_1 : List (MethodName × Nat) := [(⟨"SaidShorter", "refused", "(I)I"⟩, 15), (⟨"SaidShorter$Letters", "passStatement", "()Z"⟩, 3), (⟨"SaidShorter$Letters", "here", "()I"⟩, 3), (⟨"SaidShorter$Letters", "passWithin", "(II)Z"⟩, 3), (⟨"SaidShorter$Letters", "passSaying", "()Z"⟩, 3), (⟨"SaidShorter", "tellAll", "()I"⟩, 15), (⟨"SaidShorter$Saying", "addFrom", "(LSaidShorter$Saying;II)V"⟩, 2), (⟨"SaidShorter", "tellStatement", "()Z"⟩, 15), (⟨"SaidShorter$Listener", "hear", "(II)I"⟩, 3), (⟨"SaidShorter$Listener", "meaningOfLeaf", "(I)I"⟩, 3), (⟨"SaidShorter", "noStranger", "(I)Z"⟩, 15), (⟨"SaidShorter", "noScholar", "(I)Z"⟩, 15), (⟨"SaidShorter", "noListener", "(I)Z"⟩, 15), (⟨"SaidShorter", "listenAs", "(I)V"⟩, 15), (⟨"SaidShorter", "meaningOf", "(I)I"⟩, 15), (⟨"SaidShorter", "concludeAllAs", "(I)V"⟩, 15)]
theorem lw_r1 : ∀ q ∈ lw_privs_1, lw_okq q := List.forall_mem_cons.mpr ⟨lw_p0, List.forall_mem_cons.mpr ⟨lw_p1, List.forall_mem_cons.mpr ⟨lw_p2, List.forall_mem_cons.mpr ⟨lw_p3, List.forall_mem_cons.mpr ⟨lw_p4, List.forall_mem_cons.mpr ⟨lw_p5, List.forall_mem_cons.mpr ⟨lw_p6, List.forall_mem_cons.mpr ⟨lw_p7, List.forall_mem_cons.mpr ⟨lw_p8, List.forall_mem_cons.mpr ⟨lw_p9, List.forall_mem_cons.mpr ⟨lw_p10, List.forall_mem_cons.mpr ⟨lw_p11, List.forall_mem_cons.mpr ⟨lw_p12, List.forall_mem_cons.mpr ⟨lw_p13, List.forall_mem_cons.mpr ⟨lw_p14, List.forall_mem_cons.mpr ⟨lw_p15, fun _ h => absurd h List.not_mem_nil⟩⟩⟩⟩⟩⟩⟩⟩⟩⟩⟩⟩⟩⟩⟩⟩
theorem lw_p16 : lw_okq (⟨"SaidShorter", "beats", "(II)Z"⟩, 15) := ⟨⟨by decide +kernel, by decide +kernel⟩, List.mem_of_getElem? (i := 18) (by decide +kernel), List.mem_of_getElem? (i := 529) (by decide +kernel), List.mem_of_getElem? (i := 530) (by decide +kernel)⟩
theorem lw_p17 : lw_okq (⟨"SaidShorter", "isBeaten", "(I)Z"⟩, 15) := ⟨⟨by decide +kernel, by decide +kernel⟩, List.mem_of_getElem? (i := 18) (by decide +kernel), List.mem_of_getElem? (i := 537) (by decide +kernel), List.mem_of_getElem? (i := 538) (by decide +kernel)⟩
theorem lw_p18 : lw_okq (⟨"SaidShorter", "fewestFor", "(I)LSaidShorter$Fewest;"⟩, 15) := ⟨⟨by decide +kernel, by decide +kernel⟩, List.mem_of_getElem? (i := 18) (by decide +kernel), List.mem_of_getElem? (i := 545) (by decide +kernel), List.mem_of_getElem? (i := 546) (by decide +kernel)⟩
theorem lw_p19 : lw_okq (⟨"SaidShorter$Fewest", "isFor", "(LSaidShorter$Listener;)Z"⟩, 8) := ⟨⟨by decide +kernel, by decide +kernel⟩, List.mem_of_getElem? (i := 132) (by decide +kernel), List.mem_of_getElem? (i := 553) (by decide +kernel), List.mem_of_getElem? (i := 554) (by decide +kernel)⟩
theorem lw_p20 : lw_okq (⟨"SaidShorter$Fewest", "addLeaves", "()V"⟩, 8) := ⟨⟨by decide +kernel, by decide +kernel⟩, List.mem_of_getElem? (i := 132) (by decide +kernel), List.mem_of_getElem? (i := 562) (by decide +kernel), List.mem_of_getElem? (i := 563) (by decide +kernel)⟩
theorem lw_p21 : lw_okq (⟨"SaidShorter$Fewest", "add", "(I)V"⟩, 8) := ⟨⟨by decide +kernel, by decide +kernel⟩, List.mem_of_getElem? (i := 132) (by decide +kernel), List.mem_of_getElem? (i := 567) (by decide +kernel), List.mem_of_getElem? (i := 568) (by decide +kernel)⟩
theorem lw_p22 : lw_okq (⟨"SaidShorter$Fewest", "isComplete", "()Z"⟩, 8) := ⟨⟨by decide +kernel, by decide +kernel⟩, List.mem_of_getElem? (i := 132) (by decide +kernel), List.mem_of_getElem? (i := 575) (by decide +kernel), List.mem_of_getElem? (i := 576) (by decide +kernel)⟩
theorem lw_p23 : lw_okq (⟨"SaidShorter$Fewest", "lookAtNextLength", "()V"⟩, 8) := ⟨⟨by decide +kernel, by decide +kernel⟩, List.mem_of_getElem? (i := 132) (by decide +kernel), List.mem_of_getElem? (i := 579) (by decide +kernel), List.mem_of_getElem? (i := 580) (by decide +kernel)⟩
theorem lw_p24 : lw_okq (⟨"SaidShorter$Fewest", "addNots", "()V"⟩, 8) := ⟨⟨by decide +kernel, by decide +kernel⟩, List.mem_of_getElem? (i := 132) (by decide +kernel), List.mem_of_getElem? (i := 583) (by decide +kernel), List.mem_of_getElem? (i := 584) (by decide +kernel)⟩
theorem lw_p25 : lw_okq (⟨"SaidShorter$Fewest", "addJoined", "()V"⟩, 8) := ⟨⟨by decide +kernel, by decide +kernel⟩, List.mem_of_getElem? (i := 132) (by decide +kernel), List.mem_of_getElem? (i := 588) (by decide +kernel), List.mem_of_getElem? (i := 589) (by decide +kernel)⟩
theorem lw_p26 : lw_okq (⟨"SaidShorter", "refusedFarOff", "(I)I"⟩, 15) := ⟨⟨by decide +kernel, by decide +kernel⟩, List.mem_of_getElem? (i := 18) (by decide +kernel), List.mem_of_getElem? (i := 610) (by decide +kernel), List.mem_of_getElem? (i := 611) (by decide +kernel)⟩
theorem lw_p27 : lw_okq (⟨"SaidShorter", "wordsSavedBy", "(ILSaidShorter$Fewest;)I"⟩, 15) := ⟨⟨by decide +kernel, by decide +kernel⟩, List.mem_of_getElem? (i := 18) (by decide +kernel), List.mem_of_getElem? (i := 635) (by decide +kernel), List.mem_of_getElem? (i := 636) (by decide +kernel)⟩
theorem lw_p28 : lw_okq (⟨"SaidShorter$Saying", "behind", "(I)I"⟩, 2) := ⟨⟨by decide +kernel, by decide +kernel⟩, List.mem_of_getElem? (i := 52) (by decide +kernel), List.mem_of_getElem? (i := 656) (by decide +kernel), List.mem_of_getElem? (i := 657) (by decide +kernel)⟩
theorem lw_p29 : lw_okq (⟨"SaidShorter", "isConcludedBefore", "(II)Z"⟩, 15) := ⟨⟨by decide +kernel, by decide +kernel⟩, List.mem_of_getElem? (i := 18) (by decide +kernel), List.mem_of_getElem? (i := 675) (by decide +kernel), List.mem_of_getElem? (i := 676) (by decide +kernel)⟩
theorem lw_p30 : lw_okq (⟨"SaidShorter", "concludeAlike", "(II)Z"⟩, 15) := ⟨⟨by decide +kernel, by decide +kernel⟩, List.mem_of_getElem? (i := 18) (by decide +kernel), List.mem_of_getElem? (i := 683) (by decide +kernel), List.mem_of_getElem? (i := 684) (by decide +kernel)⟩
theorem lw_p31 : lw_okq (⟨"SaidShorter", "drawSaying", "(I)V"⟩, 15) := ⟨⟨by decide +kernel, by decide +kernel⟩, List.mem_of_getElem? (i := 18) (by decide +kernel), List.mem_of_getElem? (i := 699) (by decide +kernel), List.mem_of_getElem? (i := 700) (by decide +kernel)⟩
def lw_privs_2 : List (MethodName × Nat) := [(⟨"SaidShorter", "beats", "(II)Z"⟩, 15), (⟨"SaidShorter", "isBeaten", "(I)Z"⟩, 15), (⟨"SaidShorter", "fewestFor", "(I)LSaidShorter$Fewest;"⟩, 15), (⟨"SaidShorter$Fewest", "isFor", "(LSaidShorter$Listener;)Z"⟩, 8), (⟨"SaidShorter$Fewest", "addLeaves", "()V"⟩, 8), (⟨"SaidShorter$Fewest", "add", "(I)V"⟩, 8), (⟨"SaidShorter$Fewest", "isComplete", "()Z"⟩, 8), (⟨"SaidShorter$Fewest", "lookAtNextLength", "()V"⟩, 8), (⟨"SaidShorter$Fewest", "addNots", "()V"⟩, 8), (⟨"SaidShorter$Fewest", "addJoined", "()V"⟩, 8), (⟨"SaidShorter", "refusedFarOff", "(I)I"⟩, 15), (⟨"SaidShorter", "wordsSavedBy", "(ILSaidShorter$Fewest;)I"⟩, 15), (⟨"SaidShorter$Saying", "behind", "(I)I"⟩, 2), (⟨"SaidShorter", "isConcludedBefore", "(II)Z"⟩, 15), (⟨"SaidShorter", "concludeAlike", "(II)Z"⟩, 15), (⟨"SaidShorter", "drawSaying", "(I)V"⟩, 15)]
theorem lw_r2 : ∀ q ∈ lw_privs_2, lw_okq q := List.forall_mem_cons.mpr ⟨lw_p16, List.forall_mem_cons.mpr ⟨lw_p17, List.forall_mem_cons.mpr ⟨lw_p18, List.forall_mem_cons.mpr ⟨lw_p19, List.forall_mem_cons.mpr ⟨lw_p20, List.forall_mem_cons.mpr ⟨lw_p21, List.forall_mem_cons.mpr ⟨lw_p22, List.forall_mem_cons.mpr ⟨lw_p23, List.forall_mem_cons.mpr ⟨lw_p24, List.forall_mem_cons.mpr ⟨lw_p25, List.forall_mem_cons.mpr ⟨lw_p26, List.forall_mem_cons.mpr ⟨lw_p27, List.forall_mem_cons.mpr ⟨lw_p28, List.forall_mem_cons.mpr ⟨lw_p29, List.forall_mem_cons.mpr ⟨lw_p30, List.forall_mem_cons.mpr ⟨lw_p31, fun _ h => absurd h List.not_mem_nil⟩⟩⟩⟩⟩⟩⟩⟩⟩⟩⟩⟩⟩⟩⟩⟩
theorem lw_p32 : lw_okq (⟨"SaidShorter", "drawBelow", "(I)I"⟩, 15) := ⟨⟨by decide +kernel, by decide +kernel⟩, List.mem_of_getElem? (i := 18) (by decide +kernel), List.mem_of_getElem? (i := 706) (by decide +kernel), List.mem_of_getElem? (i := 707) (by decide +kernel)⟩
theorem lw_p33 : lw_okq (⟨"SaidShorter", "refusalsCounted", "(I)I"⟩, 15) := ⟨⟨by decide +kernel, by decide +kernel⟩, List.mem_of_getElem? (i := 18) (by decide +kernel), List.mem_of_getElem? (i := 738) (by decide +kernel), List.mem_of_getElem? (i := 739) (by decide +kernel)⟩
theorem lw_p34 : lw_okq (⟨"SaidShorterModel", "no", "(I)I"⟩, 33) := ⟨⟨by decide +kernel, by decide +kernel⟩, List.mem_of_getElem? (i := 742) (by decide +kernel), List.mem_of_getElem? (i := 855) (by decide +kernel), List.mem_of_getElem? (i := 856) (by decide +kernel)⟩
theorem lw_p35 : lw_okq (⟨"SaidShorterModel", "statement", "()Z"⟩, 33) := ⟨⟨by decide +kernel, by decide +kernel⟩, List.mem_of_getElem? (i := 742) (by decide +kernel), List.mem_of_getElem? (i := 863) (by decide +kernel), List.mem_of_getElem? (i := 864) (by decide +kernel)⟩
theorem lw_p36 : lw_okq (⟨"SaidShorterModel", "next", "()I"⟩, 33) := ⟨⟨by decide +kernel, by decide +kernel⟩, List.mem_of_getElem? (i := 742) (by decide +kernel), List.mem_of_getElem? (i := 867) (by decide +kernel), List.mem_of_getElem? (i := 868) (by decide +kernel)⟩
theorem lw_p37 : lw_okq (⟨"SaidShorterModel", "readsAll", "(II)Z"⟩, 33) := ⟨⟨by decide +kernel, by decide +kernel⟩, List.mem_of_getElem? (i := 742) (by decide +kernel), List.mem_of_getElem? (i := 871) (by decide +kernel), List.mem_of_getElem? (i := 872) (by decide +kernel)⟩
theorem lw_p38 : lw_okq (⟨"SaidShorterModel", "readsDigit", "(I)Z"⟩, 33) := ⟨⟨by decide +kernel, by decide +kernel⟩, List.mem_of_getElem? (i := 742) (by decide +kernel), List.mem_of_getElem? (i := 875) (by decide +kernel), List.mem_of_getElem? (i := 876) (by decide +kernel)⟩
theorem lw_p39 : lw_okq (⟨"SaidShorterModel", "readsSaying", "()Z"⟩, 33) := ⟨⟨by decide +kernel, by decide +kernel⟩, List.mem_of_getElem? (i := 742) (by decide +kernel), List.mem_of_getElem? (i := 882) (by decide +kernel), List.mem_of_getElem? (i := 883) (by decide +kernel)⟩
theorem lw_p40 : lw_okq (⟨"SaidShorterModel", "readsName", "(I)Z"⟩, 33) := ⟨⟨by decide +kernel, by decide +kernel⟩, List.mem_of_getElem? (i := 742) (by decide +kernel), List.mem_of_getElem? (i := 889) (by decide +kernel), List.mem_of_getElem? (i := 890) (by decide +kernel)⟩
theorem lw_p41 : lw_okq (⟨"SaidShorterModel", "passesAll", "(IZ)V"⟩, 33) := ⟨⟨by decide +kernel, by decide +kernel⟩, List.mem_of_getElem? (i := 742) (by decide +kernel), List.mem_of_getElem? (i := 893) (by decide +kernel), List.mem_of_getElem? (i := 894) (by decide +kernel)⟩
theorem lw_p42 : lw_okq (⟨"SaidShorterModel", "passes", "([I)V"⟩, 33) := ⟨⟨by decide +kernel, by decide +kernel⟩, List.mem_of_getElem? (i := 742) (by decide +kernel), List.mem_of_getElem? (i := 897) (by decide +kernel), List.mem_of_getElem? (i := 898) (by decide +kernel)⟩
theorem lw_p43 : lw_okq (⟨"SaidShorterModel", "passOne", "(I)I"⟩, 33) := ⟨⟨by decide +kernel, by decide +kernel⟩, List.mem_of_getElem? (i := 742) (by decide +kernel), List.mem_of_getElem? (i := 901) (by decide +kernel), List.mem_of_getElem? (i := 902) (by decide +kernel)⟩
theorem lw_p44 : lw_okq (⟨"SaidShorterModel", "comes", "(I)Z"⟩, 33) := ⟨⟨by decide +kernel, by decide +kernel⟩, List.mem_of_getElem? (i := 742) (by decide +kernel), List.mem_of_getElem? (i := 905) (by decide +kernel), List.mem_of_getElem? (i := 906) (by decide +kernel)⟩
theorem lw_p45 : lw_okq (⟨"SaidShorterModel", "lays", "(I)V"⟩, 33) := ⟨⟨by decide +kernel, by decide +kernel⟩, List.mem_of_getElem? (i := 742) (by decide +kernel), List.mem_of_getElem? (i := 909) (by decide +kernel), List.mem_of_getElem? (i := 910) (by decide +kernel)⟩
theorem lw_p46 : lw_okq (⟨"SaidShorterModel", "concluded", "(I)I"⟩, 33) := ⟨⟨by decide +kernel, by decide +kernel⟩, List.mem_of_getElem? (i := 742) (by decide +kernel), List.mem_of_getElem? (i := 913) (by decide +kernel), List.mem_of_getElem? (i := 914) (by decide +kernel)⟩
theorem lw_p47 : lw_okq (⟨"SaidShorterModel", "factOrName", "(II)I"⟩, 33) := ⟨⟨by decide +kernel, by decide +kernel⟩, List.mem_of_getElem? (i := 742) (by decide +kernel), List.mem_of_getElem? (i := 917) (by decide +kernel), List.mem_of_getElem? (i := 918) (by decide +kernel)⟩
def lw_privs_3 : List (MethodName × Nat) := [(⟨"SaidShorter", "drawBelow", "(I)I"⟩, 15), (⟨"SaidShorter", "refusalsCounted", "(I)I"⟩, 15), (⟨"SaidShorterModel", "no", "(I)I"⟩, 33), (⟨"SaidShorterModel", "statement", "()Z"⟩, 33), (⟨"SaidShorterModel", "next", "()I"⟩, 33), (⟨"SaidShorterModel", "readsAll", "(II)Z"⟩, 33), (⟨"SaidShorterModel", "readsDigit", "(I)Z"⟩, 33), (⟨"SaidShorterModel", "readsSaying", "()Z"⟩, 33), (⟨"SaidShorterModel", "readsName", "(I)Z"⟩, 33), (⟨"SaidShorterModel", "passesAll", "(IZ)V"⟩, 33), (⟨"SaidShorterModel", "passes", "([I)V"⟩, 33), (⟨"SaidShorterModel", "passOne", "(I)I"⟩, 33), (⟨"SaidShorterModel", "comes", "(I)Z"⟩, 33), (⟨"SaidShorterModel", "lays", "(I)V"⟩, 33), (⟨"SaidShorterModel", "concluded", "(I)I"⟩, 33), (⟨"SaidShorterModel", "factOrName", "(II)I"⟩, 33)]
theorem lw_r3 : ∀ q ∈ lw_privs_3, lw_okq q := List.forall_mem_cons.mpr ⟨lw_p32, List.forall_mem_cons.mpr ⟨lw_p33, List.forall_mem_cons.mpr ⟨lw_p34, List.forall_mem_cons.mpr ⟨lw_p35, List.forall_mem_cons.mpr ⟨lw_p36, List.forall_mem_cons.mpr ⟨lw_p37, List.forall_mem_cons.mpr ⟨lw_p38, List.forall_mem_cons.mpr ⟨lw_p39, List.forall_mem_cons.mpr ⟨lw_p40, List.forall_mem_cons.mpr ⟨lw_p41, List.forall_mem_cons.mpr ⟨lw_p42, List.forall_mem_cons.mpr ⟨lw_p43, List.forall_mem_cons.mpr ⟨lw_p44, List.forall_mem_cons.mpr ⟨lw_p45, List.forall_mem_cons.mpr ⟨lw_p46, List.forall_mem_cons.mpr ⟨lw_p47, fun _ h => absurd h List.not_mem_nil⟩⟩⟩⟩⟩⟩⟩⟩⟩⟩⟩⟩⟩⟩⟩⟩
theorem lw_p48 : lw_okq (⟨"SaidShorterModel", "nameTo", "(II)I"⟩, 33) := ⟨⟨by decide +kernel, by decide +kernel⟩, List.mem_of_getElem? (i := 742) (by decide +kernel), List.mem_of_getElem? (i := 921) (by decide +kernel), List.mem_of_getElem? (i := 922) (by decide +kernel)⟩
theorem lw_p49 : lw_okq (⟨"SaidShorterModel", "learntBy", "(I)I"⟩, 33) := ⟨⟨by decide +kernel, by decide +kernel⟩, List.mem_of_getElem? (i := 742) (by decide +kernel), List.mem_of_getElem? (i := 925) (by decide +kernel), List.mem_of_getElem? (i := 926) (by decide +kernel)⟩
theorem lw_p50 : lw_okq (⟨"SaidShorterModel", "notOf", "(II)I"⟩, 33) := ⟨⟨by decide +kernel, by decide +kernel⟩, List.mem_of_getElem? (i := 742) (by decide +kernel), List.mem_of_getElem? (i := 929) (by decide +kernel), List.mem_of_getElem? (i := 930) (by decide +kernel)⟩
theorem lw_p51 : lw_okq (⟨"SaidShorterModel", "kindOf", "(I)I"⟩, 33) := ⟨⟨by decide +kernel, by decide +kernel⟩, List.mem_of_getElem? (i := 742) (by decide +kernel), List.mem_of_getElem? (i := 933) (by decide +kernel), List.mem_of_getElem? (i := 934) (by decide +kernel)⟩
theorem lw_p52 : lw_okq (⟨"SaidShorterModel", "worldOf", "(I)I"⟩, 33) := ⟨⟨by decide +kernel, by decide +kernel⟩, List.mem_of_getElem? (i := 742) (by decide +kernel), List.mem_of_getElem? (i := 937) (by decide +kernel), List.mem_of_getElem? (i := 938) (by decide +kernel)⟩
theorem lw_p53 : lw_okq (⟨"SaidShorterModel", "andOf", "(III)I"⟩, 33) := ⟨⟨by decide +kernel, by decide +kernel⟩, List.mem_of_getElem? (i := 742) (by decide +kernel), List.mem_of_getElem? (i := 941) (by decide +kernel), List.mem_of_getElem? (i := 942) (by decide +kernel)⟩
theorem lw_p54 : lw_okq (⟨"SaidShorterModel", "orOf", "(III)I"⟩, 33) := ⟨⟨by decide +kernel, by decide +kernel⟩, List.mem_of_getElem? (i := 742) (by decide +kernel), List.mem_of_getElem? (i := 945) (by decide +kernel), List.mem_of_getElem? (i := 946) (by decide +kernel)⟩
theorem lw_p55 : lw_okq (⟨"SaidShorterModel", "isStranger", "(I)Z"⟩, 33) := ⟨⟨by decide +kernel, by decide +kernel⟩, List.mem_of_getElem? (i := 742) (by decide +kernel), List.mem_of_getElem? (i := 949) (by decide +kernel), List.mem_of_getElem? (i := 950) (by decide +kernel)⟩
theorem lw_p56 : lw_okq (⟨"SaidShorterModel", "isScholar", "(I)Z"⟩, 33) := ⟨⟨by decide +kernel, by decide +kernel⟩, List.mem_of_getElem? (i := 742) (by decide +kernel), List.mem_of_getElem? (i := 984) (by decide +kernel), List.mem_of_getElem? (i := 985) (by decide +kernel)⟩
theorem lw_p57 : lw_okq (⟨"SaidShorterModel", "isWho", "(I)Z"⟩, 33) := ⟨⟨by decide +kernel, by decide +kernel⟩, List.mem_of_getElem? (i := 742) (by decide +kernel), List.mem_of_getElem? (i := 998) (by decide +kernel), List.mem_of_getElem? (i := 999) (by decide +kernel)⟩
theorem lw_p58 : lw_okq (⟨"SaidShorterModel", "concludedFrom", "(II)I"⟩, 33) := ⟨⟨by decide +kernel, by decide +kernel⟩, List.mem_of_getElem? (i := 742) (by decide +kernel), List.mem_of_getElem? (i := 1002) (by decide +kernel), List.mem_of_getElem? (i := 1003) (by decide +kernel)⟩
theorem lw_p59 : lw_okq (⟨"SaidShorterModel", "laysSaying", "(I)V"⟩, 33) := ⟨⟨by decide +kernel, by decide +kernel⟩, List.mem_of_getElem? (i := 742) (by decide +kernel), List.mem_of_getElem? (i := 1006) (by decide +kernel), List.mem_of_getElem? (i := 1007) (by decide +kernel)⟩
theorem lw_p60 : lw_okq (⟨"SaidShorterModel", "doesBeat", "(III)Z"⟩, 33) := ⟨⟨by decide +kernel, by decide +kernel⟩, List.mem_of_getElem? (i := 742) (by decide +kernel), List.mem_of_getElem? (i := 1018) (by decide +kernel), List.mem_of_getElem? (i := 1019) (by decide +kernel)⟩
theorem lw_p61 : lw_okq (⟨"SaidShorterModel", "findShortest", "(II)V"⟩, 33) := ⟨⟨by decide +kernel, by decide +kernel⟩, List.mem_of_getElem? (i := 742) (by decide +kernel), List.mem_of_getElem? (i := 1030) (by decide +kernel), List.mem_of_getElem? (i := 1031) (by decide +kernel)⟩
theorem lw_p62 : lw_okq (⟨"SaidShorterModel", "goesOn", "(I)V"⟩, 33) := ⟨⟨by decide +kernel, by decide +kernel⟩, List.mem_of_getElem? (i := 742) (by decide +kernel), List.mem_of_getElem? (i := 1034) (by decide +kernel), List.mem_of_getElem? (i := 1035) (by decide +kernel)⟩
theorem lw_p63 : lw_okq (⟨"SaidShorterModel", "lowers", "(II)V"⟩, 33) := ⟨⟨by decide +kernel, by decide +kernel⟩, List.mem_of_getElem? (i := 742) (by decide +kernel), List.mem_of_getElem? (i := 1038) (by decide +kernel), List.mem_of_getElem? (i := 1039) (by decide +kernel)⟩
def lw_privs_4 : List (MethodName × Nat) := [(⟨"SaidShorterModel", "nameTo", "(II)I"⟩, 33), (⟨"SaidShorterModel", "learntBy", "(I)I"⟩, 33), (⟨"SaidShorterModel", "notOf", "(II)I"⟩, 33), (⟨"SaidShorterModel", "kindOf", "(I)I"⟩, 33), (⟨"SaidShorterModel", "worldOf", "(I)I"⟩, 33), (⟨"SaidShorterModel", "andOf", "(III)I"⟩, 33), (⟨"SaidShorterModel", "orOf", "(III)I"⟩, 33), (⟨"SaidShorterModel", "isStranger", "(I)Z"⟩, 33), (⟨"SaidShorterModel", "isScholar", "(I)Z"⟩, 33), (⟨"SaidShorterModel", "isWho", "(I)Z"⟩, 33), (⟨"SaidShorterModel", "concludedFrom", "(II)I"⟩, 33), (⟨"SaidShorterModel", "laysSaying", "(I)V"⟩, 33), (⟨"SaidShorterModel", "doesBeat", "(III)Z"⟩, 33), (⟨"SaidShorterModel", "findShortest", "(II)V"⟩, 33), (⟨"SaidShorterModel", "goesOn", "(I)V"⟩, 33), (⟨"SaidShorterModel", "lowers", "(II)V"⟩, 33)]
theorem lw_r4 : ∀ q ∈ lw_privs_4, lw_okq q := List.forall_mem_cons.mpr ⟨lw_p48, List.forall_mem_cons.mpr ⟨lw_p49, List.forall_mem_cons.mpr ⟨lw_p50, List.forall_mem_cons.mpr ⟨lw_p51, List.forall_mem_cons.mpr ⟨lw_p52, List.forall_mem_cons.mpr ⟨lw_p53, List.forall_mem_cons.mpr ⟨lw_p54, List.forall_mem_cons.mpr ⟨lw_p55, List.forall_mem_cons.mpr ⟨lw_p56, List.forall_mem_cons.mpr ⟨lw_p57, List.forall_mem_cons.mpr ⟨lw_p58, List.forall_mem_cons.mpr ⟨lw_p59, List.forall_mem_cons.mpr ⟨lw_p60, List.forall_mem_cons.mpr ⟨lw_p61, List.forall_mem_cons.mpr ⟨lw_p62, List.forall_mem_cons.mpr ⟨lw_p63, fun _ h => absurd h List.not_mem_nil⟩⟩⟩⟩⟩⟩⟩⟩⟩⟩⟩⟩⟩⟩⟩⟩
theorem lw_p64 : lw_okq (⟨"SaidShorterModel", "shortestOf", "(I)I"⟩, 33) := ⟨⟨by decide +kernel, by decide +kernel⟩, List.mem_of_getElem? (i := 742) (by decide +kernel), List.mem_of_getElem? (i := 1042) (by decide +kernel), List.mem_of_getElem? (i := 1043) (by decide +kernel)⟩
theorem lw_p65 : lw_okq (⟨"SaidShorterModel", "lower", "(I)I"⟩, 33) := ⟨⟨by decide +kernel, by decide +kernel⟩, List.mem_of_getElem? (i := 742) (by decide +kernel), List.mem_of_getElem? (i := 1050) (by decide +kernel), List.mem_of_getElem? (i := 1051) (by decide +kernel)⟩
theorem lw_p66 : lw_okq (⟨"SaidShorterModel", "laysBut", "(IIII)V"⟩, 33) := ⟨⟨by decide +kernel, by decide +kernel⟩, List.mem_of_getElem? (i := 742) (by decide +kernel), List.mem_of_getElem? (i := 1075) (by decide +kernel), List.mem_of_getElem? (i := 1076) (by decide +kernel)⟩
theorem lw_p67 : lw_okq (⟨"SaidShorterModel", "tells", "(II)V"⟩, 33) := ⟨⟨by decide +kernel, by decide +kernel⟩, List.mem_of_getElem? (i := 742) (by decide +kernel), List.mem_of_getElem? (i := 1079) (by decide +kernel), List.mem_of_getElem? (i := 1080) (by decide +kernel)⟩
theorem lw_p68 : lw_okq (⟨"SaidShorterModel", "behind", "(II)I"⟩, 33) := ⟨⟨by decide +kernel, by decide +kernel⟩, List.mem_of_getElem? (i := 742) (by decide +kernel), List.mem_of_getElem? (i := 1083) (by decide +kernel), List.mem_of_getElem? (i := 1084) (by decide +kernel)⟩
theorem lw_p69 : lw_okq (⟨"SaidShorterModel", "doAgree", "(II)Z"⟩, 33) := ⟨⟨by decide +kernel, by decide +kernel⟩, List.mem_of_getElem? (i := 742) (by decide +kernel), List.mem_of_getElem? (i := 1102) (by decide +kernel), List.mem_of_getElem? (i := 1103) (by decide +kernel)⟩
theorem lw_p70 : lw_okq (⟨"SaidShorterModel", "draws", "()V"⟩, 33) := ⟨⟨by decide +kernel, by decide +kernel⟩, List.mem_of_getElem? (i := 742) (by decide +kernel), List.mem_of_getElem? (i := 1118) (by decide +kernel), List.mem_of_getElem? (i := 1119) (by decide +kernel)⟩
theorem lw_p71 : lw_okq (⟨"SaidShorterModel", "draw", "(I)I"⟩, 33) := ⟨⟨by decide +kernel, by decide +kernel⟩, List.mem_of_getElem? (i := 742) (by decide +kernel), List.mem_of_getElem? (i := 1122) (by decide +kernel), List.mem_of_getElem? (i := 1123) (by decide +kernel)⟩
def lw_privs_5 : List (MethodName × Nat) := [(⟨"SaidShorterModel", "shortestOf", "(I)I"⟩, 33), (⟨"SaidShorterModel", "lower", "(I)I"⟩, 33), (⟨"SaidShorterModel", "laysBut", "(IIII)V"⟩, 33), (⟨"SaidShorterModel", "tells", "(II)V"⟩, 33), (⟨"SaidShorterModel", "behind", "(II)I"⟩, 33), (⟨"SaidShorterModel", "doAgree", "(II)Z"⟩, 33), (⟨"SaidShorterModel", "draws", "()V"⟩, 33), (⟨"SaidShorterModel", "draw", "(I)I"⟩, 33)]
theorem lw_r5 : ∀ q ∈ lw_privs_5, lw_okq q := List.forall_mem_cons.mpr ⟨lw_p64, List.forall_mem_cons.mpr ⟨lw_p65, List.forall_mem_cons.mpr ⟨lw_p66, List.forall_mem_cons.mpr ⟨lw_p67, List.forall_mem_cons.mpr ⟨lw_p68, List.forall_mem_cons.mpr ⟨lw_p69, List.forall_mem_cons.mpr ⟨lw_p70, List.forall_mem_cons.mpr ⟨lw_p71, fun _ h => absurd h List.not_mem_nil⟩⟩⟩⟩⟩⟩⟩⟩
def lw_privs : List (MethodName × Nat) := lw_privs_1 ++ (lw_privs_2 ++ (lw_privs_3 ++ (lw_privs_4 ++ (lw_privs_5))))
def lw_tbl : List Cond := k2_sels lw_privs ++ tables_1
theorem lw_privs_ok : ∀ q ∈ lw_privs, lw_okq q := by
  show ∀ q ∈ lw_privs_1 ++ (lw_privs_2 ++ (lw_privs_3 ++ (lw_privs_4 ++ (lw_privs_5)))), lw_okq q
  exact List.forall_mem_append.mpr ⟨lw_r1, List.forall_mem_append.mpr ⟨lw_r2, List.forall_mem_append.mpr ⟨lw_r3, List.forall_mem_append.mpr ⟨lw_r4, lw_r5⟩⟩⟩⟩
-- ===== end of PART A; then your names; then what follows =====
/-! THE CLAIM OUT OF ONE WALK OF THE LAW'S BODY. Your part is whole_start (and what it stands on); all else here is the same for every law, but numbers. -/
def R_law : String := "SaidShorterLaw"
def lw_P (b : Addr) (xs : List Int32) (args : Array Value) (s : State) : Prop := args = #[.ref b] ∧ s.IntsAt b xs ∧ xs.length ≤ 2560 ∧ (Jvm.Cond.and given_1 narrow_1).before args s = true
def lw_Q (_ : Array Value) (s : State) (o : Outcome) (t : State) : Prop := o = .returned (some (.int 1)) ∧ Framed s o t [] 600000 7302250
def lw_Z (below : List Frame) (a : Array Value) (s : State) : State → Prop := fun t => ∃ o, t.status = .running ∧ Ended t below o ∧ lw_Q a s o t
/-- the law's own end, with 1 on the stack, nothing written that was there before, its room as the claim has it -/
theorem lw_ret {p : Program} {l : Launch} {e : Env} {s : State} {m : MethodId} {below : List Frame} {meth : Method} {c : Code} {b : Nat} (hx : p.tables.exec = Jvm.exec) (hb : c.code = code) (hr : meth.sig.returnType = ret) (hlocks : meth.locks = false) {pc : Nat} {H : Heap} {ls : Array Slot} (hdg : decode code pc = .ok (.ireturn, 1)) : W p l e room_1 s m #[Value.ref b] below meth c H [] 600000 7302250 (lw_Z below #[Value.ref b] s) (F0 m pc ls [.int 1]) := by
  intro T hT X
  obtain ⟨fs, hret, hrun, hended, hW, hframe⟩ := X.leave (v := some (.int 1)) (hlocks := hlocks) (fun h => by rw [hr] at h; cases h)
  have hmeth' : T.vm.method? m = some meth := X.method'
  refine ⟨T.setFrames fs, ?_, .returned (some (.int 1)), hrun, hended, rfl, ⟨_, rfl⟩, hW, hframe⟩
  jvm_step X.here [X.here.top, hx, hb, hdg, hmeth', hr, ret, narrow_b1]
  (try refine ⟨rfl, ?_⟩); (try refine ⟨rfl, ?_⟩)
  first | (intro acts; rw [hret _ acts rfl rfl rfl]) | rw [hret _ _ rfl rfl rfl]
  exact Steps.refl _
/-- what holds at the law's entry: the machine, the code, the tables' words (any of lw_tbl by 'hts w (by decide +kernel)'), the script of L ints xs at the cell b, what the Statement gives of the start (any of its parts by flat_of_before) -/
def lw_At (p : Program) (s : State) (m : MethodId) (meth : Method) (c : Code) (b L : Nat) (xs : Nat → Int32) : Prop :=
  p.tables.exec = Jvm.exec ∧ c.code = code ∧ meth.sig.returnType = ret ∧ c.maxLocals = 4 ∧ s.vm.findClass R_law = some m.cls ∧ (∀ w ∈ lw_tbl, w.before #[Value.ref b] s = true) ∧ va_X b L xs s s.heap ∧ b < s.heap.size ∧ meth.locks = false ∧ (Jvm.Cond.and given_1 narrow_1).before #[Value.ref b] s = true
end
section
def RX0 : String := "SaidShorter$Contrary"
def TX0 : u_T := fun k => match k with
  | _ => ("SaidShorter$Stranger", "figure", "I", true)
def tyX0 : Nat → FieldType := fun k => match k with
  | _ => .int
abbrev wsX00 : List Cond := u_ws RX0 TX0 1
theorem nmX0 : ∀ a, a < 1 → ∀ b, b < 1 → a ≠ b → (TX0 a).2.1 ≠ (TX0 b).2.1 := by decide +kernel
theorem tyX0_ok : ∀ k, k < 1 → parseFieldDescriptor (TX0 k).2.2.1 = some (tyX0 k) := by decide +kernel
abbrev cX0_init : ByteArray := prog_2_method_1_code
def yX0_init : MethodName := ⟨RX0, "<init>", "(I)V"⟩
abbrev cX0_kind : ByteArray := prog_2_method_2_code
def yX0_kind : MethodName := ⟨RX0, "kind", "()I"⟩
abbrev cX0_and : ByteArray := prog_2_method_3_code
def yX0_and : MethodName := ⟨RX0, "and", "(II)I"⟩
abbrev cX0_andHasSides : ByteArray := prog_2_method_4_code
def yX0_andHasSides : MethodName := ⟨RX0, "andHasSides", "()Z"⟩
def RX1 : String := "SaidShorter$Deaf"
def TX1 : u_T := fun k => match k with
  | _ => ("SaidShorter$Stranger", "figure", "I", true)
def tyX1 : Nat → FieldType := fun k => match k with
  | _ => .int
abbrev wsX10 : List Cond := u_ws RX1 TX1 1
theorem nmX1 : ∀ a, a < 1 → ∀ b, b < 1 → a ≠ b → (TX1 a).2.1 ≠ (TX1 b).2.1 := by decide +kernel
theorem tyX1_ok : ∀ k, k < 1 → parseFieldDescriptor (TX1 k).2.2.1 = some (tyX1 k) := by decide +kernel
abbrev cX1_init : ByteArray := prog_3_method_1_code
def yX1_init : MethodName := ⟨RX1, "<init>", "(I)V"⟩
abbrev cX1_kind : ByteArray := prog_3_method_2_code
def yX1_kind : MethodName := ⟨RX1, "kind", "()I"⟩
abbrev cX1_not : ByteArray := prog_3_method_3_code
def yX1_not : MethodName := ⟨RX1, "not", "(I)I"⟩
def RX2 : String := "SaidShorter$Dull"
def TX2 : u_T := fun k => match k with
  | _ => ("SaidShorter$Stranger", "figure", "I", true)
def tyX2 : Nat → FieldType := fun k => match k with
  | _ => .int
abbrev wsX20 : List Cond := u_ws RX2 TX2 1
theorem nmX2 : ∀ a, a < 1 → ∀ b, b < 1 → a ≠ b → (TX2 a).2.1 ≠ (TX2 b).2.1 := by decide +kernel
theorem tyX2_ok : ∀ k, k < 1 → parseFieldDescriptor (TX2 k).2.2.1 = some (tyX2 k) := by decide +kernel
abbrev cX2_init : ByteArray := prog_4_method_1_code
def yX2_init : MethodName := ⟨RX2, "<init>", "(I)V"⟩
abbrev cX2_kind : ByteArray := prog_4_method_2_code
def yX2_kind : MethodName := ⟨RX2, "kind", "()I"⟩
abbrev cX2_not : ByteArray := prog_4_method_3_code
def yX2_not : MethodName := ⟨RX2, "not", "(I)I"⟩
def RX3 : String := "SaidShorter$Fewest"
def TX3 : u_T := fun k => match k with
  | 0 => ("SaidShorter$Fewest", "stranger", "LSaidShorter$Stranger;", false)
  | 1 => ("SaidShorter$Fewest", "known", "[I", true)
  | 2 => ("SaidShorter$Fewest", "words", "[I", true)
  | 3 => ("SaidShorter$Fewest", "found", "[I", true)
  | 4 => ("SaidShorter$Fewest", "foundCount", "I", false)
  | 5 => ("SaidShorter$Fewest", "starts", "[I", true)
  | 6 => ("SaidShorter$Fewest", "length", "I", false)
  | _ => ("SaidShorter$Fewest", "longest", "I", false)
def tyX3 : Nat → FieldType := fun k => match k with
  | 0 => .object "SaidShorter$Stranger"
  | 1 => .array .int
  | 2 => .array .int
  | 3 => .array .int
  | 4 => .int
  | 5 => .array .int
  | 6 => .int
  | _ => .int
abbrev wsX30 : List Cond := u_ws RX3 TX3 8
theorem nmX3 : ∀ a, a < 8 → ∀ b, b < 8 → a ≠ b → (TX3 a).2.1 ≠ (TX3 b).2.1 := by decide +kernel
theorem tyX3_ok : ∀ k, k < 8 → parseFieldDescriptor (TX3 k).2.2.1 = some (tyX3 k) := by decide +kernel
abbrev cX3_init : ByteArray := prog_5_method_1_code
def yX3_init : MethodName := ⟨RX3, "<init>", "()V"⟩
abbrev cX3_turnTo : ByteArray := prog_5_method_2_code
def yX3_turnTo : MethodName := ⟨RX3, "turnTo", "(LSaidShorter$Listener;)V"⟩
abbrev cX3_wordsFor : ByteArray := prog_5_method_3_code
def yX3_wordsFor : MethodName := ⟨RX3, "wordsFor", "(I)I"⟩
abbrev cX3_meaningsOfLength : ByteArray := prog_5_method_4_code
def yX3_meaningsOfLength : MethodName := ⟨RX3, "meaningsOfLength", "(I)I"⟩
abbrev cX3_farthestMeaning : ByteArray := prog_5_method_5_code
def yX3_farthestMeaning : MethodName := ⟨RX3, "farthestMeaning", "()I"⟩
abbrev cX3_isFor : ByteArray := prog_5_method_6_code
def yX3_isFor : MethodName := ⟨RX3, "isFor", "(LSaidShorter$Listener;)Z"⟩
abbrev cX3_isComplete : ByteArray := prog_5_method_7_code
def yX3_isComplete : MethodName := ⟨RX3, "isComplete", "()Z"⟩
abbrev cX3_lookAtNextLength : ByteArray := prog_5_method_8_code
def yX3_lookAtNextLength : MethodName := ⟨RX3, "lookAtNextLength", "()V"⟩
abbrev cX3_addLeaves : ByteArray := prog_5_method_9_code
def yX3_addLeaves : MethodName := ⟨RX3, "addLeaves", "()V"⟩
abbrev cX3_addNots : ByteArray := prog_5_method_10_code
def yX3_addNots : MethodName := ⟨RX3, "addNots", "()V"⟩
abbrev cX3_addJoined : ByteArray := prog_5_method_11_code
def yX3_addJoined : MethodName := ⟨RX3, "addJoined", "()V"⟩
abbrev cX3_add : ByteArray := prog_5_method_12_code
def yX3_add : MethodName := ⟨RX3, "add", "(I)V"⟩
def RX4 : String := "SaidShorter$Hasty"
def TX4 : u_T := fun k => match k with
  | _ => ("SaidShorter$Stranger", "figure", "I", true)
def tyX4 : Nat → FieldType := fun k => match k with
  | _ => .int
abbrev wsX40 : List Cond := u_ws RX4 TX4 1
theorem nmX4 : ∀ a, a < 1 → ∀ b, b < 1 → a ≠ b → (TX4 a).2.1 ≠ (TX4 b).2.1 := by decide +kernel
theorem tyX4_ok : ∀ k, k < 1 → parseFieldDescriptor (TX4 k).2.2.1 = some (tyX4 k) := by decide +kernel
abbrev cX4_init : ByteArray := prog_6_method_1_code
def yX4_init : MethodName := ⟨RX4, "<init>", "(I)V"⟩
abbrev cX4_kind : ByteArray := prog_6_method_2_code
def yX4_kind : MethodName := ⟨RX4, "kind", "()I"⟩
abbrev cX4_or : ByteArray := prog_6_method_3_code
def yX4_or : MethodName := ⟨RX4, "or", "(II)I"⟩
def RX5 : String := "SaidShorter$Letters"
def TX5 : u_T := fun k => match k with
  | 0 => ("SaidShorter$Letters", "signs", "[I", true)
  | 1 => ("SaidShorter$Letters", "size", "I", false)
  | _ => ("SaidShorter$Letters", "at", "I", false)
def tyX5 : Nat → FieldType := fun k => match k with
  | 0 => .array .int
  | 1 => .int
  | _ => .int
abbrev wsX50 : List Cond := u_ws RX5 TX5 3
theorem nmX5 : ∀ a, a < 3 → ∀ b, b < 3 → a ≠ b → (TX5 a).2.1 ≠ (TX5 b).2.1 := by decide +kernel
theorem tyX5_ok : ∀ k, k < 3 → parseFieldDescriptor (TX5 k).2.2.1 = some (tyX5 k) := by decide +kernel
abbrev cX5_init : ByteArray := prog_7_method_1_code
def yX5_init : MethodName := ⟨RX5, "<init>", "()V"⟩
abbrev cX5_size : ByteArray := prog_7_method_2_code
def yX5_size : MethodName := ⟨RX5, "size", "()I"⟩
abbrev cX5_isFull : ByteArray := prog_7_method_3_code
def yX5_isFull : MethodName := ⟨RX5, "isFull", "()Z"⟩
abbrev cX5_add : ByteArray := prog_7_method_4_code
def yX5_add : MethodName := ⟨RX5, "add", "(I)I"⟩
abbrev cX5_clear : ByteArray := prog_7_method_5_code
def yX5_clear : MethodName := ⟨RX5, "clear", "()V"⟩
abbrev cX5_rewind : ByteArray := prog_7_method_6_code
def yX5_rewind : MethodName := ⟨RX5, "rewind", "()V"⟩
abbrev cX5_place : ByteArray := prog_7_method_7_code
def yX5_place : MethodName := ⟨RX5, "place", "()I"⟩
abbrev cX5_haveMore : ByteArray := prog_7_method_8_code
def yX5_haveMore : MethodName := ⟨RX5, "haveMore", "()Z"⟩
abbrev cX5_areWellFormed : ByteArray := prog_7_method_9_code
def yX5_areWellFormed : MethodName := ⟨RX5, "areWellFormed", "()Z"⟩
abbrev cX5_next : ByteArray := prog_7_method_10_code
def yX5_next : MethodName := ⟨RX5, "next", "()I"⟩
abbrev cX5_nextDigit : ByteArray := prog_7_method_11_code
def yX5_nextDigit : MethodName := ⟨RX5, "nextDigit", "()I"⟩
abbrev cX5_nextName : ByteArray := prog_7_method_12_code
def yX5_nextName : MethodName := ⟨RX5, "nextName", "()I"⟩
abbrev cX5_readSaying : ByteArray := prog_7_method_13_code
def yX5_readSaying : MethodName := ⟨RX5, "readSaying", "(LSaidShorter$Saying;)V"⟩
abbrev cX5_here : ByteArray := prog_7_method_14_code
def yX5_here : MethodName := ⟨RX5, "here", "()I"⟩
abbrev cX5_passStatement : ByteArray := prog_7_method_15_code
def yX5_passStatement : MethodName := ⟨RX5, "passStatement", "()Z"⟩
abbrev cX5_passWithin : ByteArray := prog_7_method_16_code
def yX5_passWithin : MethodName := ⟨RX5, "passWithin", "(II)Z"⟩
abbrev cX5_passSaying : ByteArray := prog_7_method_17_code
def yX5_passSaying : MethodName := ⟨RX5, "passSaying", "()Z"⟩
def RX6 : String := "SaidShorter$Listener"
def TX6 : u_T := fun k => match k with
  | 0 => ("SaidShorter$Listener", "stranger", "LSaidShorter$Stranger;", false)
  | 1 => ("SaidShorter$Listener", "known", "[I", true)
  | _ => ("SaidShorter$Listener", "stack", "[I", true)
def tyX6 : Nat → FieldType := fun k => match k with
  | 0 => .object "SaidShorter$Stranger"
  | 1 => .array .int
  | _ => .array .int
abbrev wsX60 : List Cond := u_ws RX6 TX6 3
theorem nmX6 : ∀ a, a < 3 → ∀ b, b < 3 → a ≠ b → (TX6 a).2.1 ≠ (TX6 b).2.1 := by decide +kernel
theorem tyX6_ok : ∀ k, k < 3 → parseFieldDescriptor (TX6 k).2.2.1 = some (tyX6 k) := by decide +kernel
abbrev cX6_init : ByteArray := prog_8_method_1_code
def yX6_init : MethodName := ⟨RX6, "<init>", "()V"⟩
abbrev cX6_become : ByteArray := prog_8_method_2_code
def yX6_become : MethodName := ⟨RX6, "become", "(LSaidShorter$Stranger;[II)V"⟩
abbrev cX6_knowInMind : ByteArray := prog_8_method_3_code
def yX6_knowInMind : MethodName := ⟨RX6, "knowInMind", "(I)V"⟩
abbrev cX6_meaningOf : ByteArray := prog_8_method_4_code
def yX6_meaningOf : MethodName := ⟨RX6, "meaningOf", "(LSaidShorter$Saying;)I"⟩
abbrev cX6_hear : ByteArray := prog_8_method_5_code
def yX6_hear : MethodName := ⟨RX6, "hear", "(II)I"⟩
abbrev cX6_meaningOfLeaf : ByteArray := prog_8_method_6_code
def yX6_meaningOfLeaf : MethodName := ⟨RX6, "meaningOfLeaf", "(I)I"⟩
def RX7 : String := "SaidShorter$Saying"
def TX7 : u_T := fun k => match k with
  | 0 => ("SaidShorter$Saying", "words", "[I", true)
  | _ => ("SaidShorter$Saying", "length", "I", false)
def tyX7 : Nat → FieldType := fun k => match k with
  | 0 => .array .int
  | _ => .int
abbrev wsX70 : List Cond := u_ws RX7 TX7 2
theorem nmX7 : ∀ a, a < 2 → ∀ b, b < 2 → a ≠ b → (TX7 a).2.1 ≠ (TX7 b).2.1 := by decide +kernel
theorem tyX7_ok : ∀ k, k < 2 → parseFieldDescriptor (TX7 k).2.2.1 = some (tyX7 k) := by decide +kernel
abbrev cX7_init : ByteArray := prog_9_method_1_code
def yX7_init : MethodName := ⟨RX7, "<init>", "()V"⟩
abbrev cX7_partsOf : ByteArray := prog_9_method_2_code
def yX7_partsOf : MethodName := ⟨RX7, "partsOf", "(I)I"⟩
abbrev cX7_add : ByteArray := prog_9_method_3_code
def yX7_add : MethodName := ⟨RX7, "add", "(I)V"⟩
abbrev cX7_copy : ByteArray := prog_9_method_4_code
def yX7_copy : MethodName := ⟨RX7, "copy", "(LSaidShorter$Saying;)V"⟩
abbrev cX7_copyWithPartAlone : ByteArray := prog_9_method_5_code
def yX7_copyWithPartAlone : MethodName := ⟨RX7, "copyWithPartAlone", "(LSaidShorter$Saying;II)V"⟩
abbrev cX7_addFrom : ByteArray := prog_9_method_6_code
def yX7_addFrom : MethodName := ⟨RX7, "addFrom", "(LSaidShorter$Saying;II)V"⟩
abbrev cX7_behind : ByteArray := prog_9_method_7_code
def yX7_behind : MethodName := ⟨RX7, "behind", "(I)I"⟩
def RX8 : String := "SaidShorter$School"
def TX8 : u_T := fun k => match k with
  | 0 => ("SaidShorter$School", "strangers", "[LSaidShorter$Stranger;", true)
  | 1 => ("SaidShorter$School", "learnt", "[I", true)
  | 2 => ("SaidShorter$School", "strangerCount", "I", false)
  | 3 => ("SaidShorter$School", "sayings", "[LSaidShorter$Saying;", true)
  | 4 => ("SaidShorter$School", "scholarCount", "I", false)
  | _ => ("SaidShorter$School", "coined", "[I", true)
def tyX8 : Nat → FieldType := fun k => match k with
  | 0 => .array (.object "SaidShorter$Stranger")
  | 1 => .array .int
  | 2 => .int
  | 3 => .array (.object "SaidShorter$Saying")
  | 4 => .int
  | _ => .array .int
abbrev wsX80 : List Cond := u_ws RX8 TX8 6
theorem nmX8 : ∀ a, a < 6 → ∀ b, b < 6 → a ≠ b → (TX8 a).2.1 ≠ (TX8 b).2.1 := by decide +kernel
theorem tyX8_ok : ∀ k, k < 6 → parseFieldDescriptor (TX8 k).2.2.1 = some (tyX8 k) := by decide +kernel
abbrev cX8_init : ByteArray := prog_10_method_1_code
def yX8_init : MethodName := ⟨RX8, "<init>", "()V"⟩
abbrev cX8_copy : ByteArray := prog_10_method_2_code
def yX8_copy : MethodName := ⟨RX8, "copy", "(LSaidShorter$School;)V"⟩
abbrev cX8_addStranger : ByteArray := prog_10_method_3_code
def yX8_addStranger : MethodName := ⟨RX8, "addStranger", "(II)Z"⟩
abbrev cX8_addScholar : ByteArray := prog_10_method_4_code
def yX8_addScholar : MethodName := ⟨RX8, "addScholar", "(LSaidShorter$Saying;)Z"⟩
abbrev cX8_coinName : ByteArray := prog_10_method_5_code
def yX8_coinName : MethodName := ⟨RX8, "coinName", "(II)Z"⟩
abbrev cX8_turnLearnt : ByteArray := prog_10_method_6_code
def yX8_turnLearnt : MethodName := ⟨RX8, "turnLearnt", "(II)Z"⟩
abbrev cX8_coinedCount : ByteArray := prog_10_method_7_code
def yX8_coinedCount : MethodName := ⟨RX8, "coinedCount", "()I"⟩
abbrev cX8_lengths : ByteArray := prog_10_method_8_code
def yX8_lengths : MethodName := ⟨RX8, "lengths", "()I"⟩
def RX9 : String := "SaidShorter$Sly"
def TX9 : u_T := fun k => match k with
  | _ => ("SaidShorter$Stranger", "figure", "I", true)
def tyX9 : Nat → FieldType := fun k => match k with
  | _ => .int
abbrev wsX90 : List Cond := u_ws RX9 TX9 1
theorem nmX9 : ∀ a, a < 1 → ∀ b, b < 1 → a ≠ b → (TX9 a).2.1 ≠ (TX9 b).2.1 := by decide +kernel
theorem tyX9_ok : ∀ k, k < 1 → parseFieldDescriptor (TX9 k).2.2.1 = some (tyX9 k) := by decide +kernel
abbrev cX9_init : ByteArray := prog_11_method_1_code
def yX9_init : MethodName := ⟨RX9, "<init>", "(I)V"⟩
abbrev cX9_kind : ByteArray := prog_11_method_2_code
def yX9_kind : MethodName := ⟨RX9, "kind", "()I"⟩
abbrev cX9_or : ByteArray := prog_11_method_3_code
def yX9_or : MethodName := ⟨RX9, "or", "(II)I"⟩
def RX10 : String := "SaidShorter$Stranger"
def TX10 : u_T := fun k => match k with
  | _ => ("SaidShorter$Stranger", "figure", "I", true)
def tyX10 : Nat → FieldType := fun k => match k with
  | _ => .int
abbrev wsX100 : List Cond := u_ws RX10 TX10 1
theorem nmX10 : ∀ a, a < 1 → ∀ b, b < 1 → a ≠ b → (TX10 a).2.1 ≠ (TX10 b).2.1 := by decide +kernel
theorem tyX10_ok : ∀ k, k < 1 → parseFieldDescriptor (TX10 k).2.2.1 = some (tyX10 k) := by decide +kernel
abbrev cX10_init : ByteArray := prog_12_method_1_code
def yX10_init : MethodName := ⟨RX10, "<init>", "(I)V"⟩
abbrev cX10_ofKind : ByteArray := prog_12_method_2_code
def yX10_ofKind : MethodName := ⟨RX10, "ofKind", "(II)LSaidShorter$Stranger;"⟩
abbrev cX10_kind : ByteArray := prog_12_method_3_code
def yX10_kind : MethodName := ⟨RX10, "kind", "()I"⟩
abbrev cX10_not : ByteArray := prog_12_method_4_code
def yX10_not : MethodName := ⟨RX10, "not", "(I)I"⟩
abbrev cX10_and : ByteArray := prog_12_method_5_code
def yX10_and : MethodName := ⟨RX10, "and", "(II)I"⟩
abbrev cX10_andHasSides : ByteArray := prog_12_method_6_code
def yX10_andHasSides : MethodName := ⟨RX10, "andHasSides", "()Z"⟩
abbrev cX10_or : ByteArray := prog_12_method_7_code
def yX10_or : MethodName := ⟨RX10, "or", "(II)I"⟩
abbrev cX10_worldOfFigure : ByteArray := prog_12_method_8_code
def yX10_worldOfFigure : MethodName := ⟨RX10, "worldOfFigure", "()I"⟩
def RX11 : String := "SaidShorter"
def TX11 : u_T := fun k => match k with
  | 0 => ("SaidShorter", "letters", "LSaidShorter$Letters;", true)
  | 1 => ("SaidShorter", "now", "LSaidShorter$School;", false)
  | 2 => ("SaidShorter", "trial", "LSaidShorter$School;", false)
  | 3 => ("SaidShorter", "kept", "LSaidShorter$School;", true)
  | 4 => ("SaidShorter", "isKept", "Z", false)
  | 5 => ("SaidShorter", "told", "[I", true)
  | 6 => ("SaidShorter", "toldCount", "I", false)
  | 7 => ("SaidShorter", "refusals", "[I", true)
  | 8 => ("SaidShorter", "plain", "LSaidShorter$Stranger;", true)
  | 9 => ("SaidShorter", "listener", "LSaidShorter$Listener;", true)
  | 10 => ("SaidShorter", "concluded", "[I", true)
  | 11 => ("SaidShorter", "fewestOf", "[LSaidShorter$Fewest;", true)
  | 12 => ("SaidShorter", "fewestThen", "LSaidShorter$Fewest;", true)
  | 13 => ("SaidShorter", "scratch", "LSaidShorter$Saying;", true)
  | _ => ("SaidShorter", "seed", "I", false)
def tyX11 : Nat → FieldType := fun k => match k with
  | 0 => .object "SaidShorter$Letters"
  | 1 => .object "SaidShorter$School"
  | 2 => .object "SaidShorter$School"
  | 3 => .object "SaidShorter$School"
  | 4 => .boolean
  | 5 => .array .int
  | 6 => .int
  | 7 => .array .int
  | 8 => .object "SaidShorter$Stranger"
  | 9 => .object "SaidShorter$Listener"
  | 10 => .array .int
  | 11 => .array (.object "SaidShorter$Fewest")
  | 12 => .object "SaidShorter$Fewest"
  | 13 => .object "SaidShorter$Saying"
  | _ => .int
abbrev wsX110 : List Cond := u_ws RX11 TX11 15
theorem nmX11 : ∀ a, a < 15 → ∀ b, b < 15 → a ≠ b → (TX11 a).2.1 ≠ (TX11 b).2.1 := by decide +kernel
theorem tyX11_ok : ∀ k, k < 15 → parseFieldDescriptor (TX11 k).2.2.1 = some (tyX11 k) := by decide +kernel
abbrev cX11_init : ByteArray := prog_1_method_1_code
def yX11_init : MethodName := ⟨RX11, "<init>", "()V"⟩
abbrev cX11_feed : ByteArray := prog_1_method_2_code
def yX11_feed : MethodName := ⟨RX11, "feed", "(I)I"⟩
abbrev cX11_school : ByteArray := prog_1_method_3_code
def yX11_school : MethodName := ⟨RX11, "school", "()I"⟩
abbrev cX11_stranger : ByteArray := prog_1_method_4_code
def yX11_stranger : MethodName := ⟨RX11, "stranger", "(II)I"⟩
abbrev cX11_learn : ByteArray := prog_1_method_5_code
def yX11_learn : MethodName := ⟨RX11, "learn", "(III)I"⟩
abbrev cX11_name : ByteArray := prog_1_method_6_code
def yX11_name : MethodName := ⟨RX11, "name", "(I)I"⟩
abbrev cX11_coin : ByteArray := prog_1_method_7_code
def yX11_coin : MethodName := ⟨RX11, "coin", "(II)I"⟩
abbrev cX11_saying : ByteArray := prog_1_method_8_code
def yX11_saying : MethodName := ⟨RX11, "saying", "(II)I"⟩
abbrev cX11_leave : ByteArray := prog_1_method_9_code
def yX11_leave : MethodName := ⟨RX11, "leave", "()I"⟩
abbrev cX11_concludes : ByteArray := prog_1_method_10_code
def yX11_concludes : MethodName := ⟨RX11, "concludes", "(II)I"⟩
abbrev cX11_parts : ByteArray := prog_1_method_11_code
def yX11_parts : MethodName := ⟨RX11, "parts", "(III)I"⟩
abbrev cX11_won : ByteArray := prog_1_method_12_code
def yX11_won : MethodName := ⟨RX11, "won", "(II)I"⟩
abbrev cX11_masters : ByteArray := prog_1_method_13_code
def yX11_masters : MethodName := ⟨RX11, "masters", "(I)I"⟩
abbrev cX11_shortest : ByteArray := prog_1_method_14_code
def yX11_shortest : MethodName := ⟨RX11, "shortest", "(II)I"⟩
abbrev cX11_cut : ByteArray := prog_1_method_15_code
def yX11_cut : MethodName := ⟨RX11, "cut", "(II)I"⟩
abbrev cX11_many : ByteArray := prog_1_method_16_code
def yX11_many : MethodName := ⟨RX11, "many", "(II)I"⟩
abbrev cX11_farthest : ByteArray := prog_1_method_17_code
def yX11_farthest : MethodName := ⟨RX11, "farthest", "(II)I"⟩
abbrev cX11_saves : ByteArray := prog_1_method_18_code
def yX11_saves : MethodName := ⟨RX11, "saves", "(II)I"⟩
abbrev cX11_joined : ByteArray := prog_1_method_19_code
def yX11_joined : MethodName := ⟨RX11, "joined", "(III)I"⟩
abbrev cX11_drops : ByteArray := prog_1_method_20_code
def yX11_drops : MethodName := ⟨RX11, "drops", "(III)I"⟩
abbrev cX11_heard : ByteArray := prog_1_method_21_code
def yX11_heard : MethodName := ⟨RX11, "heard", "(IIII)I"⟩
abbrev cX11_unlike : ByteArray := prog_1_method_22_code
def yX11_unlike : MethodName := ⟨RX11, "unlike", "(I)I"⟩
abbrev cX11_agree : ByteArray := prog_1_method_23_code
def yX11_agree : MethodName := ⟨RX11, "agree", "()I"⟩
abbrev cX11_row : ByteArray := prog_1_method_24_code
def yX11_row : MethodName := ⟨RX11, "row", "(I)I"⟩
abbrev cX11_judge : ByteArray := prog_1_method_25_code
def yX11_judge : MethodName := ⟨RX11, "judge", "(I)I"⟩
abbrev cX11_seeds : ByteArray := prog_1_method_26_code
def yX11_seeds : MethodName := ⟨RX11, "seeds", "(IIII)I"⟩
abbrev cX11_image : ByteArray := prog_1_method_27_code
def yX11_image : MethodName := ⟨RX11, "image", "()I"⟩
abbrev cX11_restore : ByteArray := prog_1_method_28_code
def yX11_restore : MethodName := ⟨RX11, "restore", "()I"⟩
abbrev cX11_count : ByteArray := prog_1_method_29_code
def yX11_count : MethodName := ⟨RX11, "count", "(I)I"⟩
abbrev cX11_refusalsCounted : ByteArray := prog_1_method_30_code
def yX11_refusalsCounted : MethodName := ⟨RX11, "refusalsCounted", "(I)I"⟩
abbrev cX11_refused : ByteArray := prog_1_method_31_code
def yX11_refused : MethodName := ⟨RX11, "refused", "(I)I"⟩
abbrev cX11_refusedFarOff : ByteArray := prog_1_method_32_code
def yX11_refusedFarOff : MethodName := ⟨RX11, "refusedFarOff", "(I)I"⟩
abbrev cX11_noStranger : ByteArray := prog_1_method_33_code
def yX11_noStranger : MethodName := ⟨RX11, "noStranger", "(I)Z"⟩
abbrev cX11_noListener : ByteArray := prog_1_method_34_code
def yX11_noListener : MethodName := ⟨RX11, "noListener", "(I)Z"⟩
abbrev cX11_noScholar : ByteArray := prog_1_method_35_code
def yX11_noScholar : MethodName := ⟨RX11, "noScholar", "(I)Z"⟩
abbrev cX11_noName : ByteArray := prog_1_method_36_code
def yX11_noName : MethodName := ⟨RX11, "noName", "(I)Z"⟩
abbrev cX11_listenAs : ByteArray := prog_1_method_37_code
def yX11_listenAs : MethodName := ⟨RX11, "listenAs", "(I)V"⟩
abbrev cX11_meaningOf : ByteArray := prog_1_method_38_code
def yX11_meaningOf : MethodName := ⟨RX11, "meaningOf", "(I)I"⟩
abbrev cX11_concludeAllAs : ByteArray := prog_1_method_39_code
def yX11_concludeAllAs : MethodName := ⟨RX11, "concludeAllAs", "(I)V"⟩
abbrev cX11_beats : ByteArray := prog_1_method_40_code
def yX11_beats : MethodName := ⟨RX11, "beats", "(II)Z"⟩
abbrev cX11_isBeaten : ByteArray := prog_1_method_41_code
def yX11_isBeaten : MethodName := ⟨RX11, "isBeaten", "(I)Z"⟩
abbrev cX11_fewestFor : ByteArray := prog_1_method_42_code
def yX11_fewestFor : MethodName := ⟨RX11, "fewestFor", "(I)LSaidShorter$Fewest;"⟩
abbrev cX11_wordsSavedBy : ByteArray := prog_1_method_43_code
def yX11_wordsSavedBy : MethodName := ⟨RX11, "wordsSavedBy", "(ILSaidShorter$Fewest;)I"⟩
abbrev cX11_isConcludedBefore : ByteArray := prog_1_method_44_code
def yX11_isConcludedBefore : MethodName := ⟨RX11, "isConcludedBefore", "(II)Z"⟩
abbrev cX11_concludeAlike : ByteArray := prog_1_method_45_code
def yX11_concludeAlike : MethodName := ⟨RX11, "concludeAlike", "(II)Z"⟩
abbrev cX11_drawSaying : ByteArray := prog_1_method_46_code
def yX11_drawSaying : MethodName := ⟨RX11, "drawSaying", "(I)V"⟩
abbrev cX11_drawBelow : ByteArray := prog_1_method_47_code
def yX11_drawBelow : MethodName := ⟨RX11, "drawBelow", "(I)I"⟩
abbrev cX11_tellAll : ByteArray := prog_1_method_48_code
def yX11_tellAll : MethodName := ⟨RX11, "tellAll", "()I"⟩
abbrev cX11_tellStatement : ByteArray := prog_1_method_49_code
def yX11_tellStatement : MethodName := ⟨RX11, "tellStatement", "()Z"⟩
def RX12 : String := "SaidShorterModel"
def TX12 : u_T := fun k => match k with
  | 0 => ("SaidShorterModel", "refused", "[I", true)
  | 1 => ("SaidShorterModel", "kind", "[I", true)
  | 2 => ("SaidShorterModel", "figure", "[I", true)
  | 3 => ("SaidShorterModel", "learnt", "[I", true)
  | 4 => ("SaidShorterModel", "meaningOf", "[I", true)
  | 5 => ("SaidShorterModel", "size", "[I", true)
  | 6 => ("SaidShorterModel", "word", "[I", true)
  | 7 => ("SaidShorterModel", "strangers", "I", false)
  | 8 => ("SaidShorterModel", "scholars", "I", false)
  | 9 => ("SaidShorterModel", "tape", "[I", true)
  | 10 => ("SaidShorterModel", "letter", "[I", true)
  | 11 => ("SaidShorterModel", "letterAt", "[I", true)
  | 12 => ("SaidShorterModel", "told", "[I", true)
  | 13 => ("SaidShorterModel", "from", "[I", true)
  | 14 => ("SaidShorterModel", "till", "[I", true)
  | 15 => ("SaidShorterModel", "taped", "I", false)
  | 16 => ("SaidShorterModel", "at", "I", false)
  | 17 => ("SaidShorterModel", "statements", "I", false)
  | 18 => ("SaidShorterModel", "kept", "[I", true)
  | 19 => ("SaidShorterModel", "hasImage", "Z", false)
  | 20 => ("SaidShorterModel", "isKeeping", "Z", false)
  | 21 => ("SaidShorterModel", "cursor", "I", false)
  | 22 => ("SaidShorterModel", "table", "[I", true)
  | 23 => ("SaidShorterModel", "pile", "[I", true)
  | 24 => ("SaidShorterModel", "tableSize", "I", false)
  | 25 => ("SaidShorterModel", "cost", "[I", true)
  | 26 => ("SaidShorterModel", "isLess", "Z", false)
  | 27 => ("SaidShorterModel", "now", "[I", true)
  | 28 => ("SaidShorterModel", "dropMany", "I", false)
  | 29 => ("SaidShorterModel", "dropLeast", "I", false)
  | 30 => ("SaidShorterModel", "row", "[I", true)
  | 31 => ("SaidShorterModel", "rowMany", "I", false)
  | _ => ("SaidShorterModel", "lots", "I", false)
def tyX12 : Nat → FieldType := fun k => match k with
  | 0 => .array .int
  | 1 => .array .int
  | 2 => .array .int
  | 3 => .array .int
  | 4 => .array .int
  | 5 => .array .int
  | 6 => .array .int
  | 7 => .int
  | 8 => .int
  | 9 => .array .int
  | 10 => .array .int
  | 11 => .array .int
  | 12 => .array .int
  | 13 => .array .int
  | 14 => .array .int
  | 15 => .int
  | 16 => .int
  | 17 => .int
  | 18 => .array .int
  | 19 => .boolean
  | 20 => .boolean
  | 21 => .int
  | 22 => .array .int
  | 23 => .array .int
  | 24 => .int
  | 25 => .array .int
  | 26 => .boolean
  | 27 => .array .int
  | 28 => .int
  | 29 => .int
  | 30 => .array .int
  | 31 => .int
  | _ => .int
abbrev wsX120 : List Cond := u_ws RX12 TX12 33
theorem nmX12 : ∀ a, a < 33 → ∀ b, b < 33 → a ≠ b → (TX12 a).2.1 ≠ (TX12 b).2.1 := by decide +kernel
theorem tyX12_ok : ∀ k, k < 33 → parseFieldDescriptor (TX12 k).2.2.1 = some (tyX12 k) := by decide +kernel
abbrev cX12_init : ByteArray := prog_14_method_1_code
def yX12_init : MethodName := ⟨RX12, "<init>", "()V"⟩
abbrev cX12_no : ByteArray := prog_14_method_2_code
def yX12_no : MethodName := ⟨RX12, "no", "(I)I"⟩
abbrev cX12_lower : ByteArray := prog_14_method_3_code
def yX12_lower : MethodName := ⟨RX12, "lower", "(I)I"⟩
abbrev cX12_isIn : ByteArray := prog_14_method_4_code
def yX12_isIn : MethodName := ⟨RX12, "isIn", "(III)Z"⟩
abbrev cX12_bound : ByteArray := prog_14_method_5_code
def yX12_bound : MethodName := ⟨RX12, "bound", "(III)I"⟩
abbrev cX12_isWho : ByteArray := prog_14_method_6_code
def yX12_isWho : MethodName := ⟨RX12, "isWho", "(I)Z"⟩
abbrev cX12_isStranger : ByteArray := prog_14_method_7_code
def yX12_isStranger : MethodName := ⟨RX12, "isStranger", "(I)Z"⟩
abbrev cX12_isScholar : ByteArray := prog_14_method_8_code
def yX12_isScholar : MethodName := ⟨RX12, "isScholar", "(I)Z"⟩
abbrev cX12_isName : ByteArray := prog_14_method_9_code
def yX12_isName : MethodName := ⟨RX12, "isName", "(I)Z"⟩
abbrev cX12_feed : ByteArray := prog_14_method_10_code
def yX12_feed : MethodName := ⟨RX12, "feed", "(I)I"⟩
abbrev cX12_next : ByteArray := prog_14_method_11_code
def yX12_next : MethodName := ⟨RX12, "next", "()I"⟩
abbrev cX12_wordOf : ByteArray := prog_14_method_12_code
def yX12_wordOf : MethodName := ⟨RX12, "wordOf", "(I)I"⟩
abbrev cX12_readsDigit : ByteArray := prog_14_method_13_code
def yX12_readsDigit : MethodName := ⟨RX12, "readsDigit", "(I)Z"⟩
abbrev cX12_readsName : ByteArray := prog_14_method_14_code
def yX12_readsName : MethodName := ⟨RX12, "readsName", "(I)Z"⟩
abbrev cX12_readsSaying : ByteArray := prog_14_method_15_code
def yX12_readsSaying : MethodName := ⟨RX12, "readsSaying", "()Z"⟩
abbrev cX12_readsAll : ByteArray := prog_14_method_16_code
def yX12_readsAll : MethodName := ⟨RX12, "readsAll", "(II)Z"⟩
abbrev cX12_statement : ByteArray := prog_14_method_17_code
def yX12_statement : MethodName := ⟨RX12, "statement", "()Z"⟩
abbrev cX12_lays : ByteArray := prog_14_method_18_code
def yX12_lays : MethodName := ⟨RX12, "lays", "(I)V"⟩
abbrev cX12_comes : ByteArray := prog_14_method_19_code
def yX12_comes : MethodName := ⟨RX12, "comes", "(I)Z"⟩
abbrev cX12_school : ByteArray := prog_14_method_20_code
def yX12_school : MethodName := ⟨RX12, "school", "()I"⟩
abbrev cX12_passes : ByteArray := prog_14_method_21_code
def yX12_passes : MethodName := ⟨RX12, "passes", "([I)V"⟩
abbrev cX12_passOne : ByteArray := prog_14_method_22_code
def yX12_passOne : MethodName := ⟨RX12, "passOne", "(I)I"⟩
abbrev cX12_passesAll : ByteArray := prog_14_method_23_code
def yX12_passesAll : MethodName := ⟨RX12, "passesAll", "(IZ)V"⟩
abbrev cX12_image : ByteArray := prog_14_method_24_code
def yX12_image : MethodName := ⟨RX12, "image", "()I"⟩
abbrev cX12_restore : ByteArray := prog_14_method_25_code
def yX12_restore : MethodName := ⟨RX12, "restore", "()I"⟩
abbrev cX12_kindOf : ByteArray := prog_14_method_26_code
def yX12_kindOf : MethodName := ⟨RX12, "kindOf", "(I)I"⟩
abbrev cX12_worldOf : ByteArray := prog_14_method_27_code
def yX12_worldOf : MethodName := ⟨RX12, "worldOf", "(I)I"⟩
abbrev cX12_learntBy : ByteArray := prog_14_method_28_code
def yX12_learntBy : MethodName := ⟨RX12, "learntBy", "(I)I"⟩
abbrev cX12_notOf : ByteArray := prog_14_method_29_code
def yX12_notOf : MethodName := ⟨RX12, "notOf", "(II)I"⟩
abbrev cX12_andOf : ByteArray := prog_14_method_30_code
def yX12_andOf : MethodName := ⟨RX12, "andOf", "(III)I"⟩
abbrev cX12_orOf : ByteArray := prog_14_method_31_code
def yX12_orOf : MethodName := ⟨RX12, "orOf", "(III)I"⟩
abbrev cX12_nameTo : ByteArray := prog_14_method_32_code
def yX12_nameTo : MethodName := ⟨RX12, "nameTo", "(II)I"⟩
abbrev cX12_factOrName : ByteArray := prog_14_method_33_code
def yX12_factOrName : MethodName := ⟨RX12, "factOrName", "(II)I"⟩
abbrev cX12_concluded : ByteArray := prog_14_method_34_code
def yX12_concluded : MethodName := ⟨RX12, "concluded", "(I)I"⟩
abbrev cX12_laysSaying : ByteArray := prog_14_method_35_code
def yX12_laysSaying : MethodName := ⟨RX12, "laysSaying", "(I)V"⟩
abbrev cX12_concludedFrom : ByteArray := prog_14_method_36_code
def yX12_concludedFrom : MethodName := ⟨RX12, "concludedFrom", "(II)I"⟩
abbrev cX12_stranger : ByteArray := prog_14_method_37_code
def yX12_stranger : MethodName := ⟨RX12, "stranger", "(II)I"⟩
abbrev cX12_learn : ByteArray := prog_14_method_38_code
def yX12_learn : MethodName := ⟨RX12, "learn", "(III)I"⟩
abbrev cX12_name : ByteArray := prog_14_method_39_code
def yX12_name : MethodName := ⟨RX12, "name", "(I)I"⟩
abbrev cX12_coin : ByteArray := prog_14_method_40_code
def yX12_coin : MethodName := ⟨RX12, "coin", "(II)I"⟩
abbrev cX12_saying : ByteArray := prog_14_method_41_code
def yX12_saying : MethodName := ⟨RX12, "saying", "(II)I"⟩
abbrev cX12_leave : ByteArray := prog_14_method_42_code
def yX12_leave : MethodName := ⟨RX12, "leave", "()I"⟩
abbrev cX12_concludes : ByteArray := prog_14_method_43_code
def yX12_concludes : MethodName := ⟨RX12, "concludes", "(II)I"⟩
abbrev cX12_parts : ByteArray := prog_14_method_44_code
def yX12_parts : MethodName := ⟨RX12, "parts", "(III)I"⟩
abbrev cX12_doesBeat : ByteArray := prog_14_method_45_code
def yX12_doesBeat : MethodName := ⟨RX12, "doesBeat", "(III)Z"⟩
abbrev cX12_won : ByteArray := prog_14_method_46_code
def yX12_won : MethodName := ⟨RX12, "won", "(II)I"⟩
abbrev cX12_masters : ByteArray := prog_14_method_47_code
def yX12_masters : MethodName := ⟨RX12, "masters", "(I)I"⟩
abbrev cX12_lowers : ByteArray := prog_14_method_48_code
def yX12_lowers : MethodName := ⟨RX12, "lowers", "(II)V"⟩
abbrev cX12_goesOn : ByteArray := prog_14_method_49_code
def yX12_goesOn : MethodName := ⟨RX12, "goesOn", "(I)V"⟩
abbrev cX12_findShortest : ByteArray := prog_14_method_50_code
def yX12_findShortest : MethodName := ⟨RX12, "findShortest", "(II)V"⟩
abbrev cX12_shortestOf : ByteArray := prog_14_method_51_code
def yX12_shortestOf : MethodName := ⟨RX12, "shortestOf", "(I)I"⟩
abbrev cX12_shortest : ByteArray := prog_14_method_52_code
def yX12_shortest : MethodName := ⟨RX12, "shortest", "(II)I"⟩
abbrev cX12_cut : ByteArray := prog_14_method_53_code
def yX12_cut : MethodName := ⟨RX12, "cut", "(II)I"⟩
abbrev cX12_many : ByteArray := prog_14_method_54_code
def yX12_many : MethodName := ⟨RX12, "many", "(II)I"⟩
abbrev cX12_farthest : ByteArray := prog_14_method_55_code
def yX12_farthest : MethodName := ⟨RX12, "farthest", "(II)I"⟩
abbrev cX12_saves : ByteArray := prog_14_method_56_code
def yX12_saves : MethodName := ⟨RX12, "saves", "(II)I"⟩
abbrev cX12_joined : ByteArray := prog_14_method_57_code
def yX12_joined : MethodName := ⟨RX12, "joined", "(III)I"⟩
abbrev cX12_behind : ByteArray := prog_14_method_58_code
def yX12_behind : MethodName := ⟨RX12, "behind", "(II)I"⟩
abbrev cX12_laysBut : ByteArray := prog_14_method_59_code
def yX12_laysBut : MethodName := ⟨RX12, "laysBut", "(IIII)V"⟩
abbrev cX12_tells : ByteArray := prog_14_method_60_code
def yX12_tells : MethodName := ⟨RX12, "tells", "(II)V"⟩
abbrev cX12_drops : ByteArray := prog_14_method_61_code
def yX12_drops : MethodName := ⟨RX12, "drops", "(III)I"⟩
abbrev cX12_isAlike : ByteArray := prog_14_method_62_code
def yX12_isAlike : MethodName := ⟨RX12, "isAlike", "(II)Z"⟩
abbrev cX12_heard : ByteArray := prog_14_method_63_code
def yX12_heard : MethodName := ⟨RX12, "heard", "(IIII)I"⟩
abbrev cX12_unlike : ByteArray := prog_14_method_64_code
def yX12_unlike : MethodName := ⟨RX12, "unlike", "(I)I"⟩
abbrev cX12_doAgree : ByteArray := prog_14_method_65_code
def yX12_doAgree : MethodName := ⟨RX12, "doAgree", "(II)Z"⟩
abbrev cX12_agree : ByteArray := prog_14_method_66_code
def yX12_agree : MethodName := ⟨RX12, "agree", "()I"⟩
abbrev cX12_row : ByteArray := prog_14_method_67_code
def yX12_row : MethodName := ⟨RX12, "row", "(I)I"⟩
abbrev cX12_judge : ByteArray := prog_14_method_68_code
def yX12_judge : MethodName := ⟨RX12, "judge", "(I)I"⟩
abbrev cX12_draw : ByteArray := prog_14_method_69_code
def yX12_draw : MethodName := ⟨RX12, "draw", "(I)I"⟩
abbrev cX12_draws : ByteArray := prog_14_method_70_code
def yX12_draws : MethodName := ⟨RX12, "draws", "()V"⟩
abbrev cX12_seeds : ByteArray := prog_14_method_71_code
def yX12_seeds : MethodName := ⟨RX12, "seeds", "(IIII)I"⟩
abbrev cX12_count : ByteArray := prog_14_method_72_code
def yX12_count : MethodName := ⟨RX12, "count", "(I)I"⟩
def RJ9 : String := "java/lang/Math"
def TJ9 : u_T := fun k => match k with
  | _ => ("", "", "", false)
def tyJ9 : Nat → FieldType := fun k => match k with
  | _ => .int
abbrev wsJ90 : List Cond := u_ws RJ9 TJ9 0
theorem nmJ9 : ∀ a, a < 0 → ∀ b, b < 0 → a ≠ b → (TJ9 a).2.1 ≠ (TJ9 b).2.1 := by decide +kernel
theorem tyJ9_ok : ∀ k, k < 0 → parseFieldDescriptor (TJ9 k).2.2.1 = some (tyJ9 k) := by decide +kernel
abbrev cJ9_min_7cf53 : ByteArray := prog_15_method_69_code
def yJ9_min_7cf53 : MethodName := ⟨RJ9, "min", "(II)I"⟩
def RJ10 : String := "java/lang/System"
def TJ10 : u_T := fun k => match k with
  | _ => ("", "", "", false)
def tyJ10 : Nat → FieldType := fun k => match k with
  | _ => .int
abbrev wsJ100 : List Cond := u_ws RJ10 TJ10 0
theorem nmJ10 : ∀ a, a < 0 → ∀ b, b < 0 → a ≠ b → (TJ10 a).2.1 ≠ (TJ10 b).2.1 := by decide +kernel
theorem tyJ10_ok : ∀ k, k < 0 → parseFieldDescriptor (TJ10 k).2.2.1 = some (tyJ10 k) := by decide +kernel
def RJ7 : String := "java/util/Arrays"
def TJ7 : u_T := fun k => match k with
  | _ => ("", "", "", false)
def tyJ7 : Nat → FieldType := fun k => match k with
  | _ => .int
abbrev wsJ70 : List Cond := u_ws RJ7 TJ7 0
theorem nmJ7 : ∀ a, a < 0 → ∀ b, b < 0 → a ≠ b → (TJ7 a).2.1 ≠ (TJ7 b).2.1 := by decide +kernel
theorem tyJ7_ok : ∀ k, k < 0 → parseFieldDescriptor (TJ7 k).2.2.1 = some (tyJ7 k) := by decide +kernel
abbrev cJ7_fill_53178 : ByteArray := prog_17_method_103_code
def yJ7_fill_53178 : MethodName := ⟨RJ7, "fill", "([II)V"⟩
def RL : String := "SaidShorterLaw"
abbrev cL_law : ByteArray := code
def yL_law : MethodName := ⟨RL, "law", "([I)Z"⟩
abbrev vwCl : List vw_C := [(RX0, TX0, 1), (RX1, TX1, 1), (RX2, TX2, 1), (RX3, TX3, 8), (RX4, TX4, 1), (RX5, TX5, 3), (RX6, TX6, 3), (RX7, TX7, 2), (RX8, TX8, 6), (RX9, TX9, 1), (RX10, TX10, 1), (RX11, TX11, 15), (RX12, TX12, 33)]
end
section
theorem dX0_init_0 : decode cX0_init 0 = .ok (.aload_n 0, 1) := by decide +kernel
theorem dX0_init_1 : decode cX0_init 1 = .ok (.iload_n 1, 1) := by decide +kernel
theorem dX0_init_2 : decode cX0_init 2 = .ok (.invokespecial 1, 3) := by decide +kernel
theorem dX0_init_5 : decode cX0_init 5 = .ok (.return_, 1) := by decide +kernel
theorem dX0_kind_0 : decode cX0_kind 0 = .ok (.iconst 3, 1) := by decide +kernel
theorem dX0_kind_1 : decode cX0_kind 1 = .ok (.ireturn, 1) := by decide +kernel
theorem dX0_and_0 : decode cX0_and 0 = .ok (.iload_n 1, 1) := by decide +kernel
theorem dX0_and_1 : decode cX0_and 1 = .ok (.iload_n 2, 1) := by decide +kernel
theorem dX0_and_2 : decode cX0_and 2 = .ok (.iconst (-1), 1) := by decide +kernel
theorem dX0_and_3 : decode cX0_and 3 = .ok (.ixor, 1) := by decide +kernel
theorem dX0_and_4 : decode cX0_and 4 = .ok (.iand, 1) := by decide +kernel
theorem dX0_and_5 : decode cX0_and 5 = .ok (.ireturn, 1) := by decide +kernel
theorem dX0_andHasSides_0 : decode cX0_andHasSides 0 = .ok (.iconst 1, 1) := by decide +kernel
theorem dX0_andHasSides_1 : decode cX0_andHasSides 1 = .ok (.ireturn, 1) := by decide +kernel
theorem dX1_init_0 : decode cX1_init 0 = .ok (.aload_n 0, 1) := by decide +kernel
theorem dX1_init_1 : decode cX1_init 1 = .ok (.iload_n 1, 1) := by decide +kernel
theorem dX1_init_2 : decode cX1_init 2 = .ok (.invokespecial 1, 3) := by decide +kernel
theorem dX1_init_5 : decode cX1_init 5 = .ok (.return_, 1) := by decide +kernel
theorem dX1_kind_0 : decode cX1_kind 0 = .ok (.iconst 2, 1) := by decide +kernel
theorem dX1_kind_1 : decode cX1_kind 1 = .ok (.ireturn, 1) := by decide +kernel
theorem dX1_not_0 : decode cX1_not 0 = .ok (.iload_n 1, 1) := by decide +kernel
theorem dX1_not_1 : decode cX1_not 1 = .ok (.ireturn, 1) := by decide +kernel
theorem dX2_init_0 : decode cX2_init 0 = .ok (.aload_n 0, 1) := by decide +kernel
theorem dX2_init_1 : decode cX2_init 1 = .ok (.iload_n 1, 1) := by decide +kernel
theorem dX2_init_2 : decode cX2_init 2 = .ok (.invokespecial 1, 3) := by decide +kernel
theorem dX2_init_5 : decode cX2_init 5 = .ok (.return_, 1) := by decide +kernel
theorem dX2_kind_0 : decode cX2_kind 0 = .ok (.iconst 5, 1) := by decide +kernel
theorem dX2_kind_1 : decode cX2_kind 1 = .ok (.ireturn, 1) := by decide +kernel
theorem dX2_not_0 : decode cX2_not 0 = .ok (.aload_n 0, 1) := by decide +kernel
theorem dX2_not_1 : decode cX2_not 1 = .ok (.iload_n 1, 1) := by decide +kernel
theorem dX2_not_2 : decode cX2_not 2 = .ok (.invokespecial 7, 3) := by decide +kernel
theorem dX2_not_5 : decode cX2_not 5 = .ok (.aload_n 0, 1) := by decide +kernel
theorem dX2_not_6 : decode cX2_not 6 = .ok (.invokevirtual 11, 3) := by decide +kernel
theorem dX2_not_9 : decode cX2_not 9 = .ok (.iconst (-1), 1) := by decide +kernel
theorem dX2_not_10 : decode cX2_not 10 = .ok (.ixor, 1) := by decide +kernel
theorem dX2_not_11 : decode cX2_not 11 = .ok (.iand, 1) := by decide +kernel
theorem dX2_not_12 : decode cX2_not 12 = .ok (.ireturn, 1) := by decide +kernel
theorem dX3_init_0 : decode cX3_init 0 = .ok (.aload_n 0, 1) := by decide +kernel
theorem dX3_init_1 : decode cX3_init 1 = .ok (.invokespecial 3, 3) := by decide +kernel
theorem dX3_init_4 : decode cX3_init 4 = .ok (.aload_n 0, 1) := by decide +kernel
theorem dX3_init_5 : decode cX3_init 5 = .ok (.aconst_null, 1) := by decide +kernel
theorem dX3_init_6 : decode cX3_init 6 = .ok (.putfield 9, 3) := by decide +kernel
theorem dX3_init_9 : decode cX3_init 9 = .ok (.aload_n 0, 1) := by decide +kernel
theorem dX3_init_10 : decode cX3_init 10 = .ok (.iconst 5, 1) := by decide +kernel
theorem dX3_init_11 : decode cX3_init 11 = .ok (.newarray .int, 2) := by decide +kernel
theorem dX3_init_13 : decode cX3_init 13 = .ok (.putfield 15, 3) := by decide +kernel
theorem dX3_init_16 : decode cX3_init 16 = .ok (.aload_n 0, 1) := by decide +kernel
theorem dX3_init_17 : decode cX3_init 17 = .ok (.sipush 256, 3) := by decide +kernel
theorem dX3_init_20 : decode cX3_init 20 = .ok (.newarray .int, 2) := by decide +kernel
theorem dX3_init_22 : decode cX3_init 22 = .ok (.putfield 19, 3) := by decide +kernel
theorem dX3_init_25 : decode cX3_init 25 = .ok (.aload_n 0, 1) := by decide +kernel
theorem dX3_init_26 : decode cX3_init 26 = .ok (.sipush 256, 3) := by decide +kernel
theorem dX3_init_29 : decode cX3_init 29 = .ok (.newarray .int, 2) := by decide +kernel
theorem dX3_init_31 : decode cX3_init 31 = .ok (.putfield 22, 3) := by decide +kernel
theorem dX3_init_34 : decode cX3_init 34 = .ok (.aload_n 0, 1) := by decide +kernel
theorem dX3_init_35 : decode cX3_init 35 = .ok (.iconst 0, 1) := by decide +kernel
theorem dX3_init_36 : decode cX3_init 36 = .ok (.putfield 25, 3) := by decide +kernel
theorem dX3_init_39 : decode cX3_init 39 = .ok (.aload_n 0, 1) := by decide +kernel
theorem dX3_init_40 : decode cX3_init 40 = .ok (.sipush 300, 3) := by decide +kernel
theorem dX3_init_43 : decode cX3_init 43 = .ok (.newarray .int, 2) := by decide +kernel
theorem dX3_init_45 : decode cX3_init 45 = .ok (.putfield 29, 3) := by decide +kernel
theorem dX3_init_48 : decode cX3_init 48 = .ok (.aload_n 0, 1) := by decide +kernel
theorem dX3_init_49 : decode cX3_init 49 = .ok (.iconst 0, 1) := by decide +kernel
theorem dX3_init_50 : decode cX3_init 50 = .ok (.putfield 32, 3) := by decide +kernel
theorem dX3_init_53 : decode cX3_init 53 = .ok (.aload_n 0, 1) := by decide +kernel
theorem dX3_init_54 : decode cX3_init 54 = .ok (.iconst 0, 1) := by decide +kernel
theorem dX3_init_55 : decode cX3_init 55 = .ok (.putfield 35, 3) := by decide +kernel
theorem dX3_init_58 : decode cX3_init 58 = .ok (.return_, 1) := by decide +kernel
theorem dX3_turnTo_0 : decode cX3_turnTo 0 = .ok (.aload_n 0, 1) := by decide +kernel
theorem dX3_turnTo_1 : decode cX3_turnTo 1 = .ok (.aload_n 1, 1) := by decide +kernel
theorem dX3_turnTo_2 : decode cX3_turnTo 2 = .ok (.invokevirtual 38, 3) := by decide +kernel
theorem dX3_turnTo_5 : decode cX3_turnTo 5 = .ok (.ifCond .eq 4, 3) := by decide +kernel
theorem dX3_turnTo_8 : decode cX3_turnTo 8 = .ok (.return_, 1) := by decide +kernel
theorem dX3_turnTo_9 : decode cX3_turnTo 9 = .ok (.aload_n 0, 1) := by decide +kernel
theorem dX3_turnTo_10 : decode cX3_turnTo 10 = .ok (.aload_n 1, 1) := by decide +kernel
theorem dX3_turnTo_11 : decode cX3_turnTo 11 = .ok (.getfield 42, 3) := by decide +kernel
theorem dX3_turnTo_14 : decode cX3_turnTo 14 = .ok (.putfield 9, 3) := by decide +kernel
theorem dX3_turnTo_17 : decode cX3_turnTo 17 = .ok (.aload_n 1, 1) := by decide +kernel
theorem dX3_turnTo_18 : decode cX3_turnTo 18 = .ok (.getfield 45, 3) := by decide +kernel
theorem dX3_turnTo_21 : decode cX3_turnTo 21 = .ok (.iconst 0, 1) := by decide +kernel
theorem dX3_turnTo_22 : decode cX3_turnTo 22 = .ok (.aload_n 0, 1) := by decide +kernel
theorem dX3_turnTo_23 : decode cX3_turnTo 23 = .ok (.getfield 15, 3) := by decide +kernel
theorem dX3_turnTo_26 : decode cX3_turnTo 26 = .ok (.iconst 0, 1) := by decide +kernel
theorem dX3_turnTo_27 : decode cX3_turnTo 27 = .ok (.aload_n 0, 1) := by decide +kernel
theorem dX3_turnTo_28 : decode cX3_turnTo 28 = .ok (.getfield 15, 3) := by decide +kernel
theorem dX3_turnTo_31 : decode cX3_turnTo 31 = .ok (.arraylength, 1) := by decide +kernel
theorem dX3_turnTo_32 : decode cX3_turnTo 32 = .ok (.invokestatic 46, 3) := by decide +kernel
theorem dX3_turnTo_35 : decode cX3_turnTo 35 = .ok (.aload_n 0, 1) := by decide +kernel
theorem dX3_turnTo_36 : decode cX3_turnTo 36 = .ok (.getfield 19, 3) := by decide +kernel
theorem dX3_turnTo_39 : decode cX3_turnTo 39 = .ok (.bipush (-9), 2) := by decide +kernel
theorem dX3_turnTo_41 : decode cX3_turnTo 41 = .ok (.invokestatic 52, 3) := by decide +kernel
theorem dX3_turnTo_44 : decode cX3_turnTo 44 = .ok (.aload_n 0, 1) := by decide +kernel
theorem dX3_turnTo_45 : decode cX3_turnTo 45 = .ok (.iconst 0, 1) := by decide +kernel
theorem dX3_turnTo_46 : decode cX3_turnTo 46 = .ok (.putfield 25, 3) := by decide +kernel
theorem dX3_turnTo_49 : decode cX3_turnTo 49 = .ok (.aload_n 0, 1) := by decide +kernel
theorem dX3_turnTo_50 : decode cX3_turnTo 50 = .ok (.getfield 29, 3) := by decide +kernel
theorem dX3_turnTo_53 : decode cX3_turnTo 53 = .ok (.iconst 1, 1) := by decide +kernel
theorem dX3_turnTo_54 : decode cX3_turnTo 54 = .ok (.iconst 0, 1) := by decide +kernel
theorem dX3_turnTo_55 : decode cX3_turnTo 55 = .ok (.iastore, 1) := by decide +kernel
theorem dX3_turnTo_56 : decode cX3_turnTo 56 = .ok (.aload_n 0, 1) := by decide +kernel
theorem dX3_turnTo_57 : decode cX3_turnTo 57 = .ok (.iconst 1, 1) := by decide +kernel
theorem dX3_turnTo_58 : decode cX3_turnTo 58 = .ok (.putfield 32, 3) := by decide +kernel
theorem dX3_turnTo_61 : decode cX3_turnTo 61 = .ok (.aload_n 0, 1) := by decide +kernel
theorem dX3_turnTo_62 : decode cX3_turnTo 62 = .ok (.iconst 1, 1) := by decide +kernel
theorem dX3_turnTo_63 : decode cX3_turnTo 63 = .ok (.putfield 35, 3) := by decide +kernel
theorem dX3_turnTo_66 : decode cX3_turnTo 66 = .ok (.aload_n 0, 1) := by decide +kernel
theorem dX3_turnTo_67 : decode cX3_turnTo 67 = .ok (.invokevirtual 58, 3) := by decide +kernel
theorem dX3_turnTo_70 : decode cX3_turnTo 70 = .ok (.return_, 1) := by decide +kernel
theorem dX3_wordsFor_0 : decode cX3_wordsFor 0 = .ok (.iload_n 1, 1) := by decide +kernel
theorem dX3_wordsFor_1 : decode cX3_wordsFor 1 = .ok (.sipush 255, 3) := by decide +kernel
theorem dX3_wordsFor_4 : decode cX3_wordsFor 4 = .ok (.iand, 1) := by decide +kernel
theorem dX3_wordsFor_5 : decode cX3_wordsFor 5 = .ok (.istore_n 2, 1) := by decide +kernel
theorem dX3_wordsFor_6 : decode cX3_wordsFor 6 = .ok (.iconst 0, 1) := by decide +kernel
theorem dX3_wordsFor_7 : decode cX3_wordsFor 7 = .ok (.istore_n 3, 1) := by decide +kernel
theorem dX3_wordsFor_8 : decode cX3_wordsFor 8 = .ok (.iload_n 3, 1) := by decide +kernel
theorem dX3_wordsFor_9 : decode cX3_wordsFor 9 = .ok (.sipush 300, 3) := by decide +kernel
theorem dX3_wordsFor_12 : decode cX3_wordsFor 12 = .ok (.if_icmp .ge 31, 3) := by decide +kernel
theorem dX3_wordsFor_15 : decode cX3_wordsFor 15 = .ok (.aload_n 0, 1) := by decide +kernel
theorem dX3_wordsFor_16 : decode cX3_wordsFor 16 = .ok (.getfield 19, 3) := by decide +kernel
theorem dX3_wordsFor_19 : decode cX3_wordsFor 19 = .ok (.iload_n 2, 1) := by decide +kernel
theorem dX3_wordsFor_20 : decode cX3_wordsFor 20 = .ok (.iaload, 1) := by decide +kernel
theorem dX3_wordsFor_21 : decode cX3_wordsFor 21 = .ok (.bipush (-9), 2) := by decide +kernel
theorem dX3_wordsFor_23 : decode cX3_wordsFor 23 = .ok (.if_icmp .ne 20, 3) := by decide +kernel
theorem dX3_wordsFor_26 : decode cX3_wordsFor 26 = .ok (.aload_n 0, 1) := by decide +kernel
theorem dX3_wordsFor_27 : decode cX3_wordsFor 27 = .ok (.invokevirtual 61, 3) := by decide +kernel
theorem dX3_wordsFor_30 : decode cX3_wordsFor 30 = .ok (.ifCond .ne 13, 3) := by decide +kernel
theorem dX3_wordsFor_33 : decode cX3_wordsFor 33 = .ok (.aload_n 0, 1) := by decide +kernel
theorem dX3_wordsFor_34 : decode cX3_wordsFor 34 = .ok (.invokevirtual 65, 3) := by decide +kernel
theorem dX3_wordsFor_37 : decode cX3_wordsFor 37 = .ok (.iinc 3 1, 3) := by decide +kernel
theorem dX3_wordsFor_40 : decode cX3_wordsFor 40 = .ok (.goto (-32), 3) := by decide +kernel
theorem dX3_wordsFor_43 : decode cX3_wordsFor 43 = .ok (.aload_n 0, 1) := by decide +kernel
theorem dX3_wordsFor_44 : decode cX3_wordsFor 44 = .ok (.getfield 19, 3) := by decide +kernel
theorem dX3_wordsFor_47 : decode cX3_wordsFor 47 = .ok (.iload_n 2, 1) := by decide +kernel
theorem dX3_wordsFor_48 : decode cX3_wordsFor 48 = .ok (.iaload, 1) := by decide +kernel
theorem dX3_wordsFor_49 : decode cX3_wordsFor 49 = .ok (.ireturn, 1) := by decide +kernel
theorem dX3_meaningsOfLength_0 : decode cX3_meaningsOfLength 0 = .ok (.iconst 0, 1) := by decide +kernel
theorem dX3_meaningsOfLength_1 : decode cX3_meaningsOfLength 1 = .ok (.istore_n 2, 1) := by decide +kernel
theorem dX3_meaningsOfLength_2 : decode cX3_meaningsOfLength 2 = .ok (.iload_n 2, 1) := by decide +kernel
theorem dX3_meaningsOfLength_3 : decode cX3_meaningsOfLength 3 = .ok (.sipush 300, 3) := by decide +kernel
theorem dX3_meaningsOfLength_6 : decode cX3_meaningsOfLength 6 = .ok (.if_icmp .ge 28, 3) := by decide +kernel
theorem dX3_meaningsOfLength_9 : decode cX3_meaningsOfLength 9 = .ok (.aload_n 0, 1) := by decide +kernel
theorem dX3_meaningsOfLength_10 : decode cX3_meaningsOfLength 10 = .ok (.getfield 32, 3) := by decide +kernel
theorem dX3_meaningsOfLength_13 : decode cX3_meaningsOfLength 13 = .ok (.iload_n 1, 1) := by decide +kernel
theorem dX3_meaningsOfLength_14 : decode cX3_meaningsOfLength 14 = .ok (.if_icmp .ge 20, 3) := by decide +kernel
theorem dX3_meaningsOfLength_17 : decode cX3_meaningsOfLength 17 = .ok (.aload_n 0, 1) := by decide +kernel
theorem dX3_meaningsOfLength_18 : decode cX3_meaningsOfLength 18 = .ok (.invokevirtual 61, 3) := by decide +kernel
theorem dX3_meaningsOfLength_21 : decode cX3_meaningsOfLength 21 = .ok (.ifCond .ne 13, 3) := by decide +kernel
theorem dX3_meaningsOfLength_24 : decode cX3_meaningsOfLength 24 = .ok (.aload_n 0, 1) := by decide +kernel
theorem dX3_meaningsOfLength_25 : decode cX3_meaningsOfLength 25 = .ok (.invokevirtual 65, 3) := by decide +kernel
theorem dX3_meaningsOfLength_28 : decode cX3_meaningsOfLength 28 = .ok (.iinc 2 1, 3) := by decide +kernel
theorem dX3_meaningsOfLength_31 : decode cX3_meaningsOfLength 31 = .ok (.goto (-29), 3) := by decide +kernel
theorem dX3_meaningsOfLength_34 : decode cX3_meaningsOfLength 34 = .ok (.iconst 0, 1) := by decide +kernel
theorem dX3_meaningsOfLength_35 : decode cX3_meaningsOfLength 35 = .ok (.istore_n 2, 1) := by decide +kernel
theorem dX3_meaningsOfLength_36 : decode cX3_meaningsOfLength 36 = .ok (.iconst 0, 1) := by decide +kernel
theorem dX3_meaningsOfLength_37 : decode cX3_meaningsOfLength 37 = .ok (.istore_n 3, 1) := by decide +kernel
theorem dX3_meaningsOfLength_38 : decode cX3_meaningsOfLength 38 = .ok (.iload_n 3, 1) := by decide +kernel
theorem dX3_meaningsOfLength_39 : decode cX3_meaningsOfLength 39 = .ok (.aload_n 0, 1) := by decide +kernel
theorem dX3_meaningsOfLength_40 : decode cX3_meaningsOfLength 40 = .ok (.getfield 25, 3) := by decide +kernel
theorem dX3_meaningsOfLength_43 : decode cX3_meaningsOfLength 43 = .ok (.if_icmp .ge 32, 3) := by decide +kernel
theorem dX3_meaningsOfLength_46 : decode cX3_meaningsOfLength 46 = .ok (.iload_n 2, 1) := by decide +kernel
theorem dX3_meaningsOfLength_47 : decode cX3_meaningsOfLength 47 = .ok (.aload_n 0, 1) := by decide +kernel
theorem dX3_meaningsOfLength_48 : decode cX3_meaningsOfLength 48 = .ok (.getfield 19, 3) := by decide +kernel
theorem dX3_meaningsOfLength_51 : decode cX3_meaningsOfLength 51 = .ok (.aload_n 0, 1) := by decide +kernel
theorem dX3_meaningsOfLength_52 : decode cX3_meaningsOfLength 52 = .ok (.getfield 22, 3) := by decide +kernel
theorem dX3_meaningsOfLength_55 : decode cX3_meaningsOfLength 55 = .ok (.iload_n 3, 1) := by decide +kernel
theorem dX3_meaningsOfLength_56 : decode cX3_meaningsOfLength 56 = .ok (.iaload, 1) := by decide +kernel
theorem dX3_meaningsOfLength_57 : decode cX3_meaningsOfLength 57 = .ok (.iaload, 1) := by decide +kernel
theorem dX3_meaningsOfLength_58 : decode cX3_meaningsOfLength 58 = .ok (.iload_n 1, 1) := by decide +kernel
theorem dX3_meaningsOfLength_59 : decode cX3_meaningsOfLength 59 = .ok (.if_icmp .ne 7, 3) := by decide +kernel
theorem dX3_meaningsOfLength_62 : decode cX3_meaningsOfLength 62 = .ok (.iconst 1, 1) := by decide +kernel
theorem dX3_meaningsOfLength_63 : decode cX3_meaningsOfLength 63 = .ok (.goto 4, 3) := by decide +kernel
theorem dX3_meaningsOfLength_66 : decode cX3_meaningsOfLength 66 = .ok (.iconst 0, 1) := by decide +kernel
theorem dX3_meaningsOfLength_67 : decode cX3_meaningsOfLength 67 = .ok (.iadd, 1) := by decide +kernel
theorem dX3_meaningsOfLength_68 : decode cX3_meaningsOfLength 68 = .ok (.istore_n 2, 1) := by decide +kernel
theorem dX3_meaningsOfLength_69 : decode cX3_meaningsOfLength 69 = .ok (.iinc 3 1, 3) := by decide +kernel
theorem dX3_meaningsOfLength_72 : decode cX3_meaningsOfLength 72 = .ok (.goto (-34), 3) := by decide +kernel
theorem dX3_meaningsOfLength_75 : decode cX3_meaningsOfLength 75 = .ok (.iload_n 2, 1) := by decide +kernel
theorem dX3_meaningsOfLength_76 : decode cX3_meaningsOfLength 76 = .ok (.ireturn, 1) := by decide +kernel
theorem dX3_farthestMeaning_0 : decode cX3_farthestMeaning 0 = .ok (.iconst 0, 1) := by decide +kernel
theorem dX3_farthestMeaning_1 : decode cX3_farthestMeaning 1 = .ok (.istore_n 1, 1) := by decide +kernel
theorem dX3_farthestMeaning_2 : decode cX3_farthestMeaning 2 = .ok (.iload_n 1, 1) := by decide +kernel
theorem dX3_farthestMeaning_3 : decode cX3_farthestMeaning 3 = .ok (.sipush 300, 3) := by decide +kernel
theorem dX3_farthestMeaning_6 : decode cX3_farthestMeaning 6 = .ok (.if_icmp .ge 20, 3) := by decide +kernel
theorem dX3_farthestMeaning_9 : decode cX3_farthestMeaning 9 = .ok (.aload_n 0, 1) := by decide +kernel
theorem dX3_farthestMeaning_10 : decode cX3_farthestMeaning 10 = .ok (.invokevirtual 61, 3) := by decide +kernel
theorem dX3_farthestMeaning_13 : decode cX3_farthestMeaning 13 = .ok (.ifCond .ne 13, 3) := by decide +kernel
theorem dX3_farthestMeaning_16 : decode cX3_farthestMeaning 16 = .ok (.aload_n 0, 1) := by decide +kernel
theorem dX3_farthestMeaning_17 : decode cX3_farthestMeaning 17 = .ok (.invokevirtual 65, 3) := by decide +kernel
theorem dX3_farthestMeaning_20 : decode cX3_farthestMeaning 20 = .ok (.iinc 1 1, 3) := by decide +kernel
theorem dX3_farthestMeaning_23 : decode cX3_farthestMeaning 23 = .ok (.goto (-21), 3) := by decide +kernel
theorem dX3_farthestMeaning_26 : decode cX3_farthestMeaning 26 = .ok (.iconst 0, 1) := by decide +kernel
theorem dX3_farthestMeaning_27 : decode cX3_farthestMeaning 27 = .ok (.istore_n 1, 1) := by decide +kernel
theorem dX3_farthestMeaning_28 : decode cX3_farthestMeaning 28 = .ok (.iconst 1, 1) := by decide +kernel
theorem dX3_farthestMeaning_29 : decode cX3_farthestMeaning 29 = .ok (.istore_n 2, 1) := by decide +kernel
theorem dX3_farthestMeaning_30 : decode cX3_farthestMeaning 30 = .ok (.iload_n 2, 1) := by decide +kernel
theorem dX3_farthestMeaning_31 : decode cX3_farthestMeaning 31 = .ok (.sipush 256, 3) := by decide +kernel
theorem dX3_farthestMeaning_34 : decode cX3_farthestMeaning 34 = .ok (.if_icmp .ge 30, 3) := by decide +kernel
theorem dX3_farthestMeaning_37 : decode cX3_farthestMeaning 37 = .ok (.aload_n 0, 1) := by decide +kernel
theorem dX3_farthestMeaning_38 : decode cX3_farthestMeaning 38 = .ok (.getfield 19, 3) := by decide +kernel
theorem dX3_farthestMeaning_41 : decode cX3_farthestMeaning 41 = .ok (.iload_n 2, 1) := by decide +kernel
theorem dX3_farthestMeaning_42 : decode cX3_farthestMeaning 42 = .ok (.iaload, 1) := by decide +kernel
theorem dX3_farthestMeaning_43 : decode cX3_farthestMeaning 43 = .ok (.aload_n 0, 1) := by decide +kernel
theorem dX3_farthestMeaning_44 : decode cX3_farthestMeaning 44 = .ok (.getfield 19, 3) := by decide +kernel
theorem dX3_farthestMeaning_47 : decode cX3_farthestMeaning 47 = .ok (.iload_n 1, 1) := by decide +kernel
theorem dX3_farthestMeaning_48 : decode cX3_farthestMeaning 48 = .ok (.iaload, 1) := by decide +kernel
theorem dX3_farthestMeaning_49 : decode cX3_farthestMeaning 49 = .ok (.if_icmp .le 7, 3) := by decide +kernel
theorem dX3_farthestMeaning_52 : decode cX3_farthestMeaning 52 = .ok (.iload_n 2, 1) := by decide +kernel
theorem dX3_farthestMeaning_53 : decode cX3_farthestMeaning 53 = .ok (.goto 4, 3) := by decide +kernel
theorem dX3_farthestMeaning_56 : decode cX3_farthestMeaning 56 = .ok (.iload_n 1, 1) := by decide +kernel
theorem dX3_farthestMeaning_57 : decode cX3_farthestMeaning 57 = .ok (.istore_n 1, 1) := by decide +kernel
theorem dX3_farthestMeaning_58 : decode cX3_farthestMeaning 58 = .ok (.iinc 2 1, 3) := by decide +kernel
theorem dX3_farthestMeaning_61 : decode cX3_farthestMeaning 61 = .ok (.goto (-31), 3) := by decide +kernel
theorem dX3_farthestMeaning_64 : decode cX3_farthestMeaning 64 = .ok (.iload_n 1, 1) := by decide +kernel
theorem dX3_farthestMeaning_65 : decode cX3_farthestMeaning 65 = .ok (.ireturn, 1) := by decide +kernel
theorem dX3_isFor_0 : decode cX3_isFor 0 = .ok (.aload_n 0, 1) := by decide +kernel
theorem dX3_isFor_1 : decode cX3_isFor 1 = .ok (.getfield 9, 3) := by decide +kernel
theorem dX3_isFor_4 : decode cX3_isFor 4 = .ok (.ifnull 37, 3) := by decide +kernel
theorem dX3_isFor_7 : decode cX3_isFor 7 = .ok (.aload_n 0, 1) := by decide +kernel
theorem dX3_isFor_8 : decode cX3_isFor 8 = .ok (.getfield 9, 3) := by decide +kernel
theorem dX3_isFor_11 : decode cX3_isFor 11 = .ok (.invokevirtual 68, 3) := by decide +kernel
theorem dX3_isFor_14 : decode cX3_isFor 14 = .ok (.aload_n 1, 1) := by decide +kernel
theorem dX3_isFor_15 : decode cX3_isFor 15 = .ok (.getfield 42, 3) := by decide +kernel
theorem dX3_isFor_18 : decode cX3_isFor 18 = .ok (.invokevirtual 68, 3) := by decide +kernel
theorem dX3_isFor_21 : decode cX3_isFor 21 = .ok (.if_icmp .ne 20, 3) := by decide +kernel
theorem dX3_isFor_24 : decode cX3_isFor 24 = .ok (.aload_n 0, 1) := by decide +kernel
theorem dX3_isFor_25 : decode cX3_isFor 25 = .ok (.getfield 9, 3) := by decide +kernel
theorem dX3_isFor_28 : decode cX3_isFor 28 = .ok (.getfield 74, 3) := by decide +kernel
theorem dX3_isFor_31 : decode cX3_isFor 31 = .ok (.aload_n 1, 1) := by decide +kernel
theorem dX3_isFor_32 : decode cX3_isFor 32 = .ok (.getfield 42, 3) := by decide +kernel
theorem dX3_isFor_35 : decode cX3_isFor 35 = .ok (.getfield 74, 3) := by decide +kernel
theorem dX3_isFor_38 : decode cX3_isFor 38 = .ok (.if_icmp .eq 5, 3) := by decide +kernel
theorem dX3_isFor_41 : decode cX3_isFor 41 = .ok (.iconst 0, 1) := by decide +kernel
theorem dX3_isFor_42 : decode cX3_isFor 42 = .ok (.ireturn, 1) := by decide +kernel
theorem dX3_isFor_43 : decode cX3_isFor 43 = .ok (.iconst 0, 1) := by decide +kernel
theorem dX3_isFor_44 : decode cX3_isFor 44 = .ok (.istore_n 2, 1) := by decide +kernel
theorem dX3_isFor_45 : decode cX3_isFor 45 = .ok (.iload_n 2, 1) := by decide +kernel
theorem dX3_isFor_46 : decode cX3_isFor 46 = .ok (.aload_n 0, 1) := by decide +kernel
theorem dX3_isFor_47 : decode cX3_isFor 47 = .ok (.getfield 15, 3) := by decide +kernel
theorem dX3_isFor_50 : decode cX3_isFor 50 = .ok (.arraylength, 1) := by decide +kernel
theorem dX3_isFor_51 : decode cX3_isFor 51 = .ok (.if_icmp .ge 26, 3) := by decide +kernel
theorem dX3_isFor_54 : decode cX3_isFor 54 = .ok (.aload_n 0, 1) := by decide +kernel
theorem dX3_isFor_55 : decode cX3_isFor 55 = .ok (.getfield 15, 3) := by decide +kernel
theorem dX3_isFor_58 : decode cX3_isFor 58 = .ok (.iload_n 2, 1) := by decide +kernel
theorem dX3_isFor_59 : decode cX3_isFor 59 = .ok (.iaload, 1) := by decide +kernel
theorem dX3_isFor_60 : decode cX3_isFor 60 = .ok (.aload_n 1, 1) := by decide +kernel
theorem dX3_isFor_61 : decode cX3_isFor 61 = .ok (.getfield 45, 3) := by decide +kernel
theorem dX3_isFor_64 : decode cX3_isFor 64 = .ok (.iload_n 2, 1) := by decide +kernel
theorem dX3_isFor_65 : decode cX3_isFor 65 = .ok (.iaload, 1) := by decide +kernel
theorem dX3_isFor_66 : decode cX3_isFor 66 = .ok (.if_icmp .eq 5, 3) := by decide +kernel
theorem dX3_isFor_69 : decode cX3_isFor 69 = .ok (.iconst 0, 1) := by decide +kernel
theorem dX3_isFor_70 : decode cX3_isFor 70 = .ok (.ireturn, 1) := by decide +kernel
theorem dX3_isFor_71 : decode cX3_isFor 71 = .ok (.iinc 2 1, 3) := by decide +kernel
theorem dX3_isFor_74 : decode cX3_isFor 74 = .ok (.goto (-29), 3) := by decide +kernel
theorem dX3_isFor_77 : decode cX3_isFor 77 = .ok (.iconst 1, 1) := by decide +kernel
theorem dX3_isFor_78 : decode cX3_isFor 78 = .ok (.ireturn, 1) := by decide +kernel
theorem dX3_isComplete_0 : decode cX3_isComplete 0 = .ok (.aload_n 0, 1) := by decide +kernel
theorem dX3_isComplete_1 : decode cX3_isComplete 1 = .ok (.getfield 25, 3) := by decide +kernel
theorem dX3_isComplete_4 : decode cX3_isComplete 4 = .ok (.sipush 256, 3) := by decide +kernel
theorem dX3_isComplete_7 : decode cX3_isComplete 7 = .ok (.if_icmp .ge 26, 3) := by decide +kernel
theorem dX3_isComplete_10 : decode cX3_isComplete 10 = .ok (.aload_n 0, 1) := by decide +kernel
theorem dX3_isComplete_11 : decode cX3_isComplete 11 = .ok (.getfield 32, 3) := by decide +kernel
theorem dX3_isComplete_14 : decode cX3_isComplete 14 = .ok (.iconst 2, 1) := by decide +kernel
theorem dX3_isComplete_15 : decode cX3_isComplete 15 = .ok (.aload_n 0, 1) := by decide +kernel
theorem dX3_isComplete_16 : decode cX3_isComplete 16 = .ok (.getfield 35, 3) := by decide +kernel
theorem dX3_isComplete_19 : decode cX3_isComplete 19 = .ok (.imul, 1) := by decide +kernel
theorem dX3_isComplete_20 : decode cX3_isComplete 20 = .ok (.if_icmp .gt 13, 3) := by decide +kernel
theorem dX3_isComplete_23 : decode cX3_isComplete 23 = .ok (.aload_n 0, 1) := by decide +kernel
theorem dX3_isComplete_24 : decode cX3_isComplete 24 = .ok (.getfield 32, 3) := by decide +kernel
theorem dX3_isComplete_27 : decode cX3_isComplete 27 = .ok (.sipush 299, 3) := by decide +kernel
theorem dX3_isComplete_30 : decode cX3_isComplete 30 = .ok (.if_icmp .lt 7, 3) := by decide +kernel
theorem dX3_isComplete_33 : decode cX3_isComplete 33 = .ok (.iconst 1, 1) := by decide +kernel
theorem dX3_isComplete_34 : decode cX3_isComplete 34 = .ok (.goto 4, 3) := by decide +kernel
theorem dX3_isComplete_37 : decode cX3_isComplete 37 = .ok (.iconst 0, 1) := by decide +kernel
theorem dX3_isComplete_38 : decode cX3_isComplete 38 = .ok (.ireturn, 1) := by decide +kernel
theorem dX3_lookAtNextLength_0 : decode cX3_lookAtNextLength 0 = .ok (.aload_n 0, 1) := by decide +kernel
theorem dX3_lookAtNextLength_1 : decode cX3_lookAtNextLength 1 = .ok (.getfield 32, 3) := by decide +kernel
theorem dX3_lookAtNextLength_4 : decode cX3_lookAtNextLength 4 = .ok (.iconst 1, 1) := by decide +kernel
theorem dX3_lookAtNextLength_5 : decode cX3_lookAtNextLength 5 = .ok (.if_icmp .lt 13, 3) := by decide +kernel
theorem dX3_lookAtNextLength_8 : decode cX3_lookAtNextLength 8 = .ok (.aload_n 0, 1) := by decide +kernel
theorem dX3_lookAtNextLength_9 : decode cX3_lookAtNextLength 9 = .ok (.getfield 32, 3) := by decide +kernel
theorem dX3_lookAtNextLength_12 : decode cX3_lookAtNextLength 12 = .ok (.sipush 299, 3) := by decide +kernel
theorem dX3_lookAtNextLength_15 : decode cX3_lookAtNextLength 15 = .ok (.if_icmp .lt 4, 3) := by decide +kernel
theorem dX3_lookAtNextLength_18 : decode cX3_lookAtNextLength 18 = .ok (.return_, 1) := by decide +kernel
theorem dX3_lookAtNextLength_19 : decode cX3_lookAtNextLength 19 = .ok (.aload_n 0, 1) := by decide +kernel
theorem dX3_lookAtNextLength_20 : decode cX3_lookAtNextLength 20 = .ok (.dup, 1) := by decide +kernel
theorem dX3_lookAtNextLength_21 : decode cX3_lookAtNextLength 21 = .ok (.getfield 32, 3) := by decide +kernel
theorem dX3_lookAtNextLength_24 : decode cX3_lookAtNextLength 24 = .ok (.iconst 1, 1) := by decide +kernel
theorem dX3_lookAtNextLength_25 : decode cX3_lookAtNextLength 25 = .ok (.iadd, 1) := by decide +kernel
theorem dX3_lookAtNextLength_26 : decode cX3_lookAtNextLength 26 = .ok (.putfield 32, 3) := by decide +kernel
theorem dX3_lookAtNextLength_29 : decode cX3_lookAtNextLength 29 = .ok (.aload_n 0, 1) := by decide +kernel
theorem dX3_lookAtNextLength_30 : decode cX3_lookAtNextLength 30 = .ok (.getfield 29, 3) := by decide +kernel
theorem dX3_lookAtNextLength_33 : decode cX3_lookAtNextLength 33 = .ok (.aload_n 0, 1) := by decide +kernel
theorem dX3_lookAtNextLength_34 : decode cX3_lookAtNextLength 34 = .ok (.getfield 32, 3) := by decide +kernel
theorem dX3_lookAtNextLength_37 : decode cX3_lookAtNextLength 37 = .ok (.aload_n 0, 1) := by decide +kernel
theorem dX3_lookAtNextLength_38 : decode cX3_lookAtNextLength 38 = .ok (.getfield 25, 3) := by decide +kernel
theorem dX3_lookAtNextLength_41 : decode cX3_lookAtNextLength 41 = .ok (.iastore, 1) := by decide +kernel
theorem dX3_lookAtNextLength_42 : decode cX3_lookAtNextLength 42 = .ok (.aload_n 0, 1) := by decide +kernel
theorem dX3_lookAtNextLength_43 : decode cX3_lookAtNextLength 43 = .ok (.invokevirtual 77, 3) := by decide +kernel
theorem dX3_lookAtNextLength_46 : decode cX3_lookAtNextLength 46 = .ok (.aload_n 0, 1) := by decide +kernel
theorem dX3_lookAtNextLength_47 : decode cX3_lookAtNextLength 47 = .ok (.invokevirtual 80, 3) := by decide +kernel
theorem dX3_lookAtNextLength_50 : decode cX3_lookAtNextLength 50 = .ok (.aload_n 0, 1) := by decide +kernel
theorem dX3_lookAtNextLength_51 : decode cX3_lookAtNextLength 51 = .ok (.getfield 25, 3) := by decide +kernel
theorem dX3_lookAtNextLength_54 : decode cX3_lookAtNextLength 54 = .ok (.aload_n 0, 1) := by decide +kernel
theorem dX3_lookAtNextLength_55 : decode cX3_lookAtNextLength 55 = .ok (.getfield 29, 3) := by decide +kernel
theorem dX3_lookAtNextLength_58 : decode cX3_lookAtNextLength 58 = .ok (.aload_n 0, 1) := by decide +kernel
theorem dX3_lookAtNextLength_59 : decode cX3_lookAtNextLength 59 = .ok (.getfield 32, 3) := by decide +kernel
theorem dX3_lookAtNextLength_62 : decode cX3_lookAtNextLength 62 = .ok (.iaload, 1) := by decide +kernel
theorem dX3_lookAtNextLength_63 : decode cX3_lookAtNextLength 63 = .ok (.if_icmp .le 11, 3) := by decide +kernel
theorem dX3_lookAtNextLength_66 : decode cX3_lookAtNextLength 66 = .ok (.aload_n 0, 1) := by decide +kernel
theorem dX3_lookAtNextLength_67 : decode cX3_lookAtNextLength 67 = .ok (.aload_n 0, 1) := by decide +kernel
theorem dX3_lookAtNextLength_68 : decode cX3_lookAtNextLength 68 = .ok (.getfield 32, 3) := by decide +kernel
theorem dX3_lookAtNextLength_71 : decode cX3_lookAtNextLength 71 = .ok (.putfield 35, 3) := by decide +kernel
theorem dX3_lookAtNextLength_74 : decode cX3_lookAtNextLength 74 = .ok (.return_, 1) := by decide +kernel
theorem dX3_addLeaves_0 : decode cX3_addLeaves 0 = .ok (.iconst 0, 1) := by decide +kernel
theorem dX3_addLeaves_1 : decode cX3_addLeaves 1 = .ok (.istore_n 1, 1) := by decide +kernel
theorem dX3_addLeaves_2 : decode cX3_addLeaves 2 = .ok (.iload_n 1, 1) := by decide +kernel
theorem dX3_addLeaves_3 : decode cX3_addLeaves 3 = .ok (.getstatic 83, 3) := by decide +kernel
theorem dX3_addLeaves_6 : decode cX3_addLeaves 6 = .ok (.arraylength, 1) := by decide +kernel
theorem dX3_addLeaves_7 : decode cX3_addLeaves 7 = .ok (.if_icmp .ge 18, 3) := by decide +kernel
theorem dX3_addLeaves_10 : decode cX3_addLeaves 10 = .ok (.aload_n 0, 1) := by decide +kernel
theorem dX3_addLeaves_11 : decode cX3_addLeaves 11 = .ok (.getstatic 83, 3) := by decide +kernel
theorem dX3_addLeaves_14 : decode cX3_addLeaves 14 = .ok (.iload_n 1, 1) := by decide +kernel
theorem dX3_addLeaves_15 : decode cX3_addLeaves 15 = .ok (.iaload, 1) := by decide +kernel
theorem dX3_addLeaves_16 : decode cX3_addLeaves 16 = .ok (.invokevirtual 86, 3) := by decide +kernel
theorem dX3_addLeaves_19 : decode cX3_addLeaves 19 = .ok (.iinc 1 1, 3) := by decide +kernel
theorem dX3_addLeaves_22 : decode cX3_addLeaves 22 = .ok (.goto (-20), 3) := by decide +kernel
theorem dX3_addLeaves_25 : decode cX3_addLeaves 25 = .ok (.iconst 0, 1) := by decide +kernel
theorem dX3_addLeaves_26 : decode cX3_addLeaves 26 = .ok (.istore_n 1, 1) := by decide +kernel
theorem dX3_addLeaves_27 : decode cX3_addLeaves 27 = .ok (.iload_n 1, 1) := by decide +kernel
theorem dX3_addLeaves_28 : decode cX3_addLeaves 28 = .ok (.aload_n 0, 1) := by decide +kernel
theorem dX3_addLeaves_29 : decode cX3_addLeaves 29 = .ok (.getfield 15, 3) := by decide +kernel
theorem dX3_addLeaves_32 : decode cX3_addLeaves 32 = .ok (.arraylength, 1) := by decide +kernel
theorem dX3_addLeaves_33 : decode cX3_addLeaves 33 = .ok (.if_icmp .ge 30, 3) := by decide +kernel
theorem dX3_addLeaves_36 : decode cX3_addLeaves 36 = .ok (.aload_n 0, 1) := by decide +kernel
theorem dX3_addLeaves_37 : decode cX3_addLeaves 37 = .ok (.getfield 15, 3) := by decide +kernel
theorem dX3_addLeaves_40 : decode cX3_addLeaves 40 = .ok (.iload_n 1, 1) := by decide +kernel
theorem dX3_addLeaves_41 : decode cX3_addLeaves 41 = .ok (.iaload, 1) := by decide +kernel
theorem dX3_addLeaves_42 : decode cX3_addLeaves 42 = .ok (.bipush (-9), 2) := by decide +kernel
theorem dX3_addLeaves_44 : decode cX3_addLeaves 44 = .ok (.if_icmp .eq 13, 3) := by decide +kernel
theorem dX3_addLeaves_47 : decode cX3_addLeaves 47 = .ok (.aload_n 0, 1) := by decide +kernel
theorem dX3_addLeaves_48 : decode cX3_addLeaves 48 = .ok (.aload_n 0, 1) := by decide +kernel
theorem dX3_addLeaves_49 : decode cX3_addLeaves 49 = .ok (.getfield 15, 3) := by decide +kernel
theorem dX3_addLeaves_52 : decode cX3_addLeaves 52 = .ok (.iload_n 1, 1) := by decide +kernel
theorem dX3_addLeaves_53 : decode cX3_addLeaves 53 = .ok (.iaload, 1) := by decide +kernel
theorem dX3_addLeaves_54 : decode cX3_addLeaves 54 = .ok (.invokevirtual 86, 3) := by decide +kernel
theorem dX3_addLeaves_57 : decode cX3_addLeaves 57 = .ok (.iinc 1 1, 3) := by decide +kernel
theorem dX3_addLeaves_60 : decode cX3_addLeaves 60 = .ok (.goto (-33), 3) := by decide +kernel
theorem dX3_addLeaves_63 : decode cX3_addLeaves 63 = .ok (.return_, 1) := by decide +kernel
theorem dX3_addNots_0 : decode cX3_addNots 0 = .ok (.aload_n 0, 1) := by decide +kernel
theorem dX3_addNots_1 : decode cX3_addNots 1 = .ok (.getfield 29, 3) := by decide +kernel
theorem dX3_addNots_4 : decode cX3_addNots 4 = .ok (.aload_n 0, 1) := by decide +kernel
theorem dX3_addNots_5 : decode cX3_addNots 5 = .ok (.getfield 32, 3) := by decide +kernel
theorem dX3_addNots_8 : decode cX3_addNots 8 = .ok (.iconst 1, 1) := by decide +kernel
theorem dX3_addNots_9 : decode cX3_addNots 9 = .ok (.isub, 1) := by decide +kernel
theorem dX3_addNots_10 : decode cX3_addNots 10 = .ok (.iaload, 1) := by decide +kernel
theorem dX3_addNots_11 : decode cX3_addNots 11 = .ok (.istore_n 1, 1) := by decide +kernel
theorem dX3_addNots_12 : decode cX3_addNots 12 = .ok (.iload_n 1, 1) := by decide +kernel
theorem dX3_addNots_13 : decode cX3_addNots 13 = .ok (.aload_n 0, 1) := by decide +kernel
theorem dX3_addNots_14 : decode cX3_addNots 14 = .ok (.getfield 29, 3) := by decide +kernel
theorem dX3_addNots_17 : decode cX3_addNots 17 = .ok (.aload_n 0, 1) := by decide +kernel
theorem dX3_addNots_18 : decode cX3_addNots 18 = .ok (.getfield 32, 3) := by decide +kernel
theorem dX3_addNots_21 : decode cX3_addNots 21 = .ok (.iaload, 1) := by decide +kernel
theorem dX3_addNots_22 : decode cX3_addNots 22 = .ok (.if_icmp .ge 26, 3) := by decide +kernel
theorem dX3_addNots_25 : decode cX3_addNots 25 = .ok (.aload_n 0, 1) := by decide +kernel
theorem dX3_addNots_26 : decode cX3_addNots 26 = .ok (.aload_n 0, 1) := by decide +kernel
theorem dX3_addNots_27 : decode cX3_addNots 27 = .ok (.getfield 9, 3) := by decide +kernel
theorem dX3_addNots_30 : decode cX3_addNots 30 = .ok (.aload_n 0, 1) := by decide +kernel
theorem dX3_addNots_31 : decode cX3_addNots 31 = .ok (.getfield 22, 3) := by decide +kernel
theorem dX3_addNots_34 : decode cX3_addNots 34 = .ok (.iload_n 1, 1) := by decide +kernel
theorem dX3_addNots_35 : decode cX3_addNots 35 = .ok (.iaload, 1) := by decide +kernel
theorem dX3_addNots_36 : decode cX3_addNots 36 = .ok (.invokevirtual 90, 3) := by decide +kernel
theorem dX3_addNots_39 : decode cX3_addNots 39 = .ok (.invokevirtual 86, 3) := by decide +kernel
theorem dX3_addNots_42 : decode cX3_addNots 42 = .ok (.iinc 1 1, 3) := by decide +kernel
theorem dX3_addNots_45 : decode cX3_addNots 45 = .ok (.goto (-33), 3) := by decide +kernel
theorem dX3_addNots_48 : decode cX3_addNots 48 = .ok (.return_, 1) := by decide +kernel
theorem dX3_addJoined_0 : decode cX3_addJoined 0 = .ok (.aload_n 0, 1) := by decide +kernel
theorem dX3_addJoined_1 : decode cX3_addJoined 1 = .ok (.getfield 9, 3) := by decide +kernel
theorem dX3_addJoined_4 : decode cX3_addJoined 4 = .ok (.invokevirtual 94, 3) := by decide +kernel
theorem dX3_addJoined_7 : decode cX3_addJoined 7 = .ok (.istore_n 1, 1) := by decide +kernel
theorem dX3_addJoined_8 : decode cX3_addJoined 8 = .ok (.iconst 1, 1) := by decide +kernel
theorem dX3_addJoined_9 : decode cX3_addJoined 9 = .ok (.istore_n 2, 1) := by decide +kernel
theorem dX3_addJoined_10 : decode cX3_addJoined 10 = .ok (.iload_n 2, 1) := by decide +kernel
theorem dX3_addJoined_11 : decode cX3_addJoined 11 = .ok (.aload_n 0, 1) := by decide +kernel
theorem dX3_addJoined_12 : decode cX3_addJoined 12 = .ok (.getfield 32, 3) := by decide +kernel
theorem dX3_addJoined_15 : decode cX3_addJoined 15 = .ok (.iconst 1, 1) := by decide +kernel
theorem dX3_addJoined_16 : decode cX3_addJoined 16 = .ok (.isub, 1) := by decide +kernel
theorem dX3_addJoined_17 : decode cX3_addJoined 17 = .ok (.iconst 2, 1) := by decide +kernel
theorem dX3_addJoined_18 : decode cX3_addJoined 18 = .ok (.idiv, 1) := by decide +kernel
theorem dX3_addJoined_19 : decode cX3_addJoined 19 = .ok (.if_icmp .gt 149, 3) := by decide +kernel
theorem dX3_addJoined_22 : decode cX3_addJoined 22 = .ok (.aload_n 0, 1) := by decide +kernel
theorem dX3_addJoined_23 : decode cX3_addJoined 23 = .ok (.getfield 32, 3) := by decide +kernel
theorem dX3_addJoined_26 : decode cX3_addJoined 26 = .ok (.iconst 1, 1) := by decide +kernel
theorem dX3_addJoined_27 : decode cX3_addJoined 27 = .ok (.isub, 1) := by decide +kernel
theorem dX3_addJoined_28 : decode cX3_addJoined 28 = .ok (.iload_n 2, 1) := by decide +kernel
theorem dX3_addJoined_29 : decode cX3_addJoined 29 = .ok (.isub, 1) := by decide +kernel
theorem dX3_addJoined_30 : decode cX3_addJoined 30 = .ok (.istore_n 3, 1) := by decide +kernel
theorem dX3_addJoined_31 : decode cX3_addJoined 31 = .ok (.aload_n 0, 1) := by decide +kernel
theorem dX3_addJoined_32 : decode cX3_addJoined 32 = .ok (.getfield 29, 3) := by decide +kernel
theorem dX3_addJoined_35 : decode cX3_addJoined 35 = .ok (.iload_n 2, 1) := by decide +kernel
theorem dX3_addJoined_36 : decode cX3_addJoined 36 = .ok (.iaload, 1) := by decide +kernel
theorem dX3_addJoined_37 : decode cX3_addJoined 37 = .ok (.istore 4, 2) := by decide +kernel
theorem dX3_addJoined_39 : decode cX3_addJoined 39 = .ok (.iload 4, 2) := by decide +kernel
theorem dX3_addJoined_41 : decode cX3_addJoined 41 = .ok (.aload_n 0, 1) := by decide +kernel
theorem dX3_addJoined_42 : decode cX3_addJoined 42 = .ok (.getfield 29, 3) := by decide +kernel
theorem dX3_addJoined_45 : decode cX3_addJoined 45 = .ok (.iload_n 2, 1) := by decide +kernel
theorem dX3_addJoined_46 : decode cX3_addJoined 46 = .ok (.iconst 1, 1) := by decide +kernel
theorem dX3_addJoined_47 : decode cX3_addJoined 47 = .ok (.iadd, 1) := by decide +kernel
theorem dX3_addJoined_48 : decode cX3_addJoined 48 = .ok (.iaload, 1) := by decide +kernel
theorem dX3_addJoined_49 : decode cX3_addJoined 49 = .ok (.if_icmp .ge 113, 3) := by decide +kernel
theorem dX3_addJoined_52 : decode cX3_addJoined 52 = .ok (.aload_n 0, 1) := by decide +kernel
theorem dX3_addJoined_53 : decode cX3_addJoined 53 = .ok (.getfield 25, 3) := by decide +kernel
theorem dX3_addJoined_56 : decode cX3_addJoined 56 = .ok (.sipush 256, 3) := by decide +kernel
theorem dX3_addJoined_59 : decode cX3_addJoined 59 = .ok (.if_icmp .ge 103, 3) := by decide +kernel
theorem dX3_addJoined_62 : decode cX3_addJoined 62 = .ok (.aload_n 0, 1) := by decide +kernel
theorem dX3_addJoined_63 : decode cX3_addJoined 63 = .ok (.getfield 22, 3) := by decide +kernel
theorem dX3_addJoined_66 : decode cX3_addJoined 66 = .ok (.iload 4, 2) := by decide +kernel
theorem dX3_addJoined_68 : decode cX3_addJoined 68 = .ok (.iaload, 1) := by decide +kernel
theorem dX3_addJoined_69 : decode cX3_addJoined 69 = .ok (.istore 5, 2) := by decide +kernel
theorem dX3_addJoined_71 : decode cX3_addJoined 71 = .ok (.aload_n 0, 1) := by decide +kernel
theorem dX3_addJoined_72 : decode cX3_addJoined 72 = .ok (.getfield 29, 3) := by decide +kernel
theorem dX3_addJoined_75 : decode cX3_addJoined 75 = .ok (.iload_n 3, 1) := by decide +kernel
theorem dX3_addJoined_76 : decode cX3_addJoined 76 = .ok (.iaload, 1) := by decide +kernel
theorem dX3_addJoined_77 : decode cX3_addJoined 77 = .ok (.istore 6, 2) := by decide +kernel
theorem dX3_addJoined_79 : decode cX3_addJoined 79 = .ok (.iload 6, 2) := by decide +kernel
theorem dX3_addJoined_81 : decode cX3_addJoined 81 = .ok (.aload_n 0, 1) := by decide +kernel
theorem dX3_addJoined_82 : decode cX3_addJoined 82 = .ok (.getfield 29, 3) := by decide +kernel
theorem dX3_addJoined_85 : decode cX3_addJoined 85 = .ok (.iload_n 3, 1) := by decide +kernel
theorem dX3_addJoined_86 : decode cX3_addJoined 86 = .ok (.iconst 1, 1) := by decide +kernel
theorem dX3_addJoined_87 : decode cX3_addJoined 87 = .ok (.iadd, 1) := by decide +kernel
theorem dX3_addJoined_88 : decode cX3_addJoined 88 = .ok (.iaload, 1) := by decide +kernel
theorem dX3_addJoined_89 : decode cX3_addJoined 89 = .ok (.if_icmp .ge 67, 3) := by decide +kernel
theorem dX3_addJoined_92 : decode cX3_addJoined 92 = .ok (.aload_n 0, 1) := by decide +kernel
theorem dX3_addJoined_93 : decode cX3_addJoined 93 = .ok (.getfield 22, 3) := by decide +kernel
theorem dX3_addJoined_96 : decode cX3_addJoined 96 = .ok (.iload 6, 2) := by decide +kernel
theorem dX3_addJoined_98 : decode cX3_addJoined 98 = .ok (.iaload, 1) := by decide +kernel
theorem dX3_addJoined_99 : decode cX3_addJoined 99 = .ok (.istore 7, 2) := by decide +kernel
theorem dX3_addJoined_101 : decode cX3_addJoined 101 = .ok (.aload_n 0, 1) := by decide +kernel
theorem dX3_addJoined_102 : decode cX3_addJoined 102 = .ok (.aload_n 0, 1) := by decide +kernel
theorem dX3_addJoined_103 : decode cX3_addJoined 103 = .ok (.getfield 9, 3) := by decide +kernel
theorem dX3_addJoined_106 : decode cX3_addJoined 106 = .ok (.iload 5, 2) := by decide +kernel
theorem dX3_addJoined_108 : decode cX3_addJoined 108 = .ok (.iload 7, 2) := by decide +kernel
theorem dX3_addJoined_110 : decode cX3_addJoined 110 = .ok (.invokevirtual 97, 3) := by decide +kernel
theorem dX3_addJoined_113 : decode cX3_addJoined 113 = .ok (.invokevirtual 86, 3) := by decide +kernel
theorem dX3_addJoined_116 : decode cX3_addJoined 116 = .ok (.aload_n 0, 1) := by decide +kernel
theorem dX3_addJoined_117 : decode cX3_addJoined 117 = .ok (.aload_n 0, 1) := by decide +kernel
theorem dX3_addJoined_118 : decode cX3_addJoined 118 = .ok (.getfield 9, 3) := by decide +kernel
theorem dX3_addJoined_121 : decode cX3_addJoined 121 = .ok (.iload 5, 2) := by decide +kernel
theorem dX3_addJoined_123 : decode cX3_addJoined 123 = .ok (.iload 7, 2) := by decide +kernel
theorem dX3_addJoined_125 : decode cX3_addJoined 125 = .ok (.invokevirtual 101, 3) := by decide +kernel
theorem dX3_addJoined_128 : decode cX3_addJoined 128 = .ok (.invokevirtual 86, 3) := by decide +kernel
theorem dX3_addJoined_131 : decode cX3_addJoined 131 = .ok (.iload_n 1, 1) := by decide +kernel
theorem dX3_addJoined_132 : decode cX3_addJoined 132 = .ok (.ifCond .eq 18, 3) := by decide +kernel
theorem dX3_addJoined_135 : decode cX3_addJoined 135 = .ok (.aload_n 0, 1) := by decide +kernel
theorem dX3_addJoined_136 : decode cX3_addJoined 136 = .ok (.aload_n 0, 1) := by decide +kernel
theorem dX3_addJoined_137 : decode cX3_addJoined 137 = .ok (.getfield 9, 3) := by decide +kernel
theorem dX3_addJoined_140 : decode cX3_addJoined 140 = .ok (.iload 7, 2) := by decide +kernel
theorem dX3_addJoined_142 : decode cX3_addJoined 142 = .ok (.iload 5, 2) := by decide +kernel
theorem dX3_addJoined_144 : decode cX3_addJoined 144 = .ok (.invokevirtual 97, 3) := by decide +kernel
theorem dX3_addJoined_147 : decode cX3_addJoined 147 = .ok (.invokevirtual 86, 3) := by decide +kernel
theorem dX3_addJoined_150 : decode cX3_addJoined 150 = .ok (.iinc 6 1, 3) := by decide +kernel
theorem dX3_addJoined_153 : decode cX3_addJoined 153 = .ok (.goto (-74), 3) := by decide +kernel
theorem dX3_addJoined_156 : decode cX3_addJoined 156 = .ok (.iinc 4 1, 3) := by decide +kernel
theorem dX3_addJoined_159 : decode cX3_addJoined 159 = .ok (.goto (-120), 3) := by decide +kernel
theorem dX3_addJoined_162 : decode cX3_addJoined 162 = .ok (.iinc 2 1, 3) := by decide +kernel
theorem dX3_addJoined_165 : decode cX3_addJoined 165 = .ok (.goto (-155), 3) := by decide +kernel
theorem dX3_addJoined_168 : decode cX3_addJoined 168 = .ok (.return_, 1) := by decide +kernel
theorem dX3_add_0 : decode cX3_add 0 = .ok (.iload_n 1, 1) := by decide +kernel
theorem dX3_add_1 : decode cX3_add 1 = .ok (.sipush 255, 3) := by decide +kernel
theorem dX3_add_4 : decode cX3_add 4 = .ok (.iand, 1) := by decide +kernel
theorem dX3_add_5 : decode cX3_add 5 = .ok (.istore_n 2, 1) := by decide +kernel
theorem dX3_add_6 : decode cX3_add 6 = .ok (.aload_n 0, 1) := by decide +kernel
theorem dX3_add_7 : decode cX3_add 7 = .ok (.getfield 19, 3) := by decide +kernel
theorem dX3_add_10 : decode cX3_add 10 = .ok (.iload_n 2, 1) := by decide +kernel
theorem dX3_add_11 : decode cX3_add 11 = .ok (.iaload, 1) := by decide +kernel
theorem dX3_add_12 : decode cX3_add 12 = .ok (.bipush (-9), 2) := by decide +kernel
theorem dX3_add_14 : decode cX3_add 14 = .ok (.if_icmp .ne 43, 3) := by decide +kernel
theorem dX3_add_17 : decode cX3_add 17 = .ok (.aload_n 0, 1) := by decide +kernel
theorem dX3_add_18 : decode cX3_add 18 = .ok (.getfield 25, 3) := by decide +kernel
theorem dX3_add_21 : decode cX3_add 21 = .ok (.sipush 256, 3) := by decide +kernel
theorem dX3_add_24 : decode cX3_add 24 = .ok (.if_icmp .ge 33, 3) := by decide +kernel
theorem dX3_add_27 : decode cX3_add 27 = .ok (.aload_n 0, 1) := by decide +kernel
theorem dX3_add_28 : decode cX3_add 28 = .ok (.getfield 19, 3) := by decide +kernel
theorem dX3_add_31 : decode cX3_add 31 = .ok (.iload_n 2, 1) := by decide +kernel
theorem dX3_add_32 : decode cX3_add 32 = .ok (.aload_n 0, 1) := by decide +kernel
theorem dX3_add_33 : decode cX3_add 33 = .ok (.getfield 32, 3) := by decide +kernel
theorem dX3_add_36 : decode cX3_add 36 = .ok (.iastore, 1) := by decide +kernel
theorem dX3_add_37 : decode cX3_add 37 = .ok (.aload_n 0, 1) := by decide +kernel
theorem dX3_add_38 : decode cX3_add 38 = .ok (.getfield 22, 3) := by decide +kernel
theorem dX3_add_41 : decode cX3_add 41 = .ok (.aload_n 0, 1) := by decide +kernel
theorem dX3_add_42 : decode cX3_add 42 = .ok (.getfield 25, 3) := by decide +kernel
theorem dX3_add_45 : decode cX3_add 45 = .ok (.iload_n 2, 1) := by decide +kernel
theorem dX3_add_46 : decode cX3_add 46 = .ok (.iastore, 1) := by decide +kernel
theorem dX3_add_47 : decode cX3_add 47 = .ok (.aload_n 0, 1) := by decide +kernel
theorem dX3_add_48 : decode cX3_add 48 = .ok (.dup, 1) := by decide +kernel
theorem dX3_add_49 : decode cX3_add 49 = .ok (.getfield 25, 3) := by decide +kernel
theorem dX3_add_52 : decode cX3_add 52 = .ok (.iconst 1, 1) := by decide +kernel
theorem dX3_add_53 : decode cX3_add 53 = .ok (.iadd, 1) := by decide +kernel
theorem dX3_add_54 : decode cX3_add 54 = .ok (.putfield 25, 3) := by decide +kernel
theorem dX3_add_57 : decode cX3_add 57 = .ok (.return_, 1) := by decide +kernel
theorem dX4_init_0 : decode cX4_init 0 = .ok (.aload_n 0, 1) := by decide +kernel
theorem dX4_init_1 : decode cX4_init 1 = .ok (.iload_n 1, 1) := by decide +kernel
theorem dX4_init_2 : decode cX4_init 2 = .ok (.invokespecial 1, 3) := by decide +kernel
theorem dX4_init_5 : decode cX4_init 5 = .ok (.return_, 1) := by decide +kernel
theorem dX4_kind_0 : decode cX4_kind 0 = .ok (.iconst 1, 1) := by decide +kernel
theorem dX4_kind_1 : decode cX4_kind 1 = .ok (.ireturn, 1) := by decide +kernel
theorem dX4_or_0 : decode cX4_or 0 = .ok (.iload_n 1, 1) := by decide +kernel
theorem dX4_or_1 : decode cX4_or 1 = .ok (.iload_n 2, 1) := by decide +kernel
theorem dX4_or_2 : decode cX4_or 2 = .ok (.ixor, 1) := by decide +kernel
theorem dX4_or_3 : decode cX4_or 3 = .ok (.ireturn, 1) := by decide +kernel
theorem dX5_init_0 : decode cX5_init 0 = .ok (.aload_n 0, 1) := by decide +kernel
theorem dX5_init_1 : decode cX5_init 1 = .ok (.invokespecial 3, 3) := by decide +kernel
theorem dX5_init_4 : decode cX5_init 4 = .ok (.aload_n 0, 1) := by decide +kernel
theorem dX5_init_5 : decode cX5_init 5 = .ok (.bipush 80, 2) := by decide +kernel
theorem dX5_init_7 : decode cX5_init 7 = .ok (.newarray .int, 2) := by decide +kernel
theorem dX5_init_9 : decode cX5_init 9 = .ok (.putfield 9, 3) := by decide +kernel
theorem dX5_init_12 : decode cX5_init 12 = .ok (.aload_n 0, 1) := by decide +kernel
theorem dX5_init_13 : decode cX5_init 13 = .ok (.iconst 0, 1) := by decide +kernel
theorem dX5_init_14 : decode cX5_init 14 = .ok (.putfield 15, 3) := by decide +kernel
theorem dX5_init_17 : decode cX5_init 17 = .ok (.aload_n 0, 1) := by decide +kernel
theorem dX5_init_18 : decode cX5_init 18 = .ok (.iconst 0, 1) := by decide +kernel
theorem dX5_init_19 : decode cX5_init 19 = .ok (.putfield 19, 3) := by decide +kernel
theorem dX5_init_22 : decode cX5_init 22 = .ok (.return_, 1) := by decide +kernel
theorem dX5_size_0 : decode cX5_size 0 = .ok (.aload_n 0, 1) := by decide +kernel
theorem dX5_size_1 : decode cX5_size 1 = .ok (.getfield 15, 3) := by decide +kernel
theorem dX5_size_4 : decode cX5_size 4 = .ok (.ireturn, 1) := by decide +kernel
theorem dX5_isFull_0 : decode cX5_isFull 0 = .ok (.aload_n 0, 1) := by decide +kernel
theorem dX5_isFull_1 : decode cX5_isFull 1 = .ok (.getfield 15, 3) := by decide +kernel
theorem dX5_isFull_4 : decode cX5_isFull 4 = .ok (.bipush 80, 2) := by decide +kernel
theorem dX5_isFull_6 : decode cX5_isFull 6 = .ok (.if_icmp .lt 7, 3) := by decide +kernel
theorem dX5_isFull_9 : decode cX5_isFull 9 = .ok (.iconst 1, 1) := by decide +kernel
theorem dX5_isFull_10 : decode cX5_isFull 10 = .ok (.goto 4, 3) := by decide +kernel
theorem dX5_isFull_13 : decode cX5_isFull 13 = .ok (.iconst 0, 1) := by decide +kernel
theorem dX5_isFull_14 : decode cX5_isFull 14 = .ok (.ireturn, 1) := by decide +kernel
theorem dX5_add_0 : decode cX5_add 0 = .ok (.aload_n 0, 1) := by decide +kernel
theorem dX5_add_1 : decode cX5_add 1 = .ok (.getfield 15, 3) := by decide +kernel
theorem dX5_add_4 : decode cX5_add 4 = .ok (.bipush 80, 2) := by decide +kernel
theorem dX5_add_6 : decode cX5_add 6 = .ok (.if_icmp .ge 23, 3) := by decide +kernel
theorem dX5_add_9 : decode cX5_add 9 = .ok (.aload_n 0, 1) := by decide +kernel
theorem dX5_add_10 : decode cX5_add 10 = .ok (.getfield 9, 3) := by decide +kernel
theorem dX5_add_13 : decode cX5_add 13 = .ok (.aload_n 0, 1) := by decide +kernel
theorem dX5_add_14 : decode cX5_add 14 = .ok (.getfield 15, 3) := by decide +kernel
theorem dX5_add_17 : decode cX5_add 17 = .ok (.iload_n 1, 1) := by decide +kernel
theorem dX5_add_18 : decode cX5_add 18 = .ok (.iastore, 1) := by decide +kernel
theorem dX5_add_19 : decode cX5_add 19 = .ok (.aload_n 0, 1) := by decide +kernel
theorem dX5_add_20 : decode cX5_add 20 = .ok (.dup, 1) := by decide +kernel
theorem dX5_add_21 : decode cX5_add 21 = .ok (.getfield 15, 3) := by decide +kernel
theorem dX5_add_24 : decode cX5_add 24 = .ok (.iconst 1, 1) := by decide +kernel
theorem dX5_add_25 : decode cX5_add 25 = .ok (.iadd, 1) := by decide +kernel
theorem dX5_add_26 : decode cX5_add 26 = .ok (.putfield 15, 3) := by decide +kernel
theorem dX5_add_29 : decode cX5_add 29 = .ok (.aload_n 0, 1) := by decide +kernel
theorem dX5_add_30 : decode cX5_add 30 = .ok (.getfield 15, 3) := by decide +kernel
theorem dX5_add_33 : decode cX5_add 33 = .ok (.ireturn, 1) := by decide +kernel
theorem dX5_clear_0 : decode cX5_clear 0 = .ok (.aload_n 0, 1) := by decide +kernel
theorem dX5_clear_1 : decode cX5_clear 1 = .ok (.iconst 0, 1) := by decide +kernel
theorem dX5_clear_2 : decode cX5_clear 2 = .ok (.putfield 15, 3) := by decide +kernel
theorem dX5_clear_5 : decode cX5_clear 5 = .ok (.aload_n 0, 1) := by decide +kernel
theorem dX5_clear_6 : decode cX5_clear 6 = .ok (.iconst 0, 1) := by decide +kernel
theorem dX5_clear_7 : decode cX5_clear 7 = .ok (.putfield 19, 3) := by decide +kernel
theorem dX5_clear_10 : decode cX5_clear 10 = .ok (.return_, 1) := by decide +kernel
theorem dX5_rewind_0 : decode cX5_rewind 0 = .ok (.aload_n 0, 1) := by decide +kernel
theorem dX5_rewind_1 : decode cX5_rewind 1 = .ok (.iconst 0, 1) := by decide +kernel
theorem dX5_rewind_2 : decode cX5_rewind 2 = .ok (.putfield 19, 3) := by decide +kernel
theorem dX5_rewind_5 : decode cX5_rewind 5 = .ok (.return_, 1) := by decide +kernel
theorem dX5_place_0 : decode cX5_place 0 = .ok (.aload_n 0, 1) := by decide +kernel
theorem dX5_place_1 : decode cX5_place 1 = .ok (.getfield 19, 3) := by decide +kernel
theorem dX5_place_4 : decode cX5_place 4 = .ok (.ireturn, 1) := by decide +kernel
theorem dX5_haveMore_0 : decode cX5_haveMore 0 = .ok (.aload_n 0, 1) := by decide +kernel
theorem dX5_haveMore_1 : decode cX5_haveMore 1 = .ok (.getfield 19, 3) := by decide +kernel
theorem dX5_haveMore_4 : decode cX5_haveMore 4 = .ok (.aload_n 0, 1) := by decide +kernel
theorem dX5_haveMore_5 : decode cX5_haveMore 5 = .ok (.getfield 15, 3) := by decide +kernel
theorem dX5_haveMore_8 : decode cX5_haveMore 8 = .ok (.if_icmp .ge 7, 3) := by decide +kernel
theorem dX5_haveMore_11 : decode cX5_haveMore 11 = .ok (.iconst 1, 1) := by decide +kernel
theorem dX5_haveMore_12 : decode cX5_haveMore 12 = .ok (.goto 4, 3) := by decide +kernel
theorem dX5_haveMore_15 : decode cX5_haveMore 15 = .ok (.iconst 0, 1) := by decide +kernel
theorem dX5_haveMore_16 : decode cX5_haveMore 16 = .ok (.ireturn, 1) := by decide +kernel
theorem dX5_areWellFormed_0 : decode cX5_areWellFormed 0 = .ok (.aload_n 0, 1) := by decide +kernel
theorem dX5_areWellFormed_1 : decode cX5_areWellFormed 1 = .ok (.iconst 0, 1) := by decide +kernel
theorem dX5_areWellFormed_2 : decode cX5_areWellFormed 2 = .ok (.putfield 19, 3) := by decide +kernel
theorem dX5_areWellFormed_5 : decode cX5_areWellFormed 5 = .ok (.aload_n 0, 1) := by decide +kernel
theorem dX5_areWellFormed_6 : decode cX5_areWellFormed 6 = .ok (.invokevirtual 22, 3) := by decide +kernel
theorem dX5_areWellFormed_9 : decode cX5_areWellFormed 9 = .ok (.istore_n 1, 1) := by decide +kernel
theorem dX5_areWellFormed_10 : decode cX5_areWellFormed 10 = .ok (.iconst 0, 1) := by decide +kernel
theorem dX5_areWellFormed_11 : decode cX5_areWellFormed 11 = .ok (.istore_n 2, 1) := by decide +kernel
theorem dX5_areWellFormed_12 : decode cX5_areWellFormed 12 = .ok (.iload_n 2, 1) := by decide +kernel
theorem dX5_areWellFormed_13 : decode cX5_areWellFormed 13 = .ok (.bipush 80, 2) := by decide +kernel
theorem dX5_areWellFormed_15 : decode cX5_areWellFormed 15 = .ok (.if_icmp .ge 25, 3) := by decide +kernel
theorem dX5_areWellFormed_18 : decode cX5_areWellFormed 18 = .ok (.iload_n 1, 1) := by decide +kernel
theorem dX5_areWellFormed_19 : decode cX5_areWellFormed 19 = .ok (.ifCond .eq 21, 3) := by decide +kernel
theorem dX5_areWellFormed_22 : decode cX5_areWellFormed 22 = .ok (.aload_n 0, 1) := by decide +kernel
theorem dX5_areWellFormed_23 : decode cX5_areWellFormed 23 = .ok (.invokevirtual 26, 3) := by decide +kernel
theorem dX5_areWellFormed_26 : decode cX5_areWellFormed 26 = .ok (.ifCond .eq 14, 3) := by decide +kernel
theorem dX5_areWellFormed_29 : decode cX5_areWellFormed 29 = .ok (.aload_n 0, 1) := by decide +kernel
theorem dX5_areWellFormed_30 : decode cX5_areWellFormed 30 = .ok (.invokevirtual 22, 3) := by decide +kernel
theorem dX5_areWellFormed_33 : decode cX5_areWellFormed 33 = .ok (.istore_n 1, 1) := by decide +kernel
theorem dX5_areWellFormed_34 : decode cX5_areWellFormed 34 = .ok (.iinc 2 1, 3) := by decide +kernel
theorem dX5_areWellFormed_37 : decode cX5_areWellFormed 37 = .ok (.goto (-25), 3) := by decide +kernel
theorem dX5_areWellFormed_40 : decode cX5_areWellFormed 40 = .ok (.iload_n 1, 1) := by decide +kernel
theorem dX5_areWellFormed_41 : decode cX5_areWellFormed 41 = .ok (.ireturn, 1) := by decide +kernel
theorem dX5_next_0 : decode cX5_next 0 = .ok (.aload_n 0, 1) := by decide +kernel
theorem dX5_next_1 : decode cX5_next 1 = .ok (.invokevirtual 29, 3) := by decide +kernel
theorem dX5_next_4 : decode cX5_next 4 = .ok (.istore_n 1, 1) := by decide +kernel
theorem dX5_next_5 : decode cX5_next 5 = .ok (.aload_n 0, 1) := by decide +kernel
theorem dX5_next_6 : decode cX5_next 6 = .ok (.dup, 1) := by decide +kernel
theorem dX5_next_7 : decode cX5_next 7 = .ok (.getfield 19, 3) := by decide +kernel
theorem dX5_next_10 : decode cX5_next 10 = .ok (.iconst 1, 1) := by decide +kernel
theorem dX5_next_11 : decode cX5_next 11 = .ok (.iadd, 1) := by decide +kernel
theorem dX5_next_12 : decode cX5_next 12 = .ok (.putfield 19, 3) := by decide +kernel
theorem dX5_next_15 : decode cX5_next 15 = .ok (.iload_n 1, 1) := by decide +kernel
theorem dX5_next_16 : decode cX5_next 16 = .ok (.ireturn, 1) := by decide +kernel
theorem dX5_nextDigit_0 : decode cX5_nextDigit 0 = .ok (.aload_n 0, 1) := by decide +kernel
theorem dX5_nextDigit_1 : decode cX5_nextDigit 1 = .ok (.invokevirtual 33, 3) := by decide +kernel
theorem dX5_nextDigit_4 : decode cX5_nextDigit 4 = .ok (.bipush 48, 2) := by decide +kernel
theorem dX5_nextDigit_6 : decode cX5_nextDigit 6 = .ok (.isub, 1) := by decide +kernel
theorem dX5_nextDigit_7 : decode cX5_nextDigit 7 = .ok (.ireturn, 1) := by decide +kernel
theorem dX5_nextName_0 : decode cX5_nextName 0 = .ok (.aload_n 0, 1) := by decide +kernel
theorem dX5_nextName_1 : decode cX5_nextName 1 = .ok (.invokevirtual 33, 3) := by decide +kernel
theorem dX5_nextName_4 : decode cX5_nextName 4 = .ok (.bipush 65, 2) := by decide +kernel
theorem dX5_nextName_6 : decode cX5_nextName 6 = .ok (.isub, 1) := by decide +kernel
theorem dX5_nextName_7 : decode cX5_nextName 7 = .ok (.ireturn, 1) := by decide +kernel
theorem dX5_readSaying_0 : decode cX5_readSaying 0 = .ok (.aload_n 1, 1) := by decide +kernel
theorem dX5_readSaying_1 : decode cX5_readSaying 1 = .ok (.iconst 0, 1) := by decide +kernel
theorem dX5_readSaying_2 : decode cX5_readSaying 2 = .ok (.putfield 36, 3) := by decide +kernel
theorem dX5_readSaying_5 : decode cX5_readSaying 5 = .ok (.iconst 1, 1) := by decide +kernel
theorem dX5_readSaying_6 : decode cX5_readSaying 6 = .ok (.istore_n 2, 1) := by decide +kernel
theorem dX5_readSaying_7 : decode cX5_readSaying 7 = .ok (.iconst 0, 1) := by decide +kernel
theorem dX5_readSaying_8 : decode cX5_readSaying 8 = .ok (.istore_n 3, 1) := by decide +kernel
theorem dX5_readSaying_9 : decode cX5_readSaying 9 = .ok (.iload_n 3, 1) := by decide +kernel
theorem dX5_readSaying_10 : decode cX5_readSaying 10 = .ok (.bipush 20, 2) := by decide +kernel
theorem dX5_readSaying_12 : decode cX5_readSaying 12 = .ok (.if_icmp .ge 35, 3) := by decide +kernel
theorem dX5_readSaying_15 : decode cX5_readSaying 15 = .ok (.iload_n 2, 1) := by decide +kernel
theorem dX5_readSaying_16 : decode cX5_readSaying 16 = .ok (.ifCond .le 31, 3) := by decide +kernel
theorem dX5_readSaying_19 : decode cX5_readSaying 19 = .ok (.aload_n 0, 1) := by decide +kernel
theorem dX5_readSaying_20 : decode cX5_readSaying 20 = .ok (.invokevirtual 33, 3) := by decide +kernel
theorem dX5_readSaying_23 : decode cX5_readSaying 23 = .ok (.istore 4, 2) := by decide +kernel
theorem dX5_readSaying_25 : decode cX5_readSaying 25 = .ok (.aload_n 1, 1) := by decide +kernel
theorem dX5_readSaying_26 : decode cX5_readSaying 26 = .ok (.iload 4, 2) := by decide +kernel
theorem dX5_readSaying_28 : decode cX5_readSaying 28 = .ok (.invokevirtual 41, 3) := by decide +kernel
theorem dX5_readSaying_31 : decode cX5_readSaying 31 = .ok (.iload_n 2, 1) := by decide +kernel
theorem dX5_readSaying_32 : decode cX5_readSaying 32 = .ok (.iload 4, 2) := by decide +kernel
theorem dX5_readSaying_34 : decode cX5_readSaying 34 = .ok (.invokestatic 45, 3) := by decide +kernel
theorem dX5_readSaying_37 : decode cX5_readSaying 37 = .ok (.iconst 1, 1) := by decide +kernel
theorem dX5_readSaying_38 : decode cX5_readSaying 38 = .ok (.isub, 1) := by decide +kernel
theorem dX5_readSaying_39 : decode cX5_readSaying 39 = .ok (.iadd, 1) := by decide +kernel
theorem dX5_readSaying_40 : decode cX5_readSaying 40 = .ok (.istore_n 2, 1) := by decide +kernel
theorem dX5_readSaying_41 : decode cX5_readSaying 41 = .ok (.iinc 3 1, 3) := by decide +kernel
theorem dX5_readSaying_44 : decode cX5_readSaying 44 = .ok (.goto (-35), 3) := by decide +kernel
theorem dX5_readSaying_47 : decode cX5_readSaying 47 = .ok (.return_, 1) := by decide +kernel
theorem dX5_here_0 : decode cX5_here 0 = .ok (.aload_n 0, 1) := by decide +kernel
theorem dX5_here_1 : decode cX5_here 1 = .ok (.getfield 19, 3) := by decide +kernel
theorem dX5_here_4 : decode cX5_here 4 = .ok (.ifCond .lt 26, 3) := by decide +kernel
theorem dX5_here_7 : decode cX5_here 7 = .ok (.aload_n 0, 1) := by decide +kernel
theorem dX5_here_8 : decode cX5_here 8 = .ok (.getfield 19, 3) := by decide +kernel
theorem dX5_here_11 : decode cX5_here 11 = .ok (.aload_n 0, 1) := by decide +kernel
theorem dX5_here_12 : decode cX5_here 12 = .ok (.getfield 15, 3) := by decide +kernel
theorem dX5_here_15 : decode cX5_here 15 = .ok (.if_icmp .ge 15, 3) := by decide +kernel
theorem dX5_here_18 : decode cX5_here 18 = .ok (.aload_n 0, 1) := by decide +kernel
theorem dX5_here_19 : decode cX5_here 19 = .ok (.getfield 9, 3) := by decide +kernel
theorem dX5_here_22 : decode cX5_here 22 = .ok (.aload_n 0, 1) := by decide +kernel
theorem dX5_here_23 : decode cX5_here 23 = .ok (.getfield 19, 3) := by decide +kernel
theorem dX5_here_26 : decode cX5_here 26 = .ok (.iaload, 1) := by decide +kernel
theorem dX5_here_27 : decode cX5_here 27 = .ok (.goto 4, 3) := by decide +kernel
theorem dX5_here_30 : decode cX5_here 30 = .ok (.iconst (-1), 1) := by decide +kernel
theorem dX5_here_31 : decode cX5_here 31 = .ok (.ireturn, 1) := by decide +kernel
theorem dX5_passStatement_0 : decode cX5_passStatement 0 = .ok (.aload_n 0, 1) := by decide +kernel
theorem dX5_passStatement_1 : decode cX5_passStatement 1 = .ok (.invokevirtual 29, 3) := by decide +kernel
theorem dX5_passStatement_4 : decode cX5_passStatement 4 = .ok (.lookupswitch 221 #[(99, 127), (104, 93), (108, 172), (115, 44)], 44) := by decide +kernel
theorem dX5_passStatement_48 : decode cX5_passStatement 48 = .ok (.aload_n 0, 1) := by decide +kernel
theorem dX5_passStatement_49 : decode cX5_passStatement 49 = .ok (.dup, 1) := by decide +kernel
theorem dX5_passStatement_50 : decode cX5_passStatement 50 = .ok (.getfield 19, 3) := by decide +kernel
theorem dX5_passStatement_53 : decode cX5_passStatement 53 = .ok (.iconst 1, 1) := by decide +kernel
theorem dX5_passStatement_54 : decode cX5_passStatement 54 = .ok (.iadd, 1) := by decide +kernel
theorem dX5_passStatement_55 : decode cX5_passStatement 55 = .ok (.putfield 19, 3) := by decide +kernel
theorem dX5_passStatement_58 : decode cX5_passStatement 58 = .ok (.aload_n 0, 1) := by decide +kernel
theorem dX5_passStatement_59 : decode cX5_passStatement 59 = .ok (.bipush 48, 2) := by decide +kernel
theorem dX5_passStatement_61 : decode cX5_passStatement 61 = .ok (.bipush 57, 2) := by decide +kernel
theorem dX5_passStatement_63 : decode cX5_passStatement 63 = .ok (.invokevirtual 49, 3) := by decide +kernel
theorem dX5_passStatement_66 : decode cX5_passStatement 66 = .ok (.ifCond .eq 29, 3) := by decide +kernel
theorem dX5_passStatement_69 : decode cX5_passStatement 69 = .ok (.aload_n 0, 1) := by decide +kernel
theorem dX5_passStatement_70 : decode cX5_passStatement 70 = .ok (.bipush 48, 2) := by decide +kernel
theorem dX5_passStatement_72 : decode cX5_passStatement 72 = .ok (.bipush 57, 2) := by decide +kernel
theorem dX5_passStatement_74 : decode cX5_passStatement 74 = .ok (.invokevirtual 49, 3) := by decide +kernel
theorem dX5_passStatement_77 : decode cX5_passStatement 77 = .ok (.ifCond .eq 18, 3) := by decide +kernel
theorem dX5_passStatement_80 : decode cX5_passStatement 80 = .ok (.aload_n 0, 1) := by decide +kernel
theorem dX5_passStatement_81 : decode cX5_passStatement 81 = .ok (.bipush 59, 2) := by decide +kernel
theorem dX5_passStatement_83 : decode cX5_passStatement 83 = .ok (.bipush 59, 2) := by decide +kernel
theorem dX5_passStatement_85 : decode cX5_passStatement 85 = .ok (.invokevirtual 49, 3) := by decide +kernel
theorem dX5_passStatement_88 : decode cX5_passStatement 88 = .ok (.ifCond .eq 7, 3) := by decide +kernel
theorem dX5_passStatement_91 : decode cX5_passStatement 91 = .ok (.iconst 1, 1) := by decide +kernel
theorem dX5_passStatement_92 : decode cX5_passStatement 92 = .ok (.goto 4, 3) := by decide +kernel
theorem dX5_passStatement_95 : decode cX5_passStatement 95 = .ok (.iconst 0, 1) := by decide +kernel
theorem dX5_passStatement_96 : decode cX5_passStatement 96 = .ok (.ireturn, 1) := by decide +kernel
theorem dX5_passStatement_97 : decode cX5_passStatement 97 = .ok (.aload_n 0, 1) := by decide +kernel
theorem dX5_passStatement_98 : decode cX5_passStatement 98 = .ok (.dup, 1) := by decide +kernel
theorem dX5_passStatement_99 : decode cX5_passStatement 99 = .ok (.getfield 19, 3) := by decide +kernel
theorem dX5_passStatement_102 : decode cX5_passStatement 102 = .ok (.iconst 1, 1) := by decide +kernel
theorem dX5_passStatement_103 : decode cX5_passStatement 103 = .ok (.iadd, 1) := by decide +kernel
theorem dX5_passStatement_104 : decode cX5_passStatement 104 = .ok (.putfield 19, 3) := by decide +kernel
theorem dX5_passStatement_107 : decode cX5_passStatement 107 = .ok (.aload_n 0, 1) := by decide +kernel
theorem dX5_passStatement_108 : decode cX5_passStatement 108 = .ok (.invokevirtual 53, 3) := by decide +kernel
theorem dX5_passStatement_111 : decode cX5_passStatement 111 = .ok (.ifCond .eq 18, 3) := by decide +kernel
theorem dX5_passStatement_114 : decode cX5_passStatement 114 = .ok (.aload_n 0, 1) := by decide +kernel
theorem dX5_passStatement_115 : decode cX5_passStatement 115 = .ok (.bipush 59, 2) := by decide +kernel
theorem dX5_passStatement_117 : decode cX5_passStatement 117 = .ok (.bipush 59, 2) := by decide +kernel
theorem dX5_passStatement_119 : decode cX5_passStatement 119 = .ok (.invokevirtual 49, 3) := by decide +kernel
theorem dX5_passStatement_122 : decode cX5_passStatement 122 = .ok (.ifCond .eq 7, 3) := by decide +kernel
theorem dX5_passStatement_125 : decode cX5_passStatement 125 = .ok (.iconst 1, 1) := by decide +kernel
theorem dX5_passStatement_126 : decode cX5_passStatement 126 = .ok (.goto 4, 3) := by decide +kernel
theorem dX5_passStatement_129 : decode cX5_passStatement 129 = .ok (.iconst 0, 1) := by decide +kernel
theorem dX5_passStatement_130 : decode cX5_passStatement 130 = .ok (.ireturn, 1) := by decide +kernel
theorem dX5_passStatement_131 : decode cX5_passStatement 131 = .ok (.aload_n 0, 1) := by decide +kernel
theorem dX5_passStatement_132 : decode cX5_passStatement 132 = .ok (.dup, 1) := by decide +kernel
theorem dX5_passStatement_133 : decode cX5_passStatement 133 = .ok (.getfield 19, 3) := by decide +kernel
theorem dX5_passStatement_136 : decode cX5_passStatement 136 = .ok (.iconst 1, 1) := by decide +kernel
theorem dX5_passStatement_137 : decode cX5_passStatement 137 = .ok (.iadd, 1) := by decide +kernel
theorem dX5_passStatement_138 : decode cX5_passStatement 138 = .ok (.putfield 19, 3) := by decide +kernel
theorem dX5_passStatement_141 : decode cX5_passStatement 141 = .ok (.aload_n 0, 1) := by decide +kernel
theorem dX5_passStatement_142 : decode cX5_passStatement 142 = .ok (.bipush 65, 2) := by decide +kernel
theorem dX5_passStatement_144 : decode cX5_passStatement 144 = .ok (.bipush 68, 2) := by decide +kernel
theorem dX5_passStatement_146 : decode cX5_passStatement 146 = .ok (.invokevirtual 49, 3) := by decide +kernel
theorem dX5_passStatement_149 : decode cX5_passStatement 149 = .ok (.ifCond .eq 25, 3) := by decide +kernel
theorem dX5_passStatement_152 : decode cX5_passStatement 152 = .ok (.aload_n 0, 1) := by decide +kernel
theorem dX5_passStatement_153 : decode cX5_passStatement 153 = .ok (.invokevirtual 53, 3) := by decide +kernel
theorem dX5_passStatement_156 : decode cX5_passStatement 156 = .ok (.ifCond .eq 18, 3) := by decide +kernel
theorem dX5_passStatement_159 : decode cX5_passStatement 159 = .ok (.aload_n 0, 1) := by decide +kernel
theorem dX5_passStatement_160 : decode cX5_passStatement 160 = .ok (.bipush 59, 2) := by decide +kernel
theorem dX5_passStatement_162 : decode cX5_passStatement 162 = .ok (.bipush 59, 2) := by decide +kernel
theorem dX5_passStatement_164 : decode cX5_passStatement 164 = .ok (.invokevirtual 49, 3) := by decide +kernel
theorem dX5_passStatement_167 : decode cX5_passStatement 167 = .ok (.ifCond .eq 7, 3) := by decide +kernel
theorem dX5_passStatement_170 : decode cX5_passStatement 170 = .ok (.iconst 1, 1) := by decide +kernel
theorem dX5_passStatement_171 : decode cX5_passStatement 171 = .ok (.goto 4, 3) := by decide +kernel
theorem dX5_passStatement_174 : decode cX5_passStatement 174 = .ok (.iconst 0, 1) := by decide +kernel
theorem dX5_passStatement_175 : decode cX5_passStatement 175 = .ok (.ireturn, 1) := by decide +kernel
theorem dX5_passStatement_176 : decode cX5_passStatement 176 = .ok (.aload_n 0, 1) := by decide +kernel
theorem dX5_passStatement_177 : decode cX5_passStatement 177 = .ok (.dup, 1) := by decide +kernel
theorem dX5_passStatement_178 : decode cX5_passStatement 178 = .ok (.getfield 19, 3) := by decide +kernel
theorem dX5_passStatement_181 : decode cX5_passStatement 181 = .ok (.iconst 1, 1) := by decide +kernel
theorem dX5_passStatement_182 : decode cX5_passStatement 182 = .ok (.iadd, 1) := by decide +kernel
theorem dX5_passStatement_183 : decode cX5_passStatement 183 = .ok (.putfield 19, 3) := by decide +kernel
theorem dX5_passStatement_186 : decode cX5_passStatement 186 = .ok (.aload_n 0, 1) := by decide +kernel
theorem dX5_passStatement_187 : decode cX5_passStatement 187 = .ok (.bipush 48, 2) := by decide +kernel
theorem dX5_passStatement_189 : decode cX5_passStatement 189 = .ok (.bipush 57, 2) := by decide +kernel
theorem dX5_passStatement_191 : decode cX5_passStatement 191 = .ok (.invokevirtual 49, 3) := by decide +kernel
theorem dX5_passStatement_194 : decode cX5_passStatement 194 = .ok (.ifCond .eq 29, 3) := by decide +kernel
theorem dX5_passStatement_197 : decode cX5_passStatement 197 = .ok (.aload_n 0, 1) := by decide +kernel
theorem dX5_passStatement_198 : decode cX5_passStatement 198 = .ok (.bipush 65, 2) := by decide +kernel
theorem dX5_passStatement_200 : decode cX5_passStatement 200 = .ok (.bipush 68, 2) := by decide +kernel
theorem dX5_passStatement_202 : decode cX5_passStatement 202 = .ok (.invokevirtual 49, 3) := by decide +kernel
theorem dX5_passStatement_205 : decode cX5_passStatement 205 = .ok (.ifCond .eq 18, 3) := by decide +kernel
theorem dX5_passStatement_208 : decode cX5_passStatement 208 = .ok (.aload_n 0, 1) := by decide +kernel
theorem dX5_passStatement_209 : decode cX5_passStatement 209 = .ok (.bipush 59, 2) := by decide +kernel
theorem dX5_passStatement_211 : decode cX5_passStatement 211 = .ok (.bipush 59, 2) := by decide +kernel
theorem dX5_passStatement_213 : decode cX5_passStatement 213 = .ok (.invokevirtual 49, 3) := by decide +kernel
theorem dX5_passStatement_216 : decode cX5_passStatement 216 = .ok (.ifCond .eq 7, 3) := by decide +kernel
theorem dX5_passStatement_219 : decode cX5_passStatement 219 = .ok (.iconst 1, 1) := by decide +kernel
theorem dX5_passStatement_220 : decode cX5_passStatement 220 = .ok (.goto 4, 3) := by decide +kernel
theorem dX5_passStatement_223 : decode cX5_passStatement 223 = .ok (.iconst 0, 1) := by decide +kernel
theorem dX5_passStatement_224 : decode cX5_passStatement 224 = .ok (.ireturn, 1) := by decide +kernel
theorem dX5_passStatement_225 : decode cX5_passStatement 225 = .ok (.iconst 0, 1) := by decide +kernel
theorem dX5_passStatement_226 : decode cX5_passStatement 226 = .ok (.ireturn, 1) := by decide +kernel
theorem dX5_passWithin_0 : decode cX5_passWithin 0 = .ok (.aload_n 0, 1) := by decide +kernel
theorem dX5_passWithin_1 : decode cX5_passWithin 1 = .ok (.invokevirtual 29, 3) := by decide +kernel
theorem dX5_passWithin_4 : decode cX5_passWithin 4 = .ok (.istore_n 3, 1) := by decide +kernel
theorem dX5_passWithin_5 : decode cX5_passWithin 5 = .ok (.iload_n 3, 1) := by decide +kernel
theorem dX5_passWithin_6 : decode cX5_passWithin 6 = .ok (.iload_n 1, 1) := by decide +kernel
theorem dX5_passWithin_7 : decode cX5_passWithin 7 = .ok (.if_icmp .lt 8, 3) := by decide +kernel
theorem dX5_passWithin_10 : decode cX5_passWithin 10 = .ok (.iload_n 3, 1) := by decide +kernel
theorem dX5_passWithin_11 : decode cX5_passWithin 11 = .ok (.iload_n 2, 1) := by decide +kernel
theorem dX5_passWithin_12 : decode cX5_passWithin 12 = .ok (.if_icmp .le 5, 3) := by decide +kernel
theorem dX5_passWithin_15 : decode cX5_passWithin 15 = .ok (.iconst 0, 1) := by decide +kernel
theorem dX5_passWithin_16 : decode cX5_passWithin 16 = .ok (.ireturn, 1) := by decide +kernel
theorem dX5_passWithin_17 : decode cX5_passWithin 17 = .ok (.aload_n 0, 1) := by decide +kernel
theorem dX5_passWithin_18 : decode cX5_passWithin 18 = .ok (.dup, 1) := by decide +kernel
theorem dX5_passWithin_19 : decode cX5_passWithin 19 = .ok (.getfield 19, 3) := by decide +kernel
theorem dX5_passWithin_22 : decode cX5_passWithin 22 = .ok (.iconst 1, 1) := by decide +kernel
theorem dX5_passWithin_23 : decode cX5_passWithin 23 = .ok (.iadd, 1) := by decide +kernel
theorem dX5_passWithin_24 : decode cX5_passWithin 24 = .ok (.putfield 19, 3) := by decide +kernel
theorem dX5_passWithin_27 : decode cX5_passWithin 27 = .ok (.iconst 1, 1) := by decide +kernel
theorem dX5_passWithin_28 : decode cX5_passWithin 28 = .ok (.ireturn, 1) := by decide +kernel
theorem dX5_passSaying_0 : decode cX5_passSaying 0 = .ok (.iconst 1, 1) := by decide +kernel
theorem dX5_passSaying_1 : decode cX5_passSaying 1 = .ok (.istore_n 1, 1) := by decide +kernel
theorem dX5_passSaying_2 : decode cX5_passSaying 2 = .ok (.iconst 0, 1) := by decide +kernel
theorem dX5_passSaying_3 : decode cX5_passSaying 3 = .ok (.istore_n 2, 1) := by decide +kernel
theorem dX5_passSaying_4 : decode cX5_passSaying 4 = .ok (.iload_n 2, 1) := by decide +kernel
theorem dX5_passSaying_5 : decode cX5_passSaying 5 = .ok (.bipush 20, 2) := by decide +kernel
theorem dX5_passSaying_7 : decode cX5_passSaying 7 = .ok (.if_icmp .ge 43, 3) := by decide +kernel
theorem dX5_passSaying_10 : decode cX5_passSaying 10 = .ok (.iload_n 1, 1) := by decide +kernel
theorem dX5_passSaying_11 : decode cX5_passSaying 11 = .ok (.ifCond .le 39, 3) := by decide +kernel
theorem dX5_passSaying_14 : decode cX5_passSaying 14 = .ok (.aload_n 0, 1) := by decide +kernel
theorem dX5_passSaying_15 : decode cX5_passSaying 15 = .ok (.invokevirtual 29, 3) := by decide +kernel
theorem dX5_passSaying_18 : decode cX5_passSaying 18 = .ok (.invokestatic 45, 3) := by decide +kernel
theorem dX5_passSaying_21 : decode cX5_passSaying 21 = .ok (.istore_n 3, 1) := by decide +kernel
theorem dX5_passSaying_22 : decode cX5_passSaying 22 = .ok (.iload_n 3, 1) := by decide +kernel
theorem dX5_passSaying_23 : decode cX5_passSaying 23 = .ok (.ifCond .ge 5, 3) := by decide +kernel
theorem dX5_passSaying_26 : decode cX5_passSaying 26 = .ok (.iconst 0, 1) := by decide +kernel
theorem dX5_passSaying_27 : decode cX5_passSaying 27 = .ok (.ireturn, 1) := by decide +kernel
theorem dX5_passSaying_28 : decode cX5_passSaying 28 = .ok (.iload_n 1, 1) := by decide +kernel
theorem dX5_passSaying_29 : decode cX5_passSaying 29 = .ok (.iload_n 3, 1) := by decide +kernel
theorem dX5_passSaying_30 : decode cX5_passSaying 30 = .ok (.iconst 1, 1) := by decide +kernel
theorem dX5_passSaying_31 : decode cX5_passSaying 31 = .ok (.isub, 1) := by decide +kernel
theorem dX5_passSaying_32 : decode cX5_passSaying 32 = .ok (.iadd, 1) := by decide +kernel
theorem dX5_passSaying_33 : decode cX5_passSaying 33 = .ok (.istore_n 1, 1) := by decide +kernel
theorem dX5_passSaying_34 : decode cX5_passSaying 34 = .ok (.aload_n 0, 1) := by decide +kernel
theorem dX5_passSaying_35 : decode cX5_passSaying 35 = .ok (.dup, 1) := by decide +kernel
theorem dX5_passSaying_36 : decode cX5_passSaying 36 = .ok (.getfield 19, 3) := by decide +kernel
theorem dX5_passSaying_39 : decode cX5_passSaying 39 = .ok (.iconst 1, 1) := by decide +kernel
theorem dX5_passSaying_40 : decode cX5_passSaying 40 = .ok (.iadd, 1) := by decide +kernel
theorem dX5_passSaying_41 : decode cX5_passSaying 41 = .ok (.putfield 19, 3) := by decide +kernel
theorem dX5_passSaying_44 : decode cX5_passSaying 44 = .ok (.iinc 2 1, 3) := by decide +kernel
theorem dX5_passSaying_47 : decode cX5_passSaying 47 = .ok (.goto (-43), 3) := by decide +kernel
theorem dX5_passSaying_50 : decode cX5_passSaying 50 = .ok (.iload_n 1, 1) := by decide +kernel
theorem dX5_passSaying_51 : decode cX5_passSaying 51 = .ok (.ifCond .ne 7, 3) := by decide +kernel
theorem dX5_passSaying_54 : decode cX5_passSaying 54 = .ok (.iconst 1, 1) := by decide +kernel
theorem dX5_passSaying_55 : decode cX5_passSaying 55 = .ok (.goto 4, 3) := by decide +kernel
theorem dX5_passSaying_58 : decode cX5_passSaying 58 = .ok (.iconst 0, 1) := by decide +kernel
theorem dX5_passSaying_59 : decode cX5_passSaying 59 = .ok (.ireturn, 1) := by decide +kernel
theorem dX6_init_0 : decode cX6_init 0 = .ok (.aload_n 0, 1) := by decide +kernel
theorem dX6_init_1 : decode cX6_init 1 = .ok (.invokespecial 3, 3) := by decide +kernel
theorem dX6_init_4 : decode cX6_init 4 = .ok (.aload_n 0, 1) := by decide +kernel
theorem dX6_init_5 : decode cX6_init 5 = .ok (.new 9, 3) := by decide +kernel
theorem dX6_init_8 : decode cX6_init 8 = .ok (.dup, 1) := by decide +kernel
theorem dX6_init_9 : decode cX6_init 9 = .ok (.iconst 0, 1) := by decide +kernel
theorem dX6_init_10 : decode cX6_init 10 = .ok (.invokespecial 11, 3) := by decide +kernel
theorem dX6_init_13 : decode cX6_init 13 = .ok (.putfield 14, 3) := by decide +kernel
theorem dX6_init_16 : decode cX6_init 16 = .ok (.aload_n 0, 1) := by decide +kernel
theorem dX6_init_17 : decode cX6_init 17 = .ok (.iconst 5, 1) := by decide +kernel
theorem dX6_init_18 : decode cX6_init 18 = .ok (.newarray .int, 2) := by decide +kernel
theorem dX6_init_20 : decode cX6_init 20 = .ok (.putfield 20, 3) := by decide +kernel
theorem dX6_init_23 : decode cX6_init 23 = .ok (.aload_n 0, 1) := by decide +kernel
theorem dX6_init_24 : decode cX6_init 24 = .ok (.bipush 20, 2) := by decide +kernel
theorem dX6_init_26 : decode cX6_init 26 = .ok (.newarray .int, 2) := by decide +kernel
theorem dX6_init_28 : decode cX6_init 28 = .ok (.putfield 24, 3) := by decide +kernel
theorem dX6_init_31 : decode cX6_init 31 = .ok (.return_, 1) := by decide +kernel
theorem dX6_become_0 : decode cX6_become 0 = .ok (.aload_n 0, 1) := by decide +kernel
theorem dX6_become_1 : decode cX6_become 1 = .ok (.aload_n 1, 1) := by decide +kernel
theorem dX6_become_2 : decode cX6_become 2 = .ok (.putfield 14, 3) := by decide +kernel
theorem dX6_become_5 : decode cX6_become 5 = .ok (.iconst 0, 1) := by decide +kernel
theorem dX6_become_6 : decode cX6_become 6 = .ok (.istore 4, 2) := by decide +kernel
theorem dX6_become_8 : decode cX6_become 8 = .ok (.iload 4, 2) := by decide +kernel
theorem dX6_become_10 : decode cX6_become 10 = .ok (.iconst 4, 1) := by decide +kernel
theorem dX6_become_11 : decode cX6_become 11 = .ok (.if_icmp .ge 42, 3) := by decide +kernel
theorem dX6_become_14 : decode cX6_become 14 = .ok (.iload 4, 2) := by decide +kernel
theorem dX6_become_16 : decode cX6_become 16 = .ok (.aload_n 2, 1) := by decide +kernel
theorem dX6_become_17 : decode cX6_become 17 = .ok (.arraylength, 1) := by decide +kernel
theorem dX6_become_18 : decode cX6_become 18 = .ok (.if_icmp .ge 35, 3) := by decide +kernel
theorem dX6_become_21 : decode cX6_become 21 = .ok (.aload_n 0, 1) := by decide +kernel
theorem dX6_become_22 : decode cX6_become 22 = .ok (.getfield 20, 3) := by decide +kernel
theorem dX6_become_25 : decode cX6_become 25 = .ok (.iload 4, 2) := by decide +kernel
theorem dX6_become_27 : decode cX6_become 27 = .ok (.iload_n 3, 1) := by decide +kernel
theorem dX6_become_28 : decode cX6_become 28 = .ok (.iload 4, 2) := by decide +kernel
theorem dX6_become_30 : decode cX6_become 30 = .ok (.ishr, 1) := by decide +kernel
theorem dX6_become_31 : decode cX6_become 31 = .ok (.iconst 1, 1) := by decide +kernel
theorem dX6_become_32 : decode cX6_become 32 = .ok (.iand, 1) := by decide +kernel
theorem dX6_become_33 : decode cX6_become 33 = .ok (.iconst 1, 1) := by decide +kernel
theorem dX6_become_34 : decode cX6_become 34 = .ok (.if_icmp .ne 10, 3) := by decide +kernel
theorem dX6_become_37 : decode cX6_become 37 = .ok (.aload_n 2, 1) := by decide +kernel
theorem dX6_become_38 : decode cX6_become 38 = .ok (.iload 4, 2) := by decide +kernel
theorem dX6_become_40 : decode cX6_become 40 = .ok (.iaload, 1) := by decide +kernel
theorem dX6_become_41 : decode cX6_become 41 = .ok (.goto 5, 3) := by decide +kernel
theorem dX6_become_44 : decode cX6_become 44 = .ok (.bipush (-9), 2) := by decide +kernel
theorem dX6_become_46 : decode cX6_become 46 = .ok (.iastore, 1) := by decide +kernel
theorem dX6_become_47 : decode cX6_become 47 = .ok (.iinc 4 1, 3) := by decide +kernel
theorem dX6_become_50 : decode cX6_become 50 = .ok (.goto (-42), 3) := by decide +kernel
theorem dX6_become_53 : decode cX6_become 53 = .ok (.aload_n 0, 1) := by decide +kernel
theorem dX6_become_54 : decode cX6_become 54 = .ok (.getfield 20, 3) := by decide +kernel
theorem dX6_become_57 : decode cX6_become 57 = .ok (.iconst 4, 1) := by decide +kernel
theorem dX6_become_58 : decode cX6_become 58 = .ok (.bipush (-9), 2) := by decide +kernel
theorem dX6_become_60 : decode cX6_become 60 = .ok (.iastore, 1) := by decide +kernel
theorem dX6_become_61 : decode cX6_become 61 = .ok (.return_, 1) := by decide +kernel
theorem dX6_knowInMind_0 : decode cX6_knowInMind 0 = .ok (.aload_n 0, 1) := by decide +kernel
theorem dX6_knowInMind_1 : decode cX6_knowInMind 1 = .ok (.getfield 20, 3) := by decide +kernel
theorem dX6_knowInMind_4 : decode cX6_knowInMind 4 = .ok (.iconst 4, 1) := by decide +kernel
theorem dX6_knowInMind_5 : decode cX6_knowInMind 5 = .ok (.iload_n 1, 1) := by decide +kernel
theorem dX6_knowInMind_6 : decode cX6_knowInMind 6 = .ok (.iastore, 1) := by decide +kernel
theorem dX6_knowInMind_7 : decode cX6_knowInMind 7 = .ok (.return_, 1) := by decide +kernel
theorem dX6_meaningOf_0 : decode cX6_meaningOf 0 = .ok (.iconst 0, 1) := by decide +kernel
theorem dX6_meaningOf_1 : decode cX6_meaningOf 1 = .ok (.istore_n 2, 1) := by decide +kernel
theorem dX6_meaningOf_2 : decode cX6_meaningOf 2 = .ok (.aload_n 1, 1) := by decide +kernel
theorem dX6_meaningOf_3 : decode cX6_meaningOf 3 = .ok (.getfield 27, 3) := by decide +kernel
theorem dX6_meaningOf_6 : decode cX6_meaningOf 6 = .ok (.iconst 1, 1) := by decide +kernel
theorem dX6_meaningOf_7 : decode cX6_meaningOf 7 = .ok (.isub, 1) := by decide +kernel
theorem dX6_meaningOf_8 : decode cX6_meaningOf 8 = .ok (.istore_n 3, 1) := by decide +kernel
theorem dX6_meaningOf_9 : decode cX6_meaningOf 9 = .ok (.iload_n 3, 1) := by decide +kernel
theorem dX6_meaningOf_10 : decode cX6_meaningOf 10 = .ok (.ifCond .lt 21, 3) := by decide +kernel
theorem dX6_meaningOf_13 : decode cX6_meaningOf 13 = .ok (.aload_n 0, 1) := by decide +kernel
theorem dX6_meaningOf_14 : decode cX6_meaningOf 14 = .ok (.aload_n 1, 1) := by decide +kernel
theorem dX6_meaningOf_15 : decode cX6_meaningOf 15 = .ok (.getfield 33, 3) := by decide +kernel
theorem dX6_meaningOf_18 : decode cX6_meaningOf 18 = .ok (.iload_n 3, 1) := by decide +kernel
theorem dX6_meaningOf_19 : decode cX6_meaningOf 19 = .ok (.iaload, 1) := by decide +kernel
theorem dX6_meaningOf_20 : decode cX6_meaningOf 20 = .ok (.iload_n 2, 1) := by decide +kernel
theorem dX6_meaningOf_21 : decode cX6_meaningOf 21 = .ok (.invokevirtual 36, 3) := by decide +kernel
theorem dX6_meaningOf_24 : decode cX6_meaningOf 24 = .ok (.istore_n 2, 1) := by decide +kernel
theorem dX6_meaningOf_25 : decode cX6_meaningOf 25 = .ok (.iinc 3 (-1), 3) := by decide +kernel
theorem dX6_meaningOf_28 : decode cX6_meaningOf 28 = .ok (.goto (-19), 3) := by decide +kernel
theorem dX6_meaningOf_31 : decode cX6_meaningOf 31 = .ok (.iload_n 2, 1) := by decide +kernel
theorem dX6_meaningOf_32 : decode cX6_meaningOf 32 = .ok (.ifCond .le 14, 3) := by decide +kernel
theorem dX6_meaningOf_35 : decode cX6_meaningOf 35 = .ok (.aload_n 0, 1) := by decide +kernel
theorem dX6_meaningOf_36 : decode cX6_meaningOf 36 = .ok (.getfield 24, 3) := by decide +kernel
theorem dX6_meaningOf_39 : decode cX6_meaningOf 39 = .ok (.iload_n 2, 1) := by decide +kernel
theorem dX6_meaningOf_40 : decode cX6_meaningOf 40 = .ok (.iconst 1, 1) := by decide +kernel
theorem dX6_meaningOf_41 : decode cX6_meaningOf 41 = .ok (.isub, 1) := by decide +kernel
theorem dX6_meaningOf_42 : decode cX6_meaningOf 42 = .ok (.iaload, 1) := by decide +kernel
theorem dX6_meaningOf_43 : decode cX6_meaningOf 43 = .ok (.goto 4, 3) := by decide +kernel
theorem dX6_meaningOf_46 : decode cX6_meaningOf 46 = .ok (.iconst 0, 1) := by decide +kernel
theorem dX6_meaningOf_47 : decode cX6_meaningOf 47 = .ok (.ireturn, 1) := by decide +kernel
theorem dX6_hear_0 : decode cX6_hear 0 = .ok (.iload_n 1, 1) := by decide +kernel
theorem dX6_hear_1 : decode cX6_hear 1 = .ok (.invokestatic 40, 3) := by decide +kernel
theorem dX6_hear_4 : decode cX6_hear 4 = .ok (.istore_n 3, 1) := by decide +kernel
theorem dX6_hear_5 : decode cX6_hear 5 = .ok (.iload_n 3, 1) := by decide +kernel
theorem dX6_hear_6 : decode cX6_hear 6 = .ok (.iconst 1, 1) := by decide +kernel
theorem dX6_hear_7 : decode cX6_hear 7 = .ok (.if_icmp .ne 33, 3) := by decide +kernel
theorem dX6_hear_10 : decode cX6_hear 10 = .ok (.iload_n 2, 1) := by decide +kernel
theorem dX6_hear_11 : decode cX6_hear 11 = .ok (.iconst 1, 1) := by decide +kernel
theorem dX6_hear_12 : decode cX6_hear 12 = .ok (.if_icmp .lt 28, 3) := by decide +kernel
theorem dX6_hear_15 : decode cX6_hear 15 = .ok (.aload_n 0, 1) := by decide +kernel
theorem dX6_hear_16 : decode cX6_hear 16 = .ok (.getfield 24, 3) := by decide +kernel
theorem dX6_hear_19 : decode cX6_hear 19 = .ok (.iload_n 2, 1) := by decide +kernel
theorem dX6_hear_20 : decode cX6_hear 20 = .ok (.iconst 1, 1) := by decide +kernel
theorem dX6_hear_21 : decode cX6_hear 21 = .ok (.isub, 1) := by decide +kernel
theorem dX6_hear_22 : decode cX6_hear 22 = .ok (.aload_n 0, 1) := by decide +kernel
theorem dX6_hear_23 : decode cX6_hear 23 = .ok (.getfield 14, 3) := by decide +kernel
theorem dX6_hear_26 : decode cX6_hear 26 = .ok (.aload_n 0, 1) := by decide +kernel
theorem dX6_hear_27 : decode cX6_hear 27 = .ok (.getfield 24, 3) := by decide +kernel
theorem dX6_hear_30 : decode cX6_hear 30 = .ok (.iload_n 2, 1) := by decide +kernel
theorem dX6_hear_31 : decode cX6_hear 31 = .ok (.iconst 1, 1) := by decide +kernel
theorem dX6_hear_32 : decode cX6_hear 32 = .ok (.isub, 1) := by decide +kernel
theorem dX6_hear_33 : decode cX6_hear 33 = .ok (.iaload, 1) := by decide +kernel
theorem dX6_hear_34 : decode cX6_hear 34 = .ok (.invokevirtual 44, 3) := by decide +kernel
theorem dX6_hear_37 : decode cX6_hear 37 = .ok (.iastore, 1) := by decide +kernel
theorem dX6_hear_38 : decode cX6_hear 38 = .ok (.iload_n 2, 1) := by decide +kernel
theorem dX6_hear_39 : decode cX6_hear 39 = .ok (.ireturn, 1) := by decide +kernel
theorem dX6_hear_40 : decode cX6_hear 40 = .ok (.iload_n 3, 1) := by decide +kernel
theorem dX6_hear_41 : decode cX6_hear 41 = .ok (.iconst 2, 1) := by decide +kernel
theorem dX6_hear_42 : decode cX6_hear 42 = .ok (.if_icmp .ne 71, 3) := by decide +kernel
theorem dX6_hear_45 : decode cX6_hear 45 = .ok (.iload_n 2, 1) := by decide +kernel
theorem dX6_hear_46 : decode cX6_hear 46 = .ok (.iconst 2, 1) := by decide +kernel
theorem dX6_hear_47 : decode cX6_hear 47 = .ok (.if_icmp .lt 66, 3) := by decide +kernel
theorem dX6_hear_50 : decode cX6_hear 50 = .ok (.aload_n 0, 1) := by decide +kernel
theorem dX6_hear_51 : decode cX6_hear 51 = .ok (.getfield 24, 3) := by decide +kernel
theorem dX6_hear_54 : decode cX6_hear 54 = .ok (.iload_n 2, 1) := by decide +kernel
theorem dX6_hear_55 : decode cX6_hear 55 = .ok (.iconst 1, 1) := by decide +kernel
theorem dX6_hear_56 : decode cX6_hear 56 = .ok (.isub, 1) := by decide +kernel
theorem dX6_hear_57 : decode cX6_hear 57 = .ok (.iaload, 1) := by decide +kernel
theorem dX6_hear_58 : decode cX6_hear 58 = .ok (.istore 4, 2) := by decide +kernel
theorem dX6_hear_60 : decode cX6_hear 60 = .ok (.aload_n 0, 1) := by decide +kernel
theorem dX6_hear_61 : decode cX6_hear 61 = .ok (.getfield 24, 3) := by decide +kernel
theorem dX6_hear_64 : decode cX6_hear 64 = .ok (.iload_n 2, 1) := by decide +kernel
theorem dX6_hear_65 : decode cX6_hear 65 = .ok (.iconst 2, 1) := by decide +kernel
theorem dX6_hear_66 : decode cX6_hear 66 = .ok (.isub, 1) := by decide +kernel
theorem dX6_hear_67 : decode cX6_hear 67 = .ok (.iaload, 1) := by decide +kernel
theorem dX6_hear_68 : decode cX6_hear 68 = .ok (.istore 5, 2) := by decide +kernel
theorem dX6_hear_70 : decode cX6_hear 70 = .ok (.aload_n 0, 1) := by decide +kernel
theorem dX6_hear_71 : decode cX6_hear 71 = .ok (.getfield 24, 3) := by decide +kernel
theorem dX6_hear_74 : decode cX6_hear 74 = .ok (.iload_n 2, 1) := by decide +kernel
theorem dX6_hear_75 : decode cX6_hear 75 = .ok (.iconst 2, 1) := by decide +kernel
theorem dX6_hear_76 : decode cX6_hear 76 = .ok (.isub, 1) := by decide +kernel
theorem dX6_hear_77 : decode cX6_hear 77 = .ok (.iload_n 1, 1) := by decide +kernel
theorem dX6_hear_78 : decode cX6_hear 78 = .ok (.bipush 97, 2) := by decide +kernel
theorem dX6_hear_80 : decode cX6_hear 80 = .ok (.if_icmp .ne 17, 3) := by decide +kernel
theorem dX6_hear_83 : decode cX6_hear 83 = .ok (.aload_n 0, 1) := by decide +kernel
theorem dX6_hear_84 : decode cX6_hear 84 = .ok (.getfield 14, 3) := by decide +kernel
theorem dX6_hear_87 : decode cX6_hear 87 = .ok (.iload 4, 2) := by decide +kernel
theorem dX6_hear_89 : decode cX6_hear 89 = .ok (.iload 5, 2) := by decide +kernel
theorem dX6_hear_91 : decode cX6_hear 91 = .ok (.invokevirtual 47, 3) := by decide +kernel
theorem dX6_hear_94 : decode cX6_hear 94 = .ok (.goto 14, 3) := by decide +kernel
theorem dX6_hear_97 : decode cX6_hear 97 = .ok (.aload_n 0, 1) := by decide +kernel
theorem dX6_hear_98 : decode cX6_hear 98 = .ok (.getfield 14, 3) := by decide +kernel
theorem dX6_hear_101 : decode cX6_hear 101 = .ok (.iload 4, 2) := by decide +kernel
theorem dX6_hear_103 : decode cX6_hear 103 = .ok (.iload 5, 2) := by decide +kernel
theorem dX6_hear_105 : decode cX6_hear 105 = .ok (.invokevirtual 50, 3) := by decide +kernel
theorem dX6_hear_108 : decode cX6_hear 108 = .ok (.iastore, 1) := by decide +kernel
theorem dX6_hear_109 : decode cX6_hear 109 = .ok (.iload_n 2, 1) := by decide +kernel
theorem dX6_hear_110 : decode cX6_hear 110 = .ok (.iconst 1, 1) := by decide +kernel
theorem dX6_hear_111 : decode cX6_hear 111 = .ok (.isub, 1) := by decide +kernel
theorem dX6_hear_112 : decode cX6_hear 112 = .ok (.ireturn, 1) := by decide +kernel
theorem dX6_hear_113 : decode cX6_hear 113 = .ok (.iload_n 3, 1) := by decide +kernel
theorem dX6_hear_114 : decode cX6_hear 114 = .ok (.ifCond .ne 24, 3) := by decide +kernel
theorem dX6_hear_117 : decode cX6_hear 117 = .ok (.iload_n 2, 1) := by decide +kernel
theorem dX6_hear_118 : decode cX6_hear 118 = .ok (.bipush 20, 2) := by decide +kernel
theorem dX6_hear_120 : decode cX6_hear 120 = .ok (.if_icmp .ge 18, 3) := by decide +kernel
theorem dX6_hear_123 : decode cX6_hear 123 = .ok (.aload_n 0, 1) := by decide +kernel
theorem dX6_hear_124 : decode cX6_hear 124 = .ok (.getfield 24, 3) := by decide +kernel
theorem dX6_hear_127 : decode cX6_hear 127 = .ok (.iload_n 2, 1) := by decide +kernel
theorem dX6_hear_128 : decode cX6_hear 128 = .ok (.aload_n 0, 1) := by decide +kernel
theorem dX6_hear_129 : decode cX6_hear 129 = .ok (.iload_n 1, 1) := by decide +kernel
theorem dX6_hear_130 : decode cX6_hear 130 = .ok (.invokevirtual 53, 3) := by decide +kernel
theorem dX6_hear_133 : decode cX6_hear 133 = .ok (.iastore, 1) := by decide +kernel
theorem dX6_hear_134 : decode cX6_hear 134 = .ok (.iload_n 2, 1) := by decide +kernel
theorem dX6_hear_135 : decode cX6_hear 135 = .ok (.iconst 1, 1) := by decide +kernel
theorem dX6_hear_136 : decode cX6_hear 136 = .ok (.iadd, 1) := by decide +kernel
theorem dX6_hear_137 : decode cX6_hear 137 = .ok (.ireturn, 1) := by decide +kernel
theorem dX6_hear_138 : decode cX6_hear 138 = .ok (.iload_n 2, 1) := by decide +kernel
theorem dX6_hear_139 : decode cX6_hear 139 = .ok (.ireturn, 1) := by decide +kernel
theorem dX6_meaningOfLeaf_0 : decode cX6_meaningOfLeaf 0 = .ok (.iload_n 1, 1) := by decide +kernel
theorem dX6_meaningOfLeaf_1 : decode cX6_meaningOfLeaf 1 = .ok (.bipush 112, 2) := by decide +kernel
theorem dX6_meaningOfLeaf_3 : decode cX6_meaningOfLeaf 3 = .ok (.isub, 1) := by decide +kernel
theorem dX6_meaningOfLeaf_4 : decode cX6_meaningOfLeaf 4 = .ok (.istore_n 2, 1) := by decide +kernel
theorem dX6_meaningOfLeaf_5 : decode cX6_meaningOfLeaf 5 = .ok (.iload_n 2, 1) := by decide +kernel
theorem dX6_meaningOfLeaf_6 : decode cX6_meaningOfLeaf 6 = .ok (.ifCond .lt 17, 3) := by decide +kernel
theorem dX6_meaningOfLeaf_9 : decode cX6_meaningOfLeaf 9 = .ok (.iload_n 2, 1) := by decide +kernel
theorem dX6_meaningOfLeaf_10 : decode cX6_meaningOfLeaf 10 = .ok (.getstatic 56, 3) := by decide +kernel
theorem dX6_meaningOfLeaf_13 : decode cX6_meaningOfLeaf 13 = .ok (.arraylength, 1) := by decide +kernel
theorem dX6_meaningOfLeaf_14 : decode cX6_meaningOfLeaf 14 = .ok (.if_icmp .ge 9, 3) := by decide +kernel
theorem dX6_meaningOfLeaf_17 : decode cX6_meaningOfLeaf 17 = .ok (.getstatic 56, 3) := by decide +kernel
theorem dX6_meaningOfLeaf_20 : decode cX6_meaningOfLeaf 20 = .ok (.iload_n 2, 1) := by decide +kernel
theorem dX6_meaningOfLeaf_21 : decode cX6_meaningOfLeaf 21 = .ok (.iaload, 1) := by decide +kernel
theorem dX6_meaningOfLeaf_22 : decode cX6_meaningOfLeaf 22 = .ok (.ireturn, 1) := by decide +kernel
theorem dX6_meaningOfLeaf_23 : decode cX6_meaningOfLeaf 23 = .ok (.iload_n 1, 1) := by decide +kernel
theorem dX6_meaningOfLeaf_24 : decode cX6_meaningOfLeaf 24 = .ok (.bipush 65, 2) := by decide +kernel
theorem dX6_meaningOfLeaf_26 : decode cX6_meaningOfLeaf 26 = .ok (.isub, 1) := by decide +kernel
theorem dX6_meaningOfLeaf_27 : decode cX6_meaningOfLeaf 27 = .ok (.istore_n 3, 1) := by decide +kernel
theorem dX6_meaningOfLeaf_28 : decode cX6_meaningOfLeaf 28 = .ok (.iload_n 3, 1) := by decide +kernel
theorem dX6_meaningOfLeaf_29 : decode cX6_meaningOfLeaf 29 = .ok (.invokestatic 59, 3) := by decide +kernel
theorem dX6_meaningOfLeaf_32 : decode cX6_meaningOfLeaf 32 = .ok (.ifCond .ne 14, 3) := by decide +kernel
theorem dX6_meaningOfLeaf_35 : decode cX6_meaningOfLeaf 35 = .ok (.aload_n 0, 1) := by decide +kernel
theorem dX6_meaningOfLeaf_36 : decode cX6_meaningOfLeaf 36 = .ok (.getfield 20, 3) := by decide +kernel
theorem dX6_meaningOfLeaf_39 : decode cX6_meaningOfLeaf 39 = .ok (.iload_n 3, 1) := by decide +kernel
theorem dX6_meaningOfLeaf_40 : decode cX6_meaningOfLeaf 40 = .ok (.iaload, 1) := by decide +kernel
theorem dX6_meaningOfLeaf_41 : decode cX6_meaningOfLeaf 41 = .ok (.bipush (-9), 2) := by decide +kernel
theorem dX6_meaningOfLeaf_43 : decode cX6_meaningOfLeaf 43 = .ok (.if_icmp .ne 7, 3) := by decide +kernel
theorem dX6_meaningOfLeaf_46 : decode cX6_meaningOfLeaf 46 = .ok (.iconst 0, 1) := by decide +kernel
theorem dX6_meaningOfLeaf_47 : decode cX6_meaningOfLeaf 47 = .ok (.goto 9, 3) := by decide +kernel
theorem dX6_meaningOfLeaf_50 : decode cX6_meaningOfLeaf 50 = .ok (.aload_n 0, 1) := by decide +kernel
theorem dX6_meaningOfLeaf_51 : decode cX6_meaningOfLeaf 51 = .ok (.getfield 20, 3) := by decide +kernel
theorem dX6_meaningOfLeaf_54 : decode cX6_meaningOfLeaf 54 = .ok (.iload_n 3, 1) := by decide +kernel
theorem dX6_meaningOfLeaf_55 : decode cX6_meaningOfLeaf 55 = .ok (.iaload, 1) := by decide +kernel
theorem dX6_meaningOfLeaf_56 : decode cX6_meaningOfLeaf 56 = .ok (.ireturn, 1) := by decide +kernel
theorem dX7_init_0 : decode cX7_init 0 = .ok (.aload_n 0, 1) := by decide +kernel
theorem dX7_init_1 : decode cX7_init 1 = .ok (.invokespecial 3, 3) := by decide +kernel
theorem dX7_init_4 : decode cX7_init 4 = .ok (.aload_n 0, 1) := by decide +kernel
theorem dX7_init_5 : decode cX7_init 5 = .ok (.bipush 20, 2) := by decide +kernel
theorem dX7_init_7 : decode cX7_init 7 = .ok (.newarray .int, 2) := by decide +kernel
theorem dX7_init_9 : decode cX7_init 9 = .ok (.putfield 9, 3) := by decide +kernel
theorem dX7_init_12 : decode cX7_init 12 = .ok (.aload_n 0, 1) := by decide +kernel
theorem dX7_init_13 : decode cX7_init 13 = .ok (.iconst 0, 1) := by decide +kernel
theorem dX7_init_14 : decode cX7_init 14 = .ok (.putfield 15, 3) := by decide +kernel
theorem dX7_init_17 : decode cX7_init 17 = .ok (.return_, 1) := by decide +kernel
theorem dX7_partsOf_0 : decode cX7_partsOf 0 = .ok (.iload_n 0, 1) := by decide +kernel
theorem dX7_partsOf_1 : decode cX7_partsOf 1 = .ok (.lookupswitch 97 #[(65, 91), (66, 91), (67, 91), (68, 91), (97, 95), (110, 93), (111, 95), (112, 91), (113, 91), (114, 91)], 91) := by decide +kernel
theorem dX7_partsOf_92 : decode cX7_partsOf 92 = .ok (.iconst 0, 1) := by decide +kernel
theorem dX7_partsOf_93 : decode cX7_partsOf 93 = .ok (.ireturn, 1) := by decide +kernel
theorem dX7_partsOf_94 : decode cX7_partsOf 94 = .ok (.iconst 1, 1) := by decide +kernel
theorem dX7_partsOf_95 : decode cX7_partsOf 95 = .ok (.ireturn, 1) := by decide +kernel
theorem dX7_partsOf_96 : decode cX7_partsOf 96 = .ok (.iconst 2, 1) := by decide +kernel
theorem dX7_partsOf_97 : decode cX7_partsOf 97 = .ok (.ireturn, 1) := by decide +kernel
theorem dX7_partsOf_98 : decode cX7_partsOf 98 = .ok (.iconst (-1), 1) := by decide +kernel
theorem dX7_partsOf_99 : decode cX7_partsOf 99 = .ok (.ireturn, 1) := by decide +kernel
theorem dX7_add_0 : decode cX7_add 0 = .ok (.aload_n 0, 1) := by decide +kernel
theorem dX7_add_1 : decode cX7_add 1 = .ok (.getfield 15, 3) := by decide +kernel
theorem dX7_add_4 : decode cX7_add 4 = .ok (.bipush 20, 2) := by decide +kernel
theorem dX7_add_6 : decode cX7_add 6 = .ok (.if_icmp .ge 23, 3) := by decide +kernel
theorem dX7_add_9 : decode cX7_add 9 = .ok (.aload_n 0, 1) := by decide +kernel
theorem dX7_add_10 : decode cX7_add 10 = .ok (.getfield 9, 3) := by decide +kernel
theorem dX7_add_13 : decode cX7_add 13 = .ok (.aload_n 0, 1) := by decide +kernel
theorem dX7_add_14 : decode cX7_add 14 = .ok (.getfield 15, 3) := by decide +kernel
theorem dX7_add_17 : decode cX7_add 17 = .ok (.iload_n 1, 1) := by decide +kernel
theorem dX7_add_18 : decode cX7_add 18 = .ok (.iastore, 1) := by decide +kernel
theorem dX7_add_19 : decode cX7_add 19 = .ok (.aload_n 0, 1) := by decide +kernel
theorem dX7_add_20 : decode cX7_add 20 = .ok (.dup, 1) := by decide +kernel
theorem dX7_add_21 : decode cX7_add 21 = .ok (.getfield 15, 3) := by decide +kernel
theorem dX7_add_24 : decode cX7_add 24 = .ok (.iconst 1, 1) := by decide +kernel
theorem dX7_add_25 : decode cX7_add 25 = .ok (.iadd, 1) := by decide +kernel
theorem dX7_add_26 : decode cX7_add 26 = .ok (.putfield 15, 3) := by decide +kernel
theorem dX7_add_29 : decode cX7_add 29 = .ok (.return_, 1) := by decide +kernel
theorem dX7_copy_0 : decode cX7_copy 0 = .ok (.aload_n 0, 1) := by decide +kernel
theorem dX7_copy_1 : decode cX7_copy 1 = .ok (.iconst 0, 1) := by decide +kernel
theorem dX7_copy_2 : decode cX7_copy 2 = .ok (.putfield 15, 3) := by decide +kernel
theorem dX7_copy_5 : decode cX7_copy 5 = .ok (.aload_n 0, 1) := by decide +kernel
theorem dX7_copy_6 : decode cX7_copy 6 = .ok (.aload_n 1, 1) := by decide +kernel
theorem dX7_copy_7 : decode cX7_copy 7 = .ok (.iconst 0, 1) := by decide +kernel
theorem dX7_copy_8 : decode cX7_copy 8 = .ok (.aload_n 1, 1) := by decide +kernel
theorem dX7_copy_9 : decode cX7_copy 9 = .ok (.getfield 15, 3) := by decide +kernel
theorem dX7_copy_12 : decode cX7_copy 12 = .ok (.invokevirtual 19, 3) := by decide +kernel
theorem dX7_copy_15 : decode cX7_copy 15 = .ok (.return_, 1) := by decide +kernel
theorem dX7_copyWithPartAlone_0 : decode cX7_copyWithPartAlone 0 = .ok (.iload_n 2, 1) := by decide +kernel
theorem dX7_copyWithPartAlone_1 : decode cX7_copyWithPartAlone 1 = .ok (.iconst 1, 1) := by decide +kernel
theorem dX7_copyWithPartAlone_2 : decode cX7_copyWithPartAlone 2 = .ok (.iadd, 1) := by decide +kernel
theorem dX7_copyWithPartAlone_3 : decode cX7_copyWithPartAlone 3 = .ok (.istore 4, 2) := by decide +kernel
theorem dX7_copyWithPartAlone_5 : decode cX7_copyWithPartAlone 5 = .ok (.iconst 0, 1) := by decide +kernel
theorem dX7_copyWithPartAlone_6 : decode cX7_copyWithPartAlone 6 = .ok (.istore 5, 2) := by decide +kernel
theorem dX7_copyWithPartAlone_8 : decode cX7_copyWithPartAlone 8 = .ok (.iload 5, 2) := by decide +kernel
theorem dX7_copyWithPartAlone_10 : decode cX7_copyWithPartAlone 10 = .ok (.iload_n 3, 1) := by decide +kernel
theorem dX7_copyWithPartAlone_11 : decode cX7_copyWithPartAlone 11 = .ok (.if_icmp .ge 17, 3) := by decide +kernel
theorem dX7_copyWithPartAlone_14 : decode cX7_copyWithPartAlone 14 = .ok (.aload_n 1, 1) := by decide +kernel
theorem dX7_copyWithPartAlone_15 : decode cX7_copyWithPartAlone 15 = .ok (.iload 4, 2) := by decide +kernel
theorem dX7_copyWithPartAlone_17 : decode cX7_copyWithPartAlone 17 = .ok (.invokevirtual 23, 3) := by decide +kernel
theorem dX7_copyWithPartAlone_20 : decode cX7_copyWithPartAlone 20 = .ok (.istore 4, 2) := by decide +kernel
theorem dX7_copyWithPartAlone_22 : decode cX7_copyWithPartAlone 22 = .ok (.iinc 5 1, 3) := by decide +kernel
theorem dX7_copyWithPartAlone_25 : decode cX7_copyWithPartAlone 25 = .ok (.goto (-17), 3) := by decide +kernel
theorem dX7_copyWithPartAlone_28 : decode cX7_copyWithPartAlone 28 = .ok (.aload_n 0, 1) := by decide +kernel
theorem dX7_copyWithPartAlone_29 : decode cX7_copyWithPartAlone 29 = .ok (.iconst 0, 1) := by decide +kernel
theorem dX7_copyWithPartAlone_30 : decode cX7_copyWithPartAlone 30 = .ok (.putfield 15, 3) := by decide +kernel
theorem dX7_copyWithPartAlone_33 : decode cX7_copyWithPartAlone 33 = .ok (.aload_n 0, 1) := by decide +kernel
theorem dX7_copyWithPartAlone_34 : decode cX7_copyWithPartAlone 34 = .ok (.aload_n 1, 1) := by decide +kernel
theorem dX7_copyWithPartAlone_35 : decode cX7_copyWithPartAlone 35 = .ok (.iconst 0, 1) := by decide +kernel
theorem dX7_copyWithPartAlone_36 : decode cX7_copyWithPartAlone 36 = .ok (.iload_n 2, 1) := by decide +kernel
theorem dX7_copyWithPartAlone_37 : decode cX7_copyWithPartAlone 37 = .ok (.invokevirtual 19, 3) := by decide +kernel
theorem dX7_copyWithPartAlone_40 : decode cX7_copyWithPartAlone 40 = .ok (.aload_n 0, 1) := by decide +kernel
theorem dX7_copyWithPartAlone_41 : decode cX7_copyWithPartAlone 41 = .ok (.aload_n 1, 1) := by decide +kernel
theorem dX7_copyWithPartAlone_42 : decode cX7_copyWithPartAlone 42 = .ok (.iload 4, 2) := by decide +kernel
theorem dX7_copyWithPartAlone_44 : decode cX7_copyWithPartAlone 44 = .ok (.aload_n 1, 1) := by decide +kernel
theorem dX7_copyWithPartAlone_45 : decode cX7_copyWithPartAlone 45 = .ok (.iload 4, 2) := by decide +kernel
theorem dX7_copyWithPartAlone_47 : decode cX7_copyWithPartAlone 47 = .ok (.invokevirtual 23, 3) := by decide +kernel
theorem dX7_copyWithPartAlone_50 : decode cX7_copyWithPartAlone 50 = .ok (.invokevirtual 19, 3) := by decide +kernel
theorem dX7_copyWithPartAlone_53 : decode cX7_copyWithPartAlone 53 = .ok (.aload_n 0, 1) := by decide +kernel
theorem dX7_copyWithPartAlone_54 : decode cX7_copyWithPartAlone 54 = .ok (.aload_n 1, 1) := by decide +kernel
theorem dX7_copyWithPartAlone_55 : decode cX7_copyWithPartAlone 55 = .ok (.aload_n 1, 1) := by decide +kernel
theorem dX7_copyWithPartAlone_56 : decode cX7_copyWithPartAlone 56 = .ok (.iload_n 2, 1) := by decide +kernel
theorem dX7_copyWithPartAlone_57 : decode cX7_copyWithPartAlone 57 = .ok (.invokevirtual 23, 3) := by decide +kernel
theorem dX7_copyWithPartAlone_60 : decode cX7_copyWithPartAlone 60 = .ok (.aload_n 1, 1) := by decide +kernel
theorem dX7_copyWithPartAlone_61 : decode cX7_copyWithPartAlone 61 = .ok (.getfield 15, 3) := by decide +kernel
theorem dX7_copyWithPartAlone_64 : decode cX7_copyWithPartAlone 64 = .ok (.invokevirtual 19, 3) := by decide +kernel
theorem dX7_copyWithPartAlone_67 : decode cX7_copyWithPartAlone 67 = .ok (.return_, 1) := by decide +kernel
theorem dX7_addFrom_0 : decode cX7_addFrom 0 = .ok (.iload_n 2, 1) := by decide +kernel
theorem dX7_addFrom_1 : decode cX7_addFrom 1 = .ok (.istore 4, 2) := by decide +kernel
theorem dX7_addFrom_3 : decode cX7_addFrom 3 = .ok (.iload 4, 2) := by decide +kernel
theorem dX7_addFrom_5 : decode cX7_addFrom 5 = .ok (.iload_n 3, 1) := by decide +kernel
theorem dX7_addFrom_6 : decode cX7_addFrom 6 = .ok (.if_icmp .ge 29, 3) := by decide +kernel
theorem dX7_addFrom_9 : decode cX7_addFrom 9 = .ok (.iload 4, 2) := by decide +kernel
theorem dX7_addFrom_11 : decode cX7_addFrom 11 = .ok (.aload_n 1, 1) := by decide +kernel
theorem dX7_addFrom_12 : decode cX7_addFrom 12 = .ok (.getfield 15, 3) := by decide +kernel
theorem dX7_addFrom_15 : decode cX7_addFrom 15 = .ok (.if_icmp .ge 20, 3) := by decide +kernel
theorem dX7_addFrom_18 : decode cX7_addFrom 18 = .ok (.aload_n 0, 1) := by decide +kernel
theorem dX7_addFrom_19 : decode cX7_addFrom 19 = .ok (.aload_n 1, 1) := by decide +kernel
theorem dX7_addFrom_20 : decode cX7_addFrom 20 = .ok (.getfield 9, 3) := by decide +kernel
theorem dX7_addFrom_23 : decode cX7_addFrom 23 = .ok (.iload 4, 2) := by decide +kernel
theorem dX7_addFrom_25 : decode cX7_addFrom 25 = .ok (.iaload, 1) := by decide +kernel
theorem dX7_addFrom_26 : decode cX7_addFrom 26 = .ok (.invokevirtual 27, 3) := by decide +kernel
theorem dX7_addFrom_29 : decode cX7_addFrom 29 = .ok (.iinc 4 1, 3) := by decide +kernel
theorem dX7_addFrom_32 : decode cX7_addFrom 32 = .ok (.goto (-29), 3) := by decide +kernel
theorem dX7_addFrom_35 : decode cX7_addFrom 35 = .ok (.return_, 1) := by decide +kernel
theorem dX7_behind_0 : decode cX7_behind 0 = .ok (.iconst 1, 1) := by decide +kernel
theorem dX7_behind_1 : decode cX7_behind 1 = .ok (.istore_n 2, 1) := by decide +kernel
theorem dX7_behind_2 : decode cX7_behind 2 = .ok (.iload_n 1, 1) := by decide +kernel
theorem dX7_behind_3 : decode cX7_behind 3 = .ok (.istore_n 3, 1) := by decide +kernel
theorem dX7_behind_4 : decode cX7_behind 4 = .ok (.iload_n 3, 1) := by decide +kernel
theorem dX7_behind_5 : decode cX7_behind 5 = .ok (.aload_n 0, 1) := by decide +kernel
theorem dX7_behind_6 : decode cX7_behind 6 = .ok (.getfield 15, 3) := by decide +kernel
theorem dX7_behind_9 : decode cX7_behind 9 = .ok (.if_icmp .ge 27, 3) := by decide +kernel
theorem dX7_behind_12 : decode cX7_behind 12 = .ok (.iload_n 2, 1) := by decide +kernel
theorem dX7_behind_13 : decode cX7_behind 13 = .ok (.ifCond .le 23, 3) := by decide +kernel
theorem dX7_behind_16 : decode cX7_behind 16 = .ok (.iload_n 2, 1) := by decide +kernel
theorem dX7_behind_17 : decode cX7_behind 17 = .ok (.aload_n 0, 1) := by decide +kernel
theorem dX7_behind_18 : decode cX7_behind 18 = .ok (.getfield 9, 3) := by decide +kernel
theorem dX7_behind_21 : decode cX7_behind 21 = .ok (.iload_n 3, 1) := by decide +kernel
theorem dX7_behind_22 : decode cX7_behind 22 = .ok (.iaload, 1) := by decide +kernel
theorem dX7_behind_23 : decode cX7_behind 23 = .ok (.invokestatic 31, 3) := by decide +kernel
theorem dX7_behind_26 : decode cX7_behind 26 = .ok (.iconst 1, 1) := by decide +kernel
theorem dX7_behind_27 : decode cX7_behind 27 = .ok (.isub, 1) := by decide +kernel
theorem dX7_behind_28 : decode cX7_behind 28 = .ok (.iadd, 1) := by decide +kernel
theorem dX7_behind_29 : decode cX7_behind 29 = .ok (.istore_n 2, 1) := by decide +kernel
theorem dX7_behind_30 : decode cX7_behind 30 = .ok (.iinc 3 1, 3) := by decide +kernel
theorem dX7_behind_33 : decode cX7_behind 33 = .ok (.goto (-29), 3) := by decide +kernel
theorem dX7_behind_36 : decode cX7_behind 36 = .ok (.iload_n 3, 1) := by decide +kernel
theorem dX7_behind_37 : decode cX7_behind 37 = .ok (.ireturn, 1) := by decide +kernel
theorem dX8_init_0 : decode cX8_init 0 = .ok (.aload_n 0, 1) := by decide +kernel
theorem dX8_init_1 : decode cX8_init 1 = .ok (.invokespecial 3, 3) := by decide +kernel
theorem dX8_init_4 : decode cX8_init 4 = .ok (.aload_n 0, 1) := by decide +kernel
theorem dX8_init_5 : decode cX8_init 5 = .ok (.iconst 5, 1) := by decide +kernel
theorem dX8_init_6 : decode cX8_init 6 = .ok (.anewarray 9, 3) := by decide +kernel
theorem dX8_init_9 : decode cX8_init 9 = .ok (.putfield 11, 3) := by decide +kernel
theorem dX8_init_12 : decode cX8_init 12 = .ok (.aload_n 0, 1) := by decide +kernel
theorem dX8_init_13 : decode cX8_init 13 = .ok (.iconst 5, 1) := by decide +kernel
theorem dX8_init_14 : decode cX8_init 14 = .ok (.newarray .int, 2) := by decide +kernel
theorem dX8_init_16 : decode cX8_init 16 = .ok (.putfield 17, 3) := by decide +kernel
theorem dX8_init_19 : decode cX8_init 19 = .ok (.aload_n 0, 1) := by decide +kernel
theorem dX8_init_20 : decode cX8_init 20 = .ok (.iconst 0, 1) := by decide +kernel
theorem dX8_init_21 : decode cX8_init 21 = .ok (.putfield 21, 3) := by decide +kernel
theorem dX8_init_24 : decode cX8_init 24 = .ok (.aload_n 0, 1) := by decide +kernel
theorem dX8_init_25 : decode cX8_init 25 = .ok (.bipush 6, 2) := by decide +kernel
theorem dX8_init_27 : decode cX8_init 27 = .ok (.anewarray 25, 3) := by decide +kernel
theorem dX8_init_30 : decode cX8_init 30 = .ok (.putfield 27, 3) := by decide +kernel
theorem dX8_init_33 : decode cX8_init 33 = .ok (.aload_n 0, 1) := by decide +kernel
theorem dX8_init_34 : decode cX8_init 34 = .ok (.iconst 0, 1) := by decide +kernel
theorem dX8_init_35 : decode cX8_init 35 = .ok (.putfield 31, 3) := by decide +kernel
theorem dX8_init_38 : decode cX8_init 38 = .ok (.aload_n 0, 1) := by decide +kernel
theorem dX8_init_39 : decode cX8_init 39 = .ok (.iconst 4, 1) := by decide +kernel
theorem dX8_init_40 : decode cX8_init 40 = .ok (.newarray .int, 2) := by decide +kernel
theorem dX8_init_42 : decode cX8_init 42 = .ok (.putfield 34, 3) := by decide +kernel
theorem dX8_init_45 : decode cX8_init 45 = .ok (.iconst 0, 1) := by decide +kernel
theorem dX8_init_46 : decode cX8_init 46 = .ok (.istore_n 1, 1) := by decide +kernel
theorem dX8_init_47 : decode cX8_init 47 = .ok (.iload_n 1, 1) := by decide +kernel
theorem dX8_init_48 : decode cX8_init 48 = .ok (.bipush 6, 2) := by decide +kernel
theorem dX8_init_50 : decode cX8_init 50 = .ok (.if_icmp .ge 22, 3) := by decide +kernel
theorem dX8_init_53 : decode cX8_init 53 = .ok (.aload_n 0, 1) := by decide +kernel
theorem dX8_init_54 : decode cX8_init 54 = .ok (.getfield 27, 3) := by decide +kernel
theorem dX8_init_57 : decode cX8_init 57 = .ok (.iload_n 1, 1) := by decide +kernel
theorem dX8_init_58 : decode cX8_init 58 = .ok (.new 25, 3) := by decide +kernel
theorem dX8_init_61 : decode cX8_init 61 = .ok (.dup, 1) := by decide +kernel
theorem dX8_init_62 : decode cX8_init 62 = .ok (.invokespecial 37, 3) := by decide +kernel
theorem dX8_init_65 : decode cX8_init 65 = .ok (.aastore, 1) := by decide +kernel
theorem dX8_init_66 : decode cX8_init 66 = .ok (.iinc 1 1, 3) := by decide +kernel
theorem dX8_init_69 : decode cX8_init 69 = .ok (.goto (-22), 3) := by decide +kernel
theorem dX8_init_72 : decode cX8_init 72 = .ok (.aload_n 0, 1) := by decide +kernel
theorem dX8_init_73 : decode cX8_init 73 = .ok (.getfield 34, 3) := by decide +kernel
theorem dX8_init_76 : decode cX8_init 76 = .ok (.bipush (-9), 2) := by decide +kernel
theorem dX8_init_78 : decode cX8_init 78 = .ok (.invokestatic 38, 3) := by decide +kernel
theorem dX8_init_81 : decode cX8_init 81 = .ok (.return_, 1) := by decide +kernel
theorem dX8_copy_0 : decode cX8_copy 0 = .ok (.aload_n 0, 1) := by decide +kernel
theorem dX8_copy_1 : decode cX8_copy 1 = .ok (.aload_n 1, 1) := by decide +kernel
theorem dX8_copy_2 : decode cX8_copy 2 = .ok (.getfield 21, 3) := by decide +kernel
theorem dX8_copy_5 : decode cX8_copy 5 = .ok (.putfield 21, 3) := by decide +kernel
theorem dX8_copy_8 : decode cX8_copy 8 = .ok (.iconst 0, 1) := by decide +kernel
theorem dX8_copy_9 : decode cX8_copy 9 = .ok (.istore_n 2, 1) := by decide +kernel
theorem dX8_copy_10 : decode cX8_copy 10 = .ok (.iload_n 2, 1) := by decide +kernel
theorem dX8_copy_11 : decode cX8_copy 11 = .ok (.aload_n 0, 1) := by decide +kernel
theorem dX8_copy_12 : decode cX8_copy 12 = .ok (.getfield 21, 3) := by decide +kernel
theorem dX8_copy_15 : decode cX8_copy 15 = .ok (.if_icmp .ge 33, 3) := by decide +kernel
theorem dX8_copy_18 : decode cX8_copy 18 = .ok (.aload_n 0, 1) := by decide +kernel
theorem dX8_copy_19 : decode cX8_copy 19 = .ok (.getfield 11, 3) := by decide +kernel
theorem dX8_copy_22 : decode cX8_copy 22 = .ok (.iload_n 2, 1) := by decide +kernel
theorem dX8_copy_23 : decode cX8_copy 23 = .ok (.aload_n 1, 1) := by decide +kernel
theorem dX8_copy_24 : decode cX8_copy 24 = .ok (.getfield 11, 3) := by decide +kernel
theorem dX8_copy_27 : decode cX8_copy 27 = .ok (.iload_n 2, 1) := by decide +kernel
theorem dX8_copy_28 : decode cX8_copy 28 = .ok (.aaload, 1) := by decide +kernel
theorem dX8_copy_29 : decode cX8_copy 29 = .ok (.aastore, 1) := by decide +kernel
theorem dX8_copy_30 : decode cX8_copy 30 = .ok (.aload_n 0, 1) := by decide +kernel
theorem dX8_copy_31 : decode cX8_copy 31 = .ok (.getfield 17, 3) := by decide +kernel
theorem dX8_copy_34 : decode cX8_copy 34 = .ok (.iload_n 2, 1) := by decide +kernel
theorem dX8_copy_35 : decode cX8_copy 35 = .ok (.aload_n 1, 1) := by decide +kernel
theorem dX8_copy_36 : decode cX8_copy 36 = .ok (.getfield 17, 3) := by decide +kernel
theorem dX8_copy_39 : decode cX8_copy 39 = .ok (.iload_n 2, 1) := by decide +kernel
theorem dX8_copy_40 : decode cX8_copy 40 = .ok (.iaload, 1) := by decide +kernel
theorem dX8_copy_41 : decode cX8_copy 41 = .ok (.iastore, 1) := by decide +kernel
theorem dX8_copy_42 : decode cX8_copy 42 = .ok (.iinc 2 1, 3) := by decide +kernel
theorem dX8_copy_45 : decode cX8_copy 45 = .ok (.goto (-35), 3) := by decide +kernel
theorem dX8_copy_48 : decode cX8_copy 48 = .ok (.aload_n 0, 1) := by decide +kernel
theorem dX8_copy_49 : decode cX8_copy 49 = .ok (.aload_n 1, 1) := by decide +kernel
theorem dX8_copy_50 : decode cX8_copy 50 = .ok (.getfield 31, 3) := by decide +kernel
theorem dX8_copy_53 : decode cX8_copy 53 = .ok (.putfield 31, 3) := by decide +kernel
theorem dX8_copy_56 : decode cX8_copy 56 = .ok (.iconst 0, 1) := by decide +kernel
theorem dX8_copy_57 : decode cX8_copy 57 = .ok (.istore_n 2, 1) := by decide +kernel
theorem dX8_copy_58 : decode cX8_copy 58 = .ok (.iload_n 2, 1) := by decide +kernel
theorem dX8_copy_59 : decode cX8_copy 59 = .ok (.aload_n 0, 1) := by decide +kernel
theorem dX8_copy_60 : decode cX8_copy 60 = .ok (.getfield 31, 3) := by decide +kernel
theorem dX8_copy_63 : decode cX8_copy 63 = .ok (.if_icmp .ge 24, 3) := by decide +kernel
theorem dX8_copy_66 : decode cX8_copy 66 = .ok (.aload_n 0, 1) := by decide +kernel
theorem dX8_copy_67 : decode cX8_copy 67 = .ok (.getfield 27, 3) := by decide +kernel
theorem dX8_copy_70 : decode cX8_copy 70 = .ok (.iload_n 2, 1) := by decide +kernel
theorem dX8_copy_71 : decode cX8_copy 71 = .ok (.aaload, 1) := by decide +kernel
theorem dX8_copy_72 : decode cX8_copy 72 = .ok (.aload_n 1, 1) := by decide +kernel
theorem dX8_copy_73 : decode cX8_copy 73 = .ok (.getfield 27, 3) := by decide +kernel
theorem dX8_copy_76 : decode cX8_copy 76 = .ok (.iload_n 2, 1) := by decide +kernel
theorem dX8_copy_77 : decode cX8_copy 77 = .ok (.aaload, 1) := by decide +kernel
theorem dX8_copy_78 : decode cX8_copy 78 = .ok (.invokevirtual 44, 3) := by decide +kernel
theorem dX8_copy_81 : decode cX8_copy 81 = .ok (.iinc 2 1, 3) := by decide +kernel
theorem dX8_copy_84 : decode cX8_copy 84 = .ok (.goto (-26), 3) := by decide +kernel
theorem dX8_copy_87 : decode cX8_copy 87 = .ok (.iconst 0, 1) := by decide +kernel
theorem dX8_copy_88 : decode cX8_copy 88 = .ok (.istore_n 2, 1) := by decide +kernel
theorem dX8_copy_89 : decode cX8_copy 89 = .ok (.iload_n 2, 1) := by decide +kernel
theorem dX8_copy_90 : decode cX8_copy 90 = .ok (.iconst 4, 1) := by decide +kernel
theorem dX8_copy_91 : decode cX8_copy 91 = .ok (.if_icmp .ge 21, 3) := by decide +kernel
theorem dX8_copy_94 : decode cX8_copy 94 = .ok (.aload_n 0, 1) := by decide +kernel
theorem dX8_copy_95 : decode cX8_copy 95 = .ok (.getfield 34, 3) := by decide +kernel
theorem dX8_copy_98 : decode cX8_copy 98 = .ok (.iload_n 2, 1) := by decide +kernel
theorem dX8_copy_99 : decode cX8_copy 99 = .ok (.aload_n 1, 1) := by decide +kernel
theorem dX8_copy_100 : decode cX8_copy 100 = .ok (.getfield 34, 3) := by decide +kernel
theorem dX8_copy_103 : decode cX8_copy 103 = .ok (.iload_n 2, 1) := by decide +kernel
theorem dX8_copy_104 : decode cX8_copy 104 = .ok (.iaload, 1) := by decide +kernel
theorem dX8_copy_105 : decode cX8_copy 105 = .ok (.iastore, 1) := by decide +kernel
theorem dX8_copy_106 : decode cX8_copy 106 = .ok (.iinc 2 1, 3) := by decide +kernel
theorem dX8_copy_109 : decode cX8_copy 109 = .ok (.goto (-20), 3) := by decide +kernel
theorem dX8_copy_112 : decode cX8_copy 112 = .ok (.return_, 1) := by decide +kernel
theorem dX8_addStranger_0 : decode cX8_addStranger 0 = .ok (.iload_n 1, 1) := by decide +kernel
theorem dX8_addStranger_1 : decode cX8_addStranger 1 = .ok (.iload_n 2, 1) := by decide +kernel
theorem dX8_addStranger_2 : decode cX8_addStranger 2 = .ok (.invokestatic 48, 3) := by decide +kernel
theorem dX8_addStranger_5 : decode cX8_addStranger 5 = .ok (.astore_n 3, 1) := by decide +kernel
theorem dX8_addStranger_6 : decode cX8_addStranger 6 = .ok (.aload_n 3, 1) := by decide +kernel
theorem dX8_addStranger_7 : decode cX8_addStranger 7 = .ok (.ifnull 11, 3) := by decide +kernel
theorem dX8_addStranger_10 : decode cX8_addStranger 10 = .ok (.aload_n 0, 1) := by decide +kernel
theorem dX8_addStranger_11 : decode cX8_addStranger 11 = .ok (.getfield 21, 3) := by decide +kernel
theorem dX8_addStranger_14 : decode cX8_addStranger 14 = .ok (.iconst 5, 1) := by decide +kernel
theorem dX8_addStranger_15 : decode cX8_addStranger 15 = .ok (.if_icmp .lt 5, 3) := by decide +kernel
theorem dX8_addStranger_18 : decode cX8_addStranger 18 = .ok (.iconst 0, 1) := by decide +kernel
theorem dX8_addStranger_19 : decode cX8_addStranger 19 = .ok (.ireturn, 1) := by decide +kernel
theorem dX8_addStranger_20 : decode cX8_addStranger 20 = .ok (.aload_n 0, 1) := by decide +kernel
theorem dX8_addStranger_21 : decode cX8_addStranger 21 = .ok (.getfield 11, 3) := by decide +kernel
theorem dX8_addStranger_24 : decode cX8_addStranger 24 = .ok (.aload_n 0, 1) := by decide +kernel
theorem dX8_addStranger_25 : decode cX8_addStranger 25 = .ok (.getfield 21, 3) := by decide +kernel
theorem dX8_addStranger_28 : decode cX8_addStranger 28 = .ok (.aload_n 3, 1) := by decide +kernel
theorem dX8_addStranger_29 : decode cX8_addStranger 29 = .ok (.aastore, 1) := by decide +kernel
theorem dX8_addStranger_30 : decode cX8_addStranger 30 = .ok (.aload_n 0, 1) := by decide +kernel
theorem dX8_addStranger_31 : decode cX8_addStranger 31 = .ok (.getfield 17, 3) := by decide +kernel
theorem dX8_addStranger_34 : decode cX8_addStranger 34 = .ok (.aload_n 0, 1) := by decide +kernel
theorem dX8_addStranger_35 : decode cX8_addStranger 35 = .ok (.getfield 21, 3) := by decide +kernel
theorem dX8_addStranger_38 : decode cX8_addStranger 38 = .ok (.iconst 0, 1) := by decide +kernel
theorem dX8_addStranger_39 : decode cX8_addStranger 39 = .ok (.iastore, 1) := by decide +kernel
theorem dX8_addStranger_40 : decode cX8_addStranger 40 = .ok (.aload_n 0, 1) := by decide +kernel
theorem dX8_addStranger_41 : decode cX8_addStranger 41 = .ok (.dup, 1) := by decide +kernel
theorem dX8_addStranger_42 : decode cX8_addStranger 42 = .ok (.getfield 21, 3) := by decide +kernel
theorem dX8_addStranger_45 : decode cX8_addStranger 45 = .ok (.iconst 1, 1) := by decide +kernel
theorem dX8_addStranger_46 : decode cX8_addStranger 46 = .ok (.iadd, 1) := by decide +kernel
theorem dX8_addStranger_47 : decode cX8_addStranger 47 = .ok (.putfield 21, 3) := by decide +kernel
theorem dX8_addStranger_50 : decode cX8_addStranger 50 = .ok (.iconst 1, 1) := by decide +kernel
theorem dX8_addStranger_51 : decode cX8_addStranger 51 = .ok (.ireturn, 1) := by decide +kernel
theorem dX8_addScholar_0 : decode cX8_addScholar 0 = .ok (.aload_n 0, 1) := by decide +kernel
theorem dX8_addScholar_1 : decode cX8_addScholar 1 = .ok (.getfield 31, 3) := by decide +kernel
theorem dX8_addScholar_4 : decode cX8_addScholar 4 = .ok (.bipush 6, 2) := by decide +kernel
theorem dX8_addScholar_6 : decode cX8_addScholar 6 = .ok (.if_icmp .lt 5, 3) := by decide +kernel
theorem dX8_addScholar_9 : decode cX8_addScholar 9 = .ok (.iconst 0, 1) := by decide +kernel
theorem dX8_addScholar_10 : decode cX8_addScholar 10 = .ok (.ireturn, 1) := by decide +kernel
theorem dX8_addScholar_11 : decode cX8_addScholar 11 = .ok (.aload_n 0, 1) := by decide +kernel
theorem dX8_addScholar_12 : decode cX8_addScholar 12 = .ok (.getfield 27, 3) := by decide +kernel
theorem dX8_addScholar_15 : decode cX8_addScholar 15 = .ok (.aload_n 0, 1) := by decide +kernel
theorem dX8_addScholar_16 : decode cX8_addScholar 16 = .ok (.getfield 31, 3) := by decide +kernel
theorem dX8_addScholar_19 : decode cX8_addScholar 19 = .ok (.aaload, 1) := by decide +kernel
theorem dX8_addScholar_20 : decode cX8_addScholar 20 = .ok (.aload_n 1, 1) := by decide +kernel
theorem dX8_addScholar_21 : decode cX8_addScholar 21 = .ok (.invokevirtual 44, 3) := by decide +kernel
theorem dX8_addScholar_24 : decode cX8_addScholar 24 = .ok (.aload_n 0, 1) := by decide +kernel
theorem dX8_addScholar_25 : decode cX8_addScholar 25 = .ok (.dup, 1) := by decide +kernel
theorem dX8_addScholar_26 : decode cX8_addScholar 26 = .ok (.getfield 31, 3) := by decide +kernel
theorem dX8_addScholar_29 : decode cX8_addScholar 29 = .ok (.iconst 1, 1) := by decide +kernel
theorem dX8_addScholar_30 : decode cX8_addScholar 30 = .ok (.iadd, 1) := by decide +kernel
theorem dX8_addScholar_31 : decode cX8_addScholar 31 = .ok (.putfield 31, 3) := by decide +kernel
theorem dX8_addScholar_34 : decode cX8_addScholar 34 = .ok (.iconst 1, 1) := by decide +kernel
theorem dX8_addScholar_35 : decode cX8_addScholar 35 = .ok (.ireturn, 1) := by decide +kernel
theorem dX8_coinName_0 : decode cX8_coinName 0 = .ok (.iload_n 1, 1) := by decide +kernel
theorem dX8_coinName_1 : decode cX8_coinName 1 = .ok (.invokestatic 52, 3) := by decide +kernel
theorem dX8_coinName_4 : decode cX8_coinName 4 = .ok (.ifCond .eq 5, 3) := by decide +kernel
theorem dX8_coinName_7 : decode cX8_coinName 7 = .ok (.iconst 0, 1) := by decide +kernel
theorem dX8_coinName_8 : decode cX8_coinName 8 = .ok (.ireturn, 1) := by decide +kernel
theorem dX8_coinName_9 : decode cX8_coinName 9 = .ok (.aload_n 0, 1) := by decide +kernel
theorem dX8_coinName_10 : decode cX8_coinName 10 = .ok (.getfield 34, 3) := by decide +kernel
theorem dX8_coinName_13 : decode cX8_coinName 13 = .ok (.iload_n 1, 1) := by decide +kernel
theorem dX8_coinName_14 : decode cX8_coinName 14 = .ok (.iload_n 2, 1) := by decide +kernel
theorem dX8_coinName_15 : decode cX8_coinName 15 = .ok (.iastore, 1) := by decide +kernel
theorem dX8_coinName_16 : decode cX8_coinName 16 = .ok (.iconst 1, 1) := by decide +kernel
theorem dX8_coinName_17 : decode cX8_coinName 17 = .ok (.ireturn, 1) := by decide +kernel
theorem dX8_turnLearnt_0 : decode cX8_turnLearnt 0 = .ok (.iload_n 1, 1) := by decide +kernel
theorem dX8_turnLearnt_1 : decode cX8_turnLearnt 1 = .ok (.ifCond .lt 18, 3) := by decide +kernel
theorem dX8_turnLearnt_4 : decode cX8_turnLearnt 4 = .ok (.iload_n 1, 1) := by decide +kernel
theorem dX8_turnLearnt_5 : decode cX8_turnLearnt 5 = .ok (.aload_n 0, 1) := by decide +kernel
theorem dX8_turnLearnt_6 : decode cX8_turnLearnt 6 = .ok (.getfield 21, 3) := by decide +kernel
theorem dX8_turnLearnt_9 : decode cX8_turnLearnt 9 = .ok (.if_icmp .ge 10, 3) := by decide +kernel
theorem dX8_turnLearnt_12 : decode cX8_turnLearnt 12 = .ok (.iload_n 2, 1) := by decide +kernel
theorem dX8_turnLearnt_13 : decode cX8_turnLearnt 13 = .ok (.invokestatic 52, 3) := by decide +kernel
theorem dX8_turnLearnt_16 : decode cX8_turnLearnt 16 = .ok (.ifCond .eq 5, 3) := by decide +kernel
theorem dX8_turnLearnt_19 : decode cX8_turnLearnt 19 = .ok (.iconst 0, 1) := by decide +kernel
theorem dX8_turnLearnt_20 : decode cX8_turnLearnt 20 = .ok (.ireturn, 1) := by decide +kernel
theorem dX8_turnLearnt_21 : decode cX8_turnLearnt 21 = .ok (.aload_n 0, 1) := by decide +kernel
theorem dX8_turnLearnt_22 : decode cX8_turnLearnt 22 = .ok (.getfield 17, 3) := by decide +kernel
theorem dX8_turnLearnt_25 : decode cX8_turnLearnt 25 = .ok (.iload_n 1, 1) := by decide +kernel
theorem dX8_turnLearnt_26 : decode cX8_turnLearnt 26 = .ok (.dup2, 1) := by decide +kernel
theorem dX8_turnLearnt_27 : decode cX8_turnLearnt 27 = .ok (.iaload, 1) := by decide +kernel
theorem dX8_turnLearnt_28 : decode cX8_turnLearnt 28 = .ok (.iconst 1, 1) := by decide +kernel
theorem dX8_turnLearnt_29 : decode cX8_turnLearnt 29 = .ok (.iload_n 2, 1) := by decide +kernel
theorem dX8_turnLearnt_30 : decode cX8_turnLearnt 30 = .ok (.ishl, 1) := by decide +kernel
theorem dX8_turnLearnt_31 : decode cX8_turnLearnt 31 = .ok (.ixor, 1) := by decide +kernel
theorem dX8_turnLearnt_32 : decode cX8_turnLearnt 32 = .ok (.iastore, 1) := by decide +kernel
theorem dX8_turnLearnt_33 : decode cX8_turnLearnt 33 = .ok (.iconst 1, 1) := by decide +kernel
theorem dX8_turnLearnt_34 : decode cX8_turnLearnt 34 = .ok (.ireturn, 1) := by decide +kernel
theorem dX8_coinedCount_0 : decode cX8_coinedCount 0 = .ok (.iconst 0, 1) := by decide +kernel
theorem dX8_coinedCount_1 : decode cX8_coinedCount 1 = .ok (.istore_n 1, 1) := by decide +kernel
theorem dX8_coinedCount_2 : decode cX8_coinedCount 2 = .ok (.iconst 0, 1) := by decide +kernel
theorem dX8_coinedCount_3 : decode cX8_coinedCount 3 = .ok (.istore_n 2, 1) := by decide +kernel
theorem dX8_coinedCount_4 : decode cX8_coinedCount 4 = .ok (.iload_n 2, 1) := by decide +kernel
theorem dX8_coinedCount_5 : decode cX8_coinedCount 5 = .ok (.iconst 4, 1) := by decide +kernel
theorem dX8_coinedCount_6 : decode cX8_coinedCount 6 = .ok (.if_icmp .ge 28, 3) := by decide +kernel
theorem dX8_coinedCount_9 : decode cX8_coinedCount 9 = .ok (.iload_n 1, 1) := by decide +kernel
theorem dX8_coinedCount_10 : decode cX8_coinedCount 10 = .ok (.aload_n 0, 1) := by decide +kernel
theorem dX8_coinedCount_11 : decode cX8_coinedCount 11 = .ok (.getfield 34, 3) := by decide +kernel
theorem dX8_coinedCount_14 : decode cX8_coinedCount 14 = .ok (.iload_n 2, 1) := by decide +kernel
theorem dX8_coinedCount_15 : decode cX8_coinedCount 15 = .ok (.iaload, 1) := by decide +kernel
theorem dX8_coinedCount_16 : decode cX8_coinedCount 16 = .ok (.bipush (-9), 2) := by decide +kernel
theorem dX8_coinedCount_18 : decode cX8_coinedCount 18 = .ok (.if_icmp .ne 7, 3) := by decide +kernel
theorem dX8_coinedCount_21 : decode cX8_coinedCount 21 = .ok (.iconst 0, 1) := by decide +kernel
theorem dX8_coinedCount_22 : decode cX8_coinedCount 22 = .ok (.goto 4, 3) := by decide +kernel
theorem dX8_coinedCount_25 : decode cX8_coinedCount 25 = .ok (.iconst 1, 1) := by decide +kernel
theorem dX8_coinedCount_26 : decode cX8_coinedCount 26 = .ok (.iadd, 1) := by decide +kernel
theorem dX8_coinedCount_27 : decode cX8_coinedCount 27 = .ok (.istore_n 1, 1) := by decide +kernel
theorem dX8_coinedCount_28 : decode cX8_coinedCount 28 = .ok (.iinc 2 1, 3) := by decide +kernel
theorem dX8_coinedCount_31 : decode cX8_coinedCount 31 = .ok (.goto (-27), 3) := by decide +kernel
theorem dX8_coinedCount_34 : decode cX8_coinedCount 34 = .ok (.iload_n 1, 1) := by decide +kernel
theorem dX8_coinedCount_35 : decode cX8_coinedCount 35 = .ok (.ireturn, 1) := by decide +kernel
theorem dX8_lengths_0 : decode cX8_lengths 0 = .ok (.iconst 0, 1) := by decide +kernel
theorem dX8_lengths_1 : decode cX8_lengths 1 = .ok (.istore_n 1, 1) := by decide +kernel
theorem dX8_lengths_2 : decode cX8_lengths 2 = .ok (.iconst 0, 1) := by decide +kernel
theorem dX8_lengths_3 : decode cX8_lengths 3 = .ok (.istore_n 2, 1) := by decide +kernel
theorem dX8_lengths_4 : decode cX8_lengths 4 = .ok (.iload_n 2, 1) := by decide +kernel
theorem dX8_lengths_5 : decode cX8_lengths 5 = .ok (.aload_n 0, 1) := by decide +kernel
theorem dX8_lengths_6 : decode cX8_lengths 6 = .ok (.getfield 31, 3) := by decide +kernel
theorem dX8_lengths_9 : decode cX8_lengths 9 = .ok (.if_icmp .ge 21, 3) := by decide +kernel
theorem dX8_lengths_12 : decode cX8_lengths 12 = .ok (.iload_n 1, 1) := by decide +kernel
theorem dX8_lengths_13 : decode cX8_lengths 13 = .ok (.aload_n 0, 1) := by decide +kernel
theorem dX8_lengths_14 : decode cX8_lengths 14 = .ok (.getfield 27, 3) := by decide +kernel
theorem dX8_lengths_17 : decode cX8_lengths 17 = .ok (.iload_n 2, 1) := by decide +kernel
theorem dX8_lengths_18 : decode cX8_lengths 18 = .ok (.aaload, 1) := by decide +kernel
theorem dX8_lengths_19 : decode cX8_lengths 19 = .ok (.getfield 56, 3) := by decide +kernel
theorem dX8_lengths_22 : decode cX8_lengths 22 = .ok (.iadd, 1) := by decide +kernel
theorem dX8_lengths_23 : decode cX8_lengths 23 = .ok (.istore_n 1, 1) := by decide +kernel
theorem dX8_lengths_24 : decode cX8_lengths 24 = .ok (.iinc 2 1, 3) := by decide +kernel
theorem dX8_lengths_27 : decode cX8_lengths 27 = .ok (.goto (-23), 3) := by decide +kernel
theorem dX8_lengths_30 : decode cX8_lengths 30 = .ok (.iload_n 1, 1) := by decide +kernel
theorem dX8_lengths_31 : decode cX8_lengths 31 = .ok (.ireturn, 1) := by decide +kernel
theorem dX9_init_0 : decode cX9_init 0 = .ok (.aload_n 0, 1) := by decide +kernel
theorem dX9_init_1 : decode cX9_init 1 = .ok (.iload_n 1, 1) := by decide +kernel
theorem dX9_init_2 : decode cX9_init 2 = .ok (.invokespecial 1, 3) := by decide +kernel
theorem dX9_init_5 : decode cX9_init 5 = .ok (.return_, 1) := by decide +kernel
theorem dX9_kind_0 : decode cX9_kind 0 = .ok (.iconst 4, 1) := by decide +kernel
theorem dX9_kind_1 : decode cX9_kind 1 = .ok (.ireturn, 1) := by decide +kernel
theorem dX9_or_0 : decode cX9_or 0 = .ok (.aload_n 0, 1) := by decide +kernel
theorem dX9_or_1 : decode cX9_or 1 = .ok (.iload_n 1, 1) := by decide +kernel
theorem dX9_or_2 : decode cX9_or 2 = .ok (.iload_n 2, 1) := by decide +kernel
theorem dX9_or_3 : decode cX9_or 3 = .ok (.invokespecial 7, 3) := by decide +kernel
theorem dX9_or_6 : decode cX9_or 6 = .ok (.aload_n 0, 1) := by decide +kernel
theorem dX9_or_7 : decode cX9_or 7 = .ok (.invokevirtual 11, 3) := by decide +kernel
theorem dX9_or_10 : decode cX9_or 10 = .ok (.ior, 1) := by decide +kernel
theorem dX9_or_11 : decode cX9_or 11 = .ok (.ireturn, 1) := by decide +kernel
theorem dX10_init_0 : decode cX10_init 0 = .ok (.aload_n 0, 1) := by decide +kernel
theorem dX10_init_1 : decode cX10_init 1 = .ok (.invokespecial 3, 3) := by decide +kernel
theorem dX10_init_4 : decode cX10_init 4 = .ok (.aload_n 0, 1) := by decide +kernel
theorem dX10_init_5 : decode cX10_init 5 = .ok (.iload_n 1, 1) := by decide +kernel
theorem dX10_init_6 : decode cX10_init 6 = .ok (.putfield 9, 3) := by decide +kernel
theorem dX10_init_9 : decode cX10_init 9 = .ok (.return_, 1) := by decide +kernel
theorem dX10_ofKind_0 : decode cX10_ofKind 0 = .ok (.iload_n 0, 1) := by decide +kernel
theorem dX10_ofKind_1 : decode cX10_ofKind 1 = .ok (.tableswitch 93 0 5 #[39, 48, 57, 66, 75, 84], 39) := by decide +kernel
theorem dX10_ofKind_40 : decode cX10_ofKind 40 = .ok (.new 10, 3) := by decide +kernel
theorem dX10_ofKind_43 : decode cX10_ofKind 43 = .ok (.dup, 1) := by decide +kernel
theorem dX10_ofKind_44 : decode cX10_ofKind 44 = .ok (.iload_n 1, 1) := by decide +kernel
theorem dX10_ofKind_45 : decode cX10_ofKind 45 = .ok (.invokespecial 15, 3) := by decide +kernel
theorem dX10_ofKind_48 : decode cX10_ofKind 48 = .ok (.areturn, 1) := by decide +kernel
theorem dX10_ofKind_49 : decode cX10_ofKind 49 = .ok (.new 18, 3) := by decide +kernel
theorem dX10_ofKind_52 : decode cX10_ofKind 52 = .ok (.dup, 1) := by decide +kernel
theorem dX10_ofKind_53 : decode cX10_ofKind 53 = .ok (.iload_n 1, 1) := by decide +kernel
theorem dX10_ofKind_54 : decode cX10_ofKind 54 = .ok (.invokespecial 20, 3) := by decide +kernel
theorem dX10_ofKind_57 : decode cX10_ofKind 57 = .ok (.areturn, 1) := by decide +kernel
theorem dX10_ofKind_58 : decode cX10_ofKind 58 = .ok (.new 21, 3) := by decide +kernel
theorem dX10_ofKind_61 : decode cX10_ofKind 61 = .ok (.dup, 1) := by decide +kernel
theorem dX10_ofKind_62 : decode cX10_ofKind 62 = .ok (.iload_n 1, 1) := by decide +kernel
theorem dX10_ofKind_63 : decode cX10_ofKind 63 = .ok (.invokespecial 23, 3) := by decide +kernel
theorem dX10_ofKind_66 : decode cX10_ofKind 66 = .ok (.areturn, 1) := by decide +kernel
theorem dX10_ofKind_67 : decode cX10_ofKind 67 = .ok (.new 24, 3) := by decide +kernel
theorem dX10_ofKind_70 : decode cX10_ofKind 70 = .ok (.dup, 1) := by decide +kernel
theorem dX10_ofKind_71 : decode cX10_ofKind 71 = .ok (.iload_n 1, 1) := by decide +kernel
theorem dX10_ofKind_72 : decode cX10_ofKind 72 = .ok (.invokespecial 26, 3) := by decide +kernel
theorem dX10_ofKind_75 : decode cX10_ofKind 75 = .ok (.areturn, 1) := by decide +kernel
theorem dX10_ofKind_76 : decode cX10_ofKind 76 = .ok (.new 27, 3) := by decide +kernel
theorem dX10_ofKind_79 : decode cX10_ofKind 79 = .ok (.dup, 1) := by decide +kernel
theorem dX10_ofKind_80 : decode cX10_ofKind 80 = .ok (.iload_n 1, 1) := by decide +kernel
theorem dX10_ofKind_81 : decode cX10_ofKind 81 = .ok (.invokespecial 29, 3) := by decide +kernel
theorem dX10_ofKind_84 : decode cX10_ofKind 84 = .ok (.areturn, 1) := by decide +kernel
theorem dX10_ofKind_85 : decode cX10_ofKind 85 = .ok (.new 30, 3) := by decide +kernel
theorem dX10_ofKind_88 : decode cX10_ofKind 88 = .ok (.dup, 1) := by decide +kernel
theorem dX10_ofKind_89 : decode cX10_ofKind 89 = .ok (.iload_n 1, 1) := by decide +kernel
theorem dX10_ofKind_90 : decode cX10_ofKind 90 = .ok (.invokespecial 32, 3) := by decide +kernel
theorem dX10_ofKind_93 : decode cX10_ofKind 93 = .ok (.areturn, 1) := by decide +kernel
theorem dX10_ofKind_94 : decode cX10_ofKind 94 = .ok (.aconst_null, 1) := by decide +kernel
theorem dX10_ofKind_95 : decode cX10_ofKind 95 = .ok (.areturn, 1) := by decide +kernel
theorem dX10_kind_0 : decode cX10_kind 0 = .ok (.iconst 0, 1) := by decide +kernel
theorem dX10_kind_1 : decode cX10_kind 1 = .ok (.ireturn, 1) := by decide +kernel
theorem dX10_not_0 : decode cX10_not 0 = .ok (.sipush 255, 3) := by decide +kernel
theorem dX10_not_3 : decode cX10_not 3 = .ok (.iload_n 1, 1) := by decide +kernel
theorem dX10_not_4 : decode cX10_not 4 = .ok (.iconst (-1), 1) := by decide +kernel
theorem dX10_not_5 : decode cX10_not 5 = .ok (.ixor, 1) := by decide +kernel
theorem dX10_not_6 : decode cX10_not 6 = .ok (.iand, 1) := by decide +kernel
theorem dX10_not_7 : decode cX10_not 7 = .ok (.ireturn, 1) := by decide +kernel
theorem dX10_and_0 : decode cX10_and 0 = .ok (.iload_n 1, 1) := by decide +kernel
theorem dX10_and_1 : decode cX10_and 1 = .ok (.iload_n 2, 1) := by decide +kernel
theorem dX10_and_2 : decode cX10_and 2 = .ok (.iand, 1) := by decide +kernel
theorem dX10_and_3 : decode cX10_and 3 = .ok (.ireturn, 1) := by decide +kernel
theorem dX10_andHasSides_0 : decode cX10_andHasSides 0 = .ok (.iconst 0, 1) := by decide +kernel
theorem dX10_andHasSides_1 : decode cX10_andHasSides 1 = .ok (.ireturn, 1) := by decide +kernel
theorem dX10_or_0 : decode cX10_or 0 = .ok (.iload_n 1, 1) := by decide +kernel
theorem dX10_or_1 : decode cX10_or 1 = .ok (.iload_n 2, 1) := by decide +kernel
theorem dX10_or_2 : decode cX10_or 2 = .ok (.ior, 1) := by decide +kernel
theorem dX10_or_3 : decode cX10_or 3 = .ok (.ireturn, 1) := by decide +kernel
theorem dX10_worldOfFigure_0 : decode cX10_worldOfFigure 0 = .ok (.iconst 1, 1) := by decide +kernel
theorem dX10_worldOfFigure_1 : decode cX10_worldOfFigure 1 = .ok (.aload_n 0, 1) := by decide +kernel
theorem dX10_worldOfFigure_2 : decode cX10_worldOfFigure 2 = .ok (.getfield 9, 3) := by decide +kernel
theorem dX10_worldOfFigure_5 : decode cX10_worldOfFigure 5 = .ok (.bipush 8, 2) := by decide +kernel
theorem dX10_worldOfFigure_7 : decode cX10_worldOfFigure 7 = .ok (.irem, 1) := by decide +kernel
theorem dX10_worldOfFigure_8 : decode cX10_worldOfFigure 8 = .ok (.ishl, 1) := by decide +kernel
theorem dX10_worldOfFigure_9 : decode cX10_worldOfFigure 9 = .ok (.ireturn, 1) := by decide +kernel
theorem dX11_init_0 : decode cX11_init 0 = .ok (.aload_n 0, 1) := by decide +kernel
theorem dX11_init_1 : decode cX11_init 1 = .ok (.invokespecial 1, 3) := by decide +kernel
theorem dX11_init_4 : decode cX11_init 4 = .ok (.aload_n 0, 1) := by decide +kernel
theorem dX11_init_5 : decode cX11_init 5 = .ok (.new 7, 3) := by decide +kernel
theorem dX11_init_8 : decode cX11_init 8 = .ok (.dup, 1) := by decide +kernel
theorem dX11_init_9 : decode cX11_init 9 = .ok (.invokespecial 9, 3) := by decide +kernel
theorem dX11_init_12 : decode cX11_init 12 = .ok (.putfield 10, 3) := by decide +kernel
theorem dX11_init_15 : decode cX11_init 15 = .ok (.aload_n 0, 1) := by decide +kernel
theorem dX11_init_16 : decode cX11_init 16 = .ok (.new 16, 3) := by decide +kernel
theorem dX11_init_19 : decode cX11_init 19 = .ok (.dup, 1) := by decide +kernel
theorem dX11_init_20 : decode cX11_init 20 = .ok (.invokespecial 18, 3) := by decide +kernel
theorem dX11_init_23 : decode cX11_init 23 = .ok (.putfield 19, 3) := by decide +kernel
theorem dX11_init_26 : decode cX11_init 26 = .ok (.aload_n 0, 1) := by decide +kernel
theorem dX11_init_27 : decode cX11_init 27 = .ok (.new 16, 3) := by decide +kernel
theorem dX11_init_30 : decode cX11_init 30 = .ok (.dup, 1) := by decide +kernel
theorem dX11_init_31 : decode cX11_init 31 = .ok (.invokespecial 18, 3) := by decide +kernel
theorem dX11_init_34 : decode cX11_init 34 = .ok (.putfield 23, 3) := by decide +kernel
theorem dX11_init_37 : decode cX11_init 37 = .ok (.aload_n 0, 1) := by decide +kernel
theorem dX11_init_38 : decode cX11_init 38 = .ok (.new 16, 3) := by decide +kernel
theorem dX11_init_41 : decode cX11_init 41 = .ok (.dup, 1) := by decide +kernel
theorem dX11_init_42 : decode cX11_init 42 = .ok (.invokespecial 18, 3) := by decide +kernel
theorem dX11_init_45 : decode cX11_init 45 = .ok (.putfield 26, 3) := by decide +kernel
theorem dX11_init_48 : decode cX11_init 48 = .ok (.aload_n 0, 1) := by decide +kernel
theorem dX11_init_49 : decode cX11_init 49 = .ok (.iconst 0, 1) := by decide +kernel
theorem dX11_init_50 : decode cX11_init 50 = .ok (.putfield 29, 3) := by decide +kernel
theorem dX11_init_53 : decode cX11_init 53 = .ok (.aload_n 0, 1) := by decide +kernel
theorem dX11_init_54 : decode cX11_init 54 = .ok (.bipush 6, 2) := by decide +kernel
theorem dX11_init_56 : decode cX11_init 56 = .ok (.newarray .int, 2) := by decide +kernel
theorem dX11_init_58 : decode cX11_init 58 = .ok (.putfield 33, 3) := by decide +kernel
theorem dX11_init_61 : decode cX11_init 61 = .ok (.aload_n 0, 1) := by decide +kernel
theorem dX11_init_62 : decode cX11_init 62 = .ok (.iconst 0, 1) := by decide +kernel
theorem dX11_init_63 : decode cX11_init 63 = .ok (.putfield 37, 3) := by decide +kernel
theorem dX11_init_66 : decode cX11_init 66 = .ok (.aload_n 0, 1) := by decide +kernel
theorem dX11_init_67 : decode cX11_init 67 = .ok (.bipush 7, 2) := by decide +kernel
theorem dX11_init_69 : decode cX11_init 69 = .ok (.newarray .int, 2) := by decide +kernel
theorem dX11_init_71 : decode cX11_init 71 = .ok (.putfield 41, 3) := by decide +kernel
theorem dX11_init_74 : decode cX11_init 74 = .ok (.aload_n 0, 1) := by decide +kernel
theorem dX11_init_75 : decode cX11_init 75 = .ok (.new 44, 3) := by decide +kernel
theorem dX11_init_78 : decode cX11_init 78 = .ok (.dup, 1) := by decide +kernel
theorem dX11_init_79 : decode cX11_init 79 = .ok (.iconst 0, 1) := by decide +kernel
theorem dX11_init_80 : decode cX11_init 80 = .ok (.invokespecial 46, 3) := by decide +kernel
theorem dX11_init_83 : decode cX11_init 83 = .ok (.putfield 49, 3) := by decide +kernel
theorem dX11_init_86 : decode cX11_init 86 = .ok (.aload_n 0, 1) := by decide +kernel
theorem dX11_init_87 : decode cX11_init 87 = .ok (.new 53, 3) := by decide +kernel
theorem dX11_init_90 : decode cX11_init 90 = .ok (.dup, 1) := by decide +kernel
theorem dX11_init_91 : decode cX11_init 91 = .ok (.invokespecial 55, 3) := by decide +kernel
theorem dX11_init_94 : decode cX11_init 94 = .ok (.putfield 56, 3) := by decide +kernel
theorem dX11_init_97 : decode cX11_init 97 = .ok (.aload_n 0, 1) := by decide +kernel
theorem dX11_init_98 : decode cX11_init 98 = .ok (.bipush 6, 2) := by decide +kernel
theorem dX11_init_100 : decode cX11_init 100 = .ok (.newarray .int, 2) := by decide +kernel
theorem dX11_init_102 : decode cX11_init 102 = .ok (.putfield 60, 3) := by decide +kernel
theorem dX11_init_105 : decode cX11_init 105 = .ok (.aload_n 0, 1) := by decide +kernel
theorem dX11_init_106 : decode cX11_init 106 = .ok (.bipush 6, 2) := by decide +kernel
theorem dX11_init_108 : decode cX11_init 108 = .ok (.anewarray 63, 3) := by decide +kernel
theorem dX11_init_111 : decode cX11_init 111 = .ok (.putfield 65, 3) := by decide +kernel
theorem dX11_init_114 : decode cX11_init 114 = .ok (.aload_n 0, 1) := by decide +kernel
theorem dX11_init_115 : decode cX11_init 115 = .ok (.new 63, 3) := by decide +kernel
theorem dX11_init_118 : decode cX11_init 118 = .ok (.dup, 1) := by decide +kernel
theorem dX11_init_119 : decode cX11_init 119 = .ok (.invokespecial 69, 3) := by decide +kernel
theorem dX11_init_122 : decode cX11_init 122 = .ok (.putfield 70, 3) := by decide +kernel
theorem dX11_init_125 : decode cX11_init 125 = .ok (.aload_n 0, 1) := by decide +kernel
theorem dX11_init_126 : decode cX11_init 126 = .ok (.new 74, 3) := by decide +kernel
theorem dX11_init_129 : decode cX11_init 129 = .ok (.dup, 1) := by decide +kernel
theorem dX11_init_130 : decode cX11_init 130 = .ok (.invokespecial 76, 3) := by decide +kernel
theorem dX11_init_133 : decode cX11_init 133 = .ok (.putfield 77, 3) := by decide +kernel
theorem dX11_init_136 : decode cX11_init 136 = .ok (.aload_n 0, 1) := by decide +kernel
theorem dX11_init_137 : decode cX11_init 137 = .ok (.iconst 0, 1) := by decide +kernel
theorem dX11_init_138 : decode cX11_init 138 = .ok (.putfield 81, 3) := by decide +kernel
theorem dX11_init_141 : decode cX11_init 141 = .ok (.iconst 0, 1) := by decide +kernel
theorem dX11_init_142 : decode cX11_init 142 = .ok (.istore_n 1, 1) := by decide +kernel
theorem dX11_init_143 : decode cX11_init 143 = .ok (.iload_n 1, 1) := by decide +kernel
theorem dX11_init_144 : decode cX11_init 144 = .ok (.aload_n 0, 1) := by decide +kernel
theorem dX11_init_145 : decode cX11_init 145 = .ok (.getfield 65, 3) := by decide +kernel
theorem dX11_init_148 : decode cX11_init 148 = .ok (.arraylength, 1) := by decide +kernel
theorem dX11_init_149 : decode cX11_init 149 = .ok (.if_icmp .ge 22, 3) := by decide +kernel
theorem dX11_init_152 : decode cX11_init 152 = .ok (.aload_n 0, 1) := by decide +kernel
theorem dX11_init_153 : decode cX11_init 153 = .ok (.getfield 65, 3) := by decide +kernel
theorem dX11_init_156 : decode cX11_init 156 = .ok (.iload_n 1, 1) := by decide +kernel
theorem dX11_init_157 : decode cX11_init 157 = .ok (.new 63, 3) := by decide +kernel
theorem dX11_init_160 : decode cX11_init 160 = .ok (.dup, 1) := by decide +kernel
theorem dX11_init_161 : decode cX11_init 161 = .ok (.invokespecial 69, 3) := by decide +kernel
theorem dX11_init_164 : decode cX11_init 164 = .ok (.aastore, 1) := by decide +kernel
theorem dX11_init_165 : decode cX11_init 165 = .ok (.iinc 1 1, 3) := by decide +kernel
theorem dX11_init_168 : decode cX11_init 168 = .ok (.goto (-25), 3) := by decide +kernel
theorem dX11_init_171 : decode cX11_init 171 = .ok (.return_, 1) := by decide +kernel
theorem dX11_feed_0 : decode cX11_feed 0 = .ok (.iload_n 1, 1) := by decide +kernel
theorem dX11_feed_1 : decode cX11_feed 1 = .ok (.ifCond .ge 9, 3) := by decide +kernel
theorem dX11_feed_4 : decode cX11_feed 4 = .ok (.aload_n 0, 1) := by decide +kernel
theorem dX11_feed_5 : decode cX11_feed 5 = .ok (.iconst 4, 1) := by decide +kernel
theorem dX11_feed_6 : decode cX11_feed 6 = .ok (.invokevirtual 84, 3) := by decide +kernel
theorem dX11_feed_9 : decode cX11_feed 9 = .ok (.ireturn, 1) := by decide +kernel
theorem dX11_feed_10 : decode cX11_feed 10 = .ok (.iload_n 1, 1) := by decide +kernel
theorem dX11_feed_11 : decode cX11_feed 11 = .ok (.sipush 255, 3) := by decide +kernel
theorem dX11_feed_14 : decode cX11_feed 14 = .ok (.if_icmp .gt 13, 3) := by decide +kernel
theorem dX11_feed_17 : decode cX11_feed 17 = .ok (.aload_n 0, 1) := by decide +kernel
theorem dX11_feed_18 : decode cX11_feed 18 = .ok (.getfield 10, 3) := by decide +kernel
theorem dX11_feed_21 : decode cX11_feed 21 = .ok (.invokevirtual 88, 3) := by decide +kernel
theorem dX11_feed_24 : decode cX11_feed 24 = .ok (.ifCond .eq 10, 3) := by decide +kernel
theorem dX11_feed_27 : decode cX11_feed 27 = .ok (.aload_n 0, 1) := by decide +kernel
theorem dX11_feed_28 : decode cX11_feed 28 = .ok (.bipush 6, 2) := by decide +kernel
theorem dX11_feed_30 : decode cX11_feed 30 = .ok (.invokevirtual 84, 3) := by decide +kernel
theorem dX11_feed_33 : decode cX11_feed 33 = .ok (.ireturn, 1) := by decide +kernel
theorem dX11_feed_34 : decode cX11_feed 34 = .ok (.aload_n 0, 1) := by decide +kernel
theorem dX11_feed_35 : decode cX11_feed 35 = .ok (.getfield 10, 3) := by decide +kernel
theorem dX11_feed_38 : decode cX11_feed 38 = .ok (.iload_n 1, 1) := by decide +kernel
theorem dX11_feed_39 : decode cX11_feed 39 = .ok (.invokevirtual 92, 3) := by decide +kernel
theorem dX11_feed_42 : decode cX11_feed 42 = .ok (.ireturn, 1) := by decide +kernel
theorem dX11_school_0 : decode cX11_school 0 = .ok (.aload_n 0, 1) := by decide +kernel
theorem dX11_school_1 : decode cX11_school 1 = .ok (.getfield 10, 3) := by decide +kernel
theorem dX11_school_4 : decode cX11_school 4 = .ok (.invokevirtual 95, 3) := by decide +kernel
theorem dX11_school_7 : decode cX11_school 7 = .ok (.ifCond .eq 10, 3) := by decide +kernel
theorem dX11_school_10 : decode cX11_school 10 = .ok (.aload_n 0, 1) := by decide +kernel
theorem dX11_school_11 : decode cX11_school 11 = .ok (.invokevirtual 98, 3) := by decide +kernel
theorem dX11_school_14 : decode cX11_school 14 = .ok (.goto 14, 3) := by decide +kernel
theorem dX11_school_17 : decode cX11_school 17 = .ok (.sipush (-1000), 3) := by decide +kernel
theorem dX11_school_20 : decode cX11_school 20 = .ok (.aload_n 0, 1) := by decide +kernel
theorem dX11_school_21 : decode cX11_school 21 = .ok (.getfield 10, 3) := by decide +kernel
theorem dX11_school_24 : decode cX11_school 24 = .ok (.invokevirtual 102, 3) := by decide +kernel
theorem dX11_school_27 : decode cX11_school 27 = .ok (.isub, 1) := by decide +kernel
theorem dX11_school_28 : decode cX11_school 28 = .ok (.istore_n 1, 1) := by decide +kernel
theorem dX11_school_29 : decode cX11_school 29 = .ok (.aload_n 0, 1) := by decide +kernel
theorem dX11_school_30 : decode cX11_school 30 = .ok (.getfield 10, 3) := by decide +kernel
theorem dX11_school_33 : decode cX11_school 33 = .ok (.invokevirtual 105, 3) := by decide +kernel
theorem dX11_school_36 : decode cX11_school 36 = .ok (.iload_n 1, 1) := by decide +kernel
theorem dX11_school_37 : decode cX11_school 37 = .ok (.ireturn, 1) := by decide +kernel
theorem dX11_stranger_0 : decode cX11_stranger 0 = .ok (.aload_n 0, 1) := by decide +kernel
theorem dX11_stranger_1 : decode cX11_stranger 1 = .ok (.iload_n 1, 1) := by decide +kernel
theorem dX11_stranger_2 : decode cX11_stranger 2 = .ok (.invokevirtual 108, 3) := by decide +kernel
theorem dX11_stranger_5 : decode cX11_stranger 5 = .ok (.ifCond .eq 9, 3) := by decide +kernel
theorem dX11_stranger_8 : decode cX11_stranger 8 = .ok (.aload_n 0, 1) := by decide +kernel
theorem dX11_stranger_9 : decode cX11_stranger 9 = .ok (.iconst 1, 1) := by decide +kernel
theorem dX11_stranger_10 : decode cX11_stranger 10 = .ok (.invokevirtual 84, 3) := by decide +kernel
theorem dX11_stranger_13 : decode cX11_stranger 13 = .ok (.ireturn, 1) := by decide +kernel
theorem dX11_stranger_14 : decode cX11_stranger 14 = .ok (.iload_n 2, 1) := by decide +kernel
theorem dX11_stranger_15 : decode cX11_stranger 15 = .ok (.tableswitch 61 0 2 #[25, 38, 51], 25) := by decide +kernel
theorem dX11_stranger_40 : decode cX11_stranger 40 = .ok (.aload_n 0, 1) := by decide +kernel
theorem dX11_stranger_41 : decode cX11_stranger 41 = .ok (.getfield 19, 3) := by decide +kernel
theorem dX11_stranger_44 : decode cX11_stranger 44 = .ok (.getfield 112, 3) := by decide +kernel
theorem dX11_stranger_47 : decode cX11_stranger 47 = .ok (.iload_n 1, 1) := by decide +kernel
theorem dX11_stranger_48 : decode cX11_stranger 48 = .ok (.aaload, 1) := by decide +kernel
theorem dX11_stranger_49 : decode cX11_stranger 49 = .ok (.invokevirtual 116, 3) := by decide +kernel
theorem dX11_stranger_52 : decode cX11_stranger 52 = .ok (.ireturn, 1) := by decide +kernel
theorem dX11_stranger_53 : decode cX11_stranger 53 = .ok (.aload_n 0, 1) := by decide +kernel
theorem dX11_stranger_54 : decode cX11_stranger 54 = .ok (.getfield 19, 3) := by decide +kernel
theorem dX11_stranger_57 : decode cX11_stranger 57 = .ok (.getfield 112, 3) := by decide +kernel
theorem dX11_stranger_60 : decode cX11_stranger 60 = .ok (.iload_n 1, 1) := by decide +kernel
theorem dX11_stranger_61 : decode cX11_stranger 61 = .ok (.aaload, 1) := by decide +kernel
theorem dX11_stranger_62 : decode cX11_stranger 62 = .ok (.getfield 119, 3) := by decide +kernel
theorem dX11_stranger_65 : decode cX11_stranger 65 = .ok (.ireturn, 1) := by decide +kernel
theorem dX11_stranger_66 : decode cX11_stranger 66 = .ok (.aload_n 0, 1) := by decide +kernel
theorem dX11_stranger_67 : decode cX11_stranger 67 = .ok (.getfield 19, 3) := by decide +kernel
theorem dX11_stranger_70 : decode cX11_stranger 70 = .ok (.getfield 122, 3) := by decide +kernel
theorem dX11_stranger_73 : decode cX11_stranger 73 = .ok (.iload_n 1, 1) := by decide +kernel
theorem dX11_stranger_74 : decode cX11_stranger 74 = .ok (.iaload, 1) := by decide +kernel
theorem dX11_stranger_75 : decode cX11_stranger 75 = .ok (.ireturn, 1) := by decide +kernel
theorem dX11_stranger_76 : decode cX11_stranger 76 = .ok (.aload_n 0, 1) := by decide +kernel
theorem dX11_stranger_77 : decode cX11_stranger 77 = .ok (.iconst 2, 1) := by decide +kernel
theorem dX11_stranger_78 : decode cX11_stranger 78 = .ok (.invokevirtual 84, 3) := by decide +kernel
theorem dX11_stranger_81 : decode cX11_stranger 81 = .ok (.ireturn, 1) := by decide +kernel
theorem dX11_learn_0 : decode cX11_learn 0 = .ok (.aload_n 0, 1) := by decide +kernel
theorem dX11_learn_1 : decode cX11_learn 1 = .ok (.iload_n 1, 1) := by decide +kernel
theorem dX11_learn_2 : decode cX11_learn 2 = .ok (.invokevirtual 108, 3) := by decide +kernel
theorem dX11_learn_5 : decode cX11_learn 5 = .ok (.ifCond .ne 10, 3) := by decide +kernel
theorem dX11_learn_8 : decode cX11_learn 8 = .ok (.iload_n 2, 1) := by decide +kernel
theorem dX11_learn_9 : decode cX11_learn 9 = .ok (.invokestatic 125, 3) := by decide +kernel
theorem dX11_learn_12 : decode cX11_learn 12 = .ok (.ifCond .eq 9, 3) := by decide +kernel
theorem dX11_learn_15 : decode cX11_learn 15 = .ok (.aload_n 0, 1) := by decide +kernel
theorem dX11_learn_16 : decode cX11_learn 16 = .ok (.iconst 1, 1) := by decide +kernel
theorem dX11_learn_17 : decode cX11_learn 17 = .ok (.invokevirtual 84, 3) := by decide +kernel
theorem dX11_learn_20 : decode cX11_learn 20 = .ok (.ireturn, 1) := by decide +kernel
theorem dX11_learn_21 : decode cX11_learn 21 = .ok (.iload_n 3, 1) := by decide +kernel
theorem dX11_learn_22 : decode cX11_learn 22 = .ok (.ifCond .eq 14, 3) := by decide +kernel
theorem dX11_learn_25 : decode cX11_learn 25 = .ok (.iload_n 3, 1) := by decide +kernel
theorem dX11_learn_26 : decode cX11_learn 26 = .ok (.iconst 1, 1) := by decide +kernel
theorem dX11_learn_27 : decode cX11_learn 27 = .ok (.if_icmp .eq 9, 3) := by decide +kernel
theorem dX11_learn_30 : decode cX11_learn 30 = .ok (.aload_n 0, 1) := by decide +kernel
theorem dX11_learn_31 : decode cX11_learn 31 = .ok (.iconst 2, 1) := by decide +kernel
theorem dX11_learn_32 : decode cX11_learn 32 = .ok (.invokevirtual 84, 3) := by decide +kernel
theorem dX11_learn_35 : decode cX11_learn 35 = .ok (.ireturn, 1) := by decide +kernel
theorem dX11_learn_36 : decode cX11_learn 36 = .ok (.aload_n 0, 1) := by decide +kernel
theorem dX11_learn_37 : decode cX11_learn 37 = .ok (.getfield 19, 3) := by decide +kernel
theorem dX11_learn_40 : decode cX11_learn 40 = .ok (.getfield 122, 3) := by decide +kernel
theorem dX11_learn_43 : decode cX11_learn 43 = .ok (.iload_n 1, 1) := by decide +kernel
theorem dX11_learn_44 : decode cX11_learn 44 = .ok (.iaload, 1) := by decide +kernel
theorem dX11_learn_45 : decode cX11_learn 45 = .ok (.iload_n 2, 1) := by decide +kernel
theorem dX11_learn_46 : decode cX11_learn 46 = .ok (.ishr, 1) := by decide +kernel
theorem dX11_learn_47 : decode cX11_learn 47 = .ok (.iconst 1, 1) := by decide +kernel
theorem dX11_learn_48 : decode cX11_learn 48 = .ok (.iand, 1) := by decide +kernel
theorem dX11_learn_49 : decode cX11_learn 49 = .ok (.istore 4, 2) := by decide +kernel
theorem dX11_learn_51 : decode cX11_learn 51 = .ok (.iload 4, 2) := by decide +kernel
theorem dX11_learn_53 : decode cX11_learn 53 = .ok (.iload_n 3, 1) := by decide +kernel
theorem dX11_learn_54 : decode cX11_learn 54 = .ok (.if_icmp .eq 13, 3) := by decide +kernel
theorem dX11_learn_57 : decode cX11_learn 57 = .ok (.aload_n 0, 1) := by decide +kernel
theorem dX11_learn_58 : decode cX11_learn 58 = .ok (.getfield 19, 3) := by decide +kernel
theorem dX11_learn_61 : decode cX11_learn 61 = .ok (.iload_n 1, 1) := by decide +kernel
theorem dX11_learn_62 : decode cX11_learn 62 = .ok (.iload_n 2, 1) := by decide +kernel
theorem dX11_learn_63 : decode cX11_learn 63 = .ok (.invokevirtual 128, 3) := by decide +kernel
theorem dX11_learn_66 : decode cX11_learn 66 = .ok (.pop, 1) := by decide +kernel
theorem dX11_learn_67 : decode cX11_learn 67 = .ok (.iload 4, 2) := by decide +kernel
theorem dX11_learn_69 : decode cX11_learn 69 = .ok (.ireturn, 1) := by decide +kernel
theorem dX11_name_0 : decode cX11_name 0 = .ok (.iload_n 1, 1) := by decide +kernel
theorem dX11_name_1 : decode cX11_name 1 = .ok (.invokestatic 125, 3) := by decide +kernel
theorem dX11_name_4 : decode cX11_name 4 = .ok (.ifCond .eq 9, 3) := by decide +kernel
theorem dX11_name_7 : decode cX11_name 7 = .ok (.aload_n 0, 1) := by decide +kernel
theorem dX11_name_8 : decode cX11_name 8 = .ok (.iconst 1, 1) := by decide +kernel
theorem dX11_name_9 : decode cX11_name 9 = .ok (.invokevirtual 84, 3) := by decide +kernel
theorem dX11_name_12 : decode cX11_name 12 = .ok (.ireturn, 1) := by decide +kernel
theorem dX11_name_13 : decode cX11_name 13 = .ok (.aload_n 0, 1) := by decide +kernel
theorem dX11_name_14 : decode cX11_name 14 = .ok (.getfield 19, 3) := by decide +kernel
theorem dX11_name_17 : decode cX11_name 17 = .ok (.getfield 132, 3) := by decide +kernel
theorem dX11_name_20 : decode cX11_name 20 = .ok (.iload_n 1, 1) := by decide +kernel
theorem dX11_name_21 : decode cX11_name 21 = .ok (.iaload, 1) := by decide +kernel
theorem dX11_name_22 : decode cX11_name 22 = .ok (.ireturn, 1) := by decide +kernel
theorem dX11_coin_0 : decode cX11_coin 0 = .ok (.iload_n 1, 1) := by decide +kernel
theorem dX11_coin_1 : decode cX11_coin 1 = .ok (.invokestatic 125, 3) := by decide +kernel
theorem dX11_coin_4 : decode cX11_coin 4 = .ok (.ifCond .eq 9, 3) := by decide +kernel
theorem dX11_coin_7 : decode cX11_coin 7 = .ok (.aload_n 0, 1) := by decide +kernel
theorem dX11_coin_8 : decode cX11_coin 8 = .ok (.iconst 1, 1) := by decide +kernel
theorem dX11_coin_9 : decode cX11_coin 9 = .ok (.invokevirtual 84, 3) := by decide +kernel
theorem dX11_coin_12 : decode cX11_coin 12 = .ok (.ireturn, 1) := by decide +kernel
theorem dX11_coin_13 : decode cX11_coin 13 = .ok (.iload_n 2, 1) := by decide +kernel
theorem dX11_coin_14 : decode cX11_coin 14 = .ok (.iconst (-1), 1) := by decide +kernel
theorem dX11_coin_15 : decode cX11_coin 15 = .ok (.if_icmp .ge 9, 3) := by decide +kernel
theorem dX11_coin_18 : decode cX11_coin 18 = .ok (.aload_n 0, 1) := by decide +kernel
theorem dX11_coin_19 : decode cX11_coin 19 = .ok (.iconst 4, 1) := by decide +kernel
theorem dX11_coin_20 : decode cX11_coin 20 = .ok (.invokevirtual 84, 3) := by decide +kernel
theorem dX11_coin_23 : decode cX11_coin 23 = .ok (.ireturn, 1) := by decide +kernel
theorem dX11_coin_24 : decode cX11_coin 24 = .ok (.iload_n 2, 1) := by decide +kernel
end
section
theorem dX11_coin_25 : decode cX11_coin 25 = .ok (.sipush 255, 3) := by decide +kernel
theorem dX11_coin_28 : decode cX11_coin 28 = .ok (.if_icmp .le 10, 3) := by decide +kernel
theorem dX11_coin_31 : decode cX11_coin 31 = .ok (.aload_n 0, 1) := by decide +kernel
theorem dX11_coin_32 : decode cX11_coin 32 = .ok (.bipush 6, 2) := by decide +kernel
theorem dX11_coin_34 : decode cX11_coin 34 = .ok (.invokevirtual 84, 3) := by decide +kernel
theorem dX11_coin_37 : decode cX11_coin 37 = .ok (.ireturn, 1) := by decide +kernel
theorem dX11_coin_38 : decode cX11_coin 38 = .ok (.aload_n 0, 1) := by decide +kernel
theorem dX11_coin_39 : decode cX11_coin 39 = .ok (.getfield 19, 3) := by decide +kernel
theorem dX11_coin_42 : decode cX11_coin 42 = .ok (.getfield 132, 3) := by decide +kernel
theorem dX11_coin_45 : decode cX11_coin 45 = .ok (.iload_n 1, 1) := by decide +kernel
theorem dX11_coin_46 : decode cX11_coin 46 = .ok (.iaload, 1) := by decide +kernel
theorem dX11_coin_47 : decode cX11_coin 47 = .ok (.istore_n 3, 1) := by decide +kernel
theorem dX11_coin_48 : decode cX11_coin 48 = .ok (.aload_n 0, 1) := by decide +kernel
theorem dX11_coin_49 : decode cX11_coin 49 = .ok (.getfield 19, 3) := by decide +kernel
theorem dX11_coin_52 : decode cX11_coin 52 = .ok (.getfield 132, 3) := by decide +kernel
theorem dX11_coin_55 : decode cX11_coin 55 = .ok (.iload_n 1, 1) := by decide +kernel
theorem dX11_coin_56 : decode cX11_coin 56 = .ok (.iload_n 2, 1) := by decide +kernel
theorem dX11_coin_57 : decode cX11_coin 57 = .ok (.iconst (-1), 1) := by decide +kernel
theorem dX11_coin_58 : decode cX11_coin 58 = .ok (.if_icmp .ne 8, 3) := by decide +kernel
theorem dX11_coin_61 : decode cX11_coin 61 = .ok (.bipush (-9), 2) := by decide +kernel
theorem dX11_coin_63 : decode cX11_coin 63 = .ok (.goto 4, 3) := by decide +kernel
theorem dX11_coin_66 : decode cX11_coin 66 = .ok (.iload_n 2, 1) := by decide +kernel
theorem dX11_coin_67 : decode cX11_coin 67 = .ok (.iastore, 1) := by decide +kernel
theorem dX11_coin_68 : decode cX11_coin 68 = .ok (.iload_n 3, 1) := by decide +kernel
theorem dX11_coin_69 : decode cX11_coin 69 = .ok (.ireturn, 1) := by decide +kernel
theorem dX11_saying_0 : decode cX11_saying 0 = .ok (.aload_n 0, 1) := by decide +kernel
theorem dX11_saying_1 : decode cX11_saying 1 = .ok (.iload_n 1, 1) := by decide +kernel
theorem dX11_saying_2 : decode cX11_saying 2 = .ok (.invokevirtual 135, 3) := by decide +kernel
theorem dX11_saying_5 : decode cX11_saying 5 = .ok (.ifCond .eq 9, 3) := by decide +kernel
theorem dX11_saying_8 : decode cX11_saying 8 = .ok (.aload_n 0, 1) := by decide +kernel
theorem dX11_saying_9 : decode cX11_saying 9 = .ok (.iconst 1, 1) := by decide +kernel
theorem dX11_saying_10 : decode cX11_saying 10 = .ok (.invokevirtual 84, 3) := by decide +kernel
theorem dX11_saying_13 : decode cX11_saying 13 = .ok (.ireturn, 1) := by decide +kernel
theorem dX11_saying_14 : decode cX11_saying 14 = .ok (.iload_n 2, 1) := by decide +kernel
theorem dX11_saying_15 : decode cX11_saying 15 = .ok (.iconst (-1), 1) := by decide +kernel
theorem dX11_saying_16 : decode cX11_saying 16 = .ok (.if_icmp .ge 9, 3) := by decide +kernel
theorem dX11_saying_19 : decode cX11_saying 19 = .ok (.aload_n 0, 1) := by decide +kernel
theorem dX11_saying_20 : decode cX11_saying 20 = .ok (.iconst 4, 1) := by decide +kernel
theorem dX11_saying_21 : decode cX11_saying 21 = .ok (.invokevirtual 84, 3) := by decide +kernel
theorem dX11_saying_24 : decode cX11_saying 24 = .ok (.ireturn, 1) := by decide +kernel
theorem dX11_saying_25 : decode cX11_saying 25 = .ok (.aload_n 0, 1) := by decide +kernel
theorem dX11_saying_26 : decode cX11_saying 26 = .ok (.getfield 19, 3) := by decide +kernel
theorem dX11_saying_29 : decode cX11_saying 29 = .ok (.getfield 138, 3) := by decide +kernel
theorem dX11_saying_32 : decode cX11_saying 32 = .ok (.iload_n 1, 1) := by decide +kernel
theorem dX11_saying_33 : decode cX11_saying 33 = .ok (.aaload, 1) := by decide +kernel
theorem dX11_saying_34 : decode cX11_saying 34 = .ok (.astore_n 3, 1) := by decide +kernel
theorem dX11_saying_35 : decode cX11_saying 35 = .ok (.iload_n 2, 1) := by decide +kernel
theorem dX11_saying_36 : decode cX11_saying 36 = .ok (.iconst (-1), 1) := by decide +kernel
theorem dX11_saying_37 : decode cX11_saying 37 = .ok (.if_icmp .ne 8, 3) := by decide +kernel
theorem dX11_saying_40 : decode cX11_saying 40 = .ok (.aload_n 3, 1) := by decide +kernel
theorem dX11_saying_41 : decode cX11_saying 41 = .ok (.getfield 142, 3) := by decide +kernel
theorem dX11_saying_44 : decode cX11_saying 44 = .ok (.ireturn, 1) := by decide +kernel
theorem dX11_saying_45 : decode cX11_saying 45 = .ok (.iload_n 2, 1) := by decide +kernel
theorem dX11_saying_46 : decode cX11_saying 46 = .ok (.aload_n 3, 1) := by decide +kernel
theorem dX11_saying_47 : decode cX11_saying 47 = .ok (.getfield 142, 3) := by decide +kernel
theorem dX11_saying_50 : decode cX11_saying 50 = .ok (.if_icmp .ge 12, 3) := by decide +kernel
theorem dX11_saying_53 : decode cX11_saying 53 = .ok (.aload_n 3, 1) := by decide +kernel
theorem dX11_saying_54 : decode cX11_saying 54 = .ok (.getfield 145, 3) := by decide +kernel
theorem dX11_saying_57 : decode cX11_saying 57 = .ok (.iload_n 2, 1) := by decide +kernel
theorem dX11_saying_58 : decode cX11_saying 58 = .ok (.iaload, 1) := by decide +kernel
theorem dX11_saying_59 : decode cX11_saying 59 = .ok (.goto 5, 3) := by decide +kernel
theorem dX11_saying_62 : decode cX11_saying 62 = .ok (.bipush (-9), 2) := by decide +kernel
theorem dX11_saying_64 : decode cX11_saying 64 = .ok (.ireturn, 1) := by decide +kernel
theorem dX11_leave_0 : decode cX11_leave 0 = .ok (.aload_n 0, 1) := by decide +kernel
theorem dX11_leave_1 : decode cX11_leave 1 = .ok (.getfield 19, 3) := by decide +kernel
theorem dX11_leave_4 : decode cX11_leave 4 = .ok (.getfield 148, 3) := by decide +kernel
theorem dX11_leave_7 : decode cX11_leave 7 = .ok (.iconst 1, 1) := by decide +kernel
theorem dX11_leave_8 : decode cX11_leave 8 = .ok (.if_icmp .ge 9, 3) := by decide +kernel
theorem dX11_leave_11 : decode cX11_leave 11 = .ok (.aload_n 0, 1) := by decide +kernel
theorem dX11_leave_12 : decode cX11_leave 12 = .ok (.iconst 3, 1) := by decide +kernel
theorem dX11_leave_13 : decode cX11_leave 13 = .ok (.invokevirtual 84, 3) := by decide +kernel
theorem dX11_leave_16 : decode cX11_leave 16 = .ok (.ireturn, 1) := by decide +kernel
theorem dX11_leave_17 : decode cX11_leave 17 = .ok (.aload_n 0, 1) := by decide +kernel
theorem dX11_leave_18 : decode cX11_leave 18 = .ok (.getfield 19, 3) := by decide +kernel
theorem dX11_leave_21 : decode cX11_leave 21 = .ok (.dup, 1) := by decide +kernel
theorem dX11_leave_22 : decode cX11_leave 22 = .ok (.getfield 148, 3) := by decide +kernel
theorem dX11_leave_25 : decode cX11_leave 25 = .ok (.iconst 1, 1) := by decide +kernel
theorem dX11_leave_26 : decode cX11_leave 26 = .ok (.isub, 1) := by decide +kernel
theorem dX11_leave_27 : decode cX11_leave 27 = .ok (.putfield 148, 3) := by decide +kernel
theorem dX11_leave_30 : decode cX11_leave 30 = .ok (.aload_n 0, 1) := by decide +kernel
theorem dX11_leave_31 : decode cX11_leave 31 = .ok (.getfield 19, 3) := by decide +kernel
theorem dX11_leave_34 : decode cX11_leave 34 = .ok (.getfield 148, 3) := by decide +kernel
theorem dX11_leave_37 : decode cX11_leave 37 = .ok (.ireturn, 1) := by decide +kernel
theorem dX11_concludes_0 : decode cX11_concludes 0 = .ok (.aload_n 0, 1) := by decide +kernel
theorem dX11_concludes_1 : decode cX11_concludes 1 = .ok (.iload_n 1, 1) := by decide +kernel
theorem dX11_concludes_2 : decode cX11_concludes 2 = .ok (.invokevirtual 151, 3) := by decide +kernel
theorem dX11_concludes_5 : decode cX11_concludes 5 = .ok (.ifCond .ne 11, 3) := by decide +kernel
theorem dX11_concludes_8 : decode cX11_concludes 8 = .ok (.aload_n 0, 1) := by decide +kernel
theorem dX11_concludes_9 : decode cX11_concludes 9 = .ok (.iload_n 2, 1) := by decide +kernel
theorem dX11_concludes_10 : decode cX11_concludes 10 = .ok (.invokevirtual 135, 3) := by decide +kernel
theorem dX11_concludes_13 : decode cX11_concludes 13 = .ok (.ifCond .eq 9, 3) := by decide +kernel
theorem dX11_concludes_16 : decode cX11_concludes 16 = .ok (.aload_n 0, 1) := by decide +kernel
theorem dX11_concludes_17 : decode cX11_concludes 17 = .ok (.iconst 1, 1) := by decide +kernel
theorem dX11_concludes_18 : decode cX11_concludes 18 = .ok (.invokevirtual 84, 3) := by decide +kernel
theorem dX11_concludes_21 : decode cX11_concludes 21 = .ok (.ireturn, 1) := by decide +kernel
theorem dX11_concludes_22 : decode cX11_concludes 22 = .ok (.aload_n 0, 1) := by decide +kernel
theorem dX11_concludes_23 : decode cX11_concludes 23 = .ok (.iload_n 1, 1) := by decide +kernel
theorem dX11_concludes_24 : decode cX11_concludes 24 = .ok (.invokevirtual 154, 3) := by decide +kernel
theorem dX11_concludes_27 : decode cX11_concludes 27 = .ok (.aload_n 0, 1) := by decide +kernel
theorem dX11_concludes_28 : decode cX11_concludes 28 = .ok (.iload_n 2, 1) := by decide +kernel
theorem dX11_concludes_29 : decode cX11_concludes 29 = .ok (.invokevirtual 157, 3) := by decide +kernel
theorem dX11_concludes_32 : decode cX11_concludes 32 = .ok (.ireturn, 1) := by decide +kernel
theorem dX11_parts_0 : decode cX11_parts 0 = .ok (.aload_n 0, 1) := by decide +kernel
theorem dX11_parts_1 : decode cX11_parts 1 = .ok (.iload_n 1, 1) := by decide +kernel
theorem dX11_parts_2 : decode cX11_parts 2 = .ok (.invokevirtual 151, 3) := by decide +kernel
theorem dX11_parts_5 : decode cX11_parts 5 = .ok (.ifCond .ne 24, 3) := by decide +kernel
theorem dX11_parts_8 : decode cX11_parts 8 = .ok (.aload_n 0, 1) := by decide +kernel
theorem dX11_parts_9 : decode cX11_parts 9 = .ok (.iload_n 2, 1) := by decide +kernel
theorem dX11_parts_10 : decode cX11_parts 10 = .ok (.invokevirtual 135, 3) := by decide +kernel
theorem dX11_parts_13 : decode cX11_parts 13 = .ok (.ifCond .ne 16, 3) := by decide +kernel
theorem dX11_parts_16 : decode cX11_parts 16 = .ok (.aload_n 0, 1) := by decide +kernel
theorem dX11_parts_17 : decode cX11_parts 17 = .ok (.iload_n 3, 1) := by decide +kernel
theorem dX11_parts_18 : decode cX11_parts 18 = .ok (.invokevirtual 135, 3) := by decide +kernel
theorem dX11_parts_21 : decode cX11_parts 21 = .ok (.ifCond .ne 8, 3) := by decide +kernel
theorem dX11_parts_24 : decode cX11_parts 24 = .ok (.iload_n 2, 1) := by decide +kernel
theorem dX11_parts_25 : decode cX11_parts 25 = .ok (.iload_n 3, 1) := by decide +kernel
theorem dX11_parts_26 : decode cX11_parts 26 = .ok (.if_icmp .ne 9, 3) := by decide +kernel
theorem dX11_parts_29 : decode cX11_parts 29 = .ok (.aload_n 0, 1) := by decide +kernel
theorem dX11_parts_30 : decode cX11_parts 30 = .ok (.iconst 1, 1) := by decide +kernel
theorem dX11_parts_31 : decode cX11_parts 31 = .ok (.invokevirtual 84, 3) := by decide +kernel
theorem dX11_parts_34 : decode cX11_parts 34 = .ok (.ireturn, 1) := by decide +kernel
theorem dX11_parts_35 : decode cX11_parts 35 = .ok (.aload_n 0, 1) := by decide +kernel
theorem dX11_parts_36 : decode cX11_parts 36 = .ok (.iload_n 1, 1) := by decide +kernel
theorem dX11_parts_37 : decode cX11_parts 37 = .ok (.invokevirtual 154, 3) := by decide +kernel
theorem dX11_parts_40 : decode cX11_parts 40 = .ok (.aload_n 0, 1) := by decide +kernel
theorem dX11_parts_41 : decode cX11_parts 41 = .ok (.iload_n 2, 1) := by decide +kernel
theorem dX11_parts_42 : decode cX11_parts 42 = .ok (.invokevirtual 157, 3) := by decide +kernel
theorem dX11_parts_45 : decode cX11_parts 45 = .ok (.aload_n 0, 1) := by decide +kernel
theorem dX11_parts_46 : decode cX11_parts 46 = .ok (.iload_n 3, 1) := by decide +kernel
theorem dX11_parts_47 : decode cX11_parts 47 = .ok (.invokevirtual 157, 3) := by decide +kernel
theorem dX11_parts_50 : decode cX11_parts 50 = .ok (.ixor, 1) := by decide +kernel
theorem dX11_parts_51 : decode cX11_parts 51 = .ok (.istore 4, 2) := by decide +kernel
theorem dX11_parts_53 : decode cX11_parts 53 = .ok (.iconst 0, 1) := by decide +kernel
theorem dX11_parts_54 : decode cX11_parts 54 = .ok (.istore 5, 2) := by decide +kernel
theorem dX11_parts_56 : decode cX11_parts 56 = .ok (.iload 5, 2) := by decide +kernel
theorem dX11_parts_58 : decode cX11_parts 58 = .ok (.bipush 8, 2) := by decide +kernel
theorem dX11_parts_60 : decode cX11_parts 60 = .ok (.if_icmp .ge 23, 3) := by decide +kernel
theorem dX11_parts_63 : decode cX11_parts 63 = .ok (.iload 4, 2) := by decide +kernel
theorem dX11_parts_65 : decode cX11_parts 65 = .ok (.iload 5, 2) := by decide +kernel
theorem dX11_parts_67 : decode cX11_parts 67 = .ok (.ishr, 1) := by decide +kernel
theorem dX11_parts_68 : decode cX11_parts 68 = .ok (.iconst 1, 1) := by decide +kernel
theorem dX11_parts_69 : decode cX11_parts 69 = .ok (.iand, 1) := by decide +kernel
theorem dX11_parts_70 : decode cX11_parts 70 = .ok (.iconst 1, 1) := by decide +kernel
theorem dX11_parts_71 : decode cX11_parts 71 = .ok (.if_icmp .ne 6, 3) := by decide +kernel
theorem dX11_parts_74 : decode cX11_parts 74 = .ok (.iload 5, 2) := by decide +kernel
theorem dX11_parts_76 : decode cX11_parts 76 = .ok (.ireturn, 1) := by decide +kernel
theorem dX11_parts_77 : decode cX11_parts 77 = .ok (.iinc 5 1, 3) := by decide +kernel
theorem dX11_parts_80 : decode cX11_parts 80 = .ok (.goto (-24), 3) := by decide +kernel
theorem dX11_parts_83 : decode cX11_parts 83 = .ok (.bipush (-9), 2) := by decide +kernel
theorem dX11_parts_85 : decode cX11_parts 85 = .ok (.ireturn, 1) := by decide +kernel
theorem dX11_won_0 : decode cX11_won 0 = .ok (.aload_n 0, 1) := by decide +kernel
theorem dX11_won_1 : decode cX11_won 1 = .ok (.iload_n 1, 1) := by decide +kernel
theorem dX11_won_2 : decode cX11_won 2 = .ok (.invokevirtual 151, 3) := by decide +kernel
theorem dX11_won_5 : decode cX11_won 5 = .ok (.ifCond .ne 11, 3) := by decide +kernel
theorem dX11_won_8 : decode cX11_won 8 = .ok (.aload_n 0, 1) := by decide +kernel
theorem dX11_won_9 : decode cX11_won 9 = .ok (.iload_n 2, 1) := by decide +kernel
theorem dX11_won_10 : decode cX11_won 10 = .ok (.invokevirtual 135, 3) := by decide +kernel
theorem dX11_won_13 : decode cX11_won 13 = .ok (.ifCond .eq 9, 3) := by decide +kernel
theorem dX11_won_16 : decode cX11_won 16 = .ok (.aload_n 0, 1) := by decide +kernel
theorem dX11_won_17 : decode cX11_won 17 = .ok (.iconst 1, 1) := by decide +kernel
theorem dX11_won_18 : decode cX11_won 18 = .ok (.invokevirtual 84, 3) := by decide +kernel
theorem dX11_won_21 : decode cX11_won 21 = .ok (.ireturn, 1) := by decide +kernel
theorem dX11_won_22 : decode cX11_won 22 = .ok (.aload_n 0, 1) := by decide +kernel
theorem dX11_won_23 : decode cX11_won 23 = .ok (.iload_n 1, 1) := by decide +kernel
theorem dX11_won_24 : decode cX11_won 24 = .ok (.invokevirtual 160, 3) := by decide +kernel
theorem dX11_won_27 : decode cX11_won 27 = .ok (.iconst 0, 1) := by decide +kernel
theorem dX11_won_28 : decode cX11_won 28 = .ok (.istore_n 3, 1) := by decide +kernel
theorem dX11_won_29 : decode cX11_won 29 = .ok (.iconst 0, 1) := by decide +kernel
theorem dX11_won_30 : decode cX11_won 30 = .ok (.istore 4, 2) := by decide +kernel
theorem dX11_won_32 : decode cX11_won 32 = .ok (.iload 4, 2) := by decide +kernel
theorem dX11_won_34 : decode cX11_won 34 = .ok (.aload_n 0, 1) := by decide +kernel
theorem dX11_won_35 : decode cX11_won 35 = .ok (.getfield 19, 3) := by decide +kernel
theorem dX11_won_38 : decode cX11_won 38 = .ok (.getfield 148, 3) := by decide +kernel
theorem dX11_won_41 : decode cX11_won 41 = .ok (.if_icmp .ge 22, 3) := by decide +kernel
theorem dX11_won_44 : decode cX11_won 44 = .ok (.aload_n 0, 1) := by decide +kernel
theorem dX11_won_45 : decode cX11_won 45 = .ok (.iload_n 2, 1) := by decide +kernel
theorem dX11_won_46 : decode cX11_won 46 = .ok (.iload 4, 2) := by decide +kernel
theorem dX11_won_48 : decode cX11_won 48 = .ok (.invokevirtual 163, 3) := by decide +kernel
theorem dX11_won_51 : decode cX11_won 51 = .ok (.ifCond .eq 6, 3) := by decide +kernel
theorem dX11_won_54 : decode cX11_won 54 = .ok (.iinc 3 1, 3) := by decide +kernel
theorem dX11_won_57 : decode cX11_won 57 = .ok (.iinc 4 1, 3) := by decide +kernel
theorem dX11_won_60 : decode cX11_won 60 = .ok (.goto (-28), 3) := by decide +kernel
theorem dX11_won_63 : decode cX11_won 63 = .ok (.iload_n 3, 1) := by decide +kernel
theorem dX11_won_64 : decode cX11_won 64 = .ok (.ireturn, 1) := by decide +kernel
theorem dX11_masters_0 : decode cX11_masters 0 = .ok (.aload_n 0, 1) := by decide +kernel
theorem dX11_masters_1 : decode cX11_masters 1 = .ok (.iload_n 1, 1) := by decide +kernel
theorem dX11_masters_2 : decode cX11_masters 2 = .ok (.invokevirtual 151, 3) := by decide +kernel
theorem dX11_masters_5 : decode cX11_masters 5 = .ok (.ifCond .eq 9, 3) := by decide +kernel
theorem dX11_masters_8 : decode cX11_masters 8 = .ok (.aload_n 0, 1) := by decide +kernel
theorem dX11_masters_9 : decode cX11_masters 9 = .ok (.iconst 1, 1) := by decide +kernel
theorem dX11_masters_10 : decode cX11_masters 10 = .ok (.invokevirtual 84, 3) := by decide +kernel
theorem dX11_masters_13 : decode cX11_masters 13 = .ok (.ireturn, 1) := by decide +kernel
theorem dX11_masters_14 : decode cX11_masters 14 = .ok (.aload_n 0, 1) := by decide +kernel
theorem dX11_masters_15 : decode cX11_masters 15 = .ok (.iload_n 1, 1) := by decide +kernel
theorem dX11_masters_16 : decode cX11_masters 16 = .ok (.invokevirtual 160, 3) := by decide +kernel
theorem dX11_masters_19 : decode cX11_masters 19 = .ok (.iconst 0, 1) := by decide +kernel
theorem dX11_masters_20 : decode cX11_masters 20 = .ok (.istore_n 2, 1) := by decide +kernel
theorem dX11_masters_21 : decode cX11_masters 21 = .ok (.iconst 0, 1) := by decide +kernel
theorem dX11_masters_22 : decode cX11_masters 22 = .ok (.istore_n 3, 1) := by decide +kernel
theorem dX11_masters_23 : decode cX11_masters 23 = .ok (.iload_n 3, 1) := by decide +kernel
theorem dX11_masters_24 : decode cX11_masters 24 = .ok (.aload_n 0, 1) := by decide +kernel
theorem dX11_masters_25 : decode cX11_masters 25 = .ok (.getfield 19, 3) := by decide +kernel
theorem dX11_masters_28 : decode cX11_masters 28 = .ok (.getfield 148, 3) := by decide +kernel
theorem dX11_masters_31 : decode cX11_masters 31 = .ok (.if_icmp .ge 23, 3) := by decide +kernel
theorem dX11_masters_34 : decode cX11_masters 34 = .ok (.aload_n 0, 1) := by decide +kernel
theorem dX11_masters_35 : decode cX11_masters 35 = .ok (.iload_n 3, 1) := by decide +kernel
theorem dX11_masters_36 : decode cX11_masters 36 = .ok (.invokevirtual 166, 3) := by decide +kernel
theorem dX11_masters_39 : decode cX11_masters 39 = .ok (.ifCond .ne 9, 3) := by decide +kernel
theorem dX11_masters_42 : decode cX11_masters 42 = .ok (.iload_n 2, 1) := by decide +kernel
theorem dX11_masters_43 : decode cX11_masters 43 = .ok (.iconst 1, 1) := by decide +kernel
theorem dX11_masters_44 : decode cX11_masters 44 = .ok (.iload_n 3, 1) := by decide +kernel
theorem dX11_masters_45 : decode cX11_masters 45 = .ok (.ishl, 1) := by decide +kernel
theorem dX11_masters_46 : decode cX11_masters 46 = .ok (.ior, 1) := by decide +kernel
theorem dX11_masters_47 : decode cX11_masters 47 = .ok (.istore_n 2, 1) := by decide +kernel
theorem dX11_masters_48 : decode cX11_masters 48 = .ok (.iinc 3 1, 3) := by decide +kernel
theorem dX11_masters_51 : decode cX11_masters 51 = .ok (.goto (-28), 3) := by decide +kernel
theorem dX11_masters_54 : decode cX11_masters 54 = .ok (.iload_n 2, 1) := by decide +kernel
theorem dX11_masters_55 : decode cX11_masters 55 = .ok (.ireturn, 1) := by decide +kernel
theorem dX11_shortest_0 : decode cX11_shortest 0 = .ok (.aload_n 0, 1) := by decide +kernel
theorem dX11_shortest_1 : decode cX11_shortest 1 = .ok (.iload_n 1, 1) := by decide +kernel
theorem dX11_shortest_2 : decode cX11_shortest 2 = .ok (.invokevirtual 151, 3) := by decide +kernel
theorem dX11_shortest_5 : decode cX11_shortest 5 = .ok (.ifCond .eq 9, 3) := by decide +kernel
theorem dX11_shortest_8 : decode cX11_shortest 8 = .ok (.aload_n 0, 1) := by decide +kernel
theorem dX11_shortest_9 : decode cX11_shortest 9 = .ok (.iconst 1, 1) := by decide +kernel
theorem dX11_shortest_10 : decode cX11_shortest 10 = .ok (.invokevirtual 84, 3) := by decide +kernel
theorem dX11_shortest_13 : decode cX11_shortest 13 = .ok (.ireturn, 1) := by decide +kernel
theorem dX11_shortest_14 : decode cX11_shortest 14 = .ok (.iload_n 2, 1) := by decide +kernel
theorem dX11_shortest_15 : decode cX11_shortest 15 = .ok (.ifCond .ge 9, 3) := by decide +kernel
theorem dX11_shortest_18 : decode cX11_shortest 18 = .ok (.aload_n 0, 1) := by decide +kernel
theorem dX11_shortest_19 : decode cX11_shortest 19 = .ok (.iconst 4, 1) := by decide +kernel
theorem dX11_shortest_20 : decode cX11_shortest 20 = .ok (.invokevirtual 84, 3) := by decide +kernel
theorem dX11_shortest_23 : decode cX11_shortest 23 = .ok (.ireturn, 1) := by decide +kernel
theorem dX11_shortest_24 : decode cX11_shortest 24 = .ok (.iload_n 2, 1) := by decide +kernel
theorem dX11_shortest_25 : decode cX11_shortest 25 = .ok (.sipush 255, 3) := by decide +kernel
theorem dX11_shortest_28 : decode cX11_shortest 28 = .ok (.if_icmp .le 10, 3) := by decide +kernel
theorem dX11_shortest_31 : decode cX11_shortest 31 = .ok (.aload_n 0, 1) := by decide +kernel
theorem dX11_shortest_32 : decode cX11_shortest 32 = .ok (.bipush 6, 2) := by decide +kernel
theorem dX11_shortest_34 : decode cX11_shortest 34 = .ok (.invokevirtual 84, 3) := by decide +kernel
theorem dX11_shortest_37 : decode cX11_shortest 37 = .ok (.ireturn, 1) := by decide +kernel
theorem dX11_shortest_38 : decode cX11_shortest 38 = .ok (.aload_n 0, 1) := by decide +kernel
theorem dX11_shortest_39 : decode cX11_shortest 39 = .ok (.iload_n 1, 1) := by decide +kernel
theorem dX11_shortest_40 : decode cX11_shortest 40 = .ok (.invokevirtual 169, 3) := by decide +kernel
theorem dX11_shortest_43 : decode cX11_shortest 43 = .ok (.iload_n 2, 1) := by decide +kernel
theorem dX11_shortest_44 : decode cX11_shortest 44 = .ok (.invokevirtual 173, 3) := by decide +kernel
theorem dX11_shortest_47 : decode cX11_shortest 47 = .ok (.ireturn, 1) := by decide +kernel
theorem dX11_cut_0 : decode cX11_cut 0 = .ok (.aload_n 0, 1) := by decide +kernel
theorem dX11_cut_1 : decode cX11_cut 1 = .ok (.iload_n 1, 1) := by decide +kernel
theorem dX11_cut_2 : decode cX11_cut 2 = .ok (.invokevirtual 151, 3) := by decide +kernel
theorem dX11_cut_5 : decode cX11_cut 5 = .ok (.ifCond .ne 11, 3) := by decide +kernel
theorem dX11_cut_8 : decode cX11_cut 8 = .ok (.aload_n 0, 1) := by decide +kernel
theorem dX11_cut_9 : decode cX11_cut 9 = .ok (.iload_n 2, 1) := by decide +kernel
theorem dX11_cut_10 : decode cX11_cut 10 = .ok (.invokevirtual 135, 3) := by decide +kernel
theorem dX11_cut_13 : decode cX11_cut 13 = .ok (.ifCond .eq 9, 3) := by decide +kernel
theorem dX11_cut_16 : decode cX11_cut 16 = .ok (.aload_n 0, 1) := by decide +kernel
theorem dX11_cut_17 : decode cX11_cut 17 = .ok (.iconst 1, 1) := by decide +kernel
theorem dX11_cut_18 : decode cX11_cut 18 = .ok (.invokevirtual 176, 3) := by decide +kernel
theorem dX11_cut_21 : decode cX11_cut 21 = .ok (.ireturn, 1) := by decide +kernel
theorem dX11_cut_22 : decode cX11_cut 22 = .ok (.aload_n 0, 1) := by decide +kernel
theorem dX11_cut_23 : decode cX11_cut 23 = .ok (.iload_n 1, 1) := by decide +kernel
theorem dX11_cut_24 : decode cX11_cut 24 = .ok (.invokevirtual 169, 3) := by decide +kernel
theorem dX11_cut_27 : decode cX11_cut 27 = .ok (.astore_n 3, 1) := by decide +kernel
theorem dX11_cut_28 : decode cX11_cut 28 = .ok (.aload_n 3, 1) := by decide +kernel
theorem dX11_cut_29 : decode cX11_cut 29 = .ok (.aload_n 0, 1) := by decide +kernel
theorem dX11_cut_30 : decode cX11_cut 30 = .ok (.iload_n 2, 1) := by decide +kernel
theorem dX11_cut_31 : decode cX11_cut 31 = .ok (.invokevirtual 157, 3) := by decide +kernel
theorem dX11_cut_34 : decode cX11_cut 34 = .ok (.invokevirtual 173, 3) := by decide +kernel
theorem dX11_cut_37 : decode cX11_cut 37 = .ok (.istore 4, 2) := by decide +kernel
theorem dX11_cut_39 : decode cX11_cut 39 = .ok (.iload 4, 2) := by decide +kernel
theorem dX11_cut_41 : decode cX11_cut 41 = .ok (.bipush (-9), 2) := by decide +kernel
theorem dX11_cut_43 : decode cX11_cut 43 = .ok (.if_icmp .ne 8, 3) := by decide +kernel
theorem dX11_cut_46 : decode cX11_cut 46 = .ok (.bipush (-9), 2) := by decide +kernel
theorem dX11_cut_48 : decode cX11_cut 48 = .ok (.goto 18, 3) := by decide +kernel
theorem dX11_cut_51 : decode cX11_cut 51 = .ok (.aload_n 0, 1) := by decide +kernel
theorem dX11_cut_52 : decode cX11_cut 52 = .ok (.getfield 19, 3) := by decide +kernel
theorem dX11_cut_55 : decode cX11_cut 55 = .ok (.getfield 138, 3) := by decide +kernel
theorem dX11_cut_58 : decode cX11_cut 58 = .ok (.iload_n 2, 1) := by decide +kernel
theorem dX11_cut_59 : decode cX11_cut 59 = .ok (.aaload, 1) := by decide +kernel
theorem dX11_cut_60 : decode cX11_cut 60 = .ok (.getfield 142, 3) := by decide +kernel
theorem dX11_cut_63 : decode cX11_cut 63 = .ok (.iload 4, 2) := by decide +kernel
theorem dX11_cut_65 : decode cX11_cut 65 = .ok (.isub, 1) := by decide +kernel
theorem dX11_cut_66 : decode cX11_cut 66 = .ok (.ireturn, 1) := by decide +kernel
theorem dX11_many_0 : decode cX11_many 0 = .ok (.aload_n 0, 1) := by decide +kernel
theorem dX11_many_1 : decode cX11_many 1 = .ok (.iload_n 1, 1) := by decide +kernel
theorem dX11_many_2 : decode cX11_many 2 = .ok (.invokevirtual 151, 3) := by decide +kernel
theorem dX11_many_5 : decode cX11_many 5 = .ok (.ifCond .eq 9, 3) := by decide +kernel
theorem dX11_many_8 : decode cX11_many 8 = .ok (.aload_n 0, 1) := by decide +kernel
theorem dX11_many_9 : decode cX11_many 9 = .ok (.iconst 1, 1) := by decide +kernel
theorem dX11_many_10 : decode cX11_many 10 = .ok (.invokevirtual 84, 3) := by decide +kernel
theorem dX11_many_13 : decode cX11_many 13 = .ok (.ireturn, 1) := by decide +kernel
theorem dX11_many_14 : decode cX11_many 14 = .ok (.iload_n 2, 1) := by decide +kernel
theorem dX11_many_15 : decode cX11_many 15 = .ok (.iconst 1, 1) := by decide +kernel
theorem dX11_many_16 : decode cX11_many 16 = .ok (.if_icmp .ge 9, 3) := by decide +kernel
theorem dX11_many_19 : decode cX11_many 19 = .ok (.aload_n 0, 1) := by decide +kernel
theorem dX11_many_20 : decode cX11_many 20 = .ok (.iconst 4, 1) := by decide +kernel
theorem dX11_many_21 : decode cX11_many 21 = .ok (.invokevirtual 84, 3) := by decide +kernel
theorem dX11_many_24 : decode cX11_many 24 = .ok (.ireturn, 1) := by decide +kernel
theorem dX11_many_25 : decode cX11_many 25 = .ok (.iload_n 2, 1) := by decide +kernel
theorem dX11_many_26 : decode cX11_many 26 = .ok (.bipush 20, 2) := by decide +kernel
theorem dX11_many_28 : decode cX11_many 28 = .ok (.if_icmp .le 10, 3) := by decide +kernel
theorem dX11_many_31 : decode cX11_many 31 = .ok (.aload_n 0, 1) := by decide +kernel
theorem dX11_many_32 : decode cX11_many 32 = .ok (.bipush 6, 2) := by decide +kernel
theorem dX11_many_34 : decode cX11_many 34 = .ok (.invokevirtual 84, 3) := by decide +kernel
theorem dX11_many_37 : decode cX11_many 37 = .ok (.ireturn, 1) := by decide +kernel
theorem dX11_many_38 : decode cX11_many 38 = .ok (.aload_n 0, 1) := by decide +kernel
theorem dX11_many_39 : decode cX11_many 39 = .ok (.iload_n 1, 1) := by decide +kernel
theorem dX11_many_40 : decode cX11_many 40 = .ok (.invokevirtual 169, 3) := by decide +kernel
theorem dX11_many_43 : decode cX11_many 43 = .ok (.iload_n 2, 1) := by decide +kernel
theorem dX11_many_44 : decode cX11_many 44 = .ok (.invokevirtual 179, 3) := by decide +kernel
theorem dX11_many_47 : decode cX11_many 47 = .ok (.ireturn, 1) := by decide +kernel
theorem dX11_farthest_0 : decode cX11_farthest 0 = .ok (.aload_n 0, 1) := by decide +kernel
theorem dX11_farthest_1 : decode cX11_farthest 1 = .ok (.iload_n 1, 1) := by decide +kernel
theorem dX11_farthest_2 : decode cX11_farthest 2 = .ok (.invokevirtual 151, 3) := by decide +kernel
theorem dX11_farthest_5 : decode cX11_farthest 5 = .ok (.ifCond .eq 9, 3) := by decide +kernel
theorem dX11_farthest_8 : decode cX11_farthest 8 = .ok (.aload_n 0, 1) := by decide +kernel
theorem dX11_farthest_9 : decode cX11_farthest 9 = .ok (.iconst 1, 1) := by decide +kernel
theorem dX11_farthest_10 : decode cX11_farthest 10 = .ok (.invokevirtual 84, 3) := by decide +kernel
theorem dX11_farthest_13 : decode cX11_farthest 13 = .ok (.ireturn, 1) := by decide +kernel
theorem dX11_farthest_14 : decode cX11_farthest 14 = .ok (.iload_n 2, 1) := by decide +kernel
theorem dX11_farthest_15 : decode cX11_farthest 15 = .ok (.ifCond .eq 14, 3) := by decide +kernel
theorem dX11_farthest_18 : decode cX11_farthest 18 = .ok (.iload_n 2, 1) := by decide +kernel
theorem dX11_farthest_19 : decode cX11_farthest 19 = .ok (.iconst 1, 1) := by decide +kernel
theorem dX11_farthest_20 : decode cX11_farthest 20 = .ok (.if_icmp .eq 9, 3) := by decide +kernel
theorem dX11_farthest_23 : decode cX11_farthest 23 = .ok (.aload_n 0, 1) := by decide +kernel
theorem dX11_farthest_24 : decode cX11_farthest 24 = .ok (.iconst 2, 1) := by decide +kernel
theorem dX11_farthest_25 : decode cX11_farthest 25 = .ok (.invokevirtual 84, 3) := by decide +kernel
theorem dX11_farthest_28 : decode cX11_farthest 28 = .ok (.ireturn, 1) := by decide +kernel
theorem dX11_farthest_29 : decode cX11_farthest 29 = .ok (.aload_n 0, 1) := by decide +kernel
theorem dX11_farthest_30 : decode cX11_farthest 30 = .ok (.iload_n 1, 1) := by decide +kernel
theorem dX11_farthest_31 : decode cX11_farthest 31 = .ok (.invokevirtual 169, 3) := by decide +kernel
theorem dX11_farthest_34 : decode cX11_farthest 34 = .ok (.astore_n 3, 1) := by decide +kernel
theorem dX11_farthest_35 : decode cX11_farthest 35 = .ok (.aload_n 3, 1) := by decide +kernel
theorem dX11_farthest_36 : decode cX11_farthest 36 = .ok (.invokevirtual 182, 3) := by decide +kernel
theorem dX11_farthest_39 : decode cX11_farthest 39 = .ok (.istore 4, 2) := by decide +kernel
theorem dX11_farthest_41 : decode cX11_farthest 41 = .ok (.iload_n 2, 1) := by decide +kernel
theorem dX11_farthest_42 : decode cX11_farthest 42 = .ok (.ifCond .ne 12, 3) := by decide +kernel
theorem dX11_farthest_45 : decode cX11_farthest 45 = .ok (.aload_n 3, 1) := by decide +kernel
theorem dX11_farthest_46 : decode cX11_farthest 46 = .ok (.iload 4, 2) := by decide +kernel
theorem dX11_farthest_48 : decode cX11_farthest 48 = .ok (.invokevirtual 173, 3) := by decide +kernel
theorem dX11_farthest_51 : decode cX11_farthest 51 = .ok (.goto 5, 3) := by decide +kernel
theorem dX11_farthest_54 : decode cX11_farthest 54 = .ok (.iload 4, 2) := by decide +kernel
theorem dX11_farthest_56 : decode cX11_farthest 56 = .ok (.ireturn, 1) := by decide +kernel
theorem dX11_saves_0 : decode cX11_saves 0 = .ok (.aload_n 0, 1) := by decide +kernel
theorem dX11_saves_1 : decode cX11_saves 1 = .ok (.iload_n 1, 1) := by decide +kernel
theorem dX11_saves_2 : decode cX11_saves 2 = .ok (.invokevirtual 151, 3) := by decide +kernel
theorem dX11_saves_5 : decode cX11_saves 5 = .ok (.ifCond .eq 9, 3) := by decide +kernel
theorem dX11_saves_8 : decode cX11_saves 8 = .ok (.aload_n 0, 1) := by decide +kernel
theorem dX11_saves_9 : decode cX11_saves 9 = .ok (.iconst 1, 1) := by decide +kernel
theorem dX11_saves_10 : decode cX11_saves 10 = .ok (.invokevirtual 176, 3) := by decide +kernel
theorem dX11_saves_13 : decode cX11_saves 13 = .ok (.ireturn, 1) := by decide +kernel
theorem dX11_saves_14 : decode cX11_saves 14 = .ok (.iload_n 2, 1) := by decide +kernel
theorem dX11_saves_15 : decode cX11_saves 15 = .ok (.ifCond .ge 9, 3) := by decide +kernel
theorem dX11_saves_18 : decode cX11_saves 18 = .ok (.aload_n 0, 1) := by decide +kernel
theorem dX11_saves_19 : decode cX11_saves 19 = .ok (.iconst 4, 1) := by decide +kernel
theorem dX11_saves_20 : decode cX11_saves 20 = .ok (.invokevirtual 176, 3) := by decide +kernel
theorem dX11_saves_23 : decode cX11_saves 23 = .ok (.ireturn, 1) := by decide +kernel
theorem dX11_saves_24 : decode cX11_saves 24 = .ok (.iload_n 2, 1) := by decide +kernel
theorem dX11_saves_25 : decode cX11_saves 25 = .ok (.sipush 255, 3) := by decide +kernel
theorem dX11_saves_28 : decode cX11_saves 28 = .ok (.if_icmp .le 10, 3) := by decide +kernel
theorem dX11_saves_31 : decode cX11_saves 31 = .ok (.aload_n 0, 1) := by decide +kernel
theorem dX11_saves_32 : decode cX11_saves 32 = .ok (.bipush 6, 2) := by decide +kernel
theorem dX11_saves_34 : decode cX11_saves 34 = .ok (.invokevirtual 176, 3) := by decide +kernel
theorem dX11_saves_37 : decode cX11_saves 37 = .ok (.ireturn, 1) := by decide +kernel
theorem dX11_saves_38 : decode cX11_saves 38 = .ok (.aload_n 0, 1) := by decide +kernel
theorem dX11_saves_39 : decode cX11_saves 39 = .ok (.iload_n 1, 1) := by decide +kernel
theorem dX11_saves_40 : decode cX11_saves 40 = .ok (.invokevirtual 169, 3) := by decide +kernel
theorem dX11_saves_43 : decode cX11_saves 43 = .ok (.astore_n 3, 1) := by decide +kernel
theorem dX11_saves_44 : decode cX11_saves 44 = .ok (.aload_n 3, 1) := by decide +kernel
theorem dX11_saves_45 : decode cX11_saves 45 = .ok (.iload_n 2, 1) := by decide +kernel
theorem dX11_saves_46 : decode cX11_saves 46 = .ok (.invokevirtual 173, 3) := by decide +kernel
theorem dX11_saves_49 : decode cX11_saves 49 = .ok (.istore 4, 2) := by decide +kernel
theorem dX11_saves_51 : decode cX11_saves 51 = .ok (.iload 4, 2) := by decide +kernel
theorem dX11_saves_53 : decode cX11_saves 53 = .ok (.bipush (-9), 2) := by decide +kernel
theorem dX11_saves_55 : decode cX11_saves 55 = .ok (.if_icmp .ne 8, 3) := by decide +kernel
theorem dX11_saves_58 : decode cX11_saves 58 = .ok (.bipush (-9), 2) := by decide +kernel
theorem dX11_saves_60 : decode cX11_saves 60 = .ok (.goto 14, 3) := by decide +kernel
theorem dX11_saves_63 : decode cX11_saves 63 = .ok (.aload_n 0, 1) := by decide +kernel
theorem dX11_saves_64 : decode cX11_saves 64 = .ok (.iload_n 2, 1) := by decide +kernel
theorem dX11_saves_65 : decode cX11_saves 65 = .ok (.aload_n 3, 1) := by decide +kernel
theorem dX11_saves_66 : decode cX11_saves 66 = .ok (.invokevirtual 185, 3) := by decide +kernel
theorem dX11_saves_69 : decode cX11_saves 69 = .ok (.iload 4, 2) := by decide +kernel
theorem dX11_saves_71 : decode cX11_saves 71 = .ok (.isub, 1) := by decide +kernel
theorem dX11_saves_72 : decode cX11_saves 72 = .ok (.iconst 1, 1) := by decide +kernel
theorem dX11_saves_73 : decode cX11_saves 73 = .ok (.isub, 1) := by decide +kernel
theorem dX11_saves_74 : decode cX11_saves 74 = .ok (.ireturn, 1) := by decide +kernel
theorem dX11_joined_0 : decode cX11_joined 0 = .ok (.aload_n 0, 1) := by decide +kernel
theorem dX11_joined_1 : decode cX11_joined 1 = .ok (.iload_n 1, 1) := by decide +kernel
theorem dX11_joined_2 : decode cX11_joined 2 = .ok (.invokevirtual 151, 3) := by decide +kernel
theorem dX11_joined_5 : decode cX11_joined 5 = .ok (.ifCond .eq 9, 3) := by decide +kernel
theorem dX11_joined_8 : decode cX11_joined 8 = .ok (.aload_n 0, 1) := by decide +kernel
theorem dX11_joined_9 : decode cX11_joined 9 = .ok (.iconst 1, 1) := by decide +kernel
theorem dX11_joined_10 : decode cX11_joined 10 = .ok (.invokevirtual 176, 3) := by decide +kernel
theorem dX11_joined_13 : decode cX11_joined 13 = .ok (.ireturn, 1) := by decide +kernel
theorem dX11_joined_14 : decode cX11_joined 14 = .ok (.iload_n 2, 1) := by decide +kernel
theorem dX11_joined_15 : decode cX11_joined 15 = .ok (.ifCond .lt 7, 3) := by decide +kernel
theorem dX11_joined_18 : decode cX11_joined 18 = .ok (.iload_n 3, 1) := by decide +kernel
theorem dX11_joined_19 : decode cX11_joined 19 = .ok (.ifCond .ge 9, 3) := by decide +kernel
theorem dX11_joined_22 : decode cX11_joined 22 = .ok (.aload_n 0, 1) := by decide +kernel
theorem dX11_joined_23 : decode cX11_joined 23 = .ok (.iconst 4, 1) := by decide +kernel
theorem dX11_joined_24 : decode cX11_joined 24 = .ok (.invokevirtual 176, 3) := by decide +kernel
theorem dX11_joined_27 : decode cX11_joined 27 = .ok (.ireturn, 1) := by decide +kernel
theorem dX11_joined_28 : decode cX11_joined 28 = .ok (.iload_n 2, 1) := by decide +kernel
theorem dX11_joined_29 : decode cX11_joined 29 = .ok (.sipush 255, 3) := by decide +kernel
theorem dX11_joined_32 : decode cX11_joined 32 = .ok (.if_icmp .gt 10, 3) := by decide +kernel
theorem dX11_joined_35 : decode cX11_joined 35 = .ok (.iload_n 3, 1) := by decide +kernel
theorem dX11_joined_36 : decode cX11_joined 36 = .ok (.sipush 255, 3) := by decide +kernel
theorem dX11_joined_39 : decode cX11_joined 39 = .ok (.if_icmp .le 10, 3) := by decide +kernel
theorem dX11_joined_42 : decode cX11_joined 42 = .ok (.aload_n 0, 1) := by decide +kernel
theorem dX11_joined_43 : decode cX11_joined 43 = .ok (.bipush 6, 2) := by decide +kernel
theorem dX11_joined_45 : decode cX11_joined 45 = .ok (.invokevirtual 176, 3) := by decide +kernel
theorem dX11_joined_48 : decode cX11_joined 48 = .ok (.ireturn, 1) := by decide +kernel
theorem dX11_joined_49 : decode cX11_joined 49 = .ok (.aload_n 0, 1) := by decide +kernel
theorem dX11_joined_50 : decode cX11_joined 50 = .ok (.iload_n 1, 1) := by decide +kernel
theorem dX11_joined_51 : decode cX11_joined 51 = .ok (.invokevirtual 169, 3) := by decide +kernel
theorem dX11_joined_54 : decode cX11_joined 54 = .ok (.astore 4, 2) := by decide +kernel
theorem dX11_joined_56 : decode cX11_joined 56 = .ok (.aload 4, 2) := by decide +kernel
theorem dX11_joined_58 : decode cX11_joined 58 = .ok (.iload_n 2, 1) := by decide +kernel
theorem dX11_joined_59 : decode cX11_joined 59 = .ok (.invokevirtual 173, 3) := by decide +kernel
theorem dX11_joined_62 : decode cX11_joined 62 = .ok (.istore 5, 2) := by decide +kernel
theorem dX11_joined_64 : decode cX11_joined 64 = .ok (.aload 4, 2) := by decide +kernel
theorem dX11_joined_66 : decode cX11_joined 66 = .ok (.iload_n 3, 1) := by decide +kernel
theorem dX11_joined_67 : decode cX11_joined 67 = .ok (.invokevirtual 173, 3) := by decide +kernel
theorem dX11_joined_70 : decode cX11_joined 70 = .ok (.istore 6, 2) := by decide +kernel
theorem dX11_joined_72 : decode cX11_joined 72 = .ok (.aload 4, 2) := by decide +kernel
theorem dX11_joined_74 : decode cX11_joined 74 = .ok (.iload_n 2, 1) := by decide +kernel
theorem dX11_joined_75 : decode cX11_joined 75 = .ok (.iload_n 3, 1) := by decide +kernel
theorem dX11_joined_76 : decode cX11_joined 76 = .ok (.iand, 1) := by decide +kernel
theorem dX11_joined_77 : decode cX11_joined 77 = .ok (.invokevirtual 173, 3) := by decide +kernel
theorem dX11_joined_80 : decode cX11_joined 80 = .ok (.istore 7, 2) := by decide +kernel
theorem dX11_joined_82 : decode cX11_joined 82 = .ok (.iload 5, 2) := by decide +kernel
theorem dX11_joined_84 : decode cX11_joined 84 = .ok (.bipush (-9), 2) := by decide +kernel
theorem dX11_joined_86 : decode cX11_joined 86 = .ok (.if_icmp .eq 17, 3) := by decide +kernel
theorem dX11_joined_89 : decode cX11_joined 89 = .ok (.iload 6, 2) := by decide +kernel
theorem dX11_joined_91 : decode cX11_joined 91 = .ok (.bipush (-9), 2) := by decide +kernel
theorem dX11_joined_93 : decode cX11_joined 93 = .ok (.if_icmp .eq 10, 3) := by decide +kernel
theorem dX11_joined_96 : decode cX11_joined 96 = .ok (.iload 7, 2) := by decide +kernel
theorem dX11_joined_98 : decode cX11_joined 98 = .ok (.bipush (-9), 2) := by decide +kernel
theorem dX11_joined_100 : decode cX11_joined 100 = .ok (.if_icmp .ne 6, 3) := by decide +kernel
theorem dX11_joined_103 : decode cX11_joined 103 = .ok (.bipush 99, 2) := by decide +kernel
theorem dX11_joined_105 : decode cX11_joined 105 = .ok (.ireturn, 1) := by decide +kernel
theorem dX11_joined_106 : decode cX11_joined 106 = .ok (.iload 7, 2) := by decide +kernel
theorem dX11_joined_108 : decode cX11_joined 108 = .ok (.iload 5, 2) := by decide +kernel
theorem dX11_joined_110 : decode cX11_joined 110 = .ok (.isub, 1) := by decide +kernel
theorem dX11_joined_111 : decode cX11_joined 111 = .ok (.iload 6, 2) := by decide +kernel
theorem dX11_joined_113 : decode cX11_joined 113 = .ok (.isub, 1) := by decide +kernel
theorem dX11_joined_114 : decode cX11_joined 114 = .ok (.ireturn, 1) := by decide +kernel
theorem dX11_drops_0 : decode cX11_drops 0 = .ok (.aload_n 0, 1) := by decide +kernel
theorem dX11_drops_1 : decode cX11_drops 1 = .ok (.iload_n 1, 1) := by decide +kernel
theorem dX11_drops_2 : decode cX11_drops 2 = .ok (.invokevirtual 151, 3) := by decide +kernel
theorem dX11_drops_5 : decode cX11_drops 5 = .ok (.ifCond .ne 11, 3) := by decide +kernel
theorem dX11_drops_8 : decode cX11_drops 8 = .ok (.aload_n 0, 1) := by decide +kernel
theorem dX11_drops_9 : decode cX11_drops 9 = .ok (.iload_n 2, 1) := by decide +kernel
theorem dX11_drops_10 : decode cX11_drops 10 = .ok (.invokevirtual 135, 3) := by decide +kernel
theorem dX11_drops_13 : decode cX11_drops 13 = .ok (.ifCond .eq 9, 3) := by decide +kernel
theorem dX11_drops_16 : decode cX11_drops 16 = .ok (.aload_n 0, 1) := by decide +kernel
theorem dX11_drops_17 : decode cX11_drops 17 = .ok (.iconst 1, 1) := by decide +kernel
theorem dX11_drops_18 : decode cX11_drops 18 = .ok (.invokevirtual 84, 3) := by decide +kernel
theorem dX11_drops_21 : decode cX11_drops 21 = .ok (.ireturn, 1) := by decide +kernel
theorem dX11_drops_22 : decode cX11_drops 22 = .ok (.iload_n 3, 1) := by decide +kernel
theorem dX11_drops_23 : decode cX11_drops 23 = .ok (.ifCond .eq 14, 3) := by decide +kernel
theorem dX11_drops_26 : decode cX11_drops 26 = .ok (.iload_n 3, 1) := by decide +kernel
theorem dX11_drops_27 : decode cX11_drops 27 = .ok (.iconst 1, 1) := by decide +kernel
theorem dX11_drops_28 : decode cX11_drops 28 = .ok (.if_icmp .eq 9, 3) := by decide +kernel
theorem dX11_drops_31 : decode cX11_drops 31 = .ok (.aload_n 0, 1) := by decide +kernel
theorem dX11_drops_32 : decode cX11_drops 32 = .ok (.iconst 2, 1) := by decide +kernel
theorem dX11_drops_33 : decode cX11_drops 33 = .ok (.invokevirtual 84, 3) := by decide +kernel
theorem dX11_drops_36 : decode cX11_drops 36 = .ok (.ireturn, 1) := by decide +kernel
theorem dX11_drops_37 : decode cX11_drops 37 = .ok (.aload_n 0, 1) := by decide +kernel
theorem dX11_drops_38 : decode cX11_drops 38 = .ok (.iload_n 1, 1) := by decide +kernel
theorem dX11_drops_39 : decode cX11_drops 39 = .ok (.invokevirtual 154, 3) := by decide +kernel
theorem dX11_drops_42 : decode cX11_drops 42 = .ok (.aload_n 0, 1) := by decide +kernel
theorem dX11_drops_43 : decode cX11_drops 43 = .ok (.getfield 19, 3) := by decide +kernel
theorem dX11_drops_46 : decode cX11_drops 46 = .ok (.getfield 138, 3) := by decide +kernel
theorem dX11_drops_49 : decode cX11_drops 49 = .ok (.iload_n 2, 1) := by decide +kernel
theorem dX11_drops_50 : decode cX11_drops 50 = .ok (.aaload, 1) := by decide +kernel
theorem dX11_drops_51 : decode cX11_drops 51 = .ok (.astore 4, 2) := by decide +kernel
theorem dX11_drops_53 : decode cX11_drops 53 = .ok (.aload_n 0, 1) := by decide +kernel
theorem dX11_drops_54 : decode cX11_drops 54 = .ok (.getfield 56, 3) := by decide +kernel
theorem dX11_drops_57 : decode cX11_drops 57 = .ok (.aload 4, 2) := by decide +kernel
theorem dX11_drops_59 : decode cX11_drops 59 = .ok (.invokevirtual 189, 3) := by decide +kernel
theorem dX11_drops_62 : decode cX11_drops 62 = .ok (.istore 5, 2) := by decide +kernel
theorem dX11_drops_64 : decode cX11_drops 64 = .ok (.iconst 0, 1) := by decide +kernel
theorem dX11_drops_65 : decode cX11_drops 65 = .ok (.istore 6, 2) := by decide +kernel
theorem dX11_drops_67 : decode cX11_drops 67 = .ok (.aload 4, 2) := by decide +kernel
theorem dX11_drops_69 : decode cX11_drops 69 = .ok (.getfield 142, 3) := by decide +kernel
theorem dX11_drops_72 : decode cX11_drops 72 = .ok (.istore 7, 2) := by decide +kernel
theorem dX11_drops_74 : decode cX11_drops 74 = .ok (.iconst 0, 1) := by decide +kernel
theorem dX11_drops_75 : decode cX11_drops 75 = .ok (.istore 8, 2) := by decide +kernel
theorem dX11_drops_77 : decode cX11_drops 77 = .ok (.iload 8, 2) := by decide +kernel
theorem dX11_drops_79 : decode cX11_drops 79 = .ok (.aload 4, 2) := by decide +kernel
theorem dX11_drops_81 : decode cX11_drops 81 = .ok (.getfield 142, 3) := by decide +kernel
theorem dX11_drops_84 : decode cX11_drops 84 = .ok (.if_icmp .ge 84, 3) := by decide +kernel
theorem dX11_drops_87 : decode cX11_drops 87 = .ok (.aload 4, 2) := by decide +kernel
theorem dX11_drops_89 : decode cX11_drops 89 = .ok (.getfield 145, 3) := by decide +kernel
theorem dX11_drops_92 : decode cX11_drops 92 = .ok (.iload 8, 2) := by decide +kernel
theorem dX11_drops_94 : decode cX11_drops 94 = .ok (.iaload, 1) := by decide +kernel
theorem dX11_drops_95 : decode cX11_drops 95 = .ok (.invokestatic 192, 3) := by decide +kernel
theorem dX11_drops_98 : decode cX11_drops 98 = .ok (.istore 9, 2) := by decide +kernel
theorem dX11_drops_100 : decode cX11_drops 100 = .ok (.iconst 0, 1) := by decide +kernel
theorem dX11_drops_101 : decode cX11_drops 101 = .ok (.istore 10, 2) := by decide +kernel
theorem dX11_drops_103 : decode cX11_drops 103 = .ok (.iload 10, 2) := by decide +kernel
theorem dX11_drops_105 : decode cX11_drops 105 = .ok (.iload 9, 2) := by decide +kernel
theorem dX11_drops_107 : decode cX11_drops 107 = .ok (.if_icmp .ge 55, 3) := by decide +kernel
theorem dX11_drops_110 : decode cX11_drops 110 = .ok (.aload_n 0, 1) := by decide +kernel
theorem dX11_drops_111 : decode cX11_drops 111 = .ok (.getfield 77, 3) := by decide +kernel
theorem dX11_drops_114 : decode cX11_drops 114 = .ok (.aload 4, 2) := by decide +kernel
theorem dX11_drops_116 : decode cX11_drops 116 = .ok (.iload 8, 2) := by decide +kernel
theorem dX11_drops_118 : decode cX11_drops 118 = .ok (.iload 10, 2) := by decide +kernel
theorem dX11_drops_120 : decode cX11_drops 120 = .ok (.invokevirtual 195, 3) := by decide +kernel
theorem dX11_drops_123 : decode cX11_drops 123 = .ok (.aload_n 0, 1) := by decide +kernel
theorem dX11_drops_124 : decode cX11_drops 124 = .ok (.getfield 56, 3) := by decide +kernel
theorem dX11_drops_127 : decode cX11_drops 127 = .ok (.aload_n 0, 1) := by decide +kernel
theorem dX11_drops_128 : decode cX11_drops 128 = .ok (.getfield 77, 3) := by decide +kernel
theorem dX11_drops_131 : decode cX11_drops 131 = .ok (.invokevirtual 189, 3) := by decide +kernel
theorem dX11_drops_134 : decode cX11_drops 134 = .ok (.iload 5, 2) := by decide +kernel
theorem dX11_drops_136 : decode cX11_drops 136 = .ok (.if_icmp .ne 20, 3) := by decide +kernel
theorem dX11_drops_139 : decode cX11_drops 139 = .ok (.iinc 6 1, 3) := by decide +kernel
theorem dX11_drops_142 : decode cX11_drops 142 = .ok (.iload 7, 2) := by decide +kernel
theorem dX11_drops_144 : decode cX11_drops 144 = .ok (.aload_n 0, 1) := by decide +kernel
theorem dX11_drops_145 : decode cX11_drops 145 = .ok (.getfield 77, 3) := by decide +kernel
theorem dX11_drops_148 : decode cX11_drops 148 = .ok (.getfield 142, 3) := by decide +kernel
theorem dX11_drops_151 : decode cX11_drops 151 = .ok (.invokestatic 199, 3) := by decide +kernel
theorem dX11_drops_154 : decode cX11_drops 154 = .ok (.istore 7, 2) := by decide +kernel
theorem dX11_drops_156 : decode cX11_drops 156 = .ok (.iinc 10 1, 3) := by decide +kernel
theorem dX11_drops_159 : decode cX11_drops 159 = .ok (.goto (-56), 3) := by decide +kernel
theorem dX11_drops_162 : decode cX11_drops 162 = .ok (.iinc 8 1, 3) := by decide +kernel
theorem dX11_drops_165 : decode cX11_drops 165 = .ok (.goto (-88), 3) := by decide +kernel
theorem dX11_drops_168 : decode cX11_drops 168 = .ok (.iload_n 3, 1) := by decide +kernel
theorem dX11_drops_169 : decode cX11_drops 169 = .ok (.ifCond .ne 8, 3) := by decide +kernel
theorem dX11_drops_172 : decode cX11_drops 172 = .ok (.iload 6, 2) := by decide +kernel
theorem dX11_drops_174 : decode cX11_drops 174 = .ok (.goto 5, 3) := by decide +kernel
theorem dX11_drops_177 : decode cX11_drops 177 = .ok (.iload 7, 2) := by decide +kernel
theorem dX11_drops_179 : decode cX11_drops 179 = .ok (.ireturn, 1) := by decide +kernel
theorem dX11_heard_0 : decode cX11_heard 0 = .ok (.aload_n 0, 1) := by decide +kernel
theorem dX11_heard_1 : decode cX11_heard 1 = .ok (.iload_n 1, 1) := by decide +kernel
theorem dX11_heard_2 : decode cX11_heard 2 = .ok (.invokevirtual 151, 3) := by decide +kernel
theorem dX11_heard_5 : decode cX11_heard 5 = .ok (.ifCond .ne 11, 3) := by decide +kernel
theorem dX11_heard_8 : decode cX11_heard 8 = .ok (.aload_n 0, 1) := by decide +kernel
theorem dX11_heard_9 : decode cX11_heard 9 = .ok (.iload_n 2, 1) := by decide +kernel
theorem dX11_heard_10 : decode cX11_heard 10 = .ok (.invokevirtual 135, 3) := by decide +kernel
theorem dX11_heard_13 : decode cX11_heard 13 = .ok (.ifCond .eq 9, 3) := by decide +kernel
theorem dX11_heard_16 : decode cX11_heard 16 = .ok (.aload_n 0, 1) := by decide +kernel
theorem dX11_heard_17 : decode cX11_heard 17 = .ok (.iconst 1, 1) := by decide +kernel
theorem dX11_heard_18 : decode cX11_heard 18 = .ok (.invokevirtual 84, 3) := by decide +kernel
theorem dX11_heard_21 : decode cX11_heard 21 = .ok (.ireturn, 1) := by decide +kernel
theorem dX11_heard_22 : decode cX11_heard 22 = .ok (.iload_n 3, 1) := by decide +kernel
theorem dX11_heard_23 : decode cX11_heard 23 = .ok (.ifCond .lt 8, 3) := by decide +kernel
theorem dX11_heard_26 : decode cX11_heard 26 = .ok (.iload 4, 2) := by decide +kernel
theorem dX11_heard_28 : decode cX11_heard 28 = .ok (.ifCond .ge 9, 3) := by decide +kernel
theorem dX11_heard_31 : decode cX11_heard 31 = .ok (.aload_n 0, 1) := by decide +kernel
theorem dX11_heard_32 : decode cX11_heard 32 = .ok (.iconst 4, 1) := by decide +kernel
theorem dX11_heard_33 : decode cX11_heard 33 = .ok (.invokevirtual 84, 3) := by decide +kernel
theorem dX11_heard_36 : decode cX11_heard 36 = .ok (.ireturn, 1) := by decide +kernel
theorem dX11_heard_37 : decode cX11_heard 37 = .ok (.aload_n 0, 1) := by decide +kernel
theorem dX11_heard_38 : decode cX11_heard 38 = .ok (.getfield 19, 3) := by decide +kernel
theorem dX11_heard_41 : decode cX11_heard 41 = .ok (.getfield 138, 3) := by decide +kernel
theorem dX11_heard_44 : decode cX11_heard 44 = .ok (.iload_n 2, 1) := by decide +kernel
theorem dX11_heard_45 : decode cX11_heard 45 = .ok (.aaload, 1) := by decide +kernel
theorem dX11_heard_46 : decode cX11_heard 46 = .ok (.astore 5, 2) := by decide +kernel
theorem dX11_heard_48 : decode cX11_heard 48 = .ok (.iload_n 3, 1) := by decide +kernel
theorem dX11_heard_49 : decode cX11_heard 49 = .ok (.aload 5, 2) := by decide +kernel
theorem dX11_heard_51 : decode cX11_heard 51 = .ok (.getfield 142, 3) := by decide +kernel
theorem dX11_heard_54 : decode cX11_heard 54 = .ok (.if_icmp .ge 11, 3) := by decide +kernel
theorem dX11_heard_57 : decode cX11_heard 57 = .ok (.iload 4, 2) := by decide +kernel
theorem dX11_heard_59 : decode cX11_heard 59 = .ok (.sipush 255, 3) := by decide +kernel
theorem dX11_heard_62 : decode cX11_heard 62 = .ok (.if_icmp .le 10, 3) := by decide +kernel
theorem dX11_heard_65 : decode cX11_heard 65 = .ok (.aload_n 0, 1) := by decide +kernel
theorem dX11_heard_66 : decode cX11_heard 66 = .ok (.bipush 6, 2) := by decide +kernel
theorem dX11_heard_68 : decode cX11_heard 68 = .ok (.invokevirtual 84, 3) := by decide +kernel
theorem dX11_heard_71 : decode cX11_heard 71 = .ok (.ireturn, 1) := by decide +kernel
theorem dX11_heard_72 : decode cX11_heard 72 = .ok (.aload_n 0, 1) := by decide +kernel
theorem dX11_heard_73 : decode cX11_heard 73 = .ok (.iload_n 1, 1) := by decide +kernel
theorem dX11_heard_74 : decode cX11_heard 74 = .ok (.invokevirtual 154, 3) := by decide +kernel
theorem dX11_heard_77 : decode cX11_heard 77 = .ok (.aload 5, 2) := by decide +kernel
theorem dX11_heard_79 : decode cX11_heard 79 = .ok (.getfield 145, 3) := by decide +kernel
theorem dX11_heard_82 : decode cX11_heard 82 = .ok (.iload_n 3, 1) := by decide +kernel
theorem dX11_heard_83 : decode cX11_heard 83 = .ok (.iaload, 1) := by decide +kernel
theorem dX11_heard_84 : decode cX11_heard 84 = .ok (.invokestatic 192, 3) := by decide +kernel
theorem dX11_heard_87 : decode cX11_heard 87 = .ok (.istore 6, 2) := by decide +kernel
theorem dX11_heard_89 : decode cX11_heard 89 = .ok (.aload_n 0, 1) := by decide +kernel
theorem dX11_heard_90 : decode cX11_heard 90 = .ok (.getfield 77, 3) := by decide +kernel
theorem dX11_heard_93 : decode cX11_heard 93 = .ok (.aload 5, 2) := by decide +kernel
theorem dX11_heard_95 : decode cX11_heard 95 = .ok (.invokevirtual 205, 3) := by decide +kernel
theorem dX11_heard_98 : decode cX11_heard 98 = .ok (.iconst 0, 1) := by decide +kernel
theorem dX11_heard_99 : decode cX11_heard 99 = .ok (.istore 7, 2) := by decide +kernel
theorem dX11_heard_101 : decode cX11_heard 101 = .ok (.iconst 0, 1) := by decide +kernel
theorem dX11_heard_102 : decode cX11_heard 102 = .ok (.istore 8, 2) := by decide +kernel
theorem dX11_heard_104 : decode cX11_heard 104 = .ok (.iload 8, 2) := by decide +kernel
theorem dX11_heard_106 : decode cX11_heard 106 = .ok (.getstatic 209, 3) := by decide +kernel
theorem dX11_heard_109 : decode cX11_heard 109 = .ok (.arraylength, 1) := by decide +kernel
theorem dX11_heard_110 : decode cX11_heard 110 = .ok (.if_icmp .ge 67, 3) := by decide +kernel
theorem dX11_heard_113 : decode cX11_heard 113 = .ok (.getstatic 209, 3) := by decide +kernel
theorem dX11_heard_116 : decode cX11_heard 116 = .ok (.iload 8, 2) := by decide +kernel
theorem dX11_heard_118 : decode cX11_heard 118 = .ok (.iaload, 1) := by decide +kernel
theorem dX11_heard_119 : decode cX11_heard 119 = .ok (.invokestatic 192, 3) := by decide +kernel
theorem dX11_heard_122 : decode cX11_heard 122 = .ok (.iload 6, 2) := by decide +kernel
theorem dX11_heard_124 : decode cX11_heard 124 = .ok (.if_icmp .ne 47, 3) := by decide +kernel
theorem dX11_heard_127 : decode cX11_heard 127 = .ok (.aload_n 0, 1) := by decide +kernel
theorem dX11_heard_128 : decode cX11_heard 128 = .ok (.getfield 77, 3) := by decide +kernel
theorem dX11_heard_131 : decode cX11_heard 131 = .ok (.getfield 145, 3) := by decide +kernel
theorem dX11_heard_134 : decode cX11_heard 134 = .ok (.iload_n 3, 1) := by decide +kernel
theorem dX11_heard_135 : decode cX11_heard 135 = .ok (.getstatic 209, 3) := by decide +kernel
theorem dX11_heard_138 : decode cX11_heard 138 = .ok (.iload 8, 2) := by decide +kernel
theorem dX11_heard_140 : decode cX11_heard 140 = .ok (.iaload, 1) := by decide +kernel
theorem dX11_heard_141 : decode cX11_heard 141 = .ok (.iastore, 1) := by decide +kernel
theorem dX11_heard_142 : decode cX11_heard 142 = .ok (.iload 7, 2) := by decide +kernel
theorem dX11_heard_144 : decode cX11_heard 144 = .ok (.aload_n 0, 1) := by decide +kernel
theorem dX11_heard_145 : decode cX11_heard 145 = .ok (.getfield 56, 3) := by decide +kernel
theorem dX11_heard_148 : decode cX11_heard 148 = .ok (.aload_n 0, 1) := by decide +kernel
theorem dX11_heard_149 : decode cX11_heard 149 = .ok (.getfield 77, 3) := by decide +kernel
theorem dX11_heard_152 : decode cX11_heard 152 = .ok (.invokevirtual 189, 3) := by decide +kernel
theorem dX11_heard_155 : decode cX11_heard 155 = .ok (.iload 4, 2) := by decide +kernel
theorem dX11_heard_157 : decode cX11_heard 157 = .ok (.if_icmp .ne 10, 3) := by decide +kernel
theorem dX11_heard_160 : decode cX11_heard 160 = .ok (.iconst 1, 1) := by decide +kernel
theorem dX11_heard_161 : decode cX11_heard 161 = .ok (.iload 8, 2) := by decide +kernel
theorem dX11_heard_163 : decode cX11_heard 163 = .ok (.ishl, 1) := by decide +kernel
theorem dX11_heard_164 : decode cX11_heard 164 = .ok (.goto 4, 3) := by decide +kernel
theorem dX11_heard_167 : decode cX11_heard 167 = .ok (.iconst 0, 1) := by decide +kernel
theorem dX11_heard_168 : decode cX11_heard 168 = .ok (.ior, 1) := by decide +kernel
theorem dX11_heard_169 : decode cX11_heard 169 = .ok (.istore 7, 2) := by decide +kernel
theorem dX11_heard_171 : decode cX11_heard 171 = .ok (.iinc 8 1, 3) := by decide +kernel
theorem dX11_heard_174 : decode cX11_heard 174 = .ok (.goto (-70), 3) := by decide +kernel
theorem dX11_heard_177 : decode cX11_heard 177 = .ok (.iload 7, 2) := by decide +kernel
theorem dX11_heard_179 : decode cX11_heard 179 = .ok (.ireturn, 1) := by decide +kernel
theorem dX11_unlike_0 : decode cX11_unlike 0 = .ok (.aload_n 0, 1) := by decide +kernel
theorem dX11_unlike_1 : decode cX11_unlike 1 = .ok (.iload_n 1, 1) := by decide +kernel
theorem dX11_unlike_2 : decode cX11_unlike 2 = .ok (.invokevirtual 135, 3) := by decide +kernel
theorem dX11_unlike_5 : decode cX11_unlike 5 = .ok (.ifCond .eq 9, 3) := by decide +kernel
theorem dX11_unlike_8 : decode cX11_unlike 8 = .ok (.aload_n 0, 1) := by decide +kernel
theorem dX11_unlike_9 : decode cX11_unlike 9 = .ok (.iconst 1, 1) := by decide +kernel
theorem dX11_unlike_10 : decode cX11_unlike 10 = .ok (.invokevirtual 84, 3) := by decide +kernel
theorem dX11_unlike_13 : decode cX11_unlike 13 = .ok (.ireturn, 1) := by decide +kernel
theorem dX11_unlike_14 : decode cX11_unlike 14 = .ok (.iconst 0, 1) := by decide +kernel
theorem dX11_unlike_15 : decode cX11_unlike 15 = .ok (.istore_n 2, 1) := by decide +kernel
theorem dX11_unlike_16 : decode cX11_unlike 16 = .ok (.iconst 0, 1) := by decide +kernel
theorem dX11_unlike_17 : decode cX11_unlike 17 = .ok (.istore_n 3, 1) := by decide +kernel
theorem dX11_unlike_18 : decode cX11_unlike 18 = .ok (.iload_n 3, 1) := by decide +kernel
theorem dX11_unlike_19 : decode cX11_unlike 19 = .ok (.aload_n 0, 1) := by decide +kernel
theorem dX11_unlike_20 : decode cX11_unlike 20 = .ok (.getfield 19, 3) := by decide +kernel
theorem dX11_unlike_23 : decode cX11_unlike 23 = .ok (.getfield 212, 3) := by decide +kernel
theorem dX11_unlike_26 : decode cX11_unlike 26 = .ok (.if_icmp .ge 21, 3) := by decide +kernel
theorem dX11_unlike_29 : decode cX11_unlike 29 = .ok (.aload_n 0, 1) := by decide +kernel
theorem dX11_unlike_30 : decode cX11_unlike 30 = .ok (.iload_n 3, 1) := by decide +kernel
theorem dX11_unlike_31 : decode cX11_unlike 31 = .ok (.iload_n 1, 1) := by decide +kernel
theorem dX11_unlike_32 : decode cX11_unlike 32 = .ok (.invokevirtual 215, 3) := by decide +kernel
theorem dX11_unlike_35 : decode cX11_unlike 35 = .ok (.ifCond .ne 6, 3) := by decide +kernel
theorem dX11_unlike_38 : decode cX11_unlike 38 = .ok (.iinc 2 1, 3) := by decide +kernel
theorem dX11_unlike_41 : decode cX11_unlike 41 = .ok (.iinc 3 1, 3) := by decide +kernel
theorem dX11_unlike_44 : decode cX11_unlike 44 = .ok (.goto (-26), 3) := by decide +kernel
theorem dX11_unlike_47 : decode cX11_unlike 47 = .ok (.iload_n 2, 1) := by decide +kernel
theorem dX11_unlike_48 : decode cX11_unlike 48 = .ok (.ireturn, 1) := by decide +kernel
theorem dX11_agree_0 : decode cX11_agree 0 = .ok (.iconst 0, 1) := by decide +kernel
theorem dX11_agree_1 : decode cX11_agree 1 = .ok (.istore_n 1, 1) := by decide +kernel
theorem dX11_agree_2 : decode cX11_agree 2 = .ok (.iconst 0, 1) := by decide +kernel
theorem dX11_agree_3 : decode cX11_agree 3 = .ok (.istore_n 2, 1) := by decide +kernel
theorem dX11_agree_4 : decode cX11_agree 4 = .ok (.iload_n 2, 1) := by decide +kernel
theorem dX11_agree_5 : decode cX11_agree 5 = .ok (.aload_n 0, 1) := by decide +kernel
theorem dX11_agree_6 : decode cX11_agree 6 = .ok (.getfield 19, 3) := by decide +kernel
theorem dX11_agree_9 : decode cX11_agree 9 = .ok (.getfield 212, 3) := by decide +kernel
theorem dX11_agree_12 : decode cX11_agree 12 = .ok (.if_icmp .ge 42, 3) := by decide +kernel
theorem dX11_agree_15 : decode cX11_agree 15 = .ok (.iload_n 2, 1) := by decide +kernel
theorem dX11_agree_16 : decode cX11_agree 16 = .ok (.iconst 1, 1) := by decide +kernel
theorem dX11_agree_17 : decode cX11_agree 17 = .ok (.iadd, 1) := by decide +kernel
theorem dX11_agree_18 : decode cX11_agree 18 = .ok (.istore_n 3, 1) := by decide +kernel
theorem dX11_agree_19 : decode cX11_agree 19 = .ok (.iload_n 3, 1) := by decide +kernel
theorem dX11_agree_20 : decode cX11_agree 20 = .ok (.aload_n 0, 1) := by decide +kernel
theorem dX11_agree_21 : decode cX11_agree 21 = .ok (.getfield 19, 3) := by decide +kernel
theorem dX11_agree_24 : decode cX11_agree 24 = .ok (.getfield 212, 3) := by decide +kernel
theorem dX11_agree_27 : decode cX11_agree 27 = .ok (.if_icmp .ge 21, 3) := by decide +kernel
theorem dX11_agree_30 : decode cX11_agree 30 = .ok (.aload_n 0, 1) := by decide +kernel
theorem dX11_agree_31 : decode cX11_agree 31 = .ok (.iload_n 2, 1) := by decide +kernel
theorem dX11_agree_32 : decode cX11_agree 32 = .ok (.iload_n 3, 1) := by decide +kernel
theorem dX11_agree_33 : decode cX11_agree 33 = .ok (.invokevirtual 218, 3) := by decide +kernel
theorem dX11_agree_36 : decode cX11_agree 36 = .ok (.ifCond .eq 6, 3) := by decide +kernel
theorem dX11_agree_39 : decode cX11_agree 39 = .ok (.iinc 1 1, 3) := by decide +kernel
theorem dX11_agree_42 : decode cX11_agree 42 = .ok (.iinc 3 1, 3) := by decide +kernel
theorem dX11_agree_45 : decode cX11_agree 45 = .ok (.goto (-26), 3) := by decide +kernel
theorem dX11_agree_48 : decode cX11_agree 48 = .ok (.iinc 2 1, 3) := by decide +kernel
theorem dX11_agree_51 : decode cX11_agree 51 = .ok (.goto (-47), 3) := by decide +kernel
theorem dX11_agree_54 : decode cX11_agree 54 = .ok (.iload_n 1, 1) := by decide +kernel
theorem dX11_agree_55 : decode cX11_agree 55 = .ok (.ireturn, 1) := by decide +kernel
theorem dX11_row_0 : decode cX11_row 0 = .ok (.iload_n 1, 1) := by decide +kernel
theorem dX11_row_1 : decode cX11_row 1 = .ok (.ifCond .ge 9, 3) := by decide +kernel
theorem dX11_row_4 : decode cX11_row 4 = .ok (.aload_n 0, 1) := by decide +kernel
theorem dX11_row_5 : decode cX11_row 5 = .ok (.iconst 4, 1) := by decide +kernel
theorem dX11_row_6 : decode cX11_row 6 = .ok (.invokevirtual 84, 3) := by decide +kernel
theorem dX11_row_9 : decode cX11_row 9 = .ok (.ireturn, 1) := by decide +kernel
theorem dX11_row_10 : decode cX11_row 10 = .ok (.iload_n 1, 1) := by decide +kernel
theorem dX11_row_11 : decode cX11_row 11 = .ok (.sipush 255, 3) := by decide +kernel
theorem dX11_row_14 : decode cX11_row 14 = .ok (.if_icmp .gt 12, 3) := by decide +kernel
theorem dX11_row_17 : decode cX11_row 17 = .ok (.aload_n 0, 1) := by decide +kernel
theorem dX11_row_18 : decode cX11_row 18 = .ok (.getfield 37, 3) := by decide +kernel
theorem dX11_row_21 : decode cX11_row 21 = .ok (.bipush 6, 2) := by decide +kernel
theorem dX11_row_23 : decode cX11_row 23 = .ok (.if_icmp .lt 10, 3) := by decide +kernel
theorem dX11_row_26 : decode cX11_row 26 = .ok (.aload_n 0, 1) := by decide +kernel
theorem dX11_row_27 : decode cX11_row 27 = .ok (.bipush 6, 2) := by decide +kernel
theorem dX11_row_29 : decode cX11_row 29 = .ok (.invokevirtual 84, 3) := by decide +kernel
theorem dX11_row_32 : decode cX11_row 32 = .ok (.ireturn, 1) := by decide +kernel
theorem dX11_row_33 : decode cX11_row 33 = .ok (.aload_n 0, 1) := by decide +kernel
theorem dX11_row_34 : decode cX11_row 34 = .ok (.getfield 33, 3) := by decide +kernel
theorem dX11_row_37 : decode cX11_row 37 = .ok (.aload_n 0, 1) := by decide +kernel
theorem dX11_row_38 : decode cX11_row 38 = .ok (.getfield 37, 3) := by decide +kernel
theorem dX11_row_41 : decode cX11_row 41 = .ok (.iload_n 1, 1) := by decide +kernel
theorem dX11_row_42 : decode cX11_row 42 = .ok (.iastore, 1) := by decide +kernel
theorem dX11_row_43 : decode cX11_row 43 = .ok (.aload_n 0, 1) := by decide +kernel
theorem dX11_row_44 : decode cX11_row 44 = .ok (.dup, 1) := by decide +kernel
theorem dX11_row_45 : decode cX11_row 45 = .ok (.getfield 37, 3) := by decide +kernel
theorem dX11_row_48 : decode cX11_row 48 = .ok (.iconst 1, 1) := by decide +kernel
theorem dX11_row_49 : decode cX11_row 49 = .ok (.iadd, 1) := by decide +kernel
theorem dX11_row_50 : decode cX11_row 50 = .ok (.putfield 37, 3) := by decide +kernel
theorem dX11_row_53 : decode cX11_row 53 = .ok (.aload_n 0, 1) := by decide +kernel
theorem dX11_row_54 : decode cX11_row 54 = .ok (.getfield 37, 3) := by decide +kernel
theorem dX11_row_57 : decode cX11_row 57 = .ok (.ireturn, 1) := by decide +kernel
theorem dX11_judge_0 : decode cX11_judge 0 = .ok (.aload_n 0, 1) := by decide +kernel
theorem dX11_judge_1 : decode cX11_judge 1 = .ok (.iload_n 1, 1) := by decide +kernel
theorem dX11_judge_2 : decode cX11_judge 2 = .ok (.invokevirtual 151, 3) := by decide +kernel
theorem dX11_judge_5 : decode cX11_judge 5 = .ok (.ifCond .eq 9, 3) := by decide +kernel
theorem dX11_judge_8 : decode cX11_judge 8 = .ok (.aload_n 0, 1) := by decide +kernel
theorem dX11_judge_9 : decode cX11_judge 9 = .ok (.iconst 1, 1) := by decide +kernel
theorem dX11_judge_10 : decode cX11_judge 10 = .ok (.invokevirtual 84, 3) := by decide +kernel
theorem dX11_judge_13 : decode cX11_judge 13 = .ok (.ireturn, 1) := by decide +kernel
theorem dX11_judge_14 : decode cX11_judge 14 = .ok (.aload_n 0, 1) := by decide +kernel
theorem dX11_judge_15 : decode cX11_judge 15 = .ok (.iload_n 1, 1) := by decide +kernel
theorem dX11_judge_16 : decode cX11_judge 16 = .ok (.invokevirtual 154, 3) := by decide +kernel
theorem dX11_judge_19 : decode cX11_judge 19 = .ok (.aload_n 0, 1) := by decide +kernel
theorem dX11_judge_20 : decode cX11_judge 20 = .ok (.getfield 37, 3) := by decide +kernel
theorem dX11_judge_23 : decode cX11_judge 23 = .ok (.istore_n 2, 1) := by decide +kernel
theorem dX11_judge_24 : decode cX11_judge 24 = .ok (.aload_n 0, 1) := by decide +kernel
theorem dX11_judge_25 : decode cX11_judge 25 = .ok (.iconst 0, 1) := by decide +kernel
theorem dX11_judge_26 : decode cX11_judge 26 = .ok (.putfield 37, 3) := by decide +kernel
theorem dX11_judge_29 : decode cX11_judge 29 = .ok (.iload_n 2, 1) := by decide +kernel
theorem dX11_judge_30 : decode cX11_judge 30 = .ok (.aload_n 0, 1) := by decide +kernel
theorem dX11_judge_31 : decode cX11_judge 31 = .ok (.getfield 19, 3) := by decide +kernel
theorem dX11_judge_34 : decode cX11_judge 34 = .ok (.getfield 148, 3) := by decide +kernel
theorem dX11_judge_37 : decode cX11_judge 37 = .ok (.invokestatic 199, 3) := by decide +kernel
theorem dX11_judge_40 : decode cX11_judge 40 = .ok (.istore_n 3, 1) := by decide +kernel
theorem dX11_judge_41 : decode cX11_judge 41 = .ok (.iconst 0, 1) := by decide +kernel
theorem dX11_judge_42 : decode cX11_judge 42 = .ok (.istore 4, 2) := by decide +kernel
theorem dX11_judge_44 : decode cX11_judge 44 = .ok (.iload 4, 2) := by decide +kernel
theorem dX11_judge_46 : decode cX11_judge 46 = .ok (.iload_n 3, 1) := by decide +kernel
theorem dX11_judge_47 : decode cX11_judge 47 = .ok (.if_icmp .ge 28, 3) := by decide +kernel
theorem dX11_judge_50 : decode cX11_judge 50 = .ok (.aload_n 0, 1) := by decide +kernel
theorem dX11_judge_51 : decode cX11_judge 51 = .ok (.iload 4, 2) := by decide +kernel
theorem dX11_judge_53 : decode cX11_judge 53 = .ok (.invokevirtual 157, 3) := by decide +kernel
theorem dX11_judge_56 : decode cX11_judge 56 = .ok (.aload_n 0, 1) := by decide +kernel
theorem dX11_judge_57 : decode cX11_judge 57 = .ok (.getfield 33, 3) := by decide +kernel
theorem dX11_judge_60 : decode cX11_judge 60 = .ok (.iload 4, 2) := by decide +kernel
theorem dX11_judge_62 : decode cX11_judge 62 = .ok (.iaload, 1) := by decide +kernel
theorem dX11_judge_63 : decode cX11_judge 63 = .ok (.if_icmp .eq 6, 3) := by decide +kernel
theorem dX11_judge_66 : decode cX11_judge 66 = .ok (.iload 4, 2) := by decide +kernel
theorem dX11_judge_68 : decode cX11_judge 68 = .ok (.ireturn, 1) := by decide +kernel
theorem dX11_judge_69 : decode cX11_judge 69 = .ok (.iinc 4 1, 3) := by decide +kernel
theorem dX11_judge_72 : decode cX11_judge 72 = .ok (.goto (-28), 3) := by decide +kernel
theorem dX11_judge_75 : decode cX11_judge 75 = .ok (.iload_n 2, 1) := by decide +kernel
theorem dX11_judge_76 : decode cX11_judge 76 = .ok (.aload_n 0, 1) := by decide +kernel
theorem dX11_judge_77 : decode cX11_judge 77 = .ok (.getfield 19, 3) := by decide +kernel
theorem dX11_judge_80 : decode cX11_judge 80 = .ok (.getfield 148, 3) := by decide +kernel
theorem dX11_judge_83 : decode cX11_judge 83 = .ok (.if_icmp .ne 8, 3) := by decide +kernel
theorem dX11_judge_86 : decode cX11_judge 86 = .ok (.bipush (-9), 2) := by decide +kernel
theorem dX11_judge_88 : decode cX11_judge 88 = .ok (.goto 4, 3) := by decide +kernel
theorem dX11_judge_91 : decode cX11_judge 91 = .ok (.iload_n 3, 1) := by decide +kernel
theorem dX11_judge_92 : decode cX11_judge 92 = .ok (.ireturn, 1) := by decide +kernel
theorem dX11_seeds_0 : decode cX11_seeds 0 = .ok (.iload_n 1, 1) := by decide +kernel
theorem dX11_seeds_1 : decode cX11_seeds 1 = .ok (.iconst 1, 1) := by decide +kernel
theorem dX11_seeds_2 : decode cX11_seeds 2 = .ok (.if_icmp .lt 7, 3) := by decide +kernel
theorem dX11_seeds_5 : decode cX11_seeds 5 = .ok (.iload_n 3, 1) := by decide +kernel
theorem dX11_seeds_6 : decode cX11_seeds 6 = .ok (.ifCond .ge 9, 3) := by decide +kernel
theorem dX11_seeds_9 : decode cX11_seeds 9 = .ok (.aload_n 0, 1) := by decide +kernel
theorem dX11_seeds_10 : decode cX11_seeds 10 = .ok (.iconst 4, 1) := by decide +kernel
theorem dX11_seeds_11 : decode cX11_seeds 11 = .ok (.invokevirtual 84, 3) := by decide +kernel
theorem dX11_seeds_14 : decode cX11_seeds 14 = .ok (.ireturn, 1) := by decide +kernel
theorem dX11_seeds_15 : decode cX11_seeds 15 = .ok (.iload_n 1, 1) := by decide +kernel
theorem dX11_seeds_16 : decode cX11_seeds 16 = .ok (.bipush 20, 2) := by decide +kernel
theorem dX11_seeds_18 : decode cX11_seeds 18 = .ok (.if_icmp .gt 10, 3) := by decide +kernel
theorem dX11_seeds_21 : decode cX11_seeds 21 = .ok (.iload_n 3, 1) := by decide +kernel
theorem dX11_seeds_22 : decode cX11_seeds 22 = .ok (.sipush 255, 3) := by decide +kernel
theorem dX11_seeds_25 : decode cX11_seeds 25 = .ok (.if_icmp .le 10, 3) := by decide +kernel
theorem dX11_seeds_28 : decode cX11_seeds 28 = .ok (.aload_n 0, 1) := by decide +kernel
theorem dX11_seeds_29 : decode cX11_seeds 29 = .ok (.bipush 6, 2) := by decide +kernel
theorem dX11_seeds_31 : decode cX11_seeds 31 = .ok (.invokevirtual 84, 3) := by decide +kernel
theorem dX11_seeds_34 : decode cX11_seeds 34 = .ok (.ireturn, 1) := by decide +kernel
theorem dX11_seeds_35 : decode cX11_seeds 35 = .ok (.iload 4, 2) := by decide +kernel
theorem dX11_seeds_37 : decode cX11_seeds 37 = .ok (.ifCond .eq 15, 3) := by decide +kernel
theorem dX11_seeds_40 : decode cX11_seeds 40 = .ok (.iload 4, 2) := by decide +kernel
theorem dX11_seeds_42 : decode cX11_seeds 42 = .ok (.iconst 1, 1) := by decide +kernel
theorem dX11_seeds_43 : decode cX11_seeds 43 = .ok (.if_icmp .eq 9, 3) := by decide +kernel
theorem dX11_seeds_46 : decode cX11_seeds 46 = .ok (.aload_n 0, 1) := by decide +kernel
theorem dX11_seeds_47 : decode cX11_seeds 47 = .ok (.iconst 2, 1) := by decide +kernel
theorem dX11_seeds_48 : decode cX11_seeds 48 = .ok (.invokevirtual 84, 3) := by decide +kernel
theorem dX11_seeds_51 : decode cX11_seeds 51 = .ok (.ireturn, 1) := by decide +kernel
theorem dX11_seeds_52 : decode cX11_seeds 52 = .ok (.aload_n 0, 1) := by decide +kernel
theorem dX11_seeds_53 : decode cX11_seeds 53 = .ok (.iconst (-1), 1) := by decide +kernel
theorem dX11_seeds_54 : decode cX11_seeds 54 = .ok (.invokevirtual 154, 3) := by decide +kernel
theorem dX11_seeds_57 : decode cX11_seeds 57 = .ok (.aload_n 0, 1) := by decide +kernel
theorem dX11_seeds_58 : decode cX11_seeds 58 = .ok (.iload_n 2, 1) := by decide +kernel
theorem dX11_seeds_59 : decode cX11_seeds 59 = .ok (.putfield 81, 3) := by decide +kernel
theorem dX11_seeds_62 : decode cX11_seeds 62 = .ok (.iconst 0, 1) := by decide +kernel
theorem dX11_seeds_63 : decode cX11_seeds 63 = .ok (.istore 5, 2) := by decide +kernel
theorem dX11_seeds_65 : decode cX11_seeds 65 = .ok (.iconst 0, 1) := by decide +kernel
theorem dX11_seeds_66 : decode cX11_seeds 66 = .ok (.istore 6, 2) := by decide +kernel
theorem dX11_seeds_68 : decode cX11_seeds 68 = .ok (.iconst 0, 1) := by decide +kernel
theorem dX11_seeds_69 : decode cX11_seeds 69 = .ok (.istore 7, 2) := by decide +kernel
theorem dX11_seeds_71 : decode cX11_seeds 71 = .ok (.iload 7, 2) := by decide +kernel
theorem dX11_seeds_73 : decode cX11_seeds 73 = .ok (.iload_n 1, 1) := by decide +kernel
theorem dX11_seeds_74 : decode cX11_seeds 74 = .ok (.if_icmp .ge 59, 3) := by decide +kernel
theorem dX11_seeds_77 : decode cX11_seeds 77 = .ok (.aload_n 0, 1) := by decide +kernel
theorem dX11_seeds_78 : decode cX11_seeds 78 = .ok (.getfield 77, 3) := by decide +kernel
theorem dX11_seeds_81 : decode cX11_seeds 81 = .ok (.iconst 0, 1) := by decide +kernel
theorem dX11_seeds_82 : decode cX11_seeds 82 = .ok (.putfield 142, 3) := by decide +kernel
theorem dX11_seeds_85 : decode cX11_seeds 85 = .ok (.aload_n 0, 1) := by decide +kernel
theorem dX11_seeds_86 : decode cX11_seeds 86 = .ok (.iconst 0, 1) := by decide +kernel
theorem dX11_seeds_87 : decode cX11_seeds 87 = .ok (.invokevirtual 221, 3) := by decide +kernel
theorem dX11_seeds_90 : decode cX11_seeds 90 = .ok (.iload 5, 2) := by decide +kernel
theorem dX11_seeds_92 : decode cX11_seeds 92 = .ok (.aload_n 0, 1) := by decide +kernel
theorem dX11_seeds_93 : decode cX11_seeds 93 = .ok (.getfield 77, 3) := by decide +kernel
theorem dX11_seeds_96 : decode cX11_seeds 96 = .ok (.getfield 142, 3) := by decide +kernel
theorem dX11_seeds_99 : decode cX11_seeds 99 = .ok (.iadd, 1) := by decide +kernel
theorem dX11_seeds_100 : decode cX11_seeds 100 = .ok (.istore 5, 2) := by decide +kernel
theorem dX11_seeds_102 : decode cX11_seeds 102 = .ok (.iload 6, 2) := by decide +kernel
theorem dX11_seeds_104 : decode cX11_seeds 104 = .ok (.aload_n 0, 1) := by decide +kernel
theorem dX11_seeds_105 : decode cX11_seeds 105 = .ok (.getfield 56, 3) := by decide +kernel
theorem dX11_seeds_108 : decode cX11_seeds 108 = .ok (.aload_n 0, 1) := by decide +kernel
theorem dX11_seeds_109 : decode cX11_seeds 109 = .ok (.getfield 77, 3) := by decide +kernel
theorem dX11_seeds_112 : decode cX11_seeds 112 = .ok (.invokevirtual 189, 3) := by decide +kernel
theorem dX11_seeds_115 : decode cX11_seeds 115 = .ok (.iload_n 3, 1) := by decide +kernel
theorem dX11_seeds_116 : decode cX11_seeds 116 = .ok (.if_icmp .ne 7, 3) := by decide +kernel
theorem dX11_seeds_119 : decode cX11_seeds 119 = .ok (.iconst 1, 1) := by decide +kernel
theorem dX11_seeds_120 : decode cX11_seeds 120 = .ok (.goto 4, 3) := by decide +kernel
theorem dX11_seeds_123 : decode cX11_seeds 123 = .ok (.iconst 0, 1) := by decide +kernel
theorem dX11_seeds_124 : decode cX11_seeds 124 = .ok (.iadd, 1) := by decide +kernel
theorem dX11_seeds_125 : decode cX11_seeds 125 = .ok (.istore 6, 2) := by decide +kernel
theorem dX11_seeds_127 : decode cX11_seeds 127 = .ok (.iinc 7 1, 3) := by decide +kernel
theorem dX11_seeds_130 : decode cX11_seeds 130 = .ok (.goto (-59), 3) := by decide +kernel
theorem dX11_seeds_133 : decode cX11_seeds 133 = .ok (.iload 4, 2) := by decide +kernel
theorem dX11_seeds_135 : decode cX11_seeds 135 = .ok (.ifCond .ne 8, 3) := by decide +kernel
theorem dX11_seeds_138 : decode cX11_seeds 138 = .ok (.iload 5, 2) := by decide +kernel
theorem dX11_seeds_140 : decode cX11_seeds 140 = .ok (.goto 5, 3) := by decide +kernel
theorem dX11_seeds_143 : decode cX11_seeds 143 = .ok (.iload 6, 2) := by decide +kernel
theorem dX11_seeds_145 : decode cX11_seeds 145 = .ok (.ireturn, 1) := by decide +kernel
theorem dX11_image_0 : decode cX11_image 0 = .ok (.aload_n 0, 1) := by decide +kernel
theorem dX11_image_1 : decode cX11_image 1 = .ok (.getfield 26, 3) := by decide +kernel
theorem dX11_image_4 : decode cX11_image 4 = .ok (.aload_n 0, 1) := by decide +kernel
theorem dX11_image_5 : decode cX11_image 5 = .ok (.getfield 19, 3) := by decide +kernel
theorem dX11_image_8 : decode cX11_image 8 = .ok (.invokevirtual 224, 3) := by decide +kernel
theorem dX11_image_11 : decode cX11_image 11 = .ok (.aload_n 0, 1) := by decide +kernel
theorem dX11_image_12 : decode cX11_image 12 = .ok (.iconst 1, 1) := by decide +kernel
theorem dX11_image_13 : decode cX11_image 13 = .ok (.putfield 29, 3) := by decide +kernel
theorem dX11_image_16 : decode cX11_image 16 = .ok (.aload_n 0, 1) := by decide +kernel
theorem dX11_image_17 : decode cX11_image 17 = .ok (.getfield 19, 3) := by decide +kernel
theorem dX11_image_20 : decode cX11_image 20 = .ok (.getfield 148, 3) := by decide +kernel
theorem dX11_image_23 : decode cX11_image 23 = .ok (.ireturn, 1) := by decide +kernel
theorem dX11_restore_0 : decode cX11_restore 0 = .ok (.aload_n 0, 1) := by decide +kernel
theorem dX11_restore_1 : decode cX11_restore 1 = .ok (.getfield 29, 3) := by decide +kernel
theorem dX11_restore_4 : decode cX11_restore 4 = .ok (.ifCond .ne 9, 3) := by decide +kernel
theorem dX11_restore_7 : decode cX11_restore 7 = .ok (.aload_n 0, 1) := by decide +kernel
theorem dX11_restore_8 : decode cX11_restore 8 = .ok (.iconst 3, 1) := by decide +kernel
theorem dX11_restore_9 : decode cX11_restore 9 = .ok (.invokevirtual 84, 3) := by decide +kernel
theorem dX11_restore_12 : decode cX11_restore 12 = .ok (.ireturn, 1) := by decide +kernel
theorem dX11_restore_13 : decode cX11_restore 13 = .ok (.aload_n 0, 1) := by decide +kernel
theorem dX11_restore_14 : decode cX11_restore 14 = .ok (.getfield 19, 3) := by decide +kernel
theorem dX11_restore_17 : decode cX11_restore 17 = .ok (.aload_n 0, 1) := by decide +kernel
theorem dX11_restore_18 : decode cX11_restore 18 = .ok (.getfield 26, 3) := by decide +kernel
theorem dX11_restore_21 : decode cX11_restore 21 = .ok (.invokevirtual 224, 3) := by decide +kernel
theorem dX11_restore_24 : decode cX11_restore 24 = .ok (.aload_n 0, 1) := by decide +kernel
theorem dX11_restore_25 : decode cX11_restore 25 = .ok (.getfield 19, 3) := by decide +kernel
theorem dX11_restore_28 : decode cX11_restore 28 = .ok (.getfield 148, 3) := by decide +kernel
theorem dX11_restore_31 : decode cX11_restore 31 = .ok (.ireturn, 1) := by decide +kernel
theorem dX11_count_0 : decode cX11_count 0 = .ok (.iload_n 1, 1) := by decide +kernel
theorem dX11_count_1 : decode cX11_count 1 = .ok (.tableswitch 84 0 5 #[39, 47, 55, 63, 71, 79], 39) := by decide +kernel
theorem dX11_count_40 : decode cX11_count 40 = .ok (.aload_n 0, 1) := by decide +kernel
theorem dX11_count_41 : decode cX11_count 41 = .ok (.getfield 19, 3) := by decide +kernel
theorem dX11_count_44 : decode cX11_count 44 = .ok (.getfield 212, 3) := by decide +kernel
theorem dX11_count_47 : decode cX11_count 47 = .ok (.ireturn, 1) := by decide +kernel
theorem dX11_count_48 : decode cX11_count 48 = .ok (.aload_n 0, 1) := by decide +kernel
theorem dX11_count_49 : decode cX11_count 49 = .ok (.getfield 19, 3) := by decide +kernel
theorem dX11_count_52 : decode cX11_count 52 = .ok (.getfield 148, 3) := by decide +kernel
theorem dX11_count_55 : decode cX11_count 55 = .ok (.ireturn, 1) := by decide +kernel
theorem dX11_count_56 : decode cX11_count 56 = .ok (.aload_n 0, 1) := by decide +kernel
theorem dX11_count_57 : decode cX11_count 57 = .ok (.getfield 19, 3) := by decide +kernel
theorem dX11_count_60 : decode cX11_count 60 = .ok (.invokevirtual 227, 3) := by decide +kernel
theorem dX11_count_63 : decode cX11_count 63 = .ok (.ireturn, 1) := by decide +kernel
theorem dX11_count_64 : decode cX11_count 64 = .ok (.aload_n 0, 1) := by decide +kernel
theorem dX11_count_65 : decode cX11_count 65 = .ok (.getfield 19, 3) := by decide +kernel
theorem dX11_count_68 : decode cX11_count 68 = .ok (.invokevirtual 230, 3) := by decide +kernel
theorem dX11_count_71 : decode cX11_count 71 = .ok (.ireturn, 1) := by decide +kernel
theorem dX11_count_72 : decode cX11_count 72 = .ok (.aload_n 0, 1) := by decide +kernel
theorem dX11_count_73 : decode cX11_count 73 = .ok (.getfield 10, 3) := by decide +kernel
theorem dX11_count_76 : decode cX11_count 76 = .ok (.invokevirtual 233, 3) := by decide +kernel
theorem dX11_count_79 : decode cX11_count 79 = .ok (.ireturn, 1) := by decide +kernel
theorem dX11_count_80 : decode cX11_count 80 = .ok (.aload_n 0, 1) := by decide +kernel
theorem dX11_count_81 : decode cX11_count 81 = .ok (.getfield 37, 3) := by decide +kernel
theorem dX11_count_84 : decode cX11_count 84 = .ok (.ireturn, 1) := by decide +kernel
theorem dX11_count_85 : decode cX11_count 85 = .ok (.aload_n 0, 1) := by decide +kernel
theorem dX11_count_86 : decode cX11_count 86 = .ok (.iload_n 1, 1) := by decide +kernel
theorem dX11_count_87 : decode cX11_count 87 = .ok (.invokevirtual 236, 3) := by decide +kernel
theorem dX11_count_90 : decode cX11_count 90 = .ok (.ireturn, 1) := by decide +kernel
theorem dX11_refusalsCounted_0 : decode cX11_refusalsCounted 0 = .ok (.iload_n 1, 1) := by decide +kernel
theorem dX11_refusalsCounted_1 : decode cX11_refusalsCounted 1 = .ok (.bipush 11, 2) := by decide +kernel
theorem dX11_refusalsCounted_3 : decode cX11_refusalsCounted 3 = .ok (.if_icmp .lt 9, 3) := by decide +kernel
theorem dX11_refusalsCounted_6 : decode cX11_refusalsCounted 6 = .ok (.iload_n 1, 1) := by decide +kernel
theorem dX11_refusalsCounted_7 : decode cX11_refusalsCounted 7 = .ok (.bipush 17, 2) := by decide +kernel
theorem dX11_refusalsCounted_9 : decode cX11_refusalsCounted 9 = .ok (.if_icmp .lt 6, 3) := by decide +kernel
theorem dX11_refusalsCounted_12 : decode cX11_refusalsCounted 12 = .ok (.bipush (-9), 2) := by decide +kernel
theorem dX11_refusalsCounted_14 : decode cX11_refusalsCounted 14 = .ok (.ireturn, 1) := by decide +kernel
theorem dX11_refusalsCounted_15 : decode cX11_refusalsCounted 15 = .ok (.aload_n 0, 1) := by decide +kernel
theorem dX11_refusalsCounted_16 : decode cX11_refusalsCounted 16 = .ok (.getfield 41, 3) := by decide +kernel
theorem dX11_refusalsCounted_19 : decode cX11_refusalsCounted 19 = .ok (.iload_n 1, 1) := by decide +kernel
theorem dX11_refusalsCounted_20 : decode cX11_refusalsCounted 20 = .ok (.bipush 11, 2) := by decide +kernel
theorem dX11_refusalsCounted_22 : decode cX11_refusalsCounted 22 = .ok (.isub, 1) := by decide +kernel
theorem dX11_refusalsCounted_23 : decode cX11_refusalsCounted 23 = .ok (.iconst 1, 1) := by decide +kernel
theorem dX11_refusalsCounted_24 : decode cX11_refusalsCounted 24 = .ok (.iadd, 1) := by decide +kernel
theorem dX11_refusalsCounted_25 : decode cX11_refusalsCounted 25 = .ok (.iaload, 1) := by decide +kernel
theorem dX11_refusalsCounted_26 : decode cX11_refusalsCounted 26 = .ok (.ireturn, 1) := by decide +kernel
theorem dX11_refused_0 : decode cX11_refused 0 = .ok (.aload_n 0, 1) := by decide +kernel
theorem dX11_refused_1 : decode cX11_refused 1 = .ok (.getfield 41, 3) := by decide +kernel
theorem dX11_refused_4 : decode cX11_refused 4 = .ok (.iload_n 1, 1) := by decide +kernel
theorem dX11_refused_5 : decode cX11_refused 5 = .ok (.dup2, 1) := by decide +kernel
theorem dX11_refused_6 : decode cX11_refused 6 = .ok (.iaload, 1) := by decide +kernel
theorem dX11_refused_7 : decode cX11_refused 7 = .ok (.iconst 1, 1) := by decide +kernel
theorem dX11_refused_8 : decode cX11_refused 8 = .ok (.iadd, 1) := by decide +kernel
theorem dX11_refused_9 : decode cX11_refused 9 = .ok (.iastore, 1) := by decide +kernel
theorem dX11_refused_10 : decode cX11_refused 10 = .ok (.iload_n 1, 1) := by decide +kernel
theorem dX11_refused_11 : decode cX11_refused 11 = .ok (.ineg, 1) := by decide +kernel
theorem dX11_refused_12 : decode cX11_refused 12 = .ok (.ireturn, 1) := by decide +kernel
theorem dX11_refusedFarOff_0 : decode cX11_refusedFarOff 0 = .ok (.ldc 239, 2) := by decide +kernel
theorem dX11_refusedFarOff_2 : decode cX11_refusedFarOff 2 = .ok (.aload_n 0, 1) := by decide +kernel
theorem dX11_refusedFarOff_3 : decode cX11_refusedFarOff 3 = .ok (.iload_n 1, 1) := by decide +kernel
theorem dX11_refusedFarOff_4 : decode cX11_refusedFarOff 4 = .ok (.invokevirtual 84, 3) := by decide +kernel
theorem dX11_refusedFarOff_7 : decode cX11_refusedFarOff 7 = .ok (.isub, 1) := by decide +kernel
theorem dX11_refusedFarOff_8 : decode cX11_refusedFarOff 8 = .ok (.ireturn, 1) := by decide +kernel
theorem dX11_noStranger_0 : decode cX11_noStranger 0 = .ok (.iload_n 1, 1) := by decide +kernel
theorem dX11_noStranger_1 : decode cX11_noStranger 1 = .ok (.ifCond .lt 14, 3) := by decide +kernel
theorem dX11_noStranger_4 : decode cX11_noStranger 4 = .ok (.iload_n 1, 1) := by decide +kernel
theorem dX11_noStranger_5 : decode cX11_noStranger 5 = .ok (.aload_n 0, 1) := by decide +kernel
theorem dX11_noStranger_6 : decode cX11_noStranger 6 = .ok (.getfield 19, 3) := by decide +kernel
theorem dX11_noStranger_9 : decode cX11_noStranger 9 = .ok (.getfield 212, 3) := by decide +kernel
theorem dX11_noStranger_12 : decode cX11_noStranger 12 = .ok (.if_icmp .lt 7, 3) := by decide +kernel
theorem dX11_noStranger_15 : decode cX11_noStranger 15 = .ok (.iconst 1, 1) := by decide +kernel
theorem dX11_noStranger_16 : decode cX11_noStranger 16 = .ok (.goto 4, 3) := by decide +kernel
theorem dX11_noStranger_19 : decode cX11_noStranger 19 = .ok (.iconst 0, 1) := by decide +kernel
theorem dX11_noStranger_20 : decode cX11_noStranger 20 = .ok (.ireturn, 1) := by decide +kernel
theorem dX11_noListener_0 : decode cX11_noListener 0 = .ok (.iload_n 1, 1) := by decide +kernel
theorem dX11_noListener_1 : decode cX11_noListener 1 = .ok (.iconst (-1), 1) := by decide +kernel
theorem dX11_noListener_2 : decode cX11_noListener 2 = .ok (.if_icmp .eq 15, 3) := by decide +kernel
theorem dX11_noListener_5 : decode cX11_noListener 5 = .ok (.aload_n 0, 1) := by decide +kernel
theorem dX11_noListener_6 : decode cX11_noListener 6 = .ok (.iload_n 1, 1) := by decide +kernel
theorem dX11_noListener_7 : decode cX11_noListener 7 = .ok (.invokevirtual 108, 3) := by decide +kernel
theorem dX11_noListener_10 : decode cX11_noListener 10 = .ok (.ifCond .eq 7, 3) := by decide +kernel
theorem dX11_noListener_13 : decode cX11_noListener 13 = .ok (.iconst 1, 1) := by decide +kernel
theorem dX11_noListener_14 : decode cX11_noListener 14 = .ok (.goto 4, 3) := by decide +kernel
theorem dX11_noListener_17 : decode cX11_noListener 17 = .ok (.iconst 0, 1) := by decide +kernel
theorem dX11_noListener_18 : decode cX11_noListener 18 = .ok (.ireturn, 1) := by decide +kernel
theorem dX11_noScholar_0 : decode cX11_noScholar 0 = .ok (.iload_n 1, 1) := by decide +kernel
theorem dX11_noScholar_1 : decode cX11_noScholar 1 = .ok (.ifCond .lt 14, 3) := by decide +kernel
theorem dX11_noScholar_4 : decode cX11_noScholar 4 = .ok (.iload_n 1, 1) := by decide +kernel
theorem dX11_noScholar_5 : decode cX11_noScholar 5 = .ok (.aload_n 0, 1) := by decide +kernel
theorem dX11_noScholar_6 : decode cX11_noScholar 6 = .ok (.getfield 19, 3) := by decide +kernel
theorem dX11_noScholar_9 : decode cX11_noScholar 9 = .ok (.getfield 148, 3) := by decide +kernel
theorem dX11_noScholar_12 : decode cX11_noScholar 12 = .ok (.if_icmp .lt 7, 3) := by decide +kernel
theorem dX11_noScholar_15 : decode cX11_noScholar 15 = .ok (.iconst 1, 1) := by decide +kernel
theorem dX11_noScholar_16 : decode cX11_noScholar 16 = .ok (.goto 4, 3) := by decide +kernel
theorem dX11_noScholar_19 : decode cX11_noScholar 19 = .ok (.iconst 0, 1) := by decide +kernel
theorem dX11_noScholar_20 : decode cX11_noScholar 20 = .ok (.ireturn, 1) := by decide +kernel
theorem dX11_noName_0 : decode cX11_noName 0 = .ok (.iload_n 0, 1) := by decide +kernel
theorem dX11_noName_1 : decode cX11_noName 1 = .ok (.ifCond .lt 8, 3) := by decide +kernel
theorem dX11_noName_4 : decode cX11_noName 4 = .ok (.iload_n 0, 1) := by decide +kernel
theorem dX11_noName_5 : decode cX11_noName 5 = .ok (.iconst 4, 1) := by decide +kernel
theorem dX11_noName_6 : decode cX11_noName 6 = .ok (.if_icmp .lt 7, 3) := by decide +kernel
theorem dX11_noName_9 : decode cX11_noName 9 = .ok (.iconst 1, 1) := by decide +kernel
theorem dX11_noName_10 : decode cX11_noName 10 = .ok (.goto 4, 3) := by decide +kernel
theorem dX11_noName_13 : decode cX11_noName 13 = .ok (.iconst 0, 1) := by decide +kernel
theorem dX11_noName_14 : decode cX11_noName 14 = .ok (.ireturn, 1) := by decide +kernel
theorem dX11_listenAs_0 : decode cX11_listenAs 0 = .ok (.aload_n 0, 1) := by decide +kernel
theorem dX11_listenAs_1 : decode cX11_listenAs 1 = .ok (.iload_n 1, 1) := by decide +kernel
theorem dX11_listenAs_2 : decode cX11_listenAs 2 = .ok (.invokevirtual 108, 3) := by decide +kernel
theorem dX11_listenAs_5 : decode cX11_listenAs 5 = .ok (.ifCond .eq 26, 3) := by decide +kernel
theorem dX11_listenAs_8 : decode cX11_listenAs 8 = .ok (.aload_n 0, 1) := by decide +kernel
theorem dX11_listenAs_9 : decode cX11_listenAs 9 = .ok (.getfield 56, 3) := by decide +kernel
theorem dX11_listenAs_12 : decode cX11_listenAs 12 = .ok (.aload_n 0, 1) := by decide +kernel
theorem dX11_listenAs_13 : decode cX11_listenAs 13 = .ok (.getfield 49, 3) := by decide +kernel
theorem dX11_listenAs_16 : decode cX11_listenAs 16 = .ok (.aload_n 0, 1) := by decide +kernel
theorem dX11_listenAs_17 : decode cX11_listenAs 17 = .ok (.getfield 19, 3) := by decide +kernel
theorem dX11_listenAs_20 : decode cX11_listenAs 20 = .ok (.getfield 132, 3) := by decide +kernel
theorem dX11_listenAs_23 : decode cX11_listenAs 23 = .ok (.bipush 15, 2) := by decide +kernel
theorem dX11_listenAs_25 : decode cX11_listenAs 25 = .ok (.invokevirtual 240, 3) := by decide +kernel
theorem dX11_listenAs_28 : decode cX11_listenAs 28 = .ok (.goto 35, 3) := by decide +kernel
theorem dX11_listenAs_31 : decode cX11_listenAs 31 = .ok (.aload_n 0, 1) := by decide +kernel
theorem dX11_listenAs_32 : decode cX11_listenAs 32 = .ok (.getfield 56, 3) := by decide +kernel
theorem dX11_listenAs_35 : decode cX11_listenAs 35 = .ok (.aload_n 0, 1) := by decide +kernel
theorem dX11_listenAs_36 : decode cX11_listenAs 36 = .ok (.getfield 19, 3) := by decide +kernel
theorem dX11_listenAs_39 : decode cX11_listenAs 39 = .ok (.getfield 112, 3) := by decide +kernel
theorem dX11_listenAs_42 : decode cX11_listenAs 42 = .ok (.iload_n 1, 1) := by decide +kernel
theorem dX11_listenAs_43 : decode cX11_listenAs 43 = .ok (.aaload, 1) := by decide +kernel
theorem dX11_listenAs_44 : decode cX11_listenAs 44 = .ok (.aload_n 0, 1) := by decide +kernel
theorem dX11_listenAs_45 : decode cX11_listenAs 45 = .ok (.getfield 19, 3) := by decide +kernel
theorem dX11_listenAs_48 : decode cX11_listenAs 48 = .ok (.getfield 132, 3) := by decide +kernel
theorem dX11_listenAs_51 : decode cX11_listenAs 51 = .ok (.aload_n 0, 1) := by decide +kernel
theorem dX11_listenAs_52 : decode cX11_listenAs 52 = .ok (.getfield 19, 3) := by decide +kernel
theorem dX11_listenAs_55 : decode cX11_listenAs 55 = .ok (.getfield 122, 3) := by decide +kernel
theorem dX11_listenAs_58 : decode cX11_listenAs 58 = .ok (.iload_n 1, 1) := by decide +kernel
theorem dX11_listenAs_59 : decode cX11_listenAs 59 = .ok (.iaload, 1) := by decide +kernel
theorem dX11_listenAs_60 : decode cX11_listenAs 60 = .ok (.invokevirtual 240, 3) := by decide +kernel
theorem dX11_listenAs_63 : decode cX11_listenAs 63 = .ok (.return_, 1) := by decide +kernel
theorem dX11_meaningOf_0 : decode cX11_meaningOf 0 = .ok (.aload_n 0, 1) := by decide +kernel
theorem dX11_meaningOf_1 : decode cX11_meaningOf 1 = .ok (.getfield 56, 3) := by decide +kernel
theorem dX11_meaningOf_4 : decode cX11_meaningOf 4 = .ok (.aload_n 0, 1) := by decide +kernel
theorem dX11_meaningOf_5 : decode cX11_meaningOf 5 = .ok (.getfield 19, 3) := by decide +kernel
theorem dX11_meaningOf_8 : decode cX11_meaningOf 8 = .ok (.getfield 138, 3) := by decide +kernel
theorem dX11_meaningOf_11 : decode cX11_meaningOf 11 = .ok (.iload_n 1, 1) := by decide +kernel
theorem dX11_meaningOf_12 : decode cX11_meaningOf 12 = .ok (.aaload, 1) := by decide +kernel
theorem dX11_meaningOf_13 : decode cX11_meaningOf 13 = .ok (.invokevirtual 189, 3) := by decide +kernel
theorem dX11_meaningOf_16 : decode cX11_meaningOf 16 = .ok (.ireturn, 1) := by decide +kernel
theorem dX11_concludeAllAs_0 : decode cX11_concludeAllAs 0 = .ok (.aload_n 0, 1) := by decide +kernel
theorem dX11_concludeAllAs_1 : decode cX11_concludeAllAs 1 = .ok (.iload_n 1, 1) := by decide +kernel
theorem dX11_concludeAllAs_2 : decode cX11_concludeAllAs 2 = .ok (.invokevirtual 154, 3) := by decide +kernel
theorem dX11_concludeAllAs_5 : decode cX11_concludeAllAs 5 = .ok (.iconst 0, 1) := by decide +kernel
theorem dX11_concludeAllAs_6 : decode cX11_concludeAllAs 6 = .ok (.istore_n 2, 1) := by decide +kernel
theorem dX11_concludeAllAs_7 : decode cX11_concludeAllAs 7 = .ok (.iload_n 2, 1) := by decide +kernel
theorem dX11_concludeAllAs_8 : decode cX11_concludeAllAs 8 = .ok (.aload_n 0, 1) := by decide +kernel
theorem dX11_concludeAllAs_9 : decode cX11_concludeAllAs 9 = .ok (.getfield 19, 3) := by decide +kernel
theorem dX11_concludeAllAs_12 : decode cX11_concludeAllAs 12 = .ok (.getfield 148, 3) := by decide +kernel
theorem dX11_concludeAllAs_15 : decode cX11_concludeAllAs 15 = .ok (.if_icmp .ge 20, 3) := by decide +kernel
theorem dX11_concludeAllAs_18 : decode cX11_concludeAllAs 18 = .ok (.aload_n 0, 1) := by decide +kernel
theorem dX11_concludeAllAs_19 : decode cX11_concludeAllAs 19 = .ok (.getfield 60, 3) := by decide +kernel
theorem dX11_concludeAllAs_22 : decode cX11_concludeAllAs 22 = .ok (.iload_n 2, 1) := by decide +kernel
theorem dX11_concludeAllAs_23 : decode cX11_concludeAllAs 23 = .ok (.aload_n 0, 1) := by decide +kernel
theorem dX11_concludeAllAs_24 : decode cX11_concludeAllAs 24 = .ok (.iload_n 2, 1) := by decide +kernel
theorem dX11_concludeAllAs_25 : decode cX11_concludeAllAs 25 = .ok (.invokevirtual 157, 3) := by decide +kernel
theorem dX11_concludeAllAs_28 : decode cX11_concludeAllAs 28 = .ok (.iastore, 1) := by decide +kernel
theorem dX11_concludeAllAs_29 : decode cX11_concludeAllAs 29 = .ok (.iinc 2 1, 3) := by decide +kernel
theorem dX11_concludeAllAs_32 : decode cX11_concludeAllAs 32 = .ok (.goto (-25), 3) := by decide +kernel
theorem dX11_concludeAllAs_35 : decode cX11_concludeAllAs 35 = .ok (.return_, 1) := by decide +kernel
theorem dX11_beats_0 : decode cX11_beats 0 = .ok (.aload_n 0, 1) := by decide +kernel
theorem dX11_beats_1 : decode cX11_beats 1 = .ok (.getfield 19, 3) := by decide +kernel
theorem dX11_beats_4 : decode cX11_beats 4 = .ok (.getfield 138, 3) := by decide +kernel
theorem dX11_beats_7 : decode cX11_beats 7 = .ok (.iload_n 1, 1) := by decide +kernel
theorem dX11_beats_8 : decode cX11_beats 8 = .ok (.aaload, 1) := by decide +kernel
theorem dX11_beats_9 : decode cX11_beats 9 = .ok (.getfield 142, 3) := by decide +kernel
theorem dX11_beats_12 : decode cX11_beats 12 = .ok (.aload_n 0, 1) := by decide +kernel
theorem dX11_beats_13 : decode cX11_beats 13 = .ok (.getfield 19, 3) := by decide +kernel
theorem dX11_beats_16 : decode cX11_beats 16 = .ok (.getfield 138, 3) := by decide +kernel
theorem dX11_beats_19 : decode cX11_beats 19 = .ok (.iload_n 2, 1) := by decide +kernel
theorem dX11_beats_20 : decode cX11_beats 20 = .ok (.aaload, 1) := by decide +kernel
theorem dX11_beats_21 : decode cX11_beats 21 = .ok (.getfield 142, 3) := by decide +kernel
theorem dX11_beats_24 : decode cX11_beats 24 = .ok (.if_icmp .ge 22, 3) := by decide +kernel
theorem dX11_beats_27 : decode cX11_beats 27 = .ok (.aload_n 0, 1) := by decide +kernel
theorem dX11_beats_28 : decode cX11_beats 28 = .ok (.getfield 60, 3) := by decide +kernel
theorem dX11_beats_31 : decode cX11_beats 31 = .ok (.iload_n 1, 1) := by decide +kernel
theorem dX11_beats_32 : decode cX11_beats 32 = .ok (.iaload, 1) := by decide +kernel
theorem dX11_beats_33 : decode cX11_beats 33 = .ok (.aload_n 0, 1) := by decide +kernel
theorem dX11_beats_34 : decode cX11_beats 34 = .ok (.getfield 60, 3) := by decide +kernel
theorem dX11_beats_37 : decode cX11_beats 37 = .ok (.iload_n 2, 1) := by decide +kernel
theorem dX11_beats_38 : decode cX11_beats 38 = .ok (.iaload, 1) := by decide +kernel
theorem dX11_beats_39 : decode cX11_beats 39 = .ok (.if_icmp .ne 7, 3) := by decide +kernel
theorem dX11_beats_42 : decode cX11_beats 42 = .ok (.iconst 1, 1) := by decide +kernel
theorem dX11_beats_43 : decode cX11_beats 43 = .ok (.goto 4, 3) := by decide +kernel
theorem dX11_beats_46 : decode cX11_beats 46 = .ok (.iconst 0, 1) := by decide +kernel
theorem dX11_beats_47 : decode cX11_beats 47 = .ok (.ireturn, 1) := by decide +kernel
theorem dX11_isBeaten_0 : decode cX11_isBeaten 0 = .ok (.iconst 0, 1) := by decide +kernel
theorem dX11_isBeaten_1 : decode cX11_isBeaten 1 = .ok (.istore_n 2, 1) := by decide +kernel
theorem dX11_isBeaten_2 : decode cX11_isBeaten 2 = .ok (.iload_n 2, 1) := by decide +kernel
theorem dX11_isBeaten_3 : decode cX11_isBeaten 3 = .ok (.aload_n 0, 1) := by decide +kernel
theorem dX11_isBeaten_4 : decode cX11_isBeaten 4 = .ok (.getfield 19, 3) := by decide +kernel
theorem dX11_isBeaten_7 : decode cX11_isBeaten 7 = .ok (.getfield 148, 3) := by decide +kernel
theorem dX11_isBeaten_10 : decode cX11_isBeaten 10 = .ok (.if_icmp .ge 20, 3) := by decide +kernel
theorem dX11_isBeaten_13 : decode cX11_isBeaten 13 = .ok (.aload_n 0, 1) := by decide +kernel
theorem dX11_isBeaten_14 : decode cX11_isBeaten 14 = .ok (.iload_n 2, 1) := by decide +kernel
theorem dX11_isBeaten_15 : decode cX11_isBeaten 15 = .ok (.iload_n 1, 1) := by decide +kernel
theorem dX11_isBeaten_16 : decode cX11_isBeaten 16 = .ok (.invokevirtual 163, 3) := by decide +kernel
theorem dX11_isBeaten_19 : decode cX11_isBeaten 19 = .ok (.ifCond .eq 5, 3) := by decide +kernel
theorem dX11_isBeaten_22 : decode cX11_isBeaten 22 = .ok (.iconst 1, 1) := by decide +kernel
theorem dX11_isBeaten_23 : decode cX11_isBeaten 23 = .ok (.ireturn, 1) := by decide +kernel
theorem dX11_isBeaten_24 : decode cX11_isBeaten 24 = .ok (.iinc 2 1, 3) := by decide +kernel
theorem dX11_isBeaten_27 : decode cX11_isBeaten 27 = .ok (.goto (-25), 3) := by decide +kernel
theorem dX11_isBeaten_30 : decode cX11_isBeaten 30 = .ok (.iconst 0, 1) := by decide +kernel
theorem dX11_isBeaten_31 : decode cX11_isBeaten 31 = .ok (.ireturn, 1) := by decide +kernel
theorem dX11_fewestFor_0 : decode cX11_fewestFor 0 = .ok (.aload_n 0, 1) := by decide +kernel
theorem dX11_fewestFor_1 : decode cX11_fewestFor 1 = .ok (.iload_n 1, 1) := by decide +kernel
theorem dX11_fewestFor_2 : decode cX11_fewestFor 2 = .ok (.invokevirtual 154, 3) := by decide +kernel
theorem dX11_fewestFor_5 : decode cX11_fewestFor 5 = .ok (.aload_n 0, 1) := by decide +kernel
theorem dX11_fewestFor_6 : decode cX11_fewestFor 6 = .ok (.getfield 65, 3) := by decide +kernel
theorem dX11_fewestFor_9 : decode cX11_fewestFor 9 = .ok (.aload_n 0, 1) := by decide +kernel
theorem dX11_fewestFor_10 : decode cX11_fewestFor 10 = .ok (.iload_n 1, 1) := by decide +kernel
theorem dX11_fewestFor_11 : decode cX11_fewestFor 11 = .ok (.invokevirtual 108, 3) := by decide +kernel
theorem dX11_fewestFor_14 : decode cX11_fewestFor 14 = .ok (.ifCond .eq 7, 3) := by decide +kernel
theorem dX11_fewestFor_17 : decode cX11_fewestFor 17 = .ok (.iconst 5, 1) := by decide +kernel
theorem dX11_fewestFor_18 : decode cX11_fewestFor 18 = .ok (.goto 4, 3) := by decide +kernel
theorem dX11_fewestFor_21 : decode cX11_fewestFor 21 = .ok (.iload_n 1, 1) := by decide +kernel
theorem dX11_fewestFor_22 : decode cX11_fewestFor 22 = .ok (.aaload, 1) := by decide +kernel
theorem dX11_fewestFor_23 : decode cX11_fewestFor 23 = .ok (.astore_n 2, 1) := by decide +kernel
theorem dX11_fewestFor_24 : decode cX11_fewestFor 24 = .ok (.aload_n 2, 1) := by decide +kernel
theorem dX11_fewestFor_25 : decode cX11_fewestFor 25 = .ok (.aload_n 0, 1) := by decide +kernel
theorem dX11_fewestFor_26 : decode cX11_fewestFor 26 = .ok (.getfield 56, 3) := by decide +kernel
theorem dX11_fewestFor_29 : decode cX11_fewestFor 29 = .ok (.invokevirtual 244, 3) := by decide +kernel
theorem dX11_fewestFor_32 : decode cX11_fewestFor 32 = .ok (.aload_n 2, 1) := by decide +kernel
theorem dX11_fewestFor_33 : decode cX11_fewestFor 33 = .ok (.areturn, 1) := by decide +kernel
theorem dX11_wordsSavedBy_0 : decode cX11_wordsSavedBy 0 = .ok (.aload_n 0, 1) := by decide +kernel
theorem dX11_wordsSavedBy_1 : decode cX11_wordsSavedBy 1 = .ok (.getfield 56, 3) := by decide +kernel
theorem dX11_wordsSavedBy_4 : decode cX11_wordsSavedBy 4 = .ok (.iload_n 1, 1) := by decide +kernel
theorem dX11_wordsSavedBy_5 : decode cX11_wordsSavedBy 5 = .ok (.invokevirtual 248, 3) := by decide +kernel
theorem dX11_wordsSavedBy_8 : decode cX11_wordsSavedBy 8 = .ok (.aload_n 0, 1) := by decide +kernel
theorem dX11_wordsSavedBy_9 : decode cX11_wordsSavedBy 9 = .ok (.getfield 70, 3) := by decide +kernel
theorem dX11_wordsSavedBy_12 : decode cX11_wordsSavedBy 12 = .ok (.aload_n 0, 1) := by decide +kernel
theorem dX11_wordsSavedBy_13 : decode cX11_wordsSavedBy 13 = .ok (.getfield 56, 3) := by decide +kernel
theorem dX11_wordsSavedBy_16 : decode cX11_wordsSavedBy 16 = .ok (.invokevirtual 244, 3) := by decide +kernel
theorem dX11_wordsSavedBy_19 : decode cX11_wordsSavedBy 19 = .ok (.iconst 0, 1) := by decide +kernel
theorem dX11_wordsSavedBy_20 : decode cX11_wordsSavedBy 20 = .ok (.istore_n 3, 1) := by decide +kernel
theorem dX11_wordsSavedBy_21 : decode cX11_wordsSavedBy 21 = .ok (.iconst 0, 1) := by decide +kernel
theorem dX11_wordsSavedBy_22 : decode cX11_wordsSavedBy 22 = .ok (.istore 4, 2) := by decide +kernel
theorem dX11_wordsSavedBy_24 : decode cX11_wordsSavedBy 24 = .ok (.iload 4, 2) := by decide +kernel
theorem dX11_wordsSavedBy_26 : decode cX11_wordsSavedBy 26 = .ok (.aload_n 0, 1) := by decide +kernel
theorem dX11_wordsSavedBy_27 : decode cX11_wordsSavedBy 27 = .ok (.getfield 19, 3) := by decide +kernel
theorem dX11_wordsSavedBy_30 : decode cX11_wordsSavedBy 30 = .ok (.getfield 148, 3) := by decide +kernel
theorem dX11_wordsSavedBy_33 : decode cX11_wordsSavedBy 33 = .ok (.if_icmp .ge 47, 3) := by decide +kernel
theorem dX11_wordsSavedBy_36 : decode cX11_wordsSavedBy 36 = .ok (.aload_n 0, 1) := by decide +kernel
theorem dX11_wordsSavedBy_37 : decode cX11_wordsSavedBy 37 = .ok (.iload 4, 2) := by decide +kernel
theorem dX11_wordsSavedBy_39 : decode cX11_wordsSavedBy 39 = .ok (.invokevirtual 157, 3) := by decide +kernel
theorem dX11_wordsSavedBy_42 : decode cX11_wordsSavedBy 42 = .ok (.istore 5, 2) := by decide +kernel
theorem dX11_wordsSavedBy_44 : decode cX11_wordsSavedBy 44 = .ok (.aload_n 2, 1) := by decide +kernel
theorem dX11_wordsSavedBy_45 : decode cX11_wordsSavedBy 45 = .ok (.iload 5, 2) := by decide +kernel
theorem dX11_wordsSavedBy_47 : decode cX11_wordsSavedBy 47 = .ok (.invokevirtual 173, 3) := by decide +kernel
theorem dX11_wordsSavedBy_50 : decode cX11_wordsSavedBy 50 = .ok (.istore 6, 2) := by decide +kernel
theorem dX11_wordsSavedBy_52 : decode cX11_wordsSavedBy 52 = .ok (.iload 6, 2) := by decide +kernel
theorem dX11_wordsSavedBy_54 : decode cX11_wordsSavedBy 54 = .ok (.bipush (-9), 2) := by decide +kernel
theorem dX11_wordsSavedBy_56 : decode cX11_wordsSavedBy 56 = .ok (.if_icmp .eq 18, 3) := by decide +kernel
theorem dX11_wordsSavedBy_59 : decode cX11_wordsSavedBy 59 = .ok (.iload_n 3, 1) := by decide +kernel
theorem dX11_wordsSavedBy_60 : decode cX11_wordsSavedBy 60 = .ok (.iload 6, 2) := by decide +kernel
theorem dX11_wordsSavedBy_62 : decode cX11_wordsSavedBy 62 = .ok (.aload_n 0, 1) := by decide +kernel
theorem dX11_wordsSavedBy_63 : decode cX11_wordsSavedBy 63 = .ok (.getfield 70, 3) := by decide +kernel
theorem dX11_wordsSavedBy_66 : decode cX11_wordsSavedBy 66 = .ok (.iload 5, 2) := by decide +kernel
theorem dX11_wordsSavedBy_68 : decode cX11_wordsSavedBy 68 = .ok (.invokevirtual 173, 3) := by decide +kernel
theorem dX11_wordsSavedBy_71 : decode cX11_wordsSavedBy 71 = .ok (.isub, 1) := by decide +kernel
theorem dX11_wordsSavedBy_72 : decode cX11_wordsSavedBy 72 = .ok (.iadd, 1) := by decide +kernel
theorem dX11_wordsSavedBy_73 : decode cX11_wordsSavedBy 73 = .ok (.istore_n 3, 1) := by decide +kernel
theorem dX11_wordsSavedBy_74 : decode cX11_wordsSavedBy 74 = .ok (.iinc 4 1, 3) := by decide +kernel
theorem dX11_wordsSavedBy_77 : decode cX11_wordsSavedBy 77 = .ok (.goto (-53), 3) := by decide +kernel
theorem dX11_wordsSavedBy_80 : decode cX11_wordsSavedBy 80 = .ok (.iload_n 3, 1) := by decide +kernel
theorem dX11_wordsSavedBy_81 : decode cX11_wordsSavedBy 81 = .ok (.ireturn, 1) := by decide +kernel
theorem dX11_isConcludedBefore_0 : decode cX11_isConcludedBefore 0 = .ok (.aload_n 0, 1) := by decide +kernel
theorem dX11_isConcludedBefore_1 : decode cX11_isConcludedBefore 1 = .ok (.iload_n 1, 1) := by decide +kernel
theorem dX11_isConcludedBefore_2 : decode cX11_isConcludedBefore 2 = .ok (.invokevirtual 154, 3) := by decide +kernel
theorem dX11_isConcludedBefore_5 : decode cX11_isConcludedBefore 5 = .ok (.aload_n 0, 1) := by decide +kernel
theorem dX11_isConcludedBefore_6 : decode cX11_isConcludedBefore 6 = .ok (.iload_n 2, 1) := by decide +kernel
theorem dX11_isConcludedBefore_7 : decode cX11_isConcludedBefore 7 = .ok (.invokevirtual 157, 3) := by decide +kernel
theorem dX11_isConcludedBefore_10 : decode cX11_isConcludedBefore 10 = .ok (.istore_n 3, 1) := by decide +kernel
theorem dX11_isConcludedBefore_11 : decode cX11_isConcludedBefore 11 = .ok (.iconst 0, 1) := by decide +kernel
theorem dX11_isConcludedBefore_12 : decode cX11_isConcludedBefore 12 = .ok (.istore 4, 2) := by decide +kernel
theorem dX11_isConcludedBefore_14 : decode cX11_isConcludedBefore 14 = .ok (.iload 4, 2) := by decide +kernel
theorem dX11_isConcludedBefore_16 : decode cX11_isConcludedBefore 16 = .ok (.iload_n 1, 1) := by decide +kernel
theorem dX11_isConcludedBefore_17 : decode cX11_isConcludedBefore 17 = .ok (.if_icmp .ge 26, 3) := by decide +kernel
theorem dX11_isConcludedBefore_20 : decode cX11_isConcludedBefore 20 = .ok (.aload_n 0, 1) := by decide +kernel
theorem dX11_isConcludedBefore_21 : decode cX11_isConcludedBefore 21 = .ok (.iload 4, 2) := by decide +kernel
theorem dX11_isConcludedBefore_23 : decode cX11_isConcludedBefore 23 = .ok (.invokevirtual 154, 3) := by decide +kernel
theorem dX11_isConcludedBefore_26 : decode cX11_isConcludedBefore 26 = .ok (.aload_n 0, 1) := by decide +kernel
theorem dX11_isConcludedBefore_27 : decode cX11_isConcludedBefore 27 = .ok (.iload_n 2, 1) := by decide +kernel
theorem dX11_isConcludedBefore_28 : decode cX11_isConcludedBefore 28 = .ok (.invokevirtual 157, 3) := by decide +kernel
theorem dX11_isConcludedBefore_31 : decode cX11_isConcludedBefore 31 = .ok (.iload_n 3, 1) := by decide +kernel
theorem dX11_isConcludedBefore_32 : decode cX11_isConcludedBefore 32 = .ok (.if_icmp .ne 5, 3) := by decide +kernel
theorem dX11_isConcludedBefore_35 : decode cX11_isConcludedBefore 35 = .ok (.iconst 1, 1) := by decide +kernel
theorem dX11_isConcludedBefore_36 : decode cX11_isConcludedBefore 36 = .ok (.ireturn, 1) := by decide +kernel
theorem dX11_isConcludedBefore_37 : decode cX11_isConcludedBefore 37 = .ok (.iinc 4 1, 3) := by decide +kernel
theorem dX11_isConcludedBefore_40 : decode cX11_isConcludedBefore 40 = .ok (.goto (-26), 3) := by decide +kernel
theorem dX11_isConcludedBefore_43 : decode cX11_isConcludedBefore 43 = .ok (.iconst 0, 1) := by decide +kernel
theorem dX11_isConcludedBefore_44 : decode cX11_isConcludedBefore 44 = .ok (.ireturn, 1) := by decide +kernel
theorem dX11_concludeAlike_0 : decode cX11_concludeAlike 0 = .ok (.iconst 0, 1) := by decide +kernel
theorem dX11_concludeAlike_1 : decode cX11_concludeAlike 1 = .ok (.istore_n 3, 1) := by decide +kernel
theorem dX11_concludeAlike_2 : decode cX11_concludeAlike 2 = .ok (.iload_n 3, 1) := by decide +kernel
theorem dX11_concludeAlike_3 : decode cX11_concludeAlike 3 = .ok (.aload_n 0, 1) := by decide +kernel
theorem dX11_concludeAlike_4 : decode cX11_concludeAlike 4 = .ok (.getfield 19, 3) := by decide +kernel
theorem dX11_concludeAlike_7 : decode cX11_concludeAlike 7 = .ok (.getfield 148, 3) := by decide +kernel
theorem dX11_concludeAlike_10 : decode cX11_concludeAlike 10 = .ok (.if_icmp .ge 38, 3) := by decide +kernel
theorem dX11_concludeAlike_13 : decode cX11_concludeAlike 13 = .ok (.aload_n 0, 1) := by decide +kernel
theorem dX11_concludeAlike_14 : decode cX11_concludeAlike 14 = .ok (.iload_n 1, 1) := by decide +kernel
theorem dX11_concludeAlike_15 : decode cX11_concludeAlike 15 = .ok (.invokevirtual 154, 3) := by decide +kernel
theorem dX11_concludeAlike_18 : decode cX11_concludeAlike 18 = .ok (.aload_n 0, 1) := by decide +kernel
theorem dX11_concludeAlike_19 : decode cX11_concludeAlike 19 = .ok (.iload_n 3, 1) := by decide +kernel
theorem dX11_concludeAlike_20 : decode cX11_concludeAlike 20 = .ok (.invokevirtual 157, 3) := by decide +kernel
theorem dX11_concludeAlike_23 : decode cX11_concludeAlike 23 = .ok (.istore 4, 2) := by decide +kernel
theorem dX11_concludeAlike_25 : decode cX11_concludeAlike 25 = .ok (.aload_n 0, 1) := by decide +kernel
theorem dX11_concludeAlike_26 : decode cX11_concludeAlike 26 = .ok (.iload_n 2, 1) := by decide +kernel
theorem dX11_concludeAlike_27 : decode cX11_concludeAlike 27 = .ok (.invokevirtual 154, 3) := by decide +kernel
theorem dX11_concludeAlike_30 : decode cX11_concludeAlike 30 = .ok (.aload_n 0, 1) := by decide +kernel
theorem dX11_concludeAlike_31 : decode cX11_concludeAlike 31 = .ok (.iload_n 3, 1) := by decide +kernel
theorem dX11_concludeAlike_32 : decode cX11_concludeAlike 32 = .ok (.invokevirtual 157, 3) := by decide +kernel
theorem dX11_concludeAlike_35 : decode cX11_concludeAlike 35 = .ok (.iload 4, 2) := by decide +kernel
theorem dX11_concludeAlike_37 : decode cX11_concludeAlike 37 = .ok (.if_icmp .eq 5, 3) := by decide +kernel
theorem dX11_concludeAlike_40 : decode cX11_concludeAlike 40 = .ok (.iconst 0, 1) := by decide +kernel
theorem dX11_concludeAlike_41 : decode cX11_concludeAlike 41 = .ok (.ireturn, 1) := by decide +kernel
theorem dX11_concludeAlike_42 : decode cX11_concludeAlike 42 = .ok (.iinc 3 1, 3) := by decide +kernel
theorem dX11_concludeAlike_45 : decode cX11_concludeAlike 45 = .ok (.goto (-43), 3) := by decide +kernel
theorem dX11_concludeAlike_48 : decode cX11_concludeAlike 48 = .ok (.iconst 1, 1) := by decide +kernel
theorem dX11_concludeAlike_49 : decode cX11_concludeAlike 49 = .ok (.ireturn, 1) := by decide +kernel
theorem dX11_drawSaying_0 : decode cX11_drawSaying 0 = .ok (.getstatic 251, 3) := by decide +kernel
theorem dX11_drawSaying_3 : decode cX11_drawSaying 3 = .ok (.aload_n 0, 1) := by decide +kernel
theorem dX11_drawSaying_4 : decode cX11_drawSaying 4 = .ok (.iload_n 1, 1) := by decide +kernel
theorem dX11_drawSaying_5 : decode cX11_drawSaying 5 = .ok (.iconst 3, 1) := by decide +kernel
theorem dX11_drawSaying_6 : decode cX11_drawSaying 6 = .ok (.if_icmp .ge 10, 3) := by decide +kernel
theorem dX11_drawSaying_9 : decode cX11_drawSaying 9 = .ok (.getstatic 251, 3) := by decide +kernel
theorem dX11_drawSaying_12 : decode cX11_drawSaying 12 = .ok (.arraylength, 1) := by decide +kernel
theorem dX11_drawSaying_13 : decode cX11_drawSaying 13 = .ok (.goto 7, 3) := by decide +kernel
theorem dX11_drawSaying_16 : decode cX11_drawSaying 16 = .ok (.getstatic 254, 3) := by decide +kernel
theorem dX11_drawSaying_19 : decode cX11_drawSaying 19 = .ok (.arraylength, 1) := by decide +kernel
theorem dX11_drawSaying_20 : decode cX11_drawSaying 20 = .ok (.invokevirtual 257, 3) := by decide +kernel
theorem dX11_drawSaying_23 : decode cX11_drawSaying 23 = .ok (.iaload, 1) := by decide +kernel
theorem dX11_drawSaying_24 : decode cX11_drawSaying 24 = .ok (.istore_n 2, 1) := by decide +kernel
theorem dX11_drawSaying_25 : decode cX11_drawSaying 25 = .ok (.aload_n 0, 1) := by decide +kernel
theorem dX11_drawSaying_26 : decode cX11_drawSaying 26 = .ok (.getfield 77, 3) := by decide +kernel
theorem dX11_drawSaying_29 : decode cX11_drawSaying 29 = .ok (.iload_n 2, 1) := by decide +kernel
theorem dX11_drawSaying_30 : decode cX11_drawSaying 30 = .ok (.invokevirtual 260, 3) := by decide +kernel
theorem dX11_drawSaying_33 : decode cX11_drawSaying 33 = .ok (.iload_n 1, 1) := by decide +kernel
theorem dX11_drawSaying_34 : decode cX11_drawSaying 34 = .ok (.iconst 3, 1) := by decide +kernel
theorem dX11_drawSaying_35 : decode cX11_drawSaying 35 = .ok (.if_icmp .ge 10, 3) := by decide +kernel
theorem dX11_drawSaying_38 : decode cX11_drawSaying 38 = .ok (.iload_n 2, 1) := by decide +kernel
theorem dX11_drawSaying_39 : decode cX11_drawSaying 39 = .ok (.invokestatic 192, 3) := by decide +kernel
theorem dX11_drawSaying_42 : decode cX11_drawSaying 42 = .ok (.goto 4, 3) := by decide +kernel
theorem dX11_drawSaying_45 : decode cX11_drawSaying 45 = .ok (.iconst 0, 1) := by decide +kernel
theorem dX11_drawSaying_46 : decode cX11_drawSaying 46 = .ok (.istore_n 3, 1) := by decide +kernel
theorem dX11_drawSaying_47 : decode cX11_drawSaying 47 = .ok (.iconst 0, 1) := by decide +kernel
theorem dX11_drawSaying_48 : decode cX11_drawSaying 48 = .ok (.istore 4, 2) := by decide +kernel
theorem dX11_drawSaying_50 : decode cX11_drawSaying 50 = .ok (.iload 4, 2) := by decide +kernel
theorem dX11_drawSaying_52 : decode cX11_drawSaying 52 = .ok (.iload_n 3, 1) := by decide +kernel
theorem dX11_drawSaying_53 : decode cX11_drawSaying 53 = .ok (.if_icmp .ge 16, 3) := by decide +kernel
theorem dX11_drawSaying_56 : decode cX11_drawSaying 56 = .ok (.aload_n 0, 1) := by decide +kernel
theorem dX11_drawSaying_57 : decode cX11_drawSaying 57 = .ok (.iload_n 1, 1) := by decide +kernel
theorem dX11_drawSaying_58 : decode cX11_drawSaying 58 = .ok (.iconst 1, 1) := by decide +kernel
theorem dX11_drawSaying_59 : decode cX11_drawSaying 59 = .ok (.iadd, 1) := by decide +kernel
theorem dX11_drawSaying_60 : decode cX11_drawSaying 60 = .ok (.invokevirtual 221, 3) := by decide +kernel
theorem dX11_drawSaying_63 : decode cX11_drawSaying 63 = .ok (.iinc 4 1, 3) := by decide +kernel
theorem dX11_drawSaying_66 : decode cX11_drawSaying 66 = .ok (.goto (-16), 3) := by decide +kernel
theorem dX11_drawSaying_69 : decode cX11_drawSaying 69 = .ok (.return_, 1) := by decide +kernel
theorem dX11_drawBelow_0 : decode cX11_drawBelow 0 = .ok (.aload_n 0, 1) := by decide +kernel
theorem dX11_drawBelow_1 : decode cX11_drawBelow 1 = .ok (.aload_n 0, 1) := by decide +kernel
theorem dX11_drawBelow_2 : decode cX11_drawBelow 2 = .ok (.getfield 81, 3) := by decide +kernel
theorem dX11_drawBelow_5 : decode cX11_drawBelow 5 = .ok (.ldc_w 262, 3) := by decide +kernel
theorem dX11_drawBelow_8 : decode cX11_drawBelow 8 = .ok (.imul, 1) := by decide +kernel
theorem dX11_drawBelow_9 : decode cX11_drawBelow 9 = .ok (.sipush 12345, 3) := by decide +kernel
theorem dX11_drawBelow_12 : decode cX11_drawBelow 12 = .ok (.iadd, 1) := by decide +kernel
theorem dX11_drawBelow_13 : decode cX11_drawBelow 13 = .ok (.putfield 81, 3) := by decide +kernel
theorem dX11_drawBelow_16 : decode cX11_drawBelow 16 = .ok (.iload_n 1, 1) := by decide +kernel
theorem dX11_drawBelow_17 : decode cX11_drawBelow 17 = .ok (.ifCond .le 20, 3) := by decide +kernel
theorem dX11_drawBelow_20 : decode cX11_drawBelow 20 = .ok (.aload_n 0, 1) := by decide +kernel
theorem dX11_drawBelow_21 : decode cX11_drawBelow 21 = .ok (.getfield 81, 3) := by decide +kernel
theorem dX11_drawBelow_24 : decode cX11_drawBelow 24 = .ok (.ldc_w 263, 3) := by decide +kernel
theorem dX11_drawBelow_27 : decode cX11_drawBelow 27 = .ok (.iand, 1) := by decide +kernel
theorem dX11_drawBelow_28 : decode cX11_drawBelow 28 = .ok (.ldc_w 264, 3) := by decide +kernel
theorem dX11_drawBelow_31 : decode cX11_drawBelow 31 = .ok (.idiv, 1) := by decide +kernel
theorem dX11_drawBelow_32 : decode cX11_drawBelow 32 = .ok (.iload_n 1, 1) := by decide +kernel
theorem dX11_drawBelow_33 : decode cX11_drawBelow 33 = .ok (.irem, 1) := by decide +kernel
theorem dX11_drawBelow_34 : decode cX11_drawBelow 34 = .ok (.goto 4, 3) := by decide +kernel
theorem dX11_drawBelow_37 : decode cX11_drawBelow 37 = .ok (.iconst 0, 1) := by decide +kernel
theorem dX11_drawBelow_38 : decode cX11_drawBelow 38 = .ok (.ireturn, 1) := by decide +kernel
theorem dX11_tellAll_0 : decode cX11_tellAll 0 = .ok (.aload_n 0, 1) := by decide +kernel
theorem dX11_tellAll_1 : decode cX11_tellAll 1 = .ok (.getfield 23, 3) := by decide +kernel
theorem dX11_tellAll_4 : decode cX11_tellAll 4 = .ok (.aload_n 0, 1) := by decide +kernel
theorem dX11_tellAll_5 : decode cX11_tellAll 5 = .ok (.getfield 19, 3) := by decide +kernel
theorem dX11_tellAll_8 : decode cX11_tellAll 8 = .ok (.invokevirtual 224, 3) := by decide +kernel
theorem dX11_tellAll_11 : decode cX11_tellAll 11 = .ok (.aload_n 0, 1) := by decide +kernel
theorem dX11_tellAll_12 : decode cX11_tellAll 12 = .ok (.getfield 10, 3) := by decide +kernel
theorem dX11_tellAll_15 : decode cX11_tellAll 15 = .ok (.invokevirtual 265, 3) := by decide +kernel
theorem dX11_tellAll_18 : decode cX11_tellAll 18 = .ok (.iconst 0, 1) := by decide +kernel
theorem dX11_tellAll_19 : decode cX11_tellAll 19 = .ok (.istore_n 1, 1) := by decide +kernel
theorem dX11_tellAll_20 : decode cX11_tellAll 20 = .ok (.aload_n 0, 1) := by decide +kernel
theorem dX11_tellAll_21 : decode cX11_tellAll 21 = .ok (.getfield 10, 3) := by decide +kernel
theorem dX11_tellAll_24 : decode cX11_tellAll 24 = .ok (.invokevirtual 268, 3) := by decide +kernel
theorem dX11_tellAll_27 : decode cX11_tellAll 27 = .ok (.ifCond .eq 36, 3) := by decide +kernel
theorem dX11_tellAll_30 : decode cX11_tellAll 30 = .ok (.iload_n 1, 1) := by decide +kernel
theorem dX11_tellAll_31 : decode cX11_tellAll 31 = .ok (.bipush 80, 2) := by decide +kernel
theorem dX11_tellAll_33 : decode cX11_tellAll 33 = .ok (.if_icmp .ge 30, 3) := by decide +kernel
theorem dX11_tellAll_36 : decode cX11_tellAll 36 = .ok (.aload_n 0, 1) := by decide +kernel
theorem dX11_tellAll_37 : decode cX11_tellAll 37 = .ok (.getfield 10, 3) := by decide +kernel
theorem dX11_tellAll_40 : decode cX11_tellAll 40 = .ok (.invokevirtual 102, 3) := by decide +kernel
theorem dX11_tellAll_43 : decode cX11_tellAll 43 = .ok (.istore_n 2, 1) := by decide +kernel
theorem dX11_tellAll_44 : decode cX11_tellAll 44 = .ok (.aload_n 0, 1) := by decide +kernel
theorem dX11_tellAll_45 : decode cX11_tellAll 45 = .ok (.invokevirtual 271, 3) := by decide +kernel
theorem dX11_tellAll_48 : decode cX11_tellAll 48 = .ok (.ifCond .ne 9, 3) := by decide +kernel
theorem dX11_tellAll_51 : decode cX11_tellAll 51 = .ok (.sipush (-2000), 3) := by decide +kernel
theorem dX11_tellAll_54 : decode cX11_tellAll 54 = .ok (.iload_n 2, 1) := by decide +kernel
theorem dX11_tellAll_55 : decode cX11_tellAll 55 = .ok (.isub, 1) := by decide +kernel
theorem dX11_tellAll_56 : decode cX11_tellAll 56 = .ok (.ireturn, 1) := by decide +kernel
theorem dX11_tellAll_57 : decode cX11_tellAll 57 = .ok (.iinc 1 1, 3) := by decide +kernel
theorem dX11_tellAll_60 : decode cX11_tellAll 60 = .ok (.goto (-40), 3) := by decide +kernel
theorem dX11_tellAll_63 : decode cX11_tellAll 63 = .ok (.aload_n 0, 1) := by decide +kernel
theorem dX11_tellAll_64 : decode cX11_tellAll 64 = .ok (.getfield 19, 3) := by decide +kernel
theorem dX11_tellAll_67 : decode cX11_tellAll 67 = .ok (.astore_n 2, 1) := by decide +kernel
theorem dX11_tellAll_68 : decode cX11_tellAll 68 = .ok (.aload_n 0, 1) := by decide +kernel
theorem dX11_tellAll_69 : decode cX11_tellAll 69 = .ok (.aload_n 0, 1) := by decide +kernel
theorem dX11_tellAll_70 : decode cX11_tellAll 70 = .ok (.getfield 23, 3) := by decide +kernel
theorem dX11_tellAll_73 : decode cX11_tellAll 73 = .ok (.putfield 19, 3) := by decide +kernel
theorem dX11_tellAll_76 : decode cX11_tellAll 76 = .ok (.aload_n 0, 1) := by decide +kernel
theorem dX11_tellAll_77 : decode cX11_tellAll 77 = .ok (.aload_n 2, 1) := by decide +kernel
theorem dX11_tellAll_78 : decode cX11_tellAll 78 = .ok (.putfield 23, 3) := by decide +kernel
theorem dX11_tellAll_81 : decode cX11_tellAll 81 = .ok (.iload_n 1, 1) := by decide +kernel
theorem dX11_tellAll_82 : decode cX11_tellAll 82 = .ok (.ireturn, 1) := by decide +kernel
theorem dX11_tellStatement_0 : decode cX11_tellStatement 0 = .ok (.aload_n 0, 1) := by decide +kernel
theorem dX11_tellStatement_1 : decode cX11_tellStatement 1 = .ok (.getfield 10, 3) := by decide +kernel
theorem dX11_tellStatement_4 : decode cX11_tellStatement 4 = .ok (.invokevirtual 274, 3) := by decide +kernel
theorem dX11_tellStatement_7 : decode cX11_tellStatement 7 = .ok (.lookupswitch 152 #[(99, 88), (104, 62), (115, 33)], 33) := by decide +kernel
theorem dX11_tellStatement_40 : decode cX11_tellStatement 40 = .ok (.aload_n 0, 1) := by decide +kernel
theorem dX11_tellStatement_41 : decode cX11_tellStatement 41 = .ok (.getfield 10, 3) := by decide +kernel
theorem dX11_tellStatement_44 : decode cX11_tellStatement 44 = .ok (.invokevirtual 277, 3) := by decide +kernel
theorem dX11_tellStatement_47 : decode cX11_tellStatement 47 = .ok (.istore_n 2, 1) := by decide +kernel
theorem dX11_tellStatement_48 : decode cX11_tellStatement 48 = .ok (.aload_n 0, 1) := by decide +kernel
theorem dX11_tellStatement_49 : decode cX11_tellStatement 49 = .ok (.getfield 10, 3) := by decide +kernel
theorem dX11_tellStatement_52 : decode cX11_tellStatement 52 = .ok (.invokevirtual 277, 3) := by decide +kernel
theorem dX11_tellStatement_55 : decode cX11_tellStatement 55 = .ok (.istore_n 3, 1) := by decide +kernel
theorem dX11_tellStatement_56 : decode cX11_tellStatement 56 = .ok (.aload_n 0, 1) := by decide +kernel
theorem dX11_tellStatement_57 : decode cX11_tellStatement 57 = .ok (.getfield 23, 3) := by decide +kernel
theorem dX11_tellStatement_60 : decode cX11_tellStatement 60 = .ok (.iload_n 2, 1) := by decide +kernel
theorem dX11_tellStatement_61 : decode cX11_tellStatement 61 = .ok (.iload_n 3, 1) := by decide +kernel
theorem dX11_tellStatement_62 : decode cX11_tellStatement 62 = .ok (.invokevirtual 280, 3) := by decide +kernel
theorem dX11_tellStatement_65 : decode cX11_tellStatement 65 = .ok (.istore_n 1, 1) := by decide +kernel
theorem dX11_tellStatement_66 : decode cX11_tellStatement 66 = .ok (.goto 119, 3) := by decide +kernel
theorem dX11_tellStatement_69 : decode cX11_tellStatement 69 = .ok (.aload_n 0, 1) := by decide +kernel
theorem dX11_tellStatement_70 : decode cX11_tellStatement 70 = .ok (.getfield 10, 3) := by decide +kernel
theorem dX11_tellStatement_73 : decode cX11_tellStatement 73 = .ok (.aload_n 0, 1) := by decide +kernel
theorem dX11_tellStatement_74 : decode cX11_tellStatement 74 = .ok (.getfield 77, 3) := by decide +kernel
theorem dX11_tellStatement_77 : decode cX11_tellStatement 77 = .ok (.invokevirtual 283, 3) := by decide +kernel
theorem dX11_tellStatement_80 : decode cX11_tellStatement 80 = .ok (.aload_n 0, 1) := by decide +kernel
theorem dX11_tellStatement_81 : decode cX11_tellStatement 81 = .ok (.getfield 23, 3) := by decide +kernel
theorem dX11_tellStatement_84 : decode cX11_tellStatement 84 = .ok (.aload_n 0, 1) := by decide +kernel
theorem dX11_tellStatement_85 : decode cX11_tellStatement 85 = .ok (.getfield 77, 3) := by decide +kernel
theorem dX11_tellStatement_88 : decode cX11_tellStatement 88 = .ok (.invokevirtual 286, 3) := by decide +kernel
theorem dX11_tellStatement_91 : decode cX11_tellStatement 91 = .ok (.istore_n 1, 1) := by decide +kernel
theorem dX11_tellStatement_92 : decode cX11_tellStatement 92 = .ok (.goto 93, 3) := by decide +kernel
theorem dX11_tellStatement_95 : decode cX11_tellStatement 95 = .ok (.aload_n 0, 1) := by decide +kernel
theorem dX11_tellStatement_96 : decode cX11_tellStatement 96 = .ok (.getfield 10, 3) := by decide +kernel
theorem dX11_tellStatement_99 : decode cX11_tellStatement 99 = .ok (.invokevirtual 290, 3) := by decide +kernel
theorem dX11_tellStatement_102 : decode cX11_tellStatement 102 = .ok (.istore 4, 2) := by decide +kernel
theorem dX11_tellStatement_104 : decode cX11_tellStatement 104 = .ok (.aload_n 0, 1) := by decide +kernel
theorem dX11_tellStatement_105 : decode cX11_tellStatement 105 = .ok (.getfield 10, 3) := by decide +kernel
theorem dX11_tellStatement_108 : decode cX11_tellStatement 108 = .ok (.aload_n 0, 1) := by decide +kernel
theorem dX11_tellStatement_109 : decode cX11_tellStatement 109 = .ok (.getfield 77, 3) := by decide +kernel
theorem dX11_tellStatement_112 : decode cX11_tellStatement 112 = .ok (.invokevirtual 283, 3) := by decide +kernel
theorem dX11_tellStatement_115 : decode cX11_tellStatement 115 = .ok (.aload_n 0, 1) := by decide +kernel
theorem dX11_tellStatement_116 : decode cX11_tellStatement 116 = .ok (.getfield 56, 3) := by decide +kernel
theorem dX11_tellStatement_119 : decode cX11_tellStatement 119 = .ok (.aload_n 0, 1) := by decide +kernel
theorem dX11_tellStatement_120 : decode cX11_tellStatement 120 = .ok (.getfield 49, 3) := by decide +kernel
theorem dX11_tellStatement_123 : decode cX11_tellStatement 123 = .ok (.aload_n 0, 1) := by decide +kernel
theorem dX11_tellStatement_124 : decode cX11_tellStatement 124 = .ok (.getfield 23, 3) := by decide +kernel
theorem dX11_tellStatement_127 : decode cX11_tellStatement 127 = .ok (.getfield 132, 3) := by decide +kernel
theorem dX11_tellStatement_130 : decode cX11_tellStatement 130 = .ok (.bipush 15, 2) := by decide +kernel
theorem dX11_tellStatement_132 : decode cX11_tellStatement 132 = .ok (.invokevirtual 240, 3) := by decide +kernel
theorem dX11_tellStatement_135 : decode cX11_tellStatement 135 = .ok (.aload_n 0, 1) := by decide +kernel
theorem dX11_tellStatement_136 : decode cX11_tellStatement 136 = .ok (.getfield 23, 3) := by decide +kernel
theorem dX11_tellStatement_139 : decode cX11_tellStatement 139 = .ok (.iload 4, 2) := by decide +kernel
theorem dX11_tellStatement_141 : decode cX11_tellStatement 141 = .ok (.aload_n 0, 1) := by decide +kernel
theorem dX11_tellStatement_142 : decode cX11_tellStatement 142 = .ok (.getfield 56, 3) := by decide +kernel
theorem dX11_tellStatement_145 : decode cX11_tellStatement 145 = .ok (.aload_n 0, 1) := by decide +kernel
theorem dX11_tellStatement_146 : decode cX11_tellStatement 146 = .ok (.getfield 77, 3) := by decide +kernel
theorem dX11_tellStatement_149 : decode cX11_tellStatement 149 = .ok (.invokevirtual 189, 3) := by decide +kernel
theorem dX11_tellStatement_152 : decode cX11_tellStatement 152 = .ok (.invokevirtual 293, 3) := by decide +kernel
theorem dX11_tellStatement_155 : decode cX11_tellStatement 155 = .ok (.istore_n 1, 1) := by decide +kernel
theorem dX11_tellStatement_156 : decode cX11_tellStatement 156 = .ok (.goto 29, 3) := by decide +kernel
theorem dX11_tellStatement_159 : decode cX11_tellStatement 159 = .ok (.aload_n 0, 1) := by decide +kernel
theorem dX11_tellStatement_160 : decode cX11_tellStatement 160 = .ok (.getfield 10, 3) := by decide +kernel
theorem dX11_tellStatement_163 : decode cX11_tellStatement 163 = .ok (.invokevirtual 277, 3) := by decide +kernel
theorem dX11_tellStatement_166 : decode cX11_tellStatement 166 = .ok (.istore 5, 2) := by decide +kernel
theorem dX11_tellStatement_168 : decode cX11_tellStatement 168 = .ok (.aload_n 0, 1) := by decide +kernel
theorem dX11_tellStatement_169 : decode cX11_tellStatement 169 = .ok (.getfield 23, 3) := by decide +kernel
theorem dX11_tellStatement_172 : decode cX11_tellStatement 172 = .ok (.iload 5, 2) := by decide +kernel
theorem dX11_tellStatement_174 : decode cX11_tellStatement 174 = .ok (.aload_n 0, 1) := by decide +kernel
theorem dX11_tellStatement_175 : decode cX11_tellStatement 175 = .ok (.getfield 10, 3) := by decide +kernel
theorem dX11_tellStatement_178 : decode cX11_tellStatement 178 = .ok (.invokevirtual 290, 3) := by decide +kernel
theorem dX11_tellStatement_181 : decode cX11_tellStatement 181 = .ok (.invokevirtual 128, 3) := by decide +kernel
theorem dX11_tellStatement_184 : decode cX11_tellStatement 184 = .ok (.istore_n 1, 1) := by decide +kernel
theorem dX11_tellStatement_185 : decode cX11_tellStatement 185 = .ok (.aload_n 0, 1) := by decide +kernel
theorem dX11_tellStatement_186 : decode cX11_tellStatement 186 = .ok (.getfield 10, 3) := by decide +kernel
theorem dX11_tellStatement_189 : decode cX11_tellStatement 189 = .ok (.invokevirtual 274, 3) := by decide +kernel
theorem dX11_tellStatement_192 : decode cX11_tellStatement 192 = .ok (.pop, 1) := by decide +kernel
theorem dX11_tellStatement_193 : decode cX11_tellStatement 193 = .ok (.iload_n 1, 1) := by decide +kernel
theorem dX11_tellStatement_194 : decode cX11_tellStatement 194 = .ok (.ireturn, 1) := by decide +kernel
theorem dX12_init_0 : decode cX12_init 0 = .ok (.aload_n 0, 1) := by decide +kernel
theorem dX12_init_1 : decode cX12_init 1 = .ok (.invokespecial 1, 3) := by decide +kernel
theorem dX12_init_4 : decode cX12_init 4 = .ok (.aload_n 0, 1) := by decide +kernel
theorem dX12_init_5 : decode cX12_init 5 = .ok (.bipush 7, 2) := by decide +kernel
theorem dX12_init_7 : decode cX12_init 7 = .ok (.newarray .int, 2) := by decide +kernel
theorem dX12_init_9 : decode cX12_init 9 = .ok (.putfield 7, 3) := by decide +kernel
theorem dX12_init_12 : decode cX12_init 12 = .ok (.aload_n 0, 1) := by decide +kernel
theorem dX12_init_13 : decode cX12_init 13 = .ok (.bipush 6, 2) := by decide +kernel
theorem dX12_init_15 : decode cX12_init 15 = .ok (.newarray .int, 2) := by decide +kernel
theorem dX12_init_17 : decode cX12_init 17 = .ok (.putfield 13, 3) := by decide +kernel
theorem dX12_init_20 : decode cX12_init 20 = .ok (.aload_n 0, 1) := by decide +kernel
theorem dX12_init_21 : decode cX12_init 21 = .ok (.bipush 6, 2) := by decide +kernel
theorem dX12_init_23 : decode cX12_init 23 = .ok (.newarray .int, 2) := by decide +kernel
theorem dX12_init_25 : decode cX12_init 25 = .ok (.putfield 16, 3) := by decide +kernel
theorem dX12_init_28 : decode cX12_init 28 = .ok (.aload_n 0, 1) := by decide +kernel
theorem dX12_init_29 : decode cX12_init 29 = .ok (.bipush 6, 2) := by decide +kernel
theorem dX12_init_31 : decode cX12_init 31 = .ok (.newarray .int, 2) := by decide +kernel
theorem dX12_init_33 : decode cX12_init 33 = .ok (.putfield 19, 3) := by decide +kernel
theorem dX12_init_36 : decode cX12_init 36 = .ok (.aload_n 0, 1) := by decide +kernel
theorem dX12_init_37 : decode cX12_init 37 = .ok (.iconst 4, 1) := by decide +kernel
theorem dX12_init_38 : decode cX12_init 38 = .ok (.newarray .int, 2) := by decide +kernel
theorem dX12_init_40 : decode cX12_init 40 = .ok (.dup, 1) := by decide +kernel
theorem dX12_init_41 : decode cX12_init 41 = .ok (.iconst 0, 1) := by decide +kernel
theorem dX12_init_42 : decode cX12_init 42 = .ok (.bipush (-9), 2) := by decide +kernel
theorem dX12_init_44 : decode cX12_init 44 = .ok (.iastore, 1) := by decide +kernel
theorem dX12_init_45 : decode cX12_init 45 = .ok (.dup, 1) := by decide +kernel
theorem dX12_init_46 : decode cX12_init 46 = .ok (.iconst 1, 1) := by decide +kernel
theorem dX12_init_47 : decode cX12_init 47 = .ok (.bipush (-9), 2) := by decide +kernel
theorem dX12_init_49 : decode cX12_init 49 = .ok (.iastore, 1) := by decide +kernel
theorem dX12_init_50 : decode cX12_init 50 = .ok (.dup, 1) := by decide +kernel
theorem dX12_init_51 : decode cX12_init 51 = .ok (.iconst 2, 1) := by decide +kernel
theorem dX12_init_52 : decode cX12_init 52 = .ok (.bipush (-9), 2) := by decide +kernel
theorem dX12_init_54 : decode cX12_init 54 = .ok (.iastore, 1) := by decide +kernel
theorem dX12_init_55 : decode cX12_init 55 = .ok (.dup, 1) := by decide +kernel
theorem dX12_init_56 : decode cX12_init 56 = .ok (.iconst 3, 1) := by decide +kernel
theorem dX12_init_57 : decode cX12_init 57 = .ok (.bipush (-9), 2) := by decide +kernel
theorem dX12_init_59 : decode cX12_init 59 = .ok (.iastore, 1) := by decide +kernel
theorem dX12_init_60 : decode cX12_init 60 = .ok (.putfield 22, 3) := by decide +kernel
theorem dX12_init_63 : decode cX12_init 63 = .ok (.aload_n 0, 1) := by decide +kernel
theorem dX12_init_64 : decode cX12_init 64 = .ok (.bipush 6, 2) := by decide +kernel
theorem dX12_init_66 : decode cX12_init 66 = .ok (.newarray .int, 2) := by decide +kernel
theorem dX12_init_68 : decode cX12_init 68 = .ok (.putfield 25, 3) := by decide +kernel
theorem dX12_init_71 : decode cX12_init 71 = .ok (.aload_n 0, 1) := by decide +kernel
theorem dX12_init_72 : decode cX12_init 72 = .ok (.bipush 120, 2) := by decide +kernel
theorem dX12_init_74 : decode cX12_init 74 = .ok (.newarray .int, 2) := by decide +kernel
theorem dX12_init_76 : decode cX12_init 76 = .ok (.putfield 28, 3) := by decide +kernel
theorem dX12_init_79 : decode cX12_init 79 = .ok (.aload_n 0, 1) := by decide +kernel
theorem dX12_init_80 : decode cX12_init 80 = .ok (.bipush 80, 2) := by decide +kernel
theorem dX12_init_82 : decode cX12_init 82 = .ok (.newarray .int, 2) := by decide +kernel
theorem dX12_init_84 : decode cX12_init 84 = .ok (.putfield 31, 3) := by decide +kernel
theorem dX12_init_87 : decode cX12_init 87 = .ok (.aload_n 0, 1) := by decide +kernel
theorem dX12_init_88 : decode cX12_init 88 = .ok (.bipush 40, 2) := by decide +kernel
theorem dX12_init_90 : decode cX12_init 90 = .ok (.newarray .int, 2) := by decide +kernel
theorem dX12_init_92 : decode cX12_init 92 = .ok (.putfield 34, 3) := by decide +kernel
theorem dX12_init_95 : decode cX12_init 95 = .ok (.aload_n 0, 1) := by decide +kernel
theorem dX12_init_96 : decode cX12_init 96 = .ok (.bipush 40, 2) := by decide +kernel
theorem dX12_init_98 : decode cX12_init 98 = .ok (.newarray .int, 2) := by decide +kernel
theorem dX12_init_100 : decode cX12_init 100 = .ok (.putfield 37, 3) := by decide +kernel
theorem dX12_init_103 : decode cX12_init 103 = .ok (.aload_n 0, 1) := by decide +kernel
theorem dX12_init_104 : decode cX12_init 104 = .ok (.bipush 80, 2) := by decide +kernel
theorem dX12_init_106 : decode cX12_init 106 = .ok (.newarray .int, 2) := by decide +kernel
theorem dX12_init_108 : decode cX12_init 108 = .ok (.putfield 40, 3) := by decide +kernel
theorem dX12_init_111 : decode cX12_init 111 = .ok (.aload_n 0, 1) := by decide +kernel
theorem dX12_init_112 : decode cX12_init 112 = .ok (.bipush 40, 2) := by decide +kernel
theorem dX12_init_114 : decode cX12_init 114 = .ok (.newarray .int, 2) := by decide +kernel
theorem dX12_init_116 : decode cX12_init 116 = .ok (.putfield 43, 3) := by decide +kernel
theorem dX12_init_119 : decode cX12_init 119 = .ok (.aload_n 0, 1) := by decide +kernel
theorem dX12_init_120 : decode cX12_init 120 = .ok (.bipush 40, 2) := by decide +kernel
theorem dX12_init_122 : decode cX12_init 122 = .ok (.newarray .int, 2) := by decide +kernel
theorem dX12_init_124 : decode cX12_init 124 = .ok (.putfield 46, 3) := by decide +kernel
theorem dX12_init_127 : decode cX12_init 127 = .ok (.aload_n 0, 1) := by decide +kernel
theorem dX12_init_128 : decode cX12_init 128 = .ok (.sipush 320, 3) := by decide +kernel
theorem dX12_init_131 : decode cX12_init 131 = .ok (.newarray .int, 2) := by decide +kernel
theorem dX12_init_133 : decode cX12_init 133 = .ok (.putfield 49, 3) := by decide +kernel
theorem dX12_init_136 : decode cX12_init 136 = .ok (.aload_n 0, 1) := by decide +kernel
theorem dX12_init_137 : decode cX12_init 137 = .ok (.bipush 24, 2) := by decide +kernel
theorem dX12_init_139 : decode cX12_init 139 = .ok (.newarray .int, 2) := by decide +kernel
theorem dX12_init_141 : decode cX12_init 141 = .ok (.putfield 52, 3) := by decide +kernel
theorem dX12_init_144 : decode cX12_init 144 = .ok (.aload_n 0, 1) := by decide +kernel
theorem dX12_init_145 : decode cX12_init 145 = .ok (.bipush 24, 2) := by decide +kernel
theorem dX12_init_147 : decode cX12_init 147 = .ok (.newarray .int, 2) := by decide +kernel
theorem dX12_init_149 : decode cX12_init 149 = .ok (.putfield 55, 3) := by decide +kernel
theorem dX12_init_152 : decode cX12_init 152 = .ok (.aload_n 0, 1) := by decide +kernel
theorem dX12_init_153 : decode cX12_init 153 = .ok (.sipush 256, 3) := by decide +kernel
theorem dX12_init_156 : decode cX12_init 156 = .ok (.newarray .int, 2) := by decide +kernel
theorem dX12_init_158 : decode cX12_init 158 = .ok (.putfield 58, 3) := by decide +kernel
theorem dX12_init_161 : decode cX12_init 161 = .ok (.aload_n 0, 1) := by decide +kernel
theorem dX12_init_162 : decode cX12_init 162 = .ok (.bipush 6, 2) := by decide +kernel
theorem dX12_init_164 : decode cX12_init 164 = .ok (.newarray .int, 2) := by decide +kernel
theorem dX12_init_166 : decode cX12_init 166 = .ok (.putfield 61, 3) := by decide +kernel
theorem dX12_init_169 : decode cX12_init 169 = .ok (.aload_n 0, 1) := by decide +kernel
theorem dX12_init_170 : decode cX12_init 170 = .ok (.bipush 6, 2) := by decide +kernel
theorem dX12_init_172 : decode cX12_init 172 = .ok (.newarray .int, 2) := by decide +kernel
theorem dX12_init_174 : decode cX12_init 174 = .ok (.putfield 64, 3) := by decide +kernel
theorem dX12_init_177 : decode cX12_init 177 = .ok (.return_, 1) := by decide +kernel
theorem dX12_no_0 : decode cX12_no 0 = .ok (.aload_n 0, 1) := by decide +kernel
theorem dX12_no_1 : decode cX12_no 1 = .ok (.getfield 7, 3) := by decide +kernel
theorem dX12_no_4 : decode cX12_no 4 = .ok (.iload_n 1, 1) := by decide +kernel
theorem dX12_no_5 : decode cX12_no 5 = .ok (.ineg, 1) := by decide +kernel
theorem dX12_no_6 : decode cX12_no 6 = .ok (.dup2, 1) := by decide +kernel
theorem dX12_no_7 : decode cX12_no 7 = .ok (.iaload, 1) := by decide +kernel
theorem dX12_no_8 : decode cX12_no 8 = .ok (.iconst 1, 1) := by decide +kernel
theorem dX12_no_9 : decode cX12_no 9 = .ok (.iadd, 1) := by decide +kernel
theorem dX12_no_10 : decode cX12_no 10 = .ok (.iastore, 1) := by decide +kernel
theorem dX12_no_11 : decode cX12_no 11 = .ok (.iload_n 1, 1) := by decide +kernel
theorem dX12_no_12 : decode cX12_no 12 = .ok (.ireturn, 1) := by decide +kernel
theorem dX12_lower_0 : decode cX12_lower 0 = .ok (.aload_n 0, 1) := by decide +kernel
theorem dX12_lower_1 : decode cX12_lower 1 = .ok (.getfield 7, 3) := by decide +kernel
theorem dX12_lower_4 : decode cX12_lower 4 = .ok (.iload_n 1, 1) := by decide +kernel
theorem dX12_lower_5 : decode cX12_lower 5 = .ok (.ineg, 1) := by decide +kernel
theorem dX12_lower_6 : decode cX12_lower 6 = .ok (.dup2, 1) := by decide +kernel
theorem dX12_lower_7 : decode cX12_lower 7 = .ok (.iaload, 1) := by decide +kernel
theorem dX12_lower_8 : decode cX12_lower 8 = .ok (.iconst 1, 1) := by decide +kernel
theorem dX12_lower_9 : decode cX12_lower 9 = .ok (.iadd, 1) := by decide +kernel
theorem dX12_lower_10 : decode cX12_lower 10 = .ok (.iastore, 1) := by decide +kernel
theorem dX12_lower_11 : decode cX12_lower 11 = .ok (.ldc 67, 2) := by decide +kernel
theorem dX12_lower_13 : decode cX12_lower 13 = .ok (.iload_n 1, 1) := by decide +kernel
theorem dX12_lower_14 : decode cX12_lower 14 = .ok (.isub, 1) := by decide +kernel
theorem dX12_lower_15 : decode cX12_lower 15 = .ok (.ireturn, 1) := by decide +kernel
theorem dX12_isIn_0 : decode cX12_isIn 0 = .ok (.iload_n 0, 1) := by decide +kernel
theorem dX12_isIn_1 : decode cX12_isIn 1 = .ok (.iload_n 1, 1) := by decide +kernel
theorem dX12_isIn_2 : decode cX12_isIn 2 = .ok (.if_icmp .lt 12, 3) := by decide +kernel
theorem dX12_isIn_5 : decode cX12_isIn 5 = .ok (.iload_n 0, 1) := by decide +kernel
theorem dX12_isIn_6 : decode cX12_isIn 6 = .ok (.iload_n 2, 1) := by decide +kernel
theorem dX12_isIn_7 : decode cX12_isIn 7 = .ok (.if_icmp .gt 7, 3) := by decide +kernel
theorem dX12_isIn_10 : decode cX12_isIn 10 = .ok (.iconst 1, 1) := by decide +kernel
theorem dX12_isIn_11 : decode cX12_isIn 11 = .ok (.goto 4, 3) := by decide +kernel
theorem dX12_isIn_14 : decode cX12_isIn 14 = .ok (.iconst 0, 1) := by decide +kernel
theorem dX12_isIn_15 : decode cX12_isIn 15 = .ok (.ireturn, 1) := by decide +kernel
theorem dX12_bound_0 : decode cX12_bound 0 = .ok (.iload_n 0, 1) := by decide +kernel
theorem dX12_bound_1 : decode cX12_bound 1 = .ok (.iload_n 1, 1) := by decide +kernel
theorem dX12_bound_2 : decode cX12_bound 2 = .ok (.if_icmp .ge 8, 3) := by decide +kernel
theorem dX12_bound_5 : decode cX12_bound 5 = .ok (.bipush (-4), 2) := by decide +kernel
theorem dX12_bound_7 : decode cX12_bound 7 = .ok (.goto 14, 3) := by decide +kernel
theorem dX12_bound_10 : decode cX12_bound 10 = .ok (.iload_n 0, 1) := by decide +kernel
theorem dX12_bound_11 : decode cX12_bound 11 = .ok (.iload_n 2, 1) := by decide +kernel
theorem dX12_bound_12 : decode cX12_bound 12 = .ok (.if_icmp .le 8, 3) := by decide +kernel
theorem dX12_bound_15 : decode cX12_bound 15 = .ok (.bipush (-6), 2) := by decide +kernel
theorem dX12_bound_17 : decode cX12_bound 17 = .ok (.goto 4, 3) := by decide +kernel
theorem dX12_bound_20 : decode cX12_bound 20 = .ok (.iconst 0, 1) := by decide +kernel
theorem dX12_bound_21 : decode cX12_bound 21 = .ok (.ireturn, 1) := by decide +kernel
theorem dX12_isWho_0 : decode cX12_isWho 0 = .ok (.iload_n 1, 1) := by decide +kernel
theorem dX12_isWho_1 : decode cX12_isWho 1 = .ok (.iconst (-1), 1) := by decide +kernel
theorem dX12_isWho_2 : decode cX12_isWho 2 = .ok (.if_icmp .lt 15, 3) := by decide +kernel
theorem dX12_isWho_5 : decode cX12_isWho 5 = .ok (.iload_n 1, 1) := by decide +kernel
theorem dX12_isWho_6 : decode cX12_isWho 6 = .ok (.aload_n 0, 1) := by decide +kernel
theorem dX12_isWho_7 : decode cX12_isWho 7 = .ok (.getfield 68, 3) := by decide +kernel
theorem dX12_isWho_10 : decode cX12_isWho 10 = .ok (.if_icmp .ge 7, 3) := by decide +kernel
theorem dX12_isWho_13 : decode cX12_isWho 13 = .ok (.iconst 1, 1) := by decide +kernel
theorem dX12_isWho_14 : decode cX12_isWho 14 = .ok (.goto 4, 3) := by decide +kernel
theorem dX12_isWho_17 : decode cX12_isWho 17 = .ok (.iconst 0, 1) := by decide +kernel
theorem dX12_isWho_18 : decode cX12_isWho 18 = .ok (.ireturn, 1) := by decide +kernel
theorem dX12_isStranger_0 : decode cX12_isStranger 0 = .ok (.iload_n 1, 1) := by decide +kernel
theorem dX12_isStranger_1 : decode cX12_isStranger 1 = .ok (.ifCond .lt 15, 3) := by decide +kernel
theorem dX12_isStranger_4 : decode cX12_isStranger 4 = .ok (.iload_n 1, 1) := by decide +kernel
theorem dX12_isStranger_5 : decode cX12_isStranger 5 = .ok (.aload_n 0, 1) := by decide +kernel
theorem dX12_isStranger_6 : decode cX12_isStranger 6 = .ok (.getfield 68, 3) := by decide +kernel
theorem dX12_isStranger_9 : decode cX12_isStranger 9 = .ok (.if_icmp .ge 7, 3) := by decide +kernel
theorem dX12_isStranger_12 : decode cX12_isStranger 12 = .ok (.iconst 1, 1) := by decide +kernel
theorem dX12_isStranger_13 : decode cX12_isStranger 13 = .ok (.goto 4, 3) := by decide +kernel
theorem dX12_isStranger_16 : decode cX12_isStranger 16 = .ok (.iconst 0, 1) := by decide +kernel
theorem dX12_isStranger_17 : decode cX12_isStranger 17 = .ok (.ireturn, 1) := by decide +kernel
theorem dX12_isScholar_0 : decode cX12_isScholar 0 = .ok (.iload_n 1, 1) := by decide +kernel
theorem dX12_isScholar_1 : decode cX12_isScholar 1 = .ok (.ifCond .lt 15, 3) := by decide +kernel
theorem dX12_isScholar_4 : decode cX12_isScholar 4 = .ok (.iload_n 1, 1) := by decide +kernel
theorem dX12_isScholar_5 : decode cX12_isScholar 5 = .ok (.aload_n 0, 1) := by decide +kernel
theorem dX12_isScholar_6 : decode cX12_isScholar 6 = .ok (.getfield 72, 3) := by decide +kernel
theorem dX12_isScholar_9 : decode cX12_isScholar 9 = .ok (.if_icmp .ge 7, 3) := by decide +kernel
theorem dX12_isScholar_12 : decode cX12_isScholar 12 = .ok (.iconst 1, 1) := by decide +kernel
theorem dX12_isScholar_13 : decode cX12_isScholar 13 = .ok (.goto 4, 3) := by decide +kernel
theorem dX12_isScholar_16 : decode cX12_isScholar 16 = .ok (.iconst 0, 1) := by decide +kernel
theorem dX12_isScholar_17 : decode cX12_isScholar 17 = .ok (.ireturn, 1) := by decide +kernel
theorem dX12_isName_0 : decode cX12_isName 0 = .ok (.iload_n 0, 1) := by decide +kernel
theorem dX12_isName_1 : decode cX12_isName 1 = .ok (.ifCond .lt 12, 3) := by decide +kernel
theorem dX12_isName_4 : decode cX12_isName 4 = .ok (.iload_n 0, 1) := by decide +kernel
theorem dX12_isName_5 : decode cX12_isName 5 = .ok (.iconst 4, 1) := by decide +kernel
theorem dX12_isName_6 : decode cX12_isName 6 = .ok (.if_icmp .ge 7, 3) := by decide +kernel
theorem dX12_isName_9 : decode cX12_isName 9 = .ok (.iconst 1, 1) := by decide +kernel
theorem dX12_isName_10 : decode cX12_isName 10 = .ok (.goto 4, 3) := by decide +kernel
theorem dX12_isName_13 : decode cX12_isName 13 = .ok (.iconst 0, 1) := by decide +kernel
theorem dX12_isName_14 : decode cX12_isName 14 = .ok (.ireturn, 1) := by decide +kernel
theorem dX12_feed_0 : decode cX12_feed 0 = .ok (.iload_n 1, 1) := by decide +kernel
theorem dX12_feed_1 : decode cX12_feed 1 = .ok (.iconst 0, 1) := by decide +kernel
theorem dX12_feed_2 : decode cX12_feed 2 = .ok (.sipush 255, 3) := by decide +kernel
theorem dX12_feed_5 : decode cX12_feed 5 = .ok (.invokestatic 75, 3) := by decide +kernel
theorem dX12_feed_8 : decode cX12_feed 8 = .ok (.istore_n 2, 1) := by decide +kernel
theorem dX12_feed_9 : decode cX12_feed 9 = .ok (.iload_n 2, 1) := by decide +kernel
theorem dX12_feed_10 : decode cX12_feed 10 = .ok (.ifCond .ne 15, 3) := by decide +kernel
theorem dX12_feed_13 : decode cX12_feed 13 = .ok (.aload_n 0, 1) := by decide +kernel
theorem dX12_feed_14 : decode cX12_feed 14 = .ok (.getfield 79, 3) := by decide +kernel
theorem dX12_feed_17 : decode cX12_feed 17 = .ok (.bipush 80, 2) := by decide +kernel
theorem dX12_feed_19 : decode cX12_feed 19 = .ok (.if_icmp .ne 6, 3) := by decide +kernel
theorem dX12_feed_22 : decode cX12_feed 22 = .ok (.bipush (-6), 2) := by decide +kernel
theorem dX12_feed_24 : decode cX12_feed 24 = .ok (.istore_n 2, 1) := by decide +kernel
theorem dX12_feed_25 : decode cX12_feed 25 = .ok (.iload_n 2, 1) := by decide +kernel
theorem dX12_feed_26 : decode cX12_feed 26 = .ok (.ifCond .eq 9, 3) := by decide +kernel
theorem dX12_feed_29 : decode cX12_feed 29 = .ok (.aload_n 0, 1) := by decide +kernel
theorem dX12_feed_30 : decode cX12_feed 30 = .ok (.iload_n 2, 1) := by decide +kernel
theorem dX12_feed_31 : decode cX12_feed 31 = .ok (.invokevirtual 82, 3) := by decide +kernel
theorem dX12_feed_34 : decode cX12_feed 34 = .ok (.ireturn, 1) := by decide +kernel
theorem dX12_feed_35 : decode cX12_feed 35 = .ok (.aload_n 0, 1) := by decide +kernel
theorem dX12_feed_36 : decode cX12_feed 36 = .ok (.getfield 31, 3) := by decide +kernel
theorem dX12_feed_39 : decode cX12_feed 39 = .ok (.aload_n 0, 1) := by decide +kernel
theorem dX12_feed_40 : decode cX12_feed 40 = .ok (.getfield 79, 3) := by decide +kernel
theorem dX12_feed_43 : decode cX12_feed 43 = .ok (.iload_n 1, 1) := by decide +kernel
theorem dX12_feed_44 : decode cX12_feed 44 = .ok (.iastore, 1) := by decide +kernel
theorem dX12_feed_45 : decode cX12_feed 45 = .ok (.aload_n 0, 1) := by decide +kernel
theorem dX12_feed_46 : decode cX12_feed 46 = .ok (.dup, 1) := by decide +kernel
theorem dX12_feed_47 : decode cX12_feed 47 = .ok (.getfield 79, 3) := by decide +kernel
theorem dX12_feed_50 : decode cX12_feed 50 = .ok (.iconst 1, 1) := by decide +kernel
theorem dX12_feed_51 : decode cX12_feed 51 = .ok (.iadd, 1) := by decide +kernel
theorem dX12_feed_52 : decode cX12_feed 52 = .ok (.putfield 79, 3) := by decide +kernel
theorem dX12_feed_55 : decode cX12_feed 55 = .ok (.aload_n 0, 1) := by decide +kernel
theorem dX12_feed_56 : decode cX12_feed 56 = .ok (.getfield 79, 3) := by decide +kernel
theorem dX12_feed_59 : decode cX12_feed 59 = .ok (.ireturn, 1) := by decide +kernel
theorem dX12_next_0 : decode cX12_next 0 = .ok (.aload_n 0, 1) := by decide +kernel
theorem dX12_next_1 : decode cX12_next 1 = .ok (.getfield 86, 3) := by decide +kernel
theorem dX12_next_4 : decode cX12_next 4 = .ok (.aload_n 0, 1) := by decide +kernel
theorem dX12_next_5 : decode cX12_next 5 = .ok (.getfield 79, 3) := by decide +kernel
theorem dX12_next_8 : decode cX12_next 8 = .ok (.if_icmp .ge 15, 3) := by decide +kernel
theorem dX12_next_11 : decode cX12_next 11 = .ok (.aload_n 0, 1) := by decide +kernel
theorem dX12_next_12 : decode cX12_next 12 = .ok (.getfield 31, 3) := by decide +kernel
theorem dX12_next_15 : decode cX12_next 15 = .ok (.aload_n 0, 1) := by decide +kernel
theorem dX12_next_16 : decode cX12_next 16 = .ok (.getfield 86, 3) := by decide +kernel
theorem dX12_next_19 : decode cX12_next 19 = .ok (.iaload, 1) := by decide +kernel
theorem dX12_next_20 : decode cX12_next 20 = .ok (.goto 4, 3) := by decide +kernel
theorem dX12_next_23 : decode cX12_next 23 = .ok (.iconst (-1), 1) := by decide +kernel
theorem dX12_next_24 : decode cX12_next 24 = .ok (.ireturn, 1) := by decide +kernel
theorem dX12_wordOf_0 : decode cX12_wordOf 0 = .ok (.iload_n 0, 1) := by decide +kernel
theorem dX12_wordOf_1 : decode cX12_wordOf 1 = .ok (.bipush 65, 2) := by decide +kernel
theorem dX12_wordOf_3 : decode cX12_wordOf 3 = .ok (.bipush 68, 2) := by decide +kernel
theorem dX12_wordOf_5 : decode cX12_wordOf 5 = .ok (.invokestatic 89, 3) := by decide +kernel
theorem dX12_wordOf_8 : decode cX12_wordOf 8 = .ok (.ifCond .eq 10, 3) := by decide +kernel
theorem dX12_wordOf_11 : decode cX12_wordOf 11 = .ok (.iconst 3, 1) := by decide +kernel
theorem dX12_wordOf_12 : decode cX12_wordOf 12 = .ok (.iload_n 0, 1) := by decide +kernel
theorem dX12_wordOf_13 : decode cX12_wordOf 13 = .ok (.iadd, 1) := by decide +kernel
theorem dX12_wordOf_14 : decode cX12_wordOf 14 = .ok (.bipush 65, 2) := by decide +kernel
theorem dX12_wordOf_16 : decode cX12_wordOf 16 = .ok (.isub, 1) := by decide +kernel
theorem dX12_wordOf_17 : decode cX12_wordOf 17 = .ok (.ireturn, 1) := by decide +kernel
theorem dX12_wordOf_18 : decode cX12_wordOf 18 = .ok (.iload_n 0, 1) := by decide +kernel
theorem dX12_wordOf_19 : decode cX12_wordOf 19 = .ok (.tableswitch 100 97 114 #[94, 100, 100, 100, 100, 100, 100, 100, 100, 100, 100, 100, 100, 91, 97, 85, 87, 89], 85) := by decide +kernel
theorem dX12_wordOf_104 : decode cX12_wordOf 104 = .ok (.iconst 0, 1) := by decide +kernel
theorem dX12_wordOf_105 : decode cX12_wordOf 105 = .ok (.ireturn, 1) := by decide +kernel
theorem dX12_wordOf_106 : decode cX12_wordOf 106 = .ok (.iconst 1, 1) := by decide +kernel
theorem dX12_wordOf_107 : decode cX12_wordOf 107 = .ok (.ireturn, 1) := by decide +kernel
theorem dX12_wordOf_108 : decode cX12_wordOf 108 = .ok (.iconst 2, 1) := by decide +kernel
theorem dX12_wordOf_109 : decode cX12_wordOf 109 = .ok (.ireturn, 1) := by decide +kernel
theorem dX12_wordOf_110 : decode cX12_wordOf 110 = .ok (.bipush 7, 2) := by decide +kernel
theorem dX12_wordOf_112 : decode cX12_wordOf 112 = .ok (.ireturn, 1) := by decide +kernel
theorem dX12_wordOf_113 : decode cX12_wordOf 113 = .ok (.bipush 8, 2) := by decide +kernel
theorem dX12_wordOf_115 : decode cX12_wordOf 115 = .ok (.ireturn, 1) := by decide +kernel
theorem dX12_wordOf_116 : decode cX12_wordOf 116 = .ok (.bipush 9, 2) := by decide +kernel
theorem dX12_wordOf_118 : decode cX12_wordOf 118 = .ok (.ireturn, 1) := by decide +kernel
theorem dX12_wordOf_119 : decode cX12_wordOf 119 = .ok (.iconst (-1), 1) := by decide +kernel
theorem dX12_wordOf_120 : decode cX12_wordOf 120 = .ok (.ireturn, 1) := by decide +kernel
theorem dX12_readsDigit_0 : decode cX12_readsDigit 0 = .ok (.aload_n 0, 1) := by decide +kernel
theorem dX12_readsDigit_1 : decode cX12_readsDigit 1 = .ok (.invokevirtual 93, 3) := by decide +kernel
theorem dX12_readsDigit_4 : decode cX12_readsDigit 4 = .ok (.bipush 48, 2) := by decide +kernel
theorem dX12_readsDigit_6 : decode cX12_readsDigit 6 = .ok (.bipush 57, 2) := by decide +kernel
theorem dX12_readsDigit_8 : decode cX12_readsDigit 8 = .ok (.invokestatic 89, 3) := by decide +kernel
theorem dX12_readsDigit_11 : decode cX12_readsDigit 11 = .ok (.ifCond .ne 5, 3) := by decide +kernel
theorem dX12_readsDigit_14 : decode cX12_readsDigit 14 = .ok (.iconst 0, 1) := by decide +kernel
theorem dX12_readsDigit_15 : decode cX12_readsDigit 15 = .ok (.ireturn, 1) := by decide +kernel
theorem dX12_readsDigit_16 : decode cX12_readsDigit 16 = .ok (.aload_n 0, 1) := by decide +kernel
theorem dX12_readsDigit_17 : decode cX12_readsDigit 17 = .ok (.getfield 40, 3) := by decide +kernel
theorem dX12_readsDigit_20 : decode cX12_readsDigit 20 = .ok (.iload_n 1, 1) := by decide +kernel
theorem dX12_readsDigit_21 : decode cX12_readsDigit 21 = .ok (.aload_n 0, 1) := by decide +kernel
theorem dX12_readsDigit_22 : decode cX12_readsDigit 22 = .ok (.invokevirtual 93, 3) := by decide +kernel
theorem dX12_readsDigit_25 : decode cX12_readsDigit 25 = .ok (.bipush 48, 2) := by decide +kernel
theorem dX12_readsDigit_27 : decode cX12_readsDigit 27 = .ok (.isub, 1) := by decide +kernel
theorem dX12_readsDigit_28 : decode cX12_readsDigit 28 = .ok (.iastore, 1) := by decide +kernel
theorem dX12_readsDigit_29 : decode cX12_readsDigit 29 = .ok (.aload_n 0, 1) := by decide +kernel
theorem dX12_readsDigit_30 : decode cX12_readsDigit 30 = .ok (.dup, 1) := by decide +kernel
theorem dX12_readsDigit_31 : decode cX12_readsDigit 31 = .ok (.getfield 86, 3) := by decide +kernel
theorem dX12_readsDigit_34 : decode cX12_readsDigit 34 = .ok (.iconst 1, 1) := by decide +kernel
theorem dX12_readsDigit_35 : decode cX12_readsDigit 35 = .ok (.iadd, 1) := by decide +kernel
theorem dX12_readsDigit_36 : decode cX12_readsDigit 36 = .ok (.putfield 86, 3) := by decide +kernel
theorem dX12_readsDigit_39 : decode cX12_readsDigit 39 = .ok (.iconst 1, 1) := by decide +kernel
theorem dX12_readsDigit_40 : decode cX12_readsDigit 40 = .ok (.ireturn, 1) := by decide +kernel
theorem dX12_readsName_0 : decode cX12_readsName 0 = .ok (.aload_n 0, 1) := by decide +kernel
theorem dX12_readsName_1 : decode cX12_readsName 1 = .ok (.invokevirtual 93, 3) := by decide +kernel
theorem dX12_readsName_4 : decode cX12_readsName 4 = .ok (.bipush 65, 2) := by decide +kernel
theorem dX12_readsName_6 : decode cX12_readsName 6 = .ok (.bipush 68, 2) := by decide +kernel
theorem dX12_readsName_8 : decode cX12_readsName 8 = .ok (.invokestatic 89, 3) := by decide +kernel
theorem dX12_readsName_11 : decode cX12_readsName 11 = .ok (.ifCond .ne 5, 3) := by decide +kernel
theorem dX12_readsName_14 : decode cX12_readsName 14 = .ok (.iconst 0, 1) := by decide +kernel
theorem dX12_readsName_15 : decode cX12_readsName 15 = .ok (.ireturn, 1) := by decide +kernel
theorem dX12_readsName_16 : decode cX12_readsName 16 = .ok (.aload_n 0, 1) := by decide +kernel
theorem dX12_readsName_17 : decode cX12_readsName 17 = .ok (.getfield 40, 3) := by decide +kernel
theorem dX12_readsName_20 : decode cX12_readsName 20 = .ok (.iload_n 1, 1) := by decide +kernel
theorem dX12_readsName_21 : decode cX12_readsName 21 = .ok (.aload_n 0, 1) := by decide +kernel
theorem dX12_readsName_22 : decode cX12_readsName 22 = .ok (.invokevirtual 93, 3) := by decide +kernel
theorem dX12_readsName_25 : decode cX12_readsName 25 = .ok (.bipush 65, 2) := by decide +kernel
theorem dX12_readsName_27 : decode cX12_readsName 27 = .ok (.isub, 1) := by decide +kernel
theorem dX12_readsName_28 : decode cX12_readsName 28 = .ok (.iastore, 1) := by decide +kernel
theorem dX12_readsName_29 : decode cX12_readsName 29 = .ok (.aload_n 0, 1) := by decide +kernel
theorem dX12_readsName_30 : decode cX12_readsName 30 = .ok (.dup, 1) := by decide +kernel
theorem dX12_readsName_31 : decode cX12_readsName 31 = .ok (.getfield 86, 3) := by decide +kernel
theorem dX12_readsName_34 : decode cX12_readsName 34 = .ok (.iconst 1, 1) := by decide +kernel
theorem dX12_readsName_35 : decode cX12_readsName 35 = .ok (.iadd, 1) := by decide +kernel
theorem dX12_readsName_36 : decode cX12_readsName 36 = .ok (.putfield 86, 3) := by decide +kernel
theorem dX12_readsName_39 : decode cX12_readsName 39 = .ok (.iconst 1, 1) := by decide +kernel
theorem dX12_readsName_40 : decode cX12_readsName 40 = .ok (.ireturn, 1) := by decide +kernel
theorem dX12_readsSaying_0 : decode cX12_readsSaying 0 = .ok (.aload_n 0, 1) := by decide +kernel
theorem dX12_readsSaying_1 : decode cX12_readsSaying 1 = .ok (.getfield 43, 3) := by decide +kernel
theorem dX12_readsSaying_4 : decode cX12_readsSaying 4 = .ok (.aload_n 0, 1) := by decide +kernel
theorem dX12_readsSaying_5 : decode cX12_readsSaying 5 = .ok (.getfield 97, 3) := by decide +kernel
theorem dX12_readsSaying_8 : decode cX12_readsSaying 8 = .ok (.aload_n 0, 1) := by decide +kernel
theorem dX12_readsSaying_9 : decode cX12_readsSaying 9 = .ok (.getfield 86, 3) := by decide +kernel
theorem dX12_readsSaying_12 : decode cX12_readsSaying 12 = .ok (.iastore, 1) := by decide +kernel
theorem dX12_readsSaying_13 : decode cX12_readsSaying 13 = .ok (.iconst 1, 1) := by decide +kernel
theorem dX12_readsSaying_14 : decode cX12_readsSaying 14 = .ok (.istore_n 1, 1) := by decide +kernel
theorem dX12_readsSaying_15 : decode cX12_readsSaying 15 = .ok (.iload_n 1, 1) := by decide +kernel
theorem dX12_readsSaying_16 : decode cX12_readsSaying 16 = .ok (.ifCond .le 73, 3) := by decide +kernel
theorem dX12_readsSaying_19 : decode cX12_readsSaying 19 = .ok (.aload_n 0, 1) := by decide +kernel
theorem dX12_readsSaying_20 : decode cX12_readsSaying 20 = .ok (.invokevirtual 93, 3) := by decide +kernel
theorem dX12_readsSaying_23 : decode cX12_readsSaying 23 = .ok (.invokestatic 100, 3) := by decide +kernel
theorem dX12_readsSaying_26 : decode cX12_readsSaying 26 = .ok (.istore_n 2, 1) := by decide +kernel
theorem dX12_readsSaying_27 : decode cX12_readsSaying 27 = .ok (.iload_n 2, 1) := by decide +kernel
theorem dX12_readsSaying_28 : decode cX12_readsSaying 28 = .ok (.ifCond .lt 22, 3) := by decide +kernel
theorem dX12_readsSaying_31 : decode cX12_readsSaying 31 = .ok (.aload_n 0, 1) := by decide +kernel
theorem dX12_readsSaying_32 : decode cX12_readsSaying 32 = .ok (.getfield 86, 3) := by decide +kernel
theorem dX12_readsSaying_35 : decode cX12_readsSaying 35 = .ok (.aload_n 0, 1) := by decide +kernel
theorem dX12_readsSaying_36 : decode cX12_readsSaying 36 = .ok (.getfield 43, 3) := by decide +kernel
theorem dX12_readsSaying_39 : decode cX12_readsSaying 39 = .ok (.aload_n 0, 1) := by decide +kernel
theorem dX12_readsSaying_40 : decode cX12_readsSaying 40 = .ok (.getfield 97, 3) := by decide +kernel
theorem dX12_readsSaying_43 : decode cX12_readsSaying 43 = .ok (.iaload, 1) := by decide +kernel
theorem dX12_readsSaying_44 : decode cX12_readsSaying 44 = .ok (.isub, 1) := by decide +kernel
theorem dX12_readsSaying_45 : decode cX12_readsSaying 45 = .ok (.bipush 20, 2) := by decide +kernel
theorem dX12_readsSaying_47 : decode cX12_readsSaying 47 = .ok (.if_icmp .ne 5, 3) := by decide +kernel
end
section
theorem dX12_readsSaying_50 : decode cX12_readsSaying 50 = .ok (.iconst 0, 1) := by decide +kernel
theorem dX12_readsSaying_51 : decode cX12_readsSaying 51 = .ok (.ireturn, 1) := by decide +kernel
theorem dX12_readsSaying_52 : decode cX12_readsSaying 52 = .ok (.iload_n 1, 1) := by decide +kernel
theorem dX12_readsSaying_53 : decode cX12_readsSaying 53 = .ok (.iload_n 2, 1) := by decide +kernel
theorem dX12_readsSaying_54 : decode cX12_readsSaying 54 = .ok (.bipush 7, 2) := by decide +kernel
theorem dX12_readsSaying_56 : decode cX12_readsSaying 56 = .ok (.if_icmp .ne 7, 3) := by decide +kernel
theorem dX12_readsSaying_59 : decode cX12_readsSaying 59 = .ok (.iconst 0, 1) := by decide +kernel
theorem dX12_readsSaying_60 : decode cX12_readsSaying 60 = .ok (.goto 14, 3) := by decide +kernel
theorem dX12_readsSaying_63 : decode cX12_readsSaying 63 = .ok (.iload_n 2, 1) := by decide +kernel
theorem dX12_readsSaying_64 : decode cX12_readsSaying 64 = .ok (.bipush 7, 2) := by decide +kernel
theorem dX12_readsSaying_66 : decode cX12_readsSaying 66 = .ok (.if_icmp .le 7, 3) := by decide +kernel
theorem dX12_readsSaying_69 : decode cX12_readsSaying 69 = .ok (.iconst 1, 1) := by decide +kernel
theorem dX12_readsSaying_70 : decode cX12_readsSaying 70 = .ok (.goto 4, 3) := by decide +kernel
theorem dX12_readsSaying_73 : decode cX12_readsSaying 73 = .ok (.iconst (-1), 1) := by decide +kernel
theorem dX12_readsSaying_74 : decode cX12_readsSaying 74 = .ok (.iadd, 1) := by decide +kernel
theorem dX12_readsSaying_75 : decode cX12_readsSaying 75 = .ok (.istore_n 1, 1) := by decide +kernel
theorem dX12_readsSaying_76 : decode cX12_readsSaying 76 = .ok (.aload_n 0, 1) := by decide +kernel
theorem dX12_readsSaying_77 : decode cX12_readsSaying 77 = .ok (.dup, 1) := by decide +kernel
theorem dX12_readsSaying_78 : decode cX12_readsSaying 78 = .ok (.getfield 86, 3) := by decide +kernel
theorem dX12_readsSaying_81 : decode cX12_readsSaying 81 = .ok (.iconst 1, 1) := by decide +kernel
theorem dX12_readsSaying_82 : decode cX12_readsSaying 82 = .ok (.iadd, 1) := by decide +kernel
theorem dX12_readsSaying_83 : decode cX12_readsSaying 83 = .ok (.putfield 86, 3) := by decide +kernel
theorem dX12_readsSaying_86 : decode cX12_readsSaying 86 = .ok (.goto (-71), 3) := by decide +kernel
theorem dX12_readsSaying_89 : decode cX12_readsSaying 89 = .ok (.aload_n 0, 1) := by decide +kernel
theorem dX12_readsSaying_90 : decode cX12_readsSaying 90 = .ok (.getfield 46, 3) := by decide +kernel
theorem dX12_readsSaying_93 : decode cX12_readsSaying 93 = .ok (.aload_n 0, 1) := by decide +kernel
theorem dX12_readsSaying_94 : decode cX12_readsSaying 94 = .ok (.getfield 97, 3) := by decide +kernel
theorem dX12_readsSaying_97 : decode cX12_readsSaying 97 = .ok (.aload_n 0, 1) := by decide +kernel
theorem dX12_readsSaying_98 : decode cX12_readsSaying 98 = .ok (.getfield 86, 3) := by decide +kernel
theorem dX12_readsSaying_101 : decode cX12_readsSaying 101 = .ok (.iastore, 1) := by decide +kernel
theorem dX12_readsSaying_102 : decode cX12_readsSaying 102 = .ok (.iconst 1, 1) := by decide +kernel
theorem dX12_readsSaying_103 : decode cX12_readsSaying 103 = .ok (.ireturn, 1) := by decide +kernel
theorem dX12_readsAll_0 : decode cX12_readsAll 0 = .ok (.iload_n 1, 1) := by decide +kernel
theorem dX12_readsAll_1 : decode cX12_readsAll 1 = .ok (.lookupswitch 85 #[(99, 64), (104, 59), (115, 35)], 35) := by decide +kernel
theorem dX12_readsAll_36 : decode cX12_readsAll 36 = .ok (.aload_n 0, 1) := by decide +kernel
theorem dX12_readsAll_37 : decode cX12_readsAll 37 = .ok (.iload_n 2, 1) := by decide +kernel
theorem dX12_readsAll_38 : decode cX12_readsAll 38 = .ok (.invokevirtual 103, 3) := by decide +kernel
theorem dX12_readsAll_41 : decode cX12_readsAll 41 = .ok (.ifCond .eq 17, 3) := by decide +kernel
theorem dX12_readsAll_44 : decode cX12_readsAll 44 = .ok (.aload_n 0, 1) := by decide +kernel
theorem dX12_readsAll_45 : decode cX12_readsAll 45 = .ok (.iload_n 2, 1) := by decide +kernel
theorem dX12_readsAll_46 : decode cX12_readsAll 46 = .ok (.iconst 1, 1) := by decide +kernel
theorem dX12_readsAll_47 : decode cX12_readsAll 47 = .ok (.iadd, 1) := by decide +kernel
theorem dX12_readsAll_48 : decode cX12_readsAll 48 = .ok (.invokevirtual 103, 3) := by decide +kernel
theorem dX12_readsAll_51 : decode cX12_readsAll 51 = .ok (.ifCond .eq 7, 3) := by decide +kernel
theorem dX12_readsAll_54 : decode cX12_readsAll 54 = .ok (.iconst 1, 1) := by decide +kernel
theorem dX12_readsAll_55 : decode cX12_readsAll 55 = .ok (.goto 4, 3) := by decide +kernel
theorem dX12_readsAll_58 : decode cX12_readsAll 58 = .ok (.iconst 0, 1) := by decide +kernel
theorem dX12_readsAll_59 : decode cX12_readsAll 59 = .ok (.ireturn, 1) := by decide +kernel
theorem dX12_readsAll_60 : decode cX12_readsAll 60 = .ok (.aload_n 0, 1) := by decide +kernel
theorem dX12_readsAll_61 : decode cX12_readsAll 61 = .ok (.invokevirtual 107, 3) := by decide +kernel
theorem dX12_readsAll_64 : decode cX12_readsAll 64 = .ok (.ireturn, 1) := by decide +kernel
theorem dX12_readsAll_65 : decode cX12_readsAll 65 = .ok (.aload_n 0, 1) := by decide +kernel
theorem dX12_readsAll_66 : decode cX12_readsAll 66 = .ok (.iload_n 2, 1) := by decide +kernel
theorem dX12_readsAll_67 : decode cX12_readsAll 67 = .ok (.invokevirtual 111, 3) := by decide +kernel
theorem dX12_readsAll_70 : decode cX12_readsAll 70 = .ok (.ifCond .eq 14, 3) := by decide +kernel
theorem dX12_readsAll_73 : decode cX12_readsAll 73 = .ok (.aload_n 0, 1) := by decide +kernel
theorem dX12_readsAll_74 : decode cX12_readsAll 74 = .ok (.invokevirtual 107, 3) := by decide +kernel
theorem dX12_readsAll_77 : decode cX12_readsAll 77 = .ok (.ifCond .eq 7, 3) := by decide +kernel
theorem dX12_readsAll_80 : decode cX12_readsAll 80 = .ok (.iconst 1, 1) := by decide +kernel
theorem dX12_readsAll_81 : decode cX12_readsAll 81 = .ok (.goto 4, 3) := by decide +kernel
theorem dX12_readsAll_84 : decode cX12_readsAll 84 = .ok (.iconst 0, 1) := by decide +kernel
theorem dX12_readsAll_85 : decode cX12_readsAll 85 = .ok (.ireturn, 1) := by decide +kernel
theorem dX12_readsAll_86 : decode cX12_readsAll 86 = .ok (.aload_n 0, 1) := by decide +kernel
theorem dX12_readsAll_87 : decode cX12_readsAll 87 = .ok (.iload_n 2, 1) := by decide +kernel
theorem dX12_readsAll_88 : decode cX12_readsAll 88 = .ok (.invokevirtual 103, 3) := by decide +kernel
theorem dX12_readsAll_91 : decode cX12_readsAll 91 = .ok (.ifCond .eq 17, 3) := by decide +kernel
theorem dX12_readsAll_94 : decode cX12_readsAll 94 = .ok (.aload_n 0, 1) := by decide +kernel
theorem dX12_readsAll_95 : decode cX12_readsAll 95 = .ok (.iload_n 2, 1) := by decide +kernel
theorem dX12_readsAll_96 : decode cX12_readsAll 96 = .ok (.iconst 1, 1) := by decide +kernel
theorem dX12_readsAll_97 : decode cX12_readsAll 97 = .ok (.iadd, 1) := by decide +kernel
theorem dX12_readsAll_98 : decode cX12_readsAll 98 = .ok (.invokevirtual 111, 3) := by decide +kernel
theorem dX12_readsAll_101 : decode cX12_readsAll 101 = .ok (.ifCond .eq 7, 3) := by decide +kernel
theorem dX12_readsAll_104 : decode cX12_readsAll 104 = .ok (.iconst 1, 1) := by decide +kernel
theorem dX12_readsAll_105 : decode cX12_readsAll 105 = .ok (.goto 4, 3) := by decide +kernel
theorem dX12_readsAll_108 : decode cX12_readsAll 108 = .ok (.iconst 0, 1) := by decide +kernel
theorem dX12_readsAll_109 : decode cX12_readsAll 109 = .ok (.ireturn, 1) := by decide +kernel
theorem dX12_statement_0 : decode cX12_statement 0 = .ok (.aload_n 0, 1) := by decide +kernel
theorem dX12_statement_1 : decode cX12_statement 1 = .ok (.invokevirtual 93, 3) := by decide +kernel
theorem dX12_statement_4 : decode cX12_statement 4 = .ok (.istore_n 1, 1) := by decide +kernel
theorem dX12_statement_5 : decode cX12_statement 5 = .ok (.iload_n 1, 1) := by decide +kernel
theorem dX12_statement_6 : decode cX12_statement 6 = .ok (.bipush 115, 2) := by decide +kernel
theorem dX12_statement_8 : decode cX12_statement 8 = .ok (.if_icmp .eq 23, 3) := by decide +kernel
theorem dX12_statement_11 : decode cX12_statement 11 = .ok (.iload_n 1, 1) := by decide +kernel
theorem dX12_statement_12 : decode cX12_statement 12 = .ok (.bipush 104, 2) := by decide +kernel
theorem dX12_statement_14 : decode cX12_statement 14 = .ok (.if_icmp .eq 17, 3) := by decide +kernel
theorem dX12_statement_17 : decode cX12_statement 17 = .ok (.iload_n 1, 1) := by decide +kernel
theorem dX12_statement_18 : decode cX12_statement 18 = .ok (.bipush 99, 2) := by decide +kernel
theorem dX12_statement_20 : decode cX12_statement 20 = .ok (.if_icmp .eq 11, 3) := by decide +kernel
theorem dX12_statement_23 : decode cX12_statement 23 = .ok (.iload_n 1, 1) := by decide +kernel
theorem dX12_statement_24 : decode cX12_statement 24 = .ok (.bipush 108, 2) := by decide +kernel
theorem dX12_statement_26 : decode cX12_statement 26 = .ok (.if_icmp .eq 5, 3) := by decide +kernel
theorem dX12_statement_29 : decode cX12_statement 29 = .ok (.iconst 0, 1) := by decide +kernel
theorem dX12_statement_30 : decode cX12_statement 30 = .ok (.ireturn, 1) := by decide +kernel
theorem dX12_statement_31 : decode cX12_statement 31 = .ok (.aload_n 0, 1) := by decide +kernel
theorem dX12_statement_32 : decode cX12_statement 32 = .ok (.getfield 34, 3) := by decide +kernel
theorem dX12_statement_35 : decode cX12_statement 35 = .ok (.aload_n 0, 1) := by decide +kernel
theorem dX12_statement_36 : decode cX12_statement 36 = .ok (.getfield 97, 3) := by decide +kernel
theorem dX12_statement_39 : decode cX12_statement 39 = .ok (.iload_n 1, 1) := by decide +kernel
theorem dX12_statement_40 : decode cX12_statement 40 = .ok (.iastore, 1) := by decide +kernel
theorem dX12_statement_41 : decode cX12_statement 41 = .ok (.aload_n 0, 1) := by decide +kernel
theorem dX12_statement_42 : decode cX12_statement 42 = .ok (.getfield 37, 3) := by decide +kernel
theorem dX12_statement_45 : decode cX12_statement 45 = .ok (.aload_n 0, 1) := by decide +kernel
theorem dX12_statement_46 : decode cX12_statement 46 = .ok (.getfield 97, 3) := by decide +kernel
theorem dX12_statement_49 : decode cX12_statement 49 = .ok (.aload_n 0, 1) := by decide +kernel
theorem dX12_statement_50 : decode cX12_statement 50 = .ok (.getfield 86, 3) := by decide +kernel
theorem dX12_statement_53 : decode cX12_statement 53 = .ok (.iastore, 1) := by decide +kernel
theorem dX12_statement_54 : decode cX12_statement 54 = .ok (.aload_n 0, 1) := by decide +kernel
theorem dX12_statement_55 : decode cX12_statement 55 = .ok (.dup, 1) := by decide +kernel
theorem dX12_statement_56 : decode cX12_statement 56 = .ok (.getfield 86, 3) := by decide +kernel
theorem dX12_statement_59 : decode cX12_statement 59 = .ok (.iconst 1, 1) := by decide +kernel
theorem dX12_statement_60 : decode cX12_statement 60 = .ok (.iadd, 1) := by decide +kernel
theorem dX12_statement_61 : decode cX12_statement 61 = .ok (.putfield 86, 3) := by decide +kernel
theorem dX12_statement_64 : decode cX12_statement 64 = .ok (.aload_n 0, 1) := by decide +kernel
theorem dX12_statement_65 : decode cX12_statement 65 = .ok (.iload_n 1, 1) := by decide +kernel
theorem dX12_statement_66 : decode cX12_statement 66 = .ok (.iconst 2, 1) := by decide +kernel
theorem dX12_statement_67 : decode cX12_statement 67 = .ok (.aload_n 0, 1) := by decide +kernel
theorem dX12_statement_68 : decode cX12_statement 68 = .ok (.getfield 97, 3) := by decide +kernel
theorem dX12_statement_71 : decode cX12_statement 71 = .ok (.imul, 1) := by decide +kernel
theorem dX12_statement_72 : decode cX12_statement 72 = .ok (.invokevirtual 114, 3) := by decide +kernel
theorem dX12_statement_75 : decode cX12_statement 75 = .ok (.ifCond .eq 12, 3) := by decide +kernel
theorem dX12_statement_78 : decode cX12_statement 78 = .ok (.aload_n 0, 1) := by decide +kernel
theorem dX12_statement_79 : decode cX12_statement 79 = .ok (.invokevirtual 93, 3) := by decide +kernel
theorem dX12_statement_82 : decode cX12_statement 82 = .ok (.bipush 59, 2) := by decide +kernel
theorem dX12_statement_84 : decode cX12_statement 84 = .ok (.if_icmp .eq 5, 3) := by decide +kernel
theorem dX12_statement_87 : decode cX12_statement 87 = .ok (.iconst 0, 1) := by decide +kernel
theorem dX12_statement_88 : decode cX12_statement 88 = .ok (.ireturn, 1) := by decide +kernel
theorem dX12_statement_89 : decode cX12_statement 89 = .ok (.aload_n 0, 1) := by decide +kernel
theorem dX12_statement_90 : decode cX12_statement 90 = .ok (.dup, 1) := by decide +kernel
theorem dX12_statement_91 : decode cX12_statement 91 = .ok (.getfield 86, 3) := by decide +kernel
theorem dX12_statement_94 : decode cX12_statement 94 = .ok (.iconst 1, 1) := by decide +kernel
theorem dX12_statement_95 : decode cX12_statement 95 = .ok (.iadd, 1) := by decide +kernel
theorem dX12_statement_96 : decode cX12_statement 96 = .ok (.putfield 86, 3) := by decide +kernel
theorem dX12_statement_99 : decode cX12_statement 99 = .ok (.iconst 1, 1) := by decide +kernel
theorem dX12_statement_100 : decode cX12_statement 100 = .ok (.ireturn, 1) := by decide +kernel
theorem dX12_lays_0 : decode cX12_lays 0 = .ok (.aload_n 0, 1) := by decide +kernel
theorem dX12_lays_1 : decode cX12_lays 1 = .ok (.aload_n 0, 1) := by decide +kernel
theorem dX12_lays_2 : decode cX12_lays 2 = .ok (.getfield 46, 3) := by decide +kernel
theorem dX12_lays_5 : decode cX12_lays 5 = .ok (.iload_n 1, 1) := by decide +kernel
theorem dX12_lays_6 : decode cX12_lays 6 = .ok (.iaload, 1) := by decide +kernel
theorem dX12_lays_7 : decode cX12_lays 7 = .ok (.aload_n 0, 1) := by decide +kernel
theorem dX12_lays_8 : decode cX12_lays 8 = .ok (.getfield 43, 3) := by decide +kernel
theorem dX12_lays_11 : decode cX12_lays 11 = .ok (.iload_n 1, 1) := by decide +kernel
theorem dX12_lays_12 : decode cX12_lays 12 = .ok (.iaload, 1) := by decide +kernel
theorem dX12_lays_13 : decode cX12_lays 13 = .ok (.isub, 1) := by decide +kernel
theorem dX12_lays_14 : decode cX12_lays 14 = .ok (.putfield 118, 3) := by decide +kernel
theorem dX12_lays_17 : decode cX12_lays 17 = .ok (.iconst 0, 1) := by decide +kernel
theorem dX12_lays_18 : decode cX12_lays 18 = .ok (.istore_n 2, 1) := by decide +kernel
theorem dX12_lays_19 : decode cX12_lays 19 = .ok (.iload_n 2, 1) := by decide +kernel
theorem dX12_lays_20 : decode cX12_lays 20 = .ok (.aload_n 0, 1) := by decide +kernel
theorem dX12_lays_21 : decode cX12_lays 21 = .ok (.getfield 118, 3) := by decide +kernel
theorem dX12_lays_24 : decode cX12_lays 24 = .ok (.if_icmp .ge 31, 3) := by decide +kernel
theorem dX12_lays_27 : decode cX12_lays 27 = .ok (.aload_n 0, 1) := by decide +kernel
theorem dX12_lays_28 : decode cX12_lays 28 = .ok (.getfield 52, 3) := by decide +kernel
theorem dX12_lays_31 : decode cX12_lays 31 = .ok (.iload_n 2, 1) := by decide +kernel
theorem dX12_lays_32 : decode cX12_lays 32 = .ok (.aload_n 0, 1) := by decide +kernel
theorem dX12_lays_33 : decode cX12_lays 33 = .ok (.getfield 31, 3) := by decide +kernel
theorem dX12_lays_36 : decode cX12_lays 36 = .ok (.aload_n 0, 1) := by decide +kernel
theorem dX12_lays_37 : decode cX12_lays 37 = .ok (.getfield 43, 3) := by decide +kernel
theorem dX12_lays_40 : decode cX12_lays 40 = .ok (.iload_n 1, 1) := by decide +kernel
theorem dX12_lays_41 : decode cX12_lays 41 = .ok (.iaload, 1) := by decide +kernel
theorem dX12_lays_42 : decode cX12_lays 42 = .ok (.iload_n 2, 1) := by decide +kernel
theorem dX12_lays_43 : decode cX12_lays 43 = .ok (.iadd, 1) := by decide +kernel
theorem dX12_lays_44 : decode cX12_lays 44 = .ok (.iaload, 1) := by decide +kernel
theorem dX12_lays_45 : decode cX12_lays 45 = .ok (.invokestatic 100, 3) := by decide +kernel
theorem dX12_lays_48 : decode cX12_lays 48 = .ok (.iastore, 1) := by decide +kernel
theorem dX12_lays_49 : decode cX12_lays 49 = .ok (.iinc 2 1, 3) := by decide +kernel
theorem dX12_lays_52 : decode cX12_lays 52 = .ok (.goto (-33), 3) := by decide +kernel
theorem dX12_lays_55 : decode cX12_lays 55 = .ok (.return_, 1) := by decide +kernel
theorem dX12_comes_0 : decode cX12_comes 0 = .ok (.aload_n 0, 1) := by decide +kernel
theorem dX12_comes_1 : decode cX12_comes 1 = .ok (.getfield 40, 3) := by decide +kernel
theorem dX12_comes_4 : decode cX12_comes 4 = .ok (.iconst 2, 1) := by decide +kernel
theorem dX12_comes_5 : decode cX12_comes 5 = .ok (.iload_n 1, 1) := by decide +kernel
theorem dX12_comes_6 : decode cX12_comes 6 = .ok (.imul, 1) := by decide +kernel
theorem dX12_comes_7 : decode cX12_comes 7 = .ok (.iaload, 1) := by decide +kernel
theorem dX12_comes_8 : decode cX12_comes 8 = .ok (.istore_n 2, 1) := by decide +kernel
theorem dX12_comes_9 : decode cX12_comes 9 = .ok (.aload_n 0, 1) := by decide +kernel
theorem dX12_comes_10 : decode cX12_comes 10 = .ok (.getfield 40, 3) := by decide +kernel
theorem dX12_comes_13 : decode cX12_comes 13 = .ok (.iconst 2, 1) := by decide +kernel
theorem dX12_comes_14 : decode cX12_comes 14 = .ok (.iload_n 1, 1) := by decide +kernel
theorem dX12_comes_15 : decode cX12_comes 15 = .ok (.imul, 1) := by decide +kernel
theorem dX12_comes_16 : decode cX12_comes 16 = .ok (.iconst 1, 1) := by decide +kernel
theorem dX12_comes_17 : decode cX12_comes 17 = .ok (.iadd, 1) := by decide +kernel
theorem dX12_comes_18 : decode cX12_comes 18 = .ok (.iaload, 1) := by decide +kernel
theorem dX12_comes_19 : decode cX12_comes 19 = .ok (.istore_n 3, 1) := by decide +kernel
theorem dX12_comes_20 : decode cX12_comes 20 = .ok (.aload_n 0, 1) := by decide +kernel
theorem dX12_comes_21 : decode cX12_comes 21 = .ok (.getfield 34, 3) := by decide +kernel
theorem dX12_comes_24 : decode cX12_comes 24 = .ok (.iload_n 1, 1) := by decide +kernel
theorem dX12_comes_25 : decode cX12_comes 25 = .ok (.iaload, 1) := by decide +kernel
theorem dX12_comes_26 : decode cX12_comes 26 = .ok (.lookupswitch 190 #[(99, 172), (104, 91), (115, 34)], 34) := by decide +kernel
theorem dX12_comes_60 : decode cX12_comes 60 = .ok (.iload_n 2, 1) := by decide +kernel
theorem dX12_comes_61 : decode cX12_comes 61 = .ok (.iconst 5, 1) := by decide +kernel
theorem dX12_comes_62 : decode cX12_comes 62 = .ok (.if_icmp .gt 11, 3) := by decide +kernel
theorem dX12_comes_65 : decode cX12_comes 65 = .ok (.aload_n 0, 1) := by decide +kernel
theorem dX12_comes_66 : decode cX12_comes 66 = .ok (.getfield 68, 3) := by decide +kernel
theorem dX12_comes_69 : decode cX12_comes 69 = .ok (.iconst 5, 1) := by decide +kernel
theorem dX12_comes_70 : decode cX12_comes 70 = .ok (.if_icmp .ne 5, 3) := by decide +kernel
theorem dX12_comes_73 : decode cX12_comes 73 = .ok (.iconst 0, 1) := by decide +kernel
theorem dX12_comes_74 : decode cX12_comes 74 = .ok (.ireturn, 1) := by decide +kernel
theorem dX12_comes_75 : decode cX12_comes 75 = .ok (.aload_n 0, 1) := by decide +kernel
theorem dX12_comes_76 : decode cX12_comes 76 = .ok (.getfield 13, 3) := by decide +kernel
theorem dX12_comes_79 : decode cX12_comes 79 = .ok (.aload_n 0, 1) := by decide +kernel
theorem dX12_comes_80 : decode cX12_comes 80 = .ok (.getfield 68, 3) := by decide +kernel
theorem dX12_comes_83 : decode cX12_comes 83 = .ok (.iload_n 2, 1) := by decide +kernel
theorem dX12_comes_84 : decode cX12_comes 84 = .ok (.iastore, 1) := by decide +kernel
theorem dX12_comes_85 : decode cX12_comes 85 = .ok (.aload_n 0, 1) := by decide +kernel
theorem dX12_comes_86 : decode cX12_comes 86 = .ok (.getfield 16, 3) := by decide +kernel
theorem dX12_comes_89 : decode cX12_comes 89 = .ok (.aload_n 0, 1) := by decide +kernel
theorem dX12_comes_90 : decode cX12_comes 90 = .ok (.getfield 68, 3) := by decide +kernel
theorem dX12_comes_93 : decode cX12_comes 93 = .ok (.iload_n 3, 1) := by decide +kernel
theorem dX12_comes_94 : decode cX12_comes 94 = .ok (.iastore, 1) := by decide +kernel
theorem dX12_comes_95 : decode cX12_comes 95 = .ok (.aload_n 0, 1) := by decide +kernel
theorem dX12_comes_96 : decode cX12_comes 96 = .ok (.getfield 19, 3) := by decide +kernel
theorem dX12_comes_99 : decode cX12_comes 99 = .ok (.aload_n 0, 1) := by decide +kernel
theorem dX12_comes_100 : decode cX12_comes 100 = .ok (.getfield 68, 3) := by decide +kernel
theorem dX12_comes_103 : decode cX12_comes 103 = .ok (.iconst 0, 1) := by decide +kernel
theorem dX12_comes_104 : decode cX12_comes 104 = .ok (.iastore, 1) := by decide +kernel
theorem dX12_comes_105 : decode cX12_comes 105 = .ok (.aload_n 0, 1) := by decide +kernel
theorem dX12_comes_106 : decode cX12_comes 106 = .ok (.dup, 1) := by decide +kernel
theorem dX12_comes_107 : decode cX12_comes 107 = .ok (.getfield 68, 3) := by decide +kernel
theorem dX12_comes_110 : decode cX12_comes 110 = .ok (.iconst 1, 1) := by decide +kernel
theorem dX12_comes_111 : decode cX12_comes 111 = .ok (.iadd, 1) := by decide +kernel
theorem dX12_comes_112 : decode cX12_comes 112 = .ok (.putfield 68, 3) := by decide +kernel
theorem dX12_comes_115 : decode cX12_comes 115 = .ok (.iconst 1, 1) := by decide +kernel
theorem dX12_comes_116 : decode cX12_comes 116 = .ok (.ireturn, 1) := by decide +kernel
theorem dX12_comes_117 : decode cX12_comes 117 = .ok (.aload_n 0, 1) := by decide +kernel
theorem dX12_comes_118 : decode cX12_comes 118 = .ok (.getfield 72, 3) := by decide +kernel
theorem dX12_comes_121 : decode cX12_comes 121 = .ok (.bipush 6, 2) := by decide +kernel
theorem dX12_comes_123 : decode cX12_comes 123 = .ok (.if_icmp .ne 5, 3) := by decide +kernel
theorem dX12_comes_126 : decode cX12_comes 126 = .ok (.iconst 0, 1) := by decide +kernel
theorem dX12_comes_127 : decode cX12_comes 127 = .ok (.ireturn, 1) := by decide +kernel
theorem dX12_comes_128 : decode cX12_comes 128 = .ok (.aload_n 0, 1) := by decide +kernel
theorem dX12_comes_129 : decode cX12_comes 129 = .ok (.iload_n 1, 1) := by decide +kernel
theorem dX12_comes_130 : decode cX12_comes 130 = .ok (.invokevirtual 121, 3) := by decide +kernel
theorem dX12_comes_133 : decode cX12_comes 133 = .ok (.aload_n 0, 1) := by decide +kernel
theorem dX12_comes_134 : decode cX12_comes 134 = .ok (.getfield 25, 3) := by decide +kernel
theorem dX12_comes_137 : decode cX12_comes 137 = .ok (.aload_n 0, 1) := by decide +kernel
theorem dX12_comes_138 : decode cX12_comes 138 = .ok (.getfield 72, 3) := by decide +kernel
theorem dX12_comes_141 : decode cX12_comes 141 = .ok (.aload_n 0, 1) := by decide +kernel
theorem dX12_comes_142 : decode cX12_comes 142 = .ok (.getfield 118, 3) := by decide +kernel
theorem dX12_comes_145 : decode cX12_comes 145 = .ok (.iastore, 1) := by decide +kernel
theorem dX12_comes_146 : decode cX12_comes 146 = .ok (.iconst 0, 1) := by decide +kernel
theorem dX12_comes_147 : decode cX12_comes 147 = .ok (.istore 4, 2) := by decide +kernel
theorem dX12_comes_149 : decode cX12_comes 149 = .ok (.iload 4, 2) := by decide +kernel
theorem dX12_comes_151 : decode cX12_comes 151 = .ok (.aload_n 0, 1) := by decide +kernel
theorem dX12_comes_152 : decode cX12_comes 152 = .ok (.getfield 118, 3) := by decide +kernel
theorem dX12_comes_155 : decode cX12_comes 155 = .ok (.if_icmp .ge 31, 3) := by decide +kernel
theorem dX12_comes_158 : decode cX12_comes 158 = .ok (.aload_n 0, 1) := by decide +kernel
theorem dX12_comes_159 : decode cX12_comes 159 = .ok (.getfield 28, 3) := by decide +kernel
theorem dX12_comes_162 : decode cX12_comes 162 = .ok (.bipush 20, 2) := by decide +kernel
theorem dX12_comes_164 : decode cX12_comes 164 = .ok (.aload_n 0, 1) := by decide +kernel
theorem dX12_comes_165 : decode cX12_comes 165 = .ok (.getfield 72, 3) := by decide +kernel
theorem dX12_comes_168 : decode cX12_comes 168 = .ok (.imul, 1) := by decide +kernel
theorem dX12_comes_169 : decode cX12_comes 169 = .ok (.iload 4, 2) := by decide +kernel
theorem dX12_comes_171 : decode cX12_comes 171 = .ok (.iadd, 1) := by decide +kernel
theorem dX12_comes_172 : decode cX12_comes 172 = .ok (.aload_n 0, 1) := by decide +kernel
theorem dX12_comes_173 : decode cX12_comes 173 = .ok (.getfield 52, 3) := by decide +kernel
theorem dX12_comes_176 : decode cX12_comes 176 = .ok (.iload 4, 2) := by decide +kernel
theorem dX12_comes_178 : decode cX12_comes 178 = .ok (.iaload, 1) := by decide +kernel
theorem dX12_comes_179 : decode cX12_comes 179 = .ok (.iastore, 1) := by decide +kernel
theorem dX12_comes_180 : decode cX12_comes 180 = .ok (.iinc 4 1, 3) := by decide +kernel
theorem dX12_comes_183 : decode cX12_comes 183 = .ok (.goto (-34), 3) := by decide +kernel
theorem dX12_comes_186 : decode cX12_comes 186 = .ok (.aload_n 0, 1) := by decide +kernel
theorem dX12_comes_187 : decode cX12_comes 187 = .ok (.dup, 1) := by decide +kernel
theorem dX12_comes_188 : decode cX12_comes 188 = .ok (.getfield 72, 3) := by decide +kernel
theorem dX12_comes_191 : decode cX12_comes 191 = .ok (.iconst 1, 1) := by decide +kernel
theorem dX12_comes_192 : decode cX12_comes 192 = .ok (.iadd, 1) := by decide +kernel
theorem dX12_comes_193 : decode cX12_comes 193 = .ok (.putfield 72, 3) := by decide +kernel
theorem dX12_comes_196 : decode cX12_comes 196 = .ok (.iconst 1, 1) := by decide +kernel
theorem dX12_comes_197 : decode cX12_comes 197 = .ok (.ireturn, 1) := by decide +kernel
theorem dX12_comes_198 : decode cX12_comes 198 = .ok (.aload_n 0, 1) := by decide +kernel
theorem dX12_comes_199 : decode cX12_comes 199 = .ok (.iload_n 1, 1) := by decide +kernel
theorem dX12_comes_200 : decode cX12_comes 200 = .ok (.invokevirtual 121, 3) := by decide +kernel
theorem dX12_comes_203 : decode cX12_comes 203 = .ok (.aload_n 0, 1) := by decide +kernel
theorem dX12_comes_204 : decode cX12_comes 204 = .ok (.getfield 22, 3) := by decide +kernel
theorem dX12_comes_207 : decode cX12_comes 207 = .ok (.iload_n 2, 1) := by decide +kernel
theorem dX12_comes_208 : decode cX12_comes 208 = .ok (.aload_n 0, 1) := by decide +kernel
theorem dX12_comes_209 : decode cX12_comes 209 = .ok (.iconst (-1), 1) := by decide +kernel
theorem dX12_comes_210 : decode cX12_comes 210 = .ok (.invokevirtual 125, 3) := by decide +kernel
theorem dX12_comes_213 : decode cX12_comes 213 = .ok (.iastore, 1) := by decide +kernel
theorem dX12_comes_214 : decode cX12_comes 214 = .ok (.iconst 1, 1) := by decide +kernel
theorem dX12_comes_215 : decode cX12_comes 215 = .ok (.ireturn, 1) := by decide +kernel
theorem dX12_comes_216 : decode cX12_comes 216 = .ok (.aload_n 0, 1) := by decide +kernel
theorem dX12_comes_217 : decode cX12_comes 217 = .ok (.iload_n 2, 1) := by decide +kernel
theorem dX12_comes_218 : decode cX12_comes 218 = .ok (.invokevirtual 128, 3) := by decide +kernel
theorem dX12_comes_221 : decode cX12_comes 221 = .ok (.ifCond .ne 5, 3) := by decide +kernel
theorem dX12_comes_224 : decode cX12_comes 224 = .ok (.iconst 0, 1) := by decide +kernel
theorem dX12_comes_225 : decode cX12_comes 225 = .ok (.ireturn, 1) := by decide +kernel
theorem dX12_comes_226 : decode cX12_comes 226 = .ok (.aload_n 0, 1) := by decide +kernel
theorem dX12_comes_227 : decode cX12_comes 227 = .ok (.getfield 19, 3) := by decide +kernel
theorem dX12_comes_230 : decode cX12_comes 230 = .ok (.iload_n 2, 1) := by decide +kernel
theorem dX12_comes_231 : decode cX12_comes 231 = .ok (.dup2, 1) := by decide +kernel
theorem dX12_comes_232 : decode cX12_comes 232 = .ok (.iaload, 1) := by decide +kernel
theorem dX12_comes_233 : decode cX12_comes 233 = .ok (.iconst 1, 1) := by decide +kernel
theorem dX12_comes_234 : decode cX12_comes 234 = .ok (.iload_n 3, 1) := by decide +kernel
theorem dX12_comes_235 : decode cX12_comes 235 = .ok (.ishl, 1) := by decide +kernel
theorem dX12_comes_236 : decode cX12_comes 236 = .ok (.ixor, 1) := by decide +kernel
theorem dX12_comes_237 : decode cX12_comes 237 = .ok (.iastore, 1) := by decide +kernel
theorem dX12_comes_238 : decode cX12_comes 238 = .ok (.iconst 1, 1) := by decide +kernel
theorem dX12_comes_239 : decode cX12_comes 239 = .ok (.ireturn, 1) := by decide +kernel
theorem dX12_school_0 : decode cX12_school 0 = .ok (.aload_n 0, 1) := by decide +kernel
theorem dX12_school_1 : decode cX12_school 1 = .ok (.iconst 0, 1) := by decide +kernel
theorem dX12_school_2 : decode cX12_school 2 = .ok (.putfield 86, 3) := by decide +kernel
theorem dX12_school_5 : decode cX12_school 5 = .ok (.aload_n 0, 1) := by decide +kernel
theorem dX12_school_6 : decode cX12_school 6 = .ok (.iconst 0, 1) := by decide +kernel
theorem dX12_school_7 : decode cX12_school 7 = .ok (.putfield 97, 3) := by decide +kernel
theorem dX12_school_10 : decode cX12_school 10 = .ok (.iconst 1, 1) := by decide +kernel
theorem dX12_school_11 : decode cX12_school 11 = .ok (.istore_n 1, 1) := by decide +kernel
theorem dX12_school_12 : decode cX12_school 12 = .ok (.iload_n 1, 1) := by decide +kernel
theorem dX12_school_13 : decode cX12_school 13 = .ok (.ifCond .eq 47, 3) := by decide +kernel
theorem dX12_school_16 : decode cX12_school 16 = .ok (.aload_n 0, 1) := by decide +kernel
theorem dX12_school_17 : decode cX12_school 17 = .ok (.getfield 86, 3) := by decide +kernel
theorem dX12_school_20 : decode cX12_school 20 = .ok (.aload_n 0, 1) := by decide +kernel
theorem dX12_school_21 : decode cX12_school 21 = .ok (.getfield 79, 3) := by decide +kernel
theorem dX12_school_24 : decode cX12_school 24 = .ok (.if_icmp .lt 10, 3) := by decide +kernel
theorem dX12_school_27 : decode cX12_school 27 = .ok (.aload_n 0, 1) := by decide +kernel
theorem dX12_school_28 : decode cX12_school 28 = .ok (.getfield 97, 3) := by decide +kernel
theorem dX12_school_31 : decode cX12_school 31 = .ok (.ifCond .ne 29, 3) := by decide +kernel
theorem dX12_school_34 : decode cX12_school 34 = .ok (.aload_n 0, 1) := by decide +kernel
theorem dX12_school_35 : decode cX12_school 35 = .ok (.invokevirtual 131, 3) := by decide +kernel
theorem dX12_school_38 : decode cX12_school 38 = .ok (.istore_n 1, 1) := by decide +kernel
theorem dX12_school_39 : decode cX12_school 39 = .ok (.aload_n 0, 1) := by decide +kernel
theorem dX12_school_40 : decode cX12_school 40 = .ok (.dup, 1) := by decide +kernel
theorem dX12_school_41 : decode cX12_school 41 = .ok (.getfield 97, 3) := by decide +kernel
theorem dX12_school_44 : decode cX12_school 44 = .ok (.iload_n 1, 1) := by decide +kernel
theorem dX12_school_45 : decode cX12_school 45 = .ok (.ifCond .eq 7, 3) := by decide +kernel
theorem dX12_school_48 : decode cX12_school 48 = .ok (.iconst 1, 1) := by decide +kernel
theorem dX12_school_49 : decode cX12_school 49 = .ok (.goto 4, 3) := by decide +kernel
theorem dX12_school_52 : decode cX12_school 52 = .ok (.iconst 0, 1) := by decide +kernel
theorem dX12_school_53 : decode cX12_school 53 = .ok (.iadd, 1) := by decide +kernel
theorem dX12_school_54 : decode cX12_school 54 = .ok (.putfield 97, 3) := by decide +kernel
theorem dX12_school_57 : decode cX12_school 57 = .ok (.goto (-45), 3) := by decide +kernel
theorem dX12_school_60 : decode cX12_school 60 = .ok (.aload_n 0, 1) := by decide +kernel
theorem dX12_school_61 : decode cX12_school 61 = .ok (.iconst 0, 1) := by decide +kernel
theorem dX12_school_62 : decode cX12_school 62 = .ok (.putfield 79, 3) := by decide +kernel
theorem dX12_school_65 : decode cX12_school 65 = .ok (.iload_n 1, 1) := by decide +kernel
theorem dX12_school_66 : decode cX12_school 66 = .ok (.ifCond .ne 12, 3) := by decide +kernel
theorem dX12_school_69 : decode cX12_school 69 = .ok (.sipush (-1000), 3) := by decide +kernel
theorem dX12_school_72 : decode cX12_school 72 = .ok (.aload_n 0, 1) := by decide +kernel
theorem dX12_school_73 : decode cX12_school 73 = .ok (.getfield 86, 3) := by decide +kernel
theorem dX12_school_76 : decode cX12_school 76 = .ok (.isub, 1) := by decide +kernel
theorem dX12_school_77 : decode cX12_school 77 = .ok (.ireturn, 1) := by decide +kernel
theorem dX12_school_78 : decode cX12_school 78 = .ok (.aload_n 0, 1) := by decide +kernel
theorem dX12_school_79 : decode cX12_school 79 = .ok (.iconst 1, 1) := by decide +kernel
theorem dX12_school_80 : decode cX12_school 80 = .ok (.iconst 1, 1) := by decide +kernel
theorem dX12_school_81 : decode cX12_school 81 = .ok (.invokevirtual 134, 3) := by decide +kernel
theorem dX12_school_84 : decode cX12_school 84 = .ok (.iconst 0, 1) := by decide +kernel
theorem dX12_school_85 : decode cX12_school 85 = .ok (.istore_n 2, 1) := by decide +kernel
theorem dX12_school_86 : decode cX12_school 86 = .ok (.iload_n 2, 1) := by decide +kernel
theorem dX12_school_87 : decode cX12_school 87 = .ok (.aload_n 0, 1) := by decide +kernel
theorem dX12_school_88 : decode cX12_school 88 = .ok (.getfield 97, 3) := by decide +kernel
theorem dX12_school_91 : decode cX12_school 91 = .ok (.if_icmp .ge 37, 3) := by decide +kernel
theorem dX12_school_94 : decode cX12_school 94 = .ok (.aload_n 0, 1) := by decide +kernel
theorem dX12_school_95 : decode cX12_school 95 = .ok (.iload_n 2, 1) := by decide +kernel
theorem dX12_school_96 : decode cX12_school 96 = .ok (.invokevirtual 138, 3) := by decide +kernel
theorem dX12_school_99 : decode cX12_school 99 = .ok (.ifCond .eq 6, 3) := by decide +kernel
theorem dX12_school_102 : decode cX12_school 102 = .ok (.goto 20, 3) := by decide +kernel
theorem dX12_school_105 : decode cX12_school 105 = .ok (.aload_n 0, 1) := by decide +kernel
theorem dX12_school_106 : decode cX12_school 106 = .ok (.iconst 1, 1) := by decide +kernel
theorem dX12_school_107 : decode cX12_school 107 = .ok (.iconst 0, 1) := by decide +kernel
theorem dX12_school_108 : decode cX12_school 108 = .ok (.invokevirtual 134, 3) := by decide +kernel
theorem dX12_school_111 : decode cX12_school 111 = .ok (.sipush (-2000), 3) := by decide +kernel
theorem dX12_school_114 : decode cX12_school 114 = .ok (.aload_n 0, 1) := by decide +kernel
theorem dX12_school_115 : decode cX12_school 115 = .ok (.getfield 37, 3) := by decide +kernel
theorem dX12_school_118 : decode cX12_school 118 = .ok (.iload_n 2, 1) := by decide +kernel
theorem dX12_school_119 : decode cX12_school 119 = .ok (.iaload, 1) := by decide +kernel
theorem dX12_school_120 : decode cX12_school 120 = .ok (.isub, 1) := by decide +kernel
theorem dX12_school_121 : decode cX12_school 121 = .ok (.ireturn, 1) := by decide +kernel
theorem dX12_school_122 : decode cX12_school 122 = .ok (.iinc 2 1, 3) := by decide +kernel
theorem dX12_school_125 : decode cX12_school 125 = .ok (.goto (-39), 3) := by decide +kernel
theorem dX12_school_128 : decode cX12_school 128 = .ok (.aload_n 0, 1) := by decide +kernel
theorem dX12_school_129 : decode cX12_school 129 = .ok (.getfield 97, 3) := by decide +kernel
theorem dX12_school_132 : decode cX12_school 132 = .ok (.ireturn, 1) := by decide +kernel
theorem dX12_passes_0 : decode cX12_passes 0 = .ok (.iconst 0, 1) := by decide +kernel
theorem dX12_passes_1 : decode cX12_passes 1 = .ok (.istore_n 2, 1) := by decide +kernel
theorem dX12_passes_2 : decode cX12_passes 2 = .ok (.iload_n 2, 1) := by decide +kernel
theorem dX12_passes_3 : decode cX12_passes 3 = .ok (.aload_n 1, 1) := by decide +kernel
theorem dX12_passes_4 : decode cX12_passes 4 = .ok (.arraylength, 1) := by decide +kernel
theorem dX12_passes_5 : decode cX12_passes 5 = .ok (.if_icmp .ge 53, 3) := by decide +kernel
theorem dX12_passes_8 : decode cX12_passes 8 = .ok (.aload_n 0, 1) := by decide +kernel
theorem dX12_passes_9 : decode cX12_passes 9 = .ok (.getfield 141, 3) := by decide +kernel
theorem dX12_passes_12 : decode cX12_passes 12 = .ok (.ifCond .eq 18, 3) := by decide +kernel
theorem dX12_passes_15 : decode cX12_passes 15 = .ok (.aload_n 0, 1) := by decide +kernel
theorem dX12_passes_16 : decode cX12_passes 16 = .ok (.getfield 49, 3) := by decide +kernel
theorem dX12_passes_19 : decode cX12_passes 19 = .ok (.aload_n 0, 1) := by decide +kernel
theorem dX12_passes_20 : decode cX12_passes 20 = .ok (.getfield 145, 3) := by decide +kernel
theorem dX12_passes_23 : decode cX12_passes 23 = .ok (.aload_n 1, 1) := by decide +kernel
theorem dX12_passes_24 : decode cX12_passes 24 = .ok (.iload_n 2, 1) := by decide +kernel
theorem dX12_passes_25 : decode cX12_passes 25 = .ok (.iaload, 1) := by decide +kernel
theorem dX12_passes_26 : decode cX12_passes 26 = .ok (.iastore, 1) := by decide +kernel
theorem dX12_passes_27 : decode cX12_passes 27 = .ok (.goto 15, 3) := by decide +kernel
theorem dX12_passes_30 : decode cX12_passes 30 = .ok (.aload_n 1, 1) := by decide +kernel
theorem dX12_passes_31 : decode cX12_passes 31 = .ok (.iload_n 2, 1) := by decide +kernel
theorem dX12_passes_32 : decode cX12_passes 32 = .ok (.aload_n 0, 1) := by decide +kernel
theorem dX12_passes_33 : decode cX12_passes 33 = .ok (.getfield 49, 3) := by decide +kernel
theorem dX12_passes_36 : decode cX12_passes 36 = .ok (.aload_n 0, 1) := by decide +kernel
theorem dX12_passes_37 : decode cX12_passes 37 = .ok (.getfield 145, 3) := by decide +kernel
theorem dX12_passes_40 : decode cX12_passes 40 = .ok (.iaload, 1) := by decide +kernel
theorem dX12_passes_41 : decode cX12_passes 41 = .ok (.iastore, 1) := by decide +kernel
theorem dX12_passes_42 : decode cX12_passes 42 = .ok (.aload_n 0, 1) := by decide +kernel
theorem dX12_passes_43 : decode cX12_passes 43 = .ok (.dup, 1) := by decide +kernel
theorem dX12_passes_44 : decode cX12_passes 44 = .ok (.getfield 145, 3) := by decide +kernel
theorem dX12_passes_47 : decode cX12_passes 47 = .ok (.iconst 1, 1) := by decide +kernel
theorem dX12_passes_48 : decode cX12_passes 48 = .ok (.iadd, 1) := by decide +kernel
theorem dX12_passes_49 : decode cX12_passes 49 = .ok (.putfield 145, 3) := by decide +kernel
theorem dX12_passes_52 : decode cX12_passes 52 = .ok (.iinc 2 1, 3) := by decide +kernel
theorem dX12_passes_55 : decode cX12_passes 55 = .ok (.goto (-53), 3) := by decide +kernel
theorem dX12_passes_58 : decode cX12_passes 58 = .ok (.return_, 1) := by decide +kernel
theorem dX12_passOne_0 : decode cX12_passOne 0 = .ok (.aload_n 0, 1) := by decide +kernel
theorem dX12_passOne_1 : decode cX12_passOne 1 = .ok (.getfield 141, 3) := by decide +kernel
theorem dX12_passOne_4 : decode cX12_passOne 4 = .ok (.ifCond .eq 7, 3) := by decide +kernel
theorem dX12_passOne_7 : decode cX12_passOne 7 = .ok (.iload_n 1, 1) := by decide +kernel
theorem dX12_passOne_8 : decode cX12_passOne 8 = .ok (.goto 12, 3) := by decide +kernel
theorem dX12_passOne_11 : decode cX12_passOne 11 = .ok (.aload_n 0, 1) := by decide +kernel
theorem dX12_passOne_12 : decode cX12_passOne 12 = .ok (.getfield 49, 3) := by decide +kernel
theorem dX12_passOne_15 : decode cX12_passOne 15 = .ok (.aload_n 0, 1) := by decide +kernel
theorem dX12_passOne_16 : decode cX12_passOne 16 = .ok (.getfield 145, 3) := by decide +kernel
theorem dX12_passOne_19 : decode cX12_passOne 19 = .ok (.iaload, 1) := by decide +kernel
theorem dX12_passOne_20 : decode cX12_passOne 20 = .ok (.istore_n 2, 1) := by decide +kernel
theorem dX12_passOne_21 : decode cX12_passOne 21 = .ok (.aload_n 0, 1) := by decide +kernel
theorem dX12_passOne_22 : decode cX12_passOne 22 = .ok (.getfield 141, 3) := by decide +kernel
theorem dX12_passOne_25 : decode cX12_passOne 25 = .ok (.ifCond .eq 13, 3) := by decide +kernel
theorem dX12_passOne_28 : decode cX12_passOne 28 = .ok (.aload_n 0, 1) := by decide +kernel
theorem dX12_passOne_29 : decode cX12_passOne 29 = .ok (.getfield 49, 3) := by decide +kernel
theorem dX12_passOne_32 : decode cX12_passOne 32 = .ok (.aload_n 0, 1) := by decide +kernel
theorem dX12_passOne_33 : decode cX12_passOne 33 = .ok (.getfield 145, 3) := by decide +kernel
theorem dX12_passOne_36 : decode cX12_passOne 36 = .ok (.iload_n 1, 1) := by decide +kernel
theorem dX12_passOne_37 : decode cX12_passOne 37 = .ok (.iastore, 1) := by decide +kernel
theorem dX12_passOne_38 : decode cX12_passOne 38 = .ok (.aload_n 0, 1) := by decide +kernel
theorem dX12_passOne_39 : decode cX12_passOne 39 = .ok (.dup, 1) := by decide +kernel
theorem dX12_passOne_40 : decode cX12_passOne 40 = .ok (.getfield 145, 3) := by decide +kernel
theorem dX12_passOne_43 : decode cX12_passOne 43 = .ok (.iconst 1, 1) := by decide +kernel
theorem dX12_passOne_44 : decode cX12_passOne 44 = .ok (.iadd, 1) := by decide +kernel
theorem dX12_passOne_45 : decode cX12_passOne 45 = .ok (.putfield 145, 3) := by decide +kernel
theorem dX12_passOne_48 : decode cX12_passOne 48 = .ok (.iload_n 2, 1) := by decide +kernel
theorem dX12_passOne_49 : decode cX12_passOne 49 = .ok (.ireturn, 1) := by decide +kernel
theorem dX12_passesAll_0 : decode cX12_passesAll 0 = .ok (.aload_n 0, 1) := by decide +kernel
theorem dX12_passesAll_1 : decode cX12_passesAll 1 = .ok (.sipush 160, 3) := by decide +kernel
theorem dX12_passesAll_4 : decode cX12_passesAll 4 = .ok (.iload_n 1, 1) := by decide +kernel
theorem dX12_passesAll_5 : decode cX12_passesAll 5 = .ok (.imul, 1) := by decide +kernel
theorem dX12_passesAll_6 : decode cX12_passesAll 6 = .ok (.putfield 145, 3) := by decide +kernel
theorem dX12_passesAll_9 : decode cX12_passesAll 9 = .ok (.aload_n 0, 1) := by decide +kernel
theorem dX12_passesAll_10 : decode cX12_passesAll 10 = .ok (.iload_n 2, 1) := by decide +kernel
theorem dX12_passesAll_11 : decode cX12_passesAll 11 = .ok (.putfield 141, 3) := by decide +kernel
theorem dX12_passesAll_14 : decode cX12_passesAll 14 = .ok (.aload_n 0, 1) := by decide +kernel
theorem dX12_passesAll_15 : decode cX12_passesAll 15 = .ok (.aload_n 0, 1) := by decide +kernel
theorem dX12_passesAll_16 : decode cX12_passesAll 16 = .ok (.getfield 13, 3) := by decide +kernel
theorem dX12_passesAll_19 : decode cX12_passesAll 19 = .ok (.invokevirtual 148, 3) := by decide +kernel
theorem dX12_passesAll_22 : decode cX12_passesAll 22 = .ok (.aload_n 0, 1) := by decide +kernel
theorem dX12_passesAll_23 : decode cX12_passesAll 23 = .ok (.aload_n 0, 1) := by decide +kernel
theorem dX12_passesAll_24 : decode cX12_passesAll 24 = .ok (.getfield 16, 3) := by decide +kernel
theorem dX12_passesAll_27 : decode cX12_passesAll 27 = .ok (.invokevirtual 148, 3) := by decide +kernel
theorem dX12_passesAll_30 : decode cX12_passesAll 30 = .ok (.aload_n 0, 1) := by decide +kernel
theorem dX12_passesAll_31 : decode cX12_passesAll 31 = .ok (.aload_n 0, 1) := by decide +kernel
theorem dX12_passesAll_32 : decode cX12_passesAll 32 = .ok (.getfield 19, 3) := by decide +kernel
theorem dX12_passesAll_35 : decode cX12_passesAll 35 = .ok (.invokevirtual 148, 3) := by decide +kernel
theorem dX12_passesAll_38 : decode cX12_passesAll 38 = .ok (.aload_n 0, 1) := by decide +kernel
theorem dX12_passesAll_39 : decode cX12_passesAll 39 = .ok (.aload_n 0, 1) := by decide +kernel
theorem dX12_passesAll_40 : decode cX12_passesAll 40 = .ok (.getfield 22, 3) := by decide +kernel
theorem dX12_passesAll_43 : decode cX12_passesAll 43 = .ok (.invokevirtual 148, 3) := by decide +kernel
theorem dX12_passesAll_46 : decode cX12_passesAll 46 = .ok (.aload_n 0, 1) := by decide +kernel
theorem dX12_passesAll_47 : decode cX12_passesAll 47 = .ok (.aload_n 0, 1) := by decide +kernel
theorem dX12_passesAll_48 : decode cX12_passesAll 48 = .ok (.getfield 25, 3) := by decide +kernel
theorem dX12_passesAll_51 : decode cX12_passesAll 51 = .ok (.invokevirtual 148, 3) := by decide +kernel
theorem dX12_passesAll_54 : decode cX12_passesAll 54 = .ok (.aload_n 0, 1) := by decide +kernel
theorem dX12_passesAll_55 : decode cX12_passesAll 55 = .ok (.aload_n 0, 1) := by decide +kernel
theorem dX12_passesAll_56 : decode cX12_passesAll 56 = .ok (.getfield 28, 3) := by decide +kernel
theorem dX12_passesAll_59 : decode cX12_passesAll 59 = .ok (.invokevirtual 148, 3) := by decide +kernel
theorem dX12_passesAll_62 : decode cX12_passesAll 62 = .ok (.aload_n 0, 1) := by decide +kernel
theorem dX12_passesAll_63 : decode cX12_passesAll 63 = .ok (.aload_n 0, 1) := by decide +kernel
theorem dX12_passesAll_64 : decode cX12_passesAll 64 = .ok (.aload_n 0, 1) := by decide +kernel
theorem dX12_passesAll_65 : decode cX12_passesAll 65 = .ok (.getfield 68, 3) := by decide +kernel
theorem dX12_passesAll_68 : decode cX12_passesAll 68 = .ok (.invokevirtual 152, 3) := by decide +kernel
theorem dX12_passesAll_71 : decode cX12_passesAll 71 = .ok (.putfield 68, 3) := by decide +kernel
theorem dX12_passesAll_74 : decode cX12_passesAll 74 = .ok (.aload_n 0, 1) := by decide +kernel
theorem dX12_passesAll_75 : decode cX12_passesAll 75 = .ok (.aload_n 0, 1) := by decide +kernel
theorem dX12_passesAll_76 : decode cX12_passesAll 76 = .ok (.aload_n 0, 1) := by decide +kernel
theorem dX12_passesAll_77 : decode cX12_passesAll 77 = .ok (.getfield 72, 3) := by decide +kernel
theorem dX12_passesAll_80 : decode cX12_passesAll 80 = .ok (.invokevirtual 152, 3) := by decide +kernel
theorem dX12_passesAll_83 : decode cX12_passesAll 83 = .ok (.putfield 72, 3) := by decide +kernel
theorem dX12_passesAll_86 : decode cX12_passesAll 86 = .ok (.return_, 1) := by decide +kernel
theorem dX12_image_0 : decode cX12_image 0 = .ok (.aload_n 0, 1) := by decide +kernel
theorem dX12_image_1 : decode cX12_image 1 = .ok (.iconst 1, 1) := by decide +kernel
theorem dX12_image_2 : decode cX12_image 2 = .ok (.putfield 155, 3) := by decide +kernel
theorem dX12_image_5 : decode cX12_image 5 = .ok (.aload_n 0, 1) := by decide +kernel
theorem dX12_image_6 : decode cX12_image 6 = .ok (.iconst 0, 1) := by decide +kernel
theorem dX12_image_7 : decode cX12_image 7 = .ok (.iconst 1, 1) := by decide +kernel
theorem dX12_image_8 : decode cX12_image 8 = .ok (.invokevirtual 134, 3) := by decide +kernel
theorem dX12_image_11 : decode cX12_image 11 = .ok (.aload_n 0, 1) := by decide +kernel
theorem dX12_image_12 : decode cX12_image 12 = .ok (.getfield 72, 3) := by decide +kernel
theorem dX12_image_15 : decode cX12_image 15 = .ok (.ireturn, 1) := by decide +kernel
theorem dX12_restore_0 : decode cX12_restore 0 = .ok (.aload_n 0, 1) := by decide +kernel
theorem dX12_restore_1 : decode cX12_restore 1 = .ok (.getfield 155, 3) := by decide +kernel
theorem dX12_restore_4 : decode cX12_restore 4 = .ok (.ifCond .ne 10, 3) := by decide +kernel
theorem dX12_restore_7 : decode cX12_restore 7 = .ok (.aload_n 0, 1) := by decide +kernel
theorem dX12_restore_8 : decode cX12_restore 8 = .ok (.bipush (-3), 2) := by decide +kernel
theorem dX12_restore_10 : decode cX12_restore 10 = .ok (.invokevirtual 82, 3) := by decide +kernel
theorem dX12_restore_13 : decode cX12_restore 13 = .ok (.ireturn, 1) := by decide +kernel
theorem dX12_restore_14 : decode cX12_restore 14 = .ok (.aload_n 0, 1) := by decide +kernel
theorem dX12_restore_15 : decode cX12_restore 15 = .ok (.iconst 0, 1) := by decide +kernel
theorem dX12_restore_16 : decode cX12_restore 16 = .ok (.iconst 0, 1) := by decide +kernel
theorem dX12_restore_17 : decode cX12_restore 17 = .ok (.invokevirtual 134, 3) := by decide +kernel
theorem dX12_restore_20 : decode cX12_restore 20 = .ok (.aload_n 0, 1) := by decide +kernel
theorem dX12_restore_21 : decode cX12_restore 21 = .ok (.getfield 72, 3) := by decide +kernel
theorem dX12_restore_24 : decode cX12_restore 24 = .ok (.ireturn, 1) := by decide +kernel
theorem dX12_kindOf_0 : decode cX12_kindOf 0 = .ok (.iload_n 1, 1) := by decide +kernel
theorem dX12_kindOf_1 : decode cX12_kindOf 1 = .ok (.ifCond .ge 7, 3) := by decide +kernel
theorem dX12_kindOf_4 : decode cX12_kindOf 4 = .ok (.iconst 0, 1) := by decide +kernel
theorem dX12_kindOf_5 : decode cX12_kindOf 5 = .ok (.goto 9, 3) := by decide +kernel
theorem dX12_kindOf_8 : decode cX12_kindOf 8 = .ok (.aload_n 0, 1) := by decide +kernel
theorem dX12_kindOf_9 : decode cX12_kindOf 9 = .ok (.getfield 13, 3) := by decide +kernel
theorem dX12_kindOf_12 : decode cX12_kindOf 12 = .ok (.iload_n 1, 1) := by decide +kernel
theorem dX12_kindOf_13 : decode cX12_kindOf 13 = .ok (.iaload, 1) := by decide +kernel
theorem dX12_kindOf_14 : decode cX12_kindOf 14 = .ok (.ireturn, 1) := by decide +kernel
theorem dX12_worldOf_0 : decode cX12_worldOf 0 = .ok (.iload_n 1, 1) := by decide +kernel
theorem dX12_worldOf_1 : decode cX12_worldOf 1 = .ok (.ifCond .ge 7, 3) := by decide +kernel
theorem dX12_worldOf_4 : decode cX12_worldOf 4 = .ok (.iconst 0, 1) := by decide +kernel
theorem dX12_worldOf_5 : decode cX12_worldOf 5 = .ok (.goto 14, 3) := by decide +kernel
theorem dX12_worldOf_8 : decode cX12_worldOf 8 = .ok (.iconst 1, 1) := by decide +kernel
theorem dX12_worldOf_9 : decode cX12_worldOf 9 = .ok (.aload_n 0, 1) := by decide +kernel
theorem dX12_worldOf_10 : decode cX12_worldOf 10 = .ok (.getfield 16, 3) := by decide +kernel
theorem dX12_worldOf_13 : decode cX12_worldOf 13 = .ok (.iload_n 1, 1) := by decide +kernel
theorem dX12_worldOf_14 : decode cX12_worldOf 14 = .ok (.iaload, 1) := by decide +kernel
theorem dX12_worldOf_15 : decode cX12_worldOf 15 = .ok (.bipush 8, 2) := by decide +kernel
theorem dX12_worldOf_17 : decode cX12_worldOf 17 = .ok (.irem, 1) := by decide +kernel
theorem dX12_worldOf_18 : decode cX12_worldOf 18 = .ok (.ishl, 1) := by decide +kernel
theorem dX12_worldOf_19 : decode cX12_worldOf 19 = .ok (.ireturn, 1) := by decide +kernel
theorem dX12_learntBy_0 : decode cX12_learntBy 0 = .ok (.iload_n 1, 1) := by decide +kernel
theorem dX12_learntBy_1 : decode cX12_learntBy 1 = .ok (.ifCond .ge 8, 3) := by decide +kernel
theorem dX12_learntBy_4 : decode cX12_learntBy 4 = .ok (.bipush 15, 2) := by decide +kernel
theorem dX12_learntBy_6 : decode cX12_learntBy 6 = .ok (.goto 9, 3) := by decide +kernel
theorem dX12_learntBy_9 : decode cX12_learntBy 9 = .ok (.aload_n 0, 1) := by decide +kernel
theorem dX12_learntBy_10 : decode cX12_learntBy 10 = .ok (.getfield 19, 3) := by decide +kernel
theorem dX12_learntBy_13 : decode cX12_learntBy 13 = .ok (.iload_n 1, 1) := by decide +kernel
theorem dX12_learntBy_14 : decode cX12_learntBy 14 = .ok (.iaload, 1) := by decide +kernel
theorem dX12_learntBy_15 : decode cX12_learntBy 15 = .ok (.ireturn, 1) := by decide +kernel
theorem dX12_notOf_0 : decode cX12_notOf 0 = .ok (.aload_n 0, 1) := by decide +kernel
theorem dX12_notOf_1 : decode cX12_notOf 1 = .ok (.iload_n 1, 1) := by decide +kernel
theorem dX12_notOf_2 : decode cX12_notOf 2 = .ok (.invokevirtual 158, 3) := by decide +kernel
theorem dX12_notOf_5 : decode cX12_notOf 5 = .ok (.istore_n 3, 1) := by decide +kernel
theorem dX12_notOf_6 : decode cX12_notOf 6 = .ok (.iload_n 3, 1) := by decide +kernel
theorem dX12_notOf_7 : decode cX12_notOf 7 = .ok (.iconst 2, 1) := by decide +kernel
theorem dX12_notOf_8 : decode cX12_notOf 8 = .ok (.if_icmp .ne 7, 3) := by decide +kernel
theorem dX12_notOf_11 : decode cX12_notOf 11 = .ok (.iload_n 2, 1) := by decide +kernel
theorem dX12_notOf_12 : decode cX12_notOf 12 = .ok (.goto 27, 3) := by decide +kernel
theorem dX12_notOf_15 : decode cX12_notOf 15 = .ok (.iload_n 3, 1) := by decide +kernel
theorem dX12_notOf_16 : decode cX12_notOf 16 = .ok (.iconst 5, 1) := by decide +kernel
theorem dX12_notOf_17 : decode cX12_notOf 17 = .ok (.if_icmp .ne 15, 3) := by decide +kernel
theorem dX12_notOf_20 : decode cX12_notOf 20 = .ok (.iload_n 2, 1) := by decide +kernel
theorem dX12_notOf_21 : decode cX12_notOf 21 = .ok (.aload_n 0, 1) := by decide +kernel
theorem dX12_notOf_22 : decode cX12_notOf 22 = .ok (.iload_n 1, 1) := by decide +kernel
theorem dX12_notOf_23 : decode cX12_notOf 23 = .ok (.invokevirtual 161, 3) := by decide +kernel
theorem dX12_notOf_26 : decode cX12_notOf 26 = .ok (.iconst (-1), 1) := by decide +kernel
theorem dX12_notOf_27 : decode cX12_notOf 27 = .ok (.ixor, 1) := by decide +kernel
theorem dX12_notOf_28 : decode cX12_notOf 28 = .ok (.iand, 1) := by decide +kernel
theorem dX12_notOf_29 : decode cX12_notOf 29 = .ok (.goto 10, 3) := by decide +kernel
theorem dX12_notOf_32 : decode cX12_notOf 32 = .ok (.sipush 255, 3) := by decide +kernel
theorem dX12_notOf_35 : decode cX12_notOf 35 = .ok (.iload_n 2, 1) := by decide +kernel
theorem dX12_notOf_36 : decode cX12_notOf 36 = .ok (.iconst (-1), 1) := by decide +kernel
theorem dX12_notOf_37 : decode cX12_notOf 37 = .ok (.ixor, 1) := by decide +kernel
theorem dX12_notOf_38 : decode cX12_notOf 38 = .ok (.iand, 1) := by decide +kernel
theorem dX12_notOf_39 : decode cX12_notOf 39 = .ok (.ireturn, 1) := by decide +kernel
theorem dX12_andOf_0 : decode cX12_andOf 0 = .ok (.aload_n 0, 1) := by decide +kernel
theorem dX12_andOf_1 : decode cX12_andOf 1 = .ok (.iload_n 1, 1) := by decide +kernel
theorem dX12_andOf_2 : decode cX12_andOf 2 = .ok (.invokevirtual 158, 3) := by decide +kernel
theorem dX12_andOf_5 : decode cX12_andOf 5 = .ok (.iconst 3, 1) := by decide +kernel
theorem dX12_andOf_6 : decode cX12_andOf 6 = .ok (.if_icmp .ne 11, 3) := by decide +kernel
theorem dX12_andOf_9 : decode cX12_andOf 9 = .ok (.iload_n 2, 1) := by decide +kernel
theorem dX12_andOf_10 : decode cX12_andOf 10 = .ok (.iload_n 3, 1) := by decide +kernel
theorem dX12_andOf_11 : decode cX12_andOf 11 = .ok (.iconst (-1), 1) := by decide +kernel
theorem dX12_andOf_12 : decode cX12_andOf 12 = .ok (.ixor, 1) := by decide +kernel
theorem dX12_andOf_13 : decode cX12_andOf 13 = .ok (.iand, 1) := by decide +kernel
theorem dX12_andOf_14 : decode cX12_andOf 14 = .ok (.goto 6, 3) := by decide +kernel
theorem dX12_andOf_17 : decode cX12_andOf 17 = .ok (.iload_n 2, 1) := by decide +kernel
theorem dX12_andOf_18 : decode cX12_andOf 18 = .ok (.iload_n 3, 1) := by decide +kernel
theorem dX12_andOf_19 : decode cX12_andOf 19 = .ok (.iand, 1) := by decide +kernel
theorem dX12_andOf_20 : decode cX12_andOf 20 = .ok (.ireturn, 1) := by decide +kernel
theorem dX12_orOf_0 : decode cX12_orOf 0 = .ok (.aload_n 0, 1) := by decide +kernel
theorem dX12_orOf_1 : decode cX12_orOf 1 = .ok (.iload_n 1, 1) := by decide +kernel
theorem dX12_orOf_2 : decode cX12_orOf 2 = .ok (.invokevirtual 158, 3) := by decide +kernel
theorem dX12_orOf_5 : decode cX12_orOf 5 = .ok (.istore 4, 2) := by decide +kernel
theorem dX12_orOf_7 : decode cX12_orOf 7 = .ok (.iload 4, 2) := by decide +kernel
theorem dX12_orOf_9 : decode cX12_orOf 9 = .ok (.iconst 1, 1) := by decide +kernel
theorem dX12_orOf_10 : decode cX12_orOf 10 = .ok (.if_icmp .ne 9, 3) := by decide +kernel
theorem dX12_orOf_13 : decode cX12_orOf 13 = .ok (.iload_n 2, 1) := by decide +kernel
theorem dX12_orOf_14 : decode cX12_orOf 14 = .ok (.iload_n 3, 1) := by decide +kernel
theorem dX12_orOf_15 : decode cX12_orOf 15 = .ok (.ixor, 1) := by decide +kernel
theorem dX12_orOf_16 : decode cX12_orOf 16 = .ok (.goto 24, 3) := by decide +kernel
theorem dX12_orOf_19 : decode cX12_orOf 19 = .ok (.iload 4, 2) := by decide +kernel
theorem dX12_orOf_21 : decode cX12_orOf 21 = .ok (.iconst 4, 1) := by decide +kernel
theorem dX12_orOf_22 : decode cX12_orOf 22 = .ok (.if_icmp .ne 15, 3) := by decide +kernel
theorem dX12_orOf_25 : decode cX12_orOf 25 = .ok (.iload_n 2, 1) := by decide +kernel
theorem dX12_orOf_26 : decode cX12_orOf 26 = .ok (.iload_n 3, 1) := by decide +kernel
theorem dX12_orOf_27 : decode cX12_orOf 27 = .ok (.ixor, 1) := by decide +kernel
theorem dX12_orOf_28 : decode cX12_orOf 28 = .ok (.aload_n 0, 1) := by decide +kernel
theorem dX12_orOf_29 : decode cX12_orOf 29 = .ok (.iload_n 1, 1) := by decide +kernel
theorem dX12_orOf_30 : decode cX12_orOf 30 = .ok (.invokevirtual 161, 3) := by decide +kernel
theorem dX12_orOf_33 : decode cX12_orOf 33 = .ok (.ior, 1) := by decide +kernel
theorem dX12_orOf_34 : decode cX12_orOf 34 = .ok (.goto 6, 3) := by decide +kernel
theorem dX12_orOf_37 : decode cX12_orOf 37 = .ok (.iload_n 2, 1) := by decide +kernel
theorem dX12_orOf_38 : decode cX12_orOf 38 = .ok (.iload_n 3, 1) := by decide +kernel
theorem dX12_orOf_39 : decode cX12_orOf 39 = .ok (.ior, 1) := by decide +kernel
theorem dX12_orOf_40 : decode cX12_orOf 40 = .ok (.ireturn, 1) := by decide +kernel
theorem dX12_nameTo_0 : decode cX12_nameTo 0 = .ok (.aload_n 0, 1) := by decide +kernel
theorem dX12_nameTo_1 : decode cX12_nameTo 1 = .ok (.iload_n 1, 1) := by decide +kernel
theorem dX12_nameTo_2 : decode cX12_nameTo 2 = .ok (.invokevirtual 164, 3) := by decide +kernel
theorem dX12_nameTo_5 : decode cX12_nameTo 5 = .ok (.iload_n 2, 1) := by decide +kernel
theorem dX12_nameTo_6 : decode cX12_nameTo 6 = .ok (.ishr, 1) := by decide +kernel
theorem dX12_nameTo_7 : decode cX12_nameTo 7 = .ok (.iconst 1, 1) := by decide +kernel
theorem dX12_nameTo_8 : decode cX12_nameTo 8 = .ok (.iand, 1) := by decide +kernel
theorem dX12_nameTo_9 : decode cX12_nameTo 9 = .ok (.iconst 1, 1) := by decide +kernel
theorem dX12_nameTo_10 : decode cX12_nameTo 10 = .ok (.if_icmp .ne 21, 3) := by decide +kernel
theorem dX12_nameTo_13 : decode cX12_nameTo 13 = .ok (.aload_n 0, 1) := by decide +kernel
theorem dX12_nameTo_14 : decode cX12_nameTo 14 = .ok (.getfield 22, 3) := by decide +kernel
theorem dX12_nameTo_17 : decode cX12_nameTo 17 = .ok (.iload_n 2, 1) := by decide +kernel
theorem dX12_nameTo_18 : decode cX12_nameTo 18 = .ok (.iaload, 1) := by decide +kernel
theorem dX12_nameTo_19 : decode cX12_nameTo 19 = .ok (.ifCond .lt 12, 3) := by decide +kernel
theorem dX12_nameTo_22 : decode cX12_nameTo 22 = .ok (.aload_n 0, 1) := by decide +kernel
theorem dX12_nameTo_23 : decode cX12_nameTo 23 = .ok (.getfield 22, 3) := by decide +kernel
theorem dX12_nameTo_26 : decode cX12_nameTo 26 = .ok (.iload_n 2, 1) := by decide +kernel
theorem dX12_nameTo_27 : decode cX12_nameTo 27 = .ok (.iaload, 1) := by decide +kernel
theorem dX12_nameTo_28 : decode cX12_nameTo 28 = .ok (.goto 4, 3) := by decide +kernel
theorem dX12_nameTo_31 : decode cX12_nameTo 31 = .ok (.iconst 0, 1) := by decide +kernel
theorem dX12_nameTo_32 : decode cX12_nameTo 32 = .ok (.ireturn, 1) := by decide +kernel
theorem dX12_factOrName_0 : decode cX12_factOrName 0 = .ok (.iload_n 2, 1) := by decide +kernel
theorem dX12_factOrName_1 : decode cX12_factOrName 1 = .ok (.ifCond .ne 9, 3) := by decide +kernel
theorem dX12_factOrName_4 : decode cX12_factOrName 4 = .ok (.sipush 170, 3) := by decide +kernel
theorem dX12_factOrName_7 : decode cX12_factOrName 7 = .ok (.goto 33, 3) := by decide +kernel
theorem dX12_factOrName_10 : decode cX12_factOrName 10 = .ok (.iload_n 2, 1) := by decide +kernel
theorem dX12_factOrName_11 : decode cX12_factOrName 11 = .ok (.iconst 1, 1) := by decide +kernel
theorem dX12_factOrName_12 : decode cX12_factOrName 12 = .ok (.if_icmp .ne 9, 3) := by decide +kernel
theorem dX12_factOrName_15 : decode cX12_factOrName 15 = .ok (.sipush 204, 3) := by decide +kernel
theorem dX12_factOrName_18 : decode cX12_factOrName 18 = .ok (.goto 22, 3) := by decide +kernel
theorem dX12_factOrName_21 : decode cX12_factOrName 21 = .ok (.iload_n 2, 1) := by decide +kernel
theorem dX12_factOrName_22 : decode cX12_factOrName 22 = .ok (.iconst 2, 1) := by decide +kernel
theorem dX12_factOrName_23 : decode cX12_factOrName 23 = .ok (.if_icmp .ne 9, 3) := by decide +kernel
theorem dX12_factOrName_26 : decode cX12_factOrName 26 = .ok (.sipush 240, 3) := by decide +kernel
theorem dX12_factOrName_29 : decode cX12_factOrName 29 = .ok (.goto 11, 3) := by decide +kernel
theorem dX12_factOrName_32 : decode cX12_factOrName 32 = .ok (.aload_n 0, 1) := by decide +kernel
theorem dX12_factOrName_33 : decode cX12_factOrName 33 = .ok (.iload_n 1, 1) := by decide +kernel
theorem dX12_factOrName_34 : decode cX12_factOrName 34 = .ok (.iload_n 2, 1) := by decide +kernel
theorem dX12_factOrName_35 : decode cX12_factOrName 35 = .ok (.iconst 3, 1) := by decide +kernel
theorem dX12_factOrName_36 : decode cX12_factOrName 36 = .ok (.isub, 1) := by decide +kernel
theorem dX12_factOrName_37 : decode cX12_factOrName 37 = .ok (.invokevirtual 167, 3) := by decide +kernel
theorem dX12_factOrName_40 : decode cX12_factOrName 40 = .ok (.ireturn, 1) := by decide +kernel
theorem dX12_concluded_0 : decode cX12_concluded 0 = .ok (.iconst 0, 1) := by decide +kernel
theorem dX12_concluded_1 : decode cX12_concluded 1 = .ok (.istore_n 2, 1) := by decide +kernel
theorem dX12_concluded_2 : decode cX12_concluded 2 = .ok (.aload_n 0, 1) := by decide +kernel
theorem dX12_concluded_3 : decode cX12_concluded 3 = .ok (.getfield 118, 3) := by decide +kernel
theorem dX12_concluded_6 : decode cX12_concluded 6 = .ok (.iconst 1, 1) := by decide +kernel
theorem dX12_concluded_7 : decode cX12_concluded 7 = .ok (.isub, 1) := by decide +kernel
theorem dX12_concluded_8 : decode cX12_concluded 8 = .ok (.istore_n 3, 1) := by decide +kernel
theorem dX12_concluded_9 : decode cX12_concluded 9 = .ok (.iload_n 3, 1) := by decide +kernel
theorem dX12_concluded_10 : decode cX12_concluded 10 = .ok (.ifCond .lt 137, 3) := by decide +kernel
theorem dX12_concluded_13 : decode cX12_concluded 13 = .ok (.aload_n 0, 1) := by decide +kernel
theorem dX12_concluded_14 : decode cX12_concluded 14 = .ok (.getfield 52, 3) := by decide +kernel
theorem dX12_concluded_17 : decode cX12_concluded 17 = .ok (.iload_n 3, 1) := by decide +kernel
theorem dX12_concluded_18 : decode cX12_concluded 18 = .ok (.iaload, 1) := by decide +kernel
theorem dX12_concluded_19 : decode cX12_concluded 19 = .ok (.istore 4, 2) := by decide +kernel
theorem dX12_concluded_21 : decode cX12_concluded 21 = .ok (.iload 4, 2) := by decide +kernel
theorem dX12_concluded_23 : decode cX12_concluded 23 = .ok (.bipush 7, 2) := by decide +kernel
theorem dX12_concluded_25 : decode cX12_concluded 25 = .ok (.if_icmp .ge 22, 3) := by decide +kernel
theorem dX12_concluded_28 : decode cX12_concluded 28 = .ok (.aload_n 0, 1) := by decide +kernel
theorem dX12_concluded_29 : decode cX12_concluded 29 = .ok (.getfield 55, 3) := by decide +kernel
theorem dX12_concluded_32 : decode cX12_concluded 32 = .ok (.iload_n 2, 1) := by decide +kernel
theorem dX12_concluded_33 : decode cX12_concluded 33 = .ok (.aload_n 0, 1) := by decide +kernel
theorem dX12_concluded_34 : decode cX12_concluded 34 = .ok (.iload_n 1, 1) := by decide +kernel
theorem dX12_concluded_35 : decode cX12_concluded 35 = .ok (.iload 4, 2) := by decide +kernel
theorem dX12_concluded_37 : decode cX12_concluded 37 = .ok (.invokevirtual 171, 3) := by decide +kernel
theorem dX12_concluded_40 : decode cX12_concluded 40 = .ok (.iastore, 1) := by decide +kernel
theorem dX12_concluded_41 : decode cX12_concluded 41 = .ok (.iinc 2 1, 3) := by decide +kernel
theorem dX12_concluded_44 : decode cX12_concluded 44 = .ok (.goto 97, 3) := by decide +kernel
theorem dX12_concluded_47 : decode cX12_concluded 47 = .ok (.iload 4, 2) := by decide +kernel
theorem dX12_concluded_49 : decode cX12_concluded 49 = .ok (.bipush 7, 2) := by decide +kernel
theorem dX12_concluded_51 : decode cX12_concluded 51 = .ok (.if_icmp .ne 27, 3) := by decide +kernel
theorem dX12_concluded_54 : decode cX12_concluded 54 = .ok (.aload_n 0, 1) := by decide +kernel
theorem dX12_concluded_55 : decode cX12_concluded 55 = .ok (.getfield 55, 3) := by decide +kernel
theorem dX12_concluded_58 : decode cX12_concluded 58 = .ok (.iload_n 2, 1) := by decide +kernel
theorem dX12_concluded_59 : decode cX12_concluded 59 = .ok (.iconst 1, 1) := by decide +kernel
theorem dX12_concluded_60 : decode cX12_concluded 60 = .ok (.isub, 1) := by decide +kernel
theorem dX12_concluded_61 : decode cX12_concluded 61 = .ok (.aload_n 0, 1) := by decide +kernel
theorem dX12_concluded_62 : decode cX12_concluded 62 = .ok (.iload_n 1, 1) := by decide +kernel
theorem dX12_concluded_63 : decode cX12_concluded 63 = .ok (.aload_n 0, 1) := by decide +kernel
theorem dX12_concluded_64 : decode cX12_concluded 64 = .ok (.getfield 55, 3) := by decide +kernel
theorem dX12_concluded_67 : decode cX12_concluded 67 = .ok (.iload_n 2, 1) := by decide +kernel
theorem dX12_concluded_68 : decode cX12_concluded 68 = .ok (.iconst 1, 1) := by decide +kernel
theorem dX12_concluded_69 : decode cX12_concluded 69 = .ok (.isub, 1) := by decide +kernel
theorem dX12_concluded_70 : decode cX12_concluded 70 = .ok (.iaload, 1) := by decide +kernel
theorem dX12_concluded_71 : decode cX12_concluded 71 = .ok (.invokevirtual 174, 3) := by decide +kernel
theorem dX12_concluded_74 : decode cX12_concluded 74 = .ok (.iastore, 1) := by decide +kernel
theorem dX12_concluded_75 : decode cX12_concluded 75 = .ok (.goto 66, 3) := by decide +kernel
theorem dX12_concluded_78 : decode cX12_concluded 78 = .ok (.aload_n 0, 1) := by decide +kernel
theorem dX12_concluded_79 : decode cX12_concluded 79 = .ok (.getfield 55, 3) := by decide +kernel
theorem dX12_concluded_82 : decode cX12_concluded 82 = .ok (.iload_n 2, 1) := by decide +kernel
theorem dX12_concluded_83 : decode cX12_concluded 83 = .ok (.iconst 2, 1) := by decide +kernel
theorem dX12_concluded_84 : decode cX12_concluded 84 = .ok (.isub, 1) := by decide +kernel
theorem dX12_concluded_85 : decode cX12_concluded 85 = .ok (.iload 4, 2) := by decide +kernel
theorem dX12_concluded_87 : decode cX12_concluded 87 = .ok (.bipush 8, 2) := by decide +kernel
theorem dX12_concluded_89 : decode cX12_concluded 89 = .ok (.if_icmp .ne 27, 3) := by decide +kernel
theorem dX12_concluded_92 : decode cX12_concluded 92 = .ok (.aload_n 0, 1) := by decide +kernel
theorem dX12_concluded_93 : decode cX12_concluded 93 = .ok (.iload_n 1, 1) := by decide +kernel
theorem dX12_concluded_94 : decode cX12_concluded 94 = .ok (.aload_n 0, 1) := by decide +kernel
theorem dX12_concluded_95 : decode cX12_concluded 95 = .ok (.getfield 55, 3) := by decide +kernel
theorem dX12_concluded_98 : decode cX12_concluded 98 = .ok (.iload_n 2, 1) := by decide +kernel
theorem dX12_concluded_99 : decode cX12_concluded 99 = .ok (.iconst 1, 1) := by decide +kernel
theorem dX12_concluded_100 : decode cX12_concluded 100 = .ok (.isub, 1) := by decide +kernel
theorem dX12_concluded_101 : decode cX12_concluded 101 = .ok (.iaload, 1) := by decide +kernel
theorem dX12_concluded_102 : decode cX12_concluded 102 = .ok (.aload_n 0, 1) := by decide +kernel
theorem dX12_concluded_103 : decode cX12_concluded 103 = .ok (.getfield 55, 3) := by decide +kernel
theorem dX12_concluded_106 : decode cX12_concluded 106 = .ok (.iload_n 2, 1) := by decide +kernel
theorem dX12_concluded_107 : decode cX12_concluded 107 = .ok (.iconst 2, 1) := by decide +kernel
theorem dX12_concluded_108 : decode cX12_concluded 108 = .ok (.isub, 1) := by decide +kernel
theorem dX12_concluded_109 : decode cX12_concluded 109 = .ok (.iaload, 1) := by decide +kernel
theorem dX12_concluded_110 : decode cX12_concluded 110 = .ok (.invokevirtual 177, 3) := by decide +kernel
theorem dX12_concluded_113 : decode cX12_concluded 113 = .ok (.goto 24, 3) := by decide +kernel
theorem dX12_concluded_116 : decode cX12_concluded 116 = .ok (.aload_n 0, 1) := by decide +kernel
theorem dX12_concluded_117 : decode cX12_concluded 117 = .ok (.iload_n 1, 1) := by decide +kernel
theorem dX12_concluded_118 : decode cX12_concluded 118 = .ok (.aload_n 0, 1) := by decide +kernel
theorem dX12_concluded_119 : decode cX12_concluded 119 = .ok (.getfield 55, 3) := by decide +kernel
theorem dX12_concluded_122 : decode cX12_concluded 122 = .ok (.iload_n 2, 1) := by decide +kernel
theorem dX12_concluded_123 : decode cX12_concluded 123 = .ok (.iconst 1, 1) := by decide +kernel
theorem dX12_concluded_124 : decode cX12_concluded 124 = .ok (.isub, 1) := by decide +kernel
theorem dX12_concluded_125 : decode cX12_concluded 125 = .ok (.iaload, 1) := by decide +kernel
theorem dX12_concluded_126 : decode cX12_concluded 126 = .ok (.aload_n 0, 1) := by decide +kernel
theorem dX12_concluded_127 : decode cX12_concluded 127 = .ok (.getfield 55, 3) := by decide +kernel
theorem dX12_concluded_130 : decode cX12_concluded 130 = .ok (.iload_n 2, 1) := by decide +kernel
theorem dX12_concluded_131 : decode cX12_concluded 131 = .ok (.iconst 2, 1) := by decide +kernel
theorem dX12_concluded_132 : decode cX12_concluded 132 = .ok (.isub, 1) := by decide +kernel
theorem dX12_concluded_133 : decode cX12_concluded 133 = .ok (.iaload, 1) := by decide +kernel
theorem dX12_concluded_134 : decode cX12_concluded 134 = .ok (.invokevirtual 180, 3) := by decide +kernel
theorem dX12_concluded_137 : decode cX12_concluded 137 = .ok (.iastore, 1) := by decide +kernel
theorem dX12_concluded_138 : decode cX12_concluded 138 = .ok (.iinc 2 (-1), 3) := by decide +kernel
theorem dX12_concluded_141 : decode cX12_concluded 141 = .ok (.iinc 3 (-1), 3) := by decide +kernel
theorem dX12_concluded_144 : decode cX12_concluded 144 = .ok (.goto (-135), 3) := by decide +kernel
theorem dX12_concluded_147 : decode cX12_concluded 147 = .ok (.aload_n 0, 1) := by decide +kernel
theorem dX12_concluded_148 : decode cX12_concluded 148 = .ok (.getfield 55, 3) := by decide +kernel
theorem dX12_concluded_151 : decode cX12_concluded 151 = .ok (.iconst 0, 1) := by decide +kernel
theorem dX12_concluded_152 : decode cX12_concluded 152 = .ok (.iaload, 1) := by decide +kernel
theorem dX12_concluded_153 : decode cX12_concluded 153 = .ok (.ireturn, 1) := by decide +kernel
theorem dX12_laysSaying_0 : decode cX12_laysSaying 0 = .ok (.aload_n 0, 1) := by decide +kernel
theorem dX12_laysSaying_1 : decode cX12_laysSaying 1 = .ok (.aload_n 0, 1) := by decide +kernel
theorem dX12_laysSaying_2 : decode cX12_laysSaying 2 = .ok (.getfield 25, 3) := by decide +kernel
theorem dX12_laysSaying_5 : decode cX12_laysSaying 5 = .ok (.iload_n 1, 1) := by decide +kernel
theorem dX12_laysSaying_6 : decode cX12_laysSaying 6 = .ok (.iaload, 1) := by decide +kernel
theorem dX12_laysSaying_7 : decode cX12_laysSaying 7 = .ok (.putfield 118, 3) := by decide +kernel
theorem dX12_laysSaying_10 : decode cX12_laysSaying 10 = .ok (.iconst 0, 1) := by decide +kernel
theorem dX12_laysSaying_11 : decode cX12_laysSaying 11 = .ok (.istore_n 2, 1) := by decide +kernel
theorem dX12_laysSaying_12 : decode cX12_laysSaying 12 = .ok (.iload_n 2, 1) := by decide +kernel
theorem dX12_laysSaying_13 : decode cX12_laysSaying 13 = .ok (.aload_n 0, 1) := by decide +kernel
theorem dX12_laysSaying_14 : decode cX12_laysSaying 14 = .ok (.getfield 118, 3) := by decide +kernel
theorem dX12_laysSaying_17 : decode cX12_laysSaying 17 = .ok (.if_icmp .ge 26, 3) := by decide +kernel
theorem dX12_laysSaying_20 : decode cX12_laysSaying 20 = .ok (.aload_n 0, 1) := by decide +kernel
theorem dX12_laysSaying_21 : decode cX12_laysSaying 21 = .ok (.getfield 52, 3) := by decide +kernel
theorem dX12_laysSaying_24 : decode cX12_laysSaying 24 = .ok (.iload_n 2, 1) := by decide +kernel
theorem dX12_laysSaying_25 : decode cX12_laysSaying 25 = .ok (.aload_n 0, 1) := by decide +kernel
theorem dX12_laysSaying_26 : decode cX12_laysSaying 26 = .ok (.getfield 28, 3) := by decide +kernel
theorem dX12_laysSaying_29 : decode cX12_laysSaying 29 = .ok (.bipush 20, 2) := by decide +kernel
theorem dX12_laysSaying_31 : decode cX12_laysSaying 31 = .ok (.iload_n 1, 1) := by decide +kernel
theorem dX12_laysSaying_32 : decode cX12_laysSaying 32 = .ok (.imul, 1) := by decide +kernel
theorem dX12_laysSaying_33 : decode cX12_laysSaying 33 = .ok (.iload_n 2, 1) := by decide +kernel
theorem dX12_laysSaying_34 : decode cX12_laysSaying 34 = .ok (.iadd, 1) := by decide +kernel
theorem dX12_laysSaying_35 : decode cX12_laysSaying 35 = .ok (.iaload, 1) := by decide +kernel
theorem dX12_laysSaying_36 : decode cX12_laysSaying 36 = .ok (.iastore, 1) := by decide +kernel
theorem dX12_laysSaying_37 : decode cX12_laysSaying 37 = .ok (.iinc 2 1, 3) := by decide +kernel
theorem dX12_laysSaying_40 : decode cX12_laysSaying 40 = .ok (.goto (-28), 3) := by decide +kernel
theorem dX12_laysSaying_43 : decode cX12_laysSaying 43 = .ok (.return_, 1) := by decide +kernel
theorem dX12_concludedFrom_0 : decode cX12_concludedFrom 0 = .ok (.aload_n 0, 1) := by decide +kernel
theorem dX12_concludedFrom_1 : decode cX12_concludedFrom 1 = .ok (.iload_n 2, 1) := by decide +kernel
theorem dX12_concludedFrom_2 : decode cX12_concludedFrom 2 = .ok (.invokevirtual 183, 3) := by decide +kernel
theorem dX12_concludedFrom_5 : decode cX12_concludedFrom 5 = .ok (.aload_n 0, 1) := by decide +kernel
theorem dX12_concludedFrom_6 : decode cX12_concludedFrom 6 = .ok (.iload_n 1, 1) := by decide +kernel
theorem dX12_concludedFrom_7 : decode cX12_concludedFrom 7 = .ok (.invokevirtual 125, 3) := by decide +kernel
theorem dX12_concludedFrom_10 : decode cX12_concludedFrom 10 = .ok (.ireturn, 1) := by decide +kernel
theorem dX12_stranger_0 : decode cX12_stranger 0 = .ok (.aload_n 0, 1) := by decide +kernel
theorem dX12_stranger_1 : decode cX12_stranger 1 = .ok (.iload_n 1, 1) := by decide +kernel
theorem dX12_stranger_2 : decode cX12_stranger 2 = .ok (.invokevirtual 128, 3) := by decide +kernel
theorem dX12_stranger_5 : decode cX12_stranger 5 = .ok (.ifCond .ne 9, 3) := by decide +kernel
theorem dX12_stranger_8 : decode cX12_stranger 8 = .ok (.aload_n 0, 1) := by decide +kernel
theorem dX12_stranger_9 : decode cX12_stranger 9 = .ok (.iconst (-1), 1) := by decide +kernel
theorem dX12_stranger_10 : decode cX12_stranger 10 = .ok (.invokevirtual 82, 3) := by decide +kernel
theorem dX12_stranger_13 : decode cX12_stranger 13 = .ok (.ireturn, 1) := by decide +kernel
theorem dX12_stranger_14 : decode cX12_stranger 14 = .ok (.iload_n 2, 1) := by decide +kernel
theorem dX12_stranger_15 : decode cX12_stranger 15 = .ok (.tableswitch 46 0 2 #[25, 32, 39], 25) := by decide +kernel
theorem dX12_stranger_40 : decode cX12_stranger 40 = .ok (.aload_n 0, 1) := by decide +kernel
theorem dX12_stranger_41 : decode cX12_stranger 41 = .ok (.getfield 13, 3) := by decide +kernel
theorem dX12_stranger_44 : decode cX12_stranger 44 = .ok (.iload_n 1, 1) := by decide +kernel
theorem dX12_stranger_45 : decode cX12_stranger 45 = .ok (.iaload, 1) := by decide +kernel
theorem dX12_stranger_46 : decode cX12_stranger 46 = .ok (.ireturn, 1) := by decide +kernel
theorem dX12_stranger_47 : decode cX12_stranger 47 = .ok (.aload_n 0, 1) := by decide +kernel
theorem dX12_stranger_48 : decode cX12_stranger 48 = .ok (.getfield 16, 3) := by decide +kernel
theorem dX12_stranger_51 : decode cX12_stranger 51 = .ok (.iload_n 1, 1) := by decide +kernel
theorem dX12_stranger_52 : decode cX12_stranger 52 = .ok (.iaload, 1) := by decide +kernel
theorem dX12_stranger_53 : decode cX12_stranger 53 = .ok (.ireturn, 1) := by decide +kernel
theorem dX12_stranger_54 : decode cX12_stranger 54 = .ok (.aload_n 0, 1) := by decide +kernel
theorem dX12_stranger_55 : decode cX12_stranger 55 = .ok (.getfield 19, 3) := by decide +kernel
theorem dX12_stranger_58 : decode cX12_stranger 58 = .ok (.iload_n 1, 1) := by decide +kernel
theorem dX12_stranger_59 : decode cX12_stranger 59 = .ok (.iaload, 1) := by decide +kernel
theorem dX12_stranger_60 : decode cX12_stranger 60 = .ok (.ireturn, 1) := by decide +kernel
theorem dX12_stranger_61 : decode cX12_stranger 61 = .ok (.aload_n 0, 1) := by decide +kernel
theorem dX12_stranger_62 : decode cX12_stranger 62 = .ok (.bipush (-2), 2) := by decide +kernel
theorem dX12_stranger_64 : decode cX12_stranger 64 = .ok (.invokevirtual 82, 3) := by decide +kernel
theorem dX12_stranger_67 : decode cX12_stranger 67 = .ok (.ireturn, 1) := by decide +kernel
theorem dX12_learn_0 : decode cX12_learn 0 = .ok (.aload_n 0, 1) := by decide +kernel
theorem dX12_learn_1 : decode cX12_learn 1 = .ok (.iload_n 1, 1) := by decide +kernel
theorem dX12_learn_2 : decode cX12_learn 2 = .ok (.invokevirtual 128, 3) := by decide +kernel
theorem dX12_learn_5 : decode cX12_learn 5 = .ok (.ifCond .eq 10, 3) := by decide +kernel
theorem dX12_learn_8 : decode cX12_learn 8 = .ok (.iload_n 2, 1) := by decide +kernel
theorem dX12_learn_9 : decode cX12_learn 9 = .ok (.invokestatic 186, 3) := by decide +kernel
theorem dX12_learn_12 : decode cX12_learn 12 = .ok (.ifCond .ne 9, 3) := by decide +kernel
theorem dX12_learn_15 : decode cX12_learn 15 = .ok (.aload_n 0, 1) := by decide +kernel
theorem dX12_learn_16 : decode cX12_learn 16 = .ok (.iconst (-1), 1) := by decide +kernel
theorem dX12_learn_17 : decode cX12_learn 17 = .ok (.invokevirtual 82, 3) := by decide +kernel
theorem dX12_learn_20 : decode cX12_learn 20 = .ok (.ireturn, 1) := by decide +kernel
theorem dX12_learn_21 : decode cX12_learn 21 = .ok (.iload_n 3, 1) := by decide +kernel
theorem dX12_learn_22 : decode cX12_learn 22 = .ok (.iconst 0, 1) := by decide +kernel
theorem dX12_learn_23 : decode cX12_learn 23 = .ok (.iconst 1, 1) := by decide +kernel
theorem dX12_learn_24 : decode cX12_learn 24 = .ok (.invokestatic 89, 3) := by decide +kernel
theorem dX12_learn_27 : decode cX12_learn 27 = .ok (.ifCond .ne 10, 3) := by decide +kernel
theorem dX12_learn_30 : decode cX12_learn 30 = .ok (.aload_n 0, 1) := by decide +kernel
theorem dX12_learn_31 : decode cX12_learn 31 = .ok (.bipush (-2), 2) := by decide +kernel
theorem dX12_learn_33 : decode cX12_learn 33 = .ok (.invokevirtual 82, 3) := by decide +kernel
theorem dX12_learn_36 : decode cX12_learn 36 = .ok (.ireturn, 1) := by decide +kernel
theorem dX12_learn_37 : decode cX12_learn 37 = .ok (.aload_n 0, 1) := by decide +kernel
theorem dX12_learn_38 : decode cX12_learn 38 = .ok (.getfield 19, 3) := by decide +kernel
theorem dX12_learn_41 : decode cX12_learn 41 = .ok (.iload_n 1, 1) := by decide +kernel
theorem dX12_learn_42 : decode cX12_learn 42 = .ok (.iaload, 1) := by decide +kernel
theorem dX12_learn_43 : decode cX12_learn 43 = .ok (.iload_n 2, 1) := by decide +kernel
theorem dX12_learn_44 : decode cX12_learn 44 = .ok (.ishr, 1) := by decide +kernel
theorem dX12_learn_45 : decode cX12_learn 45 = .ok (.iconst 1, 1) := by decide +kernel
theorem dX12_learn_46 : decode cX12_learn 46 = .ok (.iand, 1) := by decide +kernel
theorem dX12_learn_47 : decode cX12_learn 47 = .ok (.istore 4, 2) := by decide +kernel
theorem dX12_learn_49 : decode cX12_learn 49 = .ok (.aload_n 0, 1) := by decide +kernel
theorem dX12_learn_50 : decode cX12_learn 50 = .ok (.getfield 19, 3) := by decide +kernel
theorem dX12_learn_53 : decode cX12_learn 53 = .ok (.iload_n 1, 1) := by decide +kernel
theorem dX12_learn_54 : decode cX12_learn 54 = .ok (.aload_n 0, 1) := by decide +kernel
theorem dX12_learn_55 : decode cX12_learn 55 = .ok (.getfield 19, 3) := by decide +kernel
theorem dX12_learn_58 : decode cX12_learn 58 = .ok (.iload_n 1, 1) := by decide +kernel
theorem dX12_learn_59 : decode cX12_learn 59 = .ok (.iaload, 1) := by decide +kernel
theorem dX12_learn_60 : decode cX12_learn 60 = .ok (.iconst 1, 1) := by decide +kernel
theorem dX12_learn_61 : decode cX12_learn 61 = .ok (.iload_n 2, 1) := by decide +kernel
theorem dX12_learn_62 : decode cX12_learn 62 = .ok (.ishl, 1) := by decide +kernel
theorem dX12_learn_63 : decode cX12_learn 63 = .ok (.iconst (-1), 1) := by decide +kernel
theorem dX12_learn_64 : decode cX12_learn 64 = .ok (.ixor, 1) := by decide +kernel
theorem dX12_learn_65 : decode cX12_learn 65 = .ok (.iand, 1) := by decide +kernel
theorem dX12_learn_66 : decode cX12_learn 66 = .ok (.iload_n 3, 1) := by decide +kernel
theorem dX12_learn_67 : decode cX12_learn 67 = .ok (.iload_n 2, 1) := by decide +kernel
theorem dX12_learn_68 : decode cX12_learn 68 = .ok (.ishl, 1) := by decide +kernel
theorem dX12_learn_69 : decode cX12_learn 69 = .ok (.ior, 1) := by decide +kernel
theorem dX12_learn_70 : decode cX12_learn 70 = .ok (.iastore, 1) := by decide +kernel
theorem dX12_learn_71 : decode cX12_learn 71 = .ok (.iload 4, 2) := by decide +kernel
theorem dX12_learn_73 : decode cX12_learn 73 = .ok (.ireturn, 1) := by decide +kernel
theorem dX12_name_0 : decode cX12_name 0 = .ok (.iload_n 1, 1) := by decide +kernel
theorem dX12_name_1 : decode cX12_name 1 = .ok (.invokestatic 186, 3) := by decide +kernel
theorem dX12_name_4 : decode cX12_name 4 = .ok (.ifCond .eq 12, 3) := by decide +kernel
theorem dX12_name_7 : decode cX12_name 7 = .ok (.aload_n 0, 1) := by decide +kernel
theorem dX12_name_8 : decode cX12_name 8 = .ok (.getfield 22, 3) := by decide +kernel
theorem dX12_name_11 : decode cX12_name 11 = .ok (.iload_n 1, 1) := by decide +kernel
theorem dX12_name_12 : decode cX12_name 12 = .ok (.iaload, 1) := by decide +kernel
theorem dX12_name_13 : decode cX12_name 13 = .ok (.goto 8, 3) := by decide +kernel
theorem dX12_name_16 : decode cX12_name 16 = .ok (.aload_n 0, 1) := by decide +kernel
theorem dX12_name_17 : decode cX12_name 17 = .ok (.iconst (-1), 1) := by decide +kernel
theorem dX12_name_18 : decode cX12_name 18 = .ok (.invokevirtual 82, 3) := by decide +kernel
theorem dX12_name_21 : decode cX12_name 21 = .ok (.ireturn, 1) := by decide +kernel
theorem dX12_coin_0 : decode cX12_coin 0 = .ok (.iload_n 1, 1) := by decide +kernel
theorem dX12_coin_1 : decode cX12_coin 1 = .ok (.invokestatic 186, 3) := by decide +kernel
theorem dX12_coin_4 : decode cX12_coin 4 = .ok (.ifCond .ne 7, 3) := by decide +kernel
theorem dX12_coin_7 : decode cX12_coin 7 = .ok (.iconst (-1), 1) := by decide +kernel
theorem dX12_coin_8 : decode cX12_coin 8 = .ok (.goto 11, 3) := by decide +kernel
theorem dX12_coin_11 : decode cX12_coin 11 = .ok (.iload_n 2, 1) := by decide +kernel
theorem dX12_coin_12 : decode cX12_coin 12 = .ok (.iconst (-1), 1) := by decide +kernel
theorem dX12_coin_13 : decode cX12_coin 13 = .ok (.sipush 255, 3) := by decide +kernel
theorem dX12_coin_16 : decode cX12_coin 16 = .ok (.invokestatic 75, 3) := by decide +kernel
theorem dX12_coin_19 : decode cX12_coin 19 = .ok (.istore_n 3, 1) := by decide +kernel
theorem dX12_coin_20 : decode cX12_coin 20 = .ok (.iload_n 3, 1) := by decide +kernel
theorem dX12_coin_21 : decode cX12_coin 21 = .ok (.ifCond .eq 9, 3) := by decide +kernel
theorem dX12_coin_24 : decode cX12_coin 24 = .ok (.aload_n 0, 1) := by decide +kernel
theorem dX12_coin_25 : decode cX12_coin 25 = .ok (.iload_n 3, 1) := by decide +kernel
theorem dX12_coin_26 : decode cX12_coin 26 = .ok (.invokevirtual 82, 3) := by decide +kernel
theorem dX12_coin_29 : decode cX12_coin 29 = .ok (.ireturn, 1) := by decide +kernel
theorem dX12_coin_30 : decode cX12_coin 30 = .ok (.aload_n 0, 1) := by decide +kernel
theorem dX12_coin_31 : decode cX12_coin 31 = .ok (.getfield 22, 3) := by decide +kernel
theorem dX12_coin_34 : decode cX12_coin 34 = .ok (.iload_n 1, 1) := by decide +kernel
theorem dX12_coin_35 : decode cX12_coin 35 = .ok (.iaload, 1) := by decide +kernel
theorem dX12_coin_36 : decode cX12_coin 36 = .ok (.istore 4, 2) := by decide +kernel
theorem dX12_coin_38 : decode cX12_coin 38 = .ok (.aload_n 0, 1) := by decide +kernel
theorem dX12_coin_39 : decode cX12_coin 39 = .ok (.getfield 22, 3) := by decide +kernel
theorem dX12_coin_42 : decode cX12_coin 42 = .ok (.iload_n 1, 1) := by decide +kernel
theorem dX12_coin_43 : decode cX12_coin 43 = .ok (.iload_n 2, 1) := by decide +kernel
theorem dX12_coin_44 : decode cX12_coin 44 = .ok (.ifCond .ge 8, 3) := by decide +kernel
theorem dX12_coin_47 : decode cX12_coin 47 = .ok (.bipush (-9), 2) := by decide +kernel
theorem dX12_coin_49 : decode cX12_coin 49 = .ok (.goto 4, 3) := by decide +kernel
theorem dX12_coin_52 : decode cX12_coin 52 = .ok (.iload_n 2, 1) := by decide +kernel
theorem dX12_coin_53 : decode cX12_coin 53 = .ok (.iastore, 1) := by decide +kernel
theorem dX12_coin_54 : decode cX12_coin 54 = .ok (.iload 4, 2) := by decide +kernel
theorem dX12_coin_56 : decode cX12_coin 56 = .ok (.ireturn, 1) := by decide +kernel
theorem dX12_saying_0 : decode cX12_saying 0 = .ok (.aload_n 0, 1) := by decide +kernel
theorem dX12_saying_1 : decode cX12_saying 1 = .ok (.iload_n 1, 1) := by decide +kernel
theorem dX12_saying_2 : decode cX12_saying 2 = .ok (.invokevirtual 189, 3) := by decide +kernel
theorem dX12_saying_5 : decode cX12_saying 5 = .ok (.ifCond .ne 9, 3) := by decide +kernel
theorem dX12_saying_8 : decode cX12_saying 8 = .ok (.aload_n 0, 1) := by decide +kernel
theorem dX12_saying_9 : decode cX12_saying 9 = .ok (.iconst (-1), 1) := by decide +kernel
theorem dX12_saying_10 : decode cX12_saying 10 = .ok (.invokevirtual 82, 3) := by decide +kernel
theorem dX12_saying_13 : decode cX12_saying 13 = .ok (.ireturn, 1) := by decide +kernel
theorem dX12_saying_14 : decode cX12_saying 14 = .ok (.iload_n 2, 1) := by decide +kernel
theorem dX12_saying_15 : decode cX12_saying 15 = .ok (.iconst (-1), 1) := by decide +kernel
theorem dX12_saying_16 : decode cX12_saying 16 = .ok (.if_icmp .ge 10, 3) := by decide +kernel
theorem dX12_saying_19 : decode cX12_saying 19 = .ok (.aload_n 0, 1) := by decide +kernel
theorem dX12_saying_20 : decode cX12_saying 20 = .ok (.bipush (-4), 2) := by decide +kernel
theorem dX12_saying_22 : decode cX12_saying 22 = .ok (.invokevirtual 82, 3) := by decide +kernel
theorem dX12_saying_25 : decode cX12_saying 25 = .ok (.ireturn, 1) := by decide +kernel
theorem dX12_saying_26 : decode cX12_saying 26 = .ok (.iload_n 2, 1) := by decide +kernel
theorem dX12_saying_27 : decode cX12_saying 27 = .ok (.ifCond .ge 12, 3) := by decide +kernel
theorem dX12_saying_30 : decode cX12_saying 30 = .ok (.aload_n 0, 1) := by decide +kernel
theorem dX12_saying_31 : decode cX12_saying 31 = .ok (.getfield 25, 3) := by decide +kernel
theorem dX12_saying_34 : decode cX12_saying 34 = .ok (.iload_n 1, 1) := by decide +kernel
theorem dX12_saying_35 : decode cX12_saying 35 = .ok (.iaload, 1) := by decide +kernel
theorem dX12_saying_36 : decode cX12_saying 36 = .ok (.goto 33, 3) := by decide +kernel
theorem dX12_saying_39 : decode cX12_saying 39 = .ok (.iload_n 2, 1) := by decide +kernel
theorem dX12_saying_40 : decode cX12_saying 40 = .ok (.aload_n 0, 1) := by decide +kernel
theorem dX12_saying_41 : decode cX12_saying 41 = .ok (.getfield 25, 3) := by decide +kernel
theorem dX12_saying_44 : decode cX12_saying 44 = .ok (.iload_n 1, 1) := by decide +kernel
theorem dX12_saying_45 : decode cX12_saying 45 = .ok (.iaload, 1) := by decide +kernel
theorem dX12_saying_46 : decode cX12_saying 46 = .ok (.if_icmp .ge 21, 3) := by decide +kernel
theorem dX12_saying_49 : decode cX12_saying 49 = .ok (.getstatic 192, 3) := by decide +kernel
theorem dX12_saying_52 : decode cX12_saying 52 = .ok (.aload_n 0, 1) := by decide +kernel
theorem dX12_saying_53 : decode cX12_saying 53 = .ok (.getfield 28, 3) := by decide +kernel
theorem dX12_saying_56 : decode cX12_saying 56 = .ok (.bipush 20, 2) := by decide +kernel
theorem dX12_saying_58 : decode cX12_saying 58 = .ok (.iload_n 1, 1) := by decide +kernel
theorem dX12_saying_59 : decode cX12_saying 59 = .ok (.imul, 1) := by decide +kernel
theorem dX12_saying_60 : decode cX12_saying 60 = .ok (.iload_n 2, 1) := by decide +kernel
theorem dX12_saying_61 : decode cX12_saying 61 = .ok (.iadd, 1) := by decide +kernel
theorem dX12_saying_62 : decode cX12_saying 62 = .ok (.iaload, 1) := by decide +kernel
theorem dX12_saying_63 : decode cX12_saying 63 = .ok (.iaload, 1) := by decide +kernel
theorem dX12_saying_64 : decode cX12_saying 64 = .ok (.goto 5, 3) := by decide +kernel
theorem dX12_saying_67 : decode cX12_saying 67 = .ok (.bipush (-9), 2) := by decide +kernel
theorem dX12_saying_69 : decode cX12_saying 69 = .ok (.ireturn, 1) := by decide +kernel
theorem dX12_leave_0 : decode cX12_leave 0 = .ok (.aload_n 0, 1) := by decide +kernel
theorem dX12_leave_1 : decode cX12_leave 1 = .ok (.getfield 72, 3) := by decide +kernel
theorem dX12_leave_4 : decode cX12_leave 4 = .ok (.ifCond .ne 10, 3) := by decide +kernel
theorem dX12_leave_7 : decode cX12_leave 7 = .ok (.aload_n 0, 1) := by decide +kernel
theorem dX12_leave_8 : decode cX12_leave 8 = .ok (.bipush (-3), 2) := by decide +kernel
theorem dX12_leave_10 : decode cX12_leave 10 = .ok (.invokevirtual 82, 3) := by decide +kernel
theorem dX12_leave_13 : decode cX12_leave 13 = .ok (.ireturn, 1) := by decide +kernel
theorem dX12_leave_14 : decode cX12_leave 14 = .ok (.aload_n 0, 1) := by decide +kernel
theorem dX12_leave_15 : decode cX12_leave 15 = .ok (.dup, 1) := by decide +kernel
theorem dX12_leave_16 : decode cX12_leave 16 = .ok (.getfield 72, 3) := by decide +kernel
theorem dX12_leave_19 : decode cX12_leave 19 = .ok (.iconst 1, 1) := by decide +kernel
theorem dX12_leave_20 : decode cX12_leave 20 = .ok (.isub, 1) := by decide +kernel
theorem dX12_leave_21 : decode cX12_leave 21 = .ok (.putfield 72, 3) := by decide +kernel
theorem dX12_leave_24 : decode cX12_leave 24 = .ok (.aload_n 0, 1) := by decide +kernel
theorem dX12_leave_25 : decode cX12_leave 25 = .ok (.getfield 72, 3) := by decide +kernel
theorem dX12_leave_28 : decode cX12_leave 28 = .ok (.ireturn, 1) := by decide +kernel
theorem dX12_concludes_0 : decode cX12_concludes 0 = .ok (.aload_n 0, 1) := by decide +kernel
theorem dX12_concludes_1 : decode cX12_concludes 1 = .ok (.iload_n 1, 1) := by decide +kernel
theorem dX12_concludes_2 : decode cX12_concludes 2 = .ok (.invokevirtual 195, 3) := by decide +kernel
theorem dX12_concludes_5 : decode cX12_concludes 5 = .ok (.ifCond .eq 20, 3) := by decide +kernel
theorem dX12_concludes_8 : decode cX12_concludes 8 = .ok (.aload_n 0, 1) := by decide +kernel
theorem dX12_concludes_9 : decode cX12_concludes 9 = .ok (.iload_n 2, 1) := by decide +kernel
theorem dX12_concludes_10 : decode cX12_concludes 10 = .ok (.invokevirtual 189, 3) := by decide +kernel
theorem dX12_concludes_13 : decode cX12_concludes 13 = .ok (.ifCond .eq 12, 3) := by decide +kernel
theorem dX12_concludes_16 : decode cX12_concludes 16 = .ok (.aload_n 0, 1) := by decide +kernel
theorem dX12_concludes_17 : decode cX12_concludes 17 = .ok (.iload_n 1, 1) := by decide +kernel
theorem dX12_concludes_18 : decode cX12_concludes 18 = .ok (.iload_n 2, 1) := by decide +kernel
theorem dX12_concludes_19 : decode cX12_concludes 19 = .ok (.invokevirtual 198, 3) := by decide +kernel
theorem dX12_concludes_22 : decode cX12_concludes 22 = .ok (.goto 8, 3) := by decide +kernel
theorem dX12_concludes_25 : decode cX12_concludes 25 = .ok (.aload_n 0, 1) := by decide +kernel
theorem dX12_concludes_26 : decode cX12_concludes 26 = .ok (.iconst (-1), 1) := by decide +kernel
theorem dX12_concludes_27 : decode cX12_concludes 27 = .ok (.invokevirtual 82, 3) := by decide +kernel
theorem dX12_concludes_30 : decode cX12_concludes 30 = .ok (.ireturn, 1) := by decide +kernel
theorem dX12_parts_0 : decode cX12_parts 0 = .ok (.aload_n 0, 1) := by decide +kernel
theorem dX12_parts_1 : decode cX12_parts 1 = .ok (.iload_n 1, 1) := by decide +kernel
theorem dX12_parts_2 : decode cX12_parts 2 = .ok (.invokevirtual 195, 3) := by decide +kernel
theorem dX12_parts_5 : decode cX12_parts 5 = .ok (.ifCond .eq 24, 3) := by decide +kernel
theorem dX12_parts_8 : decode cX12_parts 8 = .ok (.aload_n 0, 1) := by decide +kernel
theorem dX12_parts_9 : decode cX12_parts 9 = .ok (.iload_n 2, 1) := by decide +kernel
theorem dX12_parts_10 : decode cX12_parts 10 = .ok (.invokevirtual 189, 3) := by decide +kernel
theorem dX12_parts_13 : decode cX12_parts 13 = .ok (.ifCond .eq 16, 3) := by decide +kernel
theorem dX12_parts_16 : decode cX12_parts 16 = .ok (.aload_n 0, 1) := by decide +kernel
theorem dX12_parts_17 : decode cX12_parts 17 = .ok (.iload_n 3, 1) := by decide +kernel
theorem dX12_parts_18 : decode cX12_parts 18 = .ok (.invokevirtual 189, 3) := by decide +kernel
theorem dX12_parts_21 : decode cX12_parts 21 = .ok (.ifCond .eq 8, 3) := by decide +kernel
theorem dX12_parts_24 : decode cX12_parts 24 = .ok (.iload_n 2, 1) := by decide +kernel
theorem dX12_parts_25 : decode cX12_parts 25 = .ok (.iload_n 3, 1) := by decide +kernel
theorem dX12_parts_26 : decode cX12_parts 26 = .ok (.if_icmp .ne 9, 3) := by decide +kernel
theorem dX12_parts_29 : decode cX12_parts 29 = .ok (.aload_n 0, 1) := by decide +kernel
theorem dX12_parts_30 : decode cX12_parts 30 = .ok (.iconst (-1), 1) := by decide +kernel
theorem dX12_parts_31 : decode cX12_parts 31 = .ok (.invokevirtual 82, 3) := by decide +kernel
theorem dX12_parts_34 : decode cX12_parts 34 = .ok (.ireturn, 1) := by decide +kernel
theorem dX12_parts_35 : decode cX12_parts 35 = .ok (.aload_n 0, 1) := by decide +kernel
theorem dX12_parts_36 : decode cX12_parts 36 = .ok (.iload_n 1, 1) := by decide +kernel
theorem dX12_parts_37 : decode cX12_parts 37 = .ok (.iload_n 2, 1) := by decide +kernel
theorem dX12_parts_38 : decode cX12_parts 38 = .ok (.invokevirtual 198, 3) := by decide +kernel
theorem dX12_parts_41 : decode cX12_parts 41 = .ok (.aload_n 0, 1) := by decide +kernel
theorem dX12_parts_42 : decode cX12_parts 42 = .ok (.iload_n 1, 1) := by decide +kernel
theorem dX12_parts_43 : decode cX12_parts 43 = .ok (.iload_n 3, 1) := by decide +kernel
theorem dX12_parts_44 : decode cX12_parts 44 = .ok (.invokevirtual 198, 3) := by decide +kernel
theorem dX12_parts_47 : decode cX12_parts 47 = .ok (.ixor, 1) := by decide +kernel
theorem dX12_parts_48 : decode cX12_parts 48 = .ok (.istore 4, 2) := by decide +kernel
theorem dX12_parts_50 : decode cX12_parts 50 = .ok (.iconst 0, 1) := by decide +kernel
theorem dX12_parts_51 : decode cX12_parts 51 = .ok (.istore 5, 2) := by decide +kernel
theorem dX12_parts_53 : decode cX12_parts 53 = .ok (.iload 5, 2) := by decide +kernel
theorem dX12_parts_55 : decode cX12_parts 55 = .ok (.bipush 8, 2) := by decide +kernel
theorem dX12_parts_57 : decode cX12_parts 57 = .ok (.if_icmp .ge 23, 3) := by decide +kernel
theorem dX12_parts_60 : decode cX12_parts 60 = .ok (.iload 4, 2) := by decide +kernel
theorem dX12_parts_62 : decode cX12_parts 62 = .ok (.iload 5, 2) := by decide +kernel
theorem dX12_parts_64 : decode cX12_parts 64 = .ok (.ishr, 1) := by decide +kernel
theorem dX12_parts_65 : decode cX12_parts 65 = .ok (.iconst 1, 1) := by decide +kernel
theorem dX12_parts_66 : decode cX12_parts 66 = .ok (.iand, 1) := by decide +kernel
theorem dX12_parts_67 : decode cX12_parts 67 = .ok (.iconst 1, 1) := by decide +kernel
theorem dX12_parts_68 : decode cX12_parts 68 = .ok (.if_icmp .ne 6, 3) := by decide +kernel
theorem dX12_parts_71 : decode cX12_parts 71 = .ok (.iload 5, 2) := by decide +kernel
theorem dX12_parts_73 : decode cX12_parts 73 = .ok (.ireturn, 1) := by decide +kernel
theorem dX12_parts_74 : decode cX12_parts 74 = .ok (.iinc 5 1, 3) := by decide +kernel
theorem dX12_parts_77 : decode cX12_parts 77 = .ok (.goto (-24), 3) := by decide +kernel
theorem dX12_parts_80 : decode cX12_parts 80 = .ok (.bipush (-9), 2) := by decide +kernel
theorem dX12_parts_82 : decode cX12_parts 82 = .ok (.ireturn, 1) := by decide +kernel
theorem dX12_doesBeat_0 : decode cX12_doesBeat 0 = .ok (.aload_n 0, 1) := by decide +kernel
theorem dX12_doesBeat_1 : decode cX12_doesBeat 1 = .ok (.getfield 25, 3) := by decide +kernel
theorem dX12_doesBeat_4 : decode cX12_doesBeat 4 = .ok (.iload_n 2, 1) := by decide +kernel
theorem dX12_doesBeat_5 : decode cX12_doesBeat 5 = .ok (.iaload, 1) := by decide +kernel
theorem dX12_doesBeat_6 : decode cX12_doesBeat 6 = .ok (.aload_n 0, 1) := by decide +kernel
theorem dX12_doesBeat_7 : decode cX12_doesBeat 7 = .ok (.getfield 25, 3) := by decide +kernel
theorem dX12_doesBeat_10 : decode cX12_doesBeat 10 = .ok (.iload_n 3, 1) := by decide +kernel
theorem dX12_doesBeat_11 : decode cX12_doesBeat 11 = .ok (.iaload, 1) := by decide +kernel
theorem dX12_doesBeat_12 : decode cX12_doesBeat 12 = .ok (.if_icmp .ge 22, 3) := by decide +kernel
theorem dX12_doesBeat_15 : decode cX12_doesBeat 15 = .ok (.aload_n 0, 1) := by decide +kernel
theorem dX12_doesBeat_16 : decode cX12_doesBeat 16 = .ok (.iload_n 1, 1) := by decide +kernel
theorem dX12_doesBeat_17 : decode cX12_doesBeat 17 = .ok (.iload_n 2, 1) := by decide +kernel
theorem dX12_doesBeat_18 : decode cX12_doesBeat 18 = .ok (.invokevirtual 198, 3) := by decide +kernel
theorem dX12_doesBeat_21 : decode cX12_doesBeat 21 = .ok (.aload_n 0, 1) := by decide +kernel
theorem dX12_doesBeat_22 : decode cX12_doesBeat 22 = .ok (.iload_n 1, 1) := by decide +kernel
theorem dX12_doesBeat_23 : decode cX12_doesBeat 23 = .ok (.iload_n 3, 1) := by decide +kernel
theorem dX12_doesBeat_24 : decode cX12_doesBeat 24 = .ok (.invokevirtual 198, 3) := by decide +kernel
theorem dX12_doesBeat_27 : decode cX12_doesBeat 27 = .ok (.if_icmp .ne 7, 3) := by decide +kernel
theorem dX12_doesBeat_30 : decode cX12_doesBeat 30 = .ok (.iconst 1, 1) := by decide +kernel
theorem dX12_doesBeat_31 : decode cX12_doesBeat 31 = .ok (.goto 4, 3) := by decide +kernel
theorem dX12_doesBeat_34 : decode cX12_doesBeat 34 = .ok (.iconst 0, 1) := by decide +kernel
theorem dX12_doesBeat_35 : decode cX12_doesBeat 35 = .ok (.ireturn, 1) := by decide +kernel
theorem dX12_won_0 : decode cX12_won 0 = .ok (.aload_n 0, 1) := by decide +kernel
theorem dX12_won_1 : decode cX12_won 1 = .ok (.iload_n 1, 1) := by decide +kernel
theorem dX12_won_2 : decode cX12_won 2 = .ok (.invokevirtual 195, 3) := by decide +kernel
theorem dX12_won_5 : decode cX12_won 5 = .ok (.ifCond .eq 11, 3) := by decide +kernel
theorem dX12_won_8 : decode cX12_won 8 = .ok (.aload_n 0, 1) := by decide +kernel
theorem dX12_won_9 : decode cX12_won 9 = .ok (.iload_n 2, 1) := by decide +kernel
theorem dX12_won_10 : decode cX12_won 10 = .ok (.invokevirtual 189, 3) := by decide +kernel
theorem dX12_won_13 : decode cX12_won 13 = .ok (.ifCond .ne 9, 3) := by decide +kernel
theorem dX12_won_16 : decode cX12_won 16 = .ok (.aload_n 0, 1) := by decide +kernel
theorem dX12_won_17 : decode cX12_won 17 = .ok (.iconst (-1), 1) := by decide +kernel
theorem dX12_won_18 : decode cX12_won 18 = .ok (.invokevirtual 82, 3) := by decide +kernel
theorem dX12_won_21 : decode cX12_won 21 = .ok (.ireturn, 1) := by decide +kernel
theorem dX12_won_22 : decode cX12_won 22 = .ok (.iconst 0, 1) := by decide +kernel
theorem dX12_won_23 : decode cX12_won 23 = .ok (.istore_n 3, 1) := by decide +kernel
theorem dX12_won_24 : decode cX12_won 24 = .ok (.iconst 0, 1) := by decide +kernel
theorem dX12_won_25 : decode cX12_won 25 = .ok (.istore 4, 2) := by decide +kernel
theorem dX12_won_27 : decode cX12_won 27 = .ok (.iload 4, 2) := by decide +kernel
theorem dX12_won_29 : decode cX12_won 29 = .ok (.aload_n 0, 1) := by decide +kernel
theorem dX12_won_30 : decode cX12_won 30 = .ok (.getfield 72, 3) := by decide +kernel
theorem dX12_won_33 : decode cX12_won 33 = .ok (.if_icmp .ge 28, 3) := by decide +kernel
theorem dX12_won_36 : decode cX12_won 36 = .ok (.iload_n 3, 1) := by decide +kernel
theorem dX12_won_37 : decode cX12_won 37 = .ok (.aload_n 0, 1) := by decide +kernel
theorem dX12_won_38 : decode cX12_won 38 = .ok (.iload_n 1, 1) := by decide +kernel
theorem dX12_won_39 : decode cX12_won 39 = .ok (.iload_n 2, 1) := by decide +kernel
theorem dX12_won_40 : decode cX12_won 40 = .ok (.iload 4, 2) := by decide +kernel
theorem dX12_won_42 : decode cX12_won 42 = .ok (.invokevirtual 201, 3) := by decide +kernel
theorem dX12_won_45 : decode cX12_won 45 = .ok (.ifCond .eq 7, 3) := by decide +kernel
theorem dX12_won_48 : decode cX12_won 48 = .ok (.iconst 1, 1) := by decide +kernel
theorem dX12_won_49 : decode cX12_won 49 = .ok (.goto 4, 3) := by decide +kernel
theorem dX12_won_52 : decode cX12_won 52 = .ok (.iconst 0, 1) := by decide +kernel
theorem dX12_won_53 : decode cX12_won 53 = .ok (.iadd, 1) := by decide +kernel
theorem dX12_won_54 : decode cX12_won 54 = .ok (.istore_n 3, 1) := by decide +kernel
theorem dX12_won_55 : decode cX12_won 55 = .ok (.iinc 4 1, 3) := by decide +kernel
theorem dX12_won_58 : decode cX12_won 58 = .ok (.goto (-31), 3) := by decide +kernel
theorem dX12_won_61 : decode cX12_won 61 = .ok (.iload_n 3, 1) := by decide +kernel
theorem dX12_won_62 : decode cX12_won 62 = .ok (.ireturn, 1) := by decide +kernel
theorem dX12_masters_0 : decode cX12_masters 0 = .ok (.aload_n 0, 1) := by decide +kernel
theorem dX12_masters_1 : decode cX12_masters 1 = .ok (.iload_n 1, 1) := by decide +kernel
theorem dX12_masters_2 : decode cX12_masters 2 = .ok (.invokevirtual 195, 3) := by decide +kernel
theorem dX12_masters_5 : decode cX12_masters 5 = .ok (.ifCond .ne 9, 3) := by decide +kernel
theorem dX12_masters_8 : decode cX12_masters 8 = .ok (.aload_n 0, 1) := by decide +kernel
theorem dX12_masters_9 : decode cX12_masters 9 = .ok (.iconst (-1), 1) := by decide +kernel
theorem dX12_masters_10 : decode cX12_masters 10 = .ok (.invokevirtual 82, 3) := by decide +kernel
theorem dX12_masters_13 : decode cX12_masters 13 = .ok (.ireturn, 1) := by decide +kernel
theorem dX12_masters_14 : decode cX12_masters 14 = .ok (.iconst 1, 1) := by decide +kernel
theorem dX12_masters_15 : decode cX12_masters 15 = .ok (.aload_n 0, 1) := by decide +kernel
theorem dX12_masters_16 : decode cX12_masters 16 = .ok (.getfield 72, 3) := by decide +kernel
theorem dX12_masters_19 : decode cX12_masters 19 = .ok (.ishl, 1) := by decide +kernel
theorem dX12_masters_20 : decode cX12_masters 20 = .ok (.iconst 1, 1) := by decide +kernel
theorem dX12_masters_21 : decode cX12_masters 21 = .ok (.isub, 1) := by decide +kernel
theorem dX12_masters_22 : decode cX12_masters 22 = .ok (.istore_n 2, 1) := by decide +kernel
theorem dX12_masters_23 : decode cX12_masters 23 = .ok (.iconst 0, 1) := by decide +kernel
theorem dX12_masters_24 : decode cX12_masters 24 = .ok (.istore_n 3, 1) := by decide +kernel
theorem dX12_masters_25 : decode cX12_masters 25 = .ok (.iload_n 3, 1) := by decide +kernel
theorem dX12_masters_26 : decode cX12_masters 26 = .ok (.aload_n 0, 1) := by decide +kernel
theorem dX12_masters_27 : decode cX12_masters 27 = .ok (.getfield 72, 3) := by decide +kernel
theorem dX12_masters_30 : decode cX12_masters 30 = .ok (.if_icmp .ge 50, 3) := by decide +kernel
theorem dX12_masters_33 : decode cX12_masters 33 = .ok (.iconst 0, 1) := by decide +kernel
theorem dX12_masters_34 : decode cX12_masters 34 = .ok (.istore 4, 2) := by decide +kernel
theorem dX12_masters_36 : decode cX12_masters 36 = .ok (.iload 4, 2) := by decide +kernel
theorem dX12_masters_38 : decode cX12_masters 38 = .ok (.aload_n 0, 1) := by decide +kernel
theorem dX12_masters_39 : decode cX12_masters 39 = .ok (.getfield 72, 3) := by decide +kernel
theorem dX12_masters_42 : decode cX12_masters 42 = .ok (.if_icmp .ge 32, 3) := by decide +kernel
theorem dX12_masters_45 : decode cX12_masters 45 = .ok (.iload_n 2, 1) := by decide +kernel
theorem dX12_masters_46 : decode cX12_masters 46 = .ok (.aload_n 0, 1) := by decide +kernel
theorem dX12_masters_47 : decode cX12_masters 47 = .ok (.iload_n 1, 1) := by decide +kernel
theorem dX12_masters_48 : decode cX12_masters 48 = .ok (.iload 4, 2) := by decide +kernel
theorem dX12_masters_50 : decode cX12_masters 50 = .ok (.iload_n 3, 1) := by decide +kernel
theorem dX12_masters_51 : decode cX12_masters 51 = .ok (.invokevirtual 201, 3) := by decide +kernel
theorem dX12_masters_54 : decode cX12_masters 54 = .ok (.ifCond .eq 11, 3) := by decide +kernel
theorem dX12_masters_57 : decode cX12_masters 57 = .ok (.iconst 1, 1) := by decide +kernel
theorem dX12_masters_58 : decode cX12_masters 58 = .ok (.iload_n 3, 1) := by decide +kernel
theorem dX12_masters_59 : decode cX12_masters 59 = .ok (.ishl, 1) := by decide +kernel
theorem dX12_masters_60 : decode cX12_masters 60 = .ok (.iconst (-1), 1) := by decide +kernel
theorem dX12_masters_61 : decode cX12_masters 61 = .ok (.ixor, 1) := by decide +kernel
theorem dX12_masters_62 : decode cX12_masters 62 = .ok (.goto 4, 3) := by decide +kernel
theorem dX12_masters_65 : decode cX12_masters 65 = .ok (.iconst (-1), 1) := by decide +kernel
theorem dX12_masters_66 : decode cX12_masters 66 = .ok (.iand, 1) := by decide +kernel
theorem dX12_masters_67 : decode cX12_masters 67 = .ok (.istore_n 2, 1) := by decide +kernel
theorem dX12_masters_68 : decode cX12_masters 68 = .ok (.iinc 4 1, 3) := by decide +kernel
theorem dX12_masters_71 : decode cX12_masters 71 = .ok (.goto (-35), 3) := by decide +kernel
theorem dX12_masters_74 : decode cX12_masters 74 = .ok (.iinc 3 1, 3) := by decide +kernel
theorem dX12_masters_77 : decode cX12_masters 77 = .ok (.goto (-52), 3) := by decide +kernel
theorem dX12_masters_80 : decode cX12_masters 80 = .ok (.iload_n 2, 1) := by decide +kernel
theorem dX12_masters_81 : decode cX12_masters 81 = .ok (.ireturn, 1) := by decide +kernel
theorem dX12_lowers_0 : decode cX12_lowers 0 = .ok (.iload_n 2, 1) := by decide +kernel
theorem dX12_lowers_1 : decode cX12_lowers 1 = .ok (.aload_n 0, 1) := by decide +kernel
theorem dX12_lowers_2 : decode cX12_lowers 2 = .ok (.getfield 58, 3) := by decide +kernel
theorem dX12_lowers_5 : decode cX12_lowers 5 = .ok (.iload_n 1, 1) := by decide +kernel
theorem dX12_lowers_6 : decode cX12_lowers 6 = .ok (.iaload, 1) := by decide +kernel
theorem dX12_lowers_7 : decode cX12_lowers 7 = .ok (.if_icmp .lt 4, 3) := by decide +kernel
theorem dX12_lowers_10 : decode cX12_lowers 10 = .ok (.return_, 1) := by decide +kernel
theorem dX12_lowers_11 : decode cX12_lowers 11 = .ok (.aload_n 0, 1) := by decide +kernel
theorem dX12_lowers_12 : decode cX12_lowers 12 = .ok (.getfield 58, 3) := by decide +kernel
theorem dX12_lowers_15 : decode cX12_lowers 15 = .ok (.iload_n 1, 1) := by decide +kernel
theorem dX12_lowers_16 : decode cX12_lowers 16 = .ok (.iload_n 2, 1) := by decide +kernel
theorem dX12_lowers_17 : decode cX12_lowers 17 = .ok (.iastore, 1) := by decide +kernel
theorem dX12_lowers_18 : decode cX12_lowers 18 = .ok (.aload_n 0, 1) := by decide +kernel
theorem dX12_lowers_19 : decode cX12_lowers 19 = .ok (.iconst 1, 1) := by decide +kernel
theorem dX12_lowers_20 : decode cX12_lowers 20 = .ok (.putfield 204, 3) := by decide +kernel
theorem dX12_lowers_23 : decode cX12_lowers 23 = .ok (.return_, 1) := by decide +kernel
theorem dX12_goesOn_0 : decode cX12_goesOn 0 = .ok (.iconst 0, 1) := by decide +kernel
theorem dX12_goesOn_1 : decode cX12_goesOn 1 = .ok (.istore_n 2, 1) := by decide +kernel
theorem dX12_goesOn_2 : decode cX12_goesOn 2 = .ok (.iload_n 2, 1) := by decide +kernel
theorem dX12_goesOn_3 : decode cX12_goesOn 3 = .ok (.sipush 256, 3) := by decide +kernel
theorem dX12_goesOn_6 : decode cX12_goesOn 6 = .ok (.if_icmp .ge 124, 3) := by decide +kernel
theorem dX12_goesOn_9 : decode cX12_goesOn 9 = .ok (.aload_n 0, 1) := by decide +kernel
theorem dX12_goesOn_10 : decode cX12_goesOn 10 = .ok (.getfield 58, 3) := by decide +kernel
theorem dX12_goesOn_13 : decode cX12_goesOn 13 = .ok (.iload_n 2, 1) := by decide +kernel
theorem dX12_goesOn_14 : decode cX12_goesOn 14 = .ok (.iaload, 1) := by decide +kernel
theorem dX12_goesOn_15 : decode cX12_goesOn 15 = .ok (.sipush 1000, 3) := by decide +kernel
theorem dX12_goesOn_18 : decode cX12_goesOn 18 = .ok (.if_icmp .ne 6, 3) := by decide +kernel
theorem dX12_goesOn_21 : decode cX12_goesOn 21 = .ok (.goto 103, 3) := by decide +kernel
theorem dX12_goesOn_24 : decode cX12_goesOn 24 = .ok (.aload_n 0, 1) := by decide +kernel
theorem dX12_goesOn_25 : decode cX12_goesOn 25 = .ok (.aload_n 0, 1) := by decide +kernel
theorem dX12_goesOn_26 : decode cX12_goesOn 26 = .ok (.iload_n 1, 1) := by decide +kernel
theorem dX12_goesOn_27 : decode cX12_goesOn 27 = .ok (.iload_n 2, 1) := by decide +kernel
theorem dX12_goesOn_28 : decode cX12_goesOn 28 = .ok (.invokevirtual 174, 3) := by decide +kernel
theorem dX12_goesOn_31 : decode cX12_goesOn 31 = .ok (.aload_n 0, 1) := by decide +kernel
theorem dX12_goesOn_32 : decode cX12_goesOn 32 = .ok (.getfield 58, 3) := by decide +kernel
theorem dX12_goesOn_35 : decode cX12_goesOn 35 = .ok (.iload_n 2, 1) := by decide +kernel
theorem dX12_goesOn_36 : decode cX12_goesOn 36 = .ok (.iaload, 1) := by decide +kernel
theorem dX12_goesOn_37 : decode cX12_goesOn 37 = .ok (.iconst 1, 1) := by decide +kernel
theorem dX12_goesOn_38 : decode cX12_goesOn 38 = .ok (.iadd, 1) := by decide +kernel
theorem dX12_goesOn_39 : decode cX12_goesOn 39 = .ok (.invokevirtual 207, 3) := by decide +kernel
theorem dX12_goesOn_42 : decode cX12_goesOn 42 = .ok (.iconst 0, 1) := by decide +kernel
theorem dX12_goesOn_43 : decode cX12_goesOn 43 = .ok (.istore_n 3, 1) := by decide +kernel
theorem dX12_goesOn_44 : decode cX12_goesOn 44 = .ok (.iload_n 3, 1) := by decide +kernel
theorem dX12_goesOn_45 : decode cX12_goesOn 45 = .ok (.sipush 256, 3) := by decide +kernel
theorem dX12_goesOn_48 : decode cX12_goesOn 48 = .ok (.if_icmp .ge 76, 3) := by decide +kernel
theorem dX12_goesOn_51 : decode cX12_goesOn 51 = .ok (.aload_n 0, 1) := by decide +kernel
theorem dX12_goesOn_52 : decode cX12_goesOn 52 = .ok (.getfield 58, 3) := by decide +kernel
theorem dX12_goesOn_55 : decode cX12_goesOn 55 = .ok (.iload_n 3, 1) := by decide +kernel
theorem dX12_goesOn_56 : decode cX12_goesOn 56 = .ok (.iaload, 1) := by decide +kernel
theorem dX12_goesOn_57 : decode cX12_goesOn 57 = .ok (.sipush 1000, 3) := by decide +kernel
theorem dX12_goesOn_60 : decode cX12_goesOn 60 = .ok (.if_icmp .ne 6, 3) := by decide +kernel
theorem dX12_goesOn_63 : decode cX12_goesOn 63 = .ok (.goto 55, 3) := by decide +kernel
theorem dX12_goesOn_66 : decode cX12_goesOn 66 = .ok (.aload_n 0, 1) := by decide +kernel
theorem dX12_goesOn_67 : decode cX12_goesOn 67 = .ok (.aload_n 0, 1) := by decide +kernel
theorem dX12_goesOn_68 : decode cX12_goesOn 68 = .ok (.iload_n 1, 1) := by decide +kernel
theorem dX12_goesOn_69 : decode cX12_goesOn 69 = .ok (.iload_n 2, 1) := by decide +kernel
theorem dX12_goesOn_70 : decode cX12_goesOn 70 = .ok (.iload_n 3, 1) := by decide +kernel
theorem dX12_goesOn_71 : decode cX12_goesOn 71 = .ok (.invokevirtual 177, 3) := by decide +kernel
theorem dX12_goesOn_74 : decode cX12_goesOn 74 = .ok (.aload_n 0, 1) := by decide +kernel
theorem dX12_goesOn_75 : decode cX12_goesOn 75 = .ok (.getfield 58, 3) := by decide +kernel
theorem dX12_goesOn_78 : decode cX12_goesOn 78 = .ok (.iload_n 2, 1) := by decide +kernel
theorem dX12_goesOn_79 : decode cX12_goesOn 79 = .ok (.iaload, 1) := by decide +kernel
theorem dX12_goesOn_80 : decode cX12_goesOn 80 = .ok (.aload_n 0, 1) := by decide +kernel
theorem dX12_goesOn_81 : decode cX12_goesOn 81 = .ok (.getfield 58, 3) := by decide +kernel
theorem dX12_goesOn_84 : decode cX12_goesOn 84 = .ok (.iload_n 3, 1) := by decide +kernel
theorem dX12_goesOn_85 : decode cX12_goesOn 85 = .ok (.iaload, 1) := by decide +kernel
theorem dX12_goesOn_86 : decode cX12_goesOn 86 = .ok (.iadd, 1) := by decide +kernel
theorem dX12_goesOn_87 : decode cX12_goesOn 87 = .ok (.iconst 1, 1) := by decide +kernel
theorem dX12_goesOn_88 : decode cX12_goesOn 88 = .ok (.iadd, 1) := by decide +kernel
theorem dX12_goesOn_89 : decode cX12_goesOn 89 = .ok (.invokevirtual 207, 3) := by decide +kernel
theorem dX12_goesOn_92 : decode cX12_goesOn 92 = .ok (.aload_n 0, 1) := by decide +kernel
theorem dX12_goesOn_93 : decode cX12_goesOn 93 = .ok (.aload_n 0, 1) := by decide +kernel
theorem dX12_goesOn_94 : decode cX12_goesOn 94 = .ok (.iload_n 1, 1) := by decide +kernel
theorem dX12_goesOn_95 : decode cX12_goesOn 95 = .ok (.iload_n 2, 1) := by decide +kernel
theorem dX12_goesOn_96 : decode cX12_goesOn 96 = .ok (.iload_n 3, 1) := by decide +kernel
theorem dX12_goesOn_97 : decode cX12_goesOn 97 = .ok (.invokevirtual 180, 3) := by decide +kernel
theorem dX12_goesOn_100 : decode cX12_goesOn 100 = .ok (.aload_n 0, 1) := by decide +kernel
theorem dX12_goesOn_101 : decode cX12_goesOn 101 = .ok (.getfield 58, 3) := by decide +kernel
theorem dX12_goesOn_104 : decode cX12_goesOn 104 = .ok (.iload_n 2, 1) := by decide +kernel
theorem dX12_goesOn_105 : decode cX12_goesOn 105 = .ok (.iaload, 1) := by decide +kernel
theorem dX12_goesOn_106 : decode cX12_goesOn 106 = .ok (.aload_n 0, 1) := by decide +kernel
theorem dX12_goesOn_107 : decode cX12_goesOn 107 = .ok (.getfield 58, 3) := by decide +kernel
theorem dX12_goesOn_110 : decode cX12_goesOn 110 = .ok (.iload_n 3, 1) := by decide +kernel
theorem dX12_goesOn_111 : decode cX12_goesOn 111 = .ok (.iaload, 1) := by decide +kernel
theorem dX12_goesOn_112 : decode cX12_goesOn 112 = .ok (.iadd, 1) := by decide +kernel
theorem dX12_goesOn_113 : decode cX12_goesOn 113 = .ok (.iconst 1, 1) := by decide +kernel
theorem dX12_goesOn_114 : decode cX12_goesOn 114 = .ok (.iadd, 1) := by decide +kernel
theorem dX12_goesOn_115 : decode cX12_goesOn 115 = .ok (.invokevirtual 207, 3) := by decide +kernel
theorem dX12_goesOn_118 : decode cX12_goesOn 118 = .ok (.iinc 3 1, 3) := by decide +kernel
theorem dX12_goesOn_121 : decode cX12_goesOn 121 = .ok (.goto (-77), 3) := by decide +kernel
theorem dX12_goesOn_124 : decode cX12_goesOn 124 = .ok (.iinc 2 1, 3) := by decide +kernel
theorem dX12_goesOn_127 : decode cX12_goesOn 127 = .ok (.goto (-125), 3) := by decide +kernel
theorem dX12_goesOn_130 : decode cX12_goesOn 130 = .ok (.return_, 1) := by decide +kernel
theorem dX12_findShortest_0 : decode cX12_findShortest 0 = .ok (.iconst 0, 1) := by decide +kernel
theorem dX12_findShortest_1 : decode cX12_findShortest 1 = .ok (.istore_n 3, 1) := by decide +kernel
theorem dX12_findShortest_2 : decode cX12_findShortest 2 = .ok (.iload_n 3, 1) := by decide +kernel
theorem dX12_findShortest_3 : decode cX12_findShortest 3 = .ok (.sipush 256, 3) := by decide +kernel
theorem dX12_findShortest_6 : decode cX12_findShortest 6 = .ok (.if_icmp .ge 18, 3) := by decide +kernel
theorem dX12_findShortest_9 : decode cX12_findShortest 9 = .ok (.aload_n 0, 1) := by decide +kernel
theorem dX12_findShortest_10 : decode cX12_findShortest 10 = .ok (.getfield 58, 3) := by decide +kernel
theorem dX12_findShortest_13 : decode cX12_findShortest 13 = .ok (.iload_n 3, 1) := by decide +kernel
theorem dX12_findShortest_14 : decode cX12_findShortest 14 = .ok (.sipush 1000, 3) := by decide +kernel
theorem dX12_findShortest_17 : decode cX12_findShortest 17 = .ok (.iastore, 1) := by decide +kernel
theorem dX12_findShortest_18 : decode cX12_findShortest 18 = .ok (.iinc 3 1, 3) := by decide +kernel
theorem dX12_findShortest_21 : decode cX12_findShortest 21 = .ok (.goto (-19), 3) := by decide +kernel
theorem dX12_findShortest_24 : decode cX12_findShortest 24 = .ok (.iconst 0, 1) := by decide +kernel
theorem dX12_findShortest_25 : decode cX12_findShortest 25 = .ok (.istore_n 3, 1) := by decide +kernel
theorem dX12_findShortest_26 : decode cX12_findShortest 26 = .ok (.iload_n 3, 1) := by decide +kernel
theorem dX12_findShortest_27 : decode cX12_findShortest 27 = .ok (.iconst 3, 1) := by decide +kernel
theorem dX12_findShortest_28 : decode cX12_findShortest 28 = .ok (.if_icmp .ge 21, 3) := by decide +kernel
theorem dX12_findShortest_31 : decode cX12_findShortest 31 = .ok (.aload_n 0, 1) := by decide +kernel
theorem dX12_findShortest_32 : decode cX12_findShortest 32 = .ok (.getfield 58, 3) := by decide +kernel
theorem dX12_findShortest_35 : decode cX12_findShortest 35 = .ok (.aload_n 0, 1) := by decide +kernel
theorem dX12_findShortest_36 : decode cX12_findShortest 36 = .ok (.iload_n 1, 1) := by decide +kernel
theorem dX12_findShortest_37 : decode cX12_findShortest 37 = .ok (.iload_n 3, 1) := by decide +kernel
theorem dX12_findShortest_38 : decode cX12_findShortest 38 = .ok (.invokevirtual 171, 3) := by decide +kernel
theorem dX12_findShortest_41 : decode cX12_findShortest 41 = .ok (.iconst 1, 1) := by decide +kernel
theorem dX12_findShortest_42 : decode cX12_findShortest 42 = .ok (.iastore, 1) := by decide +kernel
theorem dX12_findShortest_43 : decode cX12_findShortest 43 = .ok (.iinc 3 1, 3) := by decide +kernel
theorem dX12_findShortest_46 : decode cX12_findShortest 46 = .ok (.goto (-20), 3) := by decide +kernel
theorem dX12_findShortest_49 : decode cX12_findShortest 49 = .ok (.iconst 0, 1) := by decide +kernel
theorem dX12_findShortest_50 : decode cX12_findShortest 50 = .ok (.istore_n 3, 1) := by decide +kernel
theorem dX12_findShortest_51 : decode cX12_findShortest 51 = .ok (.iload_n 3, 1) := by decide +kernel
theorem dX12_findShortest_52 : decode cX12_findShortest 52 = .ok (.iconst 4, 1) := by decide +kernel
theorem dX12_findShortest_53 : decode cX12_findShortest 53 = .ok (.if_icmp .ge 43, 3) := by decide +kernel
theorem dX12_findShortest_56 : decode cX12_findShortest 56 = .ok (.aload_n 0, 1) := by decide +kernel
theorem dX12_findShortest_57 : decode cX12_findShortest 57 = .ok (.iload_n 1, 1) := by decide +kernel
theorem dX12_findShortest_58 : decode cX12_findShortest 58 = .ok (.invokevirtual 164, 3) := by decide +kernel
theorem dX12_findShortest_61 : decode cX12_findShortest 61 = .ok (.iload_n 3, 1) := by decide +kernel
theorem dX12_findShortest_62 : decode cX12_findShortest 62 = .ok (.ishr, 1) := by decide +kernel
theorem dX12_findShortest_63 : decode cX12_findShortest 63 = .ok (.iconst 1, 1) := by decide +kernel
theorem dX12_findShortest_64 : decode cX12_findShortest 64 = .ok (.iand, 1) := by decide +kernel
theorem dX12_findShortest_65 : decode cX12_findShortest 65 = .ok (.iconst 1, 1) := by decide +kernel
theorem dX12_findShortest_66 : decode cX12_findShortest 66 = .ok (.if_icmp .ne 24, 3) := by decide +kernel
theorem dX12_findShortest_69 : decode cX12_findShortest 69 = .ok (.aload_n 0, 1) := by decide +kernel
theorem dX12_findShortest_70 : decode cX12_findShortest 70 = .ok (.getfield 22, 3) := by decide +kernel
theorem dX12_findShortest_73 : decode cX12_findShortest 73 = .ok (.iload_n 3, 1) := by decide +kernel
theorem dX12_findShortest_74 : decode cX12_findShortest 74 = .ok (.iaload, 1) := by decide +kernel
theorem dX12_findShortest_75 : decode cX12_findShortest 75 = .ok (.ifCond .lt 15, 3) := by decide +kernel
theorem dX12_findShortest_78 : decode cX12_findShortest 78 = .ok (.aload_n 0, 1) := by decide +kernel
theorem dX12_findShortest_79 : decode cX12_findShortest 79 = .ok (.getfield 58, 3) := by decide +kernel
theorem dX12_findShortest_82 : decode cX12_findShortest 82 = .ok (.aload_n 0, 1) := by decide +kernel
theorem dX12_findShortest_83 : decode cX12_findShortest 83 = .ok (.getfield 22, 3) := by decide +kernel
theorem dX12_findShortest_86 : decode cX12_findShortest 86 = .ok (.iload_n 3, 1) := by decide +kernel
theorem dX12_findShortest_87 : decode cX12_findShortest 87 = .ok (.iaload, 1) := by decide +kernel
theorem dX12_findShortest_88 : decode cX12_findShortest 88 = .ok (.iconst 1, 1) := by decide +kernel
theorem dX12_findShortest_89 : decode cX12_findShortest 89 = .ok (.iastore, 1) := by decide +kernel
theorem dX12_findShortest_90 : decode cX12_findShortest 90 = .ok (.iinc 3 1, 3) := by decide +kernel
theorem dX12_findShortest_93 : decode cX12_findShortest 93 = .ok (.goto (-42), 3) := by decide +kernel
theorem dX12_findShortest_96 : decode cX12_findShortest 96 = .ok (.iload_n 2, 1) := by decide +kernel
theorem dX12_findShortest_97 : decode cX12_findShortest 97 = .ok (.ifCond .lt 10, 3) := by decide +kernel
theorem dX12_findShortest_100 : decode cX12_findShortest 100 = .ok (.aload_n 0, 1) := by decide +kernel
theorem dX12_findShortest_101 : decode cX12_findShortest 101 = .ok (.getfield 58, 3) := by decide +kernel
theorem dX12_findShortest_104 : decode cX12_findShortest 104 = .ok (.iload_n 2, 1) := by decide +kernel
theorem dX12_findShortest_105 : decode cX12_findShortest 105 = .ok (.iconst 1, 1) := by decide +kernel
theorem dX12_findShortest_106 : decode cX12_findShortest 106 = .ok (.iastore, 1) := by decide +kernel
theorem dX12_findShortest_107 : decode cX12_findShortest 107 = .ok (.aload_n 0, 1) := by decide +kernel
theorem dX12_findShortest_108 : decode cX12_findShortest 108 = .ok (.iconst 1, 1) := by decide +kernel
theorem dX12_findShortest_109 : decode cX12_findShortest 109 = .ok (.putfield 204, 3) := by decide +kernel
theorem dX12_findShortest_112 : decode cX12_findShortest 112 = .ok (.aload_n 0, 1) := by decide +kernel
theorem dX12_findShortest_113 : decode cX12_findShortest 113 = .ok (.getfield 204, 3) := by decide +kernel
theorem dX12_findShortest_116 : decode cX12_findShortest 116 = .ok (.ifCond .eq 16, 3) := by decide +kernel
theorem dX12_findShortest_119 : decode cX12_findShortest 119 = .ok (.aload_n 0, 1) := by decide +kernel
theorem dX12_findShortest_120 : decode cX12_findShortest 120 = .ok (.iconst 0, 1) := by decide +kernel
theorem dX12_findShortest_121 : decode cX12_findShortest 121 = .ok (.putfield 204, 3) := by decide +kernel
theorem dX12_findShortest_124 : decode cX12_findShortest 124 = .ok (.aload_n 0, 1) := by decide +kernel
theorem dX12_findShortest_125 : decode cX12_findShortest 125 = .ok (.iload_n 1, 1) := by decide +kernel
theorem dX12_findShortest_126 : decode cX12_findShortest 126 = .ok (.invokevirtual 211, 3) := by decide +kernel
theorem dX12_findShortest_129 : decode cX12_findShortest 129 = .ok (.goto (-17), 3) := by decide +kernel
theorem dX12_findShortest_132 : decode cX12_findShortest 132 = .ok (.return_, 1) := by decide +kernel
theorem dX12_shortestOf_0 : decode cX12_shortestOf 0 = .ok (.aload_n 0, 1) := by decide +kernel
theorem dX12_shortestOf_1 : decode cX12_shortestOf 1 = .ok (.getfield 58, 3) := by decide +kernel
theorem dX12_shortestOf_4 : decode cX12_shortestOf 4 = .ok (.iload_n 1, 1) := by decide +kernel
theorem dX12_shortestOf_5 : decode cX12_shortestOf 5 = .ok (.iaload, 1) := by decide +kernel
theorem dX12_shortestOf_6 : decode cX12_shortestOf 6 = .ok (.sipush 1000, 3) := by decide +kernel
theorem dX12_shortestOf_9 : decode cX12_shortestOf 9 = .ok (.if_icmp .ne 8, 3) := by decide +kernel
theorem dX12_shortestOf_12 : decode cX12_shortestOf 12 = .ok (.bipush (-9), 2) := by decide +kernel
theorem dX12_shortestOf_14 : decode cX12_shortestOf 14 = .ok (.goto 9, 3) := by decide +kernel
theorem dX12_shortestOf_17 : decode cX12_shortestOf 17 = .ok (.aload_n 0, 1) := by decide +kernel
theorem dX12_shortestOf_18 : decode cX12_shortestOf 18 = .ok (.getfield 58, 3) := by decide +kernel
theorem dX12_shortestOf_21 : decode cX12_shortestOf 21 = .ok (.iload_n 1, 1) := by decide +kernel
theorem dX12_shortestOf_22 : decode cX12_shortestOf 22 = .ok (.iaload, 1) := by decide +kernel
theorem dX12_shortestOf_23 : decode cX12_shortestOf 23 = .ok (.ireturn, 1) := by decide +kernel
theorem dX12_shortest_0 : decode cX12_shortest 0 = .ok (.aload_n 0, 1) := by decide +kernel
theorem dX12_shortest_1 : decode cX12_shortest 1 = .ok (.iload_n 1, 1) := by decide +kernel
theorem dX12_shortest_2 : decode cX12_shortest 2 = .ok (.invokevirtual 195, 3) := by decide +kernel
theorem dX12_shortest_5 : decode cX12_shortest 5 = .ok (.ifCond .ne 7, 3) := by decide +kernel
theorem dX12_shortest_8 : decode cX12_shortest 8 = .ok (.iconst (-1), 1) := by decide +kernel
theorem dX12_shortest_9 : decode cX12_shortest 9 = .ok (.goto 11, 3) := by decide +kernel
theorem dX12_shortest_12 : decode cX12_shortest 12 = .ok (.iload_n 2, 1) := by decide +kernel
theorem dX12_shortest_13 : decode cX12_shortest 13 = .ok (.iconst 0, 1) := by decide +kernel
theorem dX12_shortest_14 : decode cX12_shortest 14 = .ok (.sipush 255, 3) := by decide +kernel
theorem dX12_shortest_17 : decode cX12_shortest 17 = .ok (.invokestatic 75, 3) := by decide +kernel
theorem dX12_shortest_20 : decode cX12_shortest 20 = .ok (.istore_n 3, 1) := by decide +kernel
theorem dX12_shortest_21 : decode cX12_shortest 21 = .ok (.iload_n 3, 1) := by decide +kernel
theorem dX12_shortest_22 : decode cX12_shortest 22 = .ok (.ifCond .eq 9, 3) := by decide +kernel
theorem dX12_shortest_25 : decode cX12_shortest 25 = .ok (.aload_n 0, 1) := by decide +kernel
theorem dX12_shortest_26 : decode cX12_shortest 26 = .ok (.iload_n 3, 1) := by decide +kernel
theorem dX12_shortest_27 : decode cX12_shortest 27 = .ok (.invokevirtual 82, 3) := by decide +kernel
theorem dX12_shortest_30 : decode cX12_shortest 30 = .ok (.ireturn, 1) := by decide +kernel
theorem dX12_shortest_31 : decode cX12_shortest 31 = .ok (.aload_n 0, 1) := by decide +kernel
theorem dX12_shortest_32 : decode cX12_shortest 32 = .ok (.iload_n 1, 1) := by decide +kernel
theorem dX12_shortest_33 : decode cX12_shortest 33 = .ok (.bipush (-9), 2) := by decide +kernel
theorem dX12_shortest_35 : decode cX12_shortest 35 = .ok (.invokevirtual 214, 3) := by decide +kernel
theorem dX12_shortest_38 : decode cX12_shortest 38 = .ok (.aload_n 0, 1) := by decide +kernel
theorem dX12_shortest_39 : decode cX12_shortest 39 = .ok (.iload_n 2, 1) := by decide +kernel
theorem dX12_shortest_40 : decode cX12_shortest 40 = .ok (.invokevirtual 217, 3) := by decide +kernel
theorem dX12_shortest_43 : decode cX12_shortest 43 = .ok (.ireturn, 1) := by decide +kernel
theorem dX12_cut_0 : decode cX12_cut 0 = .ok (.aload_n 0, 1) := by decide +kernel
theorem dX12_cut_1 : decode cX12_cut 1 = .ok (.iload_n 1, 1) := by decide +kernel
theorem dX12_cut_2 : decode cX12_cut 2 = .ok (.invokevirtual 195, 3) := by decide +kernel
theorem dX12_cut_5 : decode cX12_cut 5 = .ok (.ifCond .eq 11, 3) := by decide +kernel
theorem dX12_cut_8 : decode cX12_cut 8 = .ok (.aload_n 0, 1) := by decide +kernel
theorem dX12_cut_9 : decode cX12_cut 9 = .ok (.iload_n 2, 1) := by decide +kernel
theorem dX12_cut_10 : decode cX12_cut 10 = .ok (.invokevirtual 189, 3) := by decide +kernel
theorem dX12_cut_13 : decode cX12_cut 13 = .ok (.ifCond .ne 9, 3) := by decide +kernel
theorem dX12_cut_16 : decode cX12_cut 16 = .ok (.aload_n 0, 1) := by decide +kernel
theorem dX12_cut_17 : decode cX12_cut 17 = .ok (.iconst (-1), 1) := by decide +kernel
theorem dX12_cut_18 : decode cX12_cut 18 = .ok (.invokevirtual 220, 3) := by decide +kernel
theorem dX12_cut_21 : decode cX12_cut 21 = .ok (.ireturn, 1) := by decide +kernel
theorem dX12_cut_22 : decode cX12_cut 22 = .ok (.aload_n 0, 1) := by decide +kernel
theorem dX12_cut_23 : decode cX12_cut 23 = .ok (.iload_n 1, 1) := by decide +kernel
theorem dX12_cut_24 : decode cX12_cut 24 = .ok (.bipush (-9), 2) := by decide +kernel
theorem dX12_cut_26 : decode cX12_cut 26 = .ok (.invokevirtual 214, 3) := by decide +kernel
theorem dX12_cut_29 : decode cX12_cut 29 = .ok (.aload_n 0, 1) := by decide +kernel
theorem dX12_cut_30 : decode cX12_cut 30 = .ok (.aload_n 0, 1) := by decide +kernel
theorem dX12_cut_31 : decode cX12_cut 31 = .ok (.iload_n 1, 1) := by decide +kernel
theorem dX12_cut_32 : decode cX12_cut 32 = .ok (.iload_n 2, 1) := by decide +kernel
theorem dX12_cut_33 : decode cX12_cut 33 = .ok (.invokevirtual 198, 3) := by decide +kernel
theorem dX12_cut_36 : decode cX12_cut 36 = .ok (.invokevirtual 217, 3) := by decide +kernel
theorem dX12_cut_39 : decode cX12_cut 39 = .ok (.istore_n 3, 1) := by decide +kernel
theorem dX12_cut_40 : decode cX12_cut 40 = .ok (.iload_n 3, 1) := by decide +kernel
theorem dX12_cut_41 : decode cX12_cut 41 = .ok (.ifCond .ge 8, 3) := by decide +kernel
theorem dX12_cut_44 : decode cX12_cut 44 = .ok (.bipush (-9), 2) := by decide +kernel
theorem dX12_cut_46 : decode cX12_cut 46 = .ok (.goto 11, 3) := by decide +kernel
theorem dX12_cut_49 : decode cX12_cut 49 = .ok (.aload_n 0, 1) := by decide +kernel
theorem dX12_cut_50 : decode cX12_cut 50 = .ok (.getfield 25, 3) := by decide +kernel
theorem dX12_cut_53 : decode cX12_cut 53 = .ok (.iload_n 2, 1) := by decide +kernel
theorem dX12_cut_54 : decode cX12_cut 54 = .ok (.iaload, 1) := by decide +kernel
theorem dX12_cut_55 : decode cX12_cut 55 = .ok (.iload_n 3, 1) := by decide +kernel
theorem dX12_cut_56 : decode cX12_cut 56 = .ok (.isub, 1) := by decide +kernel
theorem dX12_cut_57 : decode cX12_cut 57 = .ok (.ireturn, 1) := by decide +kernel
theorem dX12_many_0 : decode cX12_many 0 = .ok (.aload_n 0, 1) := by decide +kernel
theorem dX12_many_1 : decode cX12_many 1 = .ok (.iload_n 1, 1) := by decide +kernel
theorem dX12_many_2 : decode cX12_many 2 = .ok (.invokevirtual 195, 3) := by decide +kernel
theorem dX12_many_5 : decode cX12_many 5 = .ok (.ifCond .ne 7, 3) := by decide +kernel
theorem dX12_many_8 : decode cX12_many 8 = .ok (.iconst (-1), 1) := by decide +kernel
theorem dX12_many_9 : decode cX12_many 9 = .ok (.goto 10, 3) := by decide +kernel
theorem dX12_many_12 : decode cX12_many 12 = .ok (.iload_n 2, 1) := by decide +kernel
theorem dX12_many_13 : decode cX12_many 13 = .ok (.iconst 1, 1) := by decide +kernel
theorem dX12_many_14 : decode cX12_many 14 = .ok (.bipush 20, 2) := by decide +kernel
theorem dX12_many_16 : decode cX12_many 16 = .ok (.invokestatic 75, 3) := by decide +kernel
theorem dX12_many_19 : decode cX12_many 19 = .ok (.istore_n 3, 1) := by decide +kernel
theorem dX12_many_20 : decode cX12_many 20 = .ok (.iload_n 3, 1) := by decide +kernel
theorem dX12_many_21 : decode cX12_many 21 = .ok (.ifCond .eq 9, 3) := by decide +kernel
theorem dX12_many_24 : decode cX12_many 24 = .ok (.aload_n 0, 1) := by decide +kernel
theorem dX12_many_25 : decode cX12_many 25 = .ok (.iload_n 3, 1) := by decide +kernel
theorem dX12_many_26 : decode cX12_many 26 = .ok (.invokevirtual 82, 3) := by decide +kernel
theorem dX12_many_29 : decode cX12_many 29 = .ok (.ireturn, 1) := by decide +kernel
theorem dX12_many_30 : decode cX12_many 30 = .ok (.aload_n 0, 1) := by decide +kernel
theorem dX12_many_31 : decode cX12_many 31 = .ok (.iload_n 1, 1) := by decide +kernel
theorem dX12_many_32 : decode cX12_many 32 = .ok (.bipush (-9), 2) := by decide +kernel
theorem dX12_many_34 : decode cX12_many 34 = .ok (.invokevirtual 214, 3) := by decide +kernel
theorem dX12_many_37 : decode cX12_many 37 = .ok (.iconst 0, 1) := by decide +kernel
theorem dX12_many_38 : decode cX12_many 38 = .ok (.istore 4, 2) := by decide +kernel
theorem dX12_many_40 : decode cX12_many 40 = .ok (.iconst 0, 1) := by decide +kernel
theorem dX12_many_41 : decode cX12_many 41 = .ok (.istore 5, 2) := by decide +kernel
theorem dX12_many_43 : decode cX12_many 43 = .ok (.iload 5, 2) := by decide +kernel
theorem dX12_many_45 : decode cX12_many 45 = .ok (.sipush 256, 3) := by decide +kernel
theorem dX12_many_48 : decode cX12_many 48 = .ok (.if_icmp .ge 30, 3) := by decide +kernel
theorem dX12_many_51 : decode cX12_many 51 = .ok (.iload 4, 2) := by decide +kernel
theorem dX12_many_53 : decode cX12_many 53 = .ok (.aload_n 0, 1) := by decide +kernel
theorem dX12_many_54 : decode cX12_many 54 = .ok (.getfield 58, 3) := by decide +kernel
theorem dX12_many_57 : decode cX12_many 57 = .ok (.iload 5, 2) := by decide +kernel
theorem dX12_many_59 : decode cX12_many 59 = .ok (.iaload, 1) := by decide +kernel
theorem dX12_many_60 : decode cX12_many 60 = .ok (.iload_n 2, 1) := by decide +kernel
theorem dX12_many_61 : decode cX12_many 61 = .ok (.if_icmp .ne 7, 3) := by decide +kernel
theorem dX12_many_64 : decode cX12_many 64 = .ok (.iconst 1, 1) := by decide +kernel
theorem dX12_many_65 : decode cX12_many 65 = .ok (.goto 4, 3) := by decide +kernel
theorem dX12_many_68 : decode cX12_many 68 = .ok (.iconst 0, 1) := by decide +kernel
theorem dX12_many_69 : decode cX12_many 69 = .ok (.iadd, 1) := by decide +kernel
theorem dX12_many_70 : decode cX12_many 70 = .ok (.istore 4, 2) := by decide +kernel
theorem dX12_many_72 : decode cX12_many 72 = .ok (.iinc 5 1, 3) := by decide +kernel
theorem dX12_many_75 : decode cX12_many 75 = .ok (.goto (-32), 3) := by decide +kernel
theorem dX12_many_78 : decode cX12_many 78 = .ok (.iload 4, 2) := by decide +kernel
theorem dX12_many_80 : decode cX12_many 80 = .ok (.ireturn, 1) := by decide +kernel
theorem dX12_farthest_0 : decode cX12_farthest 0 = .ok (.aload_n 0, 1) := by decide +kernel
theorem dX12_farthest_1 : decode cX12_farthest 1 = .ok (.iload_n 1, 1) := by decide +kernel
theorem dX12_farthest_2 : decode cX12_farthest 2 = .ok (.invokevirtual 195, 3) := by decide +kernel
theorem dX12_farthest_5 : decode cX12_farthest 5 = .ok (.ifCond .ne 9, 3) := by decide +kernel
theorem dX12_farthest_8 : decode cX12_farthest 8 = .ok (.aload_n 0, 1) := by decide +kernel
theorem dX12_farthest_9 : decode cX12_farthest 9 = .ok (.iconst (-1), 1) := by decide +kernel
theorem dX12_farthest_10 : decode cX12_farthest 10 = .ok (.invokevirtual 82, 3) := by decide +kernel
theorem dX12_farthest_13 : decode cX12_farthest 13 = .ok (.ireturn, 1) := by decide +kernel
theorem dX12_farthest_14 : decode cX12_farthest 14 = .ok (.iload_n 2, 1) := by decide +kernel
theorem dX12_farthest_15 : decode cX12_farthest 15 = .ok (.iconst 0, 1) := by decide +kernel
theorem dX12_farthest_16 : decode cX12_farthest 16 = .ok (.iconst 1, 1) := by decide +kernel
theorem dX12_farthest_17 : decode cX12_farthest 17 = .ok (.invokestatic 89, 3) := by decide +kernel
theorem dX12_farthest_20 : decode cX12_farthest 20 = .ok (.ifCond .ne 10, 3) := by decide +kernel
theorem dX12_farthest_23 : decode cX12_farthest 23 = .ok (.aload_n 0, 1) := by decide +kernel
theorem dX12_farthest_24 : decode cX12_farthest 24 = .ok (.bipush (-2), 2) := by decide +kernel
theorem dX12_farthest_26 : decode cX12_farthest 26 = .ok (.invokevirtual 82, 3) := by decide +kernel
theorem dX12_farthest_29 : decode cX12_farthest 29 = .ok (.ireturn, 1) := by decide +kernel
theorem dX12_farthest_30 : decode cX12_farthest 30 = .ok (.aload_n 0, 1) := by decide +kernel
theorem dX12_farthest_31 : decode cX12_farthest 31 = .ok (.iload_n 1, 1) := by decide +kernel
theorem dX12_farthest_32 : decode cX12_farthest 32 = .ok (.bipush (-9), 2) := by decide +kernel
theorem dX12_farthest_34 : decode cX12_farthest 34 = .ok (.invokevirtual 214, 3) := by decide +kernel
theorem dX12_farthest_37 : decode cX12_farthest 37 = .ok (.sipush 170, 3) := by decide +kernel
theorem dX12_farthest_40 : decode cX12_farthest 40 = .ok (.istore_n 3, 1) := by decide +kernel
theorem dX12_farthest_41 : decode cX12_farthest 41 = .ok (.sipush 255, 3) := by decide +kernel
theorem dX12_farthest_44 : decode cX12_farthest 44 = .ok (.istore 4, 2) := by decide +kernel
theorem dX12_farthest_46 : decode cX12_farthest 46 = .ok (.iload 4, 2) := by decide +kernel
theorem dX12_farthest_48 : decode cX12_farthest 48 = .ok (.ifCond .lt 45, 3) := by decide +kernel
theorem dX12_farthest_51 : decode cX12_farthest 51 = .ok (.aload_n 0, 1) := by decide +kernel
theorem dX12_farthest_52 : decode cX12_farthest 52 = .ok (.getfield 58, 3) := by decide +kernel
theorem dX12_farthest_55 : decode cX12_farthest 55 = .ok (.iload 4, 2) := by decide +kernel
theorem dX12_farthest_57 : decode cX12_farthest 57 = .ok (.iaload, 1) := by decide +kernel
theorem dX12_farthest_58 : decode cX12_farthest 58 = .ok (.sipush 1000, 3) := by decide +kernel
theorem dX12_farthest_61 : decode cX12_farthest 61 = .ok (.if_icmp .ge 24, 3) := by decide +kernel
theorem dX12_farthest_64 : decode cX12_farthest 64 = .ok (.aload_n 0, 1) := by decide +kernel
theorem dX12_farthest_65 : decode cX12_farthest 65 = .ok (.getfield 58, 3) := by decide +kernel
theorem dX12_farthest_68 : decode cX12_farthest 68 = .ok (.iload 4, 2) := by decide +kernel
theorem dX12_farthest_70 : decode cX12_farthest 70 = .ok (.iaload, 1) := by decide +kernel
theorem dX12_farthest_71 : decode cX12_farthest 71 = .ok (.aload_n 0, 1) := by decide +kernel
theorem dX12_farthest_72 : decode cX12_farthest 72 = .ok (.getfield 58, 3) := by decide +kernel
theorem dX12_farthest_75 : decode cX12_farthest 75 = .ok (.iload_n 3, 1) := by decide +kernel
theorem dX12_farthest_76 : decode cX12_farthest 76 = .ok (.iaload, 1) := by decide +kernel
theorem dX12_farthest_77 : decode cX12_farthest 77 = .ok (.if_icmp .lt 8, 3) := by decide +kernel
theorem dX12_farthest_80 : decode cX12_farthest 80 = .ok (.iload 4, 2) := by decide +kernel
theorem dX12_farthest_82 : decode cX12_farthest 82 = .ok (.goto 4, 3) := by decide +kernel
theorem dX12_farthest_85 : decode cX12_farthest 85 = .ok (.iload_n 3, 1) := by decide +kernel
theorem dX12_farthest_86 : decode cX12_farthest 86 = .ok (.istore_n 3, 1) := by decide +kernel
theorem dX12_farthest_87 : decode cX12_farthest 87 = .ok (.iinc 4 (-1), 3) := by decide +kernel
theorem dX12_farthest_90 : decode cX12_farthest 90 = .ok (.goto (-44), 3) := by decide +kernel
theorem dX12_farthest_93 : decode cX12_farthest 93 = .ok (.iload_n 2, 1) := by decide +kernel
theorem dX12_farthest_94 : decode cX12_farthest 94 = .ok (.ifCond .ne 12, 3) := by decide +kernel
theorem dX12_farthest_97 : decode cX12_farthest 97 = .ok (.aload_n 0, 1) := by decide +kernel
theorem dX12_farthest_98 : decode cX12_farthest 98 = .ok (.getfield 58, 3) := by decide +kernel
theorem dX12_farthest_101 : decode cX12_farthest 101 = .ok (.iload_n 3, 1) := by decide +kernel
theorem dX12_farthest_102 : decode cX12_farthest 102 = .ok (.iaload, 1) := by decide +kernel
theorem dX12_farthest_103 : decode cX12_farthest 103 = .ok (.goto 4, 3) := by decide +kernel
theorem dX12_farthest_106 : decode cX12_farthest 106 = .ok (.iload_n 3, 1) := by decide +kernel
theorem dX12_farthest_107 : decode cX12_farthest 107 = .ok (.ireturn, 1) := by decide +kernel
theorem dX12_saves_0 : decode cX12_saves 0 = .ok (.aload_n 0, 1) := by decide +kernel
theorem dX12_saves_1 : decode cX12_saves 1 = .ok (.iload_n 1, 1) := by decide +kernel
theorem dX12_saves_2 : decode cX12_saves 2 = .ok (.invokevirtual 195, 3) := by decide +kernel
theorem dX12_saves_5 : decode cX12_saves 5 = .ok (.ifCond .ne 7, 3) := by decide +kernel
theorem dX12_saves_8 : decode cX12_saves 8 = .ok (.iconst (-1), 1) := by decide +kernel
theorem dX12_saves_9 : decode cX12_saves 9 = .ok (.goto 11, 3) := by decide +kernel
theorem dX12_saves_12 : decode cX12_saves 12 = .ok (.iload_n 2, 1) := by decide +kernel
theorem dX12_saves_13 : decode cX12_saves 13 = .ok (.iconst 0, 1) := by decide +kernel
theorem dX12_saves_14 : decode cX12_saves 14 = .ok (.sipush 255, 3) := by decide +kernel
theorem dX12_saves_17 : decode cX12_saves 17 = .ok (.invokestatic 75, 3) := by decide +kernel
theorem dX12_saves_20 : decode cX12_saves 20 = .ok (.istore_n 3, 1) := by decide +kernel
theorem dX12_saves_21 : decode cX12_saves 21 = .ok (.iload_n 3, 1) := by decide +kernel
theorem dX12_saves_22 : decode cX12_saves 22 = .ok (.ifCond .eq 9, 3) := by decide +kernel
theorem dX12_saves_25 : decode cX12_saves 25 = .ok (.aload_n 0, 1) := by decide +kernel
theorem dX12_saves_26 : decode cX12_saves 26 = .ok (.iload_n 3, 1) := by decide +kernel
theorem dX12_saves_27 : decode cX12_saves 27 = .ok (.invokevirtual 220, 3) := by decide +kernel
theorem dX12_saves_30 : decode cX12_saves 30 = .ok (.ireturn, 1) := by decide +kernel
theorem dX12_saves_31 : decode cX12_saves 31 = .ok (.aload_n 0, 1) := by decide +kernel
theorem dX12_saves_32 : decode cX12_saves 32 = .ok (.iload_n 1, 1) := by decide +kernel
theorem dX12_saves_33 : decode cX12_saves 33 = .ok (.bipush (-9), 2) := by decide +kernel
theorem dX12_saves_35 : decode cX12_saves 35 = .ok (.invokevirtual 214, 3) := by decide +kernel
theorem dX12_saves_38 : decode cX12_saves 38 = .ok (.aload_n 0, 1) := by decide +kernel
theorem dX12_saves_39 : decode cX12_saves 39 = .ok (.iload_n 2, 1) := by decide +kernel
theorem dX12_saves_40 : decode cX12_saves 40 = .ok (.invokevirtual 217, 3) := by decide +kernel
theorem dX12_saves_43 : decode cX12_saves 43 = .ok (.istore 4, 2) := by decide +kernel
theorem dX12_saves_45 : decode cX12_saves 45 = .ok (.iload 4, 2) := by decide +kernel
theorem dX12_saves_47 : decode cX12_saves 47 = .ok (.ifCond .ge 6, 3) := by decide +kernel
theorem dX12_saves_50 : decode cX12_saves 50 = .ok (.bipush (-9), 2) := by decide +kernel
theorem dX12_saves_52 : decode cX12_saves 52 = .ok (.ireturn, 1) := by decide +kernel
theorem dX12_saves_53 : decode cX12_saves 53 = .ok (.iconst 0, 1) := by decide +kernel
theorem dX12_saves_54 : decode cX12_saves 54 = .ok (.istore 5, 2) := by decide +kernel
theorem dX12_saves_56 : decode cX12_saves 56 = .ok (.iload 5, 2) := by decide +kernel
theorem dX12_saves_58 : decode cX12_saves 58 = .ok (.aload_n 0, 1) := by decide +kernel
theorem dX12_saves_59 : decode cX12_saves 59 = .ok (.getfield 72, 3) := by decide +kernel
theorem dX12_saves_62 : decode cX12_saves 62 = .ok (.if_icmp .ge 27, 3) := by decide +kernel
theorem dX12_saves_65 : decode cX12_saves 65 = .ok (.aload_n 0, 1) := by decide +kernel
theorem dX12_saves_66 : decode cX12_saves 66 = .ok (.getfield 61, 3) := by decide +kernel
theorem dX12_saves_69 : decode cX12_saves 69 = .ok (.iload 5, 2) := by decide +kernel
theorem dX12_saves_71 : decode cX12_saves 71 = .ok (.aload_n 0, 1) := by decide +kernel
theorem dX12_saves_72 : decode cX12_saves 72 = .ok (.aload_n 0, 1) := by decide +kernel
theorem dX12_saves_73 : decode cX12_saves 73 = .ok (.iload_n 1, 1) := by decide +kernel
theorem dX12_saves_74 : decode cX12_saves 74 = .ok (.iload 5, 2) := by decide +kernel
theorem dX12_saves_76 : decode cX12_saves 76 = .ok (.invokevirtual 198, 3) := by decide +kernel
theorem dX12_saves_79 : decode cX12_saves 79 = .ok (.invokevirtual 217, 3) := by decide +kernel
theorem dX12_saves_82 : decode cX12_saves 82 = .ok (.iastore, 1) := by decide +kernel
theorem dX12_saves_83 : decode cX12_saves 83 = .ok (.iinc 5 1, 3) := by decide +kernel
theorem dX12_saves_86 : decode cX12_saves 86 = .ok (.goto (-30), 3) := by decide +kernel
theorem dX12_saves_89 : decode cX12_saves 89 = .ok (.aload_n 0, 1) := by decide +kernel
theorem dX12_saves_90 : decode cX12_saves 90 = .ok (.iload_n 1, 1) := by decide +kernel
theorem dX12_saves_91 : decode cX12_saves 91 = .ok (.iload_n 2, 1) := by decide +kernel
theorem dX12_saves_92 : decode cX12_saves 92 = .ok (.invokevirtual 214, 3) := by decide +kernel
theorem dX12_saves_95 : decode cX12_saves 95 = .ok (.iload 4, 2) := by decide +kernel
theorem dX12_saves_97 : decode cX12_saves 97 = .ok (.ineg, 1) := by decide +kernel
theorem dX12_saves_98 : decode cX12_saves 98 = .ok (.iconst 1, 1) := by decide +kernel
theorem dX12_saves_99 : decode cX12_saves 99 = .ok (.isub, 1) := by decide +kernel
theorem dX12_saves_100 : decode cX12_saves 100 = .ok (.istore 5, 2) := by decide +kernel
theorem dX12_saves_102 : decode cX12_saves 102 = .ok (.iconst 0, 1) := by decide +kernel
theorem dX12_saves_103 : decode cX12_saves 103 = .ok (.istore 6, 2) := by decide +kernel
theorem dX12_saves_105 : decode cX12_saves 105 = .ok (.iload 6, 2) := by decide +kernel
theorem dX12_saves_107 : decode cX12_saves 107 = .ok (.aload_n 0, 1) := by decide +kernel
theorem dX12_saves_108 : decode cX12_saves 108 = .ok (.getfield 72, 3) := by decide +kernel
theorem dX12_saves_111 : decode cX12_saves 111 = .ok (.if_icmp .ge 47, 3) := by decide +kernel
theorem dX12_saves_114 : decode cX12_saves 114 = .ok (.iload 5, 2) := by decide +kernel
theorem dX12_saves_116 : decode cX12_saves 116 = .ok (.aload_n 0, 1) := by decide +kernel
theorem dX12_saves_117 : decode cX12_saves 117 = .ok (.getfield 61, 3) := by decide +kernel
theorem dX12_saves_120 : decode cX12_saves 120 = .ok (.iload 6, 2) := by decide +kernel
theorem dX12_saves_122 : decode cX12_saves 122 = .ok (.iaload, 1) := by decide +kernel
theorem dX12_saves_123 : decode cX12_saves 123 = .ok (.ifCond .ge 7, 3) := by decide +kernel
theorem dX12_saves_126 : decode cX12_saves 126 = .ok (.iconst 0, 1) := by decide +kernel
theorem dX12_saves_127 : decode cX12_saves 127 = .ok (.goto 22, 3) := by decide +kernel
theorem dX12_saves_130 : decode cX12_saves 130 = .ok (.aload_n 0, 1) := by decide +kernel
theorem dX12_saves_131 : decode cX12_saves 131 = .ok (.getfield 61, 3) := by decide +kernel
theorem dX12_saves_134 : decode cX12_saves 134 = .ok (.iload 6, 2) := by decide +kernel
theorem dX12_saves_136 : decode cX12_saves 136 = .ok (.iaload, 1) := by decide +kernel
theorem dX12_saves_137 : decode cX12_saves 137 = .ok (.aload_n 0, 1) := by decide +kernel
theorem dX12_saves_138 : decode cX12_saves 138 = .ok (.aload_n 0, 1) := by decide +kernel
theorem dX12_saves_139 : decode cX12_saves 139 = .ok (.iload_n 1, 1) := by decide +kernel
theorem dX12_saves_140 : decode cX12_saves 140 = .ok (.iload 6, 2) := by decide +kernel
theorem dX12_saves_142 : decode cX12_saves 142 = .ok (.invokevirtual 198, 3) := by decide +kernel
theorem dX12_saves_145 : decode cX12_saves 145 = .ok (.invokevirtual 217, 3) := by decide +kernel
theorem dX12_saves_148 : decode cX12_saves 148 = .ok (.isub, 1) := by decide +kernel
theorem dX12_saves_149 : decode cX12_saves 149 = .ok (.iadd, 1) := by decide +kernel
theorem dX12_saves_150 : decode cX12_saves 150 = .ok (.istore 5, 2) := by decide +kernel
theorem dX12_saves_152 : decode cX12_saves 152 = .ok (.iinc 6 1, 3) := by decide +kernel
theorem dX12_saves_155 : decode cX12_saves 155 = .ok (.goto (-50), 3) := by decide +kernel
theorem dX12_saves_158 : decode cX12_saves 158 = .ok (.iload 5, 2) := by decide +kernel
theorem dX12_saves_160 : decode cX12_saves 160 = .ok (.ireturn, 1) := by decide +kernel
theorem dX12_joined_0 : decode cX12_joined 0 = .ok (.aload_n 0, 1) := by decide +kernel
theorem dX12_joined_1 : decode cX12_joined 1 = .ok (.iload_n 1, 1) := by decide +kernel
theorem dX12_joined_2 : decode cX12_joined 2 = .ok (.invokevirtual 195, 3) := by decide +kernel
theorem dX12_joined_5 : decode cX12_joined 5 = .ok (.ifCond .ne 9, 3) := by decide +kernel
theorem dX12_joined_8 : decode cX12_joined 8 = .ok (.aload_n 0, 1) := by decide +kernel
theorem dX12_joined_9 : decode cX12_joined 9 = .ok (.iconst (-1), 1) := by decide +kernel
theorem dX12_joined_10 : decode cX12_joined 10 = .ok (.invokevirtual 220, 3) := by decide +kernel
theorem dX12_joined_13 : decode cX12_joined 13 = .ok (.ireturn, 1) := by decide +kernel
theorem dX12_joined_14 : decode cX12_joined 14 = .ok (.iload_n 2, 1) := by decide +kernel
theorem dX12_joined_15 : decode cX12_joined 15 = .ok (.ifCond .lt 7, 3) := by decide +kernel
theorem dX12_joined_18 : decode cX12_joined 18 = .ok (.iload_n 3, 1) := by decide +kernel
theorem dX12_joined_19 : decode cX12_joined 19 = .ok (.ifCond .ge 8, 3) := by decide +kernel
theorem dX12_joined_22 : decode cX12_joined 22 = .ok (.bipush (-4), 2) := by decide +kernel
theorem dX12_joined_24 : decode cX12_joined 24 = .ok (.goto 23, 3) := by decide +kernel
theorem dX12_joined_27 : decode cX12_joined 27 = .ok (.iload_n 2, 1) := by decide +kernel
theorem dX12_joined_28 : decode cX12_joined 28 = .ok (.sipush 255, 3) := by decide +kernel
theorem dX12_joined_31 : decode cX12_joined 31 = .ok (.if_icmp .gt 10, 3) := by decide +kernel
theorem dX12_joined_34 : decode cX12_joined 34 = .ok (.iload_n 3, 1) := by decide +kernel
theorem dX12_joined_35 : decode cX12_joined 35 = .ok (.sipush 255, 3) := by decide +kernel
theorem dX12_joined_38 : decode cX12_joined 38 = .ok (.if_icmp .le 8, 3) := by decide +kernel
theorem dX12_joined_41 : decode cX12_joined 41 = .ok (.bipush (-6), 2) := by decide +kernel
theorem dX12_joined_43 : decode cX12_joined 43 = .ok (.goto 4, 3) := by decide +kernel
theorem dX12_joined_46 : decode cX12_joined 46 = .ok (.iconst 0, 1) := by decide +kernel
theorem dX12_joined_47 : decode cX12_joined 47 = .ok (.istore 4, 2) := by decide +kernel
theorem dX12_joined_49 : decode cX12_joined 49 = .ok (.iload 4, 2) := by decide +kernel
theorem dX12_joined_51 : decode cX12_joined 51 = .ok (.ifCond .eq 10, 3) := by decide +kernel
theorem dX12_joined_54 : decode cX12_joined 54 = .ok (.aload_n 0, 1) := by decide +kernel
theorem dX12_joined_55 : decode cX12_joined 55 = .ok (.iload 4, 2) := by decide +kernel
theorem dX12_joined_57 : decode cX12_joined 57 = .ok (.invokevirtual 220, 3) := by decide +kernel
theorem dX12_joined_60 : decode cX12_joined 60 = .ok (.ireturn, 1) := by decide +kernel
theorem dX12_joined_61 : decode cX12_joined 61 = .ok (.aload_n 0, 1) := by decide +kernel
theorem dX12_joined_62 : decode cX12_joined 62 = .ok (.iload_n 1, 1) := by decide +kernel
theorem dX12_joined_63 : decode cX12_joined 63 = .ok (.bipush (-9), 2) := by decide +kernel
theorem dX12_joined_65 : decode cX12_joined 65 = .ok (.invokevirtual 214, 3) := by decide +kernel
theorem dX12_joined_68 : decode cX12_joined 68 = .ok (.iload_n 2, 1) := by decide +kernel
theorem dX12_joined_69 : decode cX12_joined 69 = .ok (.iload_n 3, 1) := by decide +kernel
theorem dX12_joined_70 : decode cX12_joined 70 = .ok (.iand, 1) := by decide +kernel
theorem dX12_joined_71 : decode cX12_joined 71 = .ok (.istore 5, 2) := by decide +kernel
theorem dX12_joined_73 : decode cX12_joined 73 = .ok (.aload_n 0, 1) := by decide +kernel
theorem dX12_joined_74 : decode cX12_joined 74 = .ok (.getfield 58, 3) := by decide +kernel
theorem dX12_joined_77 : decode cX12_joined 77 = .ok (.iload_n 2, 1) := by decide +kernel
theorem dX12_joined_78 : decode cX12_joined 78 = .ok (.iaload, 1) := by decide +kernel
theorem dX12_joined_79 : decode cX12_joined 79 = .ok (.sipush 1000, 3) := by decide +kernel
theorem dX12_joined_82 : decode cX12_joined 82 = .ok (.if_icmp .eq 28, 3) := by decide +kernel
theorem dX12_joined_85 : decode cX12_joined 85 = .ok (.aload_n 0, 1) := by decide +kernel
theorem dX12_joined_86 : decode cX12_joined 86 = .ok (.getfield 58, 3) := by decide +kernel
theorem dX12_joined_89 : decode cX12_joined 89 = .ok (.iload_n 3, 1) := by decide +kernel
theorem dX12_joined_90 : decode cX12_joined 90 = .ok (.iaload, 1) := by decide +kernel
theorem dX12_joined_91 : decode cX12_joined 91 = .ok (.sipush 1000, 3) := by decide +kernel
theorem dX12_joined_94 : decode cX12_joined 94 = .ok (.if_icmp .eq 16, 3) := by decide +kernel
theorem dX12_joined_97 : decode cX12_joined 97 = .ok (.aload_n 0, 1) := by decide +kernel
theorem dX12_joined_98 : decode cX12_joined 98 = .ok (.getfield 58, 3) := by decide +kernel
theorem dX12_joined_101 : decode cX12_joined 101 = .ok (.iload 5, 2) := by decide +kernel
theorem dX12_joined_103 : decode cX12_joined 103 = .ok (.iaload, 1) := by decide +kernel
theorem dX12_joined_104 : decode cX12_joined 104 = .ok (.sipush 1000, 3) := by decide +kernel
theorem dX12_joined_107 : decode cX12_joined 107 = .ok (.if_icmp .ne 8, 3) := by decide +kernel
theorem dX12_joined_110 : decode cX12_joined 110 = .ok (.bipush 99, 2) := by decide +kernel
theorem dX12_joined_112 : decode cX12_joined 112 = .ok (.goto 24, 3) := by decide +kernel
theorem dX12_joined_115 : decode cX12_joined 115 = .ok (.aload_n 0, 1) := by decide +kernel
theorem dX12_joined_116 : decode cX12_joined 116 = .ok (.getfield 58, 3) := by decide +kernel
theorem dX12_joined_119 : decode cX12_joined 119 = .ok (.iload 5, 2) := by decide +kernel
theorem dX12_joined_121 : decode cX12_joined 121 = .ok (.iaload, 1) := by decide +kernel
theorem dX12_joined_122 : decode cX12_joined 122 = .ok (.aload_n 0, 1) := by decide +kernel
theorem dX12_joined_123 : decode cX12_joined 123 = .ok (.getfield 58, 3) := by decide +kernel
theorem dX12_joined_126 : decode cX12_joined 126 = .ok (.iload_n 2, 1) := by decide +kernel
theorem dX12_joined_127 : decode cX12_joined 127 = .ok (.iaload, 1) := by decide +kernel
theorem dX12_joined_128 : decode cX12_joined 128 = .ok (.isub, 1) := by decide +kernel
theorem dX12_joined_129 : decode cX12_joined 129 = .ok (.aload_n 0, 1) := by decide +kernel
theorem dX12_joined_130 : decode cX12_joined 130 = .ok (.getfield 58, 3) := by decide +kernel
theorem dX12_joined_133 : decode cX12_joined 133 = .ok (.iload_n 3, 1) := by decide +kernel
theorem dX12_joined_134 : decode cX12_joined 134 = .ok (.iaload, 1) := by decide +kernel
theorem dX12_joined_135 : decode cX12_joined 135 = .ok (.isub, 1) := by decide +kernel
theorem dX12_joined_136 : decode cX12_joined 136 = .ok (.ireturn, 1) := by decide +kernel
theorem dX12_behind_0 : decode cX12_behind 0 = .ok (.iconst 1, 1) := by decide +kernel
theorem dX12_behind_1 : decode cX12_behind 1 = .ok (.istore_n 3, 1) := by decide +kernel
theorem dX12_behind_2 : decode cX12_behind 2 = .ok (.iload_n 2, 1) := by decide +kernel
theorem dX12_behind_3 : decode cX12_behind 3 = .ok (.istore 4, 2) := by decide +kernel
theorem dX12_behind_5 : decode cX12_behind 5 = .ok (.iload_n 3, 1) := by decide +kernel
theorem dX12_behind_6 : decode cX12_behind 6 = .ok (.ifCond .le 49, 3) := by decide +kernel
theorem dX12_behind_9 : decode cX12_behind 9 = .ok (.aload_n 0, 1) := by decide +kernel
theorem dX12_behind_10 : decode cX12_behind 10 = .ok (.getfield 28, 3) := by decide +kernel
theorem dX12_behind_13 : decode cX12_behind 13 = .ok (.bipush 20, 2) := by decide +kernel
theorem dX12_behind_15 : decode cX12_behind 15 = .ok (.iload_n 1, 1) := by decide +kernel
theorem dX12_behind_16 : decode cX12_behind 16 = .ok (.imul, 1) := by decide +kernel
theorem dX12_behind_17 : decode cX12_behind 17 = .ok (.iload 4, 2) := by decide +kernel
theorem dX12_behind_19 : decode cX12_behind 19 = .ok (.iadd, 1) := by decide +kernel
theorem dX12_behind_20 : decode cX12_behind 20 = .ok (.iaload, 1) := by decide +kernel
theorem dX12_behind_21 : decode cX12_behind 21 = .ok (.istore 5, 2) := by decide +kernel
theorem dX12_behind_23 : decode cX12_behind 23 = .ok (.iload_n 3, 1) := by decide +kernel
theorem dX12_behind_24 : decode cX12_behind 24 = .ok (.iload 5, 2) := by decide +kernel
theorem dX12_behind_26 : decode cX12_behind 26 = .ok (.bipush 7, 2) := by decide +kernel
theorem dX12_behind_28 : decode cX12_behind 28 = .ok (.if_icmp .ne 7, 3) := by decide +kernel
theorem dX12_behind_31 : decode cX12_behind 31 = .ok (.iconst 0, 1) := by decide +kernel
theorem dX12_behind_32 : decode cX12_behind 32 = .ok (.goto 15, 3) := by decide +kernel
theorem dX12_behind_35 : decode cX12_behind 35 = .ok (.iload 5, 2) := by decide +kernel
theorem dX12_behind_37 : decode cX12_behind 37 = .ok (.bipush 7, 2) := by decide +kernel
theorem dX12_behind_39 : decode cX12_behind 39 = .ok (.if_icmp .le 7, 3) := by decide +kernel
theorem dX12_behind_42 : decode cX12_behind 42 = .ok (.iconst 1, 1) := by decide +kernel
theorem dX12_behind_43 : decode cX12_behind 43 = .ok (.goto 4, 3) := by decide +kernel
theorem dX12_behind_46 : decode cX12_behind 46 = .ok (.iconst (-1), 1) := by decide +kernel
theorem dX12_behind_47 : decode cX12_behind 47 = .ok (.iadd, 1) := by decide +kernel
theorem dX12_behind_48 : decode cX12_behind 48 = .ok (.istore_n 3, 1) := by decide +kernel
theorem dX12_behind_49 : decode cX12_behind 49 = .ok (.iinc 4 1, 3) := by decide +kernel
theorem dX12_behind_52 : decode cX12_behind 52 = .ok (.goto (-47), 3) := by decide +kernel
theorem dX12_behind_55 : decode cX12_behind 55 = .ok (.iload 4, 2) := by decide +kernel
theorem dX12_behind_57 : decode cX12_behind 57 = .ok (.ireturn, 1) := by decide +kernel
theorem dX12_laysBut_0 : decode cX12_laysBut 0 = .ok (.aload_n 0, 1) := by decide +kernel
theorem dX12_laysBut_1 : decode cX12_laysBut 1 = .ok (.iconst 0, 1) := by decide +kernel
theorem dX12_laysBut_2 : decode cX12_laysBut 2 = .ok (.putfield 118, 3) := by decide +kernel
theorem dX12_laysBut_5 : decode cX12_laysBut 5 = .ok (.iconst 0, 1) := by decide +kernel
theorem dX12_laysBut_6 : decode cX12_laysBut 6 = .ok (.istore 5, 2) := by decide +kernel
theorem dX12_laysBut_8 : decode cX12_laysBut 8 = .ok (.iload 5, 2) := by decide +kernel
theorem dX12_laysBut_10 : decode cX12_laysBut 10 = .ok (.aload_n 0, 1) := by decide +kernel
theorem dX12_laysBut_11 : decode cX12_laysBut 11 = .ok (.getfield 25, 3) := by decide +kernel
theorem dX12_laysBut_14 : decode cX12_laysBut 14 = .ok (.iload_n 1, 1) := by decide +kernel
theorem dX12_laysBut_15 : decode cX12_laysBut 15 = .ok (.iaload, 1) := by decide +kernel
theorem dX12_laysBut_16 : decode cX12_laysBut 16 = .ok (.if_icmp .ge 62, 3) := by decide +kernel
theorem dX12_laysBut_19 : decode cX12_laysBut 19 = .ok (.iload 5, 2) := by decide +kernel
theorem dX12_laysBut_21 : decode cX12_laysBut 21 = .ok (.iload_n 2, 1) := by decide +kernel
theorem dX12_laysBut_22 : decode cX12_laysBut 22 = .ok (.if_icmp .eq 50, 3) := by decide +kernel
theorem dX12_laysBut_25 : decode cX12_laysBut 25 = .ok (.iload 5, 2) := by decide +kernel
theorem dX12_laysBut_27 : decode cX12_laysBut 27 = .ok (.iload_n 3, 1) := by decide +kernel
theorem dX12_laysBut_28 : decode cX12_laysBut 28 = .ok (.if_icmp .lt 13, 3) := by decide +kernel
theorem dX12_laysBut_31 : decode cX12_laysBut 31 = .ok (.iload 5, 2) := by decide +kernel
theorem dX12_laysBut_33 : decode cX12_laysBut 33 = .ok (.iload 4, 2) := by decide +kernel
theorem dX12_laysBut_35 : decode cX12_laysBut 35 = .ok (.if_icmp .ge 6, 3) := by decide +kernel
theorem dX12_laysBut_38 : decode cX12_laysBut 38 = .ok (.goto 34, 3) := by decide +kernel
theorem dX12_laysBut_41 : decode cX12_laysBut 41 = .ok (.aload_n 0, 1) := by decide +kernel
theorem dX12_laysBut_42 : decode cX12_laysBut 42 = .ok (.getfield 52, 3) := by decide +kernel
theorem dX12_laysBut_45 : decode cX12_laysBut 45 = .ok (.aload_n 0, 1) := by decide +kernel
theorem dX12_laysBut_46 : decode cX12_laysBut 46 = .ok (.getfield 118, 3) := by decide +kernel
theorem dX12_laysBut_49 : decode cX12_laysBut 49 = .ok (.aload_n 0, 1) := by decide +kernel
theorem dX12_laysBut_50 : decode cX12_laysBut 50 = .ok (.getfield 28, 3) := by decide +kernel
theorem dX12_laysBut_53 : decode cX12_laysBut 53 = .ok (.bipush 20, 2) := by decide +kernel
theorem dX12_laysBut_55 : decode cX12_laysBut 55 = .ok (.iload_n 1, 1) := by decide +kernel
theorem dX12_laysBut_56 : decode cX12_laysBut 56 = .ok (.imul, 1) := by decide +kernel
theorem dX12_laysBut_57 : decode cX12_laysBut 57 = .ok (.iload 5, 2) := by decide +kernel
theorem dX12_laysBut_59 : decode cX12_laysBut 59 = .ok (.iadd, 1) := by decide +kernel
theorem dX12_laysBut_60 : decode cX12_laysBut 60 = .ok (.iaload, 1) := by decide +kernel
theorem dX12_laysBut_61 : decode cX12_laysBut 61 = .ok (.iastore, 1) := by decide +kernel
theorem dX12_laysBut_62 : decode cX12_laysBut 62 = .ok (.aload_n 0, 1) := by decide +kernel
theorem dX12_laysBut_63 : decode cX12_laysBut 63 = .ok (.dup, 1) := by decide +kernel
theorem dX12_laysBut_64 : decode cX12_laysBut 64 = .ok (.getfield 118, 3) := by decide +kernel
theorem dX12_laysBut_67 : decode cX12_laysBut 67 = .ok (.iconst 1, 1) := by decide +kernel
theorem dX12_laysBut_68 : decode cX12_laysBut 68 = .ok (.iadd, 1) := by decide +kernel
theorem dX12_laysBut_69 : decode cX12_laysBut 69 = .ok (.putfield 118, 3) := by decide +kernel
theorem dX12_laysBut_72 : decode cX12_laysBut 72 = .ok (.iinc 5 1, 3) := by decide +kernel
theorem dX12_laysBut_75 : decode cX12_laysBut 75 = .ok (.goto (-67), 3) := by decide +kernel
end
section
theorem dX12_laysBut_78 : decode cX12_laysBut 78 = .ok (.return_, 1) := by decide +kernel
theorem dX12_tells_0 : decode cX12_tells 0 = .ok (.aload_n 0, 1) := by decide +kernel
theorem dX12_tells_1 : decode cX12_tells 1 = .ok (.iload_n 1, 1) := by decide +kernel
theorem dX12_tells_2 : decode cX12_tells 2 = .ok (.invokevirtual 125, 3) := by decide +kernel
theorem dX12_tells_5 : decode cX12_tells 5 = .ok (.iload_n 2, 1) := by decide +kernel
theorem dX12_tells_6 : decode cX12_tells 6 = .ok (.if_icmp .eq 4, 3) := by decide +kernel
theorem dX12_tells_9 : decode cX12_tells 9 = .ok (.return_, 1) := by decide +kernel
theorem dX12_tells_10 : decode cX12_tells 10 = .ok (.aload_n 0, 1) := by decide +kernel
theorem dX12_tells_11 : decode cX12_tells 11 = .ok (.dup, 1) := by decide +kernel
theorem dX12_tells_12 : decode cX12_tells 12 = .ok (.getfield 223, 3) := by decide +kernel
theorem dX12_tells_15 : decode cX12_tells 15 = .ok (.iconst 1, 1) := by decide +kernel
theorem dX12_tells_16 : decode cX12_tells 16 = .ok (.iadd, 1) := by decide +kernel
theorem dX12_tells_17 : decode cX12_tells 17 = .ok (.putfield 223, 3) := by decide +kernel
theorem dX12_tells_20 : decode cX12_tells 20 = .ok (.aload_n 0, 1) := by decide +kernel
theorem dX12_tells_21 : decode cX12_tells 21 = .ok (.aload_n 0, 1) := by decide +kernel
theorem dX12_tells_22 : decode cX12_tells 22 = .ok (.getfield 118, 3) := by decide +kernel
theorem dX12_tells_25 : decode cX12_tells 25 = .ok (.aload_n 0, 1) := by decide +kernel
theorem dX12_tells_26 : decode cX12_tells 26 = .ok (.getfield 226, 3) := by decide +kernel
theorem dX12_tells_29 : decode cX12_tells 29 = .ok (.if_icmp .ge 10, 3) := by decide +kernel
theorem dX12_tells_32 : decode cX12_tells 32 = .ok (.aload_n 0, 1) := by decide +kernel
theorem dX12_tells_33 : decode cX12_tells 33 = .ok (.getfield 118, 3) := by decide +kernel
theorem dX12_tells_36 : decode cX12_tells 36 = .ok (.goto 7, 3) := by decide +kernel
theorem dX12_tells_39 : decode cX12_tells 39 = .ok (.aload_n 0, 1) := by decide +kernel
theorem dX12_tells_40 : decode cX12_tells 40 = .ok (.getfield 226, 3) := by decide +kernel
theorem dX12_tells_43 : decode cX12_tells 43 = .ok (.putfield 226, 3) := by decide +kernel
theorem dX12_tells_46 : decode cX12_tells 46 = .ok (.return_, 1) := by decide +kernel
theorem dX12_drops_0 : decode cX12_drops 0 = .ok (.aload_n 0, 1) := by decide +kernel
theorem dX12_drops_1 : decode cX12_drops 1 = .ok (.iload_n 1, 1) := by decide +kernel
theorem dX12_drops_2 : decode cX12_drops 2 = .ok (.invokevirtual 195, 3) := by decide +kernel
theorem dX12_drops_5 : decode cX12_drops 5 = .ok (.ifCond .eq 11, 3) := by decide +kernel
theorem dX12_drops_8 : decode cX12_drops 8 = .ok (.aload_n 0, 1) := by decide +kernel
theorem dX12_drops_9 : decode cX12_drops 9 = .ok (.iload_n 2, 1) := by decide +kernel
theorem dX12_drops_10 : decode cX12_drops 10 = .ok (.invokevirtual 189, 3) := by decide +kernel
theorem dX12_drops_13 : decode cX12_drops 13 = .ok (.ifCond .ne 9, 3) := by decide +kernel
theorem dX12_drops_16 : decode cX12_drops 16 = .ok (.aload_n 0, 1) := by decide +kernel
theorem dX12_drops_17 : decode cX12_drops 17 = .ok (.iconst (-1), 1) := by decide +kernel
theorem dX12_drops_18 : decode cX12_drops 18 = .ok (.invokevirtual 82, 3) := by decide +kernel
theorem dX12_drops_21 : decode cX12_drops 21 = .ok (.ireturn, 1) := by decide +kernel
theorem dX12_drops_22 : decode cX12_drops 22 = .ok (.iload_n 3, 1) := by decide +kernel
theorem dX12_drops_23 : decode cX12_drops 23 = .ok (.iconst 0, 1) := by decide +kernel
theorem dX12_drops_24 : decode cX12_drops 24 = .ok (.iconst 1, 1) := by decide +kernel
theorem dX12_drops_25 : decode cX12_drops 25 = .ok (.invokestatic 89, 3) := by decide +kernel
theorem dX12_drops_28 : decode cX12_drops 28 = .ok (.ifCond .ne 10, 3) := by decide +kernel
theorem dX12_drops_31 : decode cX12_drops 31 = .ok (.aload_n 0, 1) := by decide +kernel
theorem dX12_drops_32 : decode cX12_drops 32 = .ok (.bipush (-2), 2) := by decide +kernel
theorem dX12_drops_34 : decode cX12_drops 34 = .ok (.invokevirtual 82, 3) := by decide +kernel
theorem dX12_drops_37 : decode cX12_drops 37 = .ok (.ireturn, 1) := by decide +kernel
theorem dX12_drops_38 : decode cX12_drops 38 = .ok (.aload_n 0, 1) := by decide +kernel
theorem dX12_drops_39 : decode cX12_drops 39 = .ok (.iload_n 1, 1) := by decide +kernel
theorem dX12_drops_40 : decode cX12_drops 40 = .ok (.iload_n 2, 1) := by decide +kernel
theorem dX12_drops_41 : decode cX12_drops 41 = .ok (.invokevirtual 198, 3) := by decide +kernel
theorem dX12_drops_44 : decode cX12_drops 44 = .ok (.istore 4, 2) := by decide +kernel
theorem dX12_drops_46 : decode cX12_drops 46 = .ok (.aload_n 0, 1) := by decide +kernel
theorem dX12_drops_47 : decode cX12_drops 47 = .ok (.iconst 0, 1) := by decide +kernel
theorem dX12_drops_48 : decode cX12_drops 48 = .ok (.putfield 223, 3) := by decide +kernel
theorem dX12_drops_51 : decode cX12_drops 51 = .ok (.aload_n 0, 1) := by decide +kernel
theorem dX12_drops_52 : decode cX12_drops 52 = .ok (.aload_n 0, 1) := by decide +kernel
theorem dX12_drops_53 : decode cX12_drops 53 = .ok (.getfield 25, 3) := by decide +kernel
theorem dX12_drops_56 : decode cX12_drops 56 = .ok (.iload_n 2, 1) := by decide +kernel
theorem dX12_drops_57 : decode cX12_drops 57 = .ok (.iaload, 1) := by decide +kernel
theorem dX12_drops_58 : decode cX12_drops 58 = .ok (.putfield 226, 3) := by decide +kernel
theorem dX12_drops_61 : decode cX12_drops 61 = .ok (.iconst 0, 1) := by decide +kernel
theorem dX12_drops_62 : decode cX12_drops 62 = .ok (.istore 5, 2) := by decide +kernel
theorem dX12_drops_64 : decode cX12_drops 64 = .ok (.iload 5, 2) := by decide +kernel
theorem dX12_drops_66 : decode cX12_drops 66 = .ok (.aload_n 0, 1) := by decide +kernel
theorem dX12_drops_67 : decode cX12_drops 67 = .ok (.getfield 25, 3) := by decide +kernel
theorem dX12_drops_70 : decode cX12_drops 70 = .ok (.iload_n 2, 1) := by decide +kernel
theorem dX12_drops_71 : decode cX12_drops 71 = .ok (.iaload, 1) := by decide +kernel
theorem dX12_drops_72 : decode cX12_drops 72 = .ok (.if_icmp .ge 113, 3) := by decide +kernel
theorem dX12_drops_75 : decode cX12_drops 75 = .ok (.aload_n 0, 1) := by decide +kernel
theorem dX12_drops_76 : decode cX12_drops 76 = .ok (.getfield 28, 3) := by decide +kernel
theorem dX12_drops_79 : decode cX12_drops 79 = .ok (.bipush 20, 2) := by decide +kernel
theorem dX12_drops_81 : decode cX12_drops 81 = .ok (.iload_n 2, 1) := by decide +kernel
theorem dX12_drops_82 : decode cX12_drops 82 = .ok (.imul, 1) := by decide +kernel
theorem dX12_drops_83 : decode cX12_drops 83 = .ok (.iload 5, 2) := by decide +kernel
theorem dX12_drops_85 : decode cX12_drops 85 = .ok (.iadd, 1) := by decide +kernel
theorem dX12_drops_86 : decode cX12_drops 86 = .ok (.iaload, 1) := by decide +kernel
theorem dX12_drops_87 : decode cX12_drops 87 = .ok (.istore 6, 2) := by decide +kernel
theorem dX12_drops_89 : decode cX12_drops 89 = .ok (.iload 6, 2) := by decide +kernel
theorem dX12_drops_91 : decode cX12_drops 91 = .ok (.bipush 7, 2) := by decide +kernel
theorem dX12_drops_93 : decode cX12_drops 93 = .ok (.if_icmp .ge 6, 3) := by decide +kernel
theorem dX12_drops_96 : decode cX12_drops 96 = .ok (.goto 83, 3) := by decide +kernel
theorem dX12_drops_99 : decode cX12_drops 99 = .ok (.iload 6, 2) := by decide +kernel
theorem dX12_drops_101 : decode cX12_drops 101 = .ok (.bipush 7, 2) := by decide +kernel
theorem dX12_drops_103 : decode cX12_drops 103 = .ok (.if_icmp .ne 22, 3) := by decide +kernel
theorem dX12_drops_106 : decode cX12_drops 106 = .ok (.aload_n 0, 1) := by decide +kernel
theorem dX12_drops_107 : decode cX12_drops 107 = .ok (.iload_n 2, 1) := by decide +kernel
theorem dX12_drops_108 : decode cX12_drops 108 = .ok (.iload 5, 2) := by decide +kernel
theorem dX12_drops_110 : decode cX12_drops 110 = .ok (.iconst 0, 1) := by decide +kernel
theorem dX12_drops_111 : decode cX12_drops 111 = .ok (.iconst 0, 1) := by decide +kernel
theorem dX12_drops_112 : decode cX12_drops 112 = .ok (.invokevirtual 229, 3) := by decide +kernel
theorem dX12_drops_115 : decode cX12_drops 115 = .ok (.aload_n 0, 1) := by decide +kernel
theorem dX12_drops_116 : decode cX12_drops 116 = .ok (.iload_n 1, 1) := by decide +kernel
theorem dX12_drops_117 : decode cX12_drops 117 = .ok (.iload 4, 2) := by decide +kernel
theorem dX12_drops_119 : decode cX12_drops 119 = .ok (.invokevirtual 233, 3) := by decide +kernel
theorem dX12_drops_122 : decode cX12_drops 122 = .ok (.goto 57, 3) := by decide +kernel
theorem dX12_drops_125 : decode cX12_drops 125 = .ok (.aload_n 0, 1) := by decide +kernel
theorem dX12_drops_126 : decode cX12_drops 126 = .ok (.iload_n 2, 1) := by decide +kernel
theorem dX12_drops_127 : decode cX12_drops 127 = .ok (.iload 5, 2) := by decide +kernel
theorem dX12_drops_129 : decode cX12_drops 129 = .ok (.iconst 1, 1) := by decide +kernel
theorem dX12_drops_130 : decode cX12_drops 130 = .ok (.iadd, 1) := by decide +kernel
theorem dX12_drops_131 : decode cX12_drops 131 = .ok (.invokevirtual 236, 3) := by decide +kernel
theorem dX12_drops_134 : decode cX12_drops 134 = .ok (.istore 7, 2) := by decide +kernel
theorem dX12_drops_136 : decode cX12_drops 136 = .ok (.aload_n 0, 1) := by decide +kernel
theorem dX12_drops_137 : decode cX12_drops 137 = .ok (.iload_n 2, 1) := by decide +kernel
theorem dX12_drops_138 : decode cX12_drops 138 = .ok (.iload 5, 2) := by decide +kernel
theorem dX12_drops_140 : decode cX12_drops 140 = .ok (.iload 5, 2) := by decide +kernel
theorem dX12_drops_142 : decode cX12_drops 142 = .ok (.iconst 1, 1) := by decide +kernel
theorem dX12_drops_143 : decode cX12_drops 143 = .ok (.iadd, 1) := by decide +kernel
theorem dX12_drops_144 : decode cX12_drops 144 = .ok (.iload 7, 2) := by decide +kernel
theorem dX12_drops_146 : decode cX12_drops 146 = .ok (.invokevirtual 229, 3) := by decide +kernel
theorem dX12_drops_149 : decode cX12_drops 149 = .ok (.aload_n 0, 1) := by decide +kernel
theorem dX12_drops_150 : decode cX12_drops 150 = .ok (.iload_n 1, 1) := by decide +kernel
theorem dX12_drops_151 : decode cX12_drops 151 = .ok (.iload 4, 2) := by decide +kernel
theorem dX12_drops_153 : decode cX12_drops 153 = .ok (.invokevirtual 233, 3) := by decide +kernel
theorem dX12_drops_156 : decode cX12_drops 156 = .ok (.aload_n 0, 1) := by decide +kernel
theorem dX12_drops_157 : decode cX12_drops 157 = .ok (.iload_n 2, 1) := by decide +kernel
theorem dX12_drops_158 : decode cX12_drops 158 = .ok (.iload 5, 2) := by decide +kernel
theorem dX12_drops_160 : decode cX12_drops 160 = .ok (.iload 7, 2) := by decide +kernel
theorem dX12_drops_162 : decode cX12_drops 162 = .ok (.aload_n 0, 1) := by decide +kernel
theorem dX12_drops_163 : decode cX12_drops 163 = .ok (.iload_n 2, 1) := by decide +kernel
theorem dX12_drops_164 : decode cX12_drops 164 = .ok (.iload 7, 2) := by decide +kernel
theorem dX12_drops_166 : decode cX12_drops 166 = .ok (.invokevirtual 236, 3) := by decide +kernel
theorem dX12_drops_169 : decode cX12_drops 169 = .ok (.invokevirtual 229, 3) := by decide +kernel
theorem dX12_drops_172 : decode cX12_drops 172 = .ok (.aload_n 0, 1) := by decide +kernel
theorem dX12_drops_173 : decode cX12_drops 173 = .ok (.iload_n 1, 1) := by decide +kernel
theorem dX12_drops_174 : decode cX12_drops 174 = .ok (.iload 4, 2) := by decide +kernel
theorem dX12_drops_176 : decode cX12_drops 176 = .ok (.invokevirtual 233, 3) := by decide +kernel
theorem dX12_drops_179 : decode cX12_drops 179 = .ok (.iinc 5 1, 3) := by decide +kernel
theorem dX12_drops_182 : decode cX12_drops 182 = .ok (.goto (-118), 3) := by decide +kernel
theorem dX12_drops_185 : decode cX12_drops 185 = .ok (.iload_n 3, 1) := by decide +kernel
theorem dX12_drops_186 : decode cX12_drops 186 = .ok (.ifCond .ne 10, 3) := by decide +kernel
theorem dX12_drops_189 : decode cX12_drops 189 = .ok (.aload_n 0, 1) := by decide +kernel
theorem dX12_drops_190 : decode cX12_drops 190 = .ok (.getfield 223, 3) := by decide +kernel
theorem dX12_drops_193 : decode cX12_drops 193 = .ok (.goto 7, 3) := by decide +kernel
theorem dX12_drops_196 : decode cX12_drops 196 = .ok (.aload_n 0, 1) := by decide +kernel
theorem dX12_drops_197 : decode cX12_drops 197 = .ok (.getfield 226, 3) := by decide +kernel
theorem dX12_drops_200 : decode cX12_drops 200 = .ok (.ireturn, 1) := by decide +kernel
theorem dX12_isAlike_0 : decode cX12_isAlike 0 = .ok (.iload_n 0, 1) := by decide +kernel
theorem dX12_isAlike_1 : decode cX12_isAlike 1 = .ok (.bipush 7, 2) := by decide +kernel
theorem dX12_isAlike_3 : decode cX12_isAlike 3 = .ok (.if_icmp .ge 17, 3) := by decide +kernel
theorem dX12_isAlike_6 : decode cX12_isAlike 6 = .ok (.iload_n 1, 1) := by decide +kernel
theorem dX12_isAlike_7 : decode cX12_isAlike 7 = .ok (.bipush 7, 2) := by decide +kernel
theorem dX12_isAlike_9 : decode cX12_isAlike 9 = .ok (.if_icmp .ge 7, 3) := by decide +kernel
theorem dX12_isAlike_12 : decode cX12_isAlike 12 = .ok (.iconst 1, 1) := by decide +kernel
theorem dX12_isAlike_13 : decode cX12_isAlike 13 = .ok (.goto 38, 3) := by decide +kernel
theorem dX12_isAlike_16 : decode cX12_isAlike 16 = .ok (.iconst 0, 1) := by decide +kernel
theorem dX12_isAlike_17 : decode cX12_isAlike 17 = .ok (.goto 34, 3) := by decide +kernel
theorem dX12_isAlike_20 : decode cX12_isAlike 20 = .ok (.iload_n 0, 1) := by decide +kernel
theorem dX12_isAlike_21 : decode cX12_isAlike 21 = .ok (.bipush 7, 2) := by decide +kernel
theorem dX12_isAlike_23 : decode cX12_isAlike 23 = .ok (.if_icmp .ne 17, 3) := by decide +kernel
theorem dX12_isAlike_26 : decode cX12_isAlike 26 = .ok (.iload_n 1, 1) := by decide +kernel
theorem dX12_isAlike_27 : decode cX12_isAlike 27 = .ok (.bipush 7, 2) := by decide +kernel
theorem dX12_isAlike_29 : decode cX12_isAlike 29 = .ok (.if_icmp .ne 7, 3) := by decide +kernel
theorem dX12_isAlike_32 : decode cX12_isAlike 32 = .ok (.iconst 1, 1) := by decide +kernel
theorem dX12_isAlike_33 : decode cX12_isAlike 33 = .ok (.goto 18, 3) := by decide +kernel
theorem dX12_isAlike_36 : decode cX12_isAlike 36 = .ok (.iconst 0, 1) := by decide +kernel
theorem dX12_isAlike_37 : decode cX12_isAlike 37 = .ok (.goto 14, 3) := by decide +kernel
theorem dX12_isAlike_40 : decode cX12_isAlike 40 = .ok (.iload_n 1, 1) := by decide +kernel
theorem dX12_isAlike_41 : decode cX12_isAlike 41 = .ok (.bipush 7, 2) := by decide +kernel
theorem dX12_isAlike_43 : decode cX12_isAlike 43 = .ok (.if_icmp .le 7, 3) := by decide +kernel
theorem dX12_isAlike_46 : decode cX12_isAlike 46 = .ok (.iconst 1, 1) := by decide +kernel
theorem dX12_isAlike_47 : decode cX12_isAlike 47 = .ok (.goto 4, 3) := by decide +kernel
theorem dX12_isAlike_50 : decode cX12_isAlike 50 = .ok (.iconst 0, 1) := by decide +kernel
theorem dX12_isAlike_51 : decode cX12_isAlike 51 = .ok (.ireturn, 1) := by decide +kernel
theorem dX12_heard_0 : decode cX12_heard 0 = .ok (.aload_n 0, 1) := by decide +kernel
theorem dX12_heard_1 : decode cX12_heard 1 = .ok (.iload_n 1, 1) := by decide +kernel
theorem dX12_heard_2 : decode cX12_heard 2 = .ok (.invokevirtual 195, 3) := by decide +kernel
theorem dX12_heard_5 : decode cX12_heard 5 = .ok (.ifCond .eq 11, 3) := by decide +kernel
theorem dX12_heard_8 : decode cX12_heard 8 = .ok (.aload_n 0, 1) := by decide +kernel
theorem dX12_heard_9 : decode cX12_heard 9 = .ok (.iload_n 2, 1) := by decide +kernel
theorem dX12_heard_10 : decode cX12_heard 10 = .ok (.invokevirtual 189, 3) := by decide +kernel
theorem dX12_heard_13 : decode cX12_heard 13 = .ok (.ifCond .ne 9, 3) := by decide +kernel
theorem dX12_heard_16 : decode cX12_heard 16 = .ok (.aload_n 0, 1) := by decide +kernel
theorem dX12_heard_17 : decode cX12_heard 17 = .ok (.iconst (-1), 1) := by decide +kernel
theorem dX12_heard_18 : decode cX12_heard 18 = .ok (.invokevirtual 82, 3) := by decide +kernel
theorem dX12_heard_21 : decode cX12_heard 21 = .ok (.ireturn, 1) := by decide +kernel
theorem dX12_heard_22 : decode cX12_heard 22 = .ok (.iload_n 3, 1) := by decide +kernel
theorem dX12_heard_23 : decode cX12_heard 23 = .ok (.ifCond .lt 8, 3) := by decide +kernel
theorem dX12_heard_26 : decode cX12_heard 26 = .ok (.iload 4, 2) := by decide +kernel
theorem dX12_heard_28 : decode cX12_heard 28 = .ok (.ifCond .ge 8, 3) := by decide +kernel
theorem dX12_heard_31 : decode cX12_heard 31 = .ok (.bipush (-4), 2) := by decide +kernel
theorem dX12_heard_33 : decode cX12_heard 33 = .ok (.goto 27, 3) := by decide +kernel
theorem dX12_heard_36 : decode cX12_heard 36 = .ok (.iload_n 3, 1) := by decide +kernel
theorem dX12_heard_37 : decode cX12_heard 37 = .ok (.aload_n 0, 1) := by decide +kernel
theorem dX12_heard_38 : decode cX12_heard 38 = .ok (.getfield 25, 3) := by decide +kernel
theorem dX12_heard_41 : decode cX12_heard 41 = .ok (.iload_n 2, 1) := by decide +kernel
theorem dX12_heard_42 : decode cX12_heard 42 = .ok (.iaload, 1) := by decide +kernel
theorem dX12_heard_43 : decode cX12_heard 43 = .ok (.if_icmp .ge 11, 3) := by decide +kernel
theorem dX12_heard_46 : decode cX12_heard 46 = .ok (.iload 4, 2) := by decide +kernel
theorem dX12_heard_48 : decode cX12_heard 48 = .ok (.sipush 255, 3) := by decide +kernel
theorem dX12_heard_51 : decode cX12_heard 51 = .ok (.if_icmp .le 8, 3) := by decide +kernel
theorem dX12_heard_54 : decode cX12_heard 54 = .ok (.bipush (-6), 2) := by decide +kernel
theorem dX12_heard_56 : decode cX12_heard 56 = .ok (.goto 4, 3) := by decide +kernel
theorem dX12_heard_59 : decode cX12_heard 59 = .ok (.iconst 0, 1) := by decide +kernel
theorem dX12_heard_60 : decode cX12_heard 60 = .ok (.istore 5, 2) := by decide +kernel
theorem dX12_heard_62 : decode cX12_heard 62 = .ok (.iload 5, 2) := by decide +kernel
theorem dX12_heard_64 : decode cX12_heard 64 = .ok (.ifCond .eq 10, 3) := by decide +kernel
theorem dX12_heard_67 : decode cX12_heard 67 = .ok (.aload_n 0, 1) := by decide +kernel
theorem dX12_heard_68 : decode cX12_heard 68 = .ok (.iload 5, 2) := by decide +kernel
theorem dX12_heard_70 : decode cX12_heard 70 = .ok (.invokevirtual 82, 3) := by decide +kernel
theorem dX12_heard_73 : decode cX12_heard 73 = .ok (.ireturn, 1) := by decide +kernel
theorem dX12_heard_74 : decode cX12_heard 74 = .ok (.aload_n 0, 1) := by decide +kernel
theorem dX12_heard_75 : decode cX12_heard 75 = .ok (.iload_n 2, 1) := by decide +kernel
theorem dX12_heard_76 : decode cX12_heard 76 = .ok (.invokevirtual 183, 3) := by decide +kernel
theorem dX12_heard_79 : decode cX12_heard 79 = .ok (.aload_n 0, 1) := by decide +kernel
theorem dX12_heard_80 : decode cX12_heard 80 = .ok (.getfield 52, 3) := by decide +kernel
theorem dX12_heard_83 : decode cX12_heard 83 = .ok (.iload_n 3, 1) := by decide +kernel
theorem dX12_heard_84 : decode cX12_heard 84 = .ok (.iaload, 1) := by decide +kernel
theorem dX12_heard_85 : decode cX12_heard 85 = .ok (.istore 6, 2) := by decide +kernel
theorem dX12_heard_87 : decode cX12_heard 87 = .ok (.iconst 0, 1) := by decide +kernel
theorem dX12_heard_88 : decode cX12_heard 88 = .ok (.istore 7, 2) := by decide +kernel
theorem dX12_heard_90 : decode cX12_heard 90 = .ok (.iconst 0, 1) := by decide +kernel
theorem dX12_heard_91 : decode cX12_heard 91 = .ok (.istore 8, 2) := by decide +kernel
theorem dX12_heard_93 : decode cX12_heard 93 = .ok (.iload 8, 2) := by decide +kernel
theorem dX12_heard_95 : decode cX12_heard 95 = .ok (.bipush 10, 2) := by decide +kernel
theorem dX12_heard_97 : decode cX12_heard 97 = .ok (.if_icmp .ge 53, 3) := by decide +kernel
theorem dX12_heard_100 : decode cX12_heard 100 = .ok (.iload 6, 2) := by decide +kernel
theorem dX12_heard_102 : decode cX12_heard 102 = .ok (.iload 8, 2) := by decide +kernel
theorem dX12_heard_104 : decode cX12_heard 104 = .ok (.invokestatic 239, 3) := by decide +kernel
theorem dX12_heard_107 : decode cX12_heard 107 = .ok (.ifCond .ne 6, 3) := by decide +kernel
theorem dX12_heard_110 : decode cX12_heard 110 = .ok (.goto 34, 3) := by decide +kernel
theorem dX12_heard_113 : decode cX12_heard 113 = .ok (.aload_n 0, 1) := by decide +kernel
theorem dX12_heard_114 : decode cX12_heard 114 = .ok (.getfield 52, 3) := by decide +kernel
theorem dX12_heard_117 : decode cX12_heard 117 = .ok (.iload_n 3, 1) := by decide +kernel
theorem dX12_heard_118 : decode cX12_heard 118 = .ok (.iload 8, 2) := by decide +kernel
theorem dX12_heard_120 : decode cX12_heard 120 = .ok (.iastore, 1) := by decide +kernel
theorem dX12_heard_121 : decode cX12_heard 121 = .ok (.iload 7, 2) := by decide +kernel
theorem dX12_heard_123 : decode cX12_heard 123 = .ok (.aload_n 0, 1) := by decide +kernel
theorem dX12_heard_124 : decode cX12_heard 124 = .ok (.iload_n 1, 1) := by decide +kernel
theorem dX12_heard_125 : decode cX12_heard 125 = .ok (.invokevirtual 125, 3) := by decide +kernel
theorem dX12_heard_128 : decode cX12_heard 128 = .ok (.iload 4, 2) := by decide +kernel
theorem dX12_heard_130 : decode cX12_heard 130 = .ok (.if_icmp .ne 10, 3) := by decide +kernel
theorem dX12_heard_133 : decode cX12_heard 133 = .ok (.iconst 1, 1) := by decide +kernel
theorem dX12_heard_134 : decode cX12_heard 134 = .ok (.iload 8, 2) := by decide +kernel
theorem dX12_heard_136 : decode cX12_heard 136 = .ok (.ishl, 1) := by decide +kernel
theorem dX12_heard_137 : decode cX12_heard 137 = .ok (.goto 4, 3) := by decide +kernel
theorem dX12_heard_140 : decode cX12_heard 140 = .ok (.iconst 0, 1) := by decide +kernel
theorem dX12_heard_141 : decode cX12_heard 141 = .ok (.ior, 1) := by decide +kernel
theorem dX12_heard_142 : decode cX12_heard 142 = .ok (.istore 7, 2) := by decide +kernel
theorem dX12_heard_144 : decode cX12_heard 144 = .ok (.iinc 8 1, 3) := by decide +kernel
theorem dX12_heard_147 : decode cX12_heard 147 = .ok (.goto (-54), 3) := by decide +kernel
theorem dX12_heard_150 : decode cX12_heard 150 = .ok (.iload 7, 2) := by decide +kernel
theorem dX12_heard_152 : decode cX12_heard 152 = .ok (.ireturn, 1) := by decide +kernel
theorem dX12_unlike_0 : decode cX12_unlike 0 = .ok (.aload_n 0, 1) := by decide +kernel
theorem dX12_unlike_1 : decode cX12_unlike 1 = .ok (.iload_n 1, 1) := by decide +kernel
theorem dX12_unlike_2 : decode cX12_unlike 2 = .ok (.invokevirtual 189, 3) := by decide +kernel
theorem dX12_unlike_5 : decode cX12_unlike 5 = .ok (.ifCond .ne 9, 3) := by decide +kernel
theorem dX12_unlike_8 : decode cX12_unlike 8 = .ok (.aload_n 0, 1) := by decide +kernel
theorem dX12_unlike_9 : decode cX12_unlike 9 = .ok (.iconst (-1), 1) := by decide +kernel
theorem dX12_unlike_10 : decode cX12_unlike 10 = .ok (.invokevirtual 82, 3) := by decide +kernel
theorem dX12_unlike_13 : decode cX12_unlike 13 = .ok (.ireturn, 1) := by decide +kernel
theorem dX12_unlike_14 : decode cX12_unlike 14 = .ok (.iconst 0, 1) := by decide +kernel
theorem dX12_unlike_15 : decode cX12_unlike 15 = .ok (.istore_n 2, 1) := by decide +kernel
theorem dX12_unlike_16 : decode cX12_unlike 16 = .ok (.iconst 0, 1) := by decide +kernel
theorem dX12_unlike_17 : decode cX12_unlike 17 = .ok (.istore_n 3, 1) := by decide +kernel
theorem dX12_unlike_18 : decode cX12_unlike 18 = .ok (.iload_n 3, 1) := by decide +kernel
theorem dX12_unlike_19 : decode cX12_unlike 19 = .ok (.aload_n 0, 1) := by decide +kernel
theorem dX12_unlike_20 : decode cX12_unlike 20 = .ok (.getfield 68, 3) := by decide +kernel
theorem dX12_unlike_23 : decode cX12_unlike 23 = .ok (.if_icmp .ge 68, 3) := by decide +kernel
theorem dX12_unlike_26 : decode cX12_unlike 26 = .ok (.iconst 1, 1) := by decide +kernel
theorem dX12_unlike_27 : decode cX12_unlike 27 = .ok (.istore 4, 2) := by decide +kernel
theorem dX12_unlike_29 : decode cX12_unlike 29 = .ok (.iconst 0, 1) := by decide +kernel
theorem dX12_unlike_30 : decode cX12_unlike 30 = .ok (.istore 5, 2) := by decide +kernel
theorem dX12_unlike_32 : decode cX12_unlike 32 = .ok (.iload 5, 2) := by decide +kernel
theorem dX12_unlike_34 : decode cX12_unlike 34 = .ok (.iload_n 3, 1) := by decide +kernel
theorem dX12_unlike_35 : decode cX12_unlike 35 = .ok (.if_icmp .ge 37, 3) := by decide +kernel
theorem dX12_unlike_38 : decode cX12_unlike 38 = .ok (.iload 4, 2) := by decide +kernel
theorem dX12_unlike_40 : decode cX12_unlike 40 = .ok (.ifCond .eq 23, 3) := by decide +kernel
theorem dX12_unlike_43 : decode cX12_unlike 43 = .ok (.aload_n 0, 1) := by decide +kernel
theorem dX12_unlike_44 : decode cX12_unlike 44 = .ok (.iload 5, 2) := by decide +kernel
theorem dX12_unlike_46 : decode cX12_unlike 46 = .ok (.iload_n 1, 1) := by decide +kernel
theorem dX12_unlike_47 : decode cX12_unlike 47 = .ok (.invokevirtual 198, 3) := by decide +kernel
theorem dX12_unlike_50 : decode cX12_unlike 50 = .ok (.aload_n 0, 1) := by decide +kernel
theorem dX12_unlike_51 : decode cX12_unlike 51 = .ok (.iload_n 3, 1) := by decide +kernel
theorem dX12_unlike_52 : decode cX12_unlike 52 = .ok (.iload_n 1, 1) := by decide +kernel
theorem dX12_unlike_53 : decode cX12_unlike 53 = .ok (.invokevirtual 198, 3) := by decide +kernel
theorem dX12_unlike_56 : decode cX12_unlike 56 = .ok (.if_icmp .eq 7, 3) := by decide +kernel
theorem dX12_unlike_59 : decode cX12_unlike 59 = .ok (.iconst 1, 1) := by decide +kernel
theorem dX12_unlike_60 : decode cX12_unlike 60 = .ok (.goto 4, 3) := by decide +kernel
theorem dX12_unlike_63 : decode cX12_unlike 63 = .ok (.iconst 0, 1) := by decide +kernel
theorem dX12_unlike_64 : decode cX12_unlike 64 = .ok (.istore 4, 2) := by decide +kernel
theorem dX12_unlike_66 : decode cX12_unlike 66 = .ok (.iinc 5 1, 3) := by decide +kernel
theorem dX12_unlike_69 : decode cX12_unlike 69 = .ok (.goto (-37), 3) := by decide +kernel
theorem dX12_unlike_72 : decode cX12_unlike 72 = .ok (.iload_n 2, 1) := by decide +kernel
theorem dX12_unlike_73 : decode cX12_unlike 73 = .ok (.iload 4, 2) := by decide +kernel
theorem dX12_unlike_75 : decode cX12_unlike 75 = .ok (.ifCond .eq 7, 3) := by decide +kernel
theorem dX12_unlike_78 : decode cX12_unlike 78 = .ok (.iconst 1, 1) := by decide +kernel
theorem dX12_unlike_79 : decode cX12_unlike 79 = .ok (.goto 4, 3) := by decide +kernel
theorem dX12_unlike_82 : decode cX12_unlike 82 = .ok (.iconst 0, 1) := by decide +kernel
theorem dX12_unlike_83 : decode cX12_unlike 83 = .ok (.iadd, 1) := by decide +kernel
theorem dX12_unlike_84 : decode cX12_unlike 84 = .ok (.istore_n 2, 1) := by decide +kernel
theorem dX12_unlike_85 : decode cX12_unlike 85 = .ok (.iinc 3 1, 3) := by decide +kernel
theorem dX12_unlike_88 : decode cX12_unlike 88 = .ok (.goto (-70), 3) := by decide +kernel
theorem dX12_unlike_91 : decode cX12_unlike 91 = .ok (.iload_n 2, 1) := by decide +kernel
theorem dX12_unlike_92 : decode cX12_unlike 92 = .ok (.ireturn, 1) := by decide +kernel
theorem dX12_doAgree_0 : decode cX12_doAgree 0 = .ok (.iconst 0, 1) := by decide +kernel
theorem dX12_doAgree_1 : decode cX12_doAgree 1 = .ok (.istore_n 3, 1) := by decide +kernel
theorem dX12_doAgree_2 : decode cX12_doAgree 2 = .ok (.iload_n 3, 1) := by decide +kernel
theorem dX12_doAgree_3 : decode cX12_doAgree 3 = .ok (.aload_n 0, 1) := by decide +kernel
theorem dX12_doAgree_4 : decode cX12_doAgree 4 = .ok (.getfield 72, 3) := by decide +kernel
theorem dX12_doAgree_7 : decode cX12_doAgree 7 = .ok (.if_icmp .ge 26, 3) := by decide +kernel
theorem dX12_doAgree_10 : decode cX12_doAgree 10 = .ok (.aload_n 0, 1) := by decide +kernel
theorem dX12_doAgree_11 : decode cX12_doAgree 11 = .ok (.iload_n 1, 1) := by decide +kernel
theorem dX12_doAgree_12 : decode cX12_doAgree 12 = .ok (.iload_n 3, 1) := by decide +kernel
theorem dX12_doAgree_13 : decode cX12_doAgree 13 = .ok (.invokevirtual 198, 3) := by decide +kernel
theorem dX12_doAgree_16 : decode cX12_doAgree 16 = .ok (.aload_n 0, 1) := by decide +kernel
theorem dX12_doAgree_17 : decode cX12_doAgree 17 = .ok (.iload_n 2, 1) := by decide +kernel
theorem dX12_doAgree_18 : decode cX12_doAgree 18 = .ok (.iload_n 3, 1) := by decide +kernel
theorem dX12_doAgree_19 : decode cX12_doAgree 19 = .ok (.invokevirtual 198, 3) := by decide +kernel
theorem dX12_doAgree_22 : decode cX12_doAgree 22 = .ok (.if_icmp .eq 5, 3) := by decide +kernel
theorem dX12_doAgree_25 : decode cX12_doAgree 25 = .ok (.iconst 0, 1) := by decide +kernel
theorem dX12_doAgree_26 : decode cX12_doAgree 26 = .ok (.ireturn, 1) := by decide +kernel
theorem dX12_doAgree_27 : decode cX12_doAgree 27 = .ok (.iinc 3 1, 3) := by decide +kernel
theorem dX12_doAgree_30 : decode cX12_doAgree 30 = .ok (.goto (-28), 3) := by decide +kernel
theorem dX12_doAgree_33 : decode cX12_doAgree 33 = .ok (.iconst 1, 1) := by decide +kernel
theorem dX12_doAgree_34 : decode cX12_doAgree 34 = .ok (.ireturn, 1) := by decide +kernel
theorem dX12_agree_0 : decode cX12_agree 0 = .ok (.iconst 0, 1) := by decide +kernel
theorem dX12_agree_1 : decode cX12_agree 1 = .ok (.istore_n 1, 1) := by decide +kernel
theorem dX12_agree_2 : decode cX12_agree 2 = .ok (.iconst 0, 1) := by decide +kernel
theorem dX12_agree_3 : decode cX12_agree 3 = .ok (.istore_n 2, 1) := by decide +kernel
theorem dX12_agree_4 : decode cX12_agree 4 = .ok (.iload_n 2, 1) := by decide +kernel
theorem dX12_agree_5 : decode cX12_agree 5 = .ok (.aload_n 0, 1) := by decide +kernel
theorem dX12_agree_6 : decode cX12_agree 6 = .ok (.getfield 68, 3) := by decide +kernel
theorem dX12_agree_9 : decode cX12_agree 9 = .ok (.if_icmp .ge 44, 3) := by decide +kernel
theorem dX12_agree_12 : decode cX12_agree 12 = .ok (.iload_n 2, 1) := by decide +kernel
theorem dX12_agree_13 : decode cX12_agree 13 = .ok (.iconst 1, 1) := by decide +kernel
theorem dX12_agree_14 : decode cX12_agree 14 = .ok (.iadd, 1) := by decide +kernel
theorem dX12_agree_15 : decode cX12_agree 15 = .ok (.istore_n 3, 1) := by decide +kernel
theorem dX12_agree_16 : decode cX12_agree 16 = .ok (.iload_n 3, 1) := by decide +kernel
theorem dX12_agree_17 : decode cX12_agree 17 = .ok (.aload_n 0, 1) := by decide +kernel
theorem dX12_agree_18 : decode cX12_agree 18 = .ok (.getfield 68, 3) := by decide +kernel
theorem dX12_agree_21 : decode cX12_agree 21 = .ok (.if_icmp .ge 26, 3) := by decide +kernel
theorem dX12_agree_24 : decode cX12_agree 24 = .ok (.iload_n 1, 1) := by decide +kernel
theorem dX12_agree_25 : decode cX12_agree 25 = .ok (.aload_n 0, 1) := by decide +kernel
theorem dX12_agree_26 : decode cX12_agree 26 = .ok (.iload_n 2, 1) := by decide +kernel
theorem dX12_agree_27 : decode cX12_agree 27 = .ok (.iload_n 3, 1) := by decide +kernel
theorem dX12_agree_28 : decode cX12_agree 28 = .ok (.invokevirtual 242, 3) := by decide +kernel
theorem dX12_agree_31 : decode cX12_agree 31 = .ok (.ifCond .eq 7, 3) := by decide +kernel
theorem dX12_agree_34 : decode cX12_agree 34 = .ok (.iconst 1, 1) := by decide +kernel
theorem dX12_agree_35 : decode cX12_agree 35 = .ok (.goto 4, 3) := by decide +kernel
theorem dX12_agree_38 : decode cX12_agree 38 = .ok (.iconst 0, 1) := by decide +kernel
theorem dX12_agree_39 : decode cX12_agree 39 = .ok (.iadd, 1) := by decide +kernel
theorem dX12_agree_40 : decode cX12_agree 40 = .ok (.istore_n 1, 1) := by decide +kernel
theorem dX12_agree_41 : decode cX12_agree 41 = .ok (.iinc 3 1, 3) := by decide +kernel
theorem dX12_agree_44 : decode cX12_agree 44 = .ok (.goto (-28), 3) := by decide +kernel
theorem dX12_agree_47 : decode cX12_agree 47 = .ok (.iinc 2 1, 3) := by decide +kernel
theorem dX12_agree_50 : decode cX12_agree 50 = .ok (.goto (-46), 3) := by decide +kernel
theorem dX12_agree_53 : decode cX12_agree 53 = .ok (.iload_n 1, 1) := by decide +kernel
theorem dX12_agree_54 : decode cX12_agree 54 = .ok (.ireturn, 1) := by decide +kernel
theorem dX12_row_0 : decode cX12_row 0 = .ok (.iload_n 1, 1) := by decide +kernel
theorem dX12_row_1 : decode cX12_row 1 = .ok (.iconst 0, 1) := by decide +kernel
theorem dX12_row_2 : decode cX12_row 2 = .ok (.sipush 255, 3) := by decide +kernel
theorem dX12_row_5 : decode cX12_row 5 = .ok (.invokestatic 75, 3) := by decide +kernel
theorem dX12_row_8 : decode cX12_row 8 = .ok (.istore_n 2, 1) := by decide +kernel
theorem dX12_row_9 : decode cX12_row 9 = .ok (.iload_n 2, 1) := by decide +kernel
theorem dX12_row_10 : decode cX12_row 10 = .ok (.ifCond .ne 15, 3) := by decide +kernel
theorem dX12_row_13 : decode cX12_row 13 = .ok (.aload_n 0, 1) := by decide +kernel
theorem dX12_row_14 : decode cX12_row 14 = .ok (.getfield 245, 3) := by decide +kernel
theorem dX12_row_17 : decode cX12_row 17 = .ok (.bipush 6, 2) := by decide +kernel
theorem dX12_row_19 : decode cX12_row 19 = .ok (.if_icmp .ne 6, 3) := by decide +kernel
theorem dX12_row_22 : decode cX12_row 22 = .ok (.bipush (-6), 2) := by decide +kernel
theorem dX12_row_24 : decode cX12_row 24 = .ok (.istore_n 2, 1) := by decide +kernel
theorem dX12_row_25 : decode cX12_row 25 = .ok (.iload_n 2, 1) := by decide +kernel
theorem dX12_row_26 : decode cX12_row 26 = .ok (.ifCond .eq 9, 3) := by decide +kernel
theorem dX12_row_29 : decode cX12_row 29 = .ok (.aload_n 0, 1) := by decide +kernel
theorem dX12_row_30 : decode cX12_row 30 = .ok (.iload_n 2, 1) := by decide +kernel
theorem dX12_row_31 : decode cX12_row 31 = .ok (.invokevirtual 82, 3) := by decide +kernel
theorem dX12_row_34 : decode cX12_row 34 = .ok (.ireturn, 1) := by decide +kernel
theorem dX12_row_35 : decode cX12_row 35 = .ok (.aload_n 0, 1) := by decide +kernel
theorem dX12_row_36 : decode cX12_row 36 = .ok (.getfield 64, 3) := by decide +kernel
theorem dX12_row_39 : decode cX12_row 39 = .ok (.aload_n 0, 1) := by decide +kernel
theorem dX12_row_40 : decode cX12_row 40 = .ok (.getfield 245, 3) := by decide +kernel
theorem dX12_row_43 : decode cX12_row 43 = .ok (.iload_n 1, 1) := by decide +kernel
theorem dX12_row_44 : decode cX12_row 44 = .ok (.iastore, 1) := by decide +kernel
theorem dX12_row_45 : decode cX12_row 45 = .ok (.aload_n 0, 1) := by decide +kernel
theorem dX12_row_46 : decode cX12_row 46 = .ok (.dup, 1) := by decide +kernel
theorem dX12_row_47 : decode cX12_row 47 = .ok (.getfield 245, 3) := by decide +kernel
theorem dX12_row_50 : decode cX12_row 50 = .ok (.iconst 1, 1) := by decide +kernel
theorem dX12_row_51 : decode cX12_row 51 = .ok (.iadd, 1) := by decide +kernel
theorem dX12_row_52 : decode cX12_row 52 = .ok (.putfield 245, 3) := by decide +kernel
theorem dX12_row_55 : decode cX12_row 55 = .ok (.aload_n 0, 1) := by decide +kernel
theorem dX12_row_56 : decode cX12_row 56 = .ok (.getfield 245, 3) := by decide +kernel
theorem dX12_row_59 : decode cX12_row 59 = .ok (.ireturn, 1) := by decide +kernel
theorem dX12_judge_0 : decode cX12_judge 0 = .ok (.aload_n 0, 1) := by decide +kernel
theorem dX12_judge_1 : decode cX12_judge 1 = .ok (.iload_n 1, 1) := by decide +kernel
theorem dX12_judge_2 : decode cX12_judge 2 = .ok (.invokevirtual 195, 3) := by decide +kernel
theorem dX12_judge_5 : decode cX12_judge 5 = .ok (.ifCond .ne 9, 3) := by decide +kernel
theorem dX12_judge_8 : decode cX12_judge 8 = .ok (.aload_n 0, 1) := by decide +kernel
theorem dX12_judge_9 : decode cX12_judge 9 = .ok (.iconst (-1), 1) := by decide +kernel
theorem dX12_judge_10 : decode cX12_judge 10 = .ok (.invokevirtual 82, 3) := by decide +kernel
theorem dX12_judge_13 : decode cX12_judge 13 = .ok (.ireturn, 1) := by decide +kernel
theorem dX12_judge_14 : decode cX12_judge 14 = .ok (.aload_n 0, 1) := by decide +kernel
theorem dX12_judge_15 : decode cX12_judge 15 = .ok (.getfield 245, 3) := by decide +kernel
theorem dX12_judge_18 : decode cX12_judge 18 = .ok (.istore_n 2, 1) := by decide +kernel
theorem dX12_judge_19 : decode cX12_judge 19 = .ok (.aload_n 0, 1) := by decide +kernel
theorem dX12_judge_20 : decode cX12_judge 20 = .ok (.iconst 0, 1) := by decide +kernel
theorem dX12_judge_21 : decode cX12_judge 21 = .ok (.putfield 245, 3) := by decide +kernel
theorem dX12_judge_24 : decode cX12_judge 24 = .ok (.iload_n 2, 1) := by decide +kernel
theorem dX12_judge_25 : decode cX12_judge 25 = .ok (.aload_n 0, 1) := by decide +kernel
theorem dX12_judge_26 : decode cX12_judge 26 = .ok (.getfield 72, 3) := by decide +kernel
theorem dX12_judge_29 : decode cX12_judge 29 = .ok (.if_icmp .ge 7, 3) := by decide +kernel
theorem dX12_judge_32 : decode cX12_judge 32 = .ok (.iload_n 2, 1) := by decide +kernel
theorem dX12_judge_33 : decode cX12_judge 33 = .ok (.goto 7, 3) := by decide +kernel
theorem dX12_judge_36 : decode cX12_judge 36 = .ok (.aload_n 0, 1) := by decide +kernel
theorem dX12_judge_37 : decode cX12_judge 37 = .ok (.getfield 72, 3) := by decide +kernel
theorem dX12_judge_40 : decode cX12_judge 40 = .ok (.istore_n 3, 1) := by decide +kernel
theorem dX12_judge_41 : decode cX12_judge 41 = .ok (.iconst 0, 1) := by decide +kernel
theorem dX12_judge_42 : decode cX12_judge 42 = .ok (.istore 4, 2) := by decide +kernel
theorem dX12_judge_44 : decode cX12_judge 44 = .ok (.iload 4, 2) := by decide +kernel
theorem dX12_judge_46 : decode cX12_judge 46 = .ok (.iload_n 3, 1) := by decide +kernel
theorem dX12_judge_47 : decode cX12_judge 47 = .ok (.if_icmp .ge 29, 3) := by decide +kernel
theorem dX12_judge_50 : decode cX12_judge 50 = .ok (.aload_n 0, 1) := by decide +kernel
theorem dX12_judge_51 : decode cX12_judge 51 = .ok (.getfield 64, 3) := by decide +kernel
theorem dX12_judge_54 : decode cX12_judge 54 = .ok (.iload 4, 2) := by decide +kernel
theorem dX12_judge_56 : decode cX12_judge 56 = .ok (.iaload, 1) := by decide +kernel
theorem dX12_judge_57 : decode cX12_judge 57 = .ok (.aload_n 0, 1) := by decide +kernel
theorem dX12_judge_58 : decode cX12_judge 58 = .ok (.iload_n 1, 1) := by decide +kernel
theorem dX12_judge_59 : decode cX12_judge 59 = .ok (.iload 4, 2) := by decide +kernel
theorem dX12_judge_61 : decode cX12_judge 61 = .ok (.invokevirtual 198, 3) := by decide +kernel
theorem dX12_judge_64 : decode cX12_judge 64 = .ok (.if_icmp .eq 6, 3) := by decide +kernel
theorem dX12_judge_67 : decode cX12_judge 67 = .ok (.iload 4, 2) := by decide +kernel
theorem dX12_judge_69 : decode cX12_judge 69 = .ok (.ireturn, 1) := by decide +kernel
theorem dX12_judge_70 : decode cX12_judge 70 = .ok (.iinc 4 1, 3) := by decide +kernel
theorem dX12_judge_73 : decode cX12_judge 73 = .ok (.goto (-29), 3) := by decide +kernel
theorem dX12_judge_76 : decode cX12_judge 76 = .ok (.iload_n 2, 1) := by decide +kernel
theorem dX12_judge_77 : decode cX12_judge 77 = .ok (.aload_n 0, 1) := by decide +kernel
theorem dX12_judge_78 : decode cX12_judge 78 = .ok (.getfield 72, 3) := by decide +kernel
theorem dX12_judge_81 : decode cX12_judge 81 = .ok (.if_icmp .ne 8, 3) := by decide +kernel
theorem dX12_judge_84 : decode cX12_judge 84 = .ok (.bipush (-9), 2) := by decide +kernel
theorem dX12_judge_86 : decode cX12_judge 86 = .ok (.goto 4, 3) := by decide +kernel
theorem dX12_judge_89 : decode cX12_judge 89 = .ok (.iload_n 3, 1) := by decide +kernel
theorem dX12_judge_90 : decode cX12_judge 90 = .ok (.ireturn, 1) := by decide +kernel
theorem dX12_draw_0 : decode cX12_draw 0 = .ok (.aload_n 0, 1) := by decide +kernel
theorem dX12_draw_1 : decode cX12_draw 1 = .ok (.aload_n 0, 1) := by decide +kernel
theorem dX12_draw_2 : decode cX12_draw 2 = .ok (.getfield 248, 3) := by decide +kernel
theorem dX12_draw_5 : decode cX12_draw 5 = .ok (.ldc 251, 2) := by decide +kernel
theorem dX12_draw_7 : decode cX12_draw 7 = .ok (.imul, 1) := by decide +kernel
theorem dX12_draw_8 : decode cX12_draw 8 = .ok (.sipush 12345, 3) := by decide +kernel
theorem dX12_draw_11 : decode cX12_draw 11 = .ok (.iadd, 1) := by decide +kernel
theorem dX12_draw_12 : decode cX12_draw 12 = .ok (.putfield 248, 3) := by decide +kernel
theorem dX12_draw_15 : decode cX12_draw 15 = .ok (.aload_n 0, 1) := by decide +kernel
theorem dX12_draw_16 : decode cX12_draw 16 = .ok (.getfield 248, 3) := by decide +kernel
theorem dX12_draw_19 : decode cX12_draw 19 = .ok (.ldc 252, 2) := by decide +kernel
theorem dX12_draw_21 : decode cX12_draw 21 = .ok (.iand, 1) := by decide +kernel
theorem dX12_draw_22 : decode cX12_draw 22 = .ok (.ldc 253, 2) := by decide +kernel
theorem dX12_draw_24 : decode cX12_draw 24 = .ok (.idiv, 1) := by decide +kernel
theorem dX12_draw_25 : decode cX12_draw 25 = .ok (.iload_n 1, 1) := by decide +kernel
theorem dX12_draw_26 : decode cX12_draw 26 = .ok (.irem, 1) := by decide +kernel
theorem dX12_draw_27 : decode cX12_draw 27 = .ok (.ireturn, 1) := by decide +kernel
theorem dX12_draws_0 : decode cX12_draws 0 = .ok (.aload_n 0, 1) := by decide +kernel
theorem dX12_draws_1 : decode cX12_draws 1 = .ok (.iconst 0, 1) := by decide +kernel
theorem dX12_draws_2 : decode cX12_draws 2 = .ok (.putfield 118, 3) := by decide +kernel
theorem dX12_draws_5 : decode cX12_draws 5 = .ok (.aload_n 0, 1) := by decide +kernel
theorem dX12_draws_6 : decode cX12_draws 6 = .ok (.getfield 55, 3) := by decide +kernel
theorem dX12_draws_9 : decode cX12_draws 9 = .ok (.iconst 0, 1) := by decide +kernel
theorem dX12_draws_10 : decode cX12_draws 10 = .ok (.iconst 0, 1) := by decide +kernel
theorem dX12_draws_11 : decode cX12_draws 11 = .ok (.iastore, 1) := by decide +kernel
theorem dX12_draws_12 : decode cX12_draws 12 = .ok (.iconst 1, 1) := by decide +kernel
theorem dX12_draws_13 : decode cX12_draws 13 = .ok (.istore_n 1, 1) := by decide +kernel
theorem dX12_draws_14 : decode cX12_draws 14 = .ok (.iload_n 1, 1) := by decide +kernel
theorem dX12_draws_15 : decode cX12_draws 15 = .ok (.ifCond .le 127, 3) := by decide +kernel
theorem dX12_draws_18 : decode cX12_draws 18 = .ok (.iinc 1 (-1), 3) := by decide +kernel
theorem dX12_draws_21 : decode cX12_draws 21 = .ok (.aload_n 0, 1) := by decide +kernel
theorem dX12_draws_22 : decode cX12_draws 22 = .ok (.getfield 55, 3) := by decide +kernel
theorem dX12_draws_25 : decode cX12_draws 25 = .ok (.iload_n 1, 1) := by decide +kernel
theorem dX12_draws_26 : decode cX12_draws 26 = .ok (.iaload, 1) := by decide +kernel
theorem dX12_draws_27 : decode cX12_draws 27 = .ok (.istore_n 2, 1) := by decide +kernel
theorem dX12_draws_28 : decode cX12_draws 28 = .ok (.iload_n 2, 1) := by decide +kernel
theorem dX12_draws_29 : decode cX12_draws 29 = .ok (.iconst 3, 1) := by decide +kernel
theorem dX12_draws_30 : decode cX12_draws 30 = .ok (.if_icmp .ne 11, 3) := by decide +kernel
theorem dX12_draws_33 : decode cX12_draws 33 = .ok (.aload_n 0, 1) := by decide +kernel
theorem dX12_draws_34 : decode cX12_draws 34 = .ok (.iconst 3, 1) := by decide +kernel
theorem dX12_draws_35 : decode cX12_draws 35 = .ok (.invokevirtual 254, 3) := by decide +kernel
theorem dX12_draws_38 : decode cX12_draws 38 = .ok (.goto 9, 3) := by decide +kernel
theorem dX12_draws_41 : decode cX12_draws 41 = .ok (.aload_n 0, 1) := by decide +kernel
theorem dX12_draws_42 : decode cX12_draws 42 = .ok (.bipush 6, 2) := by decide +kernel
theorem dX12_draws_44 : decode cX12_draws 44 = .ok (.invokevirtual 254, 3) := by decide +kernel
theorem dX12_draws_47 : decode cX12_draws 47 = .ok (.istore_n 3, 1) := by decide +kernel
theorem dX12_draws_48 : decode cX12_draws 48 = .ok (.iload_n 3, 1) := by decide +kernel
theorem dX12_draws_49 : decode cX12_draws 49 = .ok (.iconst 3, 1) := by decide +kernel
theorem dX12_draws_50 : decode cX12_draws 50 = .ok (.if_icmp .ge 7, 3) := by decide +kernel
theorem dX12_draws_53 : decode cX12_draws 53 = .ok (.iload_n 3, 1) := by decide +kernel
theorem dX12_draws_54 : decode cX12_draws 54 = .ok (.goto 9, 3) := by decide +kernel
theorem dX12_draws_57 : decode cX12_draws 57 = .ok (.bipush 7, 2) := by decide +kernel
theorem dX12_draws_59 : decode cX12_draws 59 = .ok (.iload_n 3, 1) := by decide +kernel
theorem dX12_draws_60 : decode cX12_draws 60 = .ok (.iadd, 1) := by decide +kernel
theorem dX12_draws_61 : decode cX12_draws 61 = .ok (.iconst 3, 1) := by decide +kernel
theorem dX12_draws_62 : decode cX12_draws 62 = .ok (.isub, 1) := by decide +kernel
theorem dX12_draws_63 : decode cX12_draws 63 = .ok (.istore 4, 2) := by decide +kernel
theorem dX12_draws_65 : decode cX12_draws 65 = .ok (.aload_n 0, 1) := by decide +kernel
theorem dX12_draws_66 : decode cX12_draws 66 = .ok (.getfield 52, 3) := by decide +kernel
theorem dX12_draws_69 : decode cX12_draws 69 = .ok (.aload_n 0, 1) := by decide +kernel
theorem dX12_draws_70 : decode cX12_draws 70 = .ok (.getfield 118, 3) := by decide +kernel
theorem dX12_draws_73 : decode cX12_draws 73 = .ok (.iload 4, 2) := by decide +kernel
theorem dX12_draws_75 : decode cX12_draws 75 = .ok (.iastore, 1) := by decide +kernel
theorem dX12_draws_76 : decode cX12_draws 76 = .ok (.aload_n 0, 1) := by decide +kernel
theorem dX12_draws_77 : decode cX12_draws 77 = .ok (.dup, 1) := by decide +kernel
theorem dX12_draws_78 : decode cX12_draws 78 = .ok (.getfield 118, 3) := by decide +kernel
theorem dX12_draws_81 : decode cX12_draws 81 = .ok (.iconst 1, 1) := by decide +kernel
theorem dX12_draws_82 : decode cX12_draws 82 = .ok (.iadd, 1) := by decide +kernel
theorem dX12_draws_83 : decode cX12_draws 83 = .ok (.putfield 118, 3) := by decide +kernel
theorem dX12_draws_86 : decode cX12_draws 86 = .ok (.iload 4, 2) := by decide +kernel
theorem dX12_draws_88 : decode cX12_draws 88 = .ok (.bipush 7, 2) := by decide +kernel
theorem dX12_draws_90 : decode cX12_draws 90 = .ok (.if_icmp .ge 7, 3) := by decide +kernel
theorem dX12_draws_93 : decode cX12_draws 93 = .ok (.iconst 0, 1) := by decide +kernel
theorem dX12_draws_94 : decode cX12_draws 94 = .ok (.goto 15, 3) := by decide +kernel
theorem dX12_draws_97 : decode cX12_draws 97 = .ok (.iload 4, 2) := by decide +kernel
theorem dX12_draws_99 : decode cX12_draws 99 = .ok (.bipush 7, 2) := by decide +kernel
theorem dX12_draws_101 : decode cX12_draws 101 = .ok (.if_icmp .ne 7, 3) := by decide +kernel
theorem dX12_draws_104 : decode cX12_draws 104 = .ok (.iconst 1, 1) := by decide +kernel
theorem dX12_draws_105 : decode cX12_draws 105 = .ok (.goto 4, 3) := by decide +kernel
theorem dX12_draws_108 : decode cX12_draws 108 = .ok (.iconst 2, 1) := by decide +kernel
theorem dX12_draws_109 : decode cX12_draws 109 = .ok (.istore 5, 2) := by decide +kernel
theorem dX12_draws_111 : decode cX12_draws 111 = .ok (.iconst 0, 1) := by decide +kernel
theorem dX12_draws_112 : decode cX12_draws 112 = .ok (.istore 6, 2) := by decide +kernel
theorem dX12_draws_114 : decode cX12_draws 114 = .ok (.iload 6, 2) := by decide +kernel
theorem dX12_draws_116 : decode cX12_draws 116 = .ok (.iload 5, 2) := by decide +kernel
theorem dX12_draws_118 : decode cX12_draws 118 = .ok (.if_icmp .ge 21, 3) := by decide +kernel
theorem dX12_draws_121 : decode cX12_draws 121 = .ok (.aload_n 0, 1) := by decide +kernel
theorem dX12_draws_122 : decode cX12_draws 122 = .ok (.getfield 55, 3) := by decide +kernel
theorem dX12_draws_125 : decode cX12_draws 125 = .ok (.iload_n 1, 1) := by decide +kernel
theorem dX12_draws_126 : decode cX12_draws 126 = .ok (.iload_n 2, 1) := by decide +kernel
theorem dX12_draws_127 : decode cX12_draws 127 = .ok (.iconst 1, 1) := by decide +kernel
theorem dX12_draws_128 : decode cX12_draws 128 = .ok (.iadd, 1) := by decide +kernel
theorem dX12_draws_129 : decode cX12_draws 129 = .ok (.iastore, 1) := by decide +kernel
theorem dX12_draws_130 : decode cX12_draws 130 = .ok (.iinc 1 1, 3) := by decide +kernel
theorem dX12_draws_133 : decode cX12_draws 133 = .ok (.iinc 6 1, 3) := by decide +kernel
theorem dX12_draws_136 : decode cX12_draws 136 = .ok (.goto (-22), 3) := by decide +kernel
theorem dX12_draws_139 : decode cX12_draws 139 = .ok (.goto (-125), 3) := by decide +kernel
theorem dX12_draws_142 : decode cX12_draws 142 = .ok (.return_, 1) := by decide +kernel
theorem dX12_seeds_0 : decode cX12_seeds 0 = .ok (.iload_n 1, 1) := by decide +kernel
theorem dX12_seeds_1 : decode cX12_seeds 1 = .ok (.iconst 1, 1) := by decide +kernel
theorem dX12_seeds_2 : decode cX12_seeds 2 = .ok (.if_icmp .lt 7, 3) := by decide +kernel
theorem dX12_seeds_5 : decode cX12_seeds 5 = .ok (.iload_n 3, 1) := by decide +kernel
theorem dX12_seeds_6 : decode cX12_seeds 6 = .ok (.ifCond .ge 8, 3) := by decide +kernel
theorem dX12_seeds_9 : decode cX12_seeds 9 = .ok (.bipush (-4), 2) := by decide +kernel
theorem dX12_seeds_11 : decode cX12_seeds 11 = .ok (.goto 22, 3) := by decide +kernel
theorem dX12_seeds_14 : decode cX12_seeds 14 = .ok (.iload_n 1, 1) := by decide +kernel
theorem dX12_seeds_15 : decode cX12_seeds 15 = .ok (.bipush 20, 2) := by decide +kernel
theorem dX12_seeds_17 : decode cX12_seeds 17 = .ok (.if_icmp .gt 10, 3) := by decide +kernel
theorem dX12_seeds_20 : decode cX12_seeds 20 = .ok (.iload_n 3, 1) := by decide +kernel
theorem dX12_seeds_21 : decode cX12_seeds 21 = .ok (.sipush 255, 3) := by decide +kernel
theorem dX12_seeds_24 : decode cX12_seeds 24 = .ok (.if_icmp .le 8, 3) := by decide +kernel
theorem dX12_seeds_27 : decode cX12_seeds 27 = .ok (.bipush (-6), 2) := by decide +kernel
theorem dX12_seeds_29 : decode cX12_seeds 29 = .ok (.goto 4, 3) := by decide +kernel
theorem dX12_seeds_32 : decode cX12_seeds 32 = .ok (.iconst 0, 1) := by decide +kernel
theorem dX12_seeds_33 : decode cX12_seeds 33 = .ok (.istore 5, 2) := by decide +kernel
theorem dX12_seeds_35 : decode cX12_seeds 35 = .ok (.iload 5, 2) := by decide +kernel
theorem dX12_seeds_37 : decode cX12_seeds 37 = .ok (.ifCond .ne 17, 3) := by decide +kernel
theorem dX12_seeds_40 : decode cX12_seeds 40 = .ok (.iload 4, 2) := by decide +kernel
theorem dX12_seeds_42 : decode cX12_seeds 42 = .ok (.iconst 0, 1) := by decide +kernel
theorem dX12_seeds_43 : decode cX12_seeds 43 = .ok (.iconst 1, 1) := by decide +kernel
theorem dX12_seeds_44 : decode cX12_seeds 44 = .ok (.invokestatic 89, 3) := by decide +kernel
theorem dX12_seeds_47 : decode cX12_seeds 47 = .ok (.ifCond .ne 7, 3) := by decide +kernel
theorem dX12_seeds_50 : decode cX12_seeds 50 = .ok (.bipush (-2), 2) := by decide +kernel
theorem dX12_seeds_52 : decode cX12_seeds 52 = .ok (.istore 5, 2) := by decide +kernel
theorem dX12_seeds_54 : decode cX12_seeds 54 = .ok (.iload 5, 2) := by decide +kernel
theorem dX12_seeds_56 : decode cX12_seeds 56 = .ok (.ifCond .eq 10, 3) := by decide +kernel
theorem dX12_seeds_59 : decode cX12_seeds 59 = .ok (.aload_n 0, 1) := by decide +kernel
theorem dX12_seeds_60 : decode cX12_seeds 60 = .ok (.iload 5, 2) := by decide +kernel
theorem dX12_seeds_62 : decode cX12_seeds 62 = .ok (.invokevirtual 82, 3) := by decide +kernel
theorem dX12_seeds_65 : decode cX12_seeds 65 = .ok (.ireturn, 1) := by decide +kernel
theorem dX12_seeds_66 : decode cX12_seeds 66 = .ok (.aload_n 0, 1) := by decide +kernel
theorem dX12_seeds_67 : decode cX12_seeds 67 = .ok (.iload_n 2, 1) := by decide +kernel
theorem dX12_seeds_68 : decode cX12_seeds 68 = .ok (.putfield 248, 3) := by decide +kernel
theorem dX12_seeds_71 : decode cX12_seeds 71 = .ok (.iconst 0, 1) := by decide +kernel
theorem dX12_seeds_72 : decode cX12_seeds 72 = .ok (.istore 6, 2) := by decide +kernel
theorem dX12_seeds_74 : decode cX12_seeds 74 = .ok (.iconst 0, 1) := by decide +kernel
theorem dX12_seeds_75 : decode cX12_seeds 75 = .ok (.istore 7, 2) := by decide +kernel
theorem dX12_seeds_77 : decode cX12_seeds 77 = .ok (.iconst 0, 1) := by decide +kernel
theorem dX12_seeds_78 : decode cX12_seeds 78 = .ok (.istore 8, 2) := by decide +kernel
theorem dX12_seeds_80 : decode cX12_seeds 80 = .ok (.iload 8, 2) := by decide +kernel
theorem dX12_seeds_82 : decode cX12_seeds 82 = .ok (.iload_n 1, 1) := by decide +kernel
theorem dX12_seeds_83 : decode cX12_seeds 83 = .ok (.if_icmp .ge 41, 3) := by decide +kernel
theorem dX12_seeds_86 : decode cX12_seeds 86 = .ok (.aload_n 0, 1) := by decide +kernel
theorem dX12_seeds_87 : decode cX12_seeds 87 = .ok (.invokevirtual 257, 3) := by decide +kernel
theorem dX12_seeds_90 : decode cX12_seeds 90 = .ok (.iload 6, 2) := by decide +kernel
theorem dX12_seeds_92 : decode cX12_seeds 92 = .ok (.aload_n 0, 1) := by decide +kernel
theorem dX12_seeds_93 : decode cX12_seeds 93 = .ok (.getfield 118, 3) := by decide +kernel
theorem dX12_seeds_96 : decode cX12_seeds 96 = .ok (.iadd, 1) := by decide +kernel
theorem dX12_seeds_97 : decode cX12_seeds 97 = .ok (.istore 6, 2) := by decide +kernel
theorem dX12_seeds_99 : decode cX12_seeds 99 = .ok (.iload 7, 2) := by decide +kernel
theorem dX12_seeds_101 : decode cX12_seeds 101 = .ok (.aload_n 0, 1) := by decide +kernel
theorem dX12_seeds_102 : decode cX12_seeds 102 = .ok (.iconst (-1), 1) := by decide +kernel
theorem dX12_seeds_103 : decode cX12_seeds 103 = .ok (.invokevirtual 125, 3) := by decide +kernel
theorem dX12_seeds_106 : decode cX12_seeds 106 = .ok (.iload_n 3, 1) := by decide +kernel
theorem dX12_seeds_107 : decode cX12_seeds 107 = .ok (.if_icmp .ne 7, 3) := by decide +kernel
theorem dX12_seeds_110 : decode cX12_seeds 110 = .ok (.iconst 1, 1) := by decide +kernel
theorem dX12_seeds_111 : decode cX12_seeds 111 = .ok (.goto 4, 3) := by decide +kernel
theorem dX12_seeds_114 : decode cX12_seeds 114 = .ok (.iconst 0, 1) := by decide +kernel
theorem dX12_seeds_115 : decode cX12_seeds 115 = .ok (.iadd, 1) := by decide +kernel
theorem dX12_seeds_116 : decode cX12_seeds 116 = .ok (.istore 7, 2) := by decide +kernel
theorem dX12_seeds_118 : decode cX12_seeds 118 = .ok (.iinc 8 1, 3) := by decide +kernel
theorem dX12_seeds_121 : decode cX12_seeds 121 = .ok (.goto (-41), 3) := by decide +kernel
theorem dX12_seeds_124 : decode cX12_seeds 124 = .ok (.iload 4, 2) := by decide +kernel
theorem dX12_seeds_126 : decode cX12_seeds 126 = .ok (.ifCond .ne 8, 3) := by decide +kernel
theorem dX12_seeds_129 : decode cX12_seeds 129 = .ok (.iload 6, 2) := by decide +kernel
theorem dX12_seeds_131 : decode cX12_seeds 131 = .ok (.goto 5, 3) := by decide +kernel
theorem dX12_seeds_134 : decode cX12_seeds 134 = .ok (.iload 7, 2) := by decide +kernel
theorem dX12_seeds_136 : decode cX12_seeds 136 = .ok (.ireturn, 1) := by decide +kernel
theorem dX12_count_0 : decode cX12_count 0 = .ok (.iload_n 1, 1) := by decide +kernel
theorem dX12_count_1 : decode cX12_count 1 = .ok (.bipush 11, 2) := by decide +kernel
theorem dX12_count_3 : decode cX12_count 3 = .ok (.bipush 16, 2) := by decide +kernel
theorem dX12_count_5 : decode cX12_count 5 = .ok (.invokestatic 89, 3) := by decide +kernel
theorem dX12_count_8 : decode cX12_count 8 = .ok (.ifCond .eq 13, 3) := by decide +kernel
theorem dX12_count_11 : decode cX12_count 11 = .ok (.aload_n 0, 1) := by decide +kernel
theorem dX12_count_12 : decode cX12_count 12 = .ok (.getfield 7, 3) := by decide +kernel
theorem dX12_count_15 : decode cX12_count 15 = .ok (.iload_n 1, 1) := by decide +kernel
theorem dX12_count_16 : decode cX12_count 16 = .ok (.bipush 10, 2) := by decide +kernel
theorem dX12_count_18 : decode cX12_count 18 = .ok (.isub, 1) := by decide +kernel
theorem dX12_count_19 : decode cX12_count 19 = .ok (.iaload, 1) := by decide +kernel
theorem dX12_count_20 : decode cX12_count 20 = .ok (.ireturn, 1) := by decide +kernel
theorem dX12_count_21 : decode cX12_count 21 = .ok (.iconst 0, 1) := by decide +kernel
theorem dX12_count_22 : decode cX12_count 22 = .ok (.istore_n 2, 1) := by decide +kernel
theorem dX12_count_23 : decode cX12_count 23 = .ok (.iload_n 1, 1) := by decide +kernel
theorem dX12_count_24 : decode cX12_count 24 = .ok (.tableswitch 119 0 5 #[40, 45, 50, 82, 109, 114], 40) := by decide +kernel
theorem dX12_count_64 : decode cX12_count 64 = .ok (.aload_n 0, 1) := by decide +kernel
theorem dX12_count_65 : decode cX12_count 65 = .ok (.getfield 68, 3) := by decide +kernel
theorem dX12_count_68 : decode cX12_count 68 = .ok (.ireturn, 1) := by decide +kernel
theorem dX12_count_69 : decode cX12_count 69 = .ok (.aload_n 0, 1) := by decide +kernel
theorem dX12_count_70 : decode cX12_count 70 = .ok (.getfield 72, 3) := by decide +kernel
theorem dX12_count_73 : decode cX12_count 73 = .ok (.ireturn, 1) := by decide +kernel
theorem dX12_count_74 : decode cX12_count 74 = .ok (.iconst 0, 1) := by decide +kernel
theorem dX12_count_75 : decode cX12_count 75 = .ok (.istore_n 3, 1) := by decide +kernel
theorem dX12_count_76 : decode cX12_count 76 = .ok (.iload_n 3, 1) := by decide +kernel
theorem dX12_count_77 : decode cX12_count 77 = .ok (.iconst 4, 1) := by decide +kernel
theorem dX12_count_78 : decode cX12_count 78 = .ok (.if_icmp .ge 26, 3) := by decide +kernel
theorem dX12_count_81 : decode cX12_count 81 = .ok (.iload_n 2, 1) := by decide +kernel
theorem dX12_count_82 : decode cX12_count 82 = .ok (.aload_n 0, 1) := by decide +kernel
theorem dX12_count_83 : decode cX12_count 83 = .ok (.getfield 22, 3) := by decide +kernel
theorem dX12_count_86 : decode cX12_count 86 = .ok (.iload_n 3, 1) := by decide +kernel
theorem dX12_count_87 : decode cX12_count 87 = .ok (.iaload, 1) := by decide +kernel
theorem dX12_count_88 : decode cX12_count 88 = .ok (.ifCond .lt 7, 3) := by decide +kernel
theorem dX12_count_91 : decode cX12_count 91 = .ok (.iconst 1, 1) := by decide +kernel
theorem dX12_count_92 : decode cX12_count 92 = .ok (.goto 4, 3) := by decide +kernel
theorem dX12_count_95 : decode cX12_count 95 = .ok (.iconst 0, 1) := by decide +kernel
theorem dX12_count_96 : decode cX12_count 96 = .ok (.iadd, 1) := by decide +kernel
theorem dX12_count_97 : decode cX12_count 97 = .ok (.istore_n 2, 1) := by decide +kernel
theorem dX12_count_98 : decode cX12_count 98 = .ok (.iinc 3 1, 3) := by decide +kernel
theorem dX12_count_101 : decode cX12_count 101 = .ok (.goto (-25), 3) := by decide +kernel
theorem dX12_count_104 : decode cX12_count 104 = .ok (.iload_n 2, 1) := by decide +kernel
theorem dX12_count_105 : decode cX12_count 105 = .ok (.ireturn, 1) := by decide +kernel
theorem dX12_count_106 : decode cX12_count 106 = .ok (.iconst 0, 1) := by decide +kernel
theorem dX12_count_107 : decode cX12_count 107 = .ok (.istore_n 3, 1) := by decide +kernel
theorem dX12_count_108 : decode cX12_count 108 = .ok (.iload_n 3, 1) := by decide +kernel
theorem dX12_count_109 : decode cX12_count 109 = .ok (.aload_n 0, 1) := by decide +kernel
theorem dX12_count_110 : decode cX12_count 110 = .ok (.getfield 72, 3) := by decide +kernel
theorem dX12_count_113 : decode cX12_count 113 = .ok (.if_icmp .ge 18, 3) := by decide +kernel
theorem dX12_count_116 : decode cX12_count 116 = .ok (.iload_n 2, 1) := by decide +kernel
theorem dX12_count_117 : decode cX12_count 117 = .ok (.aload_n 0, 1) := by decide +kernel
theorem dX12_count_118 : decode cX12_count 118 = .ok (.getfield 25, 3) := by decide +kernel
theorem dX12_count_121 : decode cX12_count 121 = .ok (.iload_n 3, 1) := by decide +kernel
theorem dX12_count_122 : decode cX12_count 122 = .ok (.iaload, 1) := by decide +kernel
theorem dX12_count_123 : decode cX12_count 123 = .ok (.iadd, 1) := by decide +kernel
theorem dX12_count_124 : decode cX12_count 124 = .ok (.istore_n 2, 1) := by decide +kernel
theorem dX12_count_125 : decode cX12_count 125 = .ok (.iinc 3 1, 3) := by decide +kernel
theorem dX12_count_128 : decode cX12_count 128 = .ok (.goto (-20), 3) := by decide +kernel
theorem dX12_count_131 : decode cX12_count 131 = .ok (.iload_n 2, 1) := by decide +kernel
theorem dX12_count_132 : decode cX12_count 132 = .ok (.ireturn, 1) := by decide +kernel
theorem dX12_count_133 : decode cX12_count 133 = .ok (.aload_n 0, 1) := by decide +kernel
theorem dX12_count_134 : decode cX12_count 134 = .ok (.getfield 79, 3) := by decide +kernel
theorem dX12_count_137 : decode cX12_count 137 = .ok (.ireturn, 1) := by decide +kernel
theorem dX12_count_138 : decode cX12_count 138 = .ok (.aload_n 0, 1) := by decide +kernel
theorem dX12_count_139 : decode cX12_count 139 = .ok (.getfield 245, 3) := by decide +kernel
theorem dX12_count_142 : decode cX12_count 142 = .ok (.ireturn, 1) := by decide +kernel
theorem dX12_count_143 : decode cX12_count 143 = .ok (.bipush (-9), 2) := by decide +kernel
theorem dX12_count_145 : decode cX12_count 145 = .ok (.ireturn, 1) := by decide +kernel
theorem dJ9_min_7cf53_0 : decode cJ9_min_7cf53 0 = .ok (.iload_n 0, 1) := by decide +kernel
theorem dJ9_min_7cf53_1 : decode cJ9_min_7cf53 1 = .ok (.iload_n 1, 1) := by decide +kernel
theorem dJ9_min_7cf53_2 : decode cJ9_min_7cf53 2 = .ok (.if_icmp .gt 7, 3) := by decide +kernel
theorem dJ9_min_7cf53_5 : decode cJ9_min_7cf53 5 = .ok (.iload_n 0, 1) := by decide +kernel
theorem dJ9_min_7cf53_6 : decode cJ9_min_7cf53 6 = .ok (.goto 4, 3) := by decide +kernel
theorem dJ9_min_7cf53_9 : decode cJ9_min_7cf53 9 = .ok (.iload_n 1, 1) := by decide +kernel
theorem dJ9_min_7cf53_10 : decode cJ9_min_7cf53 10 = .ok (.ireturn, 1) := by decide +kernel
theorem dJ7_fill_53178_0 : decode cJ7_fill_53178 0 = .ok (.iconst 0, 1) := by decide +kernel
theorem dJ7_fill_53178_1 : decode cJ7_fill_53178 1 = .ok (.istore_n 2, 1) := by decide +kernel
theorem dJ7_fill_53178_2 : decode cJ7_fill_53178 2 = .ok (.aload_n 0, 1) := by decide +kernel
theorem dJ7_fill_53178_3 : decode cJ7_fill_53178 3 = .ok (.arraylength, 1) := by decide +kernel
theorem dJ7_fill_53178_4 : decode cJ7_fill_53178 4 = .ok (.istore_n 3, 1) := by decide +kernel
theorem dJ7_fill_53178_5 : decode cJ7_fill_53178 5 = .ok (.iload_n 2, 1) := by decide +kernel
theorem dJ7_fill_53178_6 : decode cJ7_fill_53178 6 = .ok (.iload_n 3, 1) := by decide +kernel
theorem dJ7_fill_53178_7 : decode cJ7_fill_53178 7 = .ok (.if_icmp .ge 13, 3) := by decide +kernel
theorem dJ7_fill_53178_10 : decode cJ7_fill_53178 10 = .ok (.aload_n 0, 1) := by decide +kernel
theorem dJ7_fill_53178_11 : decode cJ7_fill_53178 11 = .ok (.iload_n 2, 1) := by decide +kernel
theorem dJ7_fill_53178_12 : decode cJ7_fill_53178 12 = .ok (.iload_n 1, 1) := by decide +kernel
theorem dJ7_fill_53178_13 : decode cJ7_fill_53178 13 = .ok (.iastore, 1) := by decide +kernel
theorem dJ7_fill_53178_14 : decode cJ7_fill_53178 14 = .ok (.iinc 2 1, 3) := by decide +kernel
theorem dJ7_fill_53178_17 : decode cJ7_fill_53178 17 = .ok (.goto (-12), 3) := by decide +kernel
theorem dJ7_fill_53178_20 : decode cJ7_fill_53178 20 = .ok (.return_, 1) := by decide +kernel
theorem dL_law_0 : decode cL_law 0 = .ok (.new 7, 3) := by decide +kernel
theorem dL_law_3 : decode cL_law 3 = .ok (.dup, 1) := by decide +kernel
theorem dL_law_4 : decode cL_law 4 = .ok (.invokespecial 9, 3) := by decide +kernel
theorem dL_law_7 : decode cL_law 7 = .ok (.astore_n 1, 1) := by decide +kernel
theorem dL_law_8 : decode cL_law 8 = .ok (.new 10, 3) := by decide +kernel
theorem dL_law_11 : decode cL_law 11 = .ok (.dup, 1) := by decide +kernel
theorem dL_law_12 : decode cL_law 12 = .ok (.invokespecial 12, 3) := by decide +kernel
theorem dL_law_15 : decode cL_law 15 = .ok (.astore_n 2, 1) := by decide +kernel
theorem dL_law_16 : decode cL_law 16 = .ok (.iconst 0, 1) := by decide +kernel
theorem dL_law_17 : decode cL_law 17 = .ok (.istore_n 3, 1) := by decide +kernel
theorem dL_law_18 : decode cL_law 18 = .ok (.iload_n 3, 1) := by decide +kernel
theorem dL_law_19 : decode cL_law 19 = .ok (.aload_n 0, 1) := by decide +kernel
theorem dL_law_20 : decode cL_law 20 = .ok (.arraylength, 1) := by decide +kernel
theorem dL_law_21 : decode cL_law 21 = .ok (.iconst 5, 1) := by decide +kernel
theorem dL_law_22 : decode cL_law 22 = .ok (.isub, 1) := by decide +kernel
theorem dL_law_23 : decode cL_law 23 = .ok (.if_icmp .gt 977, 3) := by decide +kernel
theorem dL_law_26 : decode cL_law 26 = .ok (.aload_n 0, 1) := by decide +kernel
theorem dL_law_27 : decode cL_law 27 = .ok (.iload_n 3, 1) := by decide +kernel
theorem dL_law_28 : decode cL_law 28 = .ok (.iaload, 1) := by decide +kernel
theorem dL_law_29 : decode cL_law 29 = .ok (.bipush 31, 2) := by decide +kernel
theorem dL_law_31 : decode cL_law 31 = .ok (.iand, 1) := by decide +kernel
theorem dL_law_32 : decode cL_law 32 = .ok (.tableswitch 962 0 27 #[128, 151, 164, 197, 240, 263, 296, 329, 342, 375, 418, 451, 474, 507, 540, 573, 606, 639, 682, 725, 778, 801, 814, 837, 860, 913, 926, 939], 128) := by decide +kernel
theorem dL_law_160 : decode cL_law 160 = .ok (.aload_n 1, 1) := by decide +kernel
theorem dL_law_161 : decode cL_law 161 = .ok (.aload_n 0, 1) := by decide +kernel
theorem dL_law_162 : decode cL_law 162 = .ok (.iload_n 3, 1) := by decide +kernel
theorem dL_law_163 : decode cL_law 163 = .ok (.iconst 1, 1) := by decide +kernel
theorem dL_law_164 : decode cL_law 164 = .ok (.iadd, 1) := by decide +kernel
theorem dL_law_165 : decode cL_law 165 = .ok (.iaload, 1) := by decide +kernel
theorem dL_law_166 : decode cL_law 166 = .ok (.invokevirtual 13, 3) := by decide +kernel
theorem dL_law_169 : decode cL_law 169 = .ok (.aload_n 2, 1) := by decide +kernel
theorem dL_law_170 : decode cL_law 170 = .ok (.aload_n 0, 1) := by decide +kernel
theorem dL_law_171 : decode cL_law 171 = .ok (.iload_n 3, 1) := by decide +kernel
theorem dL_law_172 : decode cL_law 172 = .ok (.iconst 1, 1) := by decide +kernel
theorem dL_law_173 : decode cL_law 173 = .ok (.iadd, 1) := by decide +kernel
theorem dL_law_174 : decode cL_law 174 = .ok (.iaload, 1) := by decide +kernel
theorem dL_law_175 : decode cL_law 175 = .ok (.invokevirtual 17, 3) := by decide +kernel
theorem dL_law_178 : decode cL_law 178 = .ok (.if_icmp .eq 816, 3) := by decide +kernel
theorem dL_law_181 : decode cL_law 181 = .ok (.iconst 0, 1) := by decide +kernel
theorem dL_law_182 : decode cL_law 182 = .ok (.ireturn, 1) := by decide +kernel
theorem dL_law_183 : decode cL_law 183 = .ok (.aload_n 1, 1) := by decide +kernel
theorem dL_law_184 : decode cL_law 184 = .ok (.invokevirtual 18, 3) := by decide +kernel
theorem dL_law_187 : decode cL_law 187 = .ok (.aload_n 2, 1) := by decide +kernel
theorem dL_law_188 : decode cL_law 188 = .ok (.invokevirtual 22, 3) := by decide +kernel
theorem dL_law_191 : decode cL_law 191 = .ok (.if_icmp .eq 803, 3) := by decide +kernel
theorem dL_law_194 : decode cL_law 194 = .ok (.iconst 0, 1) := by decide +kernel
theorem dL_law_195 : decode cL_law 195 = .ok (.ireturn, 1) := by decide +kernel
theorem dL_law_196 : decode cL_law 196 = .ok (.aload_n 1, 1) := by decide +kernel
theorem dL_law_197 : decode cL_law 197 = .ok (.aload_n 0, 1) := by decide +kernel
theorem dL_law_198 : decode cL_law 198 = .ok (.iload_n 3, 1) := by decide +kernel
theorem dL_law_199 : decode cL_law 199 = .ok (.iconst 1, 1) := by decide +kernel
theorem dL_law_200 : decode cL_law 200 = .ok (.iadd, 1) := by decide +kernel
theorem dL_law_201 : decode cL_law 201 = .ok (.iaload, 1) := by decide +kernel
theorem dL_law_202 : decode cL_law 202 = .ok (.aload_n 0, 1) := by decide +kernel
theorem dL_law_203 : decode cL_law 203 = .ok (.iload_n 3, 1) := by decide +kernel
theorem dL_law_204 : decode cL_law 204 = .ok (.iconst 2, 1) := by decide +kernel
theorem dL_law_205 : decode cL_law 205 = .ok (.iadd, 1) := by decide +kernel
theorem dL_law_206 : decode cL_law 206 = .ok (.iaload, 1) := by decide +kernel
theorem dL_law_207 : decode cL_law 207 = .ok (.invokevirtual 23, 3) := by decide +kernel
theorem dL_law_210 : decode cL_law 210 = .ok (.aload_n 2, 1) := by decide +kernel
theorem dL_law_211 : decode cL_law 211 = .ok (.aload_n 0, 1) := by decide +kernel
theorem dL_law_212 : decode cL_law 212 = .ok (.iload_n 3, 1) := by decide +kernel
theorem dL_law_213 : decode cL_law 213 = .ok (.iconst 1, 1) := by decide +kernel
theorem dL_law_214 : decode cL_law 214 = .ok (.iadd, 1) := by decide +kernel
theorem dL_law_215 : decode cL_law 215 = .ok (.iaload, 1) := by decide +kernel
theorem dL_law_216 : decode cL_law 216 = .ok (.aload_n 0, 1) := by decide +kernel
theorem dL_law_217 : decode cL_law 217 = .ok (.iload_n 3, 1) := by decide +kernel
theorem dL_law_218 : decode cL_law 218 = .ok (.iconst 2, 1) := by decide +kernel
theorem dL_law_219 : decode cL_law 219 = .ok (.iadd, 1) := by decide +kernel
theorem dL_law_220 : decode cL_law 220 = .ok (.iaload, 1) := by decide +kernel
theorem dL_law_221 : decode cL_law 221 = .ok (.invokevirtual 27, 3) := by decide +kernel
theorem dL_law_224 : decode cL_law 224 = .ok (.if_icmp .eq 770, 3) := by decide +kernel
theorem dL_law_227 : decode cL_law 227 = .ok (.iconst 0, 1) := by decide +kernel
theorem dL_law_228 : decode cL_law 228 = .ok (.ireturn, 1) := by decide +kernel
theorem dL_law_229 : decode cL_law 229 = .ok (.aload_n 1, 1) := by decide +kernel
theorem dL_law_230 : decode cL_law 230 = .ok (.aload_n 0, 1) := by decide +kernel
theorem dL_law_231 : decode cL_law 231 = .ok (.iload_n 3, 1) := by decide +kernel
theorem dL_law_232 : decode cL_law 232 = .ok (.iconst 1, 1) := by decide +kernel
theorem dL_law_233 : decode cL_law 233 = .ok (.iadd, 1) := by decide +kernel
theorem dL_law_234 : decode cL_law 234 = .ok (.iaload, 1) := by decide +kernel
theorem dL_law_235 : decode cL_law 235 = .ok (.aload_n 0, 1) := by decide +kernel
theorem dL_law_236 : decode cL_law 236 = .ok (.iload_n 3, 1) := by decide +kernel
theorem dL_law_237 : decode cL_law 237 = .ok (.iconst 2, 1) := by decide +kernel
theorem dL_law_238 : decode cL_law 238 = .ok (.iadd, 1) := by decide +kernel
theorem dL_law_239 : decode cL_law 239 = .ok (.iaload, 1) := by decide +kernel
theorem dL_law_240 : decode cL_law 240 = .ok (.aload_n 0, 1) := by decide +kernel
theorem dL_law_241 : decode cL_law 241 = .ok (.iload_n 3, 1) := by decide +kernel
theorem dL_law_242 : decode cL_law 242 = .ok (.iconst 3, 1) := by decide +kernel
theorem dL_law_243 : decode cL_law 243 = .ok (.iadd, 1) := by decide +kernel
theorem dL_law_244 : decode cL_law 244 = .ok (.iaload, 1) := by decide +kernel
theorem dL_law_245 : decode cL_law 245 = .ok (.invokevirtual 28, 3) := by decide +kernel
theorem dL_law_248 : decode cL_law 248 = .ok (.aload_n 2, 1) := by decide +kernel
theorem dL_law_249 : decode cL_law 249 = .ok (.aload_n 0, 1) := by decide +kernel
theorem dL_law_250 : decode cL_law 250 = .ok (.iload_n 3, 1) := by decide +kernel
theorem dL_law_251 : decode cL_law 251 = .ok (.iconst 1, 1) := by decide +kernel
theorem dL_law_252 : decode cL_law 252 = .ok (.iadd, 1) := by decide +kernel
theorem dL_law_253 : decode cL_law 253 = .ok (.iaload, 1) := by decide +kernel
theorem dL_law_254 : decode cL_law 254 = .ok (.aload_n 0, 1) := by decide +kernel
theorem dL_law_255 : decode cL_law 255 = .ok (.iload_n 3, 1) := by decide +kernel
theorem dL_law_256 : decode cL_law 256 = .ok (.iconst 2, 1) := by decide +kernel
theorem dL_law_257 : decode cL_law 257 = .ok (.iadd, 1) := by decide +kernel
theorem dL_law_258 : decode cL_law 258 = .ok (.iaload, 1) := by decide +kernel
theorem dL_law_259 : decode cL_law 259 = .ok (.aload_n 0, 1) := by decide +kernel
theorem dL_law_260 : decode cL_law 260 = .ok (.iload_n 3, 1) := by decide +kernel
theorem dL_law_261 : decode cL_law 261 = .ok (.iconst 3, 1) := by decide +kernel
theorem dL_law_262 : decode cL_law 262 = .ok (.iadd, 1) := by decide +kernel
theorem dL_law_263 : decode cL_law 263 = .ok (.iaload, 1) := by decide +kernel
theorem dL_law_264 : decode cL_law 264 = .ok (.invokevirtual 32, 3) := by decide +kernel
theorem dL_law_267 : decode cL_law 267 = .ok (.if_icmp .eq 727, 3) := by decide +kernel
theorem dL_law_270 : decode cL_law 270 = .ok (.iconst 0, 1) := by decide +kernel
theorem dL_law_271 : decode cL_law 271 = .ok (.ireturn, 1) := by decide +kernel
theorem dL_law_272 : decode cL_law 272 = .ok (.aload_n 1, 1) := by decide +kernel
theorem dL_law_273 : decode cL_law 273 = .ok (.aload_n 0, 1) := by decide +kernel
theorem dL_law_274 : decode cL_law 274 = .ok (.iload_n 3, 1) := by decide +kernel
theorem dL_law_275 : decode cL_law 275 = .ok (.iconst 1, 1) := by decide +kernel
theorem dL_law_276 : decode cL_law 276 = .ok (.iadd, 1) := by decide +kernel
theorem dL_law_277 : decode cL_law 277 = .ok (.iaload, 1) := by decide +kernel
theorem dL_law_278 : decode cL_law 278 = .ok (.invokevirtual 33, 3) := by decide +kernel
theorem dL_law_281 : decode cL_law 281 = .ok (.aload_n 2, 1) := by decide +kernel
theorem dL_law_282 : decode cL_law 282 = .ok (.aload_n 0, 1) := by decide +kernel
theorem dL_law_283 : decode cL_law 283 = .ok (.iload_n 3, 1) := by decide +kernel
theorem dL_law_284 : decode cL_law 284 = .ok (.iconst 1, 1) := by decide +kernel
theorem dL_law_285 : decode cL_law 285 = .ok (.iadd, 1) := by decide +kernel
theorem dL_law_286 : decode cL_law 286 = .ok (.iaload, 1) := by decide +kernel
theorem dL_law_287 : decode cL_law 287 = .ok (.invokevirtual 36, 3) := by decide +kernel
theorem dL_law_290 : decode cL_law 290 = .ok (.if_icmp .eq 704, 3) := by decide +kernel
theorem dL_law_293 : decode cL_law 293 = .ok (.iconst 0, 1) := by decide +kernel
theorem dL_law_294 : decode cL_law 294 = .ok (.ireturn, 1) := by decide +kernel
theorem dL_law_295 : decode cL_law 295 = .ok (.aload_n 1, 1) := by decide +kernel
theorem dL_law_296 : decode cL_law 296 = .ok (.aload_n 0, 1) := by decide +kernel
theorem dL_law_297 : decode cL_law 297 = .ok (.iload_n 3, 1) := by decide +kernel
theorem dL_law_298 : decode cL_law 298 = .ok (.iconst 1, 1) := by decide +kernel
theorem dL_law_299 : decode cL_law 299 = .ok (.iadd, 1) := by decide +kernel
theorem dL_law_300 : decode cL_law 300 = .ok (.iaload, 1) := by decide +kernel
theorem dL_law_301 : decode cL_law 301 = .ok (.aload_n 0, 1) := by decide +kernel
theorem dL_law_302 : decode cL_law 302 = .ok (.iload_n 3, 1) := by decide +kernel
theorem dL_law_303 : decode cL_law 303 = .ok (.iconst 2, 1) := by decide +kernel
theorem dL_law_304 : decode cL_law 304 = .ok (.iadd, 1) := by decide +kernel
theorem dL_law_305 : decode cL_law 305 = .ok (.iaload, 1) := by decide +kernel
theorem dL_law_306 : decode cL_law 306 = .ok (.invokevirtual 37, 3) := by decide +kernel
theorem dL_law_309 : decode cL_law 309 = .ok (.aload_n 2, 1) := by decide +kernel
theorem dL_law_310 : decode cL_law 310 = .ok (.aload_n 0, 1) := by decide +kernel
theorem dL_law_311 : decode cL_law 311 = .ok (.iload_n 3, 1) := by decide +kernel
theorem dL_law_312 : decode cL_law 312 = .ok (.iconst 1, 1) := by decide +kernel
theorem dL_law_313 : decode cL_law 313 = .ok (.iadd, 1) := by decide +kernel
theorem dL_law_314 : decode cL_law 314 = .ok (.iaload, 1) := by decide +kernel
theorem dL_law_315 : decode cL_law 315 = .ok (.aload_n 0, 1) := by decide +kernel
theorem dL_law_316 : decode cL_law 316 = .ok (.iload_n 3, 1) := by decide +kernel
theorem dL_law_317 : decode cL_law 317 = .ok (.iconst 2, 1) := by decide +kernel
theorem dL_law_318 : decode cL_law 318 = .ok (.iadd, 1) := by decide +kernel
theorem dL_law_319 : decode cL_law 319 = .ok (.iaload, 1) := by decide +kernel
theorem dL_law_320 : decode cL_law 320 = .ok (.invokevirtual 40, 3) := by decide +kernel
theorem dL_law_323 : decode cL_law 323 = .ok (.if_icmp .eq 671, 3) := by decide +kernel
theorem dL_law_326 : decode cL_law 326 = .ok (.iconst 0, 1) := by decide +kernel
theorem dL_law_327 : decode cL_law 327 = .ok (.ireturn, 1) := by decide +kernel
theorem dL_law_328 : decode cL_law 328 = .ok (.aload_n 1, 1) := by decide +kernel
theorem dL_law_329 : decode cL_law 329 = .ok (.aload_n 0, 1) := by decide +kernel
theorem dL_law_330 : decode cL_law 330 = .ok (.iload_n 3, 1) := by decide +kernel
theorem dL_law_331 : decode cL_law 331 = .ok (.iconst 1, 1) := by decide +kernel
theorem dL_law_332 : decode cL_law 332 = .ok (.iadd, 1) := by decide +kernel
theorem dL_law_333 : decode cL_law 333 = .ok (.iaload, 1) := by decide +kernel
theorem dL_law_334 : decode cL_law 334 = .ok (.aload_n 0, 1) := by decide +kernel
theorem dL_law_335 : decode cL_law 335 = .ok (.iload_n 3, 1) := by decide +kernel
theorem dL_law_336 : decode cL_law 336 = .ok (.iconst 2, 1) := by decide +kernel
theorem dL_law_337 : decode cL_law 337 = .ok (.iadd, 1) := by decide +kernel
theorem dL_law_338 : decode cL_law 338 = .ok (.iaload, 1) := by decide +kernel
theorem dL_law_339 : decode cL_law 339 = .ok (.invokevirtual 41, 3) := by decide +kernel
theorem dL_law_342 : decode cL_law 342 = .ok (.aload_n 2, 1) := by decide +kernel
theorem dL_law_343 : decode cL_law 343 = .ok (.aload_n 0, 1) := by decide +kernel
theorem dL_law_344 : decode cL_law 344 = .ok (.iload_n 3, 1) := by decide +kernel
theorem dL_law_345 : decode cL_law 345 = .ok (.iconst 1, 1) := by decide +kernel
theorem dL_law_346 : decode cL_law 346 = .ok (.iadd, 1) := by decide +kernel
theorem dL_law_347 : decode cL_law 347 = .ok (.iaload, 1) := by decide +kernel
theorem dL_law_348 : decode cL_law 348 = .ok (.aload_n 0, 1) := by decide +kernel
theorem dL_law_349 : decode cL_law 349 = .ok (.iload_n 3, 1) := by decide +kernel
theorem dL_law_350 : decode cL_law 350 = .ok (.iconst 2, 1) := by decide +kernel
theorem dL_law_351 : decode cL_law 351 = .ok (.iadd, 1) := by decide +kernel
theorem dL_law_352 : decode cL_law 352 = .ok (.iaload, 1) := by decide +kernel
theorem dL_law_353 : decode cL_law 353 = .ok (.invokevirtual 44, 3) := by decide +kernel
theorem dL_law_356 : decode cL_law 356 = .ok (.if_icmp .eq 638, 3) := by decide +kernel
theorem dL_law_359 : decode cL_law 359 = .ok (.iconst 0, 1) := by decide +kernel
theorem dL_law_360 : decode cL_law 360 = .ok (.ireturn, 1) := by decide +kernel
theorem dL_law_361 : decode cL_law 361 = .ok (.aload_n 1, 1) := by decide +kernel
theorem dL_law_362 : decode cL_law 362 = .ok (.invokevirtual 45, 3) := by decide +kernel
theorem dL_law_365 : decode cL_law 365 = .ok (.aload_n 2, 1) := by decide +kernel
theorem dL_law_366 : decode cL_law 366 = .ok (.invokevirtual 48, 3) := by decide +kernel
theorem dL_law_369 : decode cL_law 369 = .ok (.if_icmp .eq 625, 3) := by decide +kernel
theorem dL_law_372 : decode cL_law 372 = .ok (.iconst 0, 1) := by decide +kernel
theorem dL_law_373 : decode cL_law 373 = .ok (.ireturn, 1) := by decide +kernel
theorem dL_law_374 : decode cL_law 374 = .ok (.aload_n 1, 1) := by decide +kernel
theorem dL_law_375 : decode cL_law 375 = .ok (.aload_n 0, 1) := by decide +kernel
theorem dL_law_376 : decode cL_law 376 = .ok (.iload_n 3, 1) := by decide +kernel
theorem dL_law_377 : decode cL_law 377 = .ok (.iconst 1, 1) := by decide +kernel
theorem dL_law_378 : decode cL_law 378 = .ok (.iadd, 1) := by decide +kernel
theorem dL_law_379 : decode cL_law 379 = .ok (.iaload, 1) := by decide +kernel
theorem dL_law_380 : decode cL_law 380 = .ok (.aload_n 0, 1) := by decide +kernel
theorem dL_law_381 : decode cL_law 381 = .ok (.iload_n 3, 1) := by decide +kernel
theorem dL_law_382 : decode cL_law 382 = .ok (.iconst 2, 1) := by decide +kernel
theorem dL_law_383 : decode cL_law 383 = .ok (.iadd, 1) := by decide +kernel
theorem dL_law_384 : decode cL_law 384 = .ok (.iaload, 1) := by decide +kernel
theorem dL_law_385 : decode cL_law 385 = .ok (.invokevirtual 49, 3) := by decide +kernel
theorem dL_law_388 : decode cL_law 388 = .ok (.aload_n 2, 1) := by decide +kernel
theorem dL_law_389 : decode cL_law 389 = .ok (.aload_n 0, 1) := by decide +kernel
theorem dL_law_390 : decode cL_law 390 = .ok (.iload_n 3, 1) := by decide +kernel
theorem dL_law_391 : decode cL_law 391 = .ok (.iconst 1, 1) := by decide +kernel
theorem dL_law_392 : decode cL_law 392 = .ok (.iadd, 1) := by decide +kernel
theorem dL_law_393 : decode cL_law 393 = .ok (.iaload, 1) := by decide +kernel
theorem dL_law_394 : decode cL_law 394 = .ok (.aload_n 0, 1) := by decide +kernel
theorem dL_law_395 : decode cL_law 395 = .ok (.iload_n 3, 1) := by decide +kernel
theorem dL_law_396 : decode cL_law 396 = .ok (.iconst 2, 1) := by decide +kernel
theorem dL_law_397 : decode cL_law 397 = .ok (.iadd, 1) := by decide +kernel
theorem dL_law_398 : decode cL_law 398 = .ok (.iaload, 1) := by decide +kernel
theorem dL_law_399 : decode cL_law 399 = .ok (.invokevirtual 52, 3) := by decide +kernel
theorem dL_law_402 : decode cL_law 402 = .ok (.if_icmp .eq 592, 3) := by decide +kernel
theorem dL_law_405 : decode cL_law 405 = .ok (.iconst 0, 1) := by decide +kernel
theorem dL_law_406 : decode cL_law 406 = .ok (.ireturn, 1) := by decide +kernel
theorem dL_law_407 : decode cL_law 407 = .ok (.aload_n 1, 1) := by decide +kernel
theorem dL_law_408 : decode cL_law 408 = .ok (.aload_n 0, 1) := by decide +kernel
theorem dL_law_409 : decode cL_law 409 = .ok (.iload_n 3, 1) := by decide +kernel
theorem dL_law_410 : decode cL_law 410 = .ok (.iconst 1, 1) := by decide +kernel
theorem dL_law_411 : decode cL_law 411 = .ok (.iadd, 1) := by decide +kernel
theorem dL_law_412 : decode cL_law 412 = .ok (.iaload, 1) := by decide +kernel
theorem dL_law_413 : decode cL_law 413 = .ok (.aload_n 0, 1) := by decide +kernel
theorem dL_law_414 : decode cL_law 414 = .ok (.iload_n 3, 1) := by decide +kernel
theorem dL_law_415 : decode cL_law 415 = .ok (.iconst 2, 1) := by decide +kernel
theorem dL_law_416 : decode cL_law 416 = .ok (.iadd, 1) := by decide +kernel
theorem dL_law_417 : decode cL_law 417 = .ok (.iaload, 1) := by decide +kernel
theorem dL_law_418 : decode cL_law 418 = .ok (.aload_n 0, 1) := by decide +kernel
theorem dL_law_419 : decode cL_law 419 = .ok (.iload_n 3, 1) := by decide +kernel
theorem dL_law_420 : decode cL_law 420 = .ok (.iconst 3, 1) := by decide +kernel
theorem dL_law_421 : decode cL_law 421 = .ok (.iadd, 1) := by decide +kernel
theorem dL_law_422 : decode cL_law 422 = .ok (.iaload, 1) := by decide +kernel
theorem dL_law_423 : decode cL_law 423 = .ok (.invokevirtual 53, 3) := by decide +kernel
theorem dL_law_426 : decode cL_law 426 = .ok (.aload_n 2, 1) := by decide +kernel
theorem dL_law_427 : decode cL_law 427 = .ok (.aload_n 0, 1) := by decide +kernel
theorem dL_law_428 : decode cL_law 428 = .ok (.iload_n 3, 1) := by decide +kernel
theorem dL_law_429 : decode cL_law 429 = .ok (.iconst 1, 1) := by decide +kernel
theorem dL_law_430 : decode cL_law 430 = .ok (.iadd, 1) := by decide +kernel
theorem dL_law_431 : decode cL_law 431 = .ok (.iaload, 1) := by decide +kernel
theorem dL_law_432 : decode cL_law 432 = .ok (.aload_n 0, 1) := by decide +kernel
theorem dL_law_433 : decode cL_law 433 = .ok (.iload_n 3, 1) := by decide +kernel
theorem dL_law_434 : decode cL_law 434 = .ok (.iconst 2, 1) := by decide +kernel
theorem dL_law_435 : decode cL_law 435 = .ok (.iadd, 1) := by decide +kernel
theorem dL_law_436 : decode cL_law 436 = .ok (.iaload, 1) := by decide +kernel
theorem dL_law_437 : decode cL_law 437 = .ok (.aload_n 0, 1) := by decide +kernel
theorem dL_law_438 : decode cL_law 438 = .ok (.iload_n 3, 1) := by decide +kernel
theorem dL_law_439 : decode cL_law 439 = .ok (.iconst 3, 1) := by decide +kernel
theorem dL_law_440 : decode cL_law 440 = .ok (.iadd, 1) := by decide +kernel
theorem dL_law_441 : decode cL_law 441 = .ok (.iaload, 1) := by decide +kernel
theorem dL_law_442 : decode cL_law 442 = .ok (.invokevirtual 56, 3) := by decide +kernel
theorem dL_law_445 : decode cL_law 445 = .ok (.if_icmp .eq 549, 3) := by decide +kernel
theorem dL_law_448 : decode cL_law 448 = .ok (.iconst 0, 1) := by decide +kernel
theorem dL_law_449 : decode cL_law 449 = .ok (.ireturn, 1) := by decide +kernel
theorem dL_law_450 : decode cL_law 450 = .ok (.aload_n 1, 1) := by decide +kernel
theorem dL_law_451 : decode cL_law 451 = .ok (.aload_n 0, 1) := by decide +kernel
theorem dL_law_452 : decode cL_law 452 = .ok (.iload_n 3, 1) := by decide +kernel
theorem dL_law_453 : decode cL_law 453 = .ok (.iconst 1, 1) := by decide +kernel
theorem dL_law_454 : decode cL_law 454 = .ok (.iadd, 1) := by decide +kernel
theorem dL_law_455 : decode cL_law 455 = .ok (.iaload, 1) := by decide +kernel
theorem dL_law_456 : decode cL_law 456 = .ok (.aload_n 0, 1) := by decide +kernel
theorem dL_law_457 : decode cL_law 457 = .ok (.iload_n 3, 1) := by decide +kernel
theorem dL_law_458 : decode cL_law 458 = .ok (.iconst 2, 1) := by decide +kernel
theorem dL_law_459 : decode cL_law 459 = .ok (.iadd, 1) := by decide +kernel
theorem dL_law_460 : decode cL_law 460 = .ok (.iaload, 1) := by decide +kernel
theorem dL_law_461 : decode cL_law 461 = .ok (.invokevirtual 57, 3) := by decide +kernel
theorem dL_law_464 : decode cL_law 464 = .ok (.aload_n 2, 1) := by decide +kernel
theorem dL_law_465 : decode cL_law 465 = .ok (.aload_n 0, 1) := by decide +kernel
theorem dL_law_466 : decode cL_law 466 = .ok (.iload_n 3, 1) := by decide +kernel
theorem dL_law_467 : decode cL_law 467 = .ok (.iconst 1, 1) := by decide +kernel
theorem dL_law_468 : decode cL_law 468 = .ok (.iadd, 1) := by decide +kernel
theorem dL_law_469 : decode cL_law 469 = .ok (.iaload, 1) := by decide +kernel
theorem dL_law_470 : decode cL_law 470 = .ok (.aload_n 0, 1) := by decide +kernel
theorem dL_law_471 : decode cL_law 471 = .ok (.iload_n 3, 1) := by decide +kernel
theorem dL_law_472 : decode cL_law 472 = .ok (.iconst 2, 1) := by decide +kernel
theorem dL_law_473 : decode cL_law 473 = .ok (.iadd, 1) := by decide +kernel
theorem dL_law_474 : decode cL_law 474 = .ok (.iaload, 1) := by decide +kernel
theorem dL_law_475 : decode cL_law 475 = .ok (.invokevirtual 60, 3) := by decide +kernel
theorem dL_law_478 : decode cL_law 478 = .ok (.if_icmp .eq 516, 3) := by decide +kernel
theorem dL_law_481 : decode cL_law 481 = .ok (.iconst 0, 1) := by decide +kernel
theorem dL_law_482 : decode cL_law 482 = .ok (.ireturn, 1) := by decide +kernel
theorem dL_law_483 : decode cL_law 483 = .ok (.aload_n 1, 1) := by decide +kernel
theorem dL_law_484 : decode cL_law 484 = .ok (.aload_n 0, 1) := by decide +kernel
theorem dL_law_485 : decode cL_law 485 = .ok (.iload_n 3, 1) := by decide +kernel
theorem dL_law_486 : decode cL_law 486 = .ok (.iconst 1, 1) := by decide +kernel
theorem dL_law_487 : decode cL_law 487 = .ok (.iadd, 1) := by decide +kernel
theorem dL_law_488 : decode cL_law 488 = .ok (.iaload, 1) := by decide +kernel
theorem dL_law_489 : decode cL_law 489 = .ok (.invokevirtual 61, 3) := by decide +kernel
theorem dL_law_492 : decode cL_law 492 = .ok (.aload_n 2, 1) := by decide +kernel
theorem dL_law_493 : decode cL_law 493 = .ok (.aload_n 0, 1) := by decide +kernel
theorem dL_law_494 : decode cL_law 494 = .ok (.iload_n 3, 1) := by decide +kernel
theorem dL_law_495 : decode cL_law 495 = .ok (.iconst 1, 1) := by decide +kernel
theorem dL_law_496 : decode cL_law 496 = .ok (.iadd, 1) := by decide +kernel
theorem dL_law_497 : decode cL_law 497 = .ok (.iaload, 1) := by decide +kernel
theorem dL_law_498 : decode cL_law 498 = .ok (.invokevirtual 64, 3) := by decide +kernel
theorem dL_law_501 : decode cL_law 501 = .ok (.if_icmp .eq 493, 3) := by decide +kernel
theorem dL_law_504 : decode cL_law 504 = .ok (.iconst 0, 1) := by decide +kernel
theorem dL_law_505 : decode cL_law 505 = .ok (.ireturn, 1) := by decide +kernel
theorem dL_law_506 : decode cL_law 506 = .ok (.aload_n 1, 1) := by decide +kernel
theorem dL_law_507 : decode cL_law 507 = .ok (.aload_n 0, 1) := by decide +kernel
theorem dL_law_508 : decode cL_law 508 = .ok (.iload_n 3, 1) := by decide +kernel
theorem dL_law_509 : decode cL_law 509 = .ok (.iconst 1, 1) := by decide +kernel
theorem dL_law_510 : decode cL_law 510 = .ok (.iadd, 1) := by decide +kernel
theorem dL_law_511 : decode cL_law 511 = .ok (.iaload, 1) := by decide +kernel
theorem dL_law_512 : decode cL_law 512 = .ok (.aload_n 0, 1) := by decide +kernel
theorem dL_law_513 : decode cL_law 513 = .ok (.iload_n 3, 1) := by decide +kernel
theorem dL_law_514 : decode cL_law 514 = .ok (.iconst 2, 1) := by decide +kernel
theorem dL_law_515 : decode cL_law 515 = .ok (.iadd, 1) := by decide +kernel
theorem dL_law_516 : decode cL_law 516 = .ok (.iaload, 1) := by decide +kernel
theorem dL_law_517 : decode cL_law 517 = .ok (.invokevirtual 65, 3) := by decide +kernel
theorem dL_law_520 : decode cL_law 520 = .ok (.aload_n 2, 1) := by decide +kernel
theorem dL_law_521 : decode cL_law 521 = .ok (.aload_n 0, 1) := by decide +kernel
theorem dL_law_522 : decode cL_law 522 = .ok (.iload_n 3, 1) := by decide +kernel
theorem dL_law_523 : decode cL_law 523 = .ok (.iconst 1, 1) := by decide +kernel
theorem dL_law_524 : decode cL_law 524 = .ok (.iadd, 1) := by decide +kernel
theorem dL_law_525 : decode cL_law 525 = .ok (.iaload, 1) := by decide +kernel
theorem dL_law_526 : decode cL_law 526 = .ok (.aload_n 0, 1) := by decide +kernel
theorem dL_law_527 : decode cL_law 527 = .ok (.iload_n 3, 1) := by decide +kernel
theorem dL_law_528 : decode cL_law 528 = .ok (.iconst 2, 1) := by decide +kernel
theorem dL_law_529 : decode cL_law 529 = .ok (.iadd, 1) := by decide +kernel
theorem dL_law_530 : decode cL_law 530 = .ok (.iaload, 1) := by decide +kernel
theorem dL_law_531 : decode cL_law 531 = .ok (.invokevirtual 68, 3) := by decide +kernel
theorem dL_law_534 : decode cL_law 534 = .ok (.if_icmp .eq 460, 3) := by decide +kernel
theorem dL_law_537 : decode cL_law 537 = .ok (.iconst 0, 1) := by decide +kernel
theorem dL_law_538 : decode cL_law 538 = .ok (.ireturn, 1) := by decide +kernel
theorem dL_law_539 : decode cL_law 539 = .ok (.aload_n 1, 1) := by decide +kernel
theorem dL_law_540 : decode cL_law 540 = .ok (.aload_n 0, 1) := by decide +kernel
theorem dL_law_541 : decode cL_law 541 = .ok (.iload_n 3, 1) := by decide +kernel
theorem dL_law_542 : decode cL_law 542 = .ok (.iconst 1, 1) := by decide +kernel
theorem dL_law_543 : decode cL_law 543 = .ok (.iadd, 1) := by decide +kernel
theorem dL_law_544 : decode cL_law 544 = .ok (.iaload, 1) := by decide +kernel
theorem dL_law_545 : decode cL_law 545 = .ok (.aload_n 0, 1) := by decide +kernel
theorem dL_law_546 : decode cL_law 546 = .ok (.iload_n 3, 1) := by decide +kernel
theorem dL_law_547 : decode cL_law 547 = .ok (.iconst 2, 1) := by decide +kernel
theorem dL_law_548 : decode cL_law 548 = .ok (.iadd, 1) := by decide +kernel
theorem dL_law_549 : decode cL_law 549 = .ok (.iaload, 1) := by decide +kernel
theorem dL_law_550 : decode cL_law 550 = .ok (.invokevirtual 69, 3) := by decide +kernel
theorem dL_law_553 : decode cL_law 553 = .ok (.aload_n 2, 1) := by decide +kernel
theorem dL_law_554 : decode cL_law 554 = .ok (.aload_n 0, 1) := by decide +kernel
theorem dL_law_555 : decode cL_law 555 = .ok (.iload_n 3, 1) := by decide +kernel
theorem dL_law_556 : decode cL_law 556 = .ok (.iconst 1, 1) := by decide +kernel
theorem dL_law_557 : decode cL_law 557 = .ok (.iadd, 1) := by decide +kernel
theorem dL_law_558 : decode cL_law 558 = .ok (.iaload, 1) := by decide +kernel
theorem dL_law_559 : decode cL_law 559 = .ok (.aload_n 0, 1) := by decide +kernel
theorem dL_law_560 : decode cL_law 560 = .ok (.iload_n 3, 1) := by decide +kernel
theorem dL_law_561 : decode cL_law 561 = .ok (.iconst 2, 1) := by decide +kernel
theorem dL_law_562 : decode cL_law 562 = .ok (.iadd, 1) := by decide +kernel
theorem dL_law_563 : decode cL_law 563 = .ok (.iaload, 1) := by decide +kernel
theorem dL_law_564 : decode cL_law 564 = .ok (.invokevirtual 72, 3) := by decide +kernel
theorem dL_law_567 : decode cL_law 567 = .ok (.if_icmp .eq 427, 3) := by decide +kernel
theorem dL_law_570 : decode cL_law 570 = .ok (.iconst 0, 1) := by decide +kernel
theorem dL_law_571 : decode cL_law 571 = .ok (.ireturn, 1) := by decide +kernel
theorem dL_law_572 : decode cL_law 572 = .ok (.aload_n 1, 1) := by decide +kernel
theorem dL_law_573 : decode cL_law 573 = .ok (.aload_n 0, 1) := by decide +kernel
theorem dL_law_574 : decode cL_law 574 = .ok (.iload_n 3, 1) := by decide +kernel
theorem dL_law_575 : decode cL_law 575 = .ok (.iconst 1, 1) := by decide +kernel
theorem dL_law_576 : decode cL_law 576 = .ok (.iadd, 1) := by decide +kernel
theorem dL_law_577 : decode cL_law 577 = .ok (.iaload, 1) := by decide +kernel
theorem dL_law_578 : decode cL_law 578 = .ok (.aload_n 0, 1) := by decide +kernel
theorem dL_law_579 : decode cL_law 579 = .ok (.iload_n 3, 1) := by decide +kernel
theorem dL_law_580 : decode cL_law 580 = .ok (.iconst 2, 1) := by decide +kernel
theorem dL_law_581 : decode cL_law 581 = .ok (.iadd, 1) := by decide +kernel
theorem dL_law_582 : decode cL_law 582 = .ok (.iaload, 1) := by decide +kernel
theorem dL_law_583 : decode cL_law 583 = .ok (.invokevirtual 73, 3) := by decide +kernel
theorem dL_law_586 : decode cL_law 586 = .ok (.aload_n 2, 1) := by decide +kernel
theorem dL_law_587 : decode cL_law 587 = .ok (.aload_n 0, 1) := by decide +kernel
theorem dL_law_588 : decode cL_law 588 = .ok (.iload_n 3, 1) := by decide +kernel
theorem dL_law_589 : decode cL_law 589 = .ok (.iconst 1, 1) := by decide +kernel
theorem dL_law_590 : decode cL_law 590 = .ok (.iadd, 1) := by decide +kernel
theorem dL_law_591 : decode cL_law 591 = .ok (.iaload, 1) := by decide +kernel
theorem dL_law_592 : decode cL_law 592 = .ok (.aload_n 0, 1) := by decide +kernel
theorem dL_law_593 : decode cL_law 593 = .ok (.iload_n 3, 1) := by decide +kernel
theorem dL_law_594 : decode cL_law 594 = .ok (.iconst 2, 1) := by decide +kernel
theorem dL_law_595 : decode cL_law 595 = .ok (.iadd, 1) := by decide +kernel
theorem dL_law_596 : decode cL_law 596 = .ok (.iaload, 1) := by decide +kernel
theorem dL_law_597 : decode cL_law 597 = .ok (.invokevirtual 76, 3) := by decide +kernel
theorem dL_law_600 : decode cL_law 600 = .ok (.if_icmp .eq 394, 3) := by decide +kernel
theorem dL_law_603 : decode cL_law 603 = .ok (.iconst 0, 1) := by decide +kernel
theorem dL_law_604 : decode cL_law 604 = .ok (.ireturn, 1) := by decide +kernel
theorem dL_law_605 : decode cL_law 605 = .ok (.aload_n 1, 1) := by decide +kernel
theorem dL_law_606 : decode cL_law 606 = .ok (.aload_n 0, 1) := by decide +kernel
theorem dL_law_607 : decode cL_law 607 = .ok (.iload_n 3, 1) := by decide +kernel
theorem dL_law_608 : decode cL_law 608 = .ok (.iconst 1, 1) := by decide +kernel
theorem dL_law_609 : decode cL_law 609 = .ok (.iadd, 1) := by decide +kernel
theorem dL_law_610 : decode cL_law 610 = .ok (.iaload, 1) := by decide +kernel
theorem dL_law_611 : decode cL_law 611 = .ok (.aload_n 0, 1) := by decide +kernel
theorem dL_law_612 : decode cL_law 612 = .ok (.iload_n 3, 1) := by decide +kernel
theorem dL_law_613 : decode cL_law 613 = .ok (.iconst 2, 1) := by decide +kernel
theorem dL_law_614 : decode cL_law 614 = .ok (.iadd, 1) := by decide +kernel
theorem dL_law_615 : decode cL_law 615 = .ok (.iaload, 1) := by decide +kernel
theorem dL_law_616 : decode cL_law 616 = .ok (.invokevirtual 77, 3) := by decide +kernel
theorem dL_law_619 : decode cL_law 619 = .ok (.aload_n 2, 1) := by decide +kernel
theorem dL_law_620 : decode cL_law 620 = .ok (.aload_n 0, 1) := by decide +kernel
theorem dL_law_621 : decode cL_law 621 = .ok (.iload_n 3, 1) := by decide +kernel
theorem dL_law_622 : decode cL_law 622 = .ok (.iconst 1, 1) := by decide +kernel
theorem dL_law_623 : decode cL_law 623 = .ok (.iadd, 1) := by decide +kernel
theorem dL_law_624 : decode cL_law 624 = .ok (.iaload, 1) := by decide +kernel
theorem dL_law_625 : decode cL_law 625 = .ok (.aload_n 0, 1) := by decide +kernel
theorem dL_law_626 : decode cL_law 626 = .ok (.iload_n 3, 1) := by decide +kernel
theorem dL_law_627 : decode cL_law 627 = .ok (.iconst 2, 1) := by decide +kernel
theorem dL_law_628 : decode cL_law 628 = .ok (.iadd, 1) := by decide +kernel
theorem dL_law_629 : decode cL_law 629 = .ok (.iaload, 1) := by decide +kernel
theorem dL_law_630 : decode cL_law 630 = .ok (.invokevirtual 80, 3) := by decide +kernel
theorem dL_law_633 : decode cL_law 633 = .ok (.if_icmp .eq 361, 3) := by decide +kernel
theorem dL_law_636 : decode cL_law 636 = .ok (.iconst 0, 1) := by decide +kernel
theorem dL_law_637 : decode cL_law 637 = .ok (.ireturn, 1) := by decide +kernel
theorem dL_law_638 : decode cL_law 638 = .ok (.aload_n 1, 1) := by decide +kernel
theorem dL_law_639 : decode cL_law 639 = .ok (.aload_n 0, 1) := by decide +kernel
theorem dL_law_640 : decode cL_law 640 = .ok (.iload_n 3, 1) := by decide +kernel
theorem dL_law_641 : decode cL_law 641 = .ok (.iconst 1, 1) := by decide +kernel
theorem dL_law_642 : decode cL_law 642 = .ok (.iadd, 1) := by decide +kernel
theorem dL_law_643 : decode cL_law 643 = .ok (.iaload, 1) := by decide +kernel
theorem dL_law_644 : decode cL_law 644 = .ok (.aload_n 0, 1) := by decide +kernel
theorem dL_law_645 : decode cL_law 645 = .ok (.iload_n 3, 1) := by decide +kernel
theorem dL_law_646 : decode cL_law 646 = .ok (.iconst 2, 1) := by decide +kernel
theorem dL_law_647 : decode cL_law 647 = .ok (.iadd, 1) := by decide +kernel
theorem dL_law_648 : decode cL_law 648 = .ok (.iaload, 1) := by decide +kernel
theorem dL_law_649 : decode cL_law 649 = .ok (.invokevirtual 81, 3) := by decide +kernel
theorem dL_law_652 : decode cL_law 652 = .ok (.aload_n 2, 1) := by decide +kernel
theorem dL_law_653 : decode cL_law 653 = .ok (.aload_n 0, 1) := by decide +kernel
theorem dL_law_654 : decode cL_law 654 = .ok (.iload_n 3, 1) := by decide +kernel
theorem dL_law_655 : decode cL_law 655 = .ok (.iconst 1, 1) := by decide +kernel
theorem dL_law_656 : decode cL_law 656 = .ok (.iadd, 1) := by decide +kernel
theorem dL_law_657 : decode cL_law 657 = .ok (.iaload, 1) := by decide +kernel
theorem dL_law_658 : decode cL_law 658 = .ok (.aload_n 0, 1) := by decide +kernel
theorem dL_law_659 : decode cL_law 659 = .ok (.iload_n 3, 1) := by decide +kernel
theorem dL_law_660 : decode cL_law 660 = .ok (.iconst 2, 1) := by decide +kernel
theorem dL_law_661 : decode cL_law 661 = .ok (.iadd, 1) := by decide +kernel
theorem dL_law_662 : decode cL_law 662 = .ok (.iaload, 1) := by decide +kernel
theorem dL_law_663 : decode cL_law 663 = .ok (.invokevirtual 84, 3) := by decide +kernel
theorem dL_law_666 : decode cL_law 666 = .ok (.if_icmp .eq 328, 3) := by decide +kernel
theorem dL_law_669 : decode cL_law 669 = .ok (.iconst 0, 1) := by decide +kernel
theorem dL_law_670 : decode cL_law 670 = .ok (.ireturn, 1) := by decide +kernel
theorem dL_law_671 : decode cL_law 671 = .ok (.aload_n 1, 1) := by decide +kernel
theorem dL_law_672 : decode cL_law 672 = .ok (.aload_n 0, 1) := by decide +kernel
theorem dL_law_673 : decode cL_law 673 = .ok (.iload_n 3, 1) := by decide +kernel
theorem dL_law_674 : decode cL_law 674 = .ok (.iconst 1, 1) := by decide +kernel
theorem dL_law_675 : decode cL_law 675 = .ok (.iadd, 1) := by decide +kernel
theorem dL_law_676 : decode cL_law 676 = .ok (.iaload, 1) := by decide +kernel
theorem dL_law_677 : decode cL_law 677 = .ok (.aload_n 0, 1) := by decide +kernel
theorem dL_law_678 : decode cL_law 678 = .ok (.iload_n 3, 1) := by decide +kernel
theorem dL_law_679 : decode cL_law 679 = .ok (.iconst 2, 1) := by decide +kernel
theorem dL_law_680 : decode cL_law 680 = .ok (.iadd, 1) := by decide +kernel
theorem dL_law_681 : decode cL_law 681 = .ok (.iaload, 1) := by decide +kernel
theorem dL_law_682 : decode cL_law 682 = .ok (.aload_n 0, 1) := by decide +kernel
theorem dL_law_683 : decode cL_law 683 = .ok (.iload_n 3, 1) := by decide +kernel
theorem dL_law_684 : decode cL_law 684 = .ok (.iconst 3, 1) := by decide +kernel
theorem dL_law_685 : decode cL_law 685 = .ok (.iadd, 1) := by decide +kernel
theorem dL_law_686 : decode cL_law 686 = .ok (.iaload, 1) := by decide +kernel
theorem dL_law_687 : decode cL_law 687 = .ok (.invokevirtual 85, 3) := by decide +kernel
theorem dL_law_690 : decode cL_law 690 = .ok (.aload_n 2, 1) := by decide +kernel
theorem dL_law_691 : decode cL_law 691 = .ok (.aload_n 0, 1) := by decide +kernel
theorem dL_law_692 : decode cL_law 692 = .ok (.iload_n 3, 1) := by decide +kernel
theorem dL_law_693 : decode cL_law 693 = .ok (.iconst 1, 1) := by decide +kernel
theorem dL_law_694 : decode cL_law 694 = .ok (.iadd, 1) := by decide +kernel
theorem dL_law_695 : decode cL_law 695 = .ok (.iaload, 1) := by decide +kernel
theorem dL_law_696 : decode cL_law 696 = .ok (.aload_n 0, 1) := by decide +kernel
theorem dL_law_697 : decode cL_law 697 = .ok (.iload_n 3, 1) := by decide +kernel
theorem dL_law_698 : decode cL_law 698 = .ok (.iconst 2, 1) := by decide +kernel
theorem dL_law_699 : decode cL_law 699 = .ok (.iadd, 1) := by decide +kernel
theorem dL_law_700 : decode cL_law 700 = .ok (.iaload, 1) := by decide +kernel
theorem dL_law_701 : decode cL_law 701 = .ok (.aload_n 0, 1) := by decide +kernel
theorem dL_law_702 : decode cL_law 702 = .ok (.iload_n 3, 1) := by decide +kernel
theorem dL_law_703 : decode cL_law 703 = .ok (.iconst 3, 1) := by decide +kernel
theorem dL_law_704 : decode cL_law 704 = .ok (.iadd, 1) := by decide +kernel
theorem dL_law_705 : decode cL_law 705 = .ok (.iaload, 1) := by decide +kernel
theorem dL_law_706 : decode cL_law 706 = .ok (.invokevirtual 88, 3) := by decide +kernel
theorem dL_law_709 : decode cL_law 709 = .ok (.if_icmp .eq 285, 3) := by decide +kernel
theorem dL_law_712 : decode cL_law 712 = .ok (.iconst 0, 1) := by decide +kernel
theorem dL_law_713 : decode cL_law 713 = .ok (.ireturn, 1) := by decide +kernel
theorem dL_law_714 : decode cL_law 714 = .ok (.aload_n 1, 1) := by decide +kernel
theorem dL_law_715 : decode cL_law 715 = .ok (.aload_n 0, 1) := by decide +kernel
theorem dL_law_716 : decode cL_law 716 = .ok (.iload_n 3, 1) := by decide +kernel
theorem dL_law_717 : decode cL_law 717 = .ok (.iconst 1, 1) := by decide +kernel
theorem dL_law_718 : decode cL_law 718 = .ok (.iadd, 1) := by decide +kernel
theorem dL_law_719 : decode cL_law 719 = .ok (.iaload, 1) := by decide +kernel
theorem dL_law_720 : decode cL_law 720 = .ok (.aload_n 0, 1) := by decide +kernel
theorem dL_law_721 : decode cL_law 721 = .ok (.iload_n 3, 1) := by decide +kernel
theorem dL_law_722 : decode cL_law 722 = .ok (.iconst 2, 1) := by decide +kernel
theorem dL_law_723 : decode cL_law 723 = .ok (.iadd, 1) := by decide +kernel
theorem dL_law_724 : decode cL_law 724 = .ok (.iaload, 1) := by decide +kernel
theorem dL_law_725 : decode cL_law 725 = .ok (.aload_n 0, 1) := by decide +kernel
theorem dL_law_726 : decode cL_law 726 = .ok (.iload_n 3, 1) := by decide +kernel
theorem dL_law_727 : decode cL_law 727 = .ok (.iconst 3, 1) := by decide +kernel
theorem dL_law_728 : decode cL_law 728 = .ok (.iadd, 1) := by decide +kernel
theorem dL_law_729 : decode cL_law 729 = .ok (.iaload, 1) := by decide +kernel
theorem dL_law_730 : decode cL_law 730 = .ok (.invokevirtual 89, 3) := by decide +kernel
theorem dL_law_733 : decode cL_law 733 = .ok (.aload_n 2, 1) := by decide +kernel
theorem dL_law_734 : decode cL_law 734 = .ok (.aload_n 0, 1) := by decide +kernel
theorem dL_law_735 : decode cL_law 735 = .ok (.iload_n 3, 1) := by decide +kernel
theorem dL_law_736 : decode cL_law 736 = .ok (.iconst 1, 1) := by decide +kernel
theorem dL_law_737 : decode cL_law 737 = .ok (.iadd, 1) := by decide +kernel
theorem dL_law_738 : decode cL_law 738 = .ok (.iaload, 1) := by decide +kernel
theorem dL_law_739 : decode cL_law 739 = .ok (.aload_n 0, 1) := by decide +kernel
theorem dL_law_740 : decode cL_law 740 = .ok (.iload_n 3, 1) := by decide +kernel
theorem dL_law_741 : decode cL_law 741 = .ok (.iconst 2, 1) := by decide +kernel
theorem dL_law_742 : decode cL_law 742 = .ok (.iadd, 1) := by decide +kernel
theorem dL_law_743 : decode cL_law 743 = .ok (.iaload, 1) := by decide +kernel
theorem dL_law_744 : decode cL_law 744 = .ok (.aload_n 0, 1) := by decide +kernel
theorem dL_law_745 : decode cL_law 745 = .ok (.iload_n 3, 1) := by decide +kernel
theorem dL_law_746 : decode cL_law 746 = .ok (.iconst 3, 1) := by decide +kernel
theorem dL_law_747 : decode cL_law 747 = .ok (.iadd, 1) := by decide +kernel
theorem dL_law_748 : decode cL_law 748 = .ok (.iaload, 1) := by decide +kernel
theorem dL_law_749 : decode cL_law 749 = .ok (.invokevirtual 92, 3) := by decide +kernel
theorem dL_law_752 : decode cL_law 752 = .ok (.if_icmp .eq 242, 3) := by decide +kernel
theorem dL_law_755 : decode cL_law 755 = .ok (.iconst 0, 1) := by decide +kernel
theorem dL_law_756 : decode cL_law 756 = .ok (.ireturn, 1) := by decide +kernel
theorem dL_law_757 : decode cL_law 757 = .ok (.aload_n 1, 1) := by decide +kernel
theorem dL_law_758 : decode cL_law 758 = .ok (.aload_n 0, 1) := by decide +kernel
theorem dL_law_759 : decode cL_law 759 = .ok (.iload_n 3, 1) := by decide +kernel
theorem dL_law_760 : decode cL_law 760 = .ok (.iconst 1, 1) := by decide +kernel
theorem dL_law_761 : decode cL_law 761 = .ok (.iadd, 1) := by decide +kernel
theorem dL_law_762 : decode cL_law 762 = .ok (.iaload, 1) := by decide +kernel
theorem dL_law_763 : decode cL_law 763 = .ok (.aload_n 0, 1) := by decide +kernel
theorem dL_law_764 : decode cL_law 764 = .ok (.iload_n 3, 1) := by decide +kernel
theorem dL_law_765 : decode cL_law 765 = .ok (.iconst 2, 1) := by decide +kernel
theorem dL_law_766 : decode cL_law 766 = .ok (.iadd, 1) := by decide +kernel
theorem dL_law_767 : decode cL_law 767 = .ok (.iaload, 1) := by decide +kernel
theorem dL_law_768 : decode cL_law 768 = .ok (.aload_n 0, 1) := by decide +kernel
theorem dL_law_769 : decode cL_law 769 = .ok (.iload_n 3, 1) := by decide +kernel
theorem dL_law_770 : decode cL_law 770 = .ok (.iconst 3, 1) := by decide +kernel
theorem dL_law_771 : decode cL_law 771 = .ok (.iadd, 1) := by decide +kernel
theorem dL_law_772 : decode cL_law 772 = .ok (.iaload, 1) := by decide +kernel
theorem dL_law_773 : decode cL_law 773 = .ok (.aload_n 0, 1) := by decide +kernel
theorem dL_law_774 : decode cL_law 774 = .ok (.iload_n 3, 1) := by decide +kernel
theorem dL_law_775 : decode cL_law 775 = .ok (.iconst 4, 1) := by decide +kernel
theorem dL_law_776 : decode cL_law 776 = .ok (.iadd, 1) := by decide +kernel
theorem dL_law_777 : decode cL_law 777 = .ok (.iaload, 1) := by decide +kernel
theorem dL_law_778 : decode cL_law 778 = .ok (.invokevirtual 93, 3) := by decide +kernel
theorem dL_law_781 : decode cL_law 781 = .ok (.aload_n 2, 1) := by decide +kernel
theorem dL_law_782 : decode cL_law 782 = .ok (.aload_n 0, 1) := by decide +kernel
theorem dL_law_783 : decode cL_law 783 = .ok (.iload_n 3, 1) := by decide +kernel
theorem dL_law_784 : decode cL_law 784 = .ok (.iconst 1, 1) := by decide +kernel
theorem dL_law_785 : decode cL_law 785 = .ok (.iadd, 1) := by decide +kernel
theorem dL_law_786 : decode cL_law 786 = .ok (.iaload, 1) := by decide +kernel
theorem dL_law_787 : decode cL_law 787 = .ok (.aload_n 0, 1) := by decide +kernel
theorem dL_law_788 : decode cL_law 788 = .ok (.iload_n 3, 1) := by decide +kernel
theorem dL_law_789 : decode cL_law 789 = .ok (.iconst 2, 1) := by decide +kernel
theorem dL_law_790 : decode cL_law 790 = .ok (.iadd, 1) := by decide +kernel
theorem dL_law_791 : decode cL_law 791 = .ok (.iaload, 1) := by decide +kernel
theorem dL_law_792 : decode cL_law 792 = .ok (.aload_n 0, 1) := by decide +kernel
theorem dL_law_793 : decode cL_law 793 = .ok (.iload_n 3, 1) := by decide +kernel
theorem dL_law_794 : decode cL_law 794 = .ok (.iconst 3, 1) := by decide +kernel
theorem dL_law_795 : decode cL_law 795 = .ok (.iadd, 1) := by decide +kernel
theorem dL_law_796 : decode cL_law 796 = .ok (.iaload, 1) := by decide +kernel
theorem dL_law_797 : decode cL_law 797 = .ok (.aload_n 0, 1) := by decide +kernel
theorem dL_law_798 : decode cL_law 798 = .ok (.iload_n 3, 1) := by decide +kernel
theorem dL_law_799 : decode cL_law 799 = .ok (.iconst 4, 1) := by decide +kernel
theorem dL_law_800 : decode cL_law 800 = .ok (.iadd, 1) := by decide +kernel
theorem dL_law_801 : decode cL_law 801 = .ok (.iaload, 1) := by decide +kernel
theorem dL_law_802 : decode cL_law 802 = .ok (.invokevirtual 97, 3) := by decide +kernel
theorem dL_law_805 : decode cL_law 805 = .ok (.if_icmp .eq 189, 3) := by decide +kernel
theorem dL_law_808 : decode cL_law 808 = .ok (.iconst 0, 1) := by decide +kernel
theorem dL_law_809 : decode cL_law 809 = .ok (.ireturn, 1) := by decide +kernel
theorem dL_law_810 : decode cL_law 810 = .ok (.aload_n 1, 1) := by decide +kernel
theorem dL_law_811 : decode cL_law 811 = .ok (.aload_n 0, 1) := by decide +kernel
theorem dL_law_812 : decode cL_law 812 = .ok (.iload_n 3, 1) := by decide +kernel
theorem dL_law_813 : decode cL_law 813 = .ok (.iconst 1, 1) := by decide +kernel
theorem dL_law_814 : decode cL_law 814 = .ok (.iadd, 1) := by decide +kernel
theorem dL_law_815 : decode cL_law 815 = .ok (.iaload, 1) := by decide +kernel
theorem dL_law_816 : decode cL_law 816 = .ok (.invokevirtual 98, 3) := by decide +kernel
theorem dL_law_819 : decode cL_law 819 = .ok (.aload_n 2, 1) := by decide +kernel
theorem dL_law_820 : decode cL_law 820 = .ok (.aload_n 0, 1) := by decide +kernel
theorem dL_law_821 : decode cL_law 821 = .ok (.iload_n 3, 1) := by decide +kernel
theorem dL_law_822 : decode cL_law 822 = .ok (.iconst 1, 1) := by decide +kernel
theorem dL_law_823 : decode cL_law 823 = .ok (.iadd, 1) := by decide +kernel
theorem dL_law_824 : decode cL_law 824 = .ok (.iaload, 1) := by decide +kernel
theorem dL_law_825 : decode cL_law 825 = .ok (.invokevirtual 101, 3) := by decide +kernel
theorem dL_law_828 : decode cL_law 828 = .ok (.if_icmp .eq 166, 3) := by decide +kernel
theorem dL_law_831 : decode cL_law 831 = .ok (.iconst 0, 1) := by decide +kernel
theorem dL_law_832 : decode cL_law 832 = .ok (.ireturn, 1) := by decide +kernel
theorem dL_law_833 : decode cL_law 833 = .ok (.aload_n 1, 1) := by decide +kernel
theorem dL_law_834 : decode cL_law 834 = .ok (.invokevirtual 102, 3) := by decide +kernel
theorem dL_law_837 : decode cL_law 837 = .ok (.aload_n 2, 1) := by decide +kernel
theorem dL_law_838 : decode cL_law 838 = .ok (.invokevirtual 105, 3) := by decide +kernel
theorem dL_law_841 : decode cL_law 841 = .ok (.if_icmp .eq 153, 3) := by decide +kernel
theorem dL_law_844 : decode cL_law 844 = .ok (.iconst 0, 1) := by decide +kernel
theorem dL_law_845 : decode cL_law 845 = .ok (.ireturn, 1) := by decide +kernel
theorem dL_law_846 : decode cL_law 846 = .ok (.aload_n 1, 1) := by decide +kernel
theorem dL_law_847 : decode cL_law 847 = .ok (.aload_n 0, 1) := by decide +kernel
theorem dL_law_848 : decode cL_law 848 = .ok (.iload_n 3, 1) := by decide +kernel
theorem dL_law_849 : decode cL_law 849 = .ok (.iconst 1, 1) := by decide +kernel
theorem dL_law_850 : decode cL_law 850 = .ok (.iadd, 1) := by decide +kernel
theorem dL_law_851 : decode cL_law 851 = .ok (.iaload, 1) := by decide +kernel
theorem dL_law_852 : decode cL_law 852 = .ok (.invokevirtual 106, 3) := by decide +kernel
theorem dL_law_855 : decode cL_law 855 = .ok (.aload_n 2, 1) := by decide +kernel
theorem dL_law_856 : decode cL_law 856 = .ok (.aload_n 0, 1) := by decide +kernel
theorem dL_law_857 : decode cL_law 857 = .ok (.iload_n 3, 1) := by decide +kernel
theorem dL_law_858 : decode cL_law 858 = .ok (.iconst 1, 1) := by decide +kernel
theorem dL_law_859 : decode cL_law 859 = .ok (.iadd, 1) := by decide +kernel
theorem dL_law_860 : decode cL_law 860 = .ok (.iaload, 1) := by decide +kernel
theorem dL_law_861 : decode cL_law 861 = .ok (.invokevirtual 109, 3) := by decide +kernel
theorem dL_law_864 : decode cL_law 864 = .ok (.if_icmp .eq 130, 3) := by decide +kernel
theorem dL_law_867 : decode cL_law 867 = .ok (.iconst 0, 1) := by decide +kernel
theorem dL_law_868 : decode cL_law 868 = .ok (.ireturn, 1) := by decide +kernel
theorem dL_law_869 : decode cL_law 869 = .ok (.aload_n 1, 1) := by decide +kernel
theorem dL_law_870 : decode cL_law 870 = .ok (.aload_n 0, 1) := by decide +kernel
theorem dL_law_871 : decode cL_law 871 = .ok (.iload_n 3, 1) := by decide +kernel
theorem dL_law_872 : decode cL_law 872 = .ok (.iconst 1, 1) := by decide +kernel
theorem dL_law_873 : decode cL_law 873 = .ok (.iadd, 1) := by decide +kernel
theorem dL_law_874 : decode cL_law 874 = .ok (.iaload, 1) := by decide +kernel
theorem dL_law_875 : decode cL_law 875 = .ok (.invokevirtual 110, 3) := by decide +kernel
theorem dL_law_878 : decode cL_law 878 = .ok (.aload_n 2, 1) := by decide +kernel
theorem dL_law_879 : decode cL_law 879 = .ok (.aload_n 0, 1) := by decide +kernel
theorem dL_law_880 : decode cL_law 880 = .ok (.iload_n 3, 1) := by decide +kernel
theorem dL_law_881 : decode cL_law 881 = .ok (.iconst 1, 1) := by decide +kernel
theorem dL_law_882 : decode cL_law 882 = .ok (.iadd, 1) := by decide +kernel
theorem dL_law_883 : decode cL_law 883 = .ok (.iaload, 1) := by decide +kernel
theorem dL_law_884 : decode cL_law 884 = .ok (.invokevirtual 113, 3) := by decide +kernel
theorem dL_law_887 : decode cL_law 887 = .ok (.if_icmp .eq 107, 3) := by decide +kernel
theorem dL_law_890 : decode cL_law 890 = .ok (.iconst 0, 1) := by decide +kernel
theorem dL_law_891 : decode cL_law 891 = .ok (.ireturn, 1) := by decide +kernel
theorem dL_law_892 : decode cL_law 892 = .ok (.aload_n 1, 1) := by decide +kernel
theorem dL_law_893 : decode cL_law 893 = .ok (.aload_n 0, 1) := by decide +kernel
theorem dL_law_894 : decode cL_law 894 = .ok (.iload_n 3, 1) := by decide +kernel
theorem dL_law_895 : decode cL_law 895 = .ok (.iconst 1, 1) := by decide +kernel
theorem dL_law_896 : decode cL_law 896 = .ok (.iadd, 1) := by decide +kernel
theorem dL_law_897 : decode cL_law 897 = .ok (.iaload, 1) := by decide +kernel
theorem dL_law_898 : decode cL_law 898 = .ok (.aload_n 0, 1) := by decide +kernel
theorem dL_law_899 : decode cL_law 899 = .ok (.iload_n 3, 1) := by decide +kernel
theorem dL_law_900 : decode cL_law 900 = .ok (.iconst 2, 1) := by decide +kernel
theorem dL_law_901 : decode cL_law 901 = .ok (.iadd, 1) := by decide +kernel
theorem dL_law_902 : decode cL_law 902 = .ok (.iaload, 1) := by decide +kernel
theorem dL_law_903 : decode cL_law 903 = .ok (.aload_n 0, 1) := by decide +kernel
theorem dL_law_904 : decode cL_law 904 = .ok (.iload_n 3, 1) := by decide +kernel
theorem dL_law_905 : decode cL_law 905 = .ok (.iconst 3, 1) := by decide +kernel
theorem dL_law_906 : decode cL_law 906 = .ok (.iadd, 1) := by decide +kernel
theorem dL_law_907 : decode cL_law 907 = .ok (.iaload, 1) := by decide +kernel
theorem dL_law_908 : decode cL_law 908 = .ok (.aload_n 0, 1) := by decide +kernel
theorem dL_law_909 : decode cL_law 909 = .ok (.iload_n 3, 1) := by decide +kernel
theorem dL_law_910 : decode cL_law 910 = .ok (.iconst 4, 1) := by decide +kernel
theorem dL_law_911 : decode cL_law 911 = .ok (.iadd, 1) := by decide +kernel
theorem dL_law_912 : decode cL_law 912 = .ok (.iaload, 1) := by decide +kernel
theorem dL_law_913 : decode cL_law 913 = .ok (.invokevirtual 114, 3) := by decide +kernel
theorem dL_law_916 : decode cL_law 916 = .ok (.aload_n 2, 1) := by decide +kernel
theorem dL_law_917 : decode cL_law 917 = .ok (.aload_n 0, 1) := by decide +kernel
theorem dL_law_918 : decode cL_law 918 = .ok (.iload_n 3, 1) := by decide +kernel
theorem dL_law_919 : decode cL_law 919 = .ok (.iconst 1, 1) := by decide +kernel
theorem dL_law_920 : decode cL_law 920 = .ok (.iadd, 1) := by decide +kernel
theorem dL_law_921 : decode cL_law 921 = .ok (.iaload, 1) := by decide +kernel
theorem dL_law_922 : decode cL_law 922 = .ok (.aload_n 0, 1) := by decide +kernel
theorem dL_law_923 : decode cL_law 923 = .ok (.iload_n 3, 1) := by decide +kernel
theorem dL_law_924 : decode cL_law 924 = .ok (.iconst 2, 1) := by decide +kernel
theorem dL_law_925 : decode cL_law 925 = .ok (.iadd, 1) := by decide +kernel
theorem dL_law_926 : decode cL_law 926 = .ok (.iaload, 1) := by decide +kernel
theorem dL_law_927 : decode cL_law 927 = .ok (.aload_n 0, 1) := by decide +kernel
theorem dL_law_928 : decode cL_law 928 = .ok (.iload_n 3, 1) := by decide +kernel
theorem dL_law_929 : decode cL_law 929 = .ok (.iconst 3, 1) := by decide +kernel
theorem dL_law_930 : decode cL_law 930 = .ok (.iadd, 1) := by decide +kernel
theorem dL_law_931 : decode cL_law 931 = .ok (.iaload, 1) := by decide +kernel
theorem dL_law_932 : decode cL_law 932 = .ok (.aload_n 0, 1) := by decide +kernel
theorem dL_law_933 : decode cL_law 933 = .ok (.iload_n 3, 1) := by decide +kernel
theorem dL_law_934 : decode cL_law 934 = .ok (.iconst 4, 1) := by decide +kernel
theorem dL_law_935 : decode cL_law 935 = .ok (.iadd, 1) := by decide +kernel
theorem dL_law_936 : decode cL_law 936 = .ok (.iaload, 1) := by decide +kernel
theorem dL_law_937 : decode cL_law 937 = .ok (.invokevirtual 117, 3) := by decide +kernel
theorem dL_law_940 : decode cL_law 940 = .ok (.if_icmp .eq 54, 3) := by decide +kernel
theorem dL_law_943 : decode cL_law 943 = .ok (.iconst 0, 1) := by decide +kernel
theorem dL_law_944 : decode cL_law 944 = .ok (.ireturn, 1) := by decide +kernel
theorem dL_law_945 : decode cL_law 945 = .ok (.aload_n 1, 1) := by decide +kernel
theorem dL_law_946 : decode cL_law 946 = .ok (.invokevirtual 118, 3) := by decide +kernel
theorem dL_law_949 : decode cL_law 949 = .ok (.aload_n 2, 1) := by decide +kernel
theorem dL_law_950 : decode cL_law 950 = .ok (.invokevirtual 121, 3) := by decide +kernel
theorem dL_law_953 : decode cL_law 953 = .ok (.if_icmp .eq 41, 3) := by decide +kernel
theorem dL_law_956 : decode cL_law 956 = .ok (.iconst 0, 1) := by decide +kernel
theorem dL_law_957 : decode cL_law 957 = .ok (.ireturn, 1) := by decide +kernel
theorem dL_law_958 : decode cL_law 958 = .ok (.aload_n 1, 1) := by decide +kernel
theorem dL_law_959 : decode cL_law 959 = .ok (.invokevirtual 122, 3) := by decide +kernel
theorem dL_law_962 : decode cL_law 962 = .ok (.aload_n 2, 1) := by decide +kernel
theorem dL_law_963 : decode cL_law 963 = .ok (.invokevirtual 125, 3) := by decide +kernel
theorem dL_law_966 : decode cL_law 966 = .ok (.if_icmp .eq 28, 3) := by decide +kernel
theorem dL_law_969 : decode cL_law 969 = .ok (.iconst 0, 1) := by decide +kernel
theorem dL_law_970 : decode cL_law 970 = .ok (.ireturn, 1) := by decide +kernel
theorem dL_law_971 : decode cL_law 971 = .ok (.aload_n 1, 1) := by decide +kernel
theorem dL_law_972 : decode cL_law 972 = .ok (.aload_n 0, 1) := by decide +kernel
theorem dL_law_973 : decode cL_law 973 = .ok (.iload_n 3, 1) := by decide +kernel
theorem dL_law_974 : decode cL_law 974 = .ok (.iconst 1, 1) := by decide +kernel
theorem dL_law_975 : decode cL_law 975 = .ok (.iadd, 1) := by decide +kernel
theorem dL_law_976 : decode cL_law 976 = .ok (.iaload, 1) := by decide +kernel
theorem dL_law_977 : decode cL_law 977 = .ok (.invokevirtual 126, 3) := by decide +kernel
theorem dL_law_980 : decode cL_law 980 = .ok (.aload_n 2, 1) := by decide +kernel
theorem dL_law_981 : decode cL_law 981 = .ok (.aload_n 0, 1) := by decide +kernel
theorem dL_law_982 : decode cL_law 982 = .ok (.iload_n 3, 1) := by decide +kernel
theorem dL_law_983 : decode cL_law 983 = .ok (.iconst 1, 1) := by decide +kernel
theorem dL_law_984 : decode cL_law 984 = .ok (.iadd, 1) := by decide +kernel
theorem dL_law_985 : decode cL_law 985 = .ok (.iaload, 1) := by decide +kernel
theorem dL_law_986 : decode cL_law 986 = .ok (.invokevirtual 129, 3) := by decide +kernel
theorem dL_law_989 : decode cL_law 989 = .ok (.if_icmp .eq 5, 3) := by decide +kernel
theorem dL_law_992 : decode cL_law 992 = .ok (.iconst 0, 1) := by decide +kernel
theorem dL_law_993 : decode cL_law 993 = .ok (.ireturn, 1) := by decide +kernel
theorem dL_law_994 : decode cL_law 994 = .ok (.iinc 3 5, 3) := by decide +kernel
theorem dL_law_997 : decode cL_law 997 = .ok (.goto (-979), 3) := by decide +kernel
theorem dL_law_1000 : decode cL_law 1000 = .ok (.iconst 1, 1) := by decide +kernel
theorem dL_law_1001 : decode cL_law 1001 = .ok (.ireturn, 1) := by decide +kernel
end
section
/-! AN ABSTRACT MACHINE OVER THE KIT'S ROWS. Values: ints as Int, references by number (0: null; 1 the script, 2 .. 5 the static rows, 16 and on: what the run has made, in its order).
A heap: how many cells were made, and what each number holds: .inl (tag, fields) an object (tag - 1: its place in vwCl) or a row of references (tag 33 ..); .inr (n, f) an int row; .inl (0, []) nothing. -/
abbrev AV : Type := Int ⊕ Nat
abbrev AC : Type := (Nat × List AV) ⊕ (Nat × (Nat → Int))
abbrev AH : Type := Nat × (Nat → AC)
abbrev MT : Type := MethodName × ByteArray × Nat × Option FieldType
abbrev Om : Type := State × (Nat → Nat) × va_G × (Nat → ClassId)
def aw_adr (w : Om) (a : Nat) : Nat := if a < 16 then w.2.1 a else w.1.heap.size + (a - 16)
def aw_tr (w : Om) : AV → Value
  | .inl x => .int (Int32.ofInt x)
  | .inr a => if a = 0 then .null else .ref (aw_adr w a)
def RI (x : Int) : Prop := -2147483648 ≤ x ∧ x < 2147483648
def RV : AV → Prop
  | .inl x => RI x
  | .inr _ => True
def aw_sn (k : Nat) : String × String := if k = 2 then ("SaidShorter", "WORDS") else if k = 3 then ("SaidShorter", "DRAWN") else if k = 4 then ("SaidShorter", "FACT_MEANINGS") else ("SaidShorterModel", "LETTERS")
def aw_tys (w : Om) : List (ClassId × FieldType) := [(w.2.2.2 0, .int), (w.2.2.2 1, .object "SaidShorter$Stranger"), (w.2.2.2 2, .object "SaidShorter$Saying"), (w.2.2.2 3, .object "SaidShorter$Fewest")]
def aw_Wd (w : Om) : Prop :=
  (∀ c ∈ lw_tbl, c.before #[Value.ref (w.2.1 1)] w.1 = true) ∧ va_K w.2.2.1 vwCl (aw_tys w) w.1 ∧
  (∀ k, 2 ≤ k → k ≤ 5 → va_Z (aw_sn k).1 (aw_sn k).2 "[I" (.ref (w.2.1 k)) (fun q => w.1.heap.size ≤ q) w.1 w.1.heap) ∧ ∀ k, 1 ≤ k → k ≤ 5 → w.2.1 k < w.1.heap.size
def aw_CO (w : Om) (H : Heap) (a : Nat) (c : AC) : Prop := match c with
  | .inl (0, _) => True
  | .inl (t + 1, vs) => if t < 32 then ∃ r : vw_C, vwCl[t]? = some r ∧ vs.length = r.2.2 ∧ t_OB (aw_adr w a) (w.2.2.1.1 t) r.2.2 (w.2.2.1.2 t) H (vp_V (vs.map (aw_tr w)))
    else H[aw_adr w a]? = some (arrV (w.2.2.2 (t - 31)) vs.length (fun j => aw_tr w (vs.getD j (.inr 0))))
  | .inr (n, f) => H[aw_adr w a]? = some (arrV (w.2.2.2 0) n (fun j => .int (Int32.ofInt (f j))))
def aw_SO (w : Om) (a : Nat) (c : AC) : Prop := match c with
  | .inl z => z = (0, [])
  | .inr (n, f) => a ≠ 0 ∧ a ≤ 5 ∧ n < 2147483648 ∧ va_T .int (w.2.1 a) n (fun j => .int (Int32.ofInt (f j))) (fun q => w.1.heap.size ≤ q) w.1 w.1.heap
def aw_RC : AC → Prop
  | .inl z => ∀ v ∈ z.2, RV v
  | .inr z => ∀ j, RI (z.2 j)
def aw_RH (w : Om) (H : Heap) (h : AH) : Prop :=
  H.size = w.1.heap.size + h.1 ∧ (∀ q, q < w.1.heap.size → H[q]? = w.1.heap[q]?) ∧ (∀ a, 16 ≤ a → a < 16 + h.1 → aw_CO w H a (h.2 a)) ∧ (∀ a, 16 + h.1 ≤ a → h.2 a = .inl (0, [])) ∧ (∀ a, a < 16 → aw_SO w a (h.2 a)) ∧ ∀ a, aw_RC (h.2 a)
def aw_LR (w : Om) (rl : Array Slot) (nL : Nat) (ls : List (Option AV)) : Prop := rl.size = nL ∧ lv_wf rl ∧ ls.length = nL ∧ ∀ (i : Nat) (v : AV), ls[i]? = some (some v) → rl[i]? = some (.val (aw_tr w v)) ∧ RV v
def aw_Qc (w : Om) (Q : Option AV → AH → Prop) : Array Value → State → Outcome → State → Prop := fun _ _ o t => ∃ (r : Option AV) (h : AH), Q r h ∧ o = .returned (r.map (aw_tr w)) ∧ aw_RH w t.heap h ∧ ∀ v, r = some v → RV v
def aw_En (w : Om) (M : MT) (p : Program) (s : State) (m : MethodId) (meth : Method) (c : Code) : Prop :=
  p.tables.exec = Jvm.exec ∧ c.code = M.2.1 ∧ c.maxLocals = M.2.2.1 ∧ meth.sig.returnType = M.2.2.2 ∧ meth.locks = false ∧ (M.1.name = "<init>" → meth.name = "<init>") ∧ s.vm.findClass M.1.cls = some m.cls ∧ w.1.WarmedH s.vm
/-- THE JUDGEMENT: method M at pc, with locals, stack and heap, at depth d, with bc cells of bs slots to make: it returns r and leaves h with Q r h -/
def AW (d bc bs : Nat) (M : MT) (Q : Option AV → AH → Prop) (pc : Nat) (ls : List (Option AV)) (st : List AV) (h : AH) : Prop :=
  ∀ (w : Om) (p : Program) (l : Launch) (e : Env) (R : Room) (s : State) (m : MethodId) (args : Array Value) (below : List Frame) (meth : Method) (c : Code) (H : Heap) (locs : List Loc) (cells slots : Nat) (rl : Array Slot),
    aw_Wd w → aw_En w M p s m meth c → (d ≤ R.frames ∧ 40 * d ≤ R.locals ∧ cells + bc ≤ R.cells ∧ slots + bs ≤ R.slots) → aw_RH w H h → aw_LR w rl M.2.2.1 ls → (∀ v ∈ st, RV v) → (∀ q ∈ locs, w.1.heap.size ≤ q.base) →
    W p l e R s m args below meth c H locs cells slots (MQ below (aw_Qc w Q) args s (cells + bc) (slots + bs) (fun q => w.1.heap.size ≤ q)) (F0 m pc rl (st.map (aw_tr w)))
/-- a method from its entry -/
def MW (d bc bs : Nat) (M : MT) (args : List AV) (h : AH) (Q : Option AV → AH → Prop) : Prop := AW d bc bs M Q 0 (args.map some ++ List.replicate (M.2.2.1 - args.length) none) [] h

theorem ri_of (x : Int32) : RI x.toInt := by
  have h1 := Int32.le_toInt x
  have h2 := Int32.toInt_lt x
  exact ⟨by omega, by omega⟩
theorem ri_back {x : Int} (h : RI x) : (Int32.ofInt x).toInt = x := Int32.toInt_ofInt_of_le (by have := h.1; omega) (by have := h.2; omega)
theorem aw_cat (w : Om) (v : AV) : (aw_tr w v).category = 1 := by
  cases v with
  | inl x => rfl
  | inr a =>
    show (if a = 0 then Value.null else .ref (aw_adr w a)).category = 1
    split <;> rfl
theorem aw_rv_int {x : Int} (h : RV (.inl x)) : RI x := h
section Pure
variable {d bc bs : Nat} {M : MT} {Q : Option AV → AH → Prop} {pc pc' : Nat} {ls : List (Option AV)} {st st' rest : List AV} {h : AH} {x y : Int}
theorem AW.pu (hs : ∀ (w : Om) (p : Program) (l : Launch) (e : Env) (R : Room) (s : State) (m : MethodId) (args : Array Value) (below : List Frame) (meth : Method) (c : Code) (H : Heap) (locs : List Loc) (cells slots : Nat) (Q' : State → Prop) (rl : Array Slot),
      p.tables.exec = Jvm.exec → c.code = M.2.1 → aw_LR w rl M.2.2.1 ls → W p l e R s m args below meth c H locs cells slots Q' (F0 m pc' rl (st'.map (aw_tr w))) → W p l e R s m args below meth c H locs cells slots Q' (F0 m pc rl (st.map (aw_tr w))))
    (hr : (∀ (i : Nat) (v : AV), ls[i]? = some (some v) → RV v) → (∀ v ∈ st, RV v) → ∀ v ∈ st', RV v) (k : AW d bc bs M Q pc' ls st' h) : AW d bc bs M Q pc ls st h := by
  intro w p l e R s m args below meth c H locs cells slots rl hw hE hR hH hL hst hlo
  exact hs w p l e R s m args below meth c H locs cells slots _ rl hE.1 hE.2.1 hL (k w p l e R s m args below meth c H locs cells slots rl hw hE hR hH hL (hr (fun i v q => (hL.2.2.2 i v q).2) hst) hlo)
theorem AW.iconst {n : Int} (hd : decode M.2.1 pc = .ok (.iconst n, 1)) (k : AW d bc bs M Q (pc + 1) ls (.inl n :: st) h) (hn : RI n := by (constructor <;> decide)) : AW d bc bs M Q pc ls st h :=
  AW.pu (fun w p l e R s m args below meth c H locs cells slots Q' rl hx hb hL kk => lv_iconst hx hb hd rfl kk) (fun _ hv v q => by rcases List.mem_cons.mp q with rfl | q; exact hn; exact hv v q) k
theorem AW.bipush {n : Int} (hd : decode M.2.1 pc = .ok (.bipush n, 2)) (k : AW d bc bs M Q (pc + 2) ls (.inl n :: st) h) (hn : RI n := by (constructor <;> decide)) (h2 : (Int8.ofInt n).toInt32 = Int32.ofInt n := by decide) : AW d bc bs M Q pc ls st h :=
  AW.pu (fun w p l e R s m args below meth c H locs cells slots Q' rl hx hb hL kk => lv_bipush hx hb hd h2 kk) (fun _ hv v q => by rcases List.mem_cons.mp q with rfl | q; exact hn; exact hv v q) k
theorem AW.sipush {n : Int} (hd : decode M.2.1 pc = .ok (.sipush n, 3)) (k : AW d bc bs M Q (pc + 3) ls (.inl n :: st) h) (hn : RI n := by (constructor <;> decide)) (h2 : (Int16.ofInt n).toInt32 = Int32.ofInt n := by decide) : AW d bc bs M Q pc ls st h :=
  AW.pu (fun w p l e R s m args below meth c H locs cells slots Q' rl hx hb hL kk => lv_sipush hx hb hd h2 kk) (fun _ hv v q => by rcases List.mem_cons.mp q with rfl | q; exact hn; exact hv v q) k
theorem AW.anull (hd : decode M.2.1 pc = .ok (.aconst_null, 1)) (k : AW d bc bs M Q (pc + 1) ls (.inr 0 :: st) h) : AW d bc bs M Q pc ls st h :=
  AW.pu (fun w p l e R s m args below meth c H locs cells slots Q' rl hx hb hL kk => lv_null hx hb hd kk) (fun _ hv v q => by rcases List.mem_cons.mp q with rfl | q; trivial; exact hv v q) k
theorem AW.iload_n {n : Fin 4} (hd : decode M.2.1 pc = .ok (.iload_n n, 1)) (hl : ls[n.val]? = some (some (.inl x))) (k : AW d bc bs M Q (pc + 1) ls (.inl x :: st) h) : AW d bc bs M Q pc ls st h :=
  AW.pu (fun w p l e R s m args below meth c H locs cells slots Q' rl hx hb hL kk => lv_iload_n hx hb hd rfl (hL.2.2.2 _ _ hl).1 kk) (fun hq hv v q => by rcases List.mem_cons.mp q with rfl | q; exact hq _ _ hl; exact hv v q) k
theorem AW.iload {n : Nat} (hd : decode M.2.1 pc = .ok (.iload n, 2)) (hl : ls[n]? = some (some (.inl x))) (k : AW d bc bs M Q (pc + 2) ls (.inl x :: st) h) : AW d bc bs M Q pc ls st h :=
  AW.pu (fun w p l e R s m args below meth c H locs cells slots Q' rl hx hb hL kk => lv_iload hx hb hd (hL.2.2.2 _ _ hl).1 kk) (fun hq hv v q => by rcases List.mem_cons.mp q with rfl | q; exact hq _ _ hl; exact hv v q) k
theorem AW.aload_n {n : Fin 4} {a : Nat} (hd : decode M.2.1 pc = .ok (.aload_n n, 1)) (hl : ls[n.val]? = some (some (.inr a))) (k : AW d bc bs M Q (pc + 1) ls (.inr a :: st) h) : AW d bc bs M Q pc ls st h :=
  AW.pu (fun w p l e R s m args below meth c H locs cells slots Q' rl hx hb hL kk => by
    have h1 := (hL.2.2.2 _ _ hl).1
    have kk : W p l e R s m args below meth c H locs cells slots Q' (F0 m (pc + 1) rl (aw_tr w (.inr a) :: st.map (aw_tr w))) := kk
    by_cases ha : a = 0
    · have e : aw_tr w (.inr a) = .null := by simp [aw_tr, ha]
      rw [e] at h1 kk
      exact lv_aload_nN hx hb hd rfl h1 kk
    · have e : aw_tr w (.inr a) = .ref (aw_adr w a) := by simp [aw_tr, ha]
      rw [e] at h1 kk
      exact lv_aload_n hx hb hd rfl h1 kk) (fun hq hv v q => by rcases List.mem_cons.mp q with rfl | q; exact hq _ _ hl; exact hv v q) k
theorem AW.aload {n a : Nat} (hd : decode M.2.1 pc = .ok (.aload n, 2)) (hl : ls[n]? = some (some (.inr a))) (k : AW d bc bs M Q (pc + 2) ls (.inr a :: st) h) : AW d bc bs M Q pc ls st h :=
  AW.pu (fun w p l e R s m args below meth c H locs cells slots Q' rl hx hb hL kk => by
    have h1 := (hL.2.2.2 _ _ hl).1
    have kk : W p l e R s m args below meth c H locs cells slots Q' (F0 m (pc + 2) rl (aw_tr w (.inr a) :: st.map (aw_tr w))) := kk
    by_cases ha : a = 0
    · have e : aw_tr w (.inr a) = .null := by simp [aw_tr, ha]
      rw [e] at h1 kk
      exact lv_aloadN hx hb hd h1 kk
    · have e : aw_tr w (.inr a) = .ref (aw_adr w a) := by simp [aw_tr, ha]
      rw [e] at h1 kk
      exact lv_aload hx hb hd h1 kk) (fun hq hv v q => by rcases List.mem_cons.mp q with rfl | q; exact hq _ _ hl; exact hv v q) k
/-! arithmetic -/
def a_add (x y : Int) : Int := (Int32.ofInt x + Int32.ofInt y).toInt
def a_sub (x y : Int) : Int := (Int32.ofInt x - Int32.ofInt y).toInt
def a_mul (x y : Int) : Int := (Int32.ofInt x * Int32.ofInt y).toInt
def a_div (x y : Int) : Int := (Int32.ofInt x / Int32.ofInt y).toInt
def a_rem (x y : Int) : Int := (Int32.ofInt x - Int32.ofInt x / Int32.ofInt y * Int32.ofInt y).toInt
def a_neg (x : Int) : Int := (-Int32.ofInt x).toInt
def a_and (x y : Int) : Int := (Int32.ofInt x &&& Int32.ofInt y).toInt
def a_or (x y : Int) : Int := (Int32.ofInt x ||| Int32.ofInt y).toInt
def a_xor (x y : Int) : Int := (Int32.ofInt x ^^^ Int32.ofInt y).toInt
def a_shl (x y : Int) : Int := (Int32.ofInt x <<< (Int32.ofInt y &&& 31)).toInt
def a_shr (x y : Int) : Int := (Int32.ofInt x >>> (Int32.ofInt y &&& 31)).toInt
theorem AW.bin (f : Int32 → Int32 → Int32) (hs : ∀ (p : Program) (l : Launch) (e : Env) (R : Room) (s : State) (m : MethodId) (args : Array Value) (below : List Frame) (meth : Method) (c : Code) (H : Heap) (locs : List Loc) (cells slots : Nat) (Q' : State → Prop) (rl : Array Slot) (a b : Int32) (rs : List Value),
      p.tables.exec = Jvm.exec → c.code = M.2.1 → b = Int32.ofInt y → W p l e R s m args below meth c H locs cells slots Q' (F0 m (pc + 1) rl (.int (f a b) :: rs)) → W p l e R s m args below meth c H locs cells slots Q' (F0 m pc rl (.int b :: .int a :: rs)))
    (k : AW d bc bs M Q (pc + 1) ls (.inl (f (Int32.ofInt x) (Int32.ofInt y)).toInt :: st) h) : AW d bc bs M Q pc ls (.inl y :: .inl x :: st) h :=
  AW.pu (fun w p l e R s m args below meth c H locs cells slots Q' rl hx hb hL kk => hs p l e R s m args below meth c H locs cells slots Q' rl _ _ _ hx hb rfl (by
    have kk : W p l e R s m args below meth c H locs cells slots Q' (F0 m (pc + 1) rl (.int (Int32.ofInt (f (Int32.ofInt x) (Int32.ofInt y)).toInt) :: st.map (aw_tr w))) := kk
    rw [Int32.ofInt_toInt] at kk
    exact kk)) (fun _ hv v q => by
    rcases List.mem_cons.mp q with rfl | q
    · exact ri_of _
    · exact hv v (List.mem_cons_of_mem _ (List.mem_cons_of_mem _ q))) k
theorem AW.iadd (hd : decode M.2.1 pc = .ok (.iadd, 1)) (k : AW d bc bs M Q (pc + 1) ls (.inl (a_add x y) :: st) h) : AW d bc bs M Q pc ls (.inl y :: .inl x :: st) h :=
  AW.bin (fun a b => a + b) (fun p l e R s m args below meth c H locs cells slots Q' rl a b rs hx hb _ kk => lv_iadd hx hb hd kk) k
theorem AW.isub (hd : decode M.2.1 pc = .ok (.isub, 1)) (k : AW d bc bs M Q (pc + 1) ls (.inl (a_sub x y) :: st) h) : AW d bc bs M Q pc ls (.inl y :: .inl x :: st) h :=
  AW.bin (fun a b => a - b) (fun p l e R s m args below meth c H locs cells slots Q' rl a b rs hx hb _ kk => lv_isub hx hb hd kk) k
theorem AW.imul (hd : decode M.2.1 pc = .ok (.imul, 1)) (k : AW d bc bs M Q (pc + 1) ls (.inl (a_mul x y) :: st) h) : AW d bc bs M Q pc ls (.inl y :: .inl x :: st) h :=
  AW.bin (fun a b => a * b) (fun p l e R s m args below meth c H locs cells slots Q' rl a b rs hx hb _ kk => lv_imul hx hb hd kk) k
theorem AW.iand (hd : decode M.2.1 pc = .ok (.iand, 1)) (k : AW d bc bs M Q (pc + 1) ls (.inl (a_and x y) :: st) h) : AW d bc bs M Q pc ls (.inl y :: .inl x :: st) h :=
  AW.bin (fun a b => a &&& b) (fun p l e R s m args below meth c H locs cells slots Q' rl a b rs hx hb _ kk => lv_iand hx hb hd kk) k
theorem AW.ior (hd : decode M.2.1 pc = .ok (.ior, 1)) (k : AW d bc bs M Q (pc + 1) ls (.inl (a_or x y) :: st) h) : AW d bc bs M Q pc ls (.inl y :: .inl x :: st) h :=
  AW.bin (fun a b => a ||| b) (fun p l e R s m args below meth c H locs cells slots Q' rl a b rs hx hb _ kk => lv_ior hx hb hd kk) k
theorem AW.ixor (hd : decode M.2.1 pc = .ok (.ixor, 1)) (k : AW d bc bs M Q (pc + 1) ls (.inl (a_xor x y) :: st) h) : AW d bc bs M Q pc ls (.inl y :: .inl x :: st) h :=
  AW.bin (fun a b => a ^^^ b) (fun p l e R s m args below meth c H locs cells slots Q' rl a b rs hx hb _ kk => lv_ixor hx hb hd kk) k
theorem AW.ishl (hd : decode M.2.1 pc = .ok (.ishl, 1)) (k : AW d bc bs M Q (pc + 1) ls (.inl (a_shl x y) :: st) h) : AW d bc bs M Q pc ls (.inl y :: .inl x :: st) h :=
  AW.bin (fun a b => a <<< (b &&& 31)) (fun p l e R s m args below meth c H locs cells slots Q' rl a b rs hx hb _ kk => lv_ishl hx hb hd kk) k
theorem AW.ishr (hd : decode M.2.1 pc = .ok (.ishr, 1)) (k : AW d bc bs M Q (pc + 1) ls (.inl (a_shr x y) :: st) h) : AW d bc bs M Q pc ls (.inl y :: .inl x :: st) h :=
  AW.bin (fun a b => a >>> (b &&& 31)) (fun p l e R s m args below meth c H locs cells slots Q' rl a b rs hx hb _ kk => lv_ishr hx hb hd kk) k
theorem AW.idiv (hd : decode M.2.1 pc = .ok (.idiv, 1)) (hy : ¬ Int32.ofInt y = 0) (k : AW d bc bs M Q (pc + 1) ls (.inl (a_div x y) :: st) h) : AW d bc bs M Q pc ls (.inl y :: .inl x :: st) h :=
  AW.bin (fun a b => a / b) (fun p l e R s m args below meth c H locs cells slots Q' rl a b rs hx hb eb kk => lv_idiv hx hb hd (by rw [eb]; exact hy) kk) k
theorem AW.irem (hd : decode M.2.1 pc = .ok (.irem, 1)) (hy : ¬ Int32.ofInt y = 0) (k : AW d bc bs M Q (pc + 1) ls (.inl (a_rem x y) :: st) h) : AW d bc bs M Q pc ls (.inl y :: .inl x :: st) h :=
  AW.bin (fun a b => a - a / b * b) (fun p l e R s m args below meth c H locs cells slots Q' rl a b rs hx hb eb kk => lv_irem hx hb hd (by rw [eb]; exact hy) kk) k
theorem AW.ineg (hd : decode M.2.1 pc = .ok (.ineg, 1)) (k : AW d bc bs M Q (pc + 1) ls (.inl (a_neg x) :: st) h) : AW d bc bs M Q pc ls (.inl x :: st) h :=
  AW.pu (fun w p l e R s m args below meth c H locs cells slots Q' rl hx hb hL kk => lv_ineg hx hb hd (by
    have kk : W p l e R s m args below meth c H locs cells slots Q' (F0 m (pc + 1) rl (.int (Int32.ofInt (-Int32.ofInt x).toInt) :: st.map (aw_tr w))) := kk
    rw [Int32.ofInt_toInt] at kk
    exact kk)) (fun _ hv v q => by
    rcases List.mem_cons.mp q with rfl | q
    · exact ri_of _
    · exact hv v (List.mem_cons_of_mem _ q)) k
theorem AW.dup {v : AV} (hd : decode M.2.1 pc = .ok (.dup, 1)) (k : AW d bc bs M Q (pc + 1) ls (v :: v :: st) h) : AW d bc bs M Q pc ls (v :: st) h :=
  AW.pu (fun w p l e R s m args below meth c H locs cells slots Q' rl hx hb hL kk => lv_dup hx hb hd (aw_cat w v) kk) (fun _ hv u q => by
    rcases List.mem_cons.mp q with rfl | q
    · exact hv _ List.mem_cons_self
    · exact hv u q) k
theorem AW.pop {v : AV} (hd : decode M.2.1 pc = .ok (.pop, 1)) (k : AW d bc bs M Q (pc + 1) ls st h) : AW d bc bs M Q pc ls (v :: st) h :=
  AW.pu (fun w p l e R s m args below meth c H locs cells slots Q' rl hx hb hL kk => lv_pop hx hb hd (aw_cat w v) kk) (fun _ hv u q => hv u (List.mem_cons_of_mem _ q)) k
theorem AW.dup2 {v u : AV} (hd : decode M.2.1 pc = .ok (.dup2, 1)) (k : AW d bc bs M Q (pc + 1) ls (v :: u :: v :: u :: st) h) : AW d bc bs M Q pc ls (v :: u :: st) h :=
  AW.pu (fun w p l e R s m args below meth c H locs cells slots Q' rl hx hb hL kk => lv_dup2_11 hx hb hd (aw_cat w v) (aw_cat w u) kk) (fun _ hv z q => by
    simp only [List.mem_cons] at q hv
    rcases q with q | q | q | q | q
    · exact hv z (Or.inl q)
    · exact hv z (Or.inr (Or.inl q))
    · exact hv z (Or.inl q)
    · exact hv z (Or.inr (Or.inl q))
    · exact hv z (Or.inr (Or.inr q))) k
theorem AW.goto {off : Int} {tgt : Nat} (hd : decode M.2.1 pc = .ok (.goto off, 3)) (ht : (pc : Int) + off = (tgt : Int)) (k : AW d bc bs M Q tgt ls st h) : AW d bc bs M Q pc ls st h :=
  AW.pu (fun w p l e R s m args below meth c H locs cells slots Q' rl hx hb hL kk => lv_goto hx hb hd ht kk) (fun _ hv => hv) k
end Pure
end
section
section Br
variable {d bc bs : Nat} {M : MT} {Q : Option AV → AH → Prop} {pc pc' tgt : Nat} {ls : List (Option AV)} {st st' rest : List AV} {h : AH} {x y : Int} {off : Int}
theorem AW.br (cnd : Prop) (hs : ∀ (w : Om) (p : Program) (l : Launch) (e : Env) (R : Room) (s : State) (m : MethodId) (args : Array Value) (below : List Frame) (meth : Method) (c : Code) (H : Heap) (locs : List Loc) (cells slots : Nat) (Q' : State → Prop) (rl : Array Slot),
      p.tables.exec = Jvm.exec → c.code = M.2.1 → (∀ v ∈ st, RV v) → (cnd → W p l e R s m args below meth c H locs cells slots Q' (F0 m tgt rl (st'.map (aw_tr w)))) → (¬ cnd → W p l e R s m args below meth c H locs cells slots Q' (F0 m (pc + 3) rl (st'.map (aw_tr w)))) → W p l e R s m args below meth c H locs cells slots Q' (F0 m pc rl (st.map (aw_tr w))))
    (hr : ∀ v ∈ st', v ∈ st) (kt : cnd → AW d bc bs M Q tgt ls st' h) (kf : ¬ cnd → AW d bc bs M Q (pc + 3) ls st' h) : AW d bc bs M Q pc ls st h := by
  intro w p l e R s m args below meth c H locs cells slots rl hw hE hR hH hL hst hlo
  exact hs w p l e R s m args below meth c H locs cells slots _ rl hE.1 hE.2.1 hst (fun q => kt q w p l e R s m args below meth c H locs cells slots rl hw hE hR hH hL (fun v hv => hst v (hr v hv)) hlo) (fun q => kf q w p l e R s m args below meth c H locs cells slots rl hw hE hR hH hL (fun v hv => hst v (hr v hv)) hlo)
theorem aw_2 {v1 v2 : AV} {st : List AV} : ∀ v ∈ st, v ∈ v1 :: v2 :: st := fun _ q => List.mem_cons_of_mem _ (List.mem_cons_of_mem _ q)
theorem aw_1 {v1 : AV} {st : List AV} : ∀ v ∈ st, v ∈ v1 :: st := fun _ q => List.mem_cons_of_mem _ q
theorem ri_hd {st : List AV} (hv : ∀ v ∈ (.inl x : AV) :: st, RV v) : RI x := hv _ List.mem_cons_self
theorem ri_hd2 {v : AV} {st : List AV} (hv : ∀ u ∈ v :: (.inl x : AV) :: st, RV u) : RI x := hv _ (List.mem_cons_of_mem _ List.mem_cons_self)
theorem ri_lt (hx : RI x) (hy : RI y) : Int32.ofInt x < Int32.ofInt y ↔ x < y := by rw [Int32.lt_iff_toInt_lt, ri_back hx, ri_back hy]
theorem ri_le (hx : RI x) (hy : RI y) : Int32.ofInt x ≤ Int32.ofInt y ↔ x ≤ y := by rw [Int32.le_iff_toInt_le, ri_back hx, ri_back hy]
theorem ri_eq (hx : RI x) (hy : RI y) : Int32.ofInt x = Int32.ofInt y ↔ x = y := by rw [← Int32.toInt_inj, ri_back hx, ri_back hy]
theorem ri_0 : RI 0 := ⟨by omega, by omega⟩
theorem ri_z : (0 : Int32) = Int32.ofInt 0 := by decide
theorem AW.if_icmplt (hd : decode M.2.1 pc = .ok (.if_icmp .lt off, 3)) (ht : (pc : Int) + off = (tgt : Int)) (kt : x < y → AW d bc bs M Q tgt ls st h) (kf : ¬ x < y → AW d bc bs M Q (pc + 3) ls st h) : AW d bc bs M Q pc ls (.inl y :: .inl x :: st) h :=
  AW.br (x < y) (fun w p l e R s m args below meth c H locs cells slots Q' rl hx hb hv kt kf => lv_icmp_lt hx hb hd ht (fun q => kt ((ri_lt (ri_hd2 hv) (ri_hd hv)).mp q)) (fun q => kf (fun z => q ((ri_lt (ri_hd2 hv) (ri_hd hv)).mpr z)))) aw_2 kt kf
theorem AW.if_icmpge (hd : decode M.2.1 pc = .ok (.if_icmp .ge off, 3)) (ht : (pc : Int) + off = (tgt : Int)) (kt : y ≤ x → AW d bc bs M Q tgt ls st h) (kf : ¬ y ≤ x → AW d bc bs M Q (pc + 3) ls st h) : AW d bc bs M Q pc ls (.inl y :: .inl x :: st) h :=
  AW.br (y ≤ x) (fun w p l e R s m args below meth c H locs cells slots Q' rl hx hb hv kt kf => lv_icmp_ge hx hb hd ht (fun q => kt ((ri_le (ri_hd hv) (ri_hd2 hv)).mp q)) (fun q => kf (fun z => q ((ri_le (ri_hd hv) (ri_hd2 hv)).mpr z)))) aw_2 kt kf
theorem AW.if_icmpgt (hd : decode M.2.1 pc = .ok (.if_icmp .gt off, 3)) (ht : (pc : Int) + off = (tgt : Int)) (kt : y < x → AW d bc bs M Q tgt ls st h) (kf : ¬ y < x → AW d bc bs M Q (pc + 3) ls st h) : AW d bc bs M Q pc ls (.inl y :: .inl x :: st) h :=
  AW.br (y < x) (fun w p l e R s m args below meth c H locs cells slots Q' rl hx hb hv kt kf => lv_icmp_gt hx hb hd ht (fun q => kt ((ri_lt (ri_hd hv) (ri_hd2 hv)).mp q)) (fun q => kf (fun z => q ((ri_lt (ri_hd hv) (ri_hd2 hv)).mpr z)))) aw_2 kt kf
theorem AW.if_icmple (hd : decode M.2.1 pc = .ok (.if_icmp .le off, 3)) (ht : (pc : Int) + off = (tgt : Int)) (kt : x ≤ y → AW d bc bs M Q tgt ls st h) (kf : ¬ x ≤ y → AW d bc bs M Q (pc + 3) ls st h) : AW d bc bs M Q pc ls (.inl y :: .inl x :: st) h :=
  AW.br (x ≤ y) (fun w p l e R s m args below meth c H locs cells slots Q' rl hx hb hv kt kf => lv_icmp_le hx hb hd ht (fun q => kt ((ri_le (ri_hd2 hv) (ri_hd hv)).mp q)) (fun q => kf (fun z => q ((ri_le (ri_hd2 hv) (ri_hd hv)).mpr z)))) aw_2 kt kf
theorem AW.if_icmpeq (hd : decode M.2.1 pc = .ok (.if_icmp .eq off, 3)) (ht : (pc : Int) + off = (tgt : Int)) (kt : x = y → AW d bc bs M Q tgt ls st h) (kf : ¬ x = y → AW d bc bs M Q (pc + 3) ls st h) : AW d bc bs M Q pc ls (.inl y :: .inl x :: st) h :=
  AW.br (x = y) (fun w p l e R s m args below meth c H locs cells slots Q' rl hx hb hv kt kf => lv_icmp_eq hx hb hd ht (fun q => kt ((ri_eq (ri_hd2 hv) (ri_hd hv)).mp q)) (fun q => kf (fun z => q ((ri_eq (ri_hd2 hv) (ri_hd hv)).mpr z)))) aw_2 kt kf
theorem AW.if_icmpne (hd : decode M.2.1 pc = .ok (.if_icmp .ne off, 3)) (ht : (pc : Int) + off = (tgt : Int)) (kt : ¬ x = y → AW d bc bs M Q tgt ls st h) (kf : x = y → AW d bc bs M Q (pc + 3) ls st h) : AW d bc bs M Q pc ls (.inl y :: .inl x :: st) h :=
  AW.br (¬ x = y) (fun w p l e R s m args below meth c H locs cells slots Q' rl hx hb hv kt kf => lv_icmp_ne hx hb hd ht (fun q => kt (fun z => q ((ri_eq (ri_hd2 hv) (ri_hd hv)).mpr z))) (fun q => kf (fun z => z ((ri_eq (ri_hd2 hv) (ri_hd hv)).mp q)))) aw_2 kt (fun q => kf (Classical.not_not.mp q))
theorem AW.ifeq (hd : decode M.2.1 pc = .ok (.ifCond .eq off, 3)) (ht : (pc : Int) + off = (tgt : Int)) (kt : x = 0 → AW d bc bs M Q tgt ls st h) (kf : ¬ x = 0 → AW d bc bs M Q (pc + 3) ls st h) : AW d bc bs M Q pc ls (.inl x :: st) h :=
  AW.br (x = 0) (fun w p l e R s m args below meth c H locs cells slots Q' rl hx hb hv kt kf => lv_if_eq hx hb hd ht (fun q => kt ((ri_eq (ri_hd hv) ri_0).mp (by rw [← ri_z]; exact q))) (fun q => kf (fun z => q (by rw [ri_z]; exact (ri_eq (ri_hd hv) ri_0).mpr z)))) aw_1 kt kf
theorem AW.ifne (hd : decode M.2.1 pc = .ok (.ifCond .ne off, 3)) (ht : (pc : Int) + off = (tgt : Int)) (kt : ¬ x = 0 → AW d bc bs M Q tgt ls st h) (kf : x = 0 → AW d bc bs M Q (pc + 3) ls st h) : AW d bc bs M Q pc ls (.inl x :: st) h :=
  AW.br (¬ x = 0) (fun w p l e R s m args below meth c H locs cells slots Q' rl hx hb hv kt kf => lv_if_ne hx hb hd ht (fun q => kt (fun z => q (by rw [ri_z]; exact (ri_eq (ri_hd hv) ri_0).mpr z))) (fun q => kf (fun z => z ((ri_eq (ri_hd hv) ri_0).mp (by rw [← ri_z]; exact q))))) aw_1 kt (fun q => kf (Classical.not_not.mp q))
theorem AW.iflt (hd : decode M.2.1 pc = .ok (.ifCond .lt off, 3)) (ht : (pc : Int) + off = (tgt : Int)) (kt : x < 0 → AW d bc bs M Q tgt ls st h) (kf : ¬ x < 0 → AW d bc bs M Q (pc + 3) ls st h) : AW d bc bs M Q pc ls (.inl x :: st) h :=
  AW.br (x < 0) (fun w p l e R s m args below meth c H locs cells slots Q' rl hx hb hv kt kf => lv_if_lt hx hb hd ht (fun q => kt ((ri_lt (ri_hd hv) ri_0).mp (by rw [← ri_z]; exact q))) (fun q => kf (fun z => q (by rw [ri_z]; exact (ri_lt (ri_hd hv) ri_0).mpr z)))) aw_1 kt kf
theorem AW.ifge (hd : decode M.2.1 pc = .ok (.ifCond .ge off, 3)) (ht : (pc : Int) + off = (tgt : Int)) (kt : 0 ≤ x → AW d bc bs M Q tgt ls st h) (kf : ¬ 0 ≤ x → AW d bc bs M Q (pc + 3) ls st h) : AW d bc bs M Q pc ls (.inl x :: st) h :=
  AW.br (0 ≤ x) (fun w p l e R s m args below meth c H locs cells slots Q' rl hx hb hv kt kf => lv_if_ge hx hb hd ht (fun q => kt ((ri_le ri_0 (ri_hd hv)).mp (by rw [← ri_z]; exact q))) (fun q => kf (fun z => q (by rw [ri_z]; exact (ri_le ri_0 (ri_hd hv)).mpr z)))) aw_1 kt kf
theorem AW.ifle (hd : decode M.2.1 pc = .ok (.ifCond .le off, 3)) (ht : (pc : Int) + off = (tgt : Int)) (kt : x ≤ 0 → AW d bc bs M Q tgt ls st h) (kf : ¬ x ≤ 0 → AW d bc bs M Q (pc + 3) ls st h) : AW d bc bs M Q pc ls (.inl x :: st) h :=
  AW.br (x ≤ 0) (fun w p l e R s m args below meth c H locs cells slots Q' rl hx hb hv kt kf => lv_if_le hx hb hd ht (fun q => kt ((ri_le (ri_hd hv) ri_0).mp (by rw [← ri_z]; exact q))) (fun q => kf (fun z => q (by rw [ri_z]; exact (ri_le (ri_hd hv) ri_0).mpr z)))) aw_1 kt kf
theorem AW.ifgt (hd : decode M.2.1 pc = .ok (.ifCond .gt off, 3)) (ht : (pc : Int) + off = (tgt : Int)) (kt : 0 < x → AW d bc bs M Q tgt ls st h) (kf : ¬ 0 < x → AW d bc bs M Q (pc + 3) ls st h) : AW d bc bs M Q pc ls (.inl x :: st) h :=
  AW.br (0 < x) (fun w p l e R s m args below meth c H locs cells slots Q' rl hx hb hv kt kf => lv_if_gt hx hb hd ht (fun q => kt ((ri_lt ri_0 (ri_hd hv)).mp (by rw [← ri_z]; exact q))) (fun q => kf (fun z => q (by rw [ri_z]; exact (ri_lt ri_0 (ri_hd hv)).mpr z)))) aw_1 kt kf
theorem AW.ifnull {a : Nat} (hd : decode M.2.1 pc = .ok (.ifnull off, 3)) (ht : (pc : Int) + off = (tgt : Int)) (kt : a = 0 → AW d bc bs M Q tgt ls st h) (kf : ¬ a = 0 → AW d bc bs M Q (pc + 3) ls st h) : AW d bc bs M Q pc ls (.inr a :: st) h :=
  AW.br (a = 0) (fun w p l e R s m args below meth c H locs cells slots Q' rl hx hb hv kt kf => by
    show W p l e R s m args below meth c H locs cells slots Q' (F0 m pc rl (aw_tr w (.inr a) :: st.map (aw_tr w)))
    by_cases ha : a = 0
    · have e : aw_tr w (.inr a) = .null := by simp [aw_tr, ha]
      rw [e]
      exact lv_ifnullN hx hb hd ht (kt ha)
    · have e : aw_tr w (.inr a) = .ref (aw_adr w a) := by simp [aw_tr, ha]
      rw [e]
      exact lv_ifnull hx hb hd (kf ha)) aw_1 kt kf
/-! switches -/
theorem AW.table {dflt lo hi : Int} {offs : Array Int} {len : Nat} (hd : decode M.2.1 pc = .ok (.tableswitch dflt lo hi offs, len)) (f : Int → Nat)
    (hf : ∀ i : Nat, i < (hi - lo + 1).toNat → ∃ o, offs[i]? = some o ∧ (pc : Int) + o = (f (lo + i) : Int)) (hdf : (pc : Int) + dflt = (tgt : Int))
    (kin : ∀ i : Int, lo ≤ i → i ≤ hi → x = i → AW d bc bs M Q (f i) ls st h) (kout : (x < lo ∨ hi < x) → AW d bc bs M Q tgt ls st h) : AW d bc bs M Q pc ls (.inl x :: st) h := by
  intro w p l e R s m args below meth c H locs cells slots rl hw hE hR hH hL hst hlo
  have hx := ri_back (ri_hd hst)
  have hst' : ∀ v ∈ st, RV v := fun v hv => hst v (aw_1 v hv)
  by_cases q : x < lo ∨ hi < x
  · exact lv_tableOut hE.1 hE.2.1 hd (by rw [hx]; exact q) hdf (kout q w p l e R s m args below meth c H locs cells slots rl hw hE hR hH hL hst' hlo)
  · have q1 : ¬ x < lo := fun z => q (Or.inl z)
    have q2 : ¬ hi < x := fun z => q (Or.inr z)
    obtain ⟨o, ho, ht⟩ := hf (x - lo).toNat (by omega)
    have e1 : lo + ((x - lo).toNat : Int) = x := by omega
    rw [e1] at ht
    exact lv_tableIn hE.1 hE.2.1 hd (by rw [hx]; exact q1) (by rw [hx]; exact q2) (by rw [hx]; exact ho) ht (kin x (by omega) (by omega) rfl w p l e R s m args below meth c H locs cells slots rl hw hE hR hH hL hst' hlo)
theorem AW.lookup {dflt : Int} {ps : Array (Int × Int)} {len : Nat} (hd : decode M.2.1 pc = .ok (.lookupswitch dflt ps, len)) (hp : (ps.toList.zip (ps.toList.drop 1)).all (fun (a, next) => a.1 < next.1) = true) (f : Int → Nat)
    (hf : (pc : Int) + Op.lookupswitch.offset ps.toList dflt x = (f x : Int)) (k : AW d bc bs M Q (f x) ls st h) : AW d bc bs M Q pc ls (.inl x :: st) h := by
  intro w p l e R s m args below meth c H locs cells slots rl hw hE hR hH hL hst hlo
  have hx := ri_back (ri_hd hst)
  exact lv_lookup hE.1 hE.2.1 hd hp rfl (by rw [hx]; exact hf) (k w p l e R s m args below meth c H locs cells slots rl hw hE hR hH hL (fun v hv => hst v (aw_1 v hv)) hlo)
/-! locals -/
theorem aw_store {w : Om} {rl : Array Slot} {nL i : Nat} {v : AV} (hL : aw_LR w rl nL ls) (hi : i < nL) (hv : RV v) : ∃ rl', storeLocals rl i (aw_tr w v) = some rl' ∧ aw_LR w rl' nL (ls.set i (some v)) := by
  obtain ⟨h1, h2, h3, h4⟩ := hL
  have hh : lv_has rl nL ((List.range nL).filterMap (fun j => match ls[j]? with | some (some u) => some (j, aw_tr w u) | _ => none)) := by
    refine ⟨h1, h2, fun q hq => ?_⟩
    obtain ⟨j, -, hj⟩ := List.mem_filterMap.mp hq
    cases hu : ls[j]? with
    | none => rw [hu] at hj; cases hj
    | some o =>
      cases o with
      | none => rw [hu] at hj; cases hj
      | some u =>
        rw [hu] at hj
        cases hj
        exact (h4 j u hu).1
  obtain ⟨rl', e1, g1, g2, g3⟩ := lv_store1 hh hi (aw_cat w v)
  refine ⟨rl', e1, g1, g2, by rw [List.length_set]; exact h3, fun j u hj => ?_⟩
  by_cases hji : i = j
  · subst hji
    rw [List.getElem?_set_self (by omega)] at hj
    cases hj
    exact ⟨g3 (i, aw_tr w v) List.mem_cons_self, hv⟩
  · rw [List.getElem?_set_ne hji] at hj
    refine ⟨g3 (j, aw_tr w u) (List.mem_cons_of_mem _ (List.mem_filter.mpr ⟨List.mem_filterMap.mpr ⟨j, List.mem_range.mpr ?_, by rw [hj]⟩, ?_⟩)), (h4 j u hj).2⟩
    · have := (List.getElem?_eq_some_iff.mp hj).1
      omega
    · have h5 : (aw_tr w u).category = 1 := aw_cat w u
      simp [h5, Ne.symm hji]
theorem AW.sto {i : Nat} {v : AV} (hi : i < M.2.2.1) (hs : ∀ (w : Om) (p : Program) (l : Launch) (e : Env) (R : Room) (s : State) (m : MethodId) (args : Array Value) (below : List Frame) (meth : Method) (c : Code) (H : Heap) (locs : List Loc) (cells slots : Nat) (Q' : State → Prop) (rl rl' : Array Slot),
      p.tables.exec = Jvm.exec → c.code = M.2.1 → storeLocals rl i (aw_tr w v) = some rl' → W p l e R s m args below meth c H locs cells slots Q' (F0 m pc' rl' (st'.map (aw_tr w))) → W p l e R s m args below meth c H locs cells slots Q' (F0 m pc rl (st.map (aw_tr w))))
    (hr : (∀ u ∈ st, RV u) → ∀ u ∈ st', RV u) (hv : (∀ (j : Nat) (u : AV), ls[j]? = some (some u) → RV u) → (∀ u ∈ st, RV u) → RV v) (k : AW d bc bs M Q pc' (ls.set i (some v)) st' h) : AW d bc bs M Q pc ls st h := by
  intro w p l e R s m args below meth c H locs cells slots rl hw hE hR hH hL hst hlo
  obtain ⟨rl', e1, hL'⟩ := aw_store hL hi (hv (fun j u q => (hL.2.2.2 j u q).2) hst)
  exact hs w p l e R s m args below meth c H locs cells slots _ rl rl' hE.1 hE.2.1 e1 (k w p l e R s m args below meth c H locs cells slots rl' hw hE hR hH hL' (hr hst) hlo)
theorem AW.istore_n {n : Fin 4} (hd : decode M.2.1 pc = .ok (.istore_n n, 1)) (hi : n.val < M.2.2.1) (k : AW d bc bs M Q (pc + 1) (ls.set n.val (some (.inl x))) st h) : AW d bc bs M Q pc ls (.inl x :: st) h :=
  AW.sto hi (fun w p l e R s m args below meth c H locs cells slots Q' rl rl' hx hb e1 kk => by
    intro T hT X
    obtain ⟨t, a, b⟩ := kk T hT X
    refine ⟨t, ?_, b⟩
    have e1 : storeLocals rl n.val (.int (Int32.ofInt x)) = some rl' := e1
    show Steps p.tables e below (T.setTop (F0 m pc rl (.int (Int32.ofInt x) :: st.map (aw_tr w)))) t
    jvm_step X.here [X.here.top, hx, hb, hd, e1]
    exact a) (fun hv u q => hv u (aw_1 u q)) (fun _ hv => hv _ List.mem_cons_self) k
theorem AW.istore {n : Nat} (hd : decode M.2.1 pc = .ok (.istore n, 2)) (hi : n < M.2.2.1) (k : AW d bc bs M Q (pc + 2) (ls.set n (some (.inl x))) st h) : AW d bc bs M Q pc ls (.inl x :: st) h :=
  AW.sto hi (fun w p l e R s m args below meth c H locs cells slots Q' rl rl' hx hb e1 kk => by
    intro T hT X
    obtain ⟨t, a, b⟩ := kk T hT X
    refine ⟨t, ?_, b⟩
    have e1 : storeLocals rl n (.int (Int32.ofInt x)) = some rl' := e1
    show Steps p.tables e below (T.setTop (F0 m pc rl (.int (Int32.ofInt x) :: st.map (aw_tr w)))) t
    jvm_step X.here [X.here.top, hx, hb, hd, e1]
    exact a) (fun hv u q => hv u (aw_1 u q)) (fun _ hv => hv _ List.mem_cons_self) k
theorem AW.astore_n {n : Fin 4} {a : Nat} (hd : decode M.2.1 pc = .ok (.astore_n n, 1)) (hi : n.val < M.2.2.1) (k : AW d bc bs M Q (pc + 1) (ls.set n.val (some (.inr a))) st h) : AW d bc bs M Q pc ls (.inr a :: st) h :=
  AW.sto (v := .inr a) hi (fun w p l e R s m args below meth c H locs cells slots Q' rl rl' hx hb e1 kk => by
    intro T hT X
    obtain ⟨t, ha, b⟩ := kk T hT X
    refine ⟨t, ?_, b⟩
    show Steps p.tables e below (T.setTop (F0 m pc rl (aw_tr w (.inr a) :: st.map (aw_tr w)))) t
    by_cases q : a = 0
    · have e2 : aw_tr w (.inr a) = .null := by simp [aw_tr, q]
      rw [e2] at e1 ⊢
      jvm_step X.here [X.here.top, hx, hb, hd, e1]
      exact ⟨rfl, ha⟩
    · have e2 : aw_tr w (.inr a) = .ref (aw_adr w a) := by simp [aw_tr, q]
      rw [e2] at e1 ⊢
      jvm_step X.here [X.here.top, hx, hb, hd, e1]
      exact ⟨rfl, ha⟩) (fun hv u q => hv u (aw_1 u q)) (fun _ hv => trivial) k
theorem AW.astore {n : Nat} {a : Nat} (hd : decode M.2.1 pc = .ok (.astore n, 2)) (hi : n < M.2.2.1) (k : AW d bc bs M Q (pc + 2) (ls.set n (some (.inr a))) st h) : AW d bc bs M Q pc ls (.inr a :: st) h :=
  AW.sto (v := .inr a) hi (fun w p l e R s m args below meth c H locs cells slots Q' rl rl' hx hb e1 kk => by
    intro T hT X
    obtain ⟨t, ha, b⟩ := kk T hT X
    refine ⟨t, ?_, b⟩
    show Steps p.tables e below (T.setTop (F0 m pc rl (aw_tr w (.inr a) :: st.map (aw_tr w)))) t
    by_cases q : a = 0
    · have e2 : aw_tr w (.inr a) = .null := by simp [aw_tr, q]
      rw [e2] at e1 ⊢
      jvm_step X.here [X.here.top, hx, hb, hd, e1]
      exact ⟨rfl, ha⟩
    · have e2 : aw_tr w (.inr a) = .ref (aw_adr w a) := by simp [aw_tr, q]
      rw [e2] at e1 ⊢
      jvm_step X.here [X.here.top, hx, hb, hd, e1]
      exact ⟨rfl, ha⟩) (fun hv u q => hv u (aw_1 u q)) (fun _ hv => trivial) k
theorem AW.iinc {i : Nat} {n : Int} (hd : decode M.2.1 pc = .ok (.iinc i n, 3)) (hl : ls[i]? = some (some (.inl x))) (hi : i < M.2.2.1) (k : AW d bc bs M Q (pc + 3) (ls.set i (some (.inl (a_add x n)))) st h) : AW d bc bs M Q pc ls st h := by
  intro w p l e R s m args below meth c H locs cells slots rl hw hE hR hH hL hst hlo
  obtain ⟨rl', e1, hL'⟩ := aw_store (v := .inl (a_add x n)) hL hi (ri_of _)
  intro T hT X
  obtain ⟨t, a, b⟩ := k w p l e R s m args below meth c H locs cells slots rl' hw hE hR hH hL' hst hlo T hT X
  refine ⟨t, ?_, b⟩
  have hg : rl[i]? = some (.val (.int (Int32.ofInt x))) := (hL.2.2.2 i _ hl).1
  have e1 : storeLocals rl i (.int (Int32.ofInt x + Int32.ofInt n)) = some rl' := by
    have e2 : aw_tr w (.inl (a_add x n)) = .int (Int32.ofInt x + Int32.ofInt n) := by
      show Value.int (Int32.ofInt (Int32.ofInt x + Int32.ofInt n).toInt) = _
      rw [Int32.ofInt_toInt]
    rw [← e2]
    exact e1
  have hb := hE.2.1
  have hx := hE.1
  jvm_step X.here [X.here.top, ↓top_set X.here.top, hx, hb, hd, hg, e1]
  exact a
/-! returns -/
theorem AW.ireturn (hd : decode M.2.1 pc = .ok (.ireturn, 1)) (hr : M.2.2.2 = some .int) (hq : Q (some (.inl x)) h) : AW d bc bs M Q pc ls [.inl x] h := by
  intro w p l e R s m args below meth c H locs cells slots rl hw hE hR hH hL hst hlo
  refine W.widen (k := cells + bc) (n := slots + bs) (by omega) (by omega) ?_
  exact W.iret hE.1 hE.2.1 (hE.2.2.2.1.trans hr) (fun t ht _ => ⟨some (.inl x), h, hq, rfl, by rw [ht]; exact hH, fun v hv => by cases hv; exact hst _ List.mem_cons_self⟩) hlo hd hE.2.2.2.2.1
theorem AW.zreturn (hd : decode M.2.1 pc = .ok (.ireturn, 1)) (hr : M.2.2.2 = some .boolean) (hx : x = 0 ∨ x = 1) (hq : Q (some (.inl x)) h) : AW d bc bs M Q pc ls [.inl x] h := by
  intro w p l e R s m args below meth c H locs cells slots rl hw hE hR hH hL hst hlo
  refine W.widen (k := cells + bc) (n := slots + bs) (by omega) (by omega) ?_
  refine W.zret (ty := .boolean) hE.1 hE.2.1 (hE.2.2.2.1.trans hr) ?_ (fun t ht _ => ⟨some (.inl x), h, hq, rfl, by rw [ht]; exact hH, fun v hv => by cases hv; exact hst _ List.mem_cons_self⟩) hlo hd hE.2.2.2.2.1
  rcases hx with rfl | rfl <;> rfl
theorem AW.vreturn (hd : decode M.2.1 pc = .ok (.return_, 1)) (hr : M.2.2.2 = none) (hq : Q none h) : AW d bc bs M Q pc ls [] h := by
  intro w p l e R s m args below meth c H locs cells slots rl hw hE hR hH hL hst hlo
  refine W.widen (k := cells + bc) (n := slots + bs) (by omega) (by omega) ?_
  exact W.vret hE.1 hE.2.1 (hE.2.2.2.1.trans hr) (fun t ht _ => ⟨none, h, hq, rfl, by rw [ht]; exact hH, fun v hv => by cases hv⟩) hlo hd hE.2.2.2.2.1
theorem AW.areturn {C : String} {a : Nat} (hd : decode M.2.1 pc = .ok (.areturn, 1)) (hr : M.2.2.2 = some (.object C)) (hq : Q (some (.inr a)) h) : AW d bc bs M Q pc ls [.inr a] h := by
  intro w p l e R s m args below meth c H locs cells slots rl hw hE hR hH hL hst hlo
  refine W.widen (k := cells + bc) (n := slots + bs) (by omega) (by omega) ?_
  refine W.aret (v := aw_tr w (.inr a)) (rt := .object C) hE.1 hE.2.1 (hE.2.2.2.1.trans hr) (Or.inl ⟨C, rfl⟩) ?_ (fun t ht _ => ⟨some (.inr a), h, hq, rfl, by rw [ht]; exact hH, fun v hv => by cases hv; trivial⟩) hlo hd hE.2.2.2.2.1
  by_cases q : a = 0
  · exact Or.inl (by simp [aw_tr, q])
  · exact Or.inr ⟨aw_adr w a, by simp [aw_tr, q]⟩
end Br
end
section
def tyC (t : Nat) : Nat → FieldType := match t with
  | 0 => tyX0
  | 1 => tyX1
  | 2 => tyX2
  | 3 => tyX3
  | 4 => tyX4
  | 5 => tyX5
  | 6 => tyX6
  | 7 => tyX7
  | 8 => tyX8
  | 9 => tyX9
  | 10 => tyX10
  | 11 => tyX11
  | _ => tyX12
theorem inlw {l : List Cond} (h : l.all (fun w => decide (w ∈ tables_1) && goodWord w) = true) : ∀ w ∈ l, w ∈ lw_tbl ∧ goodWord w = true := by
  intro w hw
  have h1 := List.all_eq_true.mp h w hw
  simp only [Bool.and_eq_true, decide_eq_true_eq] at h1
  exact ⟨List.mem_append_right _ h1.1, h1.2⟩
theorem cw_0 : (u_ws RX0 TX0 1).all (fun w => decide (w ∈ tables_1) && goodWord w) = true := by decide +kernel
theorem cw_1 : (u_ws RX1 TX1 1).all (fun w => decide (w ∈ tables_1) && goodWord w) = true := by decide +kernel
theorem cw_2 : (u_ws RX2 TX2 1).all (fun w => decide (w ∈ tables_1) && goodWord w) = true := by decide +kernel
theorem cw_3 : (u_ws RX3 TX3 8).all (fun w => decide (w ∈ tables_1) && goodWord w) = true := by decide +kernel
theorem cw_4 : (u_ws RX4 TX4 1).all (fun w => decide (w ∈ tables_1) && goodWord w) = true := by decide +kernel
theorem cw_5 : (u_ws RX5 TX5 3).all (fun w => decide (w ∈ tables_1) && goodWord w) = true := by decide +kernel
theorem cw_6 : (u_ws RX6 TX6 3).all (fun w => decide (w ∈ tables_1) && goodWord w) = true := by decide +kernel
theorem cw_7 : (u_ws RX7 TX7 2).all (fun w => decide (w ∈ tables_1) && goodWord w) = true := by decide +kernel
theorem cw_8 : (u_ws RX8 TX8 6).all (fun w => decide (w ∈ tables_1) && goodWord w) = true := by decide +kernel
theorem cw_9 : (u_ws RX9 TX9 1).all (fun w => decide (w ∈ tables_1) && goodWord w) = true := by decide +kernel
theorem cw_10 : (u_ws RX10 TX10 1).all (fun w => decide (w ∈ tables_1) && goodWord w) = true := by decide +kernel
theorem cw_11 : (u_ws RX11 TX11 15).all (fun w => decide (w ∈ tables_1) && goodWord w) = true := by decide +kernel
theorem cw_12 : (u_ws RX12 TX12 33).all (fun w => decide (w ∈ tables_1) && goodWord w) = true := by decide +kernel
theorem cls_ok (t : Nat) (r : vw_C) (h : vwCl[t]? = some r) : (∀ w ∈ u_ws r.1 r.2.1 r.2.2, w ∈ lw_tbl ∧ goodWord w = true) ∧ (∀ a, a < r.2.2 → ∀ b, b < r.2.2 → a ≠ b → (r.2.1 a).2.1 ≠ (r.2.1 b).2.1) ∧ ∀ k, k < r.2.2 → parseFieldDescriptor (r.2.1 k).2.2.1 = some (tyC t k) := by
  match t, h with
  | 0, h => cases h; exact ⟨inlw cw_0, nmX0, tyX0_ok⟩
  | 1, h => cases h; exact ⟨inlw cw_1, nmX1, tyX1_ok⟩
  | 2, h => cases h; exact ⟨inlw cw_2, nmX2, tyX2_ok⟩
  | 3, h => cases h; exact ⟨inlw cw_3, nmX3, tyX3_ok⟩
  | 4, h => cases h; exact ⟨inlw cw_4, nmX4, tyX4_ok⟩
  | 5, h => cases h; exact ⟨inlw cw_5, nmX5, tyX5_ok⟩
  | 6, h => cases h; exact ⟨inlw cw_6, nmX6, tyX6_ok⟩
  | 7, h => cases h; exact ⟨inlw cw_7, nmX7, tyX7_ok⟩
  | 8, h => cases h; exact ⟨inlw cw_8, nmX8, tyX8_ok⟩
  | 9, h => cases h; exact ⟨inlw cw_9, nmX9, tyX9_ok⟩
  | 10, h => cases h; exact ⟨inlw cw_10, nmX10, tyX10_ok⟩
  | 11, h => cases h; exact ⟨inlw cw_11, nmX11, tyX11_ok⟩
  | 12, h => cases h; exact ⟨inlw cw_12, nmX12, tyX12_ok⟩
  | t + 13, h => simp [vwCl] at h
/-! what a heap row says -/
section Hp
variable {w : Om} {H H' : Heap} {h : AH}
theorem aw_word {M : MT} {p : Program} {s : State} {m : MethodId} {meth : Method} {c : Code} (hw : aw_Wd w) (hE : aw_En w M p s m meth c) {q : Cond} (hq : q ∈ lw_tbl) (hg : goodWord q = true) {args : Array Value} : q.before args s = true :=
  word_at hE.2.2.2.2.2.2.2 (good_of_word hg) (hw.1 q hq)
theorem aw_K {M : MT} {p : Program} {s : State} {m : MethodId} {meth : Method} {c : Code} (hw : aw_Wd w) (hE : aw_En w M p s m meth c) : va_K w.2.2.1 vwCl (aw_tys w) s := va_K.moved hE.2.2.2.2.2.2.2.alike hw.2.1
theorem aw_ge {a t : Nat} {vs : List AV} (hH : aw_RH w H h) (ha : h.2 a = .inl (t + 1, vs)) : 16 ≤ a ∧ a < 16 + h.1 := by
  rcases Nat.lt_or_ge a 16 with q | q
  · have h1 := hH.2.2.2.2.1 a q
    rw [ha] at h1
    cases h1
  · refine ⟨q, ?_⟩
    rcases Nat.lt_or_ge a (16 + h.1) with q2 | q2
    · exact q2
    · have h1 := hH.2.2.2.1 a q2
      rw [ha] at h1
      cases h1
theorem aw_lt {a n : Nat} {f : Nat → Int} (hH : aw_RH w H h) (ha : h.2 a = .inr (n, f)) : a < 16 + h.1 := by
  rcases Nat.lt_or_ge a (16 + h.1) with q2 | q2
  · exact q2
  · have h1 := hH.2.2.2.1 a q2
    rw [ha] at h1
    cases h1
theorem aw_adr_ge {a : Nat} (ha : 16 ≤ a) : aw_adr w a = w.1.heap.size + (a - 16) := if_neg (by omega)
theorem aw_tr_ref {a : Nat} (ha : a ≠ 0) : aw_tr w (.inr a) = .ref (aw_adr w a) := by simp [aw_tr, ha]
theorem aw_at {a : Nat} (hH : aw_RH w H h) (h1 : 16 ≤ a) (h2 : a < 16 + h.1) : aw_CO w H a (h.2 a) := hH.2.2.1 a h1 h2
/-- the object at a -/
theorem aw_obj {a t : Nat} {vs : List AV} (hH : aw_RH w H h) (ha : h.2 a = .inl (t + 1, vs)) (ht : t < 32) : ∃ r : vw_C, vwCl[t]? = some r ∧ vs.length = r.2.2 ∧ t_OB (aw_adr w a) (w.2.2.1.1 t) r.2.2 (w.2.2.1.2 t) H (vp_V (vs.map (aw_tr w))) := by
  have hg := aw_ge hH ha
  have h1 := aw_at hH hg.1 hg.2
  rw [ha] at h1
  simp only [aw_CO, if_pos ht] at h1
  exact h1
theorem aw_arr {a t : Nat} {vs : List AV} (hH : aw_RH w H h) (ha : h.2 a = .inl (t + 1, vs)) (ht : ¬ t < 32) : H[aw_adr w a]? = some (arrV (w.2.2.2 (t - 31)) vs.length (fun j => aw_tr w (vs.getD j (.inr 0)))) := by
  have hg := aw_ge hH ha
  have h1 := aw_at hH hg.1 hg.2
  rw [ha] at h1
  simp only [aw_CO, if_neg ht] at h1
  exact h1
theorem aw_ints {a n : Nat} {f : Nat → Int} (hH : aw_RH w H h) (h16 : 16 ≤ a) (ha : h.2 a = .inr (n, f)) : H[aw_adr w a]? = some (arrV (w.2.2.2 0) n (fun j => .int (Int32.ofInt (f j)))) := by
  have h1 := aw_at hH h16 (aw_lt hH ha)
  rw [ha] at h1
  exact h1
theorem aw_stat {a n : Nat} {f : Nat → Int} (hH : aw_RH w H h) (h16 : a < 16) (ha : h.2 a = .inr (n, f)) : a ≠ 0 ∧ a ≤ 5 ∧ n < 2147483648 ∧ va_T .int (w.2.1 a) n (fun j => .int (Int32.ofInt (f j))) (fun q => w.1.heap.size ≤ q) w.1 w.1.heap := by
  have h1 := hH.2.2.2.2.1 a h16
  rw [ha] at h1
  exact h1
def hset (h : AH) (a : Nat) (c : AC) : AH := (h.1, fun b => if b = a then c else h.2 b)
theorem hset_1 (h : AH) (a : Nat) (c : AC) : (hset h a c).1 = h.1 := rfl
theorem hset_eq (h : AH) (a : Nat) (c : AC) : (hset h a c).2 a = c := if_pos rfl
theorem hset_ne (h : AH) {a b : Nat} (c : AC) (hb : b ≠ a) : (hset h a c).2 b = h.2 b := if_neg hb
/-- a cell that is the same elsewhere -/
theorem aw_CO_kept {a : Nat} {c : AC} (hc : aw_CO w H a c) (hk : H'[aw_adr w a]? = H[aw_adr w a]?) : aw_CO w H' a c := by
  match c with
  | .inl (0, _) => trivial
  | .inl (t + 1, vs) =>
    simp only [aw_CO] at hc ⊢
    split at hc
    · rename_i q
      rw [if_pos q]
      obtain ⟨r, h1, h2, h3⟩ := hc
      exact ⟨r, h1, h2, h3.kept hk⟩
    · rename_i q
      rw [if_neg q, hk]
      exact hc
  | .inr (n, f) =>
    simp only [aw_CO] at hc ⊢
    rw [hk]
    exact hc
theorem aw_RH_set {a : Nat} {c : AC} (hH : aw_RH w H h) (h16 : 16 ≤ a) (hl : a < 16 + h.1) (hz : H'.size = H.size) (ho : ∀ q : Nat, q ≠ aw_adr w a → H'[q]? = H[q]?) (hc : aw_CO w H' a c) (hr : aw_RC c) : aw_RH w H' (hset h a c) := by
  obtain ⟨g1, g2, g3, g4, g5, g6⟩ := hH
  have ea := aw_adr_ge (w := w) h16
  refine ⟨hz.trans g1, fun q hq => (ho q (by omega)).trans (g2 q hq), fun b hb1 hb2 => ?_, fun b hb => ?_, fun b hb => ?_, fun b => ?_⟩
  · by_cases q : b = a
    · subst q
      rw [hset_eq]
      exact hc
    · rw [hset_ne h c q]
      refine aw_CO_kept (g3 b hb1 hb2) (ho _ ?_)
      rw [aw_adr_ge hb1, ea]
      omega
  · rw [hset_ne h c (by rw [hset_1] at hb; omega)]
    exact g4 b hb
  · rw [hset_ne h c (by omega)]
    exact g5 b hb
  · by_cases q : b = a
    · subst q
      rw [hset_eq]
      exact hr
    · rw [hset_ne h c q]
      exact g6 b
def hpush (h : AH) (c : AC) : AH := (h.1 + 1, fun b => if b = 16 + h.1 then c else h.2 b)
theorem hpush_1 (h : AH) (c : AC) : (hpush h c).1 = h.1 + 1 := rfl
theorem hpush_eq (h : AH) (c : AC) : (hpush h c).2 (16 + h.1) = c := if_pos rfl
theorem hpush_ne (h : AH) {b : Nat} (c : AC) (hb : b ≠ 16 + h.1) : (hpush h c).2 b = h.2 b := if_neg hb
theorem aw_RH_push {c : AC} (hH : aw_RH w H h) (hz : H'.size = H.size + 1) (ho : ∀ q : Nat, q < H.size → H'[q]? = H[q]?) (hc : aw_CO w H' (16 + h.1) c) (hr : aw_RC c) : aw_RH w H' (hpush h c) := by
  obtain ⟨g1, g2, g3, g4, g5, g6⟩ := hH
  refine ⟨by rw [hz, g1, hpush_1]; omega, fun q hq => (ho q (by omega)).trans (g2 q hq), fun b hb1 hb2 => ?_, fun b hb => ?_, fun b hb => ?_, fun b => ?_⟩
  · by_cases q : b = 16 + h.1
    · subst q
      rw [hpush_eq]
      exact hc
    · rw [hpush_ne h c q]
      rw [hpush_1] at hb2
      refine aw_CO_kept (g3 b hb1 (by omega)) (ho _ ?_)
      rw [aw_adr_ge hb1]
      omega
  · rw [hpush_1] at hb
    rw [hpush_ne h c (by omega)]
    exact g4 b (by omega)
  · rw [hpush_ne h c (by omega)]
    exact g5 b hb
  · by_cases q : b = 16 + h.1
    · subst q
      rw [hpush_eq]
      exact hr
    · rw [hpush_ne h c q]
      exact g6 b
theorem aw_adr_new (hH : aw_RH w H h) : aw_adr w (16 + h.1) = H.size := by
  rw [aw_adr_ge (by omega), hH.1]
  omega
theorem aw_tr_new (hH : aw_RH w H h) : aw_tr w (.inr (16 + h.1)) = .ref H.size := by rw [aw_tr_ref (by omega), aw_adr_new hH]
theorem vp_map {vs : List AV} {k : Nat} {v : AV} (hv : vs[k]? = some v) : vp_V (vs.map (aw_tr w)) k = aw_tr w v := by
  simp [vp_V, List.getD_eq_getElem?_getD, hv]
end Hp
end
section
def FSlot (t k : Nat) (q : String × String × String × Bool) : Prop := ∃ r : vw_C, vwCl[t]? = some r ∧ k < r.2.2 ∧ r.2.1 k = q
def FLink (own : String) (idx : Nat) (q : String × String × String × Bool) : Prop := Cond.fieldLink own idx q.1 q.2.1 q.2.2.1 ∈ lw_tbl ∨ ∃ host, Cond.fieldLinkNest own idx q.1 q.2.1 q.2.2.1 host ∈ lw_tbl
/-- class own's entry idx is field k of the class t -/
def GF (own : String) (idx t k : Nat) : Prop := ∃ q, FLink own idx q ∧ FSlot t k q
def GP (own : String) (idx t k : Nat) : Prop := ∃ q : String × String × String × Bool, FLink own idx q ∧ FSlot t k q ∧ q.2.2.2 = false
def GPF (own : String) (idx t k : Nat) : Prop := ∃ q : String × String × String × Bool, Cond.fieldLink own idx q.1 q.2.1 q.2.2.1 ∈ lw_tbl ∧ FSlot t k q ∧ q.2.2.2 = true ∧ q.1 = own
def a_fit (ty : FieldType) (v : AV) : Prop := match ty, v with
  | .int, .inl _ => True
  | .boolean, .inl x => x = 0 ∨ x = 1
  | .object _, .inr _ => True
  | .array _, .inr _ => True
  | _, _ => False
theorem a_fit_ok {w : Om} {ty : FieldType} {v : AV} (hf : a_fit ty v) : narrow ty (aw_tr w v) = aw_tr w v ∧ fits ty (aw_tr w v) = true := by
  cases v with
  | inl x =>
    cases ty <;> first | exact False.elim hf | skip
    all_goals first | (exact ⟨rfl, rfl⟩) | (rcases hf with rfl | rfl <;> exact ⟨rfl, rfl⟩)
  | inr a =>
    cases ty <;> first | exact False.elim hf | skip
    all_goals
      by_cases ha : a = 0
      · rw [show aw_tr w (.inr a) = .null by simp [aw_tr, ha]]
        exact ⟨rfl, rfl⟩
      · rw [aw_tr_ref ha]
        exact ⟨rfl, rfl⟩
def updI (f : Nat → Int) (i : Nat) (x : Int) : Nat → Int := fun j => if j = i then x else f j
theorem ri_nat {j : Int} (hj : RI j) : (Int32.ofInt j).toNatClampNeg = j.toNat := by
  show (Int32.ofInt j).toInt.toNat = _
  rw [ri_back hj]
theorem ri_in {j : Int} {n : Nat} (hj : RI j) (h0 : 0 ≤ j) (h1 : j < n) : ¬ (Int32.ofInt j < 0 ∨ n ≤ (Int32.ofInt j).toNatClampNeg) := by
  rw [ri_nat hj, ri_z, ri_lt hj ri_0]
  omega
section Hr
variable {d bc bs : Nat} {M : MT} {Q : Option AV → AH → Prop} {pc : Nat} {ls : List (Option AV)} {st : List AV} {h : AH} {x : Int} {idx a t k : Nat} {vs : List AV} {v : AV}
theorem aw_warmN {w : Om} {p : Program} {s : State} {m : MethodId} {meth : Method} {c : Code} (hw : aw_Wd w) (hE : aw_En w M p s m meth c) {own ref name desc host : String} (hq : Cond.fieldLinkNest own idx ref name desc host ∈ lw_tbl) {args : Array Value} : (Cond.fieldLinkNest own idx ref name desc host).before args s = true :=
  va_Nw.use rfl (va_Nw.warmF hE.2.2.2.2.2.2.2 (va_Nw.of rfl (hw.1 _ hq)))
set_option maxHeartbeats 4000000 in
theorem AW.getf (hd : decode M.2.1 pc = .ok (.getfield idx, 3)) (hf : GF M.1.cls idx t k) (ha : h.2 a = .inl (t + 1, vs)) (hv : vs[k]? = some v) (kk : AW d bc bs M Q (pc + 3) ls (v :: st) h) : AW d bc bs M Q pc ls (.inr a :: st) h := by
  intro w p l e R s m args below meth c H locs cells slots rl hw hE hR hH hL hst hlo
  obtain ⟨q, hlk, r, hr, hkr, hq⟩ := hf
  subst hq
  have ht : t < 32 := by
    have := (List.getElem?_eq_some_iff.mp hr).1
    have h13 : vwCl.length = 13 := rfl
    omega
  obtain ⟨r', hr', hlen, cell, q1, q2, q3, q4⟩ := aw_obj hH ha ht
  cases hr.symm.trans hr'
  have hg := aw_ge hH ha
  have hK := aw_K hw hE
  obtain ⟨hS, hfc, kC, hkC, hkind⟩ := hK.1 t _ hr
  obtain ⟨cf, kf, fi, f, hi, hsl⟩ := hS k hkr
  have hin := (cls_ok t r hr).1
  have hlay : (Cond.lays r.1 (r.2.1 k).1 (r.2.1 k).2.1 (r.2.1 k).2.2.1).before args s = true ∨ (Cond.laysFinal r.1 (r.2.1 k).1 (r.2.1 k).2.1 (r.2.1 k).2.2.1).before args s = true :=
    u_lays (ws := u_ws r.1 r.2.1 r.2.2) (fun c hc => aw_word hw hE (hin c hc).1 (hin c hc).2) (fun _ h => h) hkr
  have hkk := kk w p l e R s m args below meth c H locs cells slots rl hw hE hR hH hL (fun u hu => by
    rcases List.mem_cons.mp hu with rfl | hu
    · have := hH.2.2.2.2.2 a
      rw [ha] at this
      exact this _ (List.mem_of_getElem? hv)
    · exact hst u (aw_1 u hu)) hlo
  have hslot : cell.slots[f.slot]? = some (aw_tr w v) := by rw [hsl, q4 k hkr, vp_map hv]
  show W p l e R s m args below meth c H locs cells slots _ (F0 m pc rl (aw_tr w (.inr a) :: st.map (aw_tr w)))
  rw [aw_tr_ref (by omega)]
  rcases hlk with hlk | ⟨host, hlk⟩
  · exact W.getf hE.1 hE.2.1 hE.2.2.2.2.2.2.1 (aw_word hw hE hlk rfl) hi (u_facts hfc hkC hlay hi).1 q1 (by rw [q3]; exact fun h => by cases h) hslot rfl rfl hd hkk
  · exact va_Wgetf hE.1 hE.2.1 hE.2.2.2.2.2.2.1 (aw_warmN hw hE hlk) hi (u_facts hfc hkC hlay hi).1 q1 (by rw [q3]; exact fun h => by cases h) hslot rfl rfl hd hkk
theorem aw_rc_set {vs : List AV} {k : Nat} {v : AV} (h1 : ∀ u ∈ vs, RV u) (h2 : RV v) : ∀ u ∈ vs.set k v, RV u := fun u hu => by
  rcases List.mem_or_eq_of_mem_set hu with q | q
  · exact h1 u q
  · rw [q]; exact h2
theorem vp_set_map {w : Om} {vs : List AV} {k : Nat} {v : AV} (hl : k < vs.length) (j : Nat) : updV (vp_V (vs.map (aw_tr w))) k (aw_tr w v) j = vp_V ((vs.set k v).map (aw_tr w)) j := by
  rw [List.map_set]
  exact vp_updV_set (by rw [List.length_map]; exact hl) _ j
set_option maxHeartbeats 4000000 in
theorem AW.putf (hd : decode M.2.1 pc = .ok (.putfield idx, 3)) (hf : GP M.1.cls idx t k) (ha : h.2 a = .inl (t + 1, vs)) (hfit : a_fit (tyC t k) v) (kk : AW d bc bs M Q (pc + 3) ls st (hset h a (.inl (t + 1, vs.set k v)))) : AW d bc bs M Q pc ls (v :: .inr a :: st) h := by
  intro w p l e R s m args below meth c H locs cells slots rl hw hE hR hH hL hst hlo
  obtain ⟨q, hlk, ⟨r, hr, hkr, hq⟩, hfin⟩ := hf
  subst hq
  have ht : t < 32 := by
    have := (List.getElem?_eq_some_iff.mp hr).1
    have h13 : vwCl.length = 13 := rfl
    omega
  obtain ⟨r', hr', hlen, cell, q1, q2, q3, q4⟩ := aw_obj hH ha ht
  cases hr.symm.trans hr'
  have hg := aw_ge hH ha
  have hK := aw_K hw hE
  obtain ⟨hS, hfc, kC, hkC, hkind⟩ := hK.1 t _ hr
  obtain ⟨cf, kf, fi, f, hi, hsl⟩ := hS k hkr
  obtain ⟨hin, hnm, hty⟩ := cls_ok t r hr
  have hts : ∀ c ∈ u_ws r.1 r.2.1 r.2.2, c.before args s = true := fun c hc => aw_word hw hE (hin c hc).1 (hin c hc).2
  have hap := va_apart (own := M.1.cls) (C := r.1) (T := r.2.1) (N := r.2.2) hts (fun _ h => h) (tyC t) hty hnm hK hr
  have hlay := hts _ (u_in_lay hkr)
  unfold u_lay at hlay
  rw [if_neg (by rw [hfin]; decide)] at hlay
  have hst1 := (u_facts hfc hkC (Or.inl hlay) hi).1
  obtain ⟨hn, hft⟩ := a_fit_ok (w := w) hfit
  have h6 := u_store hfc hkC hkind hlay hi (hty k hkr) hn hft
  show W p l e R s m args below meth c H locs cells slots _ (F0 m pc rl (aw_tr w v :: aw_tr w (.inr a) :: st.map (aw_tr w)))
  rw [aw_tr_ref (a := a) (by omega)]
  have fin : ∀ H' : Heap, H'[aw_adr w a]? = some (cell.setSlot f.slot (aw_tr w v)) → H'.size = H.size → (∀ q, q ≠ aw_adr w a → H'[q]? = H[q]?) → W p l e R s m args below meth c H' (locs ++ [⟨aw_adr w a, f.slot⟩]) cells slots (MQ below (aw_Qc w Q) args s (cells + bc) (slots + bs) (fun q => w.1.heap.size ≤ q)) (F0 m (pc + 3) rl (st.map (aw_tr w))) := by
    intro H' e1 e2 e3
    refine kk w p l e R s m args below meth c H' _ cells slots rl hw hE hR ?_ hL (fun u hu => hst u (aw_2 u hu)) (fun q hq => ?_)
    · refine aw_RH_set hH hg.1 hg.2 e2 e3 ?_ ?_
      · simp only [aw_CO, if_pos ht]
        rw [hsl] at e1
        exact ⟨r, hr, by rw [List.length_set]; exact hlen, t_OB.to (V := updV (vp_V (vs.map (aw_tr w))) k (aw_tr w v)) ⟨_, e1, q2, q3, t_set q4 hap hkr _⟩ (fun j _ => vp_set_map (by omega) j)⟩
      · have := hH.2.2.2.2.2 a
        rw [ha] at this
        exact aw_rc_set this (hst v List.mem_cons_self)
    · rcases List.mem_append.mp hq with h1 | h1
      · exact hlo q h1
      · rw [List.mem_singleton.mp h1]
        show w.1.heap.size ≤ aw_adr w a
        rw [aw_adr_ge hg.1]
        omega
  rcases hlk with hlk | ⟨host, hlk⟩
  · exact W.putK hE.1 hE.2.1 (f := f) ⟨hE.2.2.2.2.2.2.1, aw_word hw hE hlk rfl, ⟨_, _, _, hi⟩, hst1⟩ (by rw [q2]; exact h6) q1 q3 (by rw [hsl]; exact k2_hasslot (q4 k hkr)) rfl rfl hd fin
  · exact va_WputK hE.1 hE.2.1 (f := f) hE.2.2.2.2.2.2.1 (aw_warmN hw hE hlk) hi hst1 (by rw [q2]; exact h6) q1 q3 (by rw [hsl]; exact k2_hasslot (q4 k hkr)) rfl rfl hd fin
set_option maxHeartbeats 4000000 in
theorem AW.putF (hd : decode M.2.1 pc = .ok (.putfield idx, 3)) (hf : GPF M.1.cls idx t k) (hini : M.1.name = "<init>") (ha : h.2 a = .inl (t + 1, vs)) (hfit : a_fit (tyC t k) v) (kk : AW d bc bs M Q (pc + 3) ls st (hset h a (.inl (t + 1, vs.set k v)))) : AW d bc bs M Q pc ls (v :: .inr a :: st) h := by
  intro w p l e R s m args below meth c H locs cells slots rl hw hE hR hH hL hst hlo
  obtain ⟨q, hlk, ⟨r, hr, hkr, hq⟩, hfin, hdecl⟩ := hf
  subst hq
  have ht : t < 32 := by
    have := (List.getElem?_eq_some_iff.mp hr).1
    have h13 : vwCl.length = 13 := rfl
    omega
  obtain ⟨r', hr', hlen, cell, q1, q2, q3, q4⟩ := aw_obj hH ha ht
  cases hr.symm.trans hr'
  have hg := aw_ge hH ha
  have hK := aw_K hw hE
  obtain ⟨hS, hfc, kC, hkC, hkind⟩ := hK.1 t _ hr
  obtain ⟨cf, kf, fi, f, hi, hsl⟩ := hS k hkr
  obtain ⟨hin, hnm, hty⟩ := cls_ok t r hr
  have hts : ∀ c ∈ u_ws r.1 r.2.1 r.2.2, c.before args s = true := fun c hc => aw_word hw hE (hin c hc).1 (hin c hc).2
  have hap := va_apart (own := M.1.cls) (C := r.1) (T := r.2.1) (N := r.2.2) hts (fun _ h => h) (tyC t) hty hnm hK hr
  have hlay := hts _ (u_in_lay hkr)
  unfold u_lay at hlay
  rw [if_pos hfin] at hlay
  have hst1 := (u_facts hfc hkC (Or.inr hlay) hi).1
  obtain ⟨hn, hft⟩ := a_fit_ok (w := w) hfit
  have h6 := u_fits hfc hkC hkind (Or.inr hlay) hi (hty k hkr) hn hft
  have hcf : m.cls = cf := by
    obtain ⟨_, _, c', _, _, _, -, -, hf', -, -, -, hown2, -⟩ := Cond.laysFinal_spec hlay
    have e1 : c' = cf := by have := hi.symm.trans hf'; simp at this; exact this.1.symm
    rw [hdecl] at hown2
    rw [← e1]; exact Option.some.inj (hE.2.2.2.2.2.2.1.symm.trans hown2)
  show W p l e R s m args below meth c H locs cells slots _ (F0 m pc rl (aw_tr w v :: aw_tr w (.inr a) :: st.map (aw_tr w)))
  rw [aw_tr_ref (a := a) (by omega)]
  refine W.putFinK hE.1 hE.2.1 hE.2.2.2.2.2.2.1 (aw_word hw hE hlk rfl) hi hst1 hcf (hE.2.2.2.2.2.1 hini) (by rw [q2]; exact h6) q1 q3 (by rw [hsl]; exact k2_hasslot (q4 k hkr)) rfl rfl hd ?_
  intro H' e1 e2 e3
  refine kk w p l e R s m args below meth c H' _ cells slots rl hw hE hR ?_ hL (fun u hu => hst u (aw_2 u hu)) (fun q hq => ?_)
  · refine aw_RH_set hH hg.1 hg.2 e2 e3 ?_ ?_
    · simp only [aw_CO, if_pos ht]
      rw [hsl] at e1
      exact ⟨r, hr, by rw [List.length_set]; exact hlen, t_OB.to (V := updV (vp_V (vs.map (aw_tr w))) k (aw_tr w v)) ⟨_, e1, q2, q3, t_set q4 hap hkr _⟩ (fun j _ => vp_set_map (by omega) j)⟩
    · have := hH.2.2.2.2.2 a
      rw [ha] at this
      exact aw_rc_set this (hst v List.mem_cons_self)
  · rcases List.mem_append.mp hq with h1 | h1
    · exact hlo q h1
    · rw [List.mem_singleton.mp h1]
      show w.1.heap.size ≤ aw_adr w a
      rw [aw_adr_ge hg.1]
      omega
/-! rows of ints -/
theorem AW.iaload {n : Nat} {f : Nat → Int} {j : Int} (hd : decode M.2.1 pc = .ok (.iaload, 1)) (ha : h.2 a = .inr (n, f)) (h0 : 0 ≤ j) (h1 : j < n) (kk : AW d bc bs M Q (pc + 1) ls (.inl (f j.toNat) :: st) h) : AW d bc bs M Q pc ls (.inl j :: .inr a :: st) h := by
  intro w p l e R s m args below meth c H locs cells slots rl hw hE hR hH hL hst hlo
  have hrj : RI j := ri_hd hst
  have hkk := kk w p l e R s m args below meth c H locs cells slots rl hw hE hR hH hL (fun u hu => by
    rcases List.mem_cons.mp hu with rfl | hu
    · have := hH.2.2.2.2.2 a
      rw [ha] at this
      exact this _
    · exact hst u (aw_2 u hu)) hlo
  show W p l e R s m args below meth c H locs cells slots _ (F0 m pc rl (.int (Int32.ofInt j) :: aw_tr w (.inr a) :: st.map (aw_tr w)))
  rcases Nat.lt_or_ge a 16 with q | q
  · obtain ⟨g0, g5, gn, cell, c1, c2, c3, c4, c5, c6, c7⟩ := aw_stat hH q ha
    rw [aw_tr_ref g0, show aw_adr w a = w.2.1 a from if_pos q]
    have hlt := (Array.getElem?_eq_some_iff.mp c1).1
    refine W.iald (v := .int (Int32.ofInt (f j.toNat))) hE.1 hE.2.1 (by rw [hH.2.1 _ hlt]; exact c1) (State.isArrayOf_alike hE.2.2.2.2.2.2.2.alike c2) c3 ?_ ?_ rfl rfl hd hkk
    · rw [ri_nat hrj, ri_z, ri_lt hrj ri_0]
      omega
    · rw [ri_nat hrj]
      exact c6 _ (by omega)
  · rw [aw_tr_ref (by omega)]
    have c1 := aw_ints hH q ha
    refine W.iald (v := .int (Int32.ofInt (f j.toNat))) hE.1 hE.2.1 c1 (((aw_K hw hE).2 0 _ rfl).1 n _) (fun q => by cases q) ?_ ?_ rfl rfl hd hkk
    · rw [arrV_size]
      exact ri_in hrj h0 h1
    · rw [ri_nat hrj, arrV_read _ _ (by omega)]
theorem aw_loc {w : Om} {a i : Nat} {locs : List Loc} (h16 : 16 ≤ a) (hlo : ∀ q ∈ locs, w.1.heap.size ≤ q.base) : ∀ q ∈ locs ++ [⟨aw_adr w a, i⟩], w.1.heap.size ≤ q.base := fun q hq => by
  rcases List.mem_append.mp hq with h1 | h1
  · exact hlo q h1
  · rw [List.mem_singleton.mp h1]
    show w.1.heap.size ≤ aw_adr w a
    rw [aw_adr_ge h16]
    omega
theorem AW.iastore {n : Nat} {f : Nat → Int} {j : Int} (hd : decode M.2.1 pc = .ok (.iastore, 1)) (h16 : 16 ≤ a) (ha : h.2 a = .inr (n, f)) (h0 : 0 ≤ j) (h1 : j < n) (kk : AW d bc bs M Q (pc + 1) ls st (hset h a (.inr (n, updI f j.toNat x)))) : AW d bc bs M Q pc ls (.inl x :: .inl j :: .inr a :: st) h := by
  intro w p l e R s m args below meth c H locs cells slots rl hw hE hR hH hL hst hlo
  have hrj : RI j := ri_hd2 hst
  show W p l e R s m args below meth c H locs cells slots _ (F0 m pc rl (.int (Int32.ofInt x) :: .int (Int32.ofInt j) :: aw_tr w (.inr a) :: st.map (aw_tr w)))
  rw [aw_tr_ref (by omega)]
  have c1 := aw_ints hH h16 ha
  refine W.iast hE.1 hE.2.1 c1 (((aw_K hw hE).2 0 _ rfl).1 n _) (fun q => by cases q) (by rw [arrV_size]; exact ri_in hrj h0 h1) rfl rfl hd ?_
  intro H' e1 e2 e3
  refine kk w p l e R s m args below meth c H' _ cells slots rl hw hE hR ?_ hL (fun u hu => hst u (List.mem_cons_of_mem _ (aw_2 u hu))) (aw_loc h16 hlo)
  refine aw_RH_set hH h16 (aw_lt hH ha) e2 e3 ?_ ?_
  · show H'[aw_adr w a]? = _
    rw [e1, arrV_store, ri_nat hrj]
    congr 2
    funext q
    by_cases hq : q = j.toNat
    · simp [updV, updI, hq]
    · simp [updV, updI, hq]
  · intro i
    show RI (updI f j.toNat x i)
    unfold updI
    split
    · exact hst _ List.mem_cons_self
    · have := hH.2.2.2.2.2 a
      rw [ha] at this
      exact this i
theorem AW.alen {n : Nat} {f : Nat → Int} (hd : decode M.2.1 pc = .ok (.arraylength, 1)) (ha : h.2 a = .inr (n, f)) (hn : n < 2147483648) (kk : AW d bc bs M Q (pc + 1) ls (.inl (n : Int) :: st) h) : AW d bc bs M Q pc ls (.inr a :: st) h := by
  intro w p l e R s m args below meth c H locs cells slots rl hw hE hR hH hL hst hlo
  have hkk := kk w p l e R s m args below meth c H locs cells slots rl hw hE hR hH hL (fun u hu => by
    rcases List.mem_cons.mp hu with rfl | hu
    · exact ⟨by omega, by omega⟩
    · exact hst u (aw_1 u hu)) hlo
  show W p l e R s m args below meth c H locs cells slots _ (F0 m pc rl (aw_tr w (.inr a) :: st.map (aw_tr w)))
  have en : Int32.ofNat n = Int32.ofInt (n : Int) := rfl
  rcases Nat.lt_or_ge a 16 with q | q
  · obtain ⟨g0, g5, gn, cell, c1, c2, c3, c4, c5, c6, c7⟩ := aw_stat hH q ha
    rw [aw_tr_ref g0, show aw_adr w a = w.2.1 a from if_pos q]
    have hlt := (Array.getElem?_eq_some_iff.mp c1).1
    exact W.alen hE.1 hE.2.1 (by rw [hH.2.1 _ hlt]; exact c1) (State.isArrayOf_alike hE.2.2.2.2.2.2.2.alike c2) (c5.trans en) rfl rfl hd hkk
  · rw [aw_tr_ref (by omega)]
    have c1 := aw_ints hH q ha
    exact W.alen hE.1 hE.2.1 c1 (((aw_K hw hE).2 0 _ rfl).1 n _) (by rw [arrV_size]; exact en) rfl rfl hd hkk
end Hr
end
section
section H2
variable {d bc bs bc' bs' : Nat} {M : MT} {Q : Option AV → AH → Prop} {pc : Nat} {ls : List (Option AV)} {st rest : List AV} {h : AH} {x j : Int} {idx a b t u k : Nat} {vs us : List AV} {v : AV}
theorem aw_elty {w : Om} (ht : 32 ≤ t ∧ t ≤ 34) : ∃ C : String, (aw_tys w)[t - 31]? = some (w.2.2.2 (t - 31), .object C) := by
  obtain ⟨h1, h2⟩ := ht
  rcases (show t = 32 ∨ t = 33 ∨ t = 34 by omega) with rfl | rfl | rfl
  · exact ⟨_, rfl⟩
  · exact ⟨_, rfl⟩
  · exact ⟨_, rfl⟩
theorem AW.aaload (hd : decode M.2.1 pc = .ok (.aaload, 1)) (ha : h.2 a = .inl (t + 1, vs)) (ht : 32 ≤ t ∧ t ≤ 34) (h0 : 0 ≤ j) (hv : vs[j.toNat]? = some v) (kk : AW d bc bs M Q (pc + 1) ls (v :: st) h) : AW d bc bs M Q pc ls (.inl j :: .inr a :: st) h := by
  intro w p l e R s m args below meth c H locs cells slots rl hw hE hR hH hL hst hlo
  have hrj : RI j := ri_hd hst
  have hg := aw_ge hH ha
  have hkk := kk w p l e R s m args below meth c H locs cells slots rl hw hE hR hH hL (fun z hz => by
    rcases List.mem_cons.mp hz with rfl | hz
    · have := hH.2.2.2.2.2 a
      rw [ha] at this
      exact this _ (List.mem_of_getElem? hv)
    · exact hst z (aw_2 z hz)) hlo
  show W p l e R s m args below meth c H locs cells slots _ (F0 m pc rl (.int (Int32.ofInt j) :: aw_tr w (.inr a) :: st.map (aw_tr w)))
  rw [aw_tr_ref (by omega)]
  have c1 := aw_arr hH ha (by omega)
  obtain ⟨C, hC⟩ := aw_elty (w := w) ht
  have hl := (List.getElem?_eq_some_iff.mp hv).1
  refine W.aald (v := aw_tr w v) (ty := .object C) hE.1 hE.2.1 c1 (((aw_K hw hE).2 _ _ hC).1 _ _) rfl (fun q => by cases q) ?_ ?_ rfl rfl hd hkk
  · rw [arrV_size]
    exact ri_in hrj h0 (by omega)
  · rw [ri_nat hrj, arrV_read _ _ hl]
    simp [List.getD_eq_getElem?_getD, hv]
def a_cast (t u : Nat) : Bool := (t == 33 && u == 7) || (t == 34 && u == 3) || (t == 32 && (u == 10 || u == 0 || u == 1 || u == 2 || u == 4 || u == 9))
theorem cs_0 : Cond.castable RX0 "SaidShorter$Stranger" ∈ tables_1 := by decide +kernel
theorem cs_1 : Cond.castable RX1 "SaidShorter$Stranger" ∈ tables_1 := by decide +kernel
theorem cs_2 : Cond.castable RX2 "SaidShorter$Stranger" ∈ tables_1 := by decide +kernel
theorem cs_4 : Cond.castable RX4 "SaidShorter$Stranger" ∈ tables_1 := by decide +kernel
theorem cs_9 : Cond.castable RX9 "SaidShorter$Stranger" ∈ tables_1 := by decide +kernel
theorem aw_cast {w : Om} {p : Program} {s : State} {m : MethodId} {meth : Method} {c : Code} (hw : aw_Wd w) (hE : aw_En w M p s m meth c) {C : String} (hq : Cond.castable C "SaidShorter$Stranger" ∈ tables_1) {c1 c2 : ClassId} (h1 : s.vm.findClass C = some c1) (h2 : s.vm.findClass "SaidShorter$Stranger" = some c2) : s.vm.assignable c1 c2 = true := by
  have h3 : (Cond.castable C "SaidShorter$Stranger").before #[] s = true := va_Nw.warmC hE.2.2.2.2.2.2.2 (va_Nw.of rfl (hw.1 _ (List.mem_append_right _ hq)))
  obtain ⟨c, t, g1, g2, g3⟩ := Cond.castable_spec h3
  cases h1.symm.trans g1
  cases h2.symm.trans g2
  exact g3
theorem aw_assign {w : Om} {p : Program} {s : State} {m : MethodId} {meth : Method} {c : Code} (hw : aw_Wd w) (hE : aw_En w M p s m meth c) (hc : a_cast t u = true) {r : vw_C} (hr : vwCl[u]? = some r) {C : String} (hC : (aw_tys w)[t - 31]? = some (w.2.2.2 (t - 31), .object C)) {c1 c2 : ClassId} (h1 : s.vm.findClass r.1 = some c1) (h2 : s.vm.findClass C = some c2) : s.vm.assignable c1 c2 = true := by
  simp only [a_cast, Bool.or_eq_true, Bool.and_eq_true, beq_iff_eq] at hc
  have same : r.1 = C → s.vm.assignable c1 c2 = true := fun q => by
    rw [q] at h1
    cases h1.symm.trans h2
    exact va_asg _ _
  rcases hc with (⟨rfl, rfl⟩ | ⟨rfl, rfl⟩) | ⟨rfl, hu⟩
  · cases hr; cases hC; exact same rfl
  · cases hr; cases hC; exact same rfl
  · rcases hu with ((((rfl | rfl) | rfl) | rfl) | rfl) | rfl <;> cases hr <;> cases hC
    · exact same rfl
    · exact aw_cast hw hE cs_0 h1 h2
    · exact aw_cast hw hE cs_1 h1 h2
    · exact aw_cast hw hE cs_2 h1 h2
    · exact aw_cast hw hE cs_4 h1 h2
    · exact aw_cast hw hE cs_9 h1 h2
theorem aw_getD_set {w : Om} {vs : List AV} {k : Nat} {v : AV} (hl : k < vs.length) : (fun q => updV (fun q => aw_tr w (vs.getD q (.inr 0))) k (aw_tr w v) q) = fun q => aw_tr w ((vs.set k v).getD q (.inr 0)) := by
  funext q
  by_cases hq : q = k
  · subst hq
    simp [updV, List.getD_eq_getElem?_getD, hl]
  · simp [updV, hq, List.getD_eq_getElem?_getD, List.getElem?_set_ne (Ne.symm hq)]
theorem AW.aastore (hd : decode M.2.1 pc = .ok (.aastore, 1)) (ha : h.2 a = .inl (t + 1, vs)) (ht : 32 ≤ t ∧ t ≤ 34) (hb : h.2 b = .inl (u + 1, us)) (hu : u < 32) (hc : a_cast t u = true) (h0 : 0 ≤ j) (h1 : j < vs.length) (kk : AW d bc bs M Q (pc + 1) ls st (hset h a (.inl (t + 1, vs.set j.toNat (.inr b))))) : AW d bc bs M Q pc ls (.inr b :: .inl j :: .inr a :: st) h := by
  intro w p l e R s m args below meth c H locs cells slots rl hw hE hR hH hL hst hlo
  have hrj : RI j := ri_hd2 hst
  have hg := aw_ge hH ha
  have hgb := aw_ge hH hb
  show W p l e R s m args below meth c H locs cells slots _ (F0 m pc rl (aw_tr w (.inr b) :: .int (Int32.ofInt j) :: aw_tr w (.inr a) :: st.map (aw_tr w)))
  rw [aw_tr_ref (a := a) (by omega), aw_tr_ref (a := b) (by omega)]
  have c1 := aw_arr hH ha (by omega)
  obtain ⟨r, hr, hlen, cell, q1, q2, q3, q4⟩ := aw_obj hH hb hu
  obtain ⟨C, hC⟩ := aw_elty (w := w) ht
  have hK := aw_K hw hE
  obtain ⟨kA, comp, k1, k2, k3, -⟩ := (hK.2 _ _ hC).2
  obtain ⟨kE, hkE, -⟩ := Vm.findClass_spec k3
  obtain ⟨hS, hfc, kC, hkC, hkind⟩ := hK.1 u _ hr
  refine W.aast hE.1 hE.2.1 c1 (fun q h => by cases h) (fun h => by cases h) k1 k2 rfl hkE ⟨?_, ?_⟩ q1 (fun q h => by rw [q3] at h; cases h) (by rw [q2]; exact hkC) (by rw [q2]; exact aw_assign hw hE hc hr hC hfc k3) rfl rfl hd ?_
  · rw [ri_z, ri_lt hrj ri_0]; omega
  · rw [arrV_size, ri_nat hrj]; omega
  intro H' e1 e2 e3
  refine kk w p l e R s m args below meth c H' _ cells slots rl hw hE hR ?_ hL (fun z hz => hst z (List.mem_cons_of_mem _ (aw_2 z hz))) (aw_loc hg.1 hlo)
  refine aw_RH_set hH hg.1 hg.2 e2 e3 ?_ ?_
  · simp only [aw_CO, if_neg (show ¬ t < 32 by omega)]
    rw [e1, arrV_store, ri_nat hrj, ← aw_tr_ref (w := w) (a := b) (by omega), List.length_set]
    exact congrArg (fun F => some (arrV (w.2.2.2 (t - 31)) vs.length F)) (aw_getD_set (by omega))
  · have := hH.2.2.2.2.2 a
    rw [ha] at this
    exact aw_rc_set this trivial
theorem AW.alenR (hd : decode M.2.1 pc = .ok (.arraylength, 1)) (ha : h.2 a = .inl (t + 1, vs)) (ht : 32 ≤ t ∧ t ≤ 34) (hn : vs.length < 2147483648) (kk : AW d bc bs M Q (pc + 1) ls (.inl (vs.length : Int) :: st) h) : AW d bc bs M Q pc ls (.inr a :: st) h := by
  intro w p l e R s m args below meth c H locs cells slots rl hw hE hR hH hL hst hlo
  have hkk := kk w p l e R s m args below meth c H locs cells slots rl hw hE hR hH hL (fun z hz => by
    rcases List.mem_cons.mp hz with rfl | hz
    · exact ⟨by omega, by omega⟩
    · exact hst z (aw_1 z hz)) hlo
  have hg := aw_ge hH ha
  show W p l e R s m args below meth c H locs cells slots _ (F0 m pc rl (aw_tr w (.inr a) :: st.map (aw_tr w)))
  rw [aw_tr_ref (by omega)]
  obtain ⟨C, hC⟩ := aw_elty (w := w) ht
  exact W.alen hE.1 hE.2.1 (aw_arr hH ha (by omega)) (((aw_K hw hE).2 _ _ hC).1 _ _) (by rw [arrV_size]; rfl) rfl rfl hd hkk
/-! makes -/
theorem ac_int : Cond.arrayClass .int ∈ tables_1 := by decide +kernel
theorem AW.newarray (hd : decode M.2.1 pc = .ok (.newarray .int, 2)) (h0 : 0 ≤ j) (h1 : j ≤ 100000) (hb : bc = bc' + 1) (hs : bs = bs' + j.toNat) (kk : AW d bc' bs' M Q (pc + 2) ls (.inr (16 + h.1) :: st) (hpush h (.inr (j.toNat, fun _ => 0)))) : AW d bc bs M Q pc ls (.inl j :: st) h := by
  subst hb; subst hs
  intro w p l e R s m args below meth c H locs cells slots rl hw hE hR hH hL hst hlo
  have hrj : RI j := ri_hd hst
  show W p l e R s m args below meth c H locs cells slots _ (F0 m pc rl (.int (Int32.ofInt j) :: st.map (aw_tr w)))
  refine va_newaK hE.1 hE.2.1 (atype := .int) (aw_word hw hE (List.mem_append_right _ ac_int) rfl) rfl hd rfl (by rw [ri_z, ri_lt hrj ri_0]; omega) (ri_nat hrj) (by show j.toNat * 4 ≤ _; omega) (by omega) (by omega) rfl ?_
  intro H' cA e1 e2 e3 hAr hNm
  have hcA : cA = w.2.2.2 0 := by
    have h2 : s.vm.findClass ("[" ++ FieldType.int.toString) = some (w.2.2.2 0) := ((aw_K hw hE).2 0 _ rfl).2
    exact Option.some.inj (hNm.symm.trans h2)
  subst hcA
  have hk := kk w p l e R s m args below meth c H' locs (cells + 1) (slots + j.toNat) rl hw hE ⟨hR.1, hR.2.1, by omega, by omega⟩ (aw_RH_push hH e2 (fun q hq => e3 q hq) (by show H'[aw_adr w _]? = _; rw [aw_adr_new hH]; exact e1) (fun _ => ri_0)) hL (fun z hz => by
    rcases List.mem_cons.mp hz with rfl | hz
    · trivial
    · exact hst z (aw_1 z hz)) hlo
  rw [show cells + 1 + bc' = cells + (bc' + 1) by omega, show slots + j.toNat + bs' = slots + (bs' + j.toNat) by omega] at hk
  have hk : W p l e R s m args below meth c H' locs (cells + 1) (slots + j.toNat) _ (F0 m (pc + 2) rl (aw_tr w (.inr (16 + h.1)) :: st.map (aw_tr w))) := hk
  rw [aw_tr_new hH] at hk
  exact hk
def NewA (own : String) (idx t : Nat) (C : String) : Prop := Cond.classLink own idx C ∈ tables_1 ∧ Cond.arrayOver (.object C) ∈ tables_1 ∧ ∀ w : Om, (aw_tys w)[t - 31]? = some (w.2.2.2 (t - 31), .object C)
theorem AW.anewarray {C : String} (hd : decode M.2.1 pc = .ok (.anewarray idx, 3)) (hsite : NewA M.1.cls idx t C) (ht : 32 ≤ t ∧ t ≤ 34) (h0 : 0 ≤ j) (h1 : j ≤ 100000) (hb : bc = bc' + 1) (hs : bs = bs' + j.toNat) (kk : AW d bc' bs' M Q (pc + 3) ls (.inr (16 + h.1) :: st) (hpush h (.inl (t + 1, List.replicate j.toNat (.inr 0))))) : AW d bc bs M Q pc ls (.inl j :: st) h := by
  subst hb; subst hs
  intro w p l e R s m args below meth c H locs cells slots rl hw hE hR hH hL hst hlo
  have hrj : RI j := ri_hd hst
  obtain ⟨g1, g2, g3⟩ := hsite
  show W p l e R s m args below meth c H locs cells slots _ (F0 m pc rl (.int (Int32.ofInt j) :: st.map (aw_tr w)))
  have hover : va_AO C s := va_AO.moved hE.2.2.2.2.2.2.2.alike (va_AO.of (hw.1 _ (List.mem_append_right _ g2)))
  refine W.anew hE.1 hE.2.1 hE.2.2.2.2.2.2.1 (aw_word hw hE (List.mem_append_right _ g1) rfl) (va_AO.use hover) rfl hd rfl (by rw [ri_z, ri_lt hrj ri_0]; omega) (by rw [ri_nat hrj]; omega) (by omega) (by rw [ri_nat hrj]; omega) ?_
  intro cA kA comp f1 f2 f3 f4
  have hcA : cA = w.2.2.2 (t - 31) := by
    obtain ⟨_, _, _, _, _, h2⟩ := ((aw_K hw hE).2 _ _ (g3 w)).2
    exact Option.some.inj (f1.symm.trans h2)
  subst hcA
  rw [ri_nat hrj]
  generalize hH1 : H.push ({ cls := w.2.2.2 (t - 31), slots := Array.replicate j.toNat .null, vm := .none } : Cell) = H'
  have e2 : H'.size = H.size + 1 := by rw [← hH1, Array.size_push]
  have e1 : H'[H.size]? = some (arrV (w.2.2.2 (t - 31)) j.toNat (fun _ => .null)) := by rw [← hH1, Array.getElem?_push_size, ← arrV_new]
  have e3 : ∀ q : Nat, q < H.size → H'[q]? = H[q]? := fun q hq => by rw [← hH1, Array.getElem?_push, if_neg (Nat.ne_of_lt hq)]
  have hk := kk w p l e R s m args below meth c H' locs (cells + 1) (slots + j.toNat) rl hw hE ⟨hR.1, hR.2.1, by omega, by omega⟩ (aw_RH_push hH e2 (fun q hq => e3 q hq) (by
    simp only [aw_CO, if_neg (show ¬ t < 32 by omega)]
    rw [aw_adr_new hH, e1, List.length_replicate]
    refine congrArg (fun F => some (arrV (w.2.2.2 (t - 31)) j.toNat F)) ?_
    funext q
    by_cases hq : q < j.toNat
    · simp [List.getD_eq_getElem?_getD, List.getElem?_replicate, hq, aw_tr]
    · simp [List.getD_eq_getElem?_getD, List.getElem?_replicate, hq, aw_tr]) (fun z hz => by
    rw [(List.mem_replicate.mp hz).2]
    trivial)) hL (fun z hz => by
    rcases List.mem_cons.mp hz with rfl | hz
    · trivial
    · exact hst z (aw_1 z hz)) hlo
  rw [show cells + 1 + bc' = cells + (bc' + 1) by omega, show slots + j.toNat + bs' = slots + (bs' + j.toNat) by omega] at hk
  have hk : W p l e R s m args below meth c H' locs (cells + 1) (slots + j.toNat) _ (F0 m (pc + 3) rl (aw_tr w (.inr (16 + h.1)) :: st.map (aw_tr w))) := hk
  rw [aw_tr_new hH] at hk
  exact hk
def a_dflt : FieldType → AV
  | .int => .inl 0
  | .boolean => .inl 0
  | _ => .inr 0
def a_ok : FieldType → Bool
  | .int => true
  | .boolean => true
  | .object _ => true
  | .array _ => true
  | _ => false
theorem a_dflt_ok {w : Om} {ty : FieldType} (hk : a_ok ty = true) : defaultValue ty = aw_tr w (a_dflt ty) := by
  cases ty <;> first | rfl | cases hk
/-- a class that is made -/
def New (own : String) (idx t N : Nat) (vs : List AV) : Prop := ∃ r : vw_C, vwCl[t]? = some r ∧ r.2.2 = N ∧ Cond.classLink own idx r.1 ∈ tables_1 ∧ Cond.instantiable r.1 N ∈ tables_1 ∧ Cond.initialized r.1 ∈ tables_1 ∧ (∀ k, k < N → a_ok (tyC t k) = true) ∧ vs = (List.range N).map (fun k => a_dflt (tyC t k))
set_option maxHeartbeats 4000000 in
theorem AW.new {N : Nat} (hd : decode M.2.1 pc = .ok (.new idx, 3)) (hsite : New M.1.cls idx t N vs) (hb : bc = bc' + 1) (hs : bs = bs' + N) (kk : AW d bc' bs' M Q (pc + 3) ls (.inr (16 + h.1) :: st) (hpush h (.inl (t + 1, vs)))) : AW d bc bs M Q pc ls st h := by
  subst hb; subst hs
  intro w p l e R s m args below meth c H locs cells slots rl hw hE hR hH hL hst hlo
  obtain ⟨r, hr, hN, g1, g2, g3, g4, g5⟩ := hsite
  have ht : t < 32 := by
    have := (List.getElem?_eq_some_iff.mp hr).1
    have h13 : vwCl.length = 13 := rfl
    omega
  have hKn := (aw_K hw hE).1 t _ hr
  obtain ⟨hin, hnm, hty⟩ := cls_ok t r hr
  have hts : ∀ c ∈ u_ws r.1 r.2.1 r.2.2, c.before args s = true := fun c hc => aw_word hw hE (hin c hc).1 (hin c hc).2
  refine W.newcK hE.1 hE.2.1 hE.2.2.2.2.2.2.1 (aw_word hw hE (List.mem_append_right _ g1) rfl) (aw_word hw hE (List.mem_append_right _ g2) rfl) (aw_word hw hE (List.mem_append_right _ g3) rfl) rfl hd (by omega) (by omega) hKn.2.1 rfl ?_
  intro H' kC hkC e1 e2 e3
  have hob := u_born (tyC t) hts (fun _ h => h) hKn hkC e1 hty
  have hk := kk w p l e R s m args below meth c H' locs (cells + 1) (slots + N) rl hw hE ⟨hR.1, hR.2.1, by omega, by omega⟩ (aw_RH_push hH e2 (fun q hq => e3 q hq) (by
    simp only [aw_CO, if_pos ht]
    rw [aw_adr_new hH]
    refine ⟨r, hr, by rw [g5]; simp [hN], hob.to fun k hk => ?_⟩
    rw [a_dflt_ok (w := w) (g4 k (by omega)), vp_map]
    rw [g5]
    simp [List.getElem?_map, List.getElem?_range (show k < N by omega)]) (fun z hz => by
    rw [g5] at hz
    obtain ⟨k, -, rfl⟩ := List.mem_map.mp hz
    show RV (a_dflt (tyC t k))
    cases tyC t k <;> first | exact ri_0 | trivial)) hL (fun z hz => by
    rcases List.mem_cons.mp hz with rfl | hz
    · trivial
    · exact hst z hz) hlo
  rw [show cells + 1 + bc' = cells + (bc' + 1) by omega, show slots + N + bs' = slots + (bs' + N) by omega] at hk
  have hk : W p l e R s m args below meth c H' locs (cells + 1) (slots + N) _ (F0 m (pc + 3) rl (aw_tr w (.inr (16 + h.1)) :: st.map (aw_tr w))) := hk
  rw [aw_tr_new hH] at hk
  exact hk
/-! statics and constants -/
def GS (own : String) (idx k : Nat) : Prop := 2 ≤ k ∧ k ≤ 5 ∧ FLink own idx ((aw_sn k).1, (aw_sn k).2, "[I", true)
theorem AW.gets (hd : decode M.2.1 pc = .ok (.getstatic idx, 3)) (hs : GS M.1.cls idx k) (kk : AW d bc bs M Q (pc + 3) ls (.inr k :: st) h) : AW d bc bs M Q pc ls st h := by
  intro w p l e R s m args below meth c H locs cells slots rl hw hE hR hH hL hst hlo
  obtain ⟨g1, g2, hlk⟩ := hs
  obtain ⟨cf, kf, fi, f, ad, cell, z1, z2, z3, z4, z5, z6, z7, z8⟩ := va_Z.moved (hE.2.2.2.2.2.2.2.alike) (hw.2.2.1 k g1 g2)
  have hkk := kk w p l e R s m args below meth c H locs cells slots rl hw hE hR hH hL (fun z hz => by
    rcases List.mem_cons.mp hz with rfl | hz
    · trivial
    · exact hst z hz) hlo
  have hkk : W p l e R s m args below meth c H locs cells slots _ (F0 m (pc + 3) rl (aw_tr w (.inr k) :: st.map (aw_tr w))) := hkk
  rw [aw_tr_ref (by omega), show aw_adr w k = w.2.1 k from if_pos (by omega)] at hkk
  have hlt := (Array.getElem?_eq_some_iff.mp z5).1
  have hkn : cell.vm ≠ .unknown := fun q => by rw [q] at z6; cases z6
  rcases hlk with hlk | ⟨host, hlk⟩
  · exact W.gets hE.1 hE.2.1 hE.2.2.2.2.2.2.1 (aw_word hw hE hlk rfl) z1 z2 z3 z4 (by rw [hH.2.1 _ hlt]; exact z5) hkn z7 rfl hd hkk
  · exact va_WgetsN hE.1 hE.2.1 hE.2.2.2.2.2.2.1 (aw_warmN hw hE hlk) z1 z2 z3 z4 (by rw [hH.2.1 _ hlt]; exact z5) hkn z7 rfl hd hkk
theorem AW.ldc {n : Int} (hd : decode M.2.1 pc = .ok (.ldc idx, 2)) (hs : Cond.constant M.1.cls idx (Int32.ofInt n) ∈ tables_1) (hn : RI n) (kk : AW d bc bs M Q (pc + 2) ls (.inl n :: st) h) : AW d bc bs M Q pc ls st h := by
  intro w p l e R s m args below meth c H locs cells slots rl hw hE hR hH hL hst hlo
  exact lv_ldc hE.1 hE.2.1 hE.2.2.2.2.2.2.1 (aw_word hw hE (List.mem_append_right _ hs) rfl) hd (kk w p l e R s m args below meth c H locs cells slots rl hw hE hR hH hL (fun z hz => by
    rcases List.mem_cons.mp hz with rfl | hz
    · exact hn
    · exact hst z hz) hlo)
theorem AW.ldcw {n : Int} (hd : decode M.2.1 pc = .ok (.ldc_w idx, 3)) (hs : Cond.constant M.1.cls idx (Int32.ofInt n) ∈ tables_1) (hn : RI n) (kk : AW d bc bs M Q (pc + 3) ls (.inl n :: st) h) : AW d bc bs M Q pc ls st h := by
  intro w p l e R s m args below meth c H locs cells slots rl hw hE hR hH hL hst hlo
  exact lv_ldcw hE.1 hE.2.1 hE.2.2.2.2.2.2.1 (aw_word hw hE (List.mem_append_right _ hs) rfl) hd (kk w p l e R s m args below meth c H locs cells slots rl hw hE hR hH hL (fun z hz => by
    rcases List.mem_cons.mp hz with rfl | hz
    · exact hn
    · exact hst z hz) hlo)
end H2
end
section
def aw_room (d bc bs : Nat) : Room := { frames := d, cells := bc, slots := bs, locals := 40 * d }
theorem aw_sl (w : Om) (vs : List AV) : lg_sl (vs.map (aw_tr w)) = vs.map (fun v => Slot.val (aw_tr w v)) := by
  induction vs with
  | nil => rfl
  | cons v t ih =>
    have h1 : (aw_tr w v).category = 1 := aw_cat w v
    unfold lg_sl at ih ⊢
    rw [List.map_cons, List.flatMap_cons, ih, if_neg (by rw [h1]; decide)]
    rfl
theorem aw_entry {w : Om} {vs : List AV} {n : Nat} (hn : vs.length ≤ n) (hv : ∀ v ∈ vs, RV v) : aw_LR w ((lg_sl (vs.map (aw_tr w)) ++ List.replicate (n - (lg_sl (vs.map (aw_tr w))).length) Slot.unset).toArray) n (vs.map some ++ List.replicate (n - vs.length) none) := by
  have hl : (lg_sl (vs.map (aw_tr w))).length = vs.length := by rw [aw_sl, List.length_map]
  obtain ⟨g1, g2, -⟩ := lv_entry (vs.map (aw_tr w)) (n := n) (by rw [hl]; exact hn)
  refine ⟨g1, g2, by simp; omega, fun i v hi => ?_⟩
  rcases Nat.lt_or_ge i vs.length with q | q
  · rw [List.getElem?_append_left (by rw [List.length_map]; exact q), List.getElem?_map, List.getElem?_eq_getElem q] at hi
    simp only [Option.map_some, Option.some.injEq] at hi
    subst hi
    refine ⟨?_, hv _ (List.getElem_mem q)⟩
    rw [List.getElem?_toArray, List.getElem?_append_left (by rw [hl]; exact q), aw_sl, List.getElem?_map, List.getElem?_eq_getElem q]
    rfl
  · rw [List.getElem?_append_right (by rw [List.length_map]; exact q), List.getElem?_replicate] at hi
    split at hi
    · cases hi
    · cases hi
/-- what a callee is, in the tables -/
def MOK (N : MT) (n : Nat) : Prop := plainName N.1.cls = true ∧ N.2.2.1 ≤ 20 ∧ (N.1.cls ≠ "java/lang/invoke/MethodHandle" ∧ N.1.cls ≠ "java/lang/invoke/VarHandle") ∧ (parseMethodDescriptor N.1.desc).map (fun d => d.parameters.length) = some n ∧ Cond.code N.1 N.2.1 N.2.2.1 N.2.2.2 ∈ tables_1 ∧ Cond.initialized N.1.cls ∈ tables_1
def aw_Pc (w : Om) (H : Heap) (vs : List AV) : Array Value → State → Prop := fun v U => v = (vs.map (aw_tr w)).toArray ∧ U.heap = H ∧ w.1.WarmedH U.vm
theorem aw_met {w : Om} {d bc bs : Nat} {N : MT} {vs : List AV} {h : AH} {H : Heap} {K : Option AV → AH → Prop} {n : Nat} (l : Launch) (hw : aw_Wd w) (hN : MOK N n) (hH : aw_RH w H h) (hv : ∀ v ∈ vs, RV v) (hlen : vs.length ≤ N.2.2.1) (k : MW d bc bs N vs h K) :
    Met l N.1 [Cond.code N.1 N.2.1 N.2.2.1 N.2.2.2] (aw_room d bc bs) (aw_Pc w H vs) (aw_Qc w K) bc bs (fun q => w.1.heap.size ≤ q) := by
  refine Met.ofW (cc := N.2.1) (maxL := N.2.2.1) (ret := N.2.2.2) (ws' := []) hN.1 rfl ?_
  intro p e s m args below meth c s₁ B hml hp
  obtain ⟨rfl, hh, hwm⟩ := hp
  rw [lg_entry_eq]
  have hk := k w p l e (aw_room d bc bs) s m (vs.map (aw_tr w)).toArray below meth c s.heap [] 0 0 _ hw ⟨B.exec, B.bytes, hml, B.returns, B.notSynchronized, fun hi => (name_of_methodNamed B.named B.method).1.trans hi, findClass_of_methodNamed B.named, hwm⟩ ⟨Nat.le_refl _, Nat.le_refl _, by simp [aw_room], by simp [aw_room]⟩ (by rw [hh]; exact hH) (aw_entry hlen hv) (fun v hv => by cases hv) (fun q hq => by cases hq)
  rw [Nat.zero_add, Nat.zero_add] at hk
  exact hk
def aw_rc (rc : Option Nat) (n : Nat) (vs : List AV) (h : AH) : Prop := match rc with
  | none => vs.length = n
  | some t => vs.length = n + 1 ∧ ∃ (a : Nat) (fs tl : List AV), vs = .inr a :: tl ∧ h.2 a = .inl (t + 1, fs) ∧ t < 32
/-- a place in M's code from which N is called; rc: the class of the receiver, if there is one -/
def Site (M : MT) (ins : Instr) (N : MT) (n : Nat) (rc : Option Nat) : Prop := ∀ (w : Om) (p : Program) (l : Launch) (e : Env) (R : Room) (s : State) (m : MethodId) (args : Array Value) (below : List Frame) (meth : Method) (c : Code) (H : Heap) (locs : List Loc) (cells slots d bc bs pc : Nat) (vs rest : List AV) (h : AH) (rl : Array Slot) (Qc : Array Value → State → Outcome → State → Prop),
  aw_Wd w → aw_En w M p s m meth c → aw_RH w H h → Met l N.1 [Cond.code N.1 N.2.1 N.2.2.1 N.2.2.2] (aw_room d bc bs) (aw_Pc w H vs) Qc bc bs (fun q => w.1.heap.size ≤ q) →
  d + 1 ≤ R.frames → 40 * (d + 1) ≤ R.locals → cells + bc ≤ R.cells → slots + bs ≤ R.slots → rl.size = M.2.2.1 → decode M.2.1 pc = .ok (ins, 3) → rest.length ≤ 8 →
  aw_rc rc n vs h →
  va_Run p l e R s m args below meth c H locs cells slots bc bs (F0 m pc rl ((vs.reverse ++ rest).map (aw_tr w))) (rest.map (aw_tr w)) (Qc (vs.map (aw_tr w)).toArray) (fun q => w.1.heap.size ≤ q)
section Call
variable {d d' bc bs bc' bs' bc'' bs'' : Nat} {M N : MT} {Q : Option AV → AH → Prop} {pc n : Nat} {ls : List (Option AV)} {st rest vs : List AV} {h : AH} {ins : Instr} {rc : Option Nat}
theorem AW.call (hs : Site M ins N n rc) (hN : MOK N n) (hd : decode M.2.1 pc = .ok (ins, 3)) (hdp : d' + 1 ≤ d) (hrest : rest.length ≤ 8) (hb : bc = bc' + bc'') (hbs : bs = bs' + bs'') (hst0 : st = vs.reverse ++ rest) (hvs : vs.length ≤ N.2.2.1)
    (hrc : aw_rc rc n vs h)
    (k : MW d' bc' bs' N vs h (fun r h' => AW d bc'' bs'' M Q (pc + 3) ls (r.toList ++ rest) h')) : AW d bc bs M Q pc ls st h := by
  subst hb; subst hbs; subst hst0
  intro w p l e R s m args below meth c H locs cells slots rl hw hE hR hH hL hst hlo
  have hvv : ∀ v ∈ vs, RV v := fun v hv => hst v (List.mem_append_left _ (List.mem_reverse.mpr hv))
  have hrr : ∀ v ∈ rest, RV v := fun v hv => hst v (List.mem_append_right _ hv)
  have hM := aw_met l hw hN hH hvv hvs k
  have hrun := hs w p l e R s m args below meth c H locs cells slots d' bc' bs' pc vs rest h rl _ hw hE hH hM (by omega) (by omega) (by omega) (by omega) hL.1 hd hrest hrc
  intro T hT X
  obtain ⟨v, st₀, t, T', L, h0, X', hlL, e1, e2, ⟨r, h', hk, hv, hH', hrv⟩, go⟩ := hrun T hT X
  cases hv
  have hk2 := hk w p l e R s m args below meth c T'.heap (locs ++ L) (cells + bc') (slots + bs') rl hw hE ⟨hR.1, hR.2.1, by omega, by omega⟩ (by rw [e1]; exact hH') hL (fun u hu => by
    rcases List.mem_append.mp hu with q | q
    · cases r with
      | none => cases q
      | some z =>
        rw [List.mem_singleton.mp q]
        exact hrv z rfl
    · exact hrr u q) (fun q hq => by
    rcases List.mem_append.mp hq with z | z
    · exact hlo q z
    · exact hlL q z)
  rw [show cells + bc' + bc'' = cells + (bc' + bc'') by omega, show slots + bs' + bs'' = slots + (bs' + bs'') by omega] at hk2
  obtain ⟨t2, a1, b1⟩ := hk2 T' rfl X'
  refine ⟨t2, go t2 ?_, b1⟩
  have e3 : (r.toList ++ rest).map (aw_tr w) = (r.map (aw_tr w)).toList ++ rest.map (aw_tr w) := by cases r <;> simp
  rw [e3] at a1
  exact a1
end Call
section Sites
variable {M N : MT} {n idx t : Nat}
theorem aw_codes {w : Om} {p : Program} {s : State} {m : MethodId} {meth : Method} {c : Code} (hw : aw_Wd w) (hE : aw_En w M p s m meth c) (hN : MOK N n) : ∀ q ∈ [Cond.code N.1 N.2.1 N.2.2.1 N.2.2.2], ∀ (a' : Array Value) (U : State), s.WarmedH U.vm → q.before a' U = true := by
  intro q hq a' U hU
  rw [List.mem_singleton.mp hq]
  exact word_at (State.WarmedH.trans hE.2.2.2.2.2.2.2 hU) (good_of_word rfl) (hw.1 _ (List.mem_append_right _ hN.2.2.2.2.1))
theorem aw_blind {w : Om} {H : Heap} {vs : List AV} : FrameBlind (aw_Pc w H vs) := fun a U g mk h => h
theorem aw_cats (w : Om) (rest : List AV) (h8 : rest.length ≤ 8) (m : MethodId) (pc : Nat) (rl : Array Slot) (st : List Value) : 2 * (F0 m pc rl st).monitorRoom + ((rest.map (aw_tr w)).map fun v => v.category).sum ≤ 8 := by
  have : ∀ l : List AV, ((l.map (aw_tr w)).map fun v => v.category).sum = l.length := by
    intro l
    induction l with
    | nil => rfl
    | cons v t ih =>
      simp only [List.map_cons, List.sum_cons, List.length_cons]
      rw [ih, aw_cat]
      omega
  rw [this]
  show 2 * 0 + _ ≤ 8
  omega
theorem aw_params (hN : MOK N n) : ∀ sig, parseMethodDescriptor N.1.desc = some sig → n = sig.parameters.length := fun sig h => by
  have h2 := hN.2.2.2.1
  rw [h] at h2
  exact (Option.some.inj h2).symm
theorem aw_recv {w : Om} {p : Program} {s : State} {m : MethodId} {meth : Method} {c : Code} {H : Heap} {h : AH} {a : Nat} {fs : List AV} (hw : aw_Wd w) (hE : aw_En w M p s m meth c) (hH : aw_RH w H h) (ha : h.2 a = .inl (t + 1, fs)) (ht : t < 32) {r : vw_C} (hr : vwCl[t]? = some r) : ∃ cellB : Cell, H[aw_adr w a]? = some cellB ∧ cellB.vm.isStatics = false ∧ s.vm.findClass r.1 = some cellB.cls := by
  obtain ⟨r', hr', hlen, cell, q1, q2, q3, q4⟩ := aw_obj hH ha ht
  cases hr.symm.trans hr'
  refine ⟨cell, q1, by rw [q3]; rfl, ?_⟩
  rw [q2]
  exact ((aw_K hw hE).1 t _ hr).2.1
/-- an instance method as it is named -/
theorem Site.V {C : String} {T : u_T} {nf : Nat} (hN : MOK N n) (hr : vwCl[t]? = some (C, T, nf)) (h1 : Cond.methodLink M.1.cls idx N.1 ∈ lw_tbl) (h2 : Cond.instanceMethod N.1 ∈ lw_tbl) (h3 : Cond.selects C N.1 N.1 ∈ lw_tbl) : Site M (.invokevirtual idx) N n (some t) := by
  intro w p l e R s m args below meth c H locs cells slots d bc bs pc vs rest h rl Qc hw hE hH hM r1 r2 r3 r4 hl hd h8 ⟨hvn, a, fs, tl, hvs, ha, ht⟩
  subst hvs
  have hg := aw_ge hH ha
  have hm : (List.map (aw_tr w) (.inr a :: tl)).toArray = (Value.ref (aw_adr w a) :: tl.map (aw_tr w)).toArray := by rw [List.map_cons, aw_tr_ref (by omega)]
  have hm2 : ((.inr a :: tl).reverse ++ rest).map (aw_tr w) = (tl.map (aw_tr w)).reverse ++ .ref (aw_adr w a) :: rest.map (aw_tr w) := by
    simp only [List.reverse_cons, List.append_assoc, List.map_append, List.map_reverse, List.map_cons, List.map_nil, List.singleton_append, List.cons_append, List.nil_append]
    rw [aw_tr_ref (by omega)]
  rw [hm, hm2]
  refine va_runV (y := N.1) (bytes := N.2.1) (maxL := N.2.2.1) (ret := N.2.2.2) (n := n) (C := C) (own := M.1.cls) (Ts := []) ⟨hE.1, hE.2.1, hE.2.2.1, hE.2.2.2.2.2.2.1, fun _ h => by cases h⟩ hM ⟨⟨rfl, rfl, r1, ?_, aw_codes hw hE hN, List.mem_cons_self, aw_word hw hE (List.mem_append_right _ hN.2.2.2.2.1) rfl, aw_word hw hE (List.mem_append_right _ hN.2.2.2.2.2) rfl, hN.2.2.1, aw_params hN, aw_word hw hE h1 rfl⟩, aw_word hw hE h2 rfl, aw_word hw hE h3 rfl⟩ ⟨aw_blind, aw_recv hw hE hH ha ht hr, fun U hU hW => ⟨hm.symm, hU, State.WarmedH.trans hE.2.2.2.2.2.2.2 hW⟩⟩ rfl (by rw [List.length_map]; simpa using hvn) hl rfl (aw_cats w rest h8 _ _ _ _) hd ⟨r3, r4⟩
  have := hN.2.1
  show 8 + (N.2.2.1 + 11) + 40 * d ≤ R.locals
  omega
/-- a static method -/
theorem Site.S (hN : MOK N n) (h1 : Cond.methodLink M.1.cls idx N.1 ∈ lw_tbl) (h2 : Cond.static N.1 ∈ lw_tbl) : Site M (.invokestatic idx) N n none := by
  intro w p l e R s m args below meth c H locs cells slots d bc bs pc vs rest h rl Qc hw hE hH hM r1 r2 r3 r4 hl hd h8 hvn
  have hm2 : (vs.reverse ++ rest).map (aw_tr w) = (vs.map (aw_tr w)).reverse ++ rest.map (aw_tr w) := by
    simp only [List.map_append, List.map_reverse]
  rw [hm2]
  refine va_runS (y := N.1) (bytes := N.2.1) (maxL := N.2.2.1) (ret := N.2.2.2) (n := n) (own := M.1.cls) (Ts := []) ⟨hE.1, hE.2.1, hE.2.2.1, hE.2.2.2.2.2.2.1, fun _ h => by cases h⟩ hM ⟨⟨rfl, rfl, r1, ?_, aw_codes hw hE hN, List.mem_cons_self, aw_word hw hE (List.mem_append_right _ hN.2.2.2.2.1) rfl, aw_word hw hE (List.mem_append_right _ hN.2.2.2.2.2) rfl, hN.2.2.1, aw_params hN, aw_word hw hE h1 rfl⟩, aw_word hw hE h2 rfl⟩ ⟨aw_blind, fun U hU hW => ⟨rfl, hU, State.WarmedH.trans hE.2.2.2.2.2.2.2 hW⟩⟩ rfl (by rw [List.length_map]; exact hvn) hl rfl (aw_cats w rest h8 _ _ _ _) hd ⟨r3, r4⟩
  have := hN.2.1
  show 8 + (N.2.2.1 + 11) + 40 * d ≤ R.locals
  omega
theorem aw_warmM {w : Om} {p : Program} {s : State} {m : MethodId} {meth : Method} {c : Code} (hw : aw_Wd w) (hE : aw_En w M p s m meth c) {own host : String} {x : MethodName} (hq : Cond.methodLinkNest own idx x host ∈ lw_tbl) {args : Array Value} : (Cond.methodLinkNest own idx x host).before args s = true :=
  va_Nw.use rfl (va_Nw.warmM hE.2.2.2.2.2.2.2 (va_Nw.of rfl (hw.1 _ hq)))
/-- a private static method of a nest mate -/
theorem Site.SN {host : String} (hN : MOK N n) (h1 : Cond.methodLinkNest M.1.cls idx N.1 host ∈ lw_tbl) (h2 : Cond.static N.1 ∈ lw_tbl) : Site M (.invokestatic idx) N n none := by
  intro w p l e R s m args below meth c H locs cells slots d bc bs pc vs rest h rl Qc hw hE hH hM r1 r2 r3 r4 hl hd h8 hvn
  have hm2 : (vs.reverse ++ rest).map (aw_tr w) = (vs.map (aw_tr w)).reverse ++ rest.map (aw_tr w) := by
    simp only [List.map_append, List.map_reverse]
  rw [hm2]
  refine va_runSN (y := N.1) (bytes := N.2.1) (maxL := N.2.2.1) (ret := N.2.2.2) (n := n) (own := M.1.cls) (host := host) (Ts := []) ⟨hE.1, hE.2.1, hE.2.2.1, hE.2.2.2.2.2.2.1, fun _ h => by cases h⟩ hM ⟨⟨⟨rfl, rfl, r1, ?_, aw_codes hw hE hN, List.mem_cons_self⟩, aw_word hw hE (List.mem_append_right _ hN.2.2.2.2.1) rfl, aw_word hw hE (List.mem_append_right _ hN.2.2.2.2.2) rfl, hN.2.2.1, aw_params hN, aw_warmM hw hE h1⟩, aw_word hw hE h2 rfl, trivial⟩ ⟨aw_blind, fun U hU hW => ⟨rfl, hU, State.WarmedH.trans hE.2.2.2.2.2.2.2 hW⟩⟩ rfl (by rw [List.length_map]; exact hvn) hl rfl (aw_cats w rest h8 _ _ _ _) hd ⟨r3, r4⟩
  have := hN.2.1
  show 8 + (N.2.2.1 + 11) + 40 * d ≤ R.locals
  omega
/-- a constructor -/
theorem Site.I (hN : MOK N n) (hr : N.2.2.2 = none) (h0 : N.1.name = "<init>") (h1 : Cond.methodLink M.1.cls idx N.1 ∈ lw_tbl) (h2 : Cond.instanceMethod N.1 ∈ lw_tbl) : Site M (.invokespecial idx) N n (some t) := by
  intro w p l e R s m args below meth c H locs cells slots d bc bs pc vs rest h rl Qc hw hE hH hM r1 r2 r3 r4 hl hd h8 ⟨hvn, a, fs, tl, hvs, ha, ht⟩
  subst hvs
  have hg := aw_ge hH ha
  have hm : (List.map (aw_tr w) (.inr a :: tl)).toArray = (Value.ref (aw_adr w a) :: tl.map (aw_tr w)).toArray := by rw [List.map_cons, aw_tr_ref (by omega)]
  have hm2 : ((.inr a :: tl).reverse ++ rest).map (aw_tr w) = (tl.map (aw_tr w)).reverse ++ .ref (aw_adr w a) :: rest.map (aw_tr w) := by
    simp only [List.reverse_cons, List.append_assoc, List.map_append, List.map_reverse, List.map_cons, List.map_nil, List.singleton_append, List.cons_append, List.nil_append]
    rw [aw_tr_ref (by omega)]
  rw [hm, hm2]
  have hcd := aw_codes (n := n) hw hE hN
  have hcw : (Cond.code N.1 N.2.1 N.2.2.1 N.2.2.2).before args s = true := aw_word hw hE (List.mem_append_right _ hN.2.2.2.2.1) rfl
  rw [hr] at hM hcd hcw
  refine va_runI (y := N.1) (bytes := N.2.1) (maxL := N.2.2.1) (n := n) (own := M.1.cls) (Ts := []) ⟨hE.1, hE.2.1, hE.2.2.1, hE.2.2.2.2.2.2.1, fun _ h => by cases h⟩ hM ⟨⟨rfl, rfl, r1, ?_, hcd, List.mem_cons_self, hcw, aw_word hw hE (List.mem_append_right _ hN.2.2.2.2.2) rfl, hN.2.2.1, aw_params hN, aw_word hw hE h1 rfl⟩, h0, aw_word hw hE h2 rfl⟩ ⟨aw_blind, fun U hU hW => ⟨hm.symm, hU, State.WarmedH.trans hE.2.2.2.2.2.2.2 hW⟩⟩ rfl (by rw [List.length_map]; simpa using hvn) hl rfl (aw_cats w rest h8 _ _ _ _) hd ⟨r3, r4⟩
  have := hN.2.1
  show 8 + (N.2.2.1 + 11) + 40 * d ≤ R.locals
  omega
/-- a private constructor of a nest mate -/
theorem Site.IN {host : String} (hN : MOK N n) (hr : N.2.2.2 = none) (h0 : N.1.name = "<init>") (h1 : Cond.methodLinkNest M.1.cls idx N.1 host ∈ lw_tbl) (h2 : Cond.instanceMethod N.1 ∈ lw_tbl) : Site M (.invokespecial idx) N n (some t) := by
  intro w p l e R s m args below meth c H locs cells slots d bc bs pc vs rest h rl Qc hw hE hH hM r1 r2 r3 r4 hl hd h8 ⟨hvn, a, fs, tl, hvs, ha, ht⟩
  subst hvs
  have hg := aw_ge hH ha
  have hm : (List.map (aw_tr w) (.inr a :: tl)).toArray = (Value.ref (aw_adr w a) :: tl.map (aw_tr w)).toArray := by rw [List.map_cons, aw_tr_ref (by omega)]
  have hm2 : ((.inr a :: tl).reverse ++ rest).map (aw_tr w) = (tl.map (aw_tr w)).reverse ++ .ref (aw_adr w a) :: rest.map (aw_tr w) := by
    simp only [List.reverse_cons, List.append_assoc, List.map_append, List.map_reverse, List.map_cons, List.map_nil, List.singleton_append, List.cons_append, List.nil_append]
    rw [aw_tr_ref (by omega)]
  rw [hm, hm2]
  have hcd := aw_codes (n := n) hw hE hN
  have hcw : (Cond.code N.1 N.2.1 N.2.2.1 N.2.2.2).before args s = true := aw_word hw hE (List.mem_append_right _ hN.2.2.2.2.1) rfl
  rw [hr] at hM hcd hcw
  refine va_runIN (y := N.1) (bytes := N.2.1) (maxL := N.2.2.1) (n := n) (own := M.1.cls) (host := host) (Ts := []) ⟨hE.1, hE.2.1, hE.2.2.1, hE.2.2.2.2.2.2.1, fun _ h => by cases h⟩ hM ⟨⟨⟨rfl, rfl, r1, ?_, hcd, List.mem_cons_self⟩, hcw, aw_word hw hE (List.mem_append_right _ hN.2.2.2.2.2) rfl, hN.2.2.1, aw_params hN, aw_warmM hw hE h1⟩, h0, aw_word hw hE h2 rfl⟩ ⟨aw_blind, fun U hU hW => ⟨hm.symm, hU, State.WarmedH.trans hE.2.2.2.2.2.2.2 hW⟩⟩ rfl (by rw [List.length_map]; simpa using hvn) hl rfl (aw_cats w rest h8 _ _ _ _) hd ⟨r3, r4⟩
  have := hN.2.1
  show 8 + (N.2.2.1 + 11) + 40 * d ≤ R.locals
  omega
/-- a method that the receiver's class has from elsewhere, or of its own over another -/
theorem Site.U {C owner : String} {T : u_T} {nf : Nat} {x : MethodName} {b0 : ByteArray} {m0 : Nat} {r0 : Option FieldType} (hN : MOK N n) (hr : vwCl[t]? = some (C, T, nf)) (hx : parseMethodDescriptor x.desc = parseMethodDescriptor N.1.desc) (ho : owner ≠ "java/lang/invoke/MethodHandle" ∧ owner ≠ "java/lang/invoke/VarHandle") (h1 : Cond.methodLink M.1.cls idx x ∈ lw_tbl) (h2 : Cond.sameMethod x.cls owner x.name x.desc ∈ lw_tbl) (h3 : Cond.instanceMethod ⟨owner, x.name, x.desc⟩ ∈ lw_tbl) (h4 : Cond.code ⟨owner, x.name, x.desc⟩ b0 m0 r0 ∈ lw_tbl) (h5 : Cond.selects C x N.1 ∈ lw_tbl) (h6 : Cond.instanceMethod N.1 ∈ lw_tbl) : Site M (.invokevirtual idx) N n (some t) := by
  intro w p l e R s m args below meth c H locs cells slots d bc bs pc vs rest h rl Qc hw hE hH hM r1 r2 r3 r4 hl hd h8 ⟨hvn, a, fs, tl, hvs, ha, ht⟩
  subst hvs
  have hg := aw_ge hH ha
  have hm : (List.map (aw_tr w) (.inr a :: tl)).toArray = (Value.ref (aw_adr w a) :: tl.map (aw_tr w)).toArray := by rw [List.map_cons, aw_tr_ref (by omega)]
  have hm2 : ((.inr a :: tl).reverse ++ rest).map (aw_tr w) = (tl.map (aw_tr w)).reverse ++ .ref (aw_adr w a) :: rest.map (aw_tr w) := by
    simp only [List.reverse_cons, List.append_assoc, List.map_append, List.map_reverse, List.map_cons, List.map_nil, List.singleton_append, List.cons_append, List.nil_append]
    rw [aw_tr_ref (by omega)]
  rw [hm, hm2]
  refine va_runU (x := x) (y := N.1) (bytes := N.2.1) (maxL := N.2.2.1) (ret := N.2.2.2) (n := n) (C := C) (owner := owner) (own := M.1.cls) (Ts := []) ⟨hE.1, hE.2.1, hE.2.2.1, hE.2.2.2.2.2.2.1, fun _ h => by cases h⟩ hM ⟨⟨rfl, rfl, r1, ?_, aw_codes hw hE hN, List.mem_cons_self⟩, aw_word hw hE (List.mem_append_right _ hN.2.2.2.2.1) rfl, aw_word hw hE (List.mem_append_right _ hN.2.2.2.2.2) rfl, ho, fun sig h => aw_params hN sig (hx ▸ h), aw_word hw hE h1 rfl, aw_word hw hE h2 rfl, va_Decl.of (args := args) (aw_word hw hE h3 rfl) (aw_word hw hE h4 rfl), aw_word hw hE h5 rfl, aw_word hw hE h6 rfl⟩ ⟨aw_blind, aw_recv hw hE hH ha ht hr, fun U hU hW => ⟨hm.symm, hU, State.WarmedH.trans hE.2.2.2.2.2.2.2 hW⟩⟩ rfl (by rw [List.length_map]; simpa using hvn) hl rfl (aw_cats w rest h8 _ _ _ _) hd ⟨r3, r4⟩
  have := hN.2.1
  show 8 + (N.2.2.1 + 11) + 40 * d ≤ R.locals
  omega
/-- super.m(..) -/
theorem Site.SU {C : String} {T : u_T} {nf : Nat} (hN : MOK N n) (hr : vwCl[t]? = some (C, T, nf)) (h0 : N.1.name ≠ "<init>") (h1 : Cond.methodLink M.1.cls idx N.1 ∈ lw_tbl) (h2 : Cond.sameMethod N.1.cls N.1.cls N.1.name N.1.desc ∈ lw_tbl) (h3 : Cond.superclass M.1.cls N.1.cls ∈ lw_tbl) (h4 : Cond.instanceMethod N.1 ∈ lw_tbl) : Site M (.invokespecial idx) N n (some t) := by
  intro w p l e R s m args below meth c H locs cells slots d bc bs pc vs rest h rl Qc hw hE hH hM r1 r2 r3 r4 hl hd h8 ⟨hvn, a, fs, tl, hvs, ha, ht⟩
  subst hvs
  have hg := aw_ge hH ha
  have hm : (List.map (aw_tr w) (.inr a :: tl)).toArray = (Value.ref (aw_adr w a) :: tl.map (aw_tr w)).toArray := by rw [List.map_cons, aw_tr_ref (by omega)]
  have hm2 : ((.inr a :: tl).reverse ++ rest).map (aw_tr w) = (tl.map (aw_tr w)).reverse ++ .ref (aw_adr w a) :: rest.map (aw_tr w) := by
    simp only [List.reverse_cons, List.append_assoc, List.map_append, List.map_reverse, List.map_cons, List.map_nil, List.singleton_append, List.cons_append, List.nil_append]
    rw [aw_tr_ref (by omega)]
  rw [hm, hm2]
  refine va_runSU (C := C) (y := N.1) (bytes := N.2.1) (maxL := N.2.2.1) (ret := N.2.2.2) (n := n) (own := M.1.cls) (Ts := []) ((aw_K hw hE).1 t _ hr).2 ⟨hE.1, hE.2.1, hE.2.2.1, hE.2.2.2.2.2.2.1, fun _ h => by cases h⟩ hM ⟨⟨rfl, rfl, r1, ?_, aw_codes hw hE hN, List.mem_cons_self⟩, aw_word hw hE h1 rfl, aw_word hw hE h2 rfl, aw_word hw hE h3 rfl, aw_word hw hE h4 rfl, aw_word hw hE (List.mem_append_right _ hN.2.2.2.2.2) rfl, aw_word hw hE (List.mem_append_right _ hN.2.2.2.2.1) rfl, h0, aw_params hN⟩ ⟨aw_blind, aw_recv hw hE hH ha ht hr, fun U hU hW => ⟨hm.symm, hU, State.WarmedH.trans hE.2.2.2.2.2.2.2 hW⟩⟩ rfl (by rw [List.length_map]; simpa using hvn) hl rfl (aw_cats w rest h8 _ _ _ _) hd ⟨r3, r4⟩
  have := hN.2.1
  show 8 + (N.2.2.1 + 11) + 40 * d ≤ R.locals
  omega
end Sites
section Obj
variable {d bc bs : Nat} {M : MT} {Q : Option AV → AH → Prop} {pc idx a : Nat} {ls : List (Option AV)} {st : List AV} {h : AH} {x y : Int}
theorem oi_1 : Cond.instanceMethod Lib.objectInit ∈ tables_1 := by decide +kernel
theorem oi_2 : Cond.code Lib.objectInit ⟨#[0xb1]⟩ 1 none ∈ tables_1 := by decide +kernel
theorem AW.objInit {t : Nat} {vs : List AV} (hd : decode M.2.1 pc = .ok (.invokespecial idx, 3)) (hs : Cond.methodLink M.1.cls idx Lib.objectInit ∈ tables_1) (h1 : 1 ≤ d) (ha : h.2 a = .inl (t + 1, vs)) (h8 : st.length ≤ 8) (kk : AW d bc bs M Q (pc + 3) ls st h) : AW d bc bs M Q pc ls (.inr a :: st) h := by
  intro w p l e R s m args below meth c H locs cells slots rl hw hE hR hH hL hst hlo
  have hg := aw_ge hH ha
  show W p l e R s m args below meth c H locs cells slots _ (F0 m pc rl (aw_tr w (.inr a) :: st.map (aw_tr w)))
  rw [aw_tr_ref (by omega)]
  have h8' := aw_cats w st h8 m pc rl []
  refine W.objInit hE.1 hE.2.1 hE.2.2.2.2.2.2.1 (aw_word hw hE (List.mem_append_right _ hs) rfl) (aw_word hw hE (List.mem_append_right _ oi_1) rfl) (aw_word hw hE (List.mem_append_right _ oi_2) rfl) rfl (hL.1.trans hE.2.2.1.symm) rfl hd (by omega) ?_ (kk w p l e R s m args below meth c H locs cells slots rl hw hE hR hH hL (fun z hz => hst z (aw_1 z hz)) hlo)
  have e1 : 2 * (F0 m pc rl (.ref (aw_adr w a) :: st.map (aw_tr w))).monitorRoom + ((st.map (aw_tr w)).map fun v => v.category).sum ≤ 8 := h8'
  omega
theorem mm_1 : Cond.static Lib.Math.min.name ∈ tables_1 := by decide +kernel
theorem mm_2 : Cond.initialized "java/lang/Math" ∈ tables_1 := by decide +kernel
theorem mm_3 : Cond.code Lib.Math.min.name Lib.Math.min.code 2 (some .int) ∈ tables_1 := by decide +kernel
theorem AW.mmin (hd : decode M.2.1 pc = .ok (.invokestatic idx, 3)) (hs : Cond.methodLink M.1.cls idx Lib.Math.min.name ∈ tables_1) (h1 : 1 ≤ d) (h8 : st.length ≤ 8) (kk : AW d bc bs M Q (pc + 3) ls (.inl (if y < x then y else x) :: st) h) : AW d bc bs M Q pc ls (.inl y :: .inl x :: st) h := by
  intro w p l e R s m args below meth c H locs cells slots rl hw hE hR hH hL hst hlo
  have h8' := aw_cats w st h8 m pc rl []
  have e1 : 2 * 0 + ((st.map (aw_tr w)).map fun v => v.category).sum ≤ 8 := h8'
  have hk := kk w p l e R s m args below meth c H locs cells slots rl hw hE hR hH hL (fun z hz => by
    rcases List.mem_cons.mp hz with rfl | hz
    · show RI _
      split
      · exact ri_hd hst
      · exact ri_hd2 hst
    · exact hst z (aw_2 z hz)) hlo
  refine va_mmin hE.1 hE.2.1 (hE.2.2.1.trans hL.1.symm) hE.2.2.2.2.2.2.1 (aw_word hw hE (List.mem_append_right _ hs) rfl) (aw_word hw hE (List.mem_append_right _ mm_1) rfl) (aw_word hw hE (List.mem_append_right _ mm_2) rfl) (aw_word hw hE (List.mem_append_right _ mm_3) rfl) (by omega) (by omega) (by omega) (by omega) hd ?_
  have e2 : (if Int32.ofInt y < Int32.ofInt x then Int32.ofInt y else Int32.ofInt x) = Int32.ofInt (if y < x then y else x) := by
    by_cases q : y < x
    · rw [if_pos q, if_pos ((ri_lt (ri_hd hst) (ri_hd2 hst)).mpr q)]
    · rw [if_neg q, if_neg (fun z => q ((ri_lt (ri_hd hst) (ri_hd2 hst)).mp z))]
  rw [e2]
  exact hk
end Obj
end
section
section Cp
variable {d bc bs : Nat} {M : MT} {Q : Option AV → AH → Prop} {pc idx a b : Nat} {ls : List (Option AV)} {st : List AV} {h : AH} {x : Int}
theorem ay_1 : Cond.native arraycopyName ∈ tables_1 := by decide +kernel
theorem ay_2 : Cond.static arraycopyName ∈ tables_1 := by decide +kernel
theorem ay_3 : Cond.initialized "java/lang/System" ∈ tables_1 := by decide +kernel
theorem AW.arraycopy {n0 n1 : Nat} {f g : Nat → Int} (hd : decode M.2.1 pc = .ok (.invokestatic idx, 3)) (hs : Cond.methodLink M.1.cls idx arraycopyName ∈ tables_1) (h1 : 1 ≤ d) (h8 : st.length ≤ 8) (ha : h.2 a = .inr (n0, f)) (hb : h.2 b = .inr (n1, g)) (ha16 : 16 ≤ a) (hb16 : 16 ≤ b) (hx0 : 0 ≤ x) (hxa : x ≤ n0) (hxb : x ≤ n1)
    (kk : AW d bc bs M Q (pc + 3) ls st (hset h b (.inr (n1, fun k => if k < x.toNat then f k else g k)))) : AW d bc bs M Q pc ls (.inl x :: .inl 0 :: .inr b :: .inl 0 :: .inr a :: st) h := by
  intro w p l e R s m args below meth c H locs cells slots rl hw hE hR hH hL hst hlo
  have hrx : RI x := ri_hd hst
  have hc0 := aw_ints hH ha16 ha
  have hc1 := aw_ints hH hb16 hb
  have hK := aw_K hw hE
  have h8' := aw_cats w st h8 m pc rl []
  have e8 : 2 * 0 + ((st.map (aw_tr w)).map fun v => v.category).sum ≤ 8 := h8'
  show W p l e R s m args below meth c H locs cells slots _ (F0 m pc rl (.int (Int32.ofInt x) :: .int (Int32.ofInt 0) :: aw_tr w (.inr b) :: .int (Int32.ofInt 0) :: aw_tr w (.inr a) :: st.map (aw_tr w)))
  rw [aw_tr_ref (a := a) (by omega), aw_tr_ref (a := b) (by omega), ← ri_z]
  intro T hT X
  obtain ⟨-, k0, hk0, cm0, hkk0⟩ := (hK.2 0 _ rfl).1 n0 (fun j => .int (Int32.ofInt (f j)))
  obtain ⟨-, k1, hk1, cm1, hkk1⟩ := (hK.2 0 _ rfl).1 n1 (fun j => .int (Int32.ofInt (g j)))
  have hz : (0 : Int32).toNatClampNeg = 0 := rfl
  have hxn := ri_nat hrx
  have hxi := ri_back hrx
  obtain ⟨vm', X', step⟩ := X.arraycopy hE.1 hE.2.2.2.2.2.2.1 (aw_word hw hE (List.mem_append_right _ hs) rfl) (aw_word hw hE (List.mem_append_right _ ay_1) rfl) (aw_word hw hE (List.mem_append_right _ ay_2) rfl) (aw_word hw hE (List.mem_append_right _ ay_3) rfl) (src := aw_adr w a) (dst := aw_adr w b) (srcPos := 0) (destPos := 0) (n := Int32.ofInt x) (by rw [hT]; exact hc0) (by rw [hT]; exact hc1)
    (fun _ h => by cases h) (fun _ h => by cases h) (fun h => by cases h) (fun h => by cases h) hk0 hk1 hkk0 hkk1 (by simp [refKind]) (by decide) (by decide) (by rw [ri_z, ri_lt hrx ri_0]; omega)
    (by rw [hxi, arrV_size]; show ¬ (0 : Int) + x > _; omega)
    (by rw [hxi, arrV_size]; show ¬ (0 : Int) + x > _; omega)
    (fun vm₁ _ i hi => by
      rw [hxn] at hi
      have e : (arrV (w.2.2.2 0) n0 (fun j => .int (Int32.ofInt (f j)))).slots.getD ((0 : Int32).toNatClampNeg + i) .null = .int (Int32.ofInt (f i)) := by
        rw [hz, Nat.zero_add, Array.getD_eq_getD_getElem?, arrV_read _ _ (by omega)]
        rfl
      refine ⟨?_, ?_⟩
      · rw [e]
        rfl
      · rw [e]
        exact trivial)
    (g := F0 m pc rl (.int (Int32.ofInt x) :: .int 0 :: .ref (aw_adr w b) :: .int 0 :: .ref (aw_adr w a) :: st.map (aw_tr w))) rfl (hL.1.trans hE.2.2.1.symm) (rest := st.map (aw_tr w)) rfl (by rw [hE.2.1]; exact hd) (by omega) (by show 2 * 0 + _ + (7 + 11) ≤ _; omega)
  have e1 : copied (arrV (w.2.2.2 0) n0 (fun j => .int (Int32.ofInt (f j)))) (arrV (w.2.2.2 0) n1 (fun j => .int (Int32.ofInt (g j)))) 0 0 (Int32.ofInt x) = arrV (w.2.2.2 0) n1 (fun j => .int (Int32.ofInt (if j < x.toNat then f j else g j))) := by
    have e2 := va_copied (fun z : Int => Value.int (Int32.ofInt z)) (w.2.2.2 0) (w.2.2.2 0) (n0 := n0) (n1 := n1) (sp := (0 : Int32).toNatClampNeg) (dp := (0 : Int32).toNatClampNeg) (n := (Int32.ofInt x).toNatClampNeg) f g (by rw [hxn, hz]; omega)
    refine Eq.trans e2 ?_
    congr 1
    funext k
    rw [hxn, hz]
    simp [va_cpy]
  rw [e1] at X' step
  have hl : aw_adr w b < H.size := (Array.getElem?_eq_some_iff.mp hc1).1
  obtain ⟨t, a1, b1⟩ := kk w p l e R s m args below meth c (H.setIfInBounds (aw_adr w b) (arrV (w.2.2.2 0) n1 (fun j => .int (Int32.ofInt (if j < x.toNat then f j else g j))))) _ cells slots rl hw hE hR (aw_RH_set hH hb16 (aw_lt hH hb) (by simp) (fun q hq => by simp [Array.getElem?_setIfInBounds, Ne.symm hq]) (by
      show (H.setIfInBounds (aw_adr w b) _)[aw_adr w b]? = _
      simp [Array.getElem?_setIfInBounds, hl]) (fun j => by
      show RI (if j < x.toNat then f j else g j)
      have g1 := hH.2.2.2.2.2 a
      have g2 := hH.2.2.2.2.2 b
      rw [ha] at g1
      rw [hb] at g2
      split
      · exact g1 j
      · exact g2 j)) hL (fun z hz => hst z (by simp [hz])) (fun q hq => by
      rcases List.mem_append.mp hq with z | z
      · exact hlo q z
      · obtain ⟨y, -, hy⟩ := List.mem_map.mp z
        rw [← hy]
        show w.1.heap.size ≤ aw_adr w b
        rw [aw_adr_ge hb16]
        omega) _ (by rw [← hT]; rfl) X'
  exact ⟨t, step t a1, b1⟩
end Cp
/-! THE START -/
def rowOf (l : List Int) : Nat → Int := fun j => l.getD j 0
def h_start (L : Nat) (xs : Nat → Int) : AH := (0, fun a => if a = 1 then .inr (L, xs) else if a = 2 then .inr (10, rowOf [112, 113, 114, 65, 66, 67, 68, 110, 97, 111]) else if a = 3 then .inr (6, rowOf [112, 113, 114, 110, 97, 111]) else if a = 4 then .inr (3, rowOf [170, 204, 240]) else if a = 5 then .inr (10, rowOf [112, 113, 114, 65, 66, 67, 68, 110, 97, 111]) else .inl (0, []))
abbrev mt_law : MT := (yL_law, cL_law, 4, ret)
theorem sameButNew_fg {s t : State} {L : List Loc} {k n : Nat} (h : s.sameButNew t L k n) (hf : ∀ q ∈ L, s.heap.size ≤ q.base) : s.sameButNew t [] k n :=
  State.sameButNew.weaken h (fun y hy hlt => absurd hlt (Nat.not_lt.mpr (hf y hy))) (Nat.le_refl _) (Nat.le_refl _)
theorem st_arr {s : State} {b : Nat} {C : String} (h : (Cond.arrayOver (.object C)).before #[Value.ref b] s = true) : ∃ cA : ClassId, ArrOfT s cA (.object C) ∧ va_RA s cA (.object C) := by
  obtain ⟨comp, c, k, h1, -, h2, h3, h4⟩ := Cond.arrayOver_spec h
  exact ⟨c, fun n z => ⟨fun q hq => (by cases hq), k, h2, comp, h3⟩, k, comp, h2, h3, h1, h4⟩
theorem st_int {s : State} {b : Nat} (h : (Cond.arrayClass .int).before #[Value.ref b] s = true) : ∃ cA : ClassId, ArrOfT s cA .int ∧ va_RA s cA .int := by
  obtain ⟨c, k, comp, h1, h2, h3⟩ := Cond.arrayClass_spec h
  exact ⟨c, fun n z => ⟨fun q hq => (by cases hq), k, h2, comp, h3⟩, h1⟩
theorem st_stat {s : State} {b : Nat} {C n : String} {vs : List Int} (hl : (Cond.laysStatic C n "[I").before #[Value.ref b] s = true) (hini : (Cond.initialized C).before #[Value.ref b] s = true) (harr : (Cond.arrayOf (.static C n "[I") .int).before #[Value.ref b] s = true) (hvl : vs.length < 2147483648)
    (hlen : (Cond.eq (.length (.static C n "[I")) (.int (Int32.ofNat vs.length))).before #[Value.ref b] s = true) (hel : ∀ j : Nat, j < vs.length → (Cond.eq (.elem (.static C n "[I") (.int (Int32.ofNat j))) (.int (Int32.ofInt (rowOf vs j)))).before #[Value.ref b] s = true) :
    ∃ t : Nat, va_Z C n "[I" (.ref t) (fun q => s.heap.size ≤ q) s s.heap ∧ va_T .int t vs.length (fun j => .int (Int32.ofInt (rowOf vs j))) (fun q => s.heap.size ≤ q) s s.heap := by
  obtain ⟨t, h1, h2⟩ := va_Tof (A := fun q => s.heap.size ≤ q) (f := fun j => .int (Int32.ofInt (rowOf vs j))) (by omega) harr (va_eqt hlen) (fun j hj => va_eqt (hel j hj)) (fun a ha => Nat.not_le.mpr ha)
  exact ⟨t, va_Zref hl hini h1 (fun a ha => Nat.not_le.mpr ha), h2⟩
theorem st_10 {P : Nat → Prop} (h0 : P 0) (h1 : P 1) (h2 : P 2) (h3 : P 3) (h4 : P 4) (h5 : P 5) (h6 : P 6) (h7 : P 7) (h8 : P 8) (h9 : P 9) : ∀ j, j < 10 → P j := by
  intro j hj
  match j, hj with
  | 0, _ => exact h0
  | 1, _ => exact h1
  | 2, _ => exact h2
  | 3, _ => exact h3
  | 4, _ => exact h4
  | 5, _ => exact h5
  | 6, _ => exact h6
  | 7, _ => exact h7
  | 8, _ => exact h8
  | 9, _ => exact h9
theorem st_6 {P : Nat → Prop} (h0 : P 0) (h1 : P 1) (h2 : P 2) (h3 : P 3) (h4 : P 4) (h5 : P 5) : ∀ j, j < 6 → P j := by
  intro j hj
  match j, hj with
  | 0, _ => exact h0
  | 1, _ => exact h1
  | 2, _ => exact h2
  | 3, _ => exact h3
  | 4, _ => exact h4
  | 5, _ => exact h5
theorem st_3 {P : Nat → Prop} (h0 : P 0) (h1 : P 1) (h2 : P 2) : ∀ j, j < 3 → P j := by
  intro j hj
  match j, hj with
  | 0, _ => exact h0
  | 1, _ => exact h1
  | 2, _ => exact h2
theorem st_lw {w : Cond} (h : w ∈ tables_1) : w ∈ lw_tbl := List.mem_append_right _ h
set_option maxRecDepth 100000 in
set_option maxHeartbeats 8000000 in
theorem whole_open (hlaw : ∀ (L : Nat) (xs : Nat → Int), L ≤ 2560 → (∀ j, RI (xs j)) → AW 2048 600000 7302250 mt_law (fun r _ => r = some (.inl 1)) 0 [some (.inr 1), none, none, none] [] (h_start L xs)) {p : Program} {e : Env} {s : State} {m : MethodId} {below : List Frame} {meth : Method} {c : Code} (l : Launch) {b L : Nat} {xs : Nat → Int32} (hL : L ≤ 2560) (C0 : lw_At p s m meth c b L xs) :
    W p l e room_1 s m #[Value.ref b] below meth c s.heap [] 0 0 (lw_Z below #[Value.ref b] s) (entryFrame m ([Value.ref b] : List Value).toArray 4) := by
  obtain ⟨hx, hb, hr, hml, hown, hts, hX, hbl, hlocks, hgv⟩ := C0
  have hfl := flat_of_before _ hgv
  obtain ⟨cI, hI⟩ := st_int (hts _ (st_lw ac_int))
  obtain ⟨c1, h1⟩ := st_arr (C := "SaidShorter$Stranger") (hts _ (st_lw (by decide +kernel)))
  obtain ⟨c2, h2⟩ := st_arr (C := "SaidShorter$Saying") (hts _ (st_lw (by decide +kernel)))
  obtain ⟨c3, h3⟩ := st_arr (C := "SaidShorter$Fewest") (hts _ (st_lw (by decide +kernel)))
  obtain ⟨t2, z2, T2⟩ := st_stat (C := "SaidShorter") (n := "WORDS") (vs := [112, 113, 114, 65, 66, 67, 68, 110, 97, 111]) (hts _ (st_lw (by decide +kernel))) (hts _ (st_lw (by decide +kernel))) (hfl _ (by decide +kernel)) (by decide) (hfl _ (by decide +kernel)) (st_10 (hfl _ (by decide +kernel)) (hfl _ (by decide +kernel)) (hfl _ (by decide +kernel)) (hfl _ (by decide +kernel)) (hfl _ (by decide +kernel)) (hfl _ (by decide +kernel)) (hfl _ (by decide +kernel)) (hfl _ (by decide +kernel)) (hfl _ (by decide +kernel)) (hfl _ (by decide +kernel)))
  obtain ⟨t3, z3, T3⟩ := st_stat (C := "SaidShorter") (n := "DRAWN") (vs := [112, 113, 114, 110, 97, 111]) (hts _ (st_lw (by decide +kernel))) (hts _ (st_lw (by decide +kernel))) (hfl _ (by decide +kernel)) (by decide) (hfl _ (by decide +kernel)) (st_6 (hfl _ (by decide +kernel)) (hfl _ (by decide +kernel)) (hfl _ (by decide +kernel)) (hfl _ (by decide +kernel)) (hfl _ (by decide +kernel)) (hfl _ (by decide +kernel)))
  obtain ⟨t4, z4, T4⟩ := st_stat (C := "SaidShorter") (n := "FACT_MEANINGS") (vs := [170, 204, 240]) (hts _ (st_lw (by decide +kernel))) (hts _ (st_lw (by decide +kernel))) (hfl _ (by decide +kernel)) (by decide) (hfl _ (by decide +kernel)) (st_3 (hfl _ (by decide +kernel)) (hfl _ (by decide +kernel)) (hfl _ (by decide +kernel)))
  obtain ⟨t5, z5, T5⟩ := st_stat (C := "SaidShorterModel") (n := "LETTERS") (vs := [112, 113, 114, 65, 66, 67, 68, 110, 97, 111]) (hts _ (st_lw (by decide +kernel))) (hts _ (st_lw (by decide +kernel))) (hfl _ (by decide +kernel)) (by decide) (hfl _ (by decide +kernel)) (st_10 (hfl _ (by decide +kernel)) (hfl _ (by decide +kernel)) (hfl _ (by decide +kernel)) (hfl _ (by decide +kernel)) (hfl _ (by decide +kernel)) (hfl _ (by decide +kernel)) (hfl _ (by decide +kernel)) (hfl _ (by decide +kernel)) (hfl _ (by decide +kernel)) (hfl _ (by decide +kernel)))
  have hkn : ∀ k : Nat, ∃ (cC : ClassId) (iS : Nat → Nat), ∀ q : vw_C, vwCl[k]? = some q → u_Kn s q.1 q.2.1 q.2.2 cC iS := by
    intro k
    cases hq : vwCl[k]? with
    | none => exact ⟨0, fun _ => 0, fun q h => by cases h⟩
    | some q =>
      have hin := (cls_ok k q hq).1
      have hins : ∃ n, Cond.instantiable q.1 n ∈ tables_1 := by
        match k, hq with
        | 0, hq => cases hq; exact ⟨1, by decide +kernel⟩
        | 1, hq => cases hq; exact ⟨1, by decide +kernel⟩
        | 2, hq => cases hq; exact ⟨1, by decide +kernel⟩
        | 3, hq => cases hq; exact ⟨8, by decide +kernel⟩
        | 4, hq => cases hq; exact ⟨1, by decide +kernel⟩
        | 5, hq => cases hq; exact ⟨3, by decide +kernel⟩
        | 6, hq => cases hq; exact ⟨3, by decide +kernel⟩
        | 7, hq => cases hq; exact ⟨2, by decide +kernel⟩
        | 8, hq => cases hq; exact ⟨6, by decide +kernel⟩
        | 9, hq => cases hq; exact ⟨1, by decide +kernel⟩
        | 10, hq => cases hq; exact ⟨1, by decide +kernel⟩
        | 11, hq => cases hq; exact ⟨15, by decide +kernel⟩
        | 12, hq => cases hq; exact ⟨33, by decide +kernel⟩
        | k + 13, hq => simp [vwCl] at hq
      obtain ⟨n, hn⟩ := hins
      obtain ⟨cC, iS, hK⟩ := u_known (C := q.1) (T := q.2.1) (N := q.2.2) hts (fun w hw => (hin w hw).1) (hts _ (st_lw hn))
      exact ⟨cC, iS, fun q' h => by cases h; exact hK⟩
  let sa : Nat → Nat := fun k => if k = 1 then b else if k = 2 then t2 else if k = 3 then t3 else if k = 4 then t4 else t5
  let w : Om := (s, sa, (fun k => (hkn k).choose, fun k => (hkn k).choose_spec.choose), fun k => if k = 0 then cI else if k = 1 then c1 else if k = 2 then c2 else c3)
  have hw : aw_Wd w := by
    refine ⟨hts, ⟨fun k q hq => (hkn k).choose_spec.choose_spec q hq, fun k q hq => ?_⟩, fun k g1 g2 => ?_, fun k g1 g2 => ?_⟩
    · match k, hq with
      | 0, hq => cases hq; exact hI
      | 1, hq => cases hq; exact h1
      | 2, hq => cases hq; exact h2
      | 3, hq => cases hq; exact h3
      | k + 4, hq => simp [aw_tys] at hq
    · rcases (show k = 2 ∨ k = 3 ∨ k = 4 ∨ k = 5 by omega) with rfl | rfl | rfl | rfl
      · exact z2
      · exact z3
      · exact z4
      · exact z5
    · have hT : ∀ {t N : Nat} {f : Nat → Value}, va_T .int t N f (fun q => s.heap.size ≤ q) s s.heap → t < s.heap.size := fun h => by
        obtain ⟨cl0, q1, -⟩ := h
        exact (Array.getElem?_eq_some_iff.mp q1).1
      rcases (show k = 1 ∨ k = 2 ∨ k = 3 ∨ k = 4 ∨ k = 5 by omega) with rfl | rfl | rfl | rfl | rfl
      · exact hbl
      · exact hT T2
      · exact hT T3
      · exact hT T4
      · exact hT T5
  obtain ⟨scr, x1, x2, x3, x4, x5⟩ := hX
  have hL2 : (L : Int) < 2147483648 := by omega
  have hH : aw_RH w s.heap (h_start L (fun j => (xs j).toInt)) := by
    refine ⟨rfl, fun _ _ => rfl, fun a g1 g2 => ?_, fun a g => ?_, fun a g => ?_, fun a => ?_⟩
    · exact absurd g2 (by show ¬ a < 16 + 0; omega)
    · show (if a = 1 then _ else if a = 2 then _ else if a = 3 then _ else if a = 4 then _ else if a = 5 then _ else _ : AC) = _
      have g : 16 + 0 ≤ a := g
      rw [if_neg (by omega), if_neg (by omega), if_neg (by omega), if_neg (by omega), if_neg (by omega)]
    · by_cases q1 : a = 1
      · subst q1
        refine ⟨by decide, by decide, by omega, scr, x1, x2, x3, by omega, by rw [x4], fun j hj => ?_, Nat.not_le.mpr hbl⟩
        rw [x5 j hj]
        show some (Value.int (xs j)) = some (Value.int (Int32.ofInt (xs j).toInt))
        rw [Int32.ofInt_toInt]
      · by_cases q2 : a = 2
        · subst q2
          exact ⟨by decide, by decide, by decide, T2⟩
        · by_cases q3 : a = 3
          · subst q3
            exact ⟨by decide, by decide, by decide, T3⟩
          · by_cases q4 : a = 4
            · subst q4
              exact ⟨by decide, by decide, by decide, T4⟩
            · by_cases q5 : a = 5
              · subst q5
                exact ⟨by decide, by decide, by decide, T5⟩
              · have e : (h_start L (fun j => (xs j).toInt)).2 a = .inl (0, []) := by
                  show (if a = 1 then _ else if a = 2 then _ else if a = 3 then _ else if a = 4 then _ else if a = 5 then _ else _ : AC) = _
                  rw [if_neg q1, if_neg q2, if_neg q3, if_neg q4, if_neg q5]
                rw [e]
                rfl
    · have hro : ∀ (l : List Int), (∀ v ∈ l, RI v) → ∀ j, RI (rowOf l j) := fun l hl j => by
        unfold rowOf
        rw [List.getD_eq_getElem?_getD]
        cases hj : l[j]? with
        | none => exact ri_0
        | some v => exact hl v (List.mem_of_getElem? hj)
      have hri : ∀ l : List Int, (l.all fun v => decide (-2147483648 ≤ v) && decide (v < 2147483648)) = true → ∀ v ∈ l, RI v := fun l hl v hv => by
        have := List.all_eq_true.mp hl v hv
        simp only [Bool.and_eq_true, decide_eq_true_eq] at this
        exact this
      show aw_RC (if a = 1 then _ else if a = 2 then _ else if a = 3 then _ else if a = 4 then _ else if a = 5 then _ else _ : AC)
      split
      · exact fun j => ri_of _
      split
      · exact hro _ (hri _ (by decide))
      split
      · exact hro _ (hri _ (by decide))
      split
      · exact hro _ (hri _ (by decide))
      split
      · exact hro _ (hri _ (by decide))
      · exact fun v hv => by cases hv
  have hent : entryFrame m ([Value.ref b] : List Value).toArray 4 = F0 m 0 ((lg_sl ([(.inr 1 : AV)].map (aw_tr w)) ++ List.replicate (4 - (lg_sl ([(.inr 1 : AV)].map (aw_tr w))).length) Slot.unset).toArray) [] := lg_entry_eq m [Value.ref b] 4
  rw [hent]
  have hk := hlaw L (fun j => (xs j).toInt) hL (fun j => ri_of _) w p l e room_1 s m #[Value.ref b] below meth c s.heap [] 0 0 _ hw ⟨hx, hb, hml, hr, hlocks, fun hi => absurd hi (by decide), hown, State.WarmedH.refl s⟩ ⟨by decide, by decide, by decide, by decide⟩ hH (aw_entry (vs := [.inr 1]) (by decide) (fun v hv => by rw [List.mem_singleton.mp hv]; trivial)) (fun v hv => by cases hv) (fun q hq => by cases hq)
  intro T hT X
  obtain ⟨t, a1, o, b1, b2, ⟨r, h', hq, ho, -, -⟩, Lc, hF, hfr⟩ := hk T hT X
  subst hq
  refine ⟨t, a1, o, b1, b2, ho, hF.1, hF.2.1, sameButNew_fg hF.2.2 hfr⟩
end
section
abbrev mX0_init : MT := (yX0_init, cX0_init, 2, none)
theorem okX0_init : MOK mX0_init 1 := ⟨by decide, by decide, ⟨by decide, by decide⟩, by decide, List.mem_of_getElem? (i := 328) (by decide +kernel), (List.mem_of_getElem? (i := 12) (by decide +kernel))⟩
abbrev mX0_kind : MT := (yX0_kind, cX0_kind, 1, (some .int))
theorem okX0_kind : MOK mX0_kind 0 := ⟨by decide, by decide, ⟨by decide, by decide⟩, by decide, List.mem_of_getElem? (i := 461) (by decide +kernel), (List.mem_of_getElem? (i := 12) (by decide +kernel))⟩
abbrev mX0_and : MT := (yX0_and, cX0_and, 3, (some .int))
theorem okX0_and : MOK mX0_and 2 := ⟨by decide, by decide, ⟨by decide, by decide⟩, by decide, List.mem_of_getElem? (i := 401) (by decide +kernel), (List.mem_of_getElem? (i := 12) (by decide +kernel))⟩
abbrev mX0_andHasSides : MT := (yX0_andHasSides, cX0_andHasSides, 1, (some .boolean))
theorem okX0_andHasSides : MOK mX0_andHasSides 0 := ⟨by decide, by decide, ⟨by decide, by decide⟩, by decide, List.mem_of_getElem? (i := 597) (by decide +kernel), (List.mem_of_getElem? (i := 12) (by decide +kernel))⟩
abbrev mX1_init : MT := (yX1_init, cX1_init, 2, none)
theorem okX1_init : MOK mX1_init 1 := ⟨by decide, by decide, ⟨by decide, by decide⟩, by decide, List.mem_of_getElem? (i := 320) (by decide +kernel), (List.mem_of_getElem? (i := 11) (by decide +kernel))⟩
abbrev mX1_kind : MT := (yX1_kind, cX1_kind, 1, (some .int))
theorem okX1_kind : MOK mX1_kind 0 := ⟨by decide, by decide, ⟨by decide, by decide⟩, by decide, List.mem_of_getElem? (i := 464) (by decide +kernel), (List.mem_of_getElem? (i := 11) (by decide +kernel))⟩
abbrev mX1_not : MT := (yX1_not, cX1_not, 2, (some .int))
theorem okX1_not : MOK mX1_not 1 := ⟨by decide, by decide, ⟨by decide, by decide⟩, by decide, List.mem_of_getElem? (i := 381) (by decide +kernel), (List.mem_of_getElem? (i := 11) (by decide +kernel))⟩
abbrev mX2_init : MT := (yX2_init, cX2_init, 2, none)
theorem okX2_init : MOK mX2_init 1 := ⟨by decide, by decide, ⟨by decide, by decide⟩, by decide, List.mem_of_getElem? (i := 344) (by decide +kernel), (List.mem_of_getElem? (i := 14) (by decide +kernel))⟩
abbrev mX2_kind : MT := (yX2_kind, cX2_kind, 1, (some .int))
theorem okX2_kind : MOK mX2_kind 0 := ⟨by decide, by decide, ⟨by decide, by decide⟩, by decide, List.mem_of_getElem? (i := 467) (by decide +kernel), (List.mem_of_getElem? (i := 14) (by decide +kernel))⟩
abbrev mX2_not : MT := (yX2_not, cX2_not, 2, (some .int))
theorem okX2_not : MOK mX2_not 1 := ⟨by decide, by decide, ⟨by decide, by decide⟩, by decide, List.mem_of_getElem? (i := 384) (by decide +kernel), (List.mem_of_getElem? (i := 14) (by decide +kernel))⟩
abbrev mX3_init : MT := (yX3_init, cX3_init, 1, none)
theorem okX3_init : MOK mX3_init 0 := ⟨by decide, by decide, ⟨by decide, by decide⟩, by decide, List.mem_of_getElem? (i := 135) (by decide +kernel), (List.mem_of_getElem? (i := 8) (by decide +kernel))⟩
abbrev mX3_turnTo : MT := (yX3_turnTo, cX3_turnTo, 2, none)
theorem okX3_turnTo : MOK mX3_turnTo 1 := ⟨by decide, by decide, ⟨by decide, by decide⟩, by decide, List.mem_of_getElem? (i := 551) (by decide +kernel), (List.mem_of_getElem? (i := 8) (by decide +kernel))⟩
abbrev mX3_wordsFor : MT := (yX3_wordsFor, cX3_wordsFor, 4, (some .int))
theorem okX3_wordsFor : MOK mX3_wordsFor 1 := ⟨by decide, by decide, ⟨by decide, by decide⟩, by decide, List.mem_of_getElem? (i := 573) (by decide +kernel), (List.mem_of_getElem? (i := 8) (by decide +kernel))⟩
abbrev mX3_meaningsOfLength : MT := (yX3_meaningsOfLength, cX3_meaningsOfLength, 4, (some .int))
theorem okX3_meaningsOfLength : MOK mX3_meaningsOfLength 1 := ⟨by decide, by decide, ⟨by decide, by decide⟩, by decide, List.mem_of_getElem? (i := 621) (by decide +kernel), (List.mem_of_getElem? (i := 8) (by decide +kernel))⟩
abbrev mX3_farthestMeaning : MT := (yX3_farthestMeaning, cX3_farthestMeaning, 3, (some .int))
theorem okX3_farthestMeaning : MOK mX3_farthestMeaning 0 := ⟨by decide, by decide, ⟨by decide, by decide⟩, by decide, List.mem_of_getElem? (i := 629) (by decide +kernel), (List.mem_of_getElem? (i := 8) (by decide +kernel))⟩
abbrev mX3_isFor : MT := (yX3_isFor, cX3_isFor, 3, (some .boolean))
theorem okX3_isFor : MOK mX3_isFor 1 := ⟨by decide, by decide, ⟨by decide, by decide⟩, by decide, List.mem_of_getElem? (i := 555) (by decide +kernel), (List.mem_of_getElem? (i := 8) (by decide +kernel))⟩
abbrev mX3_isComplete : MT := (yX3_isComplete, cX3_isComplete, 1, (some .boolean))
theorem okX3_isComplete : MOK mX3_isComplete 0 := ⟨by decide, by decide, ⟨by decide, by decide⟩, by decide, List.mem_of_getElem? (i := 577) (by decide +kernel), (List.mem_of_getElem? (i := 8) (by decide +kernel))⟩
abbrev mX3_lookAtNextLength : MT := (yX3_lookAtNextLength, cX3_lookAtNextLength, 1, none)
theorem okX3_lookAtNextLength : MOK mX3_lookAtNextLength 0 := ⟨by decide, by decide, ⟨by decide, by decide⟩, by decide, List.mem_of_getElem? (i := 581) (by decide +kernel), (List.mem_of_getElem? (i := 8) (by decide +kernel))⟩
abbrev mX3_addLeaves : MT := (yX3_addLeaves, cX3_addLeaves, 2, none)
theorem okX3_addLeaves : MOK mX3_addLeaves 0 := ⟨by decide, by decide, ⟨by decide, by decide⟩, by decide, List.mem_of_getElem? (i := 564) (by decide +kernel), (List.mem_of_getElem? (i := 8) (by decide +kernel))⟩
abbrev mX3_addNots : MT := (yX3_addNots, cX3_addNots, 2, none)
theorem okX3_addNots : MOK mX3_addNots 0 := ⟨by decide, by decide, ⟨by decide, by decide⟩, by decide, List.mem_of_getElem? (i := 585) (by decide +kernel), (List.mem_of_getElem? (i := 8) (by decide +kernel))⟩
abbrev mX3_addJoined : MT := (yX3_addJoined, cX3_addJoined, 8, none)
theorem okX3_addJoined : MOK mX3_addJoined 0 := ⟨by decide, by decide, ⟨by decide, by decide⟩, by decide, List.mem_of_getElem? (i := 590) (by decide +kernel), (List.mem_of_getElem? (i := 8) (by decide +kernel))⟩
abbrev mX3_add : MT := (yX3_add, cX3_add, 3, none)
theorem okX3_add : MOK mX3_add 1 := ⟨by decide, by decide, ⟨by decide, by decide⟩, by decide, List.mem_of_getElem? (i := 569) (by decide +kernel), (List.mem_of_getElem? (i := 8) (by decide +kernel))⟩
abbrev mX4_init : MT := (yX4_init, cX4_init, 2, none)
theorem okX4_init : MOK mX4_init 1 := ⟨by decide, by decide, ⟨by decide, by decide⟩, by decide, List.mem_of_getElem? (i := 312) (by decide +kernel), (List.mem_of_getElem? (i := 10) (by decide +kernel))⟩
abbrev mX4_kind : MT := (yX4_kind, cX4_kind, 1, (some .int))
theorem okX4_kind : MOK mX4_kind 0 := ⟨by decide, by decide, ⟨by decide, by decide⟩, by decide, List.mem_of_getElem? (i := 470) (by decide +kernel), (List.mem_of_getElem? (i := 10) (by decide +kernel))⟩
abbrev mX4_or : MT := (yX4_or, cX4_or, 3, (some .int))
theorem okX4_or : MOK mX4_or 2 := ⟨by decide, by decide, ⟨by decide, by decide⟩, by decide, List.mem_of_getElem? (i := 416) (by decide +kernel), (List.mem_of_getElem? (i := 10) (by decide +kernel))⟩
abbrev mX5_init : MT := (yX5_init, cX5_init, 1, none)
theorem okX5_init : MOK mX5_init 0 := ⟨by decide, by decide, ⟨by decide, by decide⟩, by decide, List.mem_of_getElem? (i := 29) (by decide +kernel), (List.mem_of_getElem? (i := 2) (by decide +kernel))⟩
abbrev mX5_size : MT := (yX5_size, cX5_size, 1, (some .int))
theorem okX5_size : MOK mX5_size 0 := ⟨by decide, by decide, ⟨by decide, by decide⟩, by decide, List.mem_of_getElem? (i := 736) (by decide +kernel), (List.mem_of_getElem? (i := 2) (by decide +kernel))⟩
abbrev mX5_isFull : MT := (yX5_isFull, cX5_isFull, 1, (some .boolean))
theorem okX5_isFull : MOK mX5_isFull 0 := ⟨by decide, by decide, ⟨by decide, by decide⟩, by decide, List.mem_of_getElem? (i := 221) (by decide +kernel), (List.mem_of_getElem? (i := 2) (by decide +kernel))⟩
abbrev mX5_add : MT := (yX5_add, cX5_add, 2, (some .int))
theorem okX5_add : MOK mX5_add 1 := ⟨by decide, by decide, ⟨by decide, by decide⟩, by decide, List.mem_of_getElem? (i := 225) (by decide +kernel), (List.mem_of_getElem? (i := 2) (by decide +kernel))⟩
abbrev mX5_clear : MT := (yX5_clear, cX5_clear, 1, none)
theorem okX5_clear : MOK mX5_clear 0 := ⟨by decide, by decide, ⟨by decide, by decide⟩, by decide, List.mem_of_getElem? (i := 446) (by decide +kernel), (List.mem_of_getElem? (i := 2) (by decide +kernel))⟩
abbrev mX5_rewind : MT := (yX5_rewind, cX5_rewind, 1, none)
theorem okX5_rewind : MOK mX5_rewind 0 := ⟨by decide, by decide, ⟨by decide, by decide⟩, by decide, List.mem_of_getElem? (i := 280) (by decide +kernel), (List.mem_of_getElem? (i := 2) (by decide +kernel))⟩
abbrev mX5_place : MT := (yX5_place, cX5_place, 1, (some .int))
theorem okX5_place : MOK mX5_place 0 := ⟨by decide, by decide, ⟨by decide, by decide⟩, by decide, List.mem_of_getElem? (i := 285) (by decide +kernel), (List.mem_of_getElem? (i := 2) (by decide +kernel))⟩
abbrev mX5_haveMore : MT := (yX5_haveMore, cX5_haveMore, 1, (some .boolean))
theorem okX5_haveMore : MOK mX5_haveMore 0 := ⟨by decide, by decide, ⟨by decide, by decide⟩, by decide, List.mem_of_getElem? (i := 256) (by decide +kernel), (List.mem_of_getElem? (i := 2) (by decide +kernel))⟩
abbrev mX5_areWellFormed : MT := (yX5_areWellFormed, cX5_areWellFormed, 3, (some .boolean))
theorem okX5_areWellFormed : MOK mX5_areWellFormed 0 := ⟨by decide, by decide, ⟨by decide, by decide⟩, by decide, List.mem_of_getElem? (i := 233) (by decide +kernel), (List.mem_of_getElem? (i := 2) (by decide +kernel))⟩
abbrev mX5_next : MT := (yX5_next, cX5_next, 2, (some .int))
theorem okX5_next : MOK mX5_next 0 := ⟨by decide, by decide, ⟨by decide, by decide⟩, by decide, List.mem_of_getElem? (i := 293) (by decide +kernel), (List.mem_of_getElem? (i := 2) (by decide +kernel))⟩
abbrev mX5_nextDigit : MT := (yX5_nextDigit, cX5_nextDigit, 1, (some .int))
theorem okX5_nextDigit : MOK mX5_nextDigit 0 := ⟨by decide, by decide, ⟨by decide, by decide⟩, by decide, List.mem_of_getElem? (i := 297) (by decide +kernel), (List.mem_of_getElem? (i := 2) (by decide +kernel))⟩
abbrev mX5_nextName : MT := (yX5_nextName, cX5_nextName, 1, (some .int))
theorem okX5_nextName : MOK mX5_nextName 0 := ⟨by decide, by decide, ⟨by decide, by decide⟩, by decide, List.mem_of_getElem? (i := 360) (by decide +kernel), (List.mem_of_getElem? (i := 2) (by decide +kernel))⟩
abbrev mX5_readSaying : MT := (yX5_readSaying, cX5_readSaying, 5, none)
theorem okX5_readSaying : MOK mX5_readSaying 1 := ⟨by decide, by decide, ⟨by decide, by decide⟩, by decide, List.mem_of_getElem? (i := 351) (by decide +kernel), (List.mem_of_getElem? (i := 2) (by decide +kernel))⟩
abbrev mX5_here : MT := (yX5_here, cX5_here, 1, (some .int))
theorem okX5_here : MOK mX5_here 0 := ⟨by decide, by decide, ⟨by decide, by decide⟩, by decide, List.mem_of_getElem? (i := 241) (by decide +kernel), (List.mem_of_getElem? (i := 2) (by decide +kernel))⟩
abbrev mX5_passStatement : MT := (yX5_passStatement, cX5_passStatement, 1, (some .boolean))
theorem okX5_passStatement : MOK mX5_passStatement 0 := ⟨by decide, by decide, ⟨by decide, by decide⟩, by decide, List.mem_of_getElem? (i := 237) (by decide +kernel), (List.mem_of_getElem? (i := 2) (by decide +kernel))⟩
abbrev mX5_passWithin : MT := (yX5_passWithin, cX5_passWithin, 4, (some .boolean))
theorem okX5_passWithin : MOK mX5_passWithin 2 := ⟨by decide, by decide, ⟨by decide, by decide⟩, by decide, List.mem_of_getElem? (i := 245) (by decide +kernel), (List.mem_of_getElem? (i := 2) (by decide +kernel))⟩
abbrev mX5_passSaying : MT := (yX5_passSaying, cX5_passSaying, 4, (some .boolean))
theorem okX5_passSaying : MOK mX5_passSaying 0 := ⟨by decide, by decide, ⟨by decide, by decide⟩, by decide, List.mem_of_getElem? (i := 249) (by decide +kernel), (List.mem_of_getElem? (i := 2) (by decide +kernel))⟩
abbrev mX6_init : MT := (yX6_init, cX6_init, 1, none)
theorem okX6_init : MOK mX6_init 0 := ⟨by decide, by decide, ⟨by decide, by decide⟩, by decide, List.mem_of_getElem? (i := 114) (by decide +kernel), (List.mem_of_getElem? (i := 7) (by decide +kernel))⟩
abbrev mX6_become : MT := (yX6_become, cX6_become, 5, none)
theorem okX6_become : MOK mX6_become 3 := ⟨by decide, by decide, ⟨by decide, by decide⟩, by decide, List.mem_of_getElem? (i := 364) (by decide +kernel), (List.mem_of_getElem? (i := 7) (by decide +kernel))⟩
abbrev mX6_knowInMind : MT := (yX6_knowInMind, cX6_knowInMind, 2, none)
theorem okX6_knowInMind : MOK mX6_knowInMind 1 := ⟨by decide, by decide, ⟨by decide, by decide⟩, by decide, List.mem_of_getElem? (i := 641) (by decide +kernel), (List.mem_of_getElem? (i := 7) (by decide +kernel))⟩
abbrev mX6_meaningOf : MT := (yX6_meaningOf, cX6_meaningOf, 4, (some .int))
theorem okX6_meaningOf : MOK mX6_meaningOf 1 := ⟨by decide, by decide, ⟨by decide, by decide⟩, by decide, List.mem_of_getElem? (i := 368) (by decide +kernel), (List.mem_of_getElem? (i := 7) (by decide +kernel))⟩
abbrev mX6_hear : MT := (yX6_hear, cX6_hear, 6, (some .int))
theorem okX6_hear : MOK mX6_hear 2 := ⟨by decide, by decide, ⟨by decide, by decide⟩, by decide, List.mem_of_getElem? (i := 372) (by decide +kernel), (List.mem_of_getElem? (i := 7) (by decide +kernel))⟩
abbrev mX6_meaningOfLeaf : MT := (yX6_meaningOfLeaf, cX6_meaningOfLeaf, 4, (some .int))
theorem okX6_meaningOfLeaf : MOK mX6_meaningOfLeaf 1 := ⟨by decide, by decide, ⟨by decide, by decide⟩, by decide, List.mem_of_getElem? (i := 428) (by decide +kernel), (List.mem_of_getElem? (i := 7) (by decide +kernel))⟩
abbrev mX7_init : MT := (yX7_init, cX7_init, 1, none)
theorem okX7_init : MOK mX7_init 0 := ⟨by decide, by decide, ⟨by decide, by decide⟩, by decide, List.mem_of_getElem? (i := 55) (by decide +kernel), (List.mem_of_getElem? (i := 4) (by decide +kernel))⟩
abbrev mX7_partsOf : MT := (yX7_partsOf, cX7_partsOf, 1, (some .int))
theorem okX7_partsOf : MOK mX7_partsOf 1 := ⟨by decide, by decide, ⟨by decide, by decide⟩, by decide, List.mem_of_getElem? (i := 252) (by decide +kernel), (List.mem_of_getElem? (i := 4) (by decide +kernel))⟩
abbrev mX7_add : MT := (yX7_add, cX7_add, 2, none)
theorem okX7_add : MOK mX7_add 1 := ⟨by decide, by decide, ⟨by decide, by decide⟩, by decide, List.mem_of_getElem? (i := 276) (by decide +kernel), (List.mem_of_getElem? (i := 4) (by decide +kernel))⟩
abbrev mX7_copy : MT := (yX7_copy, cX7_copy, 2, none)
theorem okX7_copy : MOK mX7_copy 1 := ⟨by decide, by decide, ⟨by decide, by decide⟩, by decide, List.mem_of_getElem? (i := 268) (by decide +kernel), (List.mem_of_getElem? (i := 4) (by decide +kernel))⟩
abbrev mX7_copyWithPartAlone : MT := (yX7_copyWithPartAlone, cX7_copyWithPartAlone, 6, none)
theorem okX7_copyWithPartAlone : MOK mX7_copyWithPartAlone 3 := ⟨by decide, by decide, ⟨by decide, by decide⟩, by decide, List.mem_of_getElem? (i := 654) (by decide +kernel), (List.mem_of_getElem? (i := 4) (by decide +kernel))⟩
abbrev mX7_addFrom : MT := (yX7_addFrom, cX7_addFrom, 5, none)
theorem okX7_addFrom : MOK mX7_addFrom 3 := ⟨by decide, by decide, ⟨by decide, by decide⟩, by decide, List.mem_of_getElem? (i := 272) (by decide +kernel), (List.mem_of_getElem? (i := 4) (by decide +kernel))⟩
abbrev mX7_behind : MT := (yX7_behind, cX7_behind, 4, (some .int))
theorem okX7_behind : MOK mX7_behind 1 := ⟨by decide, by decide, ⟨by decide, by decide⟩, by decide, List.mem_of_getElem? (i := 658) (by decide +kernel), (List.mem_of_getElem? (i := 4) (by decide +kernel))⟩
abbrev mX8_init : MT := (yX8_init, cX8_init, 2, none)
theorem okX8_init : MOK mX8_init 0 := ⟨by decide, by decide, ⟨by decide, by decide⟩, by decide, List.mem_of_getElem? (i := 46) (by decide +kernel), (List.mem_of_getElem? (i := 3) (by decide +kernel))⟩
abbrev mX8_copy : MT := (yX8_copy, cX8_copy, 3, none)
theorem okX8_copy : MOK mX8_copy 1 := ⟨by decide, by decide, ⟨by decide, by decide⟩, by decide, List.mem_of_getElem? (i := 264) (by decide +kernel), (List.mem_of_getElem? (i := 3) (by decide +kernel))⟩
abbrev mX8_addStranger : MT := (yX8_addStranger, cX8_addStranger, 4, (some .boolean))
theorem okX8_addStranger : MOK mX8_addStranger 2 := ⟨by decide, by decide, ⟨by decide, by decide⟩, by decide, List.mem_of_getElem? (i := 302) (by decide +kernel), (List.mem_of_getElem? (i := 3) (by decide +kernel))⟩
abbrev mX8_addScholar : MT := (yX8_addScholar, cX8_addScholar, 2, (some .boolean))
theorem okX8_addScholar : MOK mX8_addScholar 1 := ⟨by decide, by decide, ⟨by decide, by decide⟩, by decide, List.mem_of_getElem? (i := 356) (by decide +kernel), (List.mem_of_getElem? (i := 3) (by decide +kernel))⟩
abbrev mX8_coinName : MT := (yX8_coinName, cX8_coinName, 3, (some .boolean))
theorem okX8_coinName : MOK mX8_coinName 2 := ⟨by decide, by decide, ⟨by decide, by decide⟩, by decide, List.mem_of_getElem? (i := 437) (by decide +kernel), (List.mem_of_getElem? (i := 3) (by decide +kernel))⟩
abbrev mX8_turnLearnt : MT := (yX8_turnLearnt, cX8_turnLearnt, 3, (some .boolean))
theorem okX8_turnLearnt : MOK mX8_turnLearnt 2 := ⟨by decide, by decide, ⟨by decide, by decide⟩, by decide, List.mem_of_getElem? (i := 442) (by decide +kernel), (List.mem_of_getElem? (i := 3) (by decide +kernel))⟩
abbrev mX8_coinedCount : MT := (yX8_coinedCount, cX8_coinedCount, 3, (some .int))
theorem okX8_coinedCount : MOK mX8_coinedCount 0 := ⟨by decide, by decide, ⟨by decide, by decide⟩, by decide, List.mem_of_getElem? (i := 728) (by decide +kernel), (List.mem_of_getElem? (i := 3) (by decide +kernel))⟩
abbrev mX8_lengths : MT := (yX8_lengths, cX8_lengths, 3, (some .int))
theorem okX8_lengths : MOK mX8_lengths 0 := ⟨by decide, by decide, ⟨by decide, by decide⟩, by decide, List.mem_of_getElem? (i := 732) (by decide +kernel), (List.mem_of_getElem? (i := 3) (by decide +kernel))⟩
abbrev mX9_init : MT := (yX9_init, cX9_init, 2, none)
theorem okX9_init : MOK mX9_init 1 := ⟨by decide, by decide, ⟨by decide, by decide⟩, by decide, List.mem_of_getElem? (i := 336) (by decide +kernel), (List.mem_of_getElem? (i := 13) (by decide +kernel))⟩
abbrev mX9_kind : MT := (yX9_kind, cX9_kind, 1, (some .int))
theorem okX9_kind : MOK mX9_kind 0 := ⟨by decide, by decide, ⟨by decide, by decide⟩, by decide, List.mem_of_getElem? (i := 473) (by decide +kernel), (List.mem_of_getElem? (i := 13) (by decide +kernel))⟩
abbrev mX9_or : MT := (yX9_or, cX9_or, 3, (some .int))
theorem okX9_or : MOK mX9_or 2 := ⟨by decide, by decide, ⟨by decide, by decide⟩, by decide, List.mem_of_getElem? (i := 419) (by decide +kernel), (List.mem_of_getElem? (i := 13) (by decide +kernel))⟩
abbrev mX10_init : MT := (yX10_init, cX10_init, 2, none)
theorem okX10_init : MOK mX10_init 1 := ⟨by decide, by decide, ⟨by decide, by decide⟩, by decide, List.mem_of_getElem? (i := 102) (by decide +kernel), (List.mem_of_getElem? (i := 6) (by decide +kernel))⟩
abbrev mX10_ofKind : MT := (yX10_ofKind, cX10_ofKind, 2, (some (.object "SaidShorter$Stranger")))
theorem okX10_ofKind : MOK mX10_ofKind 2 := ⟨by decide, by decide, ⟨by decide, by decide⟩, by decide, List.mem_of_getElem? (i := 305) (by decide +kernel), (List.mem_of_getElem? (i := 6) (by decide +kernel))⟩
abbrev mX10_kind : MT := (yX10_kind, cX10_kind, 1, (some .int))
theorem okX10_kind : MOK mX10_kind 0 := ⟨by decide, by decide, ⟨by decide, by decide⟩, by decide, List.mem_of_getElem? (i := 474) (by decide +kernel), (List.mem_of_getElem? (i := 6) (by decide +kernel))⟩
abbrev mX10_not : MT := (yX10_not, cX10_not, 2, (some .int))
theorem okX10_not : MOK mX10_not 1 := ⟨by decide, by decide, ⟨by decide, by decide⟩, by decide, List.mem_of_getElem? (i := 394) (by decide +kernel), (List.mem_of_getElem? (i := 6) (by decide +kernel))⟩
abbrev mX10_and : MT := (yX10_and, cX10_and, 3, (some .int))
theorem okX10_and : MOK mX10_and 2 := ⟨by decide, by decide, ⟨by decide, by decide⟩, by decide, List.mem_of_getElem? (i := 406) (by decide +kernel), (List.mem_of_getElem? (i := 6) (by decide +kernel))⟩
abbrev mX10_andHasSides : MT := (yX10_andHasSides, cX10_andHasSides, 1, (some .boolean))
theorem okX10_andHasSides : MOK mX10_andHasSides 0 := ⟨by decide, by decide, ⟨by decide, by decide⟩, by decide, List.mem_of_getElem? (i := 602) (by decide +kernel), (List.mem_of_getElem? (i := 6) (by decide +kernel))⟩
abbrev mX10_or : MT := (yX10_or, cX10_or, 3, (some .int))
theorem okX10_or : MOK mX10_or 2 := ⟨by decide, by decide, ⟨by decide, by decide⟩, by decide, List.mem_of_getElem? (i := 424) (by decide +kernel), (List.mem_of_getElem? (i := 6) (by decide +kernel))⟩
abbrev mX10_worldOfFigure : MT := (yX10_worldOfFigure, cX10_worldOfFigure, 1, (some .int))
theorem okX10_worldOfFigure : MOK mX10_worldOfFigure 0 := ⟨by decide, by decide, ⟨by decide, by decide⟩, by decide, List.mem_of_getElem? (i := 391) (by decide +kernel), (List.mem_of_getElem? (i := 6) (by decide +kernel))⟩
abbrev mX11_init : MT := (yX11_init, cX11_init, 2, none)
theorem okX11_init : MOK mX11_init 0 := ⟨by decide, by decide, ⟨by decide, by decide⟩, by decide, List.mem_of_getElem? (i := 21) (by decide +kernel), (List.mem_of_getElem? (i := 1) (by decide +kernel))⟩
abbrev mX11_feed : MT := (yX11_feed, cX11_feed, 2, (some .int))
theorem okX11_feed : MOK mX11_feed 1 := ⟨by decide, by decide, ⟨by decide, by decide⟩, by decide, List.mem_of_getElem? (i := 213) (by decide +kernel), (List.mem_of_getElem? (i := 1) (by decide +kernel))⟩
abbrev mX11_school : MT := (yX11_school, cX11_school, 2, (some .int))
theorem okX11_school : MOK mX11_school 0 := ⟨by decide, by decide, ⟨by decide, by decide⟩, by decide, List.mem_of_getElem? (i := 229) (by decide +kernel), (List.mem_of_getElem? (i := 1) (by decide +kernel))⟩
abbrev mX11_stranger : MT := (yX11_stranger, cX11_stranger, 3, (some .int))
theorem okX11_stranger : MOK mX11_stranger 2 := ⟨by decide, by decide, ⟨by decide, by decide⟩, by decide, List.mem_of_getElem? (i := 450) (by decide +kernel), (List.mem_of_getElem? (i := 1) (by decide +kernel))⟩
abbrev mX11_learn : MT := (yX11_learn, cX11_learn, 5, (some .int))
theorem okX11_learn : MOK mX11_learn 3 := ⟨by decide, by decide, ⟨by decide, by decide⟩, by decide, List.mem_of_getElem? (i := 478) (by decide +kernel), (List.mem_of_getElem? (i := 1) (by decide +kernel))⟩
abbrev mX11_name : MT := (yX11_name, cX11_name, 2, (some .int))
theorem okX11_name : MOK mX11_name 1 := ⟨by decide, by decide, ⟨by decide, by decide⟩, by decide, List.mem_of_getElem? (i := 483) (by decide +kernel), (List.mem_of_getElem? (i := 1) (by decide +kernel))⟩
abbrev mX11_coin : MT := (yX11_coin, cX11_coin, 4, (some .int))
theorem okX11_coin : MOK mX11_coin 2 := ⟨by decide, by decide, ⟨by decide, by decide⟩, by decide, List.mem_of_getElem? (i := 487) (by decide +kernel), (List.mem_of_getElem? (i := 1) (by decide +kernel))⟩
abbrev mX11_saying : MT := (yX11_saying, cX11_saying, 4, (some .int))
theorem okX11_saying : MOK mX11_saying 2 := ⟨by decide, by decide, ⟨by decide, by decide⟩, by decide, List.mem_of_getElem? (i := 491) (by decide +kernel), (List.mem_of_getElem? (i := 1) (by decide +kernel))⟩
abbrev mX11_leave : MT := (yX11_leave, cX11_leave, 1, (some .int))
theorem okX11_leave : MOK mX11_leave 0 := ⟨by decide, by decide, ⟨by decide, by decide⟩, by decide, List.mem_of_getElem? (i := 499) (by decide +kernel), (List.mem_of_getElem? (i := 1) (by decide +kernel))⟩
abbrev mX11_concludes : MT := (yX11_concludes, cX11_concludes, 3, (some .int))
theorem okX11_concludes : MOK mX11_concludes 2 := ⟨by decide, by decide, ⟨by decide, by decide⟩, by decide, List.mem_of_getElem? (i := 503) (by decide +kernel), (List.mem_of_getElem? (i := 1) (by decide +kernel))⟩
abbrev mX11_parts : MT := (yX11_parts, cX11_parts, 6, (some .int))
theorem okX11_parts : MOK mX11_parts 3 := ⟨by decide, by decide, ⟨by decide, by decide⟩, by decide, List.mem_of_getElem? (i := 519) (by decide +kernel), (List.mem_of_getElem? (i := 1) (by decide +kernel))⟩
abbrev mX11_won : MT := (yX11_won, cX11_won, 5, (some .int))
theorem okX11_won : MOK mX11_won 2 := ⟨by decide, by decide, ⟨by decide, by decide⟩, by decide, List.mem_of_getElem? (i := 523) (by decide +kernel), (List.mem_of_getElem? (i := 1) (by decide +kernel))⟩
abbrev mX11_masters : MT := (yX11_masters, cX11_masters, 4, (some .int))
theorem okX11_masters : MOK mX11_masters 1 := ⟨by decide, by decide, ⟨by decide, by decide⟩, by decide, List.mem_of_getElem? (i := 535) (by decide +kernel), (List.mem_of_getElem? (i := 1) (by decide +kernel))⟩
abbrev mX11_shortest : MT := (yX11_shortest, cX11_shortest, 3, (some .int))
theorem okX11_shortest : MOK mX11_shortest 2 := ⟨by decide, by decide, ⟨by decide, by decide⟩, by decide, List.mem_of_getElem? (i := 543) (by decide +kernel), (List.mem_of_getElem? (i := 1) (by decide +kernel))⟩
abbrev mX11_cut : MT := (yX11_cut, cX11_cut, 5, (some .int))
theorem okX11_cut : MOK mX11_cut 2 := ⟨by decide, by decide, ⟨by decide, by decide⟩, by decide, List.mem_of_getElem? (i := 608) (by decide +kernel), (List.mem_of_getElem? (i := 1) (by decide +kernel))⟩
abbrev mX11_many : MT := (yX11_many, cX11_many, 3, (some .int))
theorem okX11_many : MOK mX11_many 2 := ⟨by decide, by decide, ⟨by decide, by decide⟩, by decide, List.mem_of_getElem? (i := 617) (by decide +kernel), (List.mem_of_getElem? (i := 1) (by decide +kernel))⟩
abbrev mX11_farthest : MT := (yX11_farthest, cX11_farthest, 5, (some .int))
theorem okX11_farthest : MOK mX11_farthest 2 := ⟨by decide, by decide, ⟨by decide, by decide⟩, by decide, List.mem_of_getElem? (i := 625) (by decide +kernel), (List.mem_of_getElem? (i := 1) (by decide +kernel))⟩
abbrev mX11_saves : MT := (yX11_saves, cX11_saves, 5, (some .int))
theorem okX11_saves : MOK mX11_saves 2 := ⟨by decide, by decide, ⟨by decide, by decide⟩, by decide, List.mem_of_getElem? (i := 633) (by decide +kernel), (List.mem_of_getElem? (i := 1) (by decide +kernel))⟩
abbrev mX11_joined : MT := (yX11_joined, cX11_joined, 8, (some .int))
theorem okX11_joined : MOK mX11_joined 3 := ⟨by decide, by decide, ⟨by decide, by decide⟩, by decide, List.mem_of_getElem? (i := 645) (by decide +kernel), (List.mem_of_getElem? (i := 1) (by decide +kernel))⟩
abbrev mX11_drops : MT := (yX11_drops, cX11_drops, 11, (some .int))
theorem okX11_drops : MOK mX11_drops 3 := ⟨by decide, by decide, ⟨by decide, by decide⟩, by decide, List.mem_of_getElem? (i := 649) (by decide +kernel), (List.mem_of_getElem? (i := 1) (by decide +kernel))⟩
abbrev mX11_heard : MT := (yX11_heard, cX11_heard, 9, (some .int))
theorem okX11_heard : MOK mX11_heard 4 := ⟨by decide, by decide, ⟨by decide, by decide⟩, by decide, List.mem_of_getElem? (i := 666) (by decide +kernel), (List.mem_of_getElem? (i := 1) (by decide +kernel))⟩
abbrev mX11_unlike : MT := (yX11_unlike, cX11_unlike, 4, (some .int))
theorem okX11_unlike : MOK mX11_unlike 1 := ⟨by decide, by decide, ⟨by decide, by decide⟩, by decide, List.mem_of_getElem? (i := 673) (by decide +kernel), (List.mem_of_getElem? (i := 1) (by decide +kernel))⟩
abbrev mX11_agree : MT := (yX11_agree, cX11_agree, 4, (some .int))
theorem okX11_agree : MOK mX11_agree 0 := ⟨by decide, by decide, ⟨by decide, by decide⟩, by decide, List.mem_of_getElem? (i := 681) (by decide +kernel), (List.mem_of_getElem? (i := 1) (by decide +kernel))⟩
abbrev mX11_row : MT := (yX11_row, cX11_row, 2, (some .int))
theorem okX11_row : MOK mX11_row 1 := ⟨by decide, by decide, ⟨by decide, by decide⟩, by decide, List.mem_of_getElem? (i := 689) (by decide +kernel), (List.mem_of_getElem? (i := 1) (by decide +kernel))⟩
abbrev mX11_judge : MT := (yX11_judge, cX11_judge, 5, (some .int))
theorem okX11_judge : MOK mX11_judge 1 := ⟨by decide, by decide, ⟨by decide, by decide⟩, by decide, List.mem_of_getElem? (i := 693) (by decide +kernel), (List.mem_of_getElem? (i := 1) (by decide +kernel))⟩
abbrev mX11_seeds : MT := (yX11_seeds, cX11_seeds, 8, (some .int))
theorem okX11_seeds : MOK mX11_seeds 4 := ⟨by decide, by decide, ⟨by decide, by decide⟩, by decide, List.mem_of_getElem? (i := 697) (by decide +kernel), (List.mem_of_getElem? (i := 1) (by decide +kernel))⟩
abbrev mX11_image : MT := (yX11_image, cX11_image, 1, (some .int))
theorem okX11_image : MOK mX11_image 0 := ⟨by decide, by decide, ⟨by decide, by decide⟩, by decide, List.mem_of_getElem? (i := 716) (by decide +kernel), (List.mem_of_getElem? (i := 1) (by decide +kernel))⟩
abbrev mX11_restore : MT := (yX11_restore, cX11_restore, 1, (some .int))
theorem okX11_restore : MOK mX11_restore 0 := ⟨by decide, by decide, ⟨by decide, by decide⟩, by decide, List.mem_of_getElem? (i := 720) (by decide +kernel), (List.mem_of_getElem? (i := 1) (by decide +kernel))⟩
abbrev mX11_count : MT := (yX11_count, cX11_count, 2, (some .int))
theorem okX11_count : MOK mX11_count 1 := ⟨by decide, by decide, ⟨by decide, by decide⟩, by decide, List.mem_of_getElem? (i := 724) (by decide +kernel), (List.mem_of_getElem? (i := 1) (by decide +kernel))⟩
abbrev mX11_refusalsCounted : MT := (yX11_refusalsCounted, cX11_refusalsCounted, 2, (some .int))
theorem okX11_refusalsCounted : MOK mX11_refusalsCounted 1 := ⟨by decide, by decide, ⟨by decide, by decide⟩, by decide, List.mem_of_getElem? (i := 740) (by decide +kernel), (List.mem_of_getElem? (i := 1) (by decide +kernel))⟩
abbrev mX11_refused : MT := (yX11_refused, cX11_refused, 2, (some .int))
theorem okX11_refused : MOK mX11_refused 1 := ⟨by decide, by decide, ⟨by decide, by decide⟩, by decide, List.mem_of_getElem? (i := 217) (by decide +kernel), (List.mem_of_getElem? (i := 1) (by decide +kernel))⟩
abbrev mX11_refusedFarOff : MT := (yX11_refusedFarOff, cX11_refusedFarOff, 2, (some .int))
theorem okX11_refusedFarOff : MOK mX11_refusedFarOff 1 := ⟨by decide, by decide, ⟨by decide, by decide⟩, by decide, List.mem_of_getElem? (i := 612) (by decide +kernel), (List.mem_of_getElem? (i := 1) (by decide +kernel))⟩
abbrev mX11_noStranger : MT := (yX11_noStranger, cX11_noStranger, 2, (some .boolean))
theorem okX11_noStranger : MOK mX11_noStranger 1 := ⟨by decide, by decide, ⟨by decide, by decide⟩, by decide, List.mem_of_getElem? (i := 454) (by decide +kernel), (List.mem_of_getElem? (i := 1) (by decide +kernel))⟩
abbrev mX11_noListener : MT := (yX11_noListener, cX11_noListener, 2, (some .boolean))
theorem okX11_noListener : MOK mX11_noListener 1 := ⟨by decide, by decide, ⟨by decide, by decide⟩, by decide, List.mem_of_getElem? (i := 507) (by decide +kernel), (List.mem_of_getElem? (i := 1) (by decide +kernel))⟩
abbrev mX11_noScholar : MT := (yX11_noScholar, cX11_noScholar, 2, (some .boolean))
theorem okX11_noScholar : MOK mX11_noScholar 1 := ⟨by decide, by decide, ⟨by decide, by decide⟩, by decide, List.mem_of_getElem? (i := 495) (by decide +kernel), (List.mem_of_getElem? (i := 1) (by decide +kernel))⟩
abbrev mX11_noName : MT := (yX11_noName, cX11_noName, 1, (some .boolean))
theorem okX11_noName : MOK mX11_noName 1 := ⟨by decide, by decide, ⟨by decide, by decide⟩, by decide, List.mem_of_getElem? (i := 433) (by decide +kernel), (List.mem_of_getElem? (i := 1) (by decide +kernel))⟩
abbrev mX11_listenAs : MT := (yX11_listenAs, cX11_listenAs, 2, none)
theorem okX11_listenAs : MOK mX11_listenAs 1 := ⟨by decide, by decide, ⟨by decide, by decide⟩, by decide, List.mem_of_getElem? (i := 511) (by decide +kernel), (List.mem_of_getElem? (i := 1) (by decide +kernel))⟩
abbrev mX11_meaningOf : MT := (yX11_meaningOf, cX11_meaningOf, 2, (some .int))
theorem okX11_meaningOf : MOK mX11_meaningOf 1 := ⟨by decide, by decide, ⟨by decide, by decide⟩, by decide, List.mem_of_getElem? (i := 515) (by decide +kernel), (List.mem_of_getElem? (i := 1) (by decide +kernel))⟩
abbrev mX11_concludeAllAs : MT := (yX11_concludeAllAs, cX11_concludeAllAs, 3, none)
theorem okX11_concludeAllAs : MOK mX11_concludeAllAs 1 := ⟨by decide, by decide, ⟨by decide, by decide⟩, by decide, List.mem_of_getElem? (i := 527) (by decide +kernel), (List.mem_of_getElem? (i := 1) (by decide +kernel))⟩
abbrev mX11_beats : MT := (yX11_beats, cX11_beats, 3, (some .boolean))
theorem okX11_beats : MOK mX11_beats 2 := ⟨by decide, by decide, ⟨by decide, by decide⟩, by decide, List.mem_of_getElem? (i := 531) (by decide +kernel), (List.mem_of_getElem? (i := 1) (by decide +kernel))⟩
abbrev mX11_isBeaten : MT := (yX11_isBeaten, cX11_isBeaten, 3, (some .boolean))
theorem okX11_isBeaten : MOK mX11_isBeaten 1 := ⟨by decide, by decide, ⟨by decide, by decide⟩, by decide, List.mem_of_getElem? (i := 539) (by decide +kernel), (List.mem_of_getElem? (i := 1) (by decide +kernel))⟩
abbrev mX11_fewestFor : MT := (yX11_fewestFor, cX11_fewestFor, 3, (some (.object "SaidShorter$Fewest")))
theorem okX11_fewestFor : MOK mX11_fewestFor 1 := ⟨by decide, by decide, ⟨by decide, by decide⟩, by decide, List.mem_of_getElem? (i := 547) (by decide +kernel), (List.mem_of_getElem? (i := 1) (by decide +kernel))⟩
abbrev mX11_wordsSavedBy : MT := (yX11_wordsSavedBy, cX11_wordsSavedBy, 7, (some .int))
theorem okX11_wordsSavedBy : MOK mX11_wordsSavedBy 2 := ⟨by decide, by decide, ⟨by decide, by decide⟩, by decide, List.mem_of_getElem? (i := 637) (by decide +kernel), (List.mem_of_getElem? (i := 1) (by decide +kernel))⟩
abbrev mX11_isConcludedBefore : MT := (yX11_isConcludedBefore, cX11_isConcludedBefore, 5, (some .boolean))
theorem okX11_isConcludedBefore : MOK mX11_isConcludedBefore 2 := ⟨by decide, by decide, ⟨by decide, by decide⟩, by decide, List.mem_of_getElem? (i := 677) (by decide +kernel), (List.mem_of_getElem? (i := 1) (by decide +kernel))⟩
abbrev mX11_concludeAlike : MT := (yX11_concludeAlike, cX11_concludeAlike, 5, (some .boolean))
theorem okX11_concludeAlike : MOK mX11_concludeAlike 2 := ⟨by decide, by decide, ⟨by decide, by decide⟩, by decide, List.mem_of_getElem? (i := 685) (by decide +kernel), (List.mem_of_getElem? (i := 1) (by decide +kernel))⟩
abbrev mX11_drawSaying : MT := (yX11_drawSaying, cX11_drawSaying, 5, none)
theorem okX11_drawSaying : MOK mX11_drawSaying 1 := ⟨by decide, by decide, ⟨by decide, by decide⟩, by decide, List.mem_of_getElem? (i := 701) (by decide +kernel), (List.mem_of_getElem? (i := 1) (by decide +kernel))⟩
abbrev mX11_drawBelow : MT := (yX11_drawBelow, cX11_drawBelow, 2, (some .int))
theorem okX11_drawBelow : MOK mX11_drawBelow 1 := ⟨by decide, by decide, ⟨by decide, by decide⟩, by decide, List.mem_of_getElem? (i := 708) (by decide +kernel), (List.mem_of_getElem? (i := 1) (by decide +kernel))⟩
abbrev mX11_tellAll : MT := (yX11_tellAll, cX11_tellAll, 3, (some .int))
theorem okX11_tellAll : MOK mX11_tellAll 0 := ⟨by decide, by decide, ⟨by decide, by decide⟩, by decide, List.mem_of_getElem? (i := 260) (by decide +kernel), (List.mem_of_getElem? (i := 1) (by decide +kernel))⟩
abbrev mX11_tellStatement : MT := (yX11_tellStatement, cX11_tellStatement, 6, (some .boolean))
theorem okX11_tellStatement : MOK mX11_tellStatement 0 := ⟨by decide, by decide, ⟨by decide, by decide⟩, by decide, List.mem_of_getElem? (i := 289) (by decide +kernel), (List.mem_of_getElem? (i := 1) (by decide +kernel))⟩
abbrev mX12_init : MT := (yX12_init, cX12_init, 1, none)
theorem okX12_init : MOK mX12_init 0 := ⟨by decide, by decide, ⟨by decide, by decide⟩, by decide, List.mem_of_getElem? (i := 745) (by decide +kernel), (List.mem_of_getElem? (i := 9) (by decide +kernel))⟩
abbrev mX12_no : MT := (yX12_no, cX12_no, 2, (some .int))
theorem okX12_no : MOK mX12_no 1 := ⟨by decide, by decide, ⟨by decide, by decide⟩, by decide, List.mem_of_getElem? (i := 857) (by decide +kernel), (List.mem_of_getElem? (i := 9) (by decide +kernel))⟩
abbrev mX12_lower : MT := (yX12_lower, cX12_lower, 2, (some .int))
theorem okX12_lower : MOK mX12_lower 1 := ⟨by decide, by decide, ⟨by decide, by decide⟩, by decide, List.mem_of_getElem? (i := 1052) (by decide +kernel), (List.mem_of_getElem? (i := 9) (by decide +kernel))⟩
abbrev mX12_isIn : MT := (yX12_isIn, cX12_isIn, 3, (some .boolean))
theorem okX12_isIn : MOK mX12_isIn 3 := ⟨by decide, by decide, ⟨by decide, by decide⟩, by decide, List.mem_of_getElem? (i := 880) (by decide +kernel), (List.mem_of_getElem? (i := 9) (by decide +kernel))⟩
abbrev mX12_bound : MT := (yX12_bound, cX12_bound, 3, (some .int))
theorem okX12_bound : MOK mX12_bound 3 := ⟨by decide, by decide, ⟨by decide, by decide⟩, by decide, List.mem_of_getElem? (i := 853) (by decide +kernel), (List.mem_of_getElem? (i := 9) (by decide +kernel))⟩
abbrev mX12_isWho : MT := (yX12_isWho, cX12_isWho, 2, (some .boolean))
theorem okX12_isWho : MOK mX12_isWho 1 := ⟨by decide, by decide, ⟨by decide, by decide⟩, by decide, List.mem_of_getElem? (i := 1000) (by decide +kernel), (List.mem_of_getElem? (i := 9) (by decide +kernel))⟩
abbrev mX12_isStranger : MT := (yX12_isStranger, cX12_isStranger, 2, (some .boolean))
theorem okX12_isStranger : MOK mX12_isStranger 1 := ⟨by decide, by decide, ⟨by decide, by decide⟩, by decide, List.mem_of_getElem? (i := 951) (by decide +kernel), (List.mem_of_getElem? (i := 9) (by decide +kernel))⟩
abbrev mX12_isScholar : MT := (yX12_isScholar, cX12_isScholar, 2, (some .boolean))
theorem okX12_isScholar : MOK mX12_isScholar 1 := ⟨by decide, by decide, ⟨by decide, by decide⟩, by decide, List.mem_of_getElem? (i := 986) (by decide +kernel), (List.mem_of_getElem? (i := 9) (by decide +kernel))⟩
abbrev mX12_isName : MT := (yX12_isName, cX12_isName, 1, (some .boolean))
theorem okX12_isName : MOK mX12_isName 1 := ⟨by decide, by decide, ⟨by decide, by decide⟩, by decide, List.mem_of_getElem? (i := 970) (by decide +kernel), (List.mem_of_getElem? (i := 9) (by decide +kernel))⟩
abbrev mX12_feed : MT := (yX12_feed, cX12_feed, 3, (some .int))
theorem okX12_feed : MOK mX12_feed 1 := ⟨by decide, by decide, ⟨by decide, by decide⟩, by decide, List.mem_of_getElem? (i := 850) (by decide +kernel), (List.mem_of_getElem? (i := 9) (by decide +kernel))⟩
abbrev mX12_next : MT := (yX12_next, cX12_next, 1, (some .int))
theorem okX12_next : MOK mX12_next 0 := ⟨by decide, by decide, ⟨by decide, by decide⟩, by decide, List.mem_of_getElem? (i := 869) (by decide +kernel), (List.mem_of_getElem? (i := 9) (by decide +kernel))⟩
abbrev mX12_wordOf : MT := (yX12_wordOf, cX12_wordOf, 1, (some .int))
theorem okX12_wordOf : MOK mX12_wordOf 1 := ⟨by decide, by decide, ⟨by decide, by decide⟩, by decide, List.mem_of_getElem? (i := 887) (by decide +kernel), (List.mem_of_getElem? (i := 9) (by decide +kernel))⟩
abbrev mX12_readsDigit : MT := (yX12_readsDigit, cX12_readsDigit, 2, (some .boolean))
theorem okX12_readsDigit : MOK mX12_readsDigit 1 := ⟨by decide, by decide, ⟨by decide, by decide⟩, by decide, List.mem_of_getElem? (i := 877) (by decide +kernel), (List.mem_of_getElem? (i := 9) (by decide +kernel))⟩
abbrev mX12_readsName : MT := (yX12_readsName, cX12_readsName, 2, (some .boolean))
theorem okX12_readsName : MOK mX12_readsName 1 := ⟨by decide, by decide, ⟨by decide, by decide⟩, by decide, List.mem_of_getElem? (i := 891) (by decide +kernel), (List.mem_of_getElem? (i := 9) (by decide +kernel))⟩
abbrev mX12_readsSaying : MT := (yX12_readsSaying, cX12_readsSaying, 3, (some .boolean))
theorem okX12_readsSaying : MOK mX12_readsSaying 0 := ⟨by decide, by decide, ⟨by decide, by decide⟩, by decide, List.mem_of_getElem? (i := 884) (by decide +kernel), (List.mem_of_getElem? (i := 9) (by decide +kernel))⟩
abbrev mX12_readsAll : MT := (yX12_readsAll, cX12_readsAll, 3, (some .boolean))
theorem okX12_readsAll : MOK mX12_readsAll 2 := ⟨by decide, by decide, ⟨by decide, by decide⟩, by decide, List.mem_of_getElem? (i := 873) (by decide +kernel), (List.mem_of_getElem? (i := 9) (by decide +kernel))⟩
abbrev mX12_statement : MT := (yX12_statement, cX12_statement, 2, (some .boolean))
theorem okX12_statement : MOK mX12_statement 0 := ⟨by decide, by decide, ⟨by decide, by decide⟩, by decide, List.mem_of_getElem? (i := 865) (by decide +kernel), (List.mem_of_getElem? (i := 9) (by decide +kernel))⟩
abbrev mX12_lays : MT := (yX12_lays, cX12_lays, 3, none)
theorem okX12_lays : MOK mX12_lays 1 := ⟨by decide, by decide, ⟨by decide, by decide⟩, by decide, List.mem_of_getElem? (i := 911) (by decide +kernel), (List.mem_of_getElem? (i := 9) (by decide +kernel))⟩
abbrev mX12_comes : MT := (yX12_comes, cX12_comes, 5, (some .boolean))
theorem okX12_comes : MOK mX12_comes 1 := ⟨by decide, by decide, ⟨by decide, by decide⟩, by decide, List.mem_of_getElem? (i := 907) (by decide +kernel), (List.mem_of_getElem? (i := 9) (by decide +kernel))⟩
abbrev mX12_school : MT := (yX12_school, cX12_school, 3, (some .int))
theorem okX12_school : MOK mX12_school 0 := ⟨by decide, by decide, ⟨by decide, by decide⟩, by decide, List.mem_of_getElem? (i := 861) (by decide +kernel), (List.mem_of_getElem? (i := 9) (by decide +kernel))⟩
abbrev mX12_passes : MT := (yX12_passes, cX12_passes, 3, none)
theorem okX12_passes : MOK mX12_passes 1 := ⟨by decide, by decide, ⟨by decide, by decide⟩, by decide, List.mem_of_getElem? (i := 899) (by decide +kernel), (List.mem_of_getElem? (i := 9) (by decide +kernel))⟩
abbrev mX12_passOne : MT := (yX12_passOne, cX12_passOne, 3, (some .int))
theorem okX12_passOne : MOK mX12_passOne 1 := ⟨by decide, by decide, ⟨by decide, by decide⟩, by decide, List.mem_of_getElem? (i := 903) (by decide +kernel), (List.mem_of_getElem? (i := 9) (by decide +kernel))⟩
abbrev mX12_passesAll : MT := (yX12_passesAll, cX12_passesAll, 3, none)
theorem okX12_passesAll : MOK mX12_passesAll 2 := ⟨by decide, by decide, ⟨by decide, by decide⟩, by decide, List.mem_of_getElem? (i := 895) (by decide +kernel), (List.mem_of_getElem? (i := 9) (by decide +kernel))⟩
abbrev mX12_image : MT := (yX12_image, cX12_image, 1, (some .int))
theorem okX12_image : MOK mX12_image 0 := ⟨by decide, by decide, ⟨by decide, by decide⟩, by decide, List.mem_of_getElem? (i := 955) (by decide +kernel), (List.mem_of_getElem? (i := 9) (by decide +kernel))⟩
abbrev mX12_restore : MT := (yX12_restore, cX12_restore, 1, (some .int))
theorem okX12_restore : MOK mX12_restore 0 := ⟨by decide, by decide, ⟨by decide, by decide⟩, by decide, List.mem_of_getElem? (i := 959) (by decide +kernel), (List.mem_of_getElem? (i := 9) (by decide +kernel))⟩
abbrev mX12_kindOf : MT := (yX12_kindOf, cX12_kindOf, 2, (some .int))
theorem okX12_kindOf : MOK mX12_kindOf 1 := ⟨by decide, by decide, ⟨by decide, by decide⟩, by decide, List.mem_of_getElem? (i := 935) (by decide +kernel), (List.mem_of_getElem? (i := 9) (by decide +kernel))⟩
abbrev mX12_worldOf : MT := (yX12_worldOf, cX12_worldOf, 2, (some .int))
theorem okX12_worldOf : MOK mX12_worldOf 1 := ⟨by decide, by decide, ⟨by decide, by decide⟩, by decide, List.mem_of_getElem? (i := 939) (by decide +kernel), (List.mem_of_getElem? (i := 9) (by decide +kernel))⟩
abbrev mX12_learntBy : MT := (yX12_learntBy, cX12_learntBy, 2, (some .int))
theorem okX12_learntBy : MOK mX12_learntBy 1 := ⟨by decide, by decide, ⟨by decide, by decide⟩, by decide, List.mem_of_getElem? (i := 927) (by decide +kernel), (List.mem_of_getElem? (i := 9) (by decide +kernel))⟩
abbrev mX12_notOf : MT := (yX12_notOf, cX12_notOf, 4, (some .int))
theorem okX12_notOf : MOK mX12_notOf 2 := ⟨by decide, by decide, ⟨by decide, by decide⟩, by decide, List.mem_of_getElem? (i := 931) (by decide +kernel), (List.mem_of_getElem? (i := 9) (by decide +kernel))⟩
abbrev mX12_andOf : MT := (yX12_andOf, cX12_andOf, 4, (some .int))
theorem okX12_andOf : MOK mX12_andOf 3 := ⟨by decide, by decide, ⟨by decide, by decide⟩, by decide, List.mem_of_getElem? (i := 943) (by decide +kernel), (List.mem_of_getElem? (i := 9) (by decide +kernel))⟩
abbrev mX12_orOf : MT := (yX12_orOf, cX12_orOf, 5, (some .int))
theorem okX12_orOf : MOK mX12_orOf 3 := ⟨by decide, by decide, ⟨by decide, by decide⟩, by decide, List.mem_of_getElem? (i := 947) (by decide +kernel), (List.mem_of_getElem? (i := 9) (by decide +kernel))⟩
abbrev mX12_nameTo : MT := (yX12_nameTo, cX12_nameTo, 3, (some .int))
theorem okX12_nameTo : MOK mX12_nameTo 2 := ⟨by decide, by decide, ⟨by decide, by decide⟩, by decide, List.mem_of_getElem? (i := 923) (by decide +kernel), (List.mem_of_getElem? (i := 9) (by decide +kernel))⟩
abbrev mX12_factOrName : MT := (yX12_factOrName, cX12_factOrName, 3, (some .int))
theorem okX12_factOrName : MOK mX12_factOrName 2 := ⟨by decide, by decide, ⟨by decide, by decide⟩, by decide, List.mem_of_getElem? (i := 919) (by decide +kernel), (List.mem_of_getElem? (i := 9) (by decide +kernel))⟩
abbrev mX12_concluded : MT := (yX12_concluded, cX12_concluded, 5, (some .int))
theorem okX12_concluded : MOK mX12_concluded 1 := ⟨by decide, by decide, ⟨by decide, by decide⟩, by decide, List.mem_of_getElem? (i := 915) (by decide +kernel), (List.mem_of_getElem? (i := 9) (by decide +kernel))⟩
abbrev mX12_laysSaying : MT := (yX12_laysSaying, cX12_laysSaying, 3, none)
theorem okX12_laysSaying : MOK mX12_laysSaying 1 := ⟨by decide, by decide, ⟨by decide, by decide⟩, by decide, List.mem_of_getElem? (i := 1008) (by decide +kernel), (List.mem_of_getElem? (i := 9) (by decide +kernel))⟩
abbrev mX12_concludedFrom : MT := (yX12_concludedFrom, cX12_concludedFrom, 3, (some .int))
theorem okX12_concludedFrom : MOK mX12_concludedFrom 2 := ⟨by decide, by decide, ⟨by decide, by decide⟩, by decide, List.mem_of_getElem? (i := 1004) (by decide +kernel), (List.mem_of_getElem? (i := 9) (by decide +kernel))⟩
abbrev mX12_stranger : MT := (yX12_stranger, cX12_stranger, 3, (some .int))
theorem okX12_stranger : MOK mX12_stranger 2 := ⟨by decide, by decide, ⟨by decide, by decide⟩, by decide, List.mem_of_getElem? (i := 963) (by decide +kernel), (List.mem_of_getElem? (i := 9) (by decide +kernel))⟩
abbrev mX12_learn : MT := (yX12_learn, cX12_learn, 5, (some .int))
theorem okX12_learn : MOK mX12_learn 3 := ⟨by decide, by decide, ⟨by decide, by decide⟩, by decide, List.mem_of_getElem? (i := 967) (by decide +kernel), (List.mem_of_getElem? (i := 9) (by decide +kernel))⟩
abbrev mX12_name : MT := (yX12_name, cX12_name, 2, (some .int))
theorem okX12_name : MOK mX12_name 1 := ⟨by decide, by decide, ⟨by decide, by decide⟩, by decide, List.mem_of_getElem? (i := 974) (by decide +kernel), (List.mem_of_getElem? (i := 9) (by decide +kernel))⟩
abbrev mX12_coin : MT := (yX12_coin, cX12_coin, 5, (some .int))
theorem okX12_coin : MOK mX12_coin 2 := ⟨by decide, by decide, ⟨by decide, by decide⟩, by decide, List.mem_of_getElem? (i := 978) (by decide +kernel), (List.mem_of_getElem? (i := 9) (by decide +kernel))⟩
abbrev mX12_saying : MT := (yX12_saying, cX12_saying, 3, (some .int))
theorem okX12_saying : MOK mX12_saying 2 := ⟨by decide, by decide, ⟨by decide, by decide⟩, by decide, List.mem_of_getElem? (i := 982) (by decide +kernel), (List.mem_of_getElem? (i := 9) (by decide +kernel))⟩
abbrev mX12_leave : MT := (yX12_leave, cX12_leave, 1, (some .int))
theorem okX12_leave : MOK mX12_leave 0 := ⟨by decide, by decide, ⟨by decide, by decide⟩, by decide, List.mem_of_getElem? (i := 992) (by decide +kernel), (List.mem_of_getElem? (i := 9) (by decide +kernel))⟩
abbrev mX12_concludes : MT := (yX12_concludes, cX12_concludes, 3, (some .int))
theorem okX12_concludes : MOK mX12_concludes 2 := ⟨by decide, by decide, ⟨by decide, by decide⟩, by decide, List.mem_of_getElem? (i := 996) (by decide +kernel), (List.mem_of_getElem? (i := 9) (by decide +kernel))⟩
abbrev mX12_parts : MT := (yX12_parts, cX12_parts, 6, (some .int))
theorem okX12_parts : MOK mX12_parts 3 := ⟨by decide, by decide, ⟨by decide, by decide⟩, by decide, List.mem_of_getElem? (i := 1012) (by decide +kernel), (List.mem_of_getElem? (i := 9) (by decide +kernel))⟩
abbrev mX12_doesBeat : MT := (yX12_doesBeat, cX12_doesBeat, 4, (some .boolean))
theorem okX12_doesBeat : MOK mX12_doesBeat 3 := ⟨by decide, by decide, ⟨by decide, by decide⟩, by decide, List.mem_of_getElem? (i := 1020) (by decide +kernel), (List.mem_of_getElem? (i := 9) (by decide +kernel))⟩
abbrev mX12_won : MT := (yX12_won, cX12_won, 5, (some .int))
theorem okX12_won : MOK mX12_won 2 := ⟨by decide, by decide, ⟨by decide, by decide⟩, by decide, List.mem_of_getElem? (i := 1016) (by decide +kernel), (List.mem_of_getElem? (i := 9) (by decide +kernel))⟩
abbrev mX12_masters : MT := (yX12_masters, cX12_masters, 5, (some .int))
theorem okX12_masters : MOK mX12_masters 1 := ⟨by decide, by decide, ⟨by decide, by decide⟩, by decide, List.mem_of_getElem? (i := 1024) (by decide +kernel), (List.mem_of_getElem? (i := 9) (by decide +kernel))⟩
abbrev mX12_lowers : MT := (yX12_lowers, cX12_lowers, 3, none)
theorem okX12_lowers : MOK mX12_lowers 2 := ⟨by decide, by decide, ⟨by decide, by decide⟩, by decide, List.mem_of_getElem? (i := 1040) (by decide +kernel), (List.mem_of_getElem? (i := 9) (by decide +kernel))⟩
abbrev mX12_goesOn : MT := (yX12_goesOn, cX12_goesOn, 4, none)
theorem okX12_goesOn : MOK mX12_goesOn 1 := ⟨by decide, by decide, ⟨by decide, by decide⟩, by decide, List.mem_of_getElem? (i := 1036) (by decide +kernel), (List.mem_of_getElem? (i := 9) (by decide +kernel))⟩
abbrev mX12_findShortest : MT := (yX12_findShortest, cX12_findShortest, 4, none)
theorem okX12_findShortest : MOK mX12_findShortest 2 := ⟨by decide, by decide, ⟨by decide, by decide⟩, by decide, List.mem_of_getElem? (i := 1032) (by decide +kernel), (List.mem_of_getElem? (i := 9) (by decide +kernel))⟩
abbrev mX12_shortestOf : MT := (yX12_shortestOf, cX12_shortestOf, 2, (some .int))
theorem okX12_shortestOf : MOK mX12_shortestOf 1 := ⟨by decide, by decide, ⟨by decide, by decide⟩, by decide, List.mem_of_getElem? (i := 1044) (by decide +kernel), (List.mem_of_getElem? (i := 9) (by decide +kernel))⟩
abbrev mX12_shortest : MT := (yX12_shortest, cX12_shortest, 4, (some .int))
theorem okX12_shortest : MOK mX12_shortest 2 := ⟨by decide, by decide, ⟨by decide, by decide⟩, by decide, List.mem_of_getElem? (i := 1028) (by decide +kernel), (List.mem_of_getElem? (i := 9) (by decide +kernel))⟩
abbrev mX12_cut : MT := (yX12_cut, cX12_cut, 4, (some .int))
theorem okX12_cut : MOK mX12_cut 2 := ⟨by decide, by decide, ⟨by decide, by decide⟩, by decide, List.mem_of_getElem? (i := 1048) (by decide +kernel), (List.mem_of_getElem? (i := 9) (by decide +kernel))⟩
abbrev mX12_many : MT := (yX12_many, cX12_many, 6, (some .int))
theorem okX12_many : MOK mX12_many 2 := ⟨by decide, by decide, ⟨by decide, by decide⟩, by decide, List.mem_of_getElem? (i := 1057) (by decide +kernel), (List.mem_of_getElem? (i := 9) (by decide +kernel))⟩
abbrev mX12_farthest : MT := (yX12_farthest, cX12_farthest, 5, (some .int))
theorem okX12_farthest : MOK mX12_farthest 2 := ⟨by decide, by decide, ⟨by decide, by decide⟩, by decide, List.mem_of_getElem? (i := 1061) (by decide +kernel), (List.mem_of_getElem? (i := 9) (by decide +kernel))⟩
abbrev mX12_saves : MT := (yX12_saves, cX12_saves, 7, (some .int))
theorem okX12_saves : MOK mX12_saves 2 := ⟨by decide, by decide, ⟨by decide, by decide⟩, by decide, List.mem_of_getElem? (i := 1065) (by decide +kernel), (List.mem_of_getElem? (i := 9) (by decide +kernel))⟩
abbrev mX12_joined : MT := (yX12_joined, cX12_joined, 6, (some .int))
theorem okX12_joined : MOK mX12_joined 3 := ⟨by decide, by decide, ⟨by decide, by decide⟩, by decide, List.mem_of_getElem? (i := 1069) (by decide +kernel), (List.mem_of_getElem? (i := 9) (by decide +kernel))⟩
abbrev mX12_behind : MT := (yX12_behind, cX12_behind, 6, (some .int))
theorem okX12_behind : MOK mX12_behind 2 := ⟨by decide, by decide, ⟨by decide, by decide⟩, by decide, List.mem_of_getElem? (i := 1085) (by decide +kernel), (List.mem_of_getElem? (i := 9) (by decide +kernel))⟩
abbrev mX12_laysBut : MT := (yX12_laysBut, cX12_laysBut, 6, none)
theorem okX12_laysBut : MOK mX12_laysBut 4 := ⟨by decide, by decide, ⟨by decide, by decide⟩, by decide, List.mem_of_getElem? (i := 1077) (by decide +kernel), (List.mem_of_getElem? (i := 9) (by decide +kernel))⟩
abbrev mX12_tells : MT := (yX12_tells, cX12_tells, 3, none)
theorem okX12_tells : MOK mX12_tells 2 := ⟨by decide, by decide, ⟨by decide, by decide⟩, by decide, List.mem_of_getElem? (i := 1081) (by decide +kernel), (List.mem_of_getElem? (i := 9) (by decide +kernel))⟩
abbrev mX12_drops : MT := (yX12_drops, cX12_drops, 8, (some .int))
theorem okX12_drops : MOK mX12_drops 3 := ⟨by decide, by decide, ⟨by decide, by decide⟩, by decide, List.mem_of_getElem? (i := 1073) (by decide +kernel), (List.mem_of_getElem? (i := 9) (by decide +kernel))⟩
abbrev mX12_isAlike : MT := (yX12_isAlike, cX12_isAlike, 2, (some .boolean))
theorem okX12_isAlike : MOK mX12_isAlike 2 := ⟨by decide, by decide, ⟨by decide, by decide⟩, by decide, List.mem_of_getElem? (i := 1092) (by decide +kernel), (List.mem_of_getElem? (i := 9) (by decide +kernel))⟩
abbrev mX12_heard : MT := (yX12_heard, cX12_heard, 9, (some .int))
theorem okX12_heard : MOK mX12_heard 4 := ⟨by decide, by decide, ⟨by decide, by decide⟩, by decide, List.mem_of_getElem? (i := 1089) (by decide +kernel), (List.mem_of_getElem? (i := 9) (by decide +kernel))⟩
abbrev mX12_unlike : MT := (yX12_unlike, cX12_unlike, 6, (some .int))
theorem okX12_unlike : MOK mX12_unlike 1 := ⟨by decide, by decide, ⟨by decide, by decide⟩, by decide, List.mem_of_getElem? (i := 1096) (by decide +kernel), (List.mem_of_getElem? (i := 9) (by decide +kernel))⟩
abbrev mX12_doAgree : MT := (yX12_doAgree, cX12_doAgree, 4, (some .boolean))
theorem okX12_doAgree : MOK mX12_doAgree 2 := ⟨by decide, by decide, ⟨by decide, by decide⟩, by decide, List.mem_of_getElem? (i := 1104) (by decide +kernel), (List.mem_of_getElem? (i := 9) (by decide +kernel))⟩
abbrev mX12_agree : MT := (yX12_agree, cX12_agree, 4, (some .int))
theorem okX12_agree : MOK mX12_agree 0 := ⟨by decide, by decide, ⟨by decide, by decide⟩, by decide, List.mem_of_getElem? (i := 1100) (by decide +kernel), (List.mem_of_getElem? (i := 9) (by decide +kernel))⟩
abbrev mX12_row : MT := (yX12_row, cX12_row, 3, (some .int))
theorem okX12_row : MOK mX12_row 1 := ⟨by decide, by decide, ⟨by decide, by decide⟩, by decide, List.mem_of_getElem? (i := 1108) (by decide +kernel), (List.mem_of_getElem? (i := 9) (by decide +kernel))⟩
abbrev mX12_judge : MT := (yX12_judge, cX12_judge, 5, (some .int))
theorem okX12_judge : MOK mX12_judge 1 := ⟨by decide, by decide, ⟨by decide, by decide⟩, by decide, List.mem_of_getElem? (i := 1112) (by decide +kernel), (List.mem_of_getElem? (i := 9) (by decide +kernel))⟩
abbrev mX12_draw : MT := (yX12_draw, cX12_draw, 2, (some .int))
theorem okX12_draw : MOK mX12_draw 1 := ⟨by decide, by decide, ⟨by decide, by decide⟩, by decide, List.mem_of_getElem? (i := 1124) (by decide +kernel), (List.mem_of_getElem? (i := 9) (by decide +kernel))⟩
abbrev mX12_draws : MT := (yX12_draws, cX12_draws, 7, none)
theorem okX12_draws : MOK mX12_draws 0 := ⟨by decide, by decide, ⟨by decide, by decide⟩, by decide, List.mem_of_getElem? (i := 1120) (by decide +kernel), (List.mem_of_getElem? (i := 9) (by decide +kernel))⟩
abbrev mX12_seeds : MT := (yX12_seeds, cX12_seeds, 9, (some .int))
theorem okX12_seeds : MOK mX12_seeds 4 := ⟨by decide, by decide, ⟨by decide, by decide⟩, by decide, List.mem_of_getElem? (i := 1116) (by decide +kernel), (List.mem_of_getElem? (i := 9) (by decide +kernel))⟩
abbrev mX12_count : MT := (yX12_count, cX12_count, 4, (some .int))
theorem okX12_count : MOK mX12_count 1 := ⟨by decide, by decide, ⟨by decide, by decide⟩, by decide, List.mem_of_getElem? (i := 1131) (by decide +kernel), (List.mem_of_getElem? (i := 9) (by decide +kernel))⟩
abbrev mJ9_min_7cf53 : MT := (yJ9_min_7cf53, cJ9_min_7cf53, 2, (some .int))
abbrev mJ7_fill_53178 : MT := (yJ7_fill_53178, cJ7_fill_53178, 4, none)
theorem okJ7_fill_53178 : MOK mJ7_fill_53178 2 := ⟨by decide, by decide, ⟨by decide, by decide⟩, by decide, List.mem_of_getElem? (i := 72) (by decide +kernel), (List.mem_of_getElem? (i := 5) (by decide +kernel))⟩
end
section
theorem oX11_1 : Cond.methodLink RX11 1 Lib.objectInit ∈ tables_1 := (List.mem_of_getElem? (i := 22) (by decide +kernel))
theorem nX11_7 : New RX11 7 5 3 [.inr 0, .inl 0, .inl 0] := ⟨_, rfl, rfl, (List.mem_of_getElem? (i := 25) (by decide +kernel)), (List.mem_of_getElem? (i := 26) (by decide +kernel)), (List.mem_of_getElem? (i := 2) (by decide +kernel)), by decide, rfl⟩
theorem cX11_9 {M : MT} {t : Nat} (hM : M.1.cls = RX11) : Site M (.invokespecial 9) mX5_init 0 (some t) := Site.IN (host := "SaidShorter") okX5_init rfl rfl (by rw [hM]; exact (st_lw (List.mem_of_getElem? (i := 27) (by decide +kernel)))) (st_lw (List.mem_of_getElem? (i := 28) (by decide +kernel)))
theorem qX11_10 : GPF RX11 10 11 0 := ⟨TX11 0, (st_lw (List.mem_of_getElem? (i := 164) (by decide +kernel))), ⟨_, rfl, by decide, rfl⟩, rfl, rfl⟩
theorem nX11_16 : New RX11 16 8 6 [.inr 0, .inr 0, .inl 0, .inr 0, .inl 0, .inr 0] := ⟨_, rfl, rfl, (List.mem_of_getElem? (i := 42) (by decide +kernel)), (List.mem_of_getElem? (i := 43) (by decide +kernel)), (List.mem_of_getElem? (i := 3) (by decide +kernel)), by decide, rfl⟩
theorem cX11_18 {M : MT} {t : Nat} (hM : M.1.cls = RX11) : Site M (.invokespecial 18) mX8_init 0 (some t) := Site.I okX8_init rfl rfl (by rw [hM]; exact (st_lw (List.mem_of_getElem? (i := 44) (by decide +kernel)))) (st_lw (List.mem_of_getElem? (i := 45) (by decide +kernel)))
theorem pX11_19 : GP RX11 19 11 1 := ⟨TX11 1, Or.inl (st_lw (List.mem_of_getElem? (i := 165) (by decide +kernel))), ⟨_, rfl, by decide, rfl⟩, rfl⟩
theorem pX11_23 : GP RX11 23 11 2 := ⟨TX11 2, Or.inl (st_lw (List.mem_of_getElem? (i := 166) (by decide +kernel))), ⟨_, rfl, by decide, rfl⟩, rfl⟩
theorem qX11_26 : GPF RX11 26 11 3 := ⟨TX11 3, (st_lw (List.mem_of_getElem? (i := 167) (by decide +kernel))), ⟨_, rfl, by decide, rfl⟩, rfl, rfl⟩
theorem pX11_29 : GP RX11 29 11 4 := ⟨TX11 4, Or.inl (st_lw (List.mem_of_getElem? (i := 168) (by decide +kernel))), ⟨_, rfl, by decide, rfl⟩, rfl⟩
theorem qX11_33 : GPF RX11 33 11 5 := ⟨TX11 5, (st_lw (List.mem_of_getElem? (i := 169) (by decide +kernel))), ⟨_, rfl, by decide, rfl⟩, rfl, rfl⟩
theorem pX11_37 : GP RX11 37 11 6 := ⟨TX11 6, Or.inl (st_lw (List.mem_of_getElem? (i := 170) (by decide +kernel))), ⟨_, rfl, by decide, rfl⟩, rfl⟩
theorem qX11_41 : GPF RX11 41 11 7 := ⟨TX11 7, (st_lw (List.mem_of_getElem? (i := 171) (by decide +kernel))), ⟨_, rfl, by decide, rfl⟩, rfl, rfl⟩
theorem nX11_44 : New RX11 44 10 1 [.inl 0] := ⟨_, rfl, rfl, (List.mem_of_getElem? (i := 98) (by decide +kernel)), (List.mem_of_getElem? (i := 99) (by decide +kernel)), (List.mem_of_getElem? (i := 6) (by decide +kernel)), by decide, rfl⟩
theorem cX11_46 {M : MT} {t : Nat} (hM : M.1.cls = RX11) : Site M (.invokespecial 46) mX10_init 1 (some t) := Site.I okX10_init rfl rfl (by rw [hM]; exact (st_lw (List.mem_of_getElem? (i := 100) (by decide +kernel)))) (st_lw (List.mem_of_getElem? (i := 101) (by decide +kernel)))
theorem qX11_49 : GPF RX11 49 11 8 := ⟨TX11 8, (st_lw (List.mem_of_getElem? (i := 172) (by decide +kernel))), ⟨_, rfl, by decide, rfl⟩, rfl, rfl⟩
theorem nX11_53 : New RX11 53 6 3 [.inr 0, .inr 0, .inr 0] := ⟨_, rfl, rfl, (List.mem_of_getElem? (i := 110) (by decide +kernel)), (List.mem_of_getElem? (i := 111) (by decide +kernel)), (List.mem_of_getElem? (i := 7) (by decide +kernel)), by decide, rfl⟩
theorem cX11_55 {M : MT} {t : Nat} (hM : M.1.cls = RX11) : Site M (.invokespecial 55) mX6_init 0 (some t) := Site.IN (host := "SaidShorter") okX6_init rfl rfl (by rw [hM]; exact (st_lw (List.mem_of_getElem? (i := 112) (by decide +kernel)))) (st_lw (List.mem_of_getElem? (i := 113) (by decide +kernel)))
theorem qX11_56 : GPF RX11 56 11 9 := ⟨TX11 9, (st_lw (List.mem_of_getElem? (i := 173) (by decide +kernel))), ⟨_, rfl, by decide, rfl⟩, rfl, rfl⟩
theorem qX11_60 : GPF RX11 60 11 10 := ⟨TX11 10, (st_lw (List.mem_of_getElem? (i := 174) (by decide +kernel))), ⟨_, rfl, by decide, rfl⟩, rfl, rfl⟩
theorem aX11_63 : NewA RX11 63 34 "SaidShorter$Fewest" := ⟨(List.mem_of_getElem? (i := 130) (by decide +kernel)), (List.mem_of_getElem? (i := 131) (by decide +kernel)), fun _ => rfl⟩
theorem qX11_65 : GPF RX11 65 11 11 := ⟨TX11 11, (st_lw (List.mem_of_getElem? (i := 175) (by decide +kernel))), ⟨_, rfl, by decide, rfl⟩, rfl, rfl⟩
theorem nX11_63 : New RX11 63 3 8 [.inr 0, .inr 0, .inr 0, .inr 0, .inl 0, .inr 0, .inl 0, .inl 0] := ⟨_, rfl, rfl, (List.mem_of_getElem? (i := 130) (by decide +kernel)), (List.mem_of_getElem? (i := 132) (by decide +kernel)), (List.mem_of_getElem? (i := 8) (by decide +kernel)), by decide, rfl⟩
theorem cX11_69 {M : MT} {t : Nat} (hM : M.1.cls = RX11) : Site M (.invokespecial 69) mX3_init 0 (some t) := Site.IN (host := "SaidShorter") okX3_init rfl rfl (by rw [hM]; exact (st_lw (List.mem_of_getElem? (i := 133) (by decide +kernel)))) (st_lw (List.mem_of_getElem? (i := 134) (by decide +kernel)))
theorem qX11_70 : GPF RX11 70 11 12 := ⟨TX11 12, (st_lw (List.mem_of_getElem? (i := 176) (by decide +kernel))), ⟨_, rfl, by decide, rfl⟩, rfl, rfl⟩
theorem nX11_74 : New RX11 74 7 2 [.inr 0, .inl 0] := ⟨_, rfl, rfl, (List.mem_of_getElem? (i := 162) (by decide +kernel)), (List.mem_of_getElem? (i := 52) (by decide +kernel)), (List.mem_of_getElem? (i := 4) (by decide +kernel)), by decide, rfl⟩
theorem cX11_76 {M : MT} {t : Nat} (hM : M.1.cls = RX11) : Site M (.invokespecial 76) mX7_init 0 (some t) := Site.IN (host := "SaidShorter") okX7_init rfl rfl (by rw [hM]; exact (st_lw (List.mem_of_getElem? (i := 163) (by decide +kernel)))) (st_lw (List.mem_of_getElem? (i := 54) (by decide +kernel)))
theorem qX11_77 : GPF RX11 77 11 13 := ⟨TX11 13, (st_lw (List.mem_of_getElem? (i := 177) (by decide +kernel))), ⟨_, rfl, by decide, rfl⟩, rfl, rfl⟩
theorem pX11_81 : GP RX11 81 11 14 := ⟨TX11 14, Or.inl (st_lw (List.mem_of_getElem? (i := 178) (by decide +kernel))), ⟨_, rfl, by decide, rfl⟩, rfl⟩
theorem gX11_65 : GF RX11 65 11 11 := ⟨TX11 11, Or.inl (st_lw (List.mem_of_getElem? (i := 175) (by decide +kernel))), _, rfl, by decide, rfl⟩
theorem cX11_84 {M : MT} (hM : M.1.cls = RX11) : Site M (.invokevirtual 84) mX11_refused 1 (some 11) := Site.V okX11_refused (t := 11) rfl (by rw [hM]; exact (st_lw (List.mem_of_getElem? (i := 214) (by decide +kernel)))) (st_lw (List.mem_of_getElem? (i := 216) (by decide +kernel))) (List.mem_append_left _ (List.mem_of_getElem? (i := 0) (by decide +kernel)))
theorem gX11_10 : GF RX11 10 11 0 := ⟨TX11 0, Or.inl (st_lw (List.mem_of_getElem? (i := 164) (by decide +kernel))), _, rfl, by decide, rfl⟩
theorem cX11_88 {M : MT} (hM : M.1.cls = RX11) : Site M (.invokevirtual 88) mX5_isFull 0 (some 5) := Site.V okX5_isFull (t := 5) rfl (by rw [hM]; exact (st_lw (List.mem_of_getElem? (i := 218) (by decide +kernel)))) (st_lw (List.mem_of_getElem? (i := 219) (by decide +kernel))) (st_lw (List.mem_of_getElem? (i := 220) (by decide +kernel)))
theorem cX11_92 {M : MT} (hM : M.1.cls = RX11) : Site M (.invokevirtual 92) mX5_add 1 (some 5) := Site.V okX5_add (t := 5) rfl (by rw [hM]; exact (st_lw (List.mem_of_getElem? (i := 222) (by decide +kernel)))) (st_lw (List.mem_of_getElem? (i := 223) (by decide +kernel))) (st_lw (List.mem_of_getElem? (i := 224) (by decide +kernel)))
theorem cX11_95 {M : MT} (hM : M.1.cls = RX11) : Site M (.invokevirtual 95) mX5_areWellFormed 0 (some 5) := Site.V okX5_areWellFormed (t := 5) rfl (by rw [hM]; exact (st_lw (List.mem_of_getElem? (i := 230) (by decide +kernel)))) (st_lw (List.mem_of_getElem? (i := 231) (by decide +kernel))) (st_lw (List.mem_of_getElem? (i := 232) (by decide +kernel)))
theorem cX11_98 {M : MT} (hM : M.1.cls = RX11) : Site M (.invokevirtual 98) mX11_tellAll 0 (some 11) := Site.V okX11_tellAll (t := 11) rfl (by rw [hM]; exact (st_lw (List.mem_of_getElem? (i := 257) (by decide +kernel)))) (st_lw (List.mem_of_getElem? (i := 259) (by decide +kernel))) (List.mem_append_left _ (List.mem_of_getElem? (i := 5) (by decide +kernel)))
theorem cX11_102 {M : MT} (hM : M.1.cls = RX11) : Site M (.invokevirtual 102) mX5_place 0 (some 5) := Site.V okX5_place (t := 5) rfl (by rw [hM]; exact (st_lw (List.mem_of_getElem? (i := 282) (by decide +kernel)))) (st_lw (List.mem_of_getElem? (i := 283) (by decide +kernel))) (st_lw (List.mem_of_getElem? (i := 284) (by decide +kernel)))
theorem cX11_105 {M : MT} (hM : M.1.cls = RX11) : Site M (.invokevirtual 105) mX5_clear 0 (some 5) := Site.V okX5_clear (t := 5) rfl (by rw [hM]; exact (st_lw (List.mem_of_getElem? (i := 443) (by decide +kernel)))) (st_lw (List.mem_of_getElem? (i := 444) (by decide +kernel))) (st_lw (List.mem_of_getElem? (i := 445) (by decide +kernel)))
theorem cX11_108 {M : MT} (hM : M.1.cls = RX11) : Site M (.invokevirtual 108) mX11_noStranger 1 (some 11) := Site.V okX11_noStranger (t := 11) rfl (by rw [hM]; exact (st_lw (List.mem_of_getElem? (i := 451) (by decide +kernel)))) (st_lw (List.mem_of_getElem? (i := 453) (by decide +kernel))) (List.mem_append_left _ (List.mem_of_getElem? (i := 10) (by decide +kernel)))
theorem gX11_19 : GF RX11 19 11 1 := ⟨TX11 1, Or.inl (st_lw (List.mem_of_getElem? (i := 165) (by decide +kernel))), _, rfl, by decide, rfl⟩
theorem gX11_112 : GF RX11 112 8 0 := ⟨TX8 0, Or.inl (st_lw (List.mem_of_getElem? (i := 74) (by decide +kernel))), _, rfl, by decide, rfl⟩
theorem cX11_116_0 {M : MT} (hM : M.1.cls = RX11) : Site M (.invokevirtual 116) mX0_kind 0 (some 0) := Site.U (x := ⟨"SaidShorter$Stranger", "kind", "()I"⟩) (owner := "SaidShorter$Stranger") okX0_kind (t := 0) rfl (by decide) ⟨by decide, by decide⟩ (by rw [hM]; exact (st_lw (List.mem_of_getElem? (i := 455) (by decide +kernel)))) (st_lw (List.mem_of_getElem? (i := 458) (by decide +kernel))) (st_lw (List.mem_of_getElem? (i := 456) (by decide +kernel))) (st_lw (List.mem_of_getElem? (i := 474) (by decide +kernel) : Cond.code _ prog_12_method_3_code 1 (some .int) ∈ tables_1)) (st_lw (List.mem_of_getElem? (i := 459) (by decide +kernel))) (st_lw (List.mem_of_getElem? (i := 460) (by decide +kernel)))
theorem cX11_116_1 {M : MT} (hM : M.1.cls = RX11) : Site M (.invokevirtual 116) mX1_kind 0 (some 1) := Site.U (x := ⟨"SaidShorter$Stranger", "kind", "()I"⟩) (owner := "SaidShorter$Stranger") okX1_kind (t := 1) rfl (by decide) ⟨by decide, by decide⟩ (by rw [hM]; exact (st_lw (List.mem_of_getElem? (i := 455) (by decide +kernel)))) (st_lw (List.mem_of_getElem? (i := 458) (by decide +kernel))) (st_lw (List.mem_of_getElem? (i := 456) (by decide +kernel))) (st_lw (List.mem_of_getElem? (i := 474) (by decide +kernel) : Cond.code _ prog_12_method_3_code 1 (some .int) ∈ tables_1)) (st_lw (List.mem_of_getElem? (i := 462) (by decide +kernel))) (st_lw (List.mem_of_getElem? (i := 463) (by decide +kernel)))
theorem cX11_116_2 {M : MT} (hM : M.1.cls = RX11) : Site M (.invokevirtual 116) mX2_kind 0 (some 2) := Site.U (x := ⟨"SaidShorter$Stranger", "kind", "()I"⟩) (owner := "SaidShorter$Stranger") okX2_kind (t := 2) rfl (by decide) ⟨by decide, by decide⟩ (by rw [hM]; exact (st_lw (List.mem_of_getElem? (i := 455) (by decide +kernel)))) (st_lw (List.mem_of_getElem? (i := 458) (by decide +kernel))) (st_lw (List.mem_of_getElem? (i := 456) (by decide +kernel))) (st_lw (List.mem_of_getElem? (i := 474) (by decide +kernel) : Cond.code _ prog_12_method_3_code 1 (some .int) ∈ tables_1)) (st_lw (List.mem_of_getElem? (i := 465) (by decide +kernel))) (st_lw (List.mem_of_getElem? (i := 466) (by decide +kernel)))
theorem cX11_116_4 {M : MT} (hM : M.1.cls = RX11) : Site M (.invokevirtual 116) mX4_kind 0 (some 4) := Site.U (x := ⟨"SaidShorter$Stranger", "kind", "()I"⟩) (owner := "SaidShorter$Stranger") okX4_kind (t := 4) rfl (by decide) ⟨by decide, by decide⟩ (by rw [hM]; exact (st_lw (List.mem_of_getElem? (i := 455) (by decide +kernel)))) (st_lw (List.mem_of_getElem? (i := 458) (by decide +kernel))) (st_lw (List.mem_of_getElem? (i := 456) (by decide +kernel))) (st_lw (List.mem_of_getElem? (i := 474) (by decide +kernel) : Cond.code _ prog_12_method_3_code 1 (some .int) ∈ tables_1)) (st_lw (List.mem_of_getElem? (i := 468) (by decide +kernel))) (st_lw (List.mem_of_getElem? (i := 469) (by decide +kernel)))
theorem cX11_116_9 {M : MT} (hM : M.1.cls = RX11) : Site M (.invokevirtual 116) mX9_kind 0 (some 9) := Site.U (x := ⟨"SaidShorter$Stranger", "kind", "()I"⟩) (owner := "SaidShorter$Stranger") okX9_kind (t := 9) rfl (by decide) ⟨by decide, by decide⟩ (by rw [hM]; exact (st_lw (List.mem_of_getElem? (i := 455) (by decide +kernel)))) (st_lw (List.mem_of_getElem? (i := 458) (by decide +kernel))) (st_lw (List.mem_of_getElem? (i := 456) (by decide +kernel))) (st_lw (List.mem_of_getElem? (i := 474) (by decide +kernel) : Cond.code _ prog_12_method_3_code 1 (some .int) ∈ tables_1)) (st_lw (List.mem_of_getElem? (i := 471) (by decide +kernel))) (st_lw (List.mem_of_getElem? (i := 472) (by decide +kernel)))
theorem cX11_116_10 {M : MT} (hM : M.1.cls = RX11) : Site M (.invokevirtual 116) mX10_kind 0 (some 10) := Site.V okX10_kind (t := 10) rfl (by rw [hM]; exact (st_lw (List.mem_of_getElem? (i := 455) (by decide +kernel)))) (st_lw (List.mem_of_getElem? (i := 456) (by decide +kernel))) (st_lw (List.mem_of_getElem? (i := 457) (by decide +kernel)))
theorem gX11_119_0 : GF RX11 119 0 0 := ⟨TX0 0, Or.inl (st_lw (List.mem_of_getElem? (i := 105) (by decide +kernel))), _, rfl, by decide, rfl⟩
theorem gX11_119_1 : GF RX11 119 1 0 := ⟨TX1 0, Or.inl (st_lw (List.mem_of_getElem? (i := 105) (by decide +kernel))), _, rfl, by decide, rfl⟩
theorem gX11_119_2 : GF RX11 119 2 0 := ⟨TX2 0, Or.inl (st_lw (List.mem_of_getElem? (i := 105) (by decide +kernel))), _, rfl, by decide, rfl⟩
theorem gX11_119_4 : GF RX11 119 4 0 := ⟨TX4 0, Or.inl (st_lw (List.mem_of_getElem? (i := 105) (by decide +kernel))), _, rfl, by decide, rfl⟩
theorem gX11_119_9 : GF RX11 119 9 0 := ⟨TX9 0, Or.inl (st_lw (List.mem_of_getElem? (i := 105) (by decide +kernel))), _, rfl, by decide, rfl⟩
theorem gX11_119_10 : GF RX11 119 10 0 := ⟨TX10 0, Or.inl (st_lw (List.mem_of_getElem? (i := 105) (by decide +kernel))), _, rfl, by decide, rfl⟩
theorem gX11_122 : GF RX11 122 8 1 := ⟨TX8 1, Or.inl (st_lw (List.mem_of_getElem? (i := 76) (by decide +kernel))), _, rfl, by decide, rfl⟩
theorem cX11_125 {M : MT} (hM : M.1.cls = RX11) : Site M (.invokestatic 125) mX11_noName 1 none := Site.S okX11_noName (by rw [hM]; exact (st_lw (List.mem_of_getElem? (i := 479) (by decide +kernel)))) (st_lw (List.mem_of_getElem? (i := 432) (by decide +kernel)))
theorem cX11_128 {M : MT} (hM : M.1.cls = RX11) : Site M (.invokevirtual 128) mX8_turnLearnt 2 (some 8) := Site.V okX8_turnLearnt (t := 8) rfl (by rw [hM]; exact (st_lw (List.mem_of_getElem? (i := 439) (by decide +kernel)))) (st_lw (List.mem_of_getElem? (i := 440) (by decide +kernel))) (st_lw (List.mem_of_getElem? (i := 441) (by decide +kernel)))
theorem gX11_132 : GF RX11 132 8 5 := ⟨TX8 5, Or.inl (st_lw (List.mem_of_getElem? (i := 84) (by decide +kernel))), _, rfl, by decide, rfl⟩
theorem cX11_135 {M : MT} (hM : M.1.cls = RX11) : Site M (.invokevirtual 135) mX11_noScholar 1 (some 11) := Site.V okX11_noScholar (t := 11) rfl (by rw [hM]; exact (st_lw (List.mem_of_getElem? (i := 492) (by decide +kernel)))) (st_lw (List.mem_of_getElem? (i := 494) (by decide +kernel))) (List.mem_append_left _ (List.mem_of_getElem? (i := 11) (by decide +kernel)))
theorem gX11_138 : GF RX11 138 8 3 := ⟨TX8 3, Or.inl (st_lw (List.mem_of_getElem? (i := 80) (by decide +kernel))), _, rfl, by decide, rfl⟩
theorem gX11_142 : GF RX11 142 7 1 := ⟨TX7 1, Or.inl (st_lw (List.mem_of_getElem? (i := 63) (by decide +kernel))), _, rfl, by decide, rfl⟩
theorem gX11_145 : GF RX11 145 7 0 := ⟨TX7 0, Or.inl (st_lw (List.mem_of_getElem? (i := 59) (by decide +kernel))), _, rfl, by decide, rfl⟩
theorem gX11_148 : GF RX11 148 8 4 := ⟨TX8 4, Or.inl (st_lw (List.mem_of_getElem? (i := 82) (by decide +kernel))), _, rfl, by decide, rfl⟩
theorem pX11_148 : GP RX11 148 8 4 := ⟨TX8 4, Or.inl (st_lw (List.mem_of_getElem? (i := 82) (by decide +kernel))), ⟨_, rfl, by decide, rfl⟩, rfl⟩
theorem cX11_151 {M : MT} (hM : M.1.cls = RX11) : Site M (.invokevirtual 151) mX11_noListener 1 (some 11) := Site.V okX11_noListener (t := 11) rfl (by rw [hM]; exact (st_lw (List.mem_of_getElem? (i := 504) (by decide +kernel)))) (st_lw (List.mem_of_getElem? (i := 506) (by decide +kernel))) (List.mem_append_left _ (List.mem_of_getElem? (i := 12) (by decide +kernel)))
theorem cX11_154 {M : MT} (hM : M.1.cls = RX11) : Site M (.invokevirtual 154) mX11_listenAs 1 (some 11) := Site.V okX11_listenAs (t := 11) rfl (by rw [hM]; exact (st_lw (List.mem_of_getElem? (i := 508) (by decide +kernel)))) (st_lw (List.mem_of_getElem? (i := 510) (by decide +kernel))) (List.mem_append_left _ (List.mem_of_getElem? (i := 13) (by decide +kernel)))
theorem cX11_157 {M : MT} (hM : M.1.cls = RX11) : Site M (.invokevirtual 157) mX11_meaningOf 1 (some 11) := Site.V okX11_meaningOf (t := 11) rfl (by rw [hM]; exact (st_lw (List.mem_of_getElem? (i := 512) (by decide +kernel)))) (st_lw (List.mem_of_getElem? (i := 514) (by decide +kernel))) (List.mem_append_left _ (List.mem_of_getElem? (i := 14) (by decide +kernel)))
theorem cX11_160 {M : MT} (hM : M.1.cls = RX11) : Site M (.invokevirtual 160) mX11_concludeAllAs 1 (some 11) := Site.V okX11_concludeAllAs (t := 11) rfl (by rw [hM]; exact (st_lw (List.mem_of_getElem? (i := 524) (by decide +kernel)))) (st_lw (List.mem_of_getElem? (i := 526) (by decide +kernel))) (List.mem_append_left _ (List.mem_of_getElem? (i := 15) (by decide +kernel)))
theorem cX11_163 {M : MT} (hM : M.1.cls = RX11) : Site M (.invokevirtual 163) mX11_beats 2 (some 11) := Site.V okX11_beats (t := 11) rfl (by rw [hM]; exact (st_lw (List.mem_of_getElem? (i := 528) (by decide +kernel)))) (st_lw (List.mem_of_getElem? (i := 530) (by decide +kernel))) (List.mem_append_left _ (List.mem_of_getElem? (i := 16) (by decide +kernel)))
theorem cX11_166 {M : MT} (hM : M.1.cls = RX11) : Site M (.invokevirtual 166) mX11_isBeaten 1 (some 11) := Site.V okX11_isBeaten (t := 11) rfl (by rw [hM]; exact (st_lw (List.mem_of_getElem? (i := 536) (by decide +kernel)))) (st_lw (List.mem_of_getElem? (i := 538) (by decide +kernel))) (List.mem_append_left _ (List.mem_of_getElem? (i := 17) (by decide +kernel)))
theorem cX11_169 {M : MT} (hM : M.1.cls = RX11) : Site M (.invokevirtual 169) mX11_fewestFor 1 (some 11) := Site.V okX11_fewestFor (t := 11) rfl (by rw [hM]; exact (st_lw (List.mem_of_getElem? (i := 544) (by decide +kernel)))) (st_lw (List.mem_of_getElem? (i := 546) (by decide +kernel))) (List.mem_append_left _ (List.mem_of_getElem? (i := 18) (by decide +kernel)))
theorem cX11_173 {M : MT} (hM : M.1.cls = RX11) : Site M (.invokevirtual 173) mX3_wordsFor 1 (some 3) := Site.V okX3_wordsFor (t := 3) rfl (by rw [hM]; exact (st_lw (List.mem_of_getElem? (i := 570) (by decide +kernel)))) (st_lw (List.mem_of_getElem? (i := 571) (by decide +kernel))) (st_lw (List.mem_of_getElem? (i := 572) (by decide +kernel)))
theorem cX11_176 {M : MT} (hM : M.1.cls = RX11) : Site M (.invokevirtual 176) mX11_refusedFarOff 1 (some 11) := Site.V okX11_refusedFarOff (t := 11) rfl (by rw [hM]; exact (st_lw (List.mem_of_getElem? (i := 609) (by decide +kernel)))) (st_lw (List.mem_of_getElem? (i := 611) (by decide +kernel))) (List.mem_append_left _ (List.mem_of_getElem? (i := 26) (by decide +kernel)))
theorem cX11_179 {M : MT} (hM : M.1.cls = RX11) : Site M (.invokevirtual 179) mX3_meaningsOfLength 1 (some 3) := Site.V okX3_meaningsOfLength (t := 3) rfl (by rw [hM]; exact (st_lw (List.mem_of_getElem? (i := 618) (by decide +kernel)))) (st_lw (List.mem_of_getElem? (i := 619) (by decide +kernel))) (st_lw (List.mem_of_getElem? (i := 620) (by decide +kernel)))
theorem cX11_182 {M : MT} (hM : M.1.cls = RX11) : Site M (.invokevirtual 182) mX3_farthestMeaning 0 (some 3) := Site.V okX3_farthestMeaning (t := 3) rfl (by rw [hM]; exact (st_lw (List.mem_of_getElem? (i := 626) (by decide +kernel)))) (st_lw (List.mem_of_getElem? (i := 627) (by decide +kernel))) (st_lw (List.mem_of_getElem? (i := 628) (by decide +kernel)))
theorem cX11_185 {M : MT} (hM : M.1.cls = RX11) : Site M (.invokevirtual 185) mX11_wordsSavedBy 2 (some 11) := Site.V okX11_wordsSavedBy (t := 11) rfl (by rw [hM]; exact (st_lw (List.mem_of_getElem? (i := 634) (by decide +kernel)))) (st_lw (List.mem_of_getElem? (i := 636) (by decide +kernel))) (List.mem_append_left _ (List.mem_of_getElem? (i := 27) (by decide +kernel)))
theorem gX11_56 : GF RX11 56 11 9 := ⟨TX11 9, Or.inl (st_lw (List.mem_of_getElem? (i := 173) (by decide +kernel))), _, rfl, by decide, rfl⟩
theorem cX11_189 {M : MT} (hM : M.1.cls = RX11) : Site M (.invokevirtual 189) mX6_meaningOf 1 (some 6) := Site.V okX6_meaningOf (t := 6) rfl (by rw [hM]; exact (st_lw (List.mem_of_getElem? (i := 365) (by decide +kernel)))) (st_lw (List.mem_of_getElem? (i := 366) (by decide +kernel))) (st_lw (List.mem_of_getElem? (i := 367) (by decide +kernel)))
theorem cX11_192 {M : MT} (hM : M.1.cls = RX11) : Site M (.invokestatic 192) mX7_partsOf 1 none := Site.S okX7_partsOf (by rw [hM]; exact (st_lw (List.mem_of_getElem? (i := 650) (by decide +kernel)))) (st_lw (List.mem_of_getElem? (i := 251) (by decide +kernel)))
theorem gX11_77 : GF RX11 77 11 13 := ⟨TX11 13, Or.inl (st_lw (List.mem_of_getElem? (i := 177) (by decide +kernel))), _, rfl, by decide, rfl⟩
theorem cX11_195 {M : MT} (hM : M.1.cls = RX11) : Site M (.invokevirtual 195) mX7_copyWithPartAlone 3 (some 7) := Site.V okX7_copyWithPartAlone (t := 7) rfl (by rw [hM]; exact (st_lw (List.mem_of_getElem? (i := 651) (by decide +kernel)))) (st_lw (List.mem_of_getElem? (i := 652) (by decide +kernel))) (st_lw (List.mem_of_getElem? (i := 653) (by decide +kernel)))
theorem oX11_199 : Cond.methodLink RX11 199 Lib.Math.min.name ∈ tables_1 := (List.mem_of_getElem? (i := 660) (by decide +kernel))
theorem cX11_205 {M : MT} (hM : M.1.cls = RX11) : Site M (.invokevirtual 205) mX7_copy 1 (some 7) := Site.V okX7_copy (t := 7) rfl (by rw [hM]; exact (st_lw (List.mem_of_getElem? (i := 667) (by decide +kernel)))) (st_lw (List.mem_of_getElem? (i := 266) (by decide +kernel))) (st_lw (List.mem_of_getElem? (i := 267) (by decide +kernel)))
theorem sX11_209 : GS RX11 209 2 := ⟨by decide, by decide, Or.inl (st_lw (List.mem_of_getElem? (i := 668) (by decide +kernel)))⟩
theorem gX11_212 : GF RX11 212 8 2 := ⟨TX8 2, Or.inl (st_lw (List.mem_of_getElem? (i := 78) (by decide +kernel))), _, rfl, by decide, rfl⟩
theorem cX11_215 {M : MT} (hM : M.1.cls = RX11) : Site M (.invokevirtual 215) mX11_isConcludedBefore 2 (some 11) := Site.V okX11_isConcludedBefore (t := 11) rfl (by rw [hM]; exact (st_lw (List.mem_of_getElem? (i := 674) (by decide +kernel)))) (st_lw (List.mem_of_getElem? (i := 676) (by decide +kernel))) (List.mem_append_left _ (List.mem_of_getElem? (i := 29) (by decide +kernel)))
theorem cX11_218 {M : MT} (hM : M.1.cls = RX11) : Site M (.invokevirtual 218) mX11_concludeAlike 2 (some 11) := Site.V okX11_concludeAlike (t := 11) rfl (by rw [hM]; exact (st_lw (List.mem_of_getElem? (i := 682) (by decide +kernel)))) (st_lw (List.mem_of_getElem? (i := 684) (by decide +kernel))) (List.mem_append_left _ (List.mem_of_getElem? (i := 30) (by decide +kernel)))
theorem gX11_37 : GF RX11 37 11 6 := ⟨TX11 6, Or.inl (st_lw (List.mem_of_getElem? (i := 170) (by decide +kernel))), _, rfl, by decide, rfl⟩
theorem gX11_33 : GF RX11 33 11 5 := ⟨TX11 5, Or.inl (st_lw (List.mem_of_getElem? (i := 169) (by decide +kernel))), _, rfl, by decide, rfl⟩
theorem pX11_142 : GP RX11 142 7 1 := ⟨TX7 1, Or.inl (st_lw (List.mem_of_getElem? (i := 63) (by decide +kernel))), ⟨_, rfl, by decide, rfl⟩, rfl⟩
theorem cX11_221 {M : MT} (hM : M.1.cls = RX11) : Site M (.invokevirtual 221) mX11_drawSaying 1 (some 11) := Site.V okX11_drawSaying (t := 11) rfl (by rw [hM]; exact (st_lw (List.mem_of_getElem? (i := 698) (by decide +kernel)))) (st_lw (List.mem_of_getElem? (i := 700) (by decide +kernel))) (List.mem_append_left _ (List.mem_of_getElem? (i := 31) (by decide +kernel)))
theorem gX11_26 : GF RX11 26 11 3 := ⟨TX11 3, Or.inl (st_lw (List.mem_of_getElem? (i := 167) (by decide +kernel))), _, rfl, by decide, rfl⟩
theorem cX11_224 {M : MT} (hM : M.1.cls = RX11) : Site M (.invokevirtual 224) mX8_copy 1 (some 8) := Site.V okX8_copy (t := 8) rfl (by rw [hM]; exact (st_lw (List.mem_of_getElem? (i := 261) (by decide +kernel)))) (st_lw (List.mem_of_getElem? (i := 262) (by decide +kernel))) (st_lw (List.mem_of_getElem? (i := 263) (by decide +kernel)))
theorem gX11_29 : GF RX11 29 11 4 := ⟨TX11 4, Or.inl (st_lw (List.mem_of_getElem? (i := 168) (by decide +kernel))), _, rfl, by decide, rfl⟩
theorem cX11_227 {M : MT} (hM : M.1.cls = RX11) : Site M (.invokevirtual 227) mX8_coinedCount 0 (some 8) := Site.V okX8_coinedCount (t := 8) rfl (by rw [hM]; exact (st_lw (List.mem_of_getElem? (i := 725) (by decide +kernel)))) (st_lw (List.mem_of_getElem? (i := 726) (by decide +kernel))) (st_lw (List.mem_of_getElem? (i := 727) (by decide +kernel)))
theorem cX11_230 {M : MT} (hM : M.1.cls = RX11) : Site M (.invokevirtual 230) mX8_lengths 0 (some 8) := Site.V okX8_lengths (t := 8) rfl (by rw [hM]; exact (st_lw (List.mem_of_getElem? (i := 729) (by decide +kernel)))) (st_lw (List.mem_of_getElem? (i := 730) (by decide +kernel))) (st_lw (List.mem_of_getElem? (i := 731) (by decide +kernel)))
theorem cX11_233 {M : MT} (hM : M.1.cls = RX11) : Site M (.invokevirtual 233) mX5_size 0 (some 5) := Site.V okX5_size (t := 5) rfl (by rw [hM]; exact (st_lw (List.mem_of_getElem? (i := 733) (by decide +kernel)))) (st_lw (List.mem_of_getElem? (i := 734) (by decide +kernel))) (st_lw (List.mem_of_getElem? (i := 735) (by decide +kernel)))
theorem cX11_236 {M : MT} (hM : M.1.cls = RX11) : Site M (.invokevirtual 236) mX11_refusalsCounted 1 (some 11) := Site.V okX11_refusalsCounted (t := 11) rfl (by rw [hM]; exact (st_lw (List.mem_of_getElem? (i := 737) (by decide +kernel)))) (st_lw (List.mem_of_getElem? (i := 739) (by decide +kernel))) (List.mem_append_left _ (List.mem_of_getElem? (i := 33) (by decide +kernel)))
theorem gX11_41 : GF RX11 41 11 7 := ⟨TX11 7, Or.inl (st_lw (List.mem_of_getElem? (i := 171) (by decide +kernel))), _, rfl, by decide, rfl⟩
theorem kX11_239 : Cond.constant RX11 239 (Int32.ofInt 1000000000) ∈ tables_1 := (List.mem_of_getElem? (i := 613) (by decide +kernel))
theorem gX11_49 : GF RX11 49 11 8 := ⟨TX11 8, Or.inl (st_lw (List.mem_of_getElem? (i := 172) (by decide +kernel))), _, rfl, by decide, rfl⟩
theorem cX11_240 {M : MT} (hM : M.1.cls = RX11) : Site M (.invokevirtual 240) mX6_become 3 (some 6) := Site.V okX6_become (t := 6) rfl (by rw [hM]; exact (st_lw (List.mem_of_getElem? (i := 361) (by decide +kernel)))) (st_lw (List.mem_of_getElem? (i := 362) (by decide +kernel))) (st_lw (List.mem_of_getElem? (i := 363) (by decide +kernel)))
theorem gX11_60 : GF RX11 60 11 10 := ⟨TX11 10, Or.inl (st_lw (List.mem_of_getElem? (i := 174) (by decide +kernel))), _, rfl, by decide, rfl⟩
theorem cX11_244 {M : MT} (hM : M.1.cls = RX11) : Site M (.invokevirtual 244) mX3_turnTo 1 (some 3) := Site.V okX3_turnTo (t := 3) rfl (by rw [hM]; exact (st_lw (List.mem_of_getElem? (i := 548) (by decide +kernel)))) (st_lw (List.mem_of_getElem? (i := 549) (by decide +kernel))) (st_lw (List.mem_of_getElem? (i := 550) (by decide +kernel)))
theorem cX11_248 {M : MT} (hM : M.1.cls = RX11) : Site M (.invokevirtual 248) mX6_knowInMind 1 (some 6) := Site.V okX6_knowInMind (t := 6) rfl (by rw [hM]; exact (st_lw (List.mem_of_getElem? (i := 638) (by decide +kernel)))) (st_lw (List.mem_of_getElem? (i := 639) (by decide +kernel))) (st_lw (List.mem_of_getElem? (i := 640) (by decide +kernel)))
theorem gX11_70 : GF RX11 70 11 12 := ⟨TX11 12, Or.inl (st_lw (List.mem_of_getElem? (i := 176) (by decide +kernel))), _, rfl, by decide, rfl⟩
theorem sX11_251 : GS RX11 251 3 := ⟨by decide, by decide, Or.inl (st_lw (List.mem_of_getElem? (i := 702) (by decide +kernel)))⟩
theorem sX11_254 : GS RX11 254 4 := ⟨by decide, by decide, Or.inl (st_lw (List.mem_of_getElem? (i := 704) (by decide +kernel)))⟩
theorem cX11_257 {M : MT} (hM : M.1.cls = RX11) : Site M (.invokevirtual 257) mX11_drawBelow 1 (some 11) := Site.V okX11_drawBelow (t := 11) rfl (by rw [hM]; exact (st_lw (List.mem_of_getElem? (i := 705) (by decide +kernel)))) (st_lw (List.mem_of_getElem? (i := 707) (by decide +kernel))) (List.mem_append_left _ (List.mem_of_getElem? (i := 32) (by decide +kernel)))
theorem cX11_260 {M : MT} (hM : M.1.cls = RX11) : Site M (.invokevirtual 260) mX7_add 1 (some 7) := Site.V okX7_add (t := 7) rfl (by rw [hM]; exact (st_lw (List.mem_of_getElem? (i := 712) (by decide +kernel)))) (st_lw (List.mem_of_getElem? (i := 274) (by decide +kernel))) (st_lw (List.mem_of_getElem? (i := 275) (by decide +kernel)))
theorem gX11_81 : GF RX11 81 11 14 := ⟨TX11 14, Or.inl (st_lw (List.mem_of_getElem? (i := 178) (by decide +kernel))), _, rfl, by decide, rfl⟩
theorem kX11_262 : Cond.constant RX11 262 (Int32.ofInt 1103515245) ∈ tables_1 := (List.mem_of_getElem? (i := 709) (by decide +kernel))
theorem kX11_263 : Cond.constant RX11 263 (Int32.ofInt 2147483647) ∈ tables_1 := (List.mem_of_getElem? (i := 710) (by decide +kernel))
theorem kX11_264 : Cond.constant RX11 264 (Int32.ofInt 65536) ∈ tables_1 := (List.mem_of_getElem? (i := 711) (by decide +kernel))
theorem gX11_23 : GF RX11 23 11 2 := ⟨TX11 2, Or.inl (st_lw (List.mem_of_getElem? (i := 166) (by decide +kernel))), _, rfl, by decide, rfl⟩
theorem cX11_265 {M : MT} (hM : M.1.cls = RX11) : Site M (.invokevirtual 265) mX5_rewind 0 (some 5) := Site.V okX5_rewind (t := 5) rfl (by rw [hM]; exact (st_lw (List.mem_of_getElem? (i := 277) (by decide +kernel)))) (st_lw (List.mem_of_getElem? (i := 278) (by decide +kernel))) (st_lw (List.mem_of_getElem? (i := 279) (by decide +kernel)))
theorem cX11_268 {M : MT} (hM : M.1.cls = RX11) : Site M (.invokevirtual 268) mX5_haveMore 0 (some 5) := Site.V okX5_haveMore (t := 5) rfl (by rw [hM]; exact (st_lw (List.mem_of_getElem? (i := 281) (by decide +kernel)))) (st_lw (List.mem_of_getElem? (i := 254) (by decide +kernel))) (st_lw (List.mem_of_getElem? (i := 255) (by decide +kernel)))
theorem cX11_271 {M : MT} (hM : M.1.cls = RX11) : Site M (.invokevirtual 271) mX11_tellStatement 0 (some 11) := Site.V okX11_tellStatement (t := 11) rfl (by rw [hM]; exact (st_lw (List.mem_of_getElem? (i := 286) (by decide +kernel)))) (st_lw (List.mem_of_getElem? (i := 288) (by decide +kernel))) (List.mem_append_left _ (List.mem_of_getElem? (i := 7) (by decide +kernel)))
theorem cX11_274 {M : MT} (hM : M.1.cls = RX11) : Site M (.invokevirtual 274) mX5_next 0 (some 5) := Site.V okX5_next (t := 5) rfl (by rw [hM]; exact (st_lw (List.mem_of_getElem? (i := 290) (by decide +kernel)))) (st_lw (List.mem_of_getElem? (i := 291) (by decide +kernel))) (st_lw (List.mem_of_getElem? (i := 292) (by decide +kernel)))
theorem cX11_277 {M : MT} (hM : M.1.cls = RX11) : Site M (.invokevirtual 277) mX5_nextDigit 0 (some 5) := Site.V okX5_nextDigit (t := 5) rfl (by rw [hM]; exact (st_lw (List.mem_of_getElem? (i := 294) (by decide +kernel)))) (st_lw (List.mem_of_getElem? (i := 295) (by decide +kernel))) (st_lw (List.mem_of_getElem? (i := 296) (by decide +kernel)))
theorem cX11_280 {M : MT} (hM : M.1.cls = RX11) : Site M (.invokevirtual 280) mX8_addStranger 2 (some 8) := Site.V okX8_addStranger (t := 8) rfl (by rw [hM]; exact (st_lw (List.mem_of_getElem? (i := 299) (by decide +kernel)))) (st_lw (List.mem_of_getElem? (i := 300) (by decide +kernel))) (st_lw (List.mem_of_getElem? (i := 301) (by decide +kernel)))
theorem cX11_283 {M : MT} (hM : M.1.cls = RX11) : Site M (.invokevirtual 283) mX5_readSaying 1 (some 5) := Site.V okX5_readSaying (t := 5) rfl (by rw [hM]; exact (st_lw (List.mem_of_getElem? (i := 348) (by decide +kernel)))) (st_lw (List.mem_of_getElem? (i := 349) (by decide +kernel))) (st_lw (List.mem_of_getElem? (i := 350) (by decide +kernel)))
theorem cX11_286 {M : MT} (hM : M.1.cls = RX11) : Site M (.invokevirtual 286) mX8_addScholar 1 (some 8) := Site.V okX8_addScholar (t := 8) rfl (by rw [hM]; exact (st_lw (List.mem_of_getElem? (i := 353) (by decide +kernel)))) (st_lw (List.mem_of_getElem? (i := 354) (by decide +kernel))) (st_lw (List.mem_of_getElem? (i := 355) (by decide +kernel)))
theorem cX11_290 {M : MT} (hM : M.1.cls = RX11) : Site M (.invokevirtual 290) mX5_nextName 0 (some 5) := Site.V okX5_nextName (t := 5) rfl (by rw [hM]; exact (st_lw (List.mem_of_getElem? (i := 357) (by decide +kernel)))) (st_lw (List.mem_of_getElem? (i := 358) (by decide +kernel))) (st_lw (List.mem_of_getElem? (i := 359) (by decide +kernel)))
theorem cX11_293 {M : MT} (hM : M.1.cls = RX11) : Site M (.invokevirtual 293) mX8_coinName 2 (some 8) := Site.V okX8_coinName (t := 8) rfl (by rw [hM]; exact (st_lw (List.mem_of_getElem? (i := 434) (by decide +kernel)))) (st_lw (List.mem_of_getElem? (i := 435) (by decide +kernel))) (st_lw (List.mem_of_getElem? (i := 436) (by decide +kernel)))
theorem oX12_1 : Cond.methodLink RX12 1 Lib.objectInit ∈ tables_1 := (List.mem_of_getElem? (i := 746) (by decide +kernel))
theorem qX12_7 : GPF RX12 7 12 0 := ⟨TX12 0, (st_lw (List.mem_of_getElem? (i := 747) (by decide +kernel))), ⟨_, rfl, by decide, rfl⟩, rfl, rfl⟩
theorem qX12_13 : GPF RX12 13 12 1 := ⟨TX12 1, (st_lw (List.mem_of_getElem? (i := 748) (by decide +kernel))), ⟨_, rfl, by decide, rfl⟩, rfl, rfl⟩
theorem qX12_16 : GPF RX12 16 12 2 := ⟨TX12 2, (st_lw (List.mem_of_getElem? (i := 749) (by decide +kernel))), ⟨_, rfl, by decide, rfl⟩, rfl, rfl⟩
theorem qX12_19 : GPF RX12 19 12 3 := ⟨TX12 3, (st_lw (List.mem_of_getElem? (i := 750) (by decide +kernel))), ⟨_, rfl, by decide, rfl⟩, rfl, rfl⟩
theorem qX12_22 : GPF RX12 22 12 4 := ⟨TX12 4, (st_lw (List.mem_of_getElem? (i := 751) (by decide +kernel))), ⟨_, rfl, by decide, rfl⟩, rfl, rfl⟩
theorem qX12_25 : GPF RX12 25 12 5 := ⟨TX12 5, (st_lw (List.mem_of_getElem? (i := 752) (by decide +kernel))), ⟨_, rfl, by decide, rfl⟩, rfl, rfl⟩
theorem qX12_28 : GPF RX12 28 12 6 := ⟨TX12 6, (st_lw (List.mem_of_getElem? (i := 753) (by decide +kernel))), ⟨_, rfl, by decide, rfl⟩, rfl, rfl⟩
theorem qX12_31 : GPF RX12 31 12 9 := ⟨TX12 9, (st_lw (List.mem_of_getElem? (i := 756) (by decide +kernel))), ⟨_, rfl, by decide, rfl⟩, rfl, rfl⟩
theorem qX12_34 : GPF RX12 34 12 10 := ⟨TX12 10, (st_lw (List.mem_of_getElem? (i := 757) (by decide +kernel))), ⟨_, rfl, by decide, rfl⟩, rfl, rfl⟩
theorem qX12_37 : GPF RX12 37 12 11 := ⟨TX12 11, (st_lw (List.mem_of_getElem? (i := 758) (by decide +kernel))), ⟨_, rfl, by decide, rfl⟩, rfl, rfl⟩
theorem qX12_40 : GPF RX12 40 12 12 := ⟨TX12 12, (st_lw (List.mem_of_getElem? (i := 759) (by decide +kernel))), ⟨_, rfl, by decide, rfl⟩, rfl, rfl⟩
theorem qX12_43 : GPF RX12 43 12 13 := ⟨TX12 13, (st_lw (List.mem_of_getElem? (i := 760) (by decide +kernel))), ⟨_, rfl, by decide, rfl⟩, rfl, rfl⟩
theorem qX12_46 : GPF RX12 46 12 14 := ⟨TX12 14, (st_lw (List.mem_of_getElem? (i := 761) (by decide +kernel))), ⟨_, rfl, by decide, rfl⟩, rfl, rfl⟩
theorem qX12_49 : GPF RX12 49 12 18 := ⟨TX12 18, (st_lw (List.mem_of_getElem? (i := 765) (by decide +kernel))), ⟨_, rfl, by decide, rfl⟩, rfl, rfl⟩
theorem qX12_52 : GPF RX12 52 12 22 := ⟨TX12 22, (st_lw (List.mem_of_getElem? (i := 769) (by decide +kernel))), ⟨_, rfl, by decide, rfl⟩, rfl, rfl⟩
theorem qX12_55 : GPF RX12 55 12 23 := ⟨TX12 23, (st_lw (List.mem_of_getElem? (i := 770) (by decide +kernel))), ⟨_, rfl, by decide, rfl⟩, rfl, rfl⟩
theorem qX12_58 : GPF RX12 58 12 25 := ⟨TX12 25, (st_lw (List.mem_of_getElem? (i := 772) (by decide +kernel))), ⟨_, rfl, by decide, rfl⟩, rfl, rfl⟩
theorem qX12_61 : GPF RX12 61 12 27 := ⟨TX12 27, (st_lw (List.mem_of_getElem? (i := 774) (by decide +kernel))), ⟨_, rfl, by decide, rfl⟩, rfl, rfl⟩
theorem qX12_64 : GPF RX12 64 12 30 := ⟨TX12 30, (st_lw (List.mem_of_getElem? (i := 777) (by decide +kernel))), ⟨_, rfl, by decide, rfl⟩, rfl, rfl⟩
theorem gX12_7 : GF RX12 7 12 0 := ⟨TX12 0, Or.inl (st_lw (List.mem_of_getElem? (i := 747) (by decide +kernel))), _, rfl, by decide, rfl⟩
theorem kX12_67 : Cond.constant RX12 67 (Int32.ofInt 1000000000) ∈ tables_1 := (List.mem_of_getElem? (i := 1053) (by decide +kernel))
theorem gX12_68 : GF RX12 68 12 7 := ⟨TX12 7, Or.inl (st_lw (List.mem_of_getElem? (i := 754) (by decide +kernel))), _, rfl, by decide, rfl⟩
theorem gX12_72 : GF RX12 72 12 8 := ⟨TX12 8, Or.inl (st_lw (List.mem_of_getElem? (i := 755) (by decide +kernel))), _, rfl, by decide, rfl⟩
theorem cX12_75 {M : MT} (hM : M.1.cls = RX12) : Site M (.invokestatic 75) mX12_bound 3 none := Site.S okX12_bound (by rw [hM]; exact (st_lw (List.mem_of_getElem? (i := 851) (by decide +kernel)))) (st_lw (List.mem_of_getElem? (i := 852) (by decide +kernel)))
theorem gX12_79 : GF RX12 79 12 15 := ⟨TX12 15, Or.inl (st_lw (List.mem_of_getElem? (i := 762) (by decide +kernel))), _, rfl, by decide, rfl⟩
theorem cX12_82 {M : MT} (hM : M.1.cls = RX12) : Site M (.invokevirtual 82) mX12_no 1 (some 12) := Site.V okX12_no (t := 12) rfl (by rw [hM]; exact (st_lw (List.mem_of_getElem? (i := 854) (by decide +kernel)))) (st_lw (List.mem_of_getElem? (i := 856) (by decide +kernel))) (List.mem_append_left _ (List.mem_of_getElem? (i := 34) (by decide +kernel)))
theorem gX12_31 : GF RX12 31 12 9 := ⟨TX12 9, Or.inl (st_lw (List.mem_of_getElem? (i := 756) (by decide +kernel))), _, rfl, by decide, rfl⟩
theorem pX12_79 : GP RX12 79 12 15 := ⟨TX12 15, Or.inl (st_lw (List.mem_of_getElem? (i := 762) (by decide +kernel))), ⟨_, rfl, by decide, rfl⟩, rfl⟩
theorem gX12_86 : GF RX12 86 12 16 := ⟨TX12 16, Or.inl (st_lw (List.mem_of_getElem? (i := 763) (by decide +kernel))), _, rfl, by decide, rfl⟩
theorem cX12_89 {M : MT} (hM : M.1.cls = RX12) : Site M (.invokestatic 89) mX12_isIn 3 none := Site.S okX12_isIn (by rw [hM]; exact (st_lw (List.mem_of_getElem? (i := 878) (by decide +kernel)))) (st_lw (List.mem_of_getElem? (i := 879) (by decide +kernel)))
theorem cX12_93 {M : MT} (hM : M.1.cls = RX12) : Site M (.invokevirtual 93) mX12_next 0 (some 12) := Site.V okX12_next (t := 12) rfl (by rw [hM]; exact (st_lw (List.mem_of_getElem? (i := 866) (by decide +kernel)))) (st_lw (List.mem_of_getElem? (i := 868) (by decide +kernel))) (List.mem_append_left _ (List.mem_of_getElem? (i := 36) (by decide +kernel)))
theorem gX12_40 : GF RX12 40 12 12 := ⟨TX12 12, Or.inl (st_lw (List.mem_of_getElem? (i := 759) (by decide +kernel))), _, rfl, by decide, rfl⟩
theorem pX12_86 : GP RX12 86 12 16 := ⟨TX12 16, Or.inl (st_lw (List.mem_of_getElem? (i := 763) (by decide +kernel))), ⟨_, rfl, by decide, rfl⟩, rfl⟩
theorem gX12_43 : GF RX12 43 12 13 := ⟨TX12 13, Or.inl (st_lw (List.mem_of_getElem? (i := 760) (by decide +kernel))), _, rfl, by decide, rfl⟩
theorem gX12_97 : GF RX12 97 12 17 := ⟨TX12 17, Or.inl (st_lw (List.mem_of_getElem? (i := 764) (by decide +kernel))), _, rfl, by decide, rfl⟩
theorem cX12_100 {M : MT} (hM : M.1.cls = RX12) : Site M (.invokestatic 100) mX12_wordOf 1 none := Site.S okX12_wordOf (by rw [hM]; exact (st_lw (List.mem_of_getElem? (i := 885) (by decide +kernel)))) (st_lw (List.mem_of_getElem? (i := 886) (by decide +kernel)))
theorem gX12_46 : GF RX12 46 12 14 := ⟨TX12 14, Or.inl (st_lw (List.mem_of_getElem? (i := 761) (by decide +kernel))), _, rfl, by decide, rfl⟩
theorem cX12_103 {M : MT} (hM : M.1.cls = RX12) : Site M (.invokevirtual 103) mX12_readsDigit 1 (some 12) := Site.V okX12_readsDigit (t := 12) rfl (by rw [hM]; exact (st_lw (List.mem_of_getElem? (i := 874) (by decide +kernel)))) (st_lw (List.mem_of_getElem? (i := 876) (by decide +kernel))) (List.mem_append_left _ (List.mem_of_getElem? (i := 38) (by decide +kernel)))
theorem cX12_107 {M : MT} (hM : M.1.cls = RX12) : Site M (.invokevirtual 107) mX12_readsSaying 0 (some 12) := Site.V okX12_readsSaying (t := 12) rfl (by rw [hM]; exact (st_lw (List.mem_of_getElem? (i := 881) (by decide +kernel)))) (st_lw (List.mem_of_getElem? (i := 883) (by decide +kernel))) (List.mem_append_left _ (List.mem_of_getElem? (i := 39) (by decide +kernel)))
theorem cX12_111 {M : MT} (hM : M.1.cls = RX12) : Site M (.invokevirtual 111) mX12_readsName 1 (some 12) := Site.V okX12_readsName (t := 12) rfl (by rw [hM]; exact (st_lw (List.mem_of_getElem? (i := 888) (by decide +kernel)))) (st_lw (List.mem_of_getElem? (i := 890) (by decide +kernel))) (List.mem_append_left _ (List.mem_of_getElem? (i := 40) (by decide +kernel)))
theorem gX12_34 : GF RX12 34 12 10 := ⟨TX12 10, Or.inl (st_lw (List.mem_of_getElem? (i := 757) (by decide +kernel))), _, rfl, by decide, rfl⟩
theorem gX12_37 : GF RX12 37 12 11 := ⟨TX12 11, Or.inl (st_lw (List.mem_of_getElem? (i := 758) (by decide +kernel))), _, rfl, by decide, rfl⟩
theorem cX12_114 {M : MT} (hM : M.1.cls = RX12) : Site M (.invokevirtual 114) mX12_readsAll 2 (some 12) := Site.V okX12_readsAll (t := 12) rfl (by rw [hM]; exact (st_lw (List.mem_of_getElem? (i := 870) (by decide +kernel)))) (st_lw (List.mem_of_getElem? (i := 872) (by decide +kernel))) (List.mem_append_left _ (List.mem_of_getElem? (i := 37) (by decide +kernel)))
theorem pX12_118 : GP RX12 118 12 24 := ⟨TX12 24, Or.inl (st_lw (List.mem_of_getElem? (i := 771) (by decide +kernel))), ⟨_, rfl, by decide, rfl⟩, rfl⟩
theorem gX12_118 : GF RX12 118 12 24 := ⟨TX12 24, Or.inl (st_lw (List.mem_of_getElem? (i := 771) (by decide +kernel))), _, rfl, by decide, rfl⟩
theorem gX12_52 : GF RX12 52 12 22 := ⟨TX12 22, Or.inl (st_lw (List.mem_of_getElem? (i := 769) (by decide +kernel))), _, rfl, by decide, rfl⟩
theorem gX12_13 : GF RX12 13 12 1 := ⟨TX12 1, Or.inl (st_lw (List.mem_of_getElem? (i := 748) (by decide +kernel))), _, rfl, by decide, rfl⟩
theorem gX12_16 : GF RX12 16 12 2 := ⟨TX12 2, Or.inl (st_lw (List.mem_of_getElem? (i := 749) (by decide +kernel))), _, rfl, by decide, rfl⟩
theorem gX12_19 : GF RX12 19 12 3 := ⟨TX12 3, Or.inl (st_lw (List.mem_of_getElem? (i := 750) (by decide +kernel))), _, rfl, by decide, rfl⟩
theorem pX12_68 : GP RX12 68 12 7 := ⟨TX12 7, Or.inl (st_lw (List.mem_of_getElem? (i := 754) (by decide +kernel))), ⟨_, rfl, by decide, rfl⟩, rfl⟩
theorem cX12_121 {M : MT} (hM : M.1.cls = RX12) : Site M (.invokevirtual 121) mX12_lays 1 (some 12) := Site.V okX12_lays (t := 12) rfl (by rw [hM]; exact (st_lw (List.mem_of_getElem? (i := 908) (by decide +kernel)))) (st_lw (List.mem_of_getElem? (i := 910) (by decide +kernel))) (List.mem_append_left _ (List.mem_of_getElem? (i := 45) (by decide +kernel)))
theorem gX12_25 : GF RX12 25 12 5 := ⟨TX12 5, Or.inl (st_lw (List.mem_of_getElem? (i := 752) (by decide +kernel))), _, rfl, by decide, rfl⟩
theorem gX12_28 : GF RX12 28 12 6 := ⟨TX12 6, Or.inl (st_lw (List.mem_of_getElem? (i := 753) (by decide +kernel))), _, rfl, by decide, rfl⟩
theorem pX12_72 : GP RX12 72 12 8 := ⟨TX12 8, Or.inl (st_lw (List.mem_of_getElem? (i := 755) (by decide +kernel))), ⟨_, rfl, by decide, rfl⟩, rfl⟩
theorem gX12_22 : GF RX12 22 12 4 := ⟨TX12 4, Or.inl (st_lw (List.mem_of_getElem? (i := 751) (by decide +kernel))), _, rfl, by decide, rfl⟩
theorem cX12_125 {M : MT} (hM : M.1.cls = RX12) : Site M (.invokevirtual 125) mX12_concluded 1 (some 12) := Site.V okX12_concluded (t := 12) rfl (by rw [hM]; exact (st_lw (List.mem_of_getElem? (i := 912) (by decide +kernel)))) (st_lw (List.mem_of_getElem? (i := 914) (by decide +kernel))) (List.mem_append_left _ (List.mem_of_getElem? (i := 46) (by decide +kernel)))
theorem cX12_128 {M : MT} (hM : M.1.cls = RX12) : Site M (.invokevirtual 128) mX12_isStranger 1 (some 12) := Site.V okX12_isStranger (t := 12) rfl (by rw [hM]; exact (st_lw (List.mem_of_getElem? (i := 948) (by decide +kernel)))) (st_lw (List.mem_of_getElem? (i := 950) (by decide +kernel))) (List.mem_append_left _ (List.mem_of_getElem? (i := 55) (by decide +kernel)))
theorem pX12_97 : GP RX12 97 12 17 := ⟨TX12 17, Or.inl (st_lw (List.mem_of_getElem? (i := 764) (by decide +kernel))), ⟨_, rfl, by decide, rfl⟩, rfl⟩
theorem cX12_131 {M : MT} (hM : M.1.cls = RX12) : Site M (.invokevirtual 131) mX12_statement 0 (some 12) := Site.V okX12_statement (t := 12) rfl (by rw [hM]; exact (st_lw (List.mem_of_getElem? (i := 862) (by decide +kernel)))) (st_lw (List.mem_of_getElem? (i := 864) (by decide +kernel))) (List.mem_append_left _ (List.mem_of_getElem? (i := 35) (by decide +kernel)))
theorem cX12_134 {M : MT} (hM : M.1.cls = RX12) : Site M (.invokevirtual 134) mX12_passesAll 2 (some 12) := Site.V okX12_passesAll (t := 12) rfl (by rw [hM]; exact (st_lw (List.mem_of_getElem? (i := 892) (by decide +kernel)))) (st_lw (List.mem_of_getElem? (i := 894) (by decide +kernel))) (List.mem_append_left _ (List.mem_of_getElem? (i := 41) (by decide +kernel)))
theorem cX12_138 {M : MT} (hM : M.1.cls = RX12) : Site M (.invokevirtual 138) mX12_comes 1 (some 12) := Site.V okX12_comes (t := 12) rfl (by rw [hM]; exact (st_lw (List.mem_of_getElem? (i := 904) (by decide +kernel)))) (st_lw (List.mem_of_getElem? (i := 906) (by decide +kernel))) (List.mem_append_left _ (List.mem_of_getElem? (i := 44) (by decide +kernel)))
theorem gX12_141 : GF RX12 141 12 20 := ⟨TX12 20, Or.inl (st_lw (List.mem_of_getElem? (i := 767) (by decide +kernel))), _, rfl, by decide, rfl⟩
theorem gX12_49 : GF RX12 49 12 18 := ⟨TX12 18, Or.inl (st_lw (List.mem_of_getElem? (i := 765) (by decide +kernel))), _, rfl, by decide, rfl⟩
theorem gX12_145 : GF RX12 145 12 21 := ⟨TX12 21, Or.inl (st_lw (List.mem_of_getElem? (i := 768) (by decide +kernel))), _, rfl, by decide, rfl⟩
theorem pX12_145 : GP RX12 145 12 21 := ⟨TX12 21, Or.inl (st_lw (List.mem_of_getElem? (i := 768) (by decide +kernel))), ⟨_, rfl, by decide, rfl⟩, rfl⟩
theorem pX12_141 : GP RX12 141 12 20 := ⟨TX12 20, Or.inl (st_lw (List.mem_of_getElem? (i := 767) (by decide +kernel))), ⟨_, rfl, by decide, rfl⟩, rfl⟩
theorem cX12_148 {M : MT} (hM : M.1.cls = RX12) : Site M (.invokevirtual 148) mX12_passes 1 (some 12) := Site.V okX12_passes (t := 12) rfl (by rw [hM]; exact (st_lw (List.mem_of_getElem? (i := 896) (by decide +kernel)))) (st_lw (List.mem_of_getElem? (i := 898) (by decide +kernel))) (List.mem_append_left _ (List.mem_of_getElem? (i := 42) (by decide +kernel)))
theorem cX12_152 {M : MT} (hM : M.1.cls = RX12) : Site M (.invokevirtual 152) mX12_passOne 1 (some 12) := Site.V okX12_passOne (t := 12) rfl (by rw [hM]; exact (st_lw (List.mem_of_getElem? (i := 900) (by decide +kernel)))) (st_lw (List.mem_of_getElem? (i := 902) (by decide +kernel))) (List.mem_append_left _ (List.mem_of_getElem? (i := 43) (by decide +kernel)))
theorem pX12_155 : GP RX12 155 12 19 := ⟨TX12 19, Or.inl (st_lw (List.mem_of_getElem? (i := 766) (by decide +kernel))), ⟨_, rfl, by decide, rfl⟩, rfl⟩
theorem gX12_155 : GF RX12 155 12 19 := ⟨TX12 19, Or.inl (st_lw (List.mem_of_getElem? (i := 766) (by decide +kernel))), _, rfl, by decide, rfl⟩
theorem cX12_158 {M : MT} (hM : M.1.cls = RX12) : Site M (.invokevirtual 158) mX12_kindOf 1 (some 12) := Site.V okX12_kindOf (t := 12) rfl (by rw [hM]; exact (st_lw (List.mem_of_getElem? (i := 932) (by decide +kernel)))) (st_lw (List.mem_of_getElem? (i := 934) (by decide +kernel))) (List.mem_append_left _ (List.mem_of_getElem? (i := 51) (by decide +kernel)))
theorem cX12_161 {M : MT} (hM : M.1.cls = RX12) : Site M (.invokevirtual 161) mX12_worldOf 1 (some 12) := Site.V okX12_worldOf (t := 12) rfl (by rw [hM]; exact (st_lw (List.mem_of_getElem? (i := 936) (by decide +kernel)))) (st_lw (List.mem_of_getElem? (i := 938) (by decide +kernel))) (List.mem_append_left _ (List.mem_of_getElem? (i := 52) (by decide +kernel)))
theorem cX12_164 {M : MT} (hM : M.1.cls = RX12) : Site M (.invokevirtual 164) mX12_learntBy 1 (some 12) := Site.V okX12_learntBy (t := 12) rfl (by rw [hM]; exact (st_lw (List.mem_of_getElem? (i := 924) (by decide +kernel)))) (st_lw (List.mem_of_getElem? (i := 926) (by decide +kernel))) (List.mem_append_left _ (List.mem_of_getElem? (i := 49) (by decide +kernel)))
theorem cX12_167 {M : MT} (hM : M.1.cls = RX12) : Site M (.invokevirtual 167) mX12_nameTo 2 (some 12) := Site.V okX12_nameTo (t := 12) rfl (by rw [hM]; exact (st_lw (List.mem_of_getElem? (i := 920) (by decide +kernel)))) (st_lw (List.mem_of_getElem? (i := 922) (by decide +kernel))) (List.mem_append_left _ (List.mem_of_getElem? (i := 48) (by decide +kernel)))
theorem gX12_55 : GF RX12 55 12 23 := ⟨TX12 23, Or.inl (st_lw (List.mem_of_getElem? (i := 770) (by decide +kernel))), _, rfl, by decide, rfl⟩
theorem cX12_171 {M : MT} (hM : M.1.cls = RX12) : Site M (.invokevirtual 171) mX12_factOrName 2 (some 12) := Site.V okX12_factOrName (t := 12) rfl (by rw [hM]; exact (st_lw (List.mem_of_getElem? (i := 916) (by decide +kernel)))) (st_lw (List.mem_of_getElem? (i := 918) (by decide +kernel))) (List.mem_append_left _ (List.mem_of_getElem? (i := 47) (by decide +kernel)))
theorem cX12_174 {M : MT} (hM : M.1.cls = RX12) : Site M (.invokevirtual 174) mX12_notOf 2 (some 12) := Site.V okX12_notOf (t := 12) rfl (by rw [hM]; exact (st_lw (List.mem_of_getElem? (i := 928) (by decide +kernel)))) (st_lw (List.mem_of_getElem? (i := 930) (by decide +kernel))) (List.mem_append_left _ (List.mem_of_getElem? (i := 50) (by decide +kernel)))
theorem cX12_177 {M : MT} (hM : M.1.cls = RX12) : Site M (.invokevirtual 177) mX12_andOf 3 (some 12) := Site.V okX12_andOf (t := 12) rfl (by rw [hM]; exact (st_lw (List.mem_of_getElem? (i := 940) (by decide +kernel)))) (st_lw (List.mem_of_getElem? (i := 942) (by decide +kernel))) (List.mem_append_left _ (List.mem_of_getElem? (i := 53) (by decide +kernel)))
theorem cX12_180 {M : MT} (hM : M.1.cls = RX12) : Site M (.invokevirtual 180) mX12_orOf 3 (some 12) := Site.V okX12_orOf (t := 12) rfl (by rw [hM]; exact (st_lw (List.mem_of_getElem? (i := 944) (by decide +kernel)))) (st_lw (List.mem_of_getElem? (i := 946) (by decide +kernel))) (List.mem_append_left _ (List.mem_of_getElem? (i := 54) (by decide +kernel)))
theorem cX12_183 {M : MT} (hM : M.1.cls = RX12) : Site M (.invokevirtual 183) mX12_laysSaying 1 (some 12) := Site.V okX12_laysSaying (t := 12) rfl (by rw [hM]; exact (st_lw (List.mem_of_getElem? (i := 1005) (by decide +kernel)))) (st_lw (List.mem_of_getElem? (i := 1007) (by decide +kernel))) (List.mem_append_left _ (List.mem_of_getElem? (i := 59) (by decide +kernel)))
theorem cX12_186 {M : MT} (hM : M.1.cls = RX12) : Site M (.invokestatic 186) mX12_isName 1 none := Site.S okX12_isName (by rw [hM]; exact (st_lw (List.mem_of_getElem? (i := 968) (by decide +kernel)))) (st_lw (List.mem_of_getElem? (i := 969) (by decide +kernel)))
theorem cX12_189 {M : MT} (hM : M.1.cls = RX12) : Site M (.invokevirtual 189) mX12_isScholar 1 (some 12) := Site.V okX12_isScholar (t := 12) rfl (by rw [hM]; exact (st_lw (List.mem_of_getElem? (i := 983) (by decide +kernel)))) (st_lw (List.mem_of_getElem? (i := 985) (by decide +kernel))) (List.mem_append_left _ (List.mem_of_getElem? (i := 56) (by decide +kernel)))
theorem sX12_192 : GS RX12 192 5 := ⟨by decide, by decide, Or.inl (st_lw (List.mem_of_getElem? (i := 987) (by decide +kernel)))⟩
theorem cX12_195 {M : MT} (hM : M.1.cls = RX12) : Site M (.invokevirtual 195) mX12_isWho 1 (some 12) := Site.V okX12_isWho (t := 12) rfl (by rw [hM]; exact (st_lw (List.mem_of_getElem? (i := 997) (by decide +kernel)))) (st_lw (List.mem_of_getElem? (i := 999) (by decide +kernel))) (List.mem_append_left _ (List.mem_of_getElem? (i := 57) (by decide +kernel)))
theorem cX12_198 {M : MT} (hM : M.1.cls = RX12) : Site M (.invokevirtual 198) mX12_concludedFrom 2 (some 12) := Site.V okX12_concludedFrom (t := 12) rfl (by rw [hM]; exact (st_lw (List.mem_of_getElem? (i := 1001) (by decide +kernel)))) (st_lw (List.mem_of_getElem? (i := 1003) (by decide +kernel))) (List.mem_append_left _ (List.mem_of_getElem? (i := 58) (by decide +kernel)))
theorem cX12_201 {M : MT} (hM : M.1.cls = RX12) : Site M (.invokevirtual 201) mX12_doesBeat 3 (some 12) := Site.V okX12_doesBeat (t := 12) rfl (by rw [hM]; exact (st_lw (List.mem_of_getElem? (i := 1017) (by decide +kernel)))) (st_lw (List.mem_of_getElem? (i := 1019) (by decide +kernel))) (List.mem_append_left _ (List.mem_of_getElem? (i := 60) (by decide +kernel)))
theorem gX12_58 : GF RX12 58 12 25 := ⟨TX12 25, Or.inl (st_lw (List.mem_of_getElem? (i := 772) (by decide +kernel))), _, rfl, by decide, rfl⟩
theorem pX12_204 : GP RX12 204 12 26 := ⟨TX12 26, Or.inl (st_lw (List.mem_of_getElem? (i := 773) (by decide +kernel))), ⟨_, rfl, by decide, rfl⟩, rfl⟩
theorem cX12_207 {M : MT} (hM : M.1.cls = RX12) : Site M (.invokevirtual 207) mX12_lowers 2 (some 12) := Site.V okX12_lowers (t := 12) rfl (by rw [hM]; exact (st_lw (List.mem_of_getElem? (i := 1037) (by decide +kernel)))) (st_lw (List.mem_of_getElem? (i := 1039) (by decide +kernel))) (List.mem_append_left _ (List.mem_of_getElem? (i := 63) (by decide +kernel)))
theorem gX12_204 : GF RX12 204 12 26 := ⟨TX12 26, Or.inl (st_lw (List.mem_of_getElem? (i := 773) (by decide +kernel))), _, rfl, by decide, rfl⟩
theorem cX12_211 {M : MT} (hM : M.1.cls = RX12) : Site M (.invokevirtual 211) mX12_goesOn 1 (some 12) := Site.V okX12_goesOn (t := 12) rfl (by rw [hM]; exact (st_lw (List.mem_of_getElem? (i := 1033) (by decide +kernel)))) (st_lw (List.mem_of_getElem? (i := 1035) (by decide +kernel))) (List.mem_append_left _ (List.mem_of_getElem? (i := 62) (by decide +kernel)))
theorem cX12_214 {M : MT} (hM : M.1.cls = RX12) : Site M (.invokevirtual 214) mX12_findShortest 2 (some 12) := Site.V okX12_findShortest (t := 12) rfl (by rw [hM]; exact (st_lw (List.mem_of_getElem? (i := 1029) (by decide +kernel)))) (st_lw (List.mem_of_getElem? (i := 1031) (by decide +kernel))) (List.mem_append_left _ (List.mem_of_getElem? (i := 61) (by decide +kernel)))
theorem cX12_217 {M : MT} (hM : M.1.cls = RX12) : Site M (.invokevirtual 217) mX12_shortestOf 1 (some 12) := Site.V okX12_shortestOf (t := 12) rfl (by rw [hM]; exact (st_lw (List.mem_of_getElem? (i := 1041) (by decide +kernel)))) (st_lw (List.mem_of_getElem? (i := 1043) (by decide +kernel))) (List.mem_append_left _ (List.mem_of_getElem? (i := 64) (by decide +kernel)))
theorem cX12_220 {M : MT} (hM : M.1.cls = RX12) : Site M (.invokevirtual 220) mX12_lower 1 (some 12) := Site.V okX12_lower (t := 12) rfl (by rw [hM]; exact (st_lw (List.mem_of_getElem? (i := 1049) (by decide +kernel)))) (st_lw (List.mem_of_getElem? (i := 1051) (by decide +kernel))) (List.mem_append_left _ (List.mem_of_getElem? (i := 65) (by decide +kernel)))
theorem gX12_61 : GF RX12 61 12 27 := ⟨TX12 27, Or.inl (st_lw (List.mem_of_getElem? (i := 774) (by decide +kernel))), _, rfl, by decide, rfl⟩
theorem gX12_223 : GF RX12 223 12 28 := ⟨TX12 28, Or.inl (st_lw (List.mem_of_getElem? (i := 775) (by decide +kernel))), _, rfl, by decide, rfl⟩
theorem pX12_223 : GP RX12 223 12 28 := ⟨TX12 28, Or.inl (st_lw (List.mem_of_getElem? (i := 775) (by decide +kernel))), ⟨_, rfl, by decide, rfl⟩, rfl⟩
theorem gX12_226 : GF RX12 226 12 29 := ⟨TX12 29, Or.inl (st_lw (List.mem_of_getElem? (i := 776) (by decide +kernel))), _, rfl, by decide, rfl⟩
theorem pX12_226 : GP RX12 226 12 29 := ⟨TX12 29, Or.inl (st_lw (List.mem_of_getElem? (i := 776) (by decide +kernel))), ⟨_, rfl, by decide, rfl⟩, rfl⟩
theorem cX12_229 {M : MT} (hM : M.1.cls = RX12) : Site M (.invokevirtual 229) mX12_laysBut 4 (some 12) := Site.V okX12_laysBut (t := 12) rfl (by rw [hM]; exact (st_lw (List.mem_of_getElem? (i := 1074) (by decide +kernel)))) (st_lw (List.mem_of_getElem? (i := 1076) (by decide +kernel))) (List.mem_append_left _ (List.mem_of_getElem? (i := 66) (by decide +kernel)))
theorem cX12_233 {M : MT} (hM : M.1.cls = RX12) : Site M (.invokevirtual 233) mX12_tells 2 (some 12) := Site.V okX12_tells (t := 12) rfl (by rw [hM]; exact (st_lw (List.mem_of_getElem? (i := 1078) (by decide +kernel)))) (st_lw (List.mem_of_getElem? (i := 1080) (by decide +kernel))) (List.mem_append_left _ (List.mem_of_getElem? (i := 67) (by decide +kernel)))
theorem cX12_236 {M : MT} (hM : M.1.cls = RX12) : Site M (.invokevirtual 236) mX12_behind 2 (some 12) := Site.V okX12_behind (t := 12) rfl (by rw [hM]; exact (st_lw (List.mem_of_getElem? (i := 1082) (by decide +kernel)))) (st_lw (List.mem_of_getElem? (i := 1084) (by decide +kernel))) (List.mem_append_left _ (List.mem_of_getElem? (i := 68) (by decide +kernel)))
theorem cX12_239 {M : MT} (hM : M.1.cls = RX12) : Site M (.invokestatic 239) mX12_isAlike 2 none := Site.S okX12_isAlike (by rw [hM]; exact (st_lw (List.mem_of_getElem? (i := 1090) (by decide +kernel)))) (st_lw (List.mem_of_getElem? (i := 1091) (by decide +kernel)))
theorem cX12_242 {M : MT} (hM : M.1.cls = RX12) : Site M (.invokevirtual 242) mX12_doAgree 2 (some 12) := Site.V okX12_doAgree (t := 12) rfl (by rw [hM]; exact (st_lw (List.mem_of_getElem? (i := 1101) (by decide +kernel)))) (st_lw (List.mem_of_getElem? (i := 1103) (by decide +kernel))) (List.mem_append_left _ (List.mem_of_getElem? (i := 69) (by decide +kernel)))
theorem gX12_245 : GF RX12 245 12 31 := ⟨TX12 31, Or.inl (st_lw (List.mem_of_getElem? (i := 778) (by decide +kernel))), _, rfl, by decide, rfl⟩
theorem gX12_64 : GF RX12 64 12 30 := ⟨TX12 30, Or.inl (st_lw (List.mem_of_getElem? (i := 777) (by decide +kernel))), _, rfl, by decide, rfl⟩
theorem pX12_245 : GP RX12 245 12 31 := ⟨TX12 31, Or.inl (st_lw (List.mem_of_getElem? (i := 778) (by decide +kernel))), ⟨_, rfl, by decide, rfl⟩, rfl⟩
theorem gX12_248 : GF RX12 248 12 32 := ⟨TX12 32, Or.inl (st_lw (List.mem_of_getElem? (i := 779) (by decide +kernel))), _, rfl, by decide, rfl⟩
theorem kX12_251 : Cond.constant RX12 251 (Int32.ofInt 1103515245) ∈ tables_1 := (List.mem_of_getElem? (i := 1125) (by decide +kernel))
theorem pX12_248 : GP RX12 248 12 32 := ⟨TX12 32, Or.inl (st_lw (List.mem_of_getElem? (i := 779) (by decide +kernel))), ⟨_, rfl, by decide, rfl⟩, rfl⟩
theorem kX12_252 : Cond.constant RX12 252 (Int32.ofInt 2147483647) ∈ tables_1 := (List.mem_of_getElem? (i := 1126) (by decide +kernel))
theorem kX12_253 : Cond.constant RX12 253 (Int32.ofInt 65536) ∈ tables_1 := (List.mem_of_getElem? (i := 1127) (by decide +kernel))
theorem cX12_254 {M : MT} (hM : M.1.cls = RX12) : Site M (.invokevirtual 254) mX12_draw 1 (some 12) := Site.V okX12_draw (t := 12) rfl (by rw [hM]; exact (st_lw (List.mem_of_getElem? (i := 1121) (by decide +kernel)))) (st_lw (List.mem_of_getElem? (i := 1123) (by decide +kernel))) (List.mem_append_left _ (List.mem_of_getElem? (i := 71) (by decide +kernel)))
theorem cX12_257 {M : MT} (hM : M.1.cls = RX12) : Site M (.invokevirtual 257) mX12_draws 0 (some 12) := Site.V okX12_draws (t := 12) rfl (by rw [hM]; exact (st_lw (List.mem_of_getElem? (i := 1117) (by decide +kernel)))) (st_lw (List.mem_of_getElem? (i := 1119) (by decide +kernel))) (List.mem_append_left _ (List.mem_of_getElem? (i := 70) (by decide +kernel)))
end
section
theorem cX0_1 {M : MT} {t : Nat} (hM : M.1.cls = RX0) : Site M (.invokespecial 1) mX10_init 1 (some t) := Site.I okX10_init rfl rfl (by rw [hM]; exact (st_lw (List.mem_of_getElem? (i := 329) (by decide +kernel)))) (st_lw (List.mem_of_getElem? (i := 101) (by decide +kernel)))
theorem cX1_1 {M : MT} {t : Nat} (hM : M.1.cls = RX1) : Site M (.invokespecial 1) mX10_init 1 (some t) := Site.I okX10_init rfl rfl (by rw [hM]; exact (st_lw (List.mem_of_getElem? (i := 321) (by decide +kernel)))) (st_lw (List.mem_of_getElem? (i := 101) (by decide +kernel)))
theorem cX2_1 {M : MT} {t : Nat} (hM : M.1.cls = RX2) : Site M (.invokespecial 1) mX1_init 1 (some t) := Site.I okX1_init rfl rfl (by rw [hM]; exact (st_lw (List.mem_of_getElem? (i := 345) (by decide +kernel)))) (st_lw (List.mem_of_getElem? (i := 319) (by decide +kernel)))
theorem cX2_7 {M : MT} (hM : M.1.cls = RX2) : Site M (.invokespecial 7) mX1_not 1 (some 2) := Site.SU okX1_not (t := 2) rfl (by decide) (by rw [hM]; exact (st_lw (List.mem_of_getElem? (i := 385) (by decide +kernel)))) (st_lw (List.mem_of_getElem? (i := 1132) (by decide +kernel))) (by rw [hM]; exact (st_lw (List.mem_of_getElem? (i := 347) (by decide +kernel)))) (st_lw (List.mem_of_getElem? (i := 380) (by decide +kernel)))
theorem cX2_11 {M : MT} (hM : M.1.cls = RX2) : Site M (.invokevirtual 11) mX10_worldOfFigure 0 (some 2) := Site.U (x := ⟨"SaidShorter$Dull", "worldOfFigure", "()I"⟩) (owner := "SaidShorter$Stranger") okX10_worldOfFigure (t := 2) rfl (by decide) ⟨by decide, by decide⟩ (by rw [hM]; exact (st_lw (List.mem_of_getElem? (i := 386) (by decide +kernel)))) (st_lw (List.mem_of_getElem? (i := 387) (by decide +kernel))) (st_lw (List.mem_of_getElem? (i := 390) (by decide +kernel))) (st_lw (List.mem_of_getElem? (i := 391) (by decide +kernel) : Cond.code _ prog_12_method_8_code 1 (some .int) ∈ tables_1)) (st_lw (List.mem_of_getElem? (i := 389) (by decide +kernel))) (st_lw (List.mem_of_getElem? (i := 390) (by decide +kernel)))
theorem oX3_3 : Cond.methodLink RX3 3 Lib.objectInit ∈ tables_1 := (List.mem_of_getElem? (i := 136) (by decide +kernel))
theorem pX3_9 : GP RX3 9 3 0 := ⟨TX3 0, Or.inl (st_lw (List.mem_of_getElem? (i := 137) (by decide +kernel))), ⟨_, rfl, by decide, rfl⟩, rfl⟩
theorem qX3_15 : GPF RX3 15 3 1 := ⟨TX3 1, (st_lw (List.mem_of_getElem? (i := 138) (by decide +kernel))), ⟨_, rfl, by decide, rfl⟩, rfl, rfl⟩
theorem qX3_19 : GPF RX3 19 3 2 := ⟨TX3 2, (st_lw (List.mem_of_getElem? (i := 139) (by decide +kernel))), ⟨_, rfl, by decide, rfl⟩, rfl, rfl⟩
theorem qX3_22 : GPF RX3 22 3 3 := ⟨TX3 3, (st_lw (List.mem_of_getElem? (i := 140) (by decide +kernel))), ⟨_, rfl, by decide, rfl⟩, rfl, rfl⟩
theorem pX3_25 : GP RX3 25 3 4 := ⟨TX3 4, Or.inl (st_lw (List.mem_of_getElem? (i := 141) (by decide +kernel))), ⟨_, rfl, by decide, rfl⟩, rfl⟩
theorem qX3_29 : GPF RX3 29 3 5 := ⟨TX3 5, (st_lw (List.mem_of_getElem? (i := 142) (by decide +kernel))), ⟨_, rfl, by decide, rfl⟩, rfl, rfl⟩
theorem pX3_32 : GP RX3 32 3 6 := ⟨TX3 6, Or.inl (st_lw (List.mem_of_getElem? (i := 143) (by decide +kernel))), ⟨_, rfl, by decide, rfl⟩, rfl⟩
theorem pX3_35 : GP RX3 35 3 7 := ⟨TX3 7, Or.inl (st_lw (List.mem_of_getElem? (i := 144) (by decide +kernel))), ⟨_, rfl, by decide, rfl⟩, rfl⟩
theorem cX3_38 {M : MT} (hM : M.1.cls = RX3) : Site M (.invokevirtual 38) mX3_isFor 1 (some 3) := Site.V okX3_isFor (t := 3) rfl (by rw [hM]; exact (st_lw (List.mem_of_getElem? (i := 552) (by decide +kernel)))) (st_lw (List.mem_of_getElem? (i := 554) (by decide +kernel))) (List.mem_append_left _ (List.mem_of_getElem? (i := 19) (by decide +kernel)))
theorem gX3_42 : GF RX3 42 6 0 := ⟨TX6 0, Or.inr ⟨"SaidShorter", (st_lw (List.mem_of_getElem? (i := 119) (by decide +kernel)))⟩, _, rfl, by decide, rfl⟩
theorem gX3_45 : GF RX3 45 6 1 := ⟨TX6 1, Or.inr ⟨"SaidShorter", (st_lw (List.mem_of_getElem? (i := 121) (by decide +kernel)))⟩, _, rfl, by decide, rfl⟩
theorem gX3_15 : GF RX3 15 3 1 := ⟨TX3 1, Or.inl (st_lw (List.mem_of_getElem? (i := 138) (by decide +kernel))), _, rfl, by decide, rfl⟩
theorem oX3_46 : Cond.methodLink RX3 46 arraycopyName ∈ tables_1 := (List.mem_of_getElem? (i := 557) (by decide +kernel))
theorem gX3_19 : GF RX3 19 3 2 := ⟨TX3 2, Or.inl (st_lw (List.mem_of_getElem? (i := 139) (by decide +kernel))), _, rfl, by decide, rfl⟩
theorem cX3_52 {M : MT} (hM : M.1.cls = RX3) : Site M (.invokestatic 52) mJ7_fill_53178 2 none := Site.S okJ7_fill_53178 (by rw [hM]; exact (st_lw (List.mem_of_getElem? (i := 560) (by decide +kernel)))) (st_lw (List.mem_of_getElem? (i := 71) (by decide +kernel)))
theorem gX3_29 : GF RX3 29 3 5 := ⟨TX3 5, Or.inl (st_lw (List.mem_of_getElem? (i := 142) (by decide +kernel))), _, rfl, by decide, rfl⟩
theorem cX3_58 {M : MT} (hM : M.1.cls = RX3) : Site M (.invokevirtual 58) mX3_addLeaves 0 (some 3) := Site.V okX3_addLeaves (t := 3) rfl (by rw [hM]; exact (st_lw (List.mem_of_getElem? (i := 561) (by decide +kernel)))) (st_lw (List.mem_of_getElem? (i := 563) (by decide +kernel))) (List.mem_append_left _ (List.mem_of_getElem? (i := 20) (by decide +kernel)))
theorem cX3_61 {M : MT} (hM : M.1.cls = RX3) : Site M (.invokevirtual 61) mX3_isComplete 0 (some 3) := Site.V okX3_isComplete (t := 3) rfl (by rw [hM]; exact (st_lw (List.mem_of_getElem? (i := 574) (by decide +kernel)))) (st_lw (List.mem_of_getElem? (i := 576) (by decide +kernel))) (List.mem_append_left _ (List.mem_of_getElem? (i := 22) (by decide +kernel)))
theorem cX3_65 {M : MT} (hM : M.1.cls = RX3) : Site M (.invokevirtual 65) mX3_lookAtNextLength 0 (some 3) := Site.V okX3_lookAtNextLength (t := 3) rfl (by rw [hM]; exact (st_lw (List.mem_of_getElem? (i := 578) (by decide +kernel)))) (st_lw (List.mem_of_getElem? (i := 580) (by decide +kernel))) (List.mem_append_left _ (List.mem_of_getElem? (i := 23) (by decide +kernel)))
theorem gX3_32 : GF RX3 32 3 6 := ⟨TX3 6, Or.inl (st_lw (List.mem_of_getElem? (i := 143) (by decide +kernel))), _, rfl, by decide, rfl⟩
theorem gX3_25 : GF RX3 25 3 4 := ⟨TX3 4, Or.inl (st_lw (List.mem_of_getElem? (i := 141) (by decide +kernel))), _, rfl, by decide, rfl⟩
theorem gX3_22 : GF RX3 22 3 3 := ⟨TX3 3, Or.inl (st_lw (List.mem_of_getElem? (i := 140) (by decide +kernel))), _, rfl, by decide, rfl⟩
theorem gX3_9 : GF RX3 9 3 0 := ⟨TX3 0, Or.inl (st_lw (List.mem_of_getElem? (i := 137) (by decide +kernel))), _, rfl, by decide, rfl⟩
theorem cX3_68_0 {M : MT} (hM : M.1.cls = RX3) : Site M (.invokevirtual 68) mX0_kind 0 (some 0) := Site.U (x := ⟨"SaidShorter$Stranger", "kind", "()I"⟩) (owner := "SaidShorter$Stranger") okX0_kind (t := 0) rfl (by decide) ⟨by decide, by decide⟩ (by rw [hM]; exact (st_lw (List.mem_of_getElem? (i := 556) (by decide +kernel)))) (st_lw (List.mem_of_getElem? (i := 458) (by decide +kernel))) (st_lw (List.mem_of_getElem? (i := 456) (by decide +kernel))) (st_lw (List.mem_of_getElem? (i := 474) (by decide +kernel) : Cond.code _ prog_12_method_3_code 1 (some .int) ∈ tables_1)) (st_lw (List.mem_of_getElem? (i := 459) (by decide +kernel))) (st_lw (List.mem_of_getElem? (i := 460) (by decide +kernel)))
theorem cX3_68_1 {M : MT} (hM : M.1.cls = RX3) : Site M (.invokevirtual 68) mX1_kind 0 (some 1) := Site.U (x := ⟨"SaidShorter$Stranger", "kind", "()I"⟩) (owner := "SaidShorter$Stranger") okX1_kind (t := 1) rfl (by decide) ⟨by decide, by decide⟩ (by rw [hM]; exact (st_lw (List.mem_of_getElem? (i := 556) (by decide +kernel)))) (st_lw (List.mem_of_getElem? (i := 458) (by decide +kernel))) (st_lw (List.mem_of_getElem? (i := 456) (by decide +kernel))) (st_lw (List.mem_of_getElem? (i := 474) (by decide +kernel) : Cond.code _ prog_12_method_3_code 1 (some .int) ∈ tables_1)) (st_lw (List.mem_of_getElem? (i := 462) (by decide +kernel))) (st_lw (List.mem_of_getElem? (i := 463) (by decide +kernel)))
theorem cX3_68_2 {M : MT} (hM : M.1.cls = RX3) : Site M (.invokevirtual 68) mX2_kind 0 (some 2) := Site.U (x := ⟨"SaidShorter$Stranger", "kind", "()I"⟩) (owner := "SaidShorter$Stranger") okX2_kind (t := 2) rfl (by decide) ⟨by decide, by decide⟩ (by rw [hM]; exact (st_lw (List.mem_of_getElem? (i := 556) (by decide +kernel)))) (st_lw (List.mem_of_getElem? (i := 458) (by decide +kernel))) (st_lw (List.mem_of_getElem? (i := 456) (by decide +kernel))) (st_lw (List.mem_of_getElem? (i := 474) (by decide +kernel) : Cond.code _ prog_12_method_3_code 1 (some .int) ∈ tables_1)) (st_lw (List.mem_of_getElem? (i := 465) (by decide +kernel))) (st_lw (List.mem_of_getElem? (i := 466) (by decide +kernel)))
theorem cX3_68_4 {M : MT} (hM : M.1.cls = RX3) : Site M (.invokevirtual 68) mX4_kind 0 (some 4) := Site.U (x := ⟨"SaidShorter$Stranger", "kind", "()I"⟩) (owner := "SaidShorter$Stranger") okX4_kind (t := 4) rfl (by decide) ⟨by decide, by decide⟩ (by rw [hM]; exact (st_lw (List.mem_of_getElem? (i := 556) (by decide +kernel)))) (st_lw (List.mem_of_getElem? (i := 458) (by decide +kernel))) (st_lw (List.mem_of_getElem? (i := 456) (by decide +kernel))) (st_lw (List.mem_of_getElem? (i := 474) (by decide +kernel) : Cond.code _ prog_12_method_3_code 1 (some .int) ∈ tables_1)) (st_lw (List.mem_of_getElem? (i := 468) (by decide +kernel))) (st_lw (List.mem_of_getElem? (i := 469) (by decide +kernel)))
theorem cX3_68_9 {M : MT} (hM : M.1.cls = RX3) : Site M (.invokevirtual 68) mX9_kind 0 (some 9) := Site.U (x := ⟨"SaidShorter$Stranger", "kind", "()I"⟩) (owner := "SaidShorter$Stranger") okX9_kind (t := 9) rfl (by decide) ⟨by decide, by decide⟩ (by rw [hM]; exact (st_lw (List.mem_of_getElem? (i := 556) (by decide +kernel)))) (st_lw (List.mem_of_getElem? (i := 458) (by decide +kernel))) (st_lw (List.mem_of_getElem? (i := 456) (by decide +kernel))) (st_lw (List.mem_of_getElem? (i := 474) (by decide +kernel) : Cond.code _ prog_12_method_3_code 1 (some .int) ∈ tables_1)) (st_lw (List.mem_of_getElem? (i := 471) (by decide +kernel))) (st_lw (List.mem_of_getElem? (i := 472) (by decide +kernel)))
theorem cX3_68_10 {M : MT} (hM : M.1.cls = RX3) : Site M (.invokevirtual 68) mX10_kind 0 (some 10) := Site.V okX10_kind (t := 10) rfl (by rw [hM]; exact (st_lw (List.mem_of_getElem? (i := 556) (by decide +kernel)))) (st_lw (List.mem_of_getElem? (i := 456) (by decide +kernel))) (st_lw (List.mem_of_getElem? (i := 457) (by decide +kernel)))
theorem gX3_74_0 : GF RX3 74 0 0 := ⟨TX0 0, Or.inl (st_lw (List.mem_of_getElem? (i := 106) (by decide +kernel))), _, rfl, by decide, rfl⟩
theorem gX3_74_1 : GF RX3 74 1 0 := ⟨TX1 0, Or.inl (st_lw (List.mem_of_getElem? (i := 106) (by decide +kernel))), _, rfl, by decide, rfl⟩
theorem gX3_74_2 : GF RX3 74 2 0 := ⟨TX2 0, Or.inl (st_lw (List.mem_of_getElem? (i := 106) (by decide +kernel))), _, rfl, by decide, rfl⟩
theorem gX3_74_4 : GF RX3 74 4 0 := ⟨TX4 0, Or.inl (st_lw (List.mem_of_getElem? (i := 106) (by decide +kernel))), _, rfl, by decide, rfl⟩
theorem gX3_74_9 : GF RX3 74 9 0 := ⟨TX9 0, Or.inl (st_lw (List.mem_of_getElem? (i := 106) (by decide +kernel))), _, rfl, by decide, rfl⟩
theorem gX3_74_10 : GF RX3 74 10 0 := ⟨TX10 0, Or.inl (st_lw (List.mem_of_getElem? (i := 106) (by decide +kernel))), _, rfl, by decide, rfl⟩
theorem gX3_35 : GF RX3 35 3 7 := ⟨TX3 7, Or.inl (st_lw (List.mem_of_getElem? (i := 144) (by decide +kernel))), _, rfl, by decide, rfl⟩
theorem cX3_77 {M : MT} (hM : M.1.cls = RX3) : Site M (.invokevirtual 77) mX3_addNots 0 (some 3) := Site.V okX3_addNots (t := 3) rfl (by rw [hM]; exact (st_lw (List.mem_of_getElem? (i := 582) (by decide +kernel)))) (st_lw (List.mem_of_getElem? (i := 584) (by decide +kernel))) (List.mem_append_left _ (List.mem_of_getElem? (i := 24) (by decide +kernel)))
theorem cX3_80 {M : MT} (hM : M.1.cls = RX3) : Site M (.invokevirtual 80) mX3_addJoined 0 (some 3) := Site.V okX3_addJoined (t := 3) rfl (by rw [hM]; exact (st_lw (List.mem_of_getElem? (i := 587) (by decide +kernel)))) (st_lw (List.mem_of_getElem? (i := 589) (by decide +kernel))) (List.mem_append_left _ (List.mem_of_getElem? (i := 25) (by decide +kernel)))
theorem sX3_83 : GS RX3 83 4 := ⟨by decide, by decide, Or.inr ⟨"SaidShorter", (st_lw (List.mem_of_getElem? (i := 565) (by decide +kernel)))⟩⟩
theorem cX3_86 {M : MT} (hM : M.1.cls = RX3) : Site M (.invokevirtual 86) mX3_add 1 (some 3) := Site.V okX3_add (t := 3) rfl (by rw [hM]; exact (st_lw (List.mem_of_getElem? (i := 566) (by decide +kernel)))) (st_lw (List.mem_of_getElem? (i := 568) (by decide +kernel))) (List.mem_append_left _ (List.mem_of_getElem? (i := 21) (by decide +kernel)))
theorem cX3_90_0 {M : MT} (hM : M.1.cls = RX3) : Site M (.invokevirtual 90) mX10_not 1 (some 0) := Site.V okX10_not (t := 0) rfl (by rw [hM]; exact (st_lw (List.mem_of_getElem? (i := 586) (by decide +kernel)))) (st_lw (List.mem_of_getElem? (i := 375) (by decide +kernel))) (st_lw (List.mem_of_getElem? (i := 378) (by decide +kernel)))
theorem cX3_90_1 {M : MT} (hM : M.1.cls = RX3) : Site M (.invokevirtual 90) mX1_not 1 (some 1) := Site.U (x := ⟨"SaidShorter$Stranger", "not", "(I)I"⟩) (owner := "SaidShorter$Stranger") okX1_not (t := 1) rfl (by decide) ⟨by decide, by decide⟩ (by rw [hM]; exact (st_lw (List.mem_of_getElem? (i := 586) (by decide +kernel)))) (st_lw (List.mem_of_getElem? (i := 377) (by decide +kernel))) (st_lw (List.mem_of_getElem? (i := 375) (by decide +kernel))) (st_lw (List.mem_of_getElem? (i := 394) (by decide +kernel) : Cond.code _ prog_12_method_4_code 2 (some .int) ∈ tables_1)) (st_lw (List.mem_of_getElem? (i := 379) (by decide +kernel))) (st_lw (List.mem_of_getElem? (i := 380) (by decide +kernel)))
theorem cX3_90_2 {M : MT} (hM : M.1.cls = RX3) : Site M (.invokevirtual 90) mX2_not 1 (some 2) := Site.U (x := ⟨"SaidShorter$Stranger", "not", "(I)I"⟩) (owner := "SaidShorter$Stranger") okX2_not (t := 2) rfl (by decide) ⟨by decide, by decide⟩ (by rw [hM]; exact (st_lw (List.mem_of_getElem? (i := 586) (by decide +kernel)))) (st_lw (List.mem_of_getElem? (i := 377) (by decide +kernel))) (st_lw (List.mem_of_getElem? (i := 375) (by decide +kernel))) (st_lw (List.mem_of_getElem? (i := 394) (by decide +kernel) : Cond.code _ prog_12_method_4_code 2 (some .int) ∈ tables_1)) (st_lw (List.mem_of_getElem? (i := 382) (by decide +kernel))) (st_lw (List.mem_of_getElem? (i := 383) (by decide +kernel)))
theorem cX3_90_4 {M : MT} (hM : M.1.cls = RX3) : Site M (.invokevirtual 90) mX10_not 1 (some 4) := Site.V okX10_not (t := 4) rfl (by rw [hM]; exact (st_lw (List.mem_of_getElem? (i := 586) (by decide +kernel)))) (st_lw (List.mem_of_getElem? (i := 375) (by decide +kernel))) (st_lw (List.mem_of_getElem? (i := 392) (by decide +kernel)))
theorem cX3_90_9 {M : MT} (hM : M.1.cls = RX3) : Site M (.invokevirtual 90) mX10_not 1 (some 9) := Site.V okX10_not (t := 9) rfl (by rw [hM]; exact (st_lw (List.mem_of_getElem? (i := 586) (by decide +kernel)))) (st_lw (List.mem_of_getElem? (i := 375) (by decide +kernel))) (st_lw (List.mem_of_getElem? (i := 393) (by decide +kernel)))
theorem cX3_90_10 {M : MT} (hM : M.1.cls = RX3) : Site M (.invokevirtual 90) mX10_not 1 (some 10) := Site.V okX10_not (t := 10) rfl (by rw [hM]; exact (st_lw (List.mem_of_getElem? (i := 586) (by decide +kernel)))) (st_lw (List.mem_of_getElem? (i := 375) (by decide +kernel))) (st_lw (List.mem_of_getElem? (i := 376) (by decide +kernel)))
theorem cX3_94_0 {M : MT} (hM : M.1.cls = RX3) : Site M (.invokevirtual 94) mX0_andHasSides 0 (some 0) := Site.U (x := ⟨"SaidShorter$Stranger", "andHasSides", "()Z"⟩) (owner := "SaidShorter$Stranger") okX0_andHasSides (t := 0) rfl (by decide) ⟨by decide, by decide⟩ (by rw [hM]; exact (st_lw (List.mem_of_getElem? (i := 591) (by decide +kernel)))) (st_lw (List.mem_of_getElem? (i := 594) (by decide +kernel))) (st_lw (List.mem_of_getElem? (i := 592) (by decide +kernel))) (st_lw (List.mem_of_getElem? (i := 602) (by decide +kernel) : Cond.code _ prog_12_method_6_code 1 (some .boolean) ∈ tables_1)) (st_lw (List.mem_of_getElem? (i := 595) (by decide +kernel))) (st_lw (List.mem_of_getElem? (i := 596) (by decide +kernel)))
theorem cX3_94_1 {M : MT} (hM : M.1.cls = RX3) : Site M (.invokevirtual 94) mX10_andHasSides 0 (some 1) := Site.V okX10_andHasSides (t := 1) rfl (by rw [hM]; exact (st_lw (List.mem_of_getElem? (i := 591) (by decide +kernel)))) (st_lw (List.mem_of_getElem? (i := 592) (by decide +kernel))) (st_lw (List.mem_of_getElem? (i := 598) (by decide +kernel)))
theorem cX3_94_2 {M : MT} (hM : M.1.cls = RX3) : Site M (.invokevirtual 94) mX10_andHasSides 0 (some 2) := Site.V okX10_andHasSides (t := 2) rfl (by rw [hM]; exact (st_lw (List.mem_of_getElem? (i := 591) (by decide +kernel)))) (st_lw (List.mem_of_getElem? (i := 592) (by decide +kernel))) (st_lw (List.mem_of_getElem? (i := 599) (by decide +kernel)))
theorem cX3_94_4 {M : MT} (hM : M.1.cls = RX3) : Site M (.invokevirtual 94) mX10_andHasSides 0 (some 4) := Site.V okX10_andHasSides (t := 4) rfl (by rw [hM]; exact (st_lw (List.mem_of_getElem? (i := 591) (by decide +kernel)))) (st_lw (List.mem_of_getElem? (i := 592) (by decide +kernel))) (st_lw (List.mem_of_getElem? (i := 600) (by decide +kernel)))
theorem cX3_94_9 {M : MT} (hM : M.1.cls = RX3) : Site M (.invokevirtual 94) mX10_andHasSides 0 (some 9) := Site.V okX10_andHasSides (t := 9) rfl (by rw [hM]; exact (st_lw (List.mem_of_getElem? (i := 591) (by decide +kernel)))) (st_lw (List.mem_of_getElem? (i := 592) (by decide +kernel))) (st_lw (List.mem_of_getElem? (i := 601) (by decide +kernel)))
theorem cX3_94_10 {M : MT} (hM : M.1.cls = RX3) : Site M (.invokevirtual 94) mX10_andHasSides 0 (some 10) := Site.V okX10_andHasSides (t := 10) rfl (by rw [hM]; exact (st_lw (List.mem_of_getElem? (i := 591) (by decide +kernel)))) (st_lw (List.mem_of_getElem? (i := 592) (by decide +kernel))) (st_lw (List.mem_of_getElem? (i := 593) (by decide +kernel)))
theorem cX3_97_0 {M : MT} (hM : M.1.cls = RX3) : Site M (.invokevirtual 97) mX0_and 2 (some 0) := Site.U (x := ⟨"SaidShorter$Stranger", "and", "(II)I"⟩) (owner := "SaidShorter$Stranger") okX0_and (t := 0) rfl (by decide) ⟨by decide, by decide⟩ (by rw [hM]; exact (st_lw (List.mem_of_getElem? (i := 603) (by decide +kernel)))) (st_lw (List.mem_of_getElem? (i := 398) (by decide +kernel))) (st_lw (List.mem_of_getElem? (i := 396) (by decide +kernel))) (st_lw (List.mem_of_getElem? (i := 406) (by decide +kernel) : Cond.code _ prog_12_method_5_code 3 (some .int) ∈ tables_1)) (st_lw (List.mem_of_getElem? (i := 399) (by decide +kernel))) (st_lw (List.mem_of_getElem? (i := 400) (by decide +kernel)))
theorem cX3_97_1 {M : MT} (hM : M.1.cls = RX3) : Site M (.invokevirtual 97) mX10_and 2 (some 1) := Site.V okX10_and (t := 1) rfl (by rw [hM]; exact (st_lw (List.mem_of_getElem? (i := 603) (by decide +kernel)))) (st_lw (List.mem_of_getElem? (i := 396) (by decide +kernel))) (st_lw (List.mem_of_getElem? (i := 402) (by decide +kernel)))
theorem cX3_97_2 {M : MT} (hM : M.1.cls = RX3) : Site M (.invokevirtual 97) mX10_and 2 (some 2) := Site.V okX10_and (t := 2) rfl (by rw [hM]; exact (st_lw (List.mem_of_getElem? (i := 603) (by decide +kernel)))) (st_lw (List.mem_of_getElem? (i := 396) (by decide +kernel))) (st_lw (List.mem_of_getElem? (i := 403) (by decide +kernel)))
theorem cX3_97_4 {M : MT} (hM : M.1.cls = RX3) : Site M (.invokevirtual 97) mX10_and 2 (some 4) := Site.V okX10_and (t := 4) rfl (by rw [hM]; exact (st_lw (List.mem_of_getElem? (i := 603) (by decide +kernel)))) (st_lw (List.mem_of_getElem? (i := 396) (by decide +kernel))) (st_lw (List.mem_of_getElem? (i := 404) (by decide +kernel)))
theorem cX3_97_9 {M : MT} (hM : M.1.cls = RX3) : Site M (.invokevirtual 97) mX10_and 2 (some 9) := Site.V okX10_and (t := 9) rfl (by rw [hM]; exact (st_lw (List.mem_of_getElem? (i := 603) (by decide +kernel)))) (st_lw (List.mem_of_getElem? (i := 396) (by decide +kernel))) (st_lw (List.mem_of_getElem? (i := 405) (by decide +kernel)))
theorem cX3_97_10 {M : MT} (hM : M.1.cls = RX3) : Site M (.invokevirtual 97) mX10_and 2 (some 10) := Site.V okX10_and (t := 10) rfl (by rw [hM]; exact (st_lw (List.mem_of_getElem? (i := 603) (by decide +kernel)))) (st_lw (List.mem_of_getElem? (i := 396) (by decide +kernel))) (st_lw (List.mem_of_getElem? (i := 397) (by decide +kernel)))
theorem cX3_101_0 {M : MT} (hM : M.1.cls = RX3) : Site M (.invokevirtual 101) mX10_or 2 (some 0) := Site.V okX10_or (t := 0) rfl (by rw [hM]; exact (st_lw (List.mem_of_getElem? (i := 604) (by decide +kernel)))) (st_lw (List.mem_of_getElem? (i := 408) (by decide +kernel))) (st_lw (List.mem_of_getElem? (i := 411) (by decide +kernel)))
theorem cX3_101_1 {M : MT} (hM : M.1.cls = RX3) : Site M (.invokevirtual 101) mX10_or 2 (some 1) := Site.V okX10_or (t := 1) rfl (by rw [hM]; exact (st_lw (List.mem_of_getElem? (i := 604) (by decide +kernel)))) (st_lw (List.mem_of_getElem? (i := 408) (by decide +kernel))) (st_lw (List.mem_of_getElem? (i := 412) (by decide +kernel)))
theorem cX3_101_2 {M : MT} (hM : M.1.cls = RX3) : Site M (.invokevirtual 101) mX10_or 2 (some 2) := Site.V okX10_or (t := 2) rfl (by rw [hM]; exact (st_lw (List.mem_of_getElem? (i := 604) (by decide +kernel)))) (st_lw (List.mem_of_getElem? (i := 408) (by decide +kernel))) (st_lw (List.mem_of_getElem? (i := 413) (by decide +kernel)))
theorem cX3_101_4 {M : MT} (hM : M.1.cls = RX3) : Site M (.invokevirtual 101) mX4_or 2 (some 4) := Site.U (x := ⟨"SaidShorter$Stranger", "or", "(II)I"⟩) (owner := "SaidShorter$Stranger") okX4_or (t := 4) rfl (by decide) ⟨by decide, by decide⟩ (by rw [hM]; exact (st_lw (List.mem_of_getElem? (i := 604) (by decide +kernel)))) (st_lw (List.mem_of_getElem? (i := 410) (by decide +kernel))) (st_lw (List.mem_of_getElem? (i := 408) (by decide +kernel))) (st_lw (List.mem_of_getElem? (i := 424) (by decide +kernel) : Cond.code _ prog_12_method_7_code 3 (some .int) ∈ tables_1)) (st_lw (List.mem_of_getElem? (i := 414) (by decide +kernel))) (st_lw (List.mem_of_getElem? (i := 415) (by decide +kernel)))
theorem cX3_101_9 {M : MT} (hM : M.1.cls = RX3) : Site M (.invokevirtual 101) mX9_or 2 (some 9) := Site.U (x := ⟨"SaidShorter$Stranger", "or", "(II)I"⟩) (owner := "SaidShorter$Stranger") okX9_or (t := 9) rfl (by decide) ⟨by decide, by decide⟩ (by rw [hM]; exact (st_lw (List.mem_of_getElem? (i := 604) (by decide +kernel)))) (st_lw (List.mem_of_getElem? (i := 410) (by decide +kernel))) (st_lw (List.mem_of_getElem? (i := 408) (by decide +kernel))) (st_lw (List.mem_of_getElem? (i := 424) (by decide +kernel) : Cond.code _ prog_12_method_7_code 3 (some .int) ∈ tables_1)) (st_lw (List.mem_of_getElem? (i := 417) (by decide +kernel))) (st_lw (List.mem_of_getElem? (i := 418) (by decide +kernel)))
theorem cX3_101_10 {M : MT} (hM : M.1.cls = RX3) : Site M (.invokevirtual 101) mX10_or 2 (some 10) := Site.V okX10_or (t := 10) rfl (by rw [hM]; exact (st_lw (List.mem_of_getElem? (i := 604) (by decide +kernel)))) (st_lw (List.mem_of_getElem? (i := 408) (by decide +kernel))) (st_lw (List.mem_of_getElem? (i := 409) (by decide +kernel)))
theorem cX4_1 {M : MT} {t : Nat} (hM : M.1.cls = RX4) : Site M (.invokespecial 1) mX10_init 1 (some t) := Site.I okX10_init rfl rfl (by rw [hM]; exact (st_lw (List.mem_of_getElem? (i := 313) (by decide +kernel)))) (st_lw (List.mem_of_getElem? (i := 101) (by decide +kernel)))
theorem oX5_3 : Cond.methodLink RX5 3 Lib.objectInit ∈ tables_1 := (List.mem_of_getElem? (i := 30) (by decide +kernel))
theorem qX5_9 : GPF RX5 9 5 0 := ⟨TX5 0, (st_lw (List.mem_of_getElem? (i := 31) (by decide +kernel))), ⟨_, rfl, by decide, rfl⟩, rfl, rfl⟩
theorem pX5_15 : GP RX5 15 5 1 := ⟨TX5 1, Or.inl (st_lw (List.mem_of_getElem? (i := 32) (by decide +kernel))), ⟨_, rfl, by decide, rfl⟩, rfl⟩
theorem pX5_19 : GP RX5 19 5 2 := ⟨TX5 2, Or.inl (st_lw (List.mem_of_getElem? (i := 33) (by decide +kernel))), ⟨_, rfl, by decide, rfl⟩, rfl⟩
theorem gX5_15 : GF RX5 15 5 1 := ⟨TX5 1, Or.inl (st_lw (List.mem_of_getElem? (i := 32) (by decide +kernel))), _, rfl, by decide, rfl⟩
theorem gX5_9 : GF RX5 9 5 0 := ⟨TX5 0, Or.inl (st_lw (List.mem_of_getElem? (i := 31) (by decide +kernel))), _, rfl, by decide, rfl⟩
theorem gX5_19 : GF RX5 19 5 2 := ⟨TX5 2, Or.inl (st_lw (List.mem_of_getElem? (i := 33) (by decide +kernel))), _, rfl, by decide, rfl⟩
theorem cX5_22 {M : MT} (hM : M.1.cls = RX5) : Site M (.invokevirtual 22) mX5_passStatement 0 (some 5) := Site.V okX5_passStatement (t := 5) rfl (by rw [hM]; exact (st_lw (List.mem_of_getElem? (i := 234) (by decide +kernel)))) (st_lw (List.mem_of_getElem? (i := 236) (by decide +kernel))) (List.mem_append_left _ (List.mem_of_getElem? (i := 1) (by decide +kernel)))
theorem cX5_26 {M : MT} (hM : M.1.cls = RX5) : Site M (.invokevirtual 26) mX5_haveMore 0 (some 5) := Site.V okX5_haveMore (t := 5) rfl (by rw [hM]; exact (st_lw (List.mem_of_getElem? (i := 253) (by decide +kernel)))) (st_lw (List.mem_of_getElem? (i := 254) (by decide +kernel))) (st_lw (List.mem_of_getElem? (i := 255) (by decide +kernel)))
theorem cX5_29 {M : MT} (hM : M.1.cls = RX5) : Site M (.invokevirtual 29) mX5_here 0 (some 5) := Site.V okX5_here (t := 5) rfl (by rw [hM]; exact (st_lw (List.mem_of_getElem? (i := 238) (by decide +kernel)))) (st_lw (List.mem_of_getElem? (i := 240) (by decide +kernel))) (List.mem_append_left _ (List.mem_of_getElem? (i := 2) (by decide +kernel)))
theorem cX5_33 {M : MT} (hM : M.1.cls = RX5) : Site M (.invokevirtual 33) mX5_next 0 (some 5) := Site.V okX5_next (t := 5) rfl (by rw [hM]; exact (st_lw (List.mem_of_getElem? (i := 298) (by decide +kernel)))) (st_lw (List.mem_of_getElem? (i := 291) (by decide +kernel))) (st_lw (List.mem_of_getElem? (i := 292) (by decide +kernel)))
theorem pX5_36 : GP RX5 36 7 1 := ⟨TX7 1, Or.inl (st_lw (List.mem_of_getElem? (i := 64) (by decide +kernel))), ⟨_, rfl, by decide, rfl⟩, rfl⟩
theorem cX5_41 {M : MT} (hM : M.1.cls = RX5) : Site M (.invokevirtual 41) mX7_add 1 (some 7) := Site.V okX7_add (t := 7) rfl (by rw [hM]; exact (st_lw (List.mem_of_getElem? (i := 352) (by decide +kernel)))) (st_lw (List.mem_of_getElem? (i := 274) (by decide +kernel))) (st_lw (List.mem_of_getElem? (i := 275) (by decide +kernel)))
theorem cX5_45 {M : MT} (hM : M.1.cls = RX5) : Site M (.invokestatic 45) mX7_partsOf 1 none := Site.S okX7_partsOf (by rw [hM]; exact (st_lw (List.mem_of_getElem? (i := 250) (by decide +kernel)))) (st_lw (List.mem_of_getElem? (i := 251) (by decide +kernel)))
theorem cX5_49 {M : MT} (hM : M.1.cls = RX5) : Site M (.invokevirtual 49) mX5_passWithin 2 (some 5) := Site.V okX5_passWithin (t := 5) rfl (by rw [hM]; exact (st_lw (List.mem_of_getElem? (i := 242) (by decide +kernel)))) (st_lw (List.mem_of_getElem? (i := 244) (by decide +kernel))) (List.mem_append_left _ (List.mem_of_getElem? (i := 3) (by decide +kernel)))
theorem cX5_53 {M : MT} (hM : M.1.cls = RX5) : Site M (.invokevirtual 53) mX5_passSaying 0 (some 5) := Site.V okX5_passSaying (t := 5) rfl (by rw [hM]; exact (st_lw (List.mem_of_getElem? (i := 246) (by decide +kernel)))) (st_lw (List.mem_of_getElem? (i := 248) (by decide +kernel))) (List.mem_append_left _ (List.mem_of_getElem? (i := 4) (by decide +kernel)))
theorem oX6_3 : Cond.methodLink RX6 3 Lib.objectInit ∈ tables_1 := (List.mem_of_getElem? (i := 115) (by decide +kernel))
theorem nX6_9 : New RX6 9 10 1 [.inl 0] := ⟨_, rfl, rfl, (List.mem_of_getElem? (i := 116) (by decide +kernel)), (List.mem_of_getElem? (i := 99) (by decide +kernel)), (List.mem_of_getElem? (i := 6) (by decide +kernel)), by decide, rfl⟩
theorem cX6_11 {M : MT} {t : Nat} (hM : M.1.cls = RX6) : Site M (.invokespecial 11) mX10_init 1 (some t) := Site.I okX10_init rfl rfl (by rw [hM]; exact (st_lw (List.mem_of_getElem? (i := 117) (by decide +kernel)))) (st_lw (List.mem_of_getElem? (i := 101) (by decide +kernel)))
theorem pX6_14 : GP RX6 14 6 0 := ⟨TX6 0, Or.inl (st_lw (List.mem_of_getElem? (i := 118) (by decide +kernel))), ⟨_, rfl, by decide, rfl⟩, rfl⟩
theorem qX6_20 : GPF RX6 20 6 1 := ⟨TX6 1, (st_lw (List.mem_of_getElem? (i := 120) (by decide +kernel))), ⟨_, rfl, by decide, rfl⟩, rfl, rfl⟩
theorem qX6_24 : GPF RX6 24 6 2 := ⟨TX6 2, (st_lw (List.mem_of_getElem? (i := 122) (by decide +kernel))), ⟨_, rfl, by decide, rfl⟩, rfl, rfl⟩
theorem gX6_20 : GF RX6 20 6 1 := ⟨TX6 1, Or.inl (st_lw (List.mem_of_getElem? (i := 120) (by decide +kernel))), _, rfl, by decide, rfl⟩
theorem gX6_27 : GF RX6 27 7 1 := ⟨TX7 1, Or.inl (st_lw (List.mem_of_getElem? (i := 61) (by decide +kernel))), _, rfl, by decide, rfl⟩
theorem gX6_33 : GF RX6 33 7 0 := ⟨TX7 0, Or.inl (st_lw (List.mem_of_getElem? (i := 58) (by decide +kernel))), _, rfl, by decide, rfl⟩
theorem cX6_36 {M : MT} (hM : M.1.cls = RX6) : Site M (.invokevirtual 36) mX6_hear 2 (some 6) := Site.V okX6_hear (t := 6) rfl (by rw [hM]; exact (st_lw (List.mem_of_getElem? (i := 369) (by decide +kernel)))) (st_lw (List.mem_of_getElem? (i := 371) (by decide +kernel))) (List.mem_append_left _ (List.mem_of_getElem? (i := 8) (by decide +kernel)))
theorem gX6_24 : GF RX6 24 6 2 := ⟨TX6 2, Or.inl (st_lw (List.mem_of_getElem? (i := 122) (by decide +kernel))), _, rfl, by decide, rfl⟩
theorem cX6_40 {M : MT} (hM : M.1.cls = RX6) : Site M (.invokestatic 40) mX7_partsOf 1 none := Site.S okX7_partsOf (by rw [hM]; exact (st_lw (List.mem_of_getElem? (i := 373) (by decide +kernel)))) (st_lw (List.mem_of_getElem? (i := 251) (by decide +kernel)))
theorem gX6_14 : GF RX6 14 6 0 := ⟨TX6 0, Or.inl (st_lw (List.mem_of_getElem? (i := 118) (by decide +kernel))), _, rfl, by decide, rfl⟩
theorem cX6_44_0 {M : MT} (hM : M.1.cls = RX6) : Site M (.invokevirtual 44) mX10_not 1 (some 0) := Site.V okX10_not (t := 0) rfl (by rw [hM]; exact (st_lw (List.mem_of_getElem? (i := 374) (by decide +kernel)))) (st_lw (List.mem_of_getElem? (i := 375) (by decide +kernel))) (st_lw (List.mem_of_getElem? (i := 378) (by decide +kernel)))
theorem cX6_44_1 {M : MT} (hM : M.1.cls = RX6) : Site M (.invokevirtual 44) mX1_not 1 (some 1) := Site.U (x := ⟨"SaidShorter$Stranger", "not", "(I)I"⟩) (owner := "SaidShorter$Stranger") okX1_not (t := 1) rfl (by decide) ⟨by decide, by decide⟩ (by rw [hM]; exact (st_lw (List.mem_of_getElem? (i := 374) (by decide +kernel)))) (st_lw (List.mem_of_getElem? (i := 377) (by decide +kernel))) (st_lw (List.mem_of_getElem? (i := 375) (by decide +kernel))) (st_lw (List.mem_of_getElem? (i := 394) (by decide +kernel) : Cond.code _ prog_12_method_4_code 2 (some .int) ∈ tables_1)) (st_lw (List.mem_of_getElem? (i := 379) (by decide +kernel))) (st_lw (List.mem_of_getElem? (i := 380) (by decide +kernel)))
theorem cX6_44_2 {M : MT} (hM : M.1.cls = RX6) : Site M (.invokevirtual 44) mX2_not 1 (some 2) := Site.U (x := ⟨"SaidShorter$Stranger", "not", "(I)I"⟩) (owner := "SaidShorter$Stranger") okX2_not (t := 2) rfl (by decide) ⟨by decide, by decide⟩ (by rw [hM]; exact (st_lw (List.mem_of_getElem? (i := 374) (by decide +kernel)))) (st_lw (List.mem_of_getElem? (i := 377) (by decide +kernel))) (st_lw (List.mem_of_getElem? (i := 375) (by decide +kernel))) (st_lw (List.mem_of_getElem? (i := 394) (by decide +kernel) : Cond.code _ prog_12_method_4_code 2 (some .int) ∈ tables_1)) (st_lw (List.mem_of_getElem? (i := 382) (by decide +kernel))) (st_lw (List.mem_of_getElem? (i := 383) (by decide +kernel)))
theorem cX6_44_4 {M : MT} (hM : M.1.cls = RX6) : Site M (.invokevirtual 44) mX10_not 1 (some 4) := Site.V okX10_not (t := 4) rfl (by rw [hM]; exact (st_lw (List.mem_of_getElem? (i := 374) (by decide +kernel)))) (st_lw (List.mem_of_getElem? (i := 375) (by decide +kernel))) (st_lw (List.mem_of_getElem? (i := 392) (by decide +kernel)))
theorem cX6_44_9 {M : MT} (hM : M.1.cls = RX6) : Site M (.invokevirtual 44) mX10_not 1 (some 9) := Site.V okX10_not (t := 9) rfl (by rw [hM]; exact (st_lw (List.mem_of_getElem? (i := 374) (by decide +kernel)))) (st_lw (List.mem_of_getElem? (i := 375) (by decide +kernel))) (st_lw (List.mem_of_getElem? (i := 393) (by decide +kernel)))
theorem cX6_44_10 {M : MT} (hM : M.1.cls = RX6) : Site M (.invokevirtual 44) mX10_not 1 (some 10) := Site.V okX10_not (t := 10) rfl (by rw [hM]; exact (st_lw (List.mem_of_getElem? (i := 374) (by decide +kernel)))) (st_lw (List.mem_of_getElem? (i := 375) (by decide +kernel))) (st_lw (List.mem_of_getElem? (i := 376) (by decide +kernel)))
theorem cX6_47_0 {M : MT} (hM : M.1.cls = RX6) : Site M (.invokevirtual 47) mX0_and 2 (some 0) := Site.U (x := ⟨"SaidShorter$Stranger", "and", "(II)I"⟩) (owner := "SaidShorter$Stranger") okX0_and (t := 0) rfl (by decide) ⟨by decide, by decide⟩ (by rw [hM]; exact (st_lw (List.mem_of_getElem? (i := 395) (by decide +kernel)))) (st_lw (List.mem_of_getElem? (i := 398) (by decide +kernel))) (st_lw (List.mem_of_getElem? (i := 396) (by decide +kernel))) (st_lw (List.mem_of_getElem? (i := 406) (by decide +kernel) : Cond.code _ prog_12_method_5_code 3 (some .int) ∈ tables_1)) (st_lw (List.mem_of_getElem? (i := 399) (by decide +kernel))) (st_lw (List.mem_of_getElem? (i := 400) (by decide +kernel)))
theorem cX6_47_1 {M : MT} (hM : M.1.cls = RX6) : Site M (.invokevirtual 47) mX10_and 2 (some 1) := Site.V okX10_and (t := 1) rfl (by rw [hM]; exact (st_lw (List.mem_of_getElem? (i := 395) (by decide +kernel)))) (st_lw (List.mem_of_getElem? (i := 396) (by decide +kernel))) (st_lw (List.mem_of_getElem? (i := 402) (by decide +kernel)))
theorem cX6_47_2 {M : MT} (hM : M.1.cls = RX6) : Site M (.invokevirtual 47) mX10_and 2 (some 2) := Site.V okX10_and (t := 2) rfl (by rw [hM]; exact (st_lw (List.mem_of_getElem? (i := 395) (by decide +kernel)))) (st_lw (List.mem_of_getElem? (i := 396) (by decide +kernel))) (st_lw (List.mem_of_getElem? (i := 403) (by decide +kernel)))
theorem cX6_47_4 {M : MT} (hM : M.1.cls = RX6) : Site M (.invokevirtual 47) mX10_and 2 (some 4) := Site.V okX10_and (t := 4) rfl (by rw [hM]; exact (st_lw (List.mem_of_getElem? (i := 395) (by decide +kernel)))) (st_lw (List.mem_of_getElem? (i := 396) (by decide +kernel))) (st_lw (List.mem_of_getElem? (i := 404) (by decide +kernel)))
theorem cX6_47_9 {M : MT} (hM : M.1.cls = RX6) : Site M (.invokevirtual 47) mX10_and 2 (some 9) := Site.V okX10_and (t := 9) rfl (by rw [hM]; exact (st_lw (List.mem_of_getElem? (i := 395) (by decide +kernel)))) (st_lw (List.mem_of_getElem? (i := 396) (by decide +kernel))) (st_lw (List.mem_of_getElem? (i := 405) (by decide +kernel)))
theorem cX6_47_10 {M : MT} (hM : M.1.cls = RX6) : Site M (.invokevirtual 47) mX10_and 2 (some 10) := Site.V okX10_and (t := 10) rfl (by rw [hM]; exact (st_lw (List.mem_of_getElem? (i := 395) (by decide +kernel)))) (st_lw (List.mem_of_getElem? (i := 396) (by decide +kernel))) (st_lw (List.mem_of_getElem? (i := 397) (by decide +kernel)))
theorem cX6_50_0 {M : MT} (hM : M.1.cls = RX6) : Site M (.invokevirtual 50) mX10_or 2 (some 0) := Site.V okX10_or (t := 0) rfl (by rw [hM]; exact (st_lw (List.mem_of_getElem? (i := 407) (by decide +kernel)))) (st_lw (List.mem_of_getElem? (i := 408) (by decide +kernel))) (st_lw (List.mem_of_getElem? (i := 411) (by decide +kernel)))
theorem cX6_50_1 {M : MT} (hM : M.1.cls = RX6) : Site M (.invokevirtual 50) mX10_or 2 (some 1) := Site.V okX10_or (t := 1) rfl (by rw [hM]; exact (st_lw (List.mem_of_getElem? (i := 407) (by decide +kernel)))) (st_lw (List.mem_of_getElem? (i := 408) (by decide +kernel))) (st_lw (List.mem_of_getElem? (i := 412) (by decide +kernel)))
theorem cX6_50_2 {M : MT} (hM : M.1.cls = RX6) : Site M (.invokevirtual 50) mX10_or 2 (some 2) := Site.V okX10_or (t := 2) rfl (by rw [hM]; exact (st_lw (List.mem_of_getElem? (i := 407) (by decide +kernel)))) (st_lw (List.mem_of_getElem? (i := 408) (by decide +kernel))) (st_lw (List.mem_of_getElem? (i := 413) (by decide +kernel)))
theorem cX6_50_4 {M : MT} (hM : M.1.cls = RX6) : Site M (.invokevirtual 50) mX4_or 2 (some 4) := Site.U (x := ⟨"SaidShorter$Stranger", "or", "(II)I"⟩) (owner := "SaidShorter$Stranger") okX4_or (t := 4) rfl (by decide) ⟨by decide, by decide⟩ (by rw [hM]; exact (st_lw (List.mem_of_getElem? (i := 407) (by decide +kernel)))) (st_lw (List.mem_of_getElem? (i := 410) (by decide +kernel))) (st_lw (List.mem_of_getElem? (i := 408) (by decide +kernel))) (st_lw (List.mem_of_getElem? (i := 424) (by decide +kernel) : Cond.code _ prog_12_method_7_code 3 (some .int) ∈ tables_1)) (st_lw (List.mem_of_getElem? (i := 414) (by decide +kernel))) (st_lw (List.mem_of_getElem? (i := 415) (by decide +kernel)))
theorem cX6_50_9 {M : MT} (hM : M.1.cls = RX6) : Site M (.invokevirtual 50) mX9_or 2 (some 9) := Site.U (x := ⟨"SaidShorter$Stranger", "or", "(II)I"⟩) (owner := "SaidShorter$Stranger") okX9_or (t := 9) rfl (by decide) ⟨by decide, by decide⟩ (by rw [hM]; exact (st_lw (List.mem_of_getElem? (i := 407) (by decide +kernel)))) (st_lw (List.mem_of_getElem? (i := 410) (by decide +kernel))) (st_lw (List.mem_of_getElem? (i := 408) (by decide +kernel))) (st_lw (List.mem_of_getElem? (i := 424) (by decide +kernel) : Cond.code _ prog_12_method_7_code 3 (some .int) ∈ tables_1)) (st_lw (List.mem_of_getElem? (i := 417) (by decide +kernel))) (st_lw (List.mem_of_getElem? (i := 418) (by decide +kernel)))
theorem cX6_50_10 {M : MT} (hM : M.1.cls = RX6) : Site M (.invokevirtual 50) mX10_or 2 (some 10) := Site.V okX10_or (t := 10) rfl (by rw [hM]; exact (st_lw (List.mem_of_getElem? (i := 407) (by decide +kernel)))) (st_lw (List.mem_of_getElem? (i := 408) (by decide +kernel))) (st_lw (List.mem_of_getElem? (i := 409) (by decide +kernel)))
theorem cX6_53 {M : MT} (hM : M.1.cls = RX6) : Site M (.invokevirtual 53) mX6_meaningOfLeaf 1 (some 6) := Site.V okX6_meaningOfLeaf (t := 6) rfl (by rw [hM]; exact (st_lw (List.mem_of_getElem? (i := 425) (by decide +kernel)))) (st_lw (List.mem_of_getElem? (i := 427) (by decide +kernel))) (List.mem_append_left _ (List.mem_of_getElem? (i := 9) (by decide +kernel)))
theorem sX6_56 : GS RX6 56 4 := ⟨by decide, by decide, Or.inr ⟨"SaidShorter", (st_lw (List.mem_of_getElem? (i := 429) (by decide +kernel)))⟩⟩
theorem cX6_59 {M : MT} (hM : M.1.cls = RX6) : Site M (.invokestatic 59) mX11_noName 1 none := Site.SN (host := "SaidShorter") okX11_noName (by rw [hM]; exact (st_lw (List.mem_of_getElem? (i := 431) (by decide +kernel)))) (st_lw (List.mem_of_getElem? (i := 432) (by decide +kernel)))
theorem oX7_3 : Cond.methodLink RX7 3 Lib.objectInit ∈ tables_1 := (List.mem_of_getElem? (i := 56) (by decide +kernel))
theorem qX7_9 : GPF RX7 9 7 0 := ⟨TX7 0, (st_lw (List.mem_of_getElem? (i := 57) (by decide +kernel))), ⟨_, rfl, by decide, rfl⟩, rfl, rfl⟩
theorem pX7_15 : GP RX7 15 7 1 := ⟨TX7 1, Or.inl (st_lw (List.mem_of_getElem? (i := 60) (by decide +kernel))), ⟨_, rfl, by decide, rfl⟩, rfl⟩
theorem gX7_15 : GF RX7 15 7 1 := ⟨TX7 1, Or.inl (st_lw (List.mem_of_getElem? (i := 60) (by decide +kernel))), _, rfl, by decide, rfl⟩
theorem gX7_9 : GF RX7 9 7 0 := ⟨TX7 0, Or.inl (st_lw (List.mem_of_getElem? (i := 57) (by decide +kernel))), _, rfl, by decide, rfl⟩
theorem cX7_19 {M : MT} (hM : M.1.cls = RX7) : Site M (.invokevirtual 19) mX7_addFrom 3 (some 7) := Site.V okX7_addFrom (t := 7) rfl (by rw [hM]; exact (st_lw (List.mem_of_getElem? (i := 269) (by decide +kernel)))) (st_lw (List.mem_of_getElem? (i := 271) (by decide +kernel))) (List.mem_append_left _ (List.mem_of_getElem? (i := 6) (by decide +kernel)))
theorem cX7_23 {M : MT} (hM : M.1.cls = RX7) : Site M (.invokevirtual 23) mX7_behind 1 (some 7) := Site.V okX7_behind (t := 7) rfl (by rw [hM]; exact (st_lw (List.mem_of_getElem? (i := 655) (by decide +kernel)))) (st_lw (List.mem_of_getElem? (i := 657) (by decide +kernel))) (List.mem_append_left _ (List.mem_of_getElem? (i := 28) (by decide +kernel)))
theorem cX7_27 {M : MT} (hM : M.1.cls = RX7) : Site M (.invokevirtual 27) mX7_add 1 (some 7) := Site.V okX7_add (t := 7) rfl (by rw [hM]; exact (st_lw (List.mem_of_getElem? (i := 273) (by decide +kernel)))) (st_lw (List.mem_of_getElem? (i := 274) (by decide +kernel))) (st_lw (List.mem_of_getElem? (i := 275) (by decide +kernel)))
theorem cX7_31 {M : MT} (hM : M.1.cls = RX7) : Site M (.invokestatic 31) mX7_partsOf 1 none := Site.S okX7_partsOf (by rw [hM]; exact (st_lw (List.mem_of_getElem? (i := 659) (by decide +kernel)))) (st_lw (List.mem_of_getElem? (i := 251) (by decide +kernel)))
theorem oX8_3 : Cond.methodLink RX8 3 Lib.objectInit ∈ tables_1 := (List.mem_of_getElem? (i := 47) (by decide +kernel))
theorem aX8_9 : NewA RX8 9 32 "SaidShorter$Stranger" := ⟨(List.mem_of_getElem? (i := 48) (by decide +kernel)), (List.mem_of_getElem? (i := 49) (by decide +kernel)), fun _ => rfl⟩
theorem qX8_11 : GPF RX8 11 8 0 := ⟨TX8 0, (st_lw (List.mem_of_getElem? (i := 73) (by decide +kernel))), ⟨_, rfl, by decide, rfl⟩, rfl, rfl⟩
theorem qX8_17 : GPF RX8 17 8 1 := ⟨TX8 1, (st_lw (List.mem_of_getElem? (i := 75) (by decide +kernel))), ⟨_, rfl, by decide, rfl⟩, rfl, rfl⟩
theorem pX8_21 : GP RX8 21 8 2 := ⟨TX8 2, Or.inl (st_lw (List.mem_of_getElem? (i := 77) (by decide +kernel))), ⟨_, rfl, by decide, rfl⟩, rfl⟩
theorem aX8_25 : NewA RX8 25 33 "SaidShorter$Saying" := ⟨(List.mem_of_getElem? (i := 50) (by decide +kernel)), (List.mem_of_getElem? (i := 51) (by decide +kernel)), fun _ => rfl⟩
theorem qX8_27 : GPF RX8 27 8 3 := ⟨TX8 3, (st_lw (List.mem_of_getElem? (i := 79) (by decide +kernel))), ⟨_, rfl, by decide, rfl⟩, rfl, rfl⟩
theorem pX8_31 : GP RX8 31 8 4 := ⟨TX8 4, Or.inl (st_lw (List.mem_of_getElem? (i := 81) (by decide +kernel))), ⟨_, rfl, by decide, rfl⟩, rfl⟩
theorem qX8_34 : GPF RX8 34 8 5 := ⟨TX8 5, (st_lw (List.mem_of_getElem? (i := 83) (by decide +kernel))), ⟨_, rfl, by decide, rfl⟩, rfl, rfl⟩
theorem gX8_27 : GF RX8 27 8 3 := ⟨TX8 3, Or.inl (st_lw (List.mem_of_getElem? (i := 79) (by decide +kernel))), _, rfl, by decide, rfl⟩
theorem nX8_25 : New RX8 25 7 2 [.inr 0, .inl 0] := ⟨_, rfl, rfl, (List.mem_of_getElem? (i := 50) (by decide +kernel)), (List.mem_of_getElem? (i := 52) (by decide +kernel)), (List.mem_of_getElem? (i := 4) (by decide +kernel)), by decide, rfl⟩
theorem cX8_37 {M : MT} {t : Nat} (hM : M.1.cls = RX8) : Site M (.invokespecial 37) mX7_init 0 (some t) := Site.IN (host := "SaidShorter") okX7_init rfl rfl (by rw [hM]; exact (st_lw (List.mem_of_getElem? (i := 53) (by decide +kernel)))) (st_lw (List.mem_of_getElem? (i := 54) (by decide +kernel)))
theorem gX8_34 : GF RX8 34 8 5 := ⟨TX8 5, Or.inl (st_lw (List.mem_of_getElem? (i := 83) (by decide +kernel))), _, rfl, by decide, rfl⟩
theorem cX8_38 {M : MT} (hM : M.1.cls = RX8) : Site M (.invokestatic 38) mJ7_fill_53178 2 none := Site.S okJ7_fill_53178 (by rw [hM]; exact (st_lw (List.mem_of_getElem? (i := 70) (by decide +kernel)))) (st_lw (List.mem_of_getElem? (i := 71) (by decide +kernel)))
theorem gX8_21 : GF RX8 21 8 2 := ⟨TX8 2, Or.inl (st_lw (List.mem_of_getElem? (i := 77) (by decide +kernel))), _, rfl, by decide, rfl⟩
theorem gX8_11 : GF RX8 11 8 0 := ⟨TX8 0, Or.inl (st_lw (List.mem_of_getElem? (i := 73) (by decide +kernel))), _, rfl, by decide, rfl⟩
theorem gX8_17 : GF RX8 17 8 1 := ⟨TX8 1, Or.inl (st_lw (List.mem_of_getElem? (i := 75) (by decide +kernel))), _, rfl, by decide, rfl⟩
theorem gX8_31 : GF RX8 31 8 4 := ⟨TX8 4, Or.inl (st_lw (List.mem_of_getElem? (i := 81) (by decide +kernel))), _, rfl, by decide, rfl⟩
theorem cX8_44 {M : MT} (hM : M.1.cls = RX8) : Site M (.invokevirtual 44) mX7_copy 1 (some 7) := Site.V okX7_copy (t := 7) rfl (by rw [hM]; exact (st_lw (List.mem_of_getElem? (i := 265) (by decide +kernel)))) (st_lw (List.mem_of_getElem? (i := 266) (by decide +kernel))) (st_lw (List.mem_of_getElem? (i := 267) (by decide +kernel)))
theorem cX8_48 {M : MT} (hM : M.1.cls = RX8) : Site M (.invokestatic 48) mX10_ofKind 2 none := Site.S okX10_ofKind (by rw [hM]; exact (st_lw (List.mem_of_getElem? (i := 303) (by decide +kernel)))) (st_lw (List.mem_of_getElem? (i := 304) (by decide +kernel)))
theorem cX8_52 {M : MT} (hM : M.1.cls = RX8) : Site M (.invokestatic 52) mX11_noName 1 none := Site.SN (host := "SaidShorter") okX11_noName (by rw [hM]; exact (st_lw (List.mem_of_getElem? (i := 438) (by decide +kernel)))) (st_lw (List.mem_of_getElem? (i := 432) (by decide +kernel)))
theorem gX8_56 : GF RX8 56 7 1 := ⟨TX7 1, Or.inl (st_lw (List.mem_of_getElem? (i := 62) (by decide +kernel))), _, rfl, by decide, rfl⟩
theorem cX9_1 {M : MT} {t : Nat} (hM : M.1.cls = RX9) : Site M (.invokespecial 1) mX4_init 1 (some t) := Site.I okX4_init rfl rfl (by rw [hM]; exact (st_lw (List.mem_of_getElem? (i := 337) (by decide +kernel)))) (st_lw (List.mem_of_getElem? (i := 311) (by decide +kernel)))
theorem cX9_7 {M : MT} (hM : M.1.cls = RX9) : Site M (.invokespecial 7) mX4_or 2 (some 9) := Site.SU okX4_or (t := 9) rfl (by decide) (by rw [hM]; exact (st_lw (List.mem_of_getElem? (i := 420) (by decide +kernel)))) (st_lw (List.mem_of_getElem? (i := 1133) (by decide +kernel))) (by rw [hM]; exact (st_lw (List.mem_of_getElem? (i := 339) (by decide +kernel)))) (st_lw (List.mem_of_getElem? (i := 415) (by decide +kernel)))
theorem cX9_11 {M : MT} (hM : M.1.cls = RX9) : Site M (.invokevirtual 11) mX10_worldOfFigure 0 (some 9) := Site.U (x := ⟨"SaidShorter$Sly", "worldOfFigure", "()I"⟩) (owner := "SaidShorter$Stranger") okX10_worldOfFigure (t := 9) rfl (by decide) ⟨by decide, by decide⟩ (by rw [hM]; exact (st_lw (List.mem_of_getElem? (i := 421) (by decide +kernel)))) (st_lw (List.mem_of_getElem? (i := 422) (by decide +kernel))) (st_lw (List.mem_of_getElem? (i := 390) (by decide +kernel))) (st_lw (List.mem_of_getElem? (i := 391) (by decide +kernel) : Cond.code _ prog_12_method_8_code 1 (some .int) ∈ tables_1)) (st_lw (List.mem_of_getElem? (i := 423) (by decide +kernel))) (st_lw (List.mem_of_getElem? (i := 390) (by decide +kernel)))
theorem oX10_3 : Cond.methodLink RX10 3 Lib.objectInit ∈ tables_1 := (List.mem_of_getElem? (i := 103) (by decide +kernel))
theorem qX10_9_0 : GPF RX10 9 0 0 := ⟨TX0 0, (st_lw (List.mem_of_getElem? (i := 104) (by decide +kernel))), ⟨_, rfl, by decide, rfl⟩, rfl, rfl⟩
theorem qX10_9_1 : GPF RX10 9 1 0 := ⟨TX1 0, (st_lw (List.mem_of_getElem? (i := 104) (by decide +kernel))), ⟨_, rfl, by decide, rfl⟩, rfl, rfl⟩
theorem qX10_9_2 : GPF RX10 9 2 0 := ⟨TX2 0, (st_lw (List.mem_of_getElem? (i := 104) (by decide +kernel))), ⟨_, rfl, by decide, rfl⟩, rfl, rfl⟩
theorem qX10_9_4 : GPF RX10 9 4 0 := ⟨TX4 0, (st_lw (List.mem_of_getElem? (i := 104) (by decide +kernel))), ⟨_, rfl, by decide, rfl⟩, rfl, rfl⟩
theorem qX10_9_9 : GPF RX10 9 9 0 := ⟨TX9 0, (st_lw (List.mem_of_getElem? (i := 104) (by decide +kernel))), ⟨_, rfl, by decide, rfl⟩, rfl, rfl⟩
theorem qX10_9_10 : GPF RX10 9 10 0 := ⟨TX10 0, (st_lw (List.mem_of_getElem? (i := 104) (by decide +kernel))), ⟨_, rfl, by decide, rfl⟩, rfl, rfl⟩
theorem nX10_10 : New RX10 10 10 1 [.inl 0] := ⟨_, rfl, rfl, (List.mem_of_getElem? (i := 306) (by decide +kernel)), (List.mem_of_getElem? (i := 99) (by decide +kernel)), (List.mem_of_getElem? (i := 6) (by decide +kernel)), by decide, rfl⟩
theorem cX10_15 {M : MT} {t : Nat} (hM : M.1.cls = RX10) : Site M (.invokespecial 15) mX10_init 1 (some t) := Site.I okX10_init rfl rfl (by rw [hM]; exact (st_lw (List.mem_of_getElem? (i := 307) (by decide +kernel)))) (st_lw (List.mem_of_getElem? (i := 101) (by decide +kernel)))
theorem nX10_18 : New RX10 18 4 1 [.inl 0] := ⟨_, rfl, rfl, (List.mem_of_getElem? (i := 308) (by decide +kernel)), (List.mem_of_getElem? (i := 309) (by decide +kernel)), (List.mem_of_getElem? (i := 10) (by decide +kernel)), by decide, rfl⟩
theorem cX10_20 {M : MT} {t : Nat} (hM : M.1.cls = RX10) : Site M (.invokespecial 20) mX4_init 1 (some t) := Site.I okX4_init rfl rfl (by rw [hM]; exact (st_lw (List.mem_of_getElem? (i := 310) (by decide +kernel)))) (st_lw (List.mem_of_getElem? (i := 311) (by decide +kernel)))
theorem nX10_21 : New RX10 21 1 1 [.inl 0] := ⟨_, rfl, rfl, (List.mem_of_getElem? (i := 316) (by decide +kernel)), (List.mem_of_getElem? (i := 317) (by decide +kernel)), (List.mem_of_getElem? (i := 11) (by decide +kernel)), by decide, rfl⟩
theorem cX10_23 {M : MT} {t : Nat} (hM : M.1.cls = RX10) : Site M (.invokespecial 23) mX1_init 1 (some t) := Site.I okX1_init rfl rfl (by rw [hM]; exact (st_lw (List.mem_of_getElem? (i := 318) (by decide +kernel)))) (st_lw (List.mem_of_getElem? (i := 319) (by decide +kernel)))
theorem nX10_24 : New RX10 24 0 1 [.inl 0] := ⟨_, rfl, rfl, (List.mem_of_getElem? (i := 324) (by decide +kernel)), (List.mem_of_getElem? (i := 325) (by decide +kernel)), (List.mem_of_getElem? (i := 12) (by decide +kernel)), by decide, rfl⟩
theorem cX10_26 {M : MT} {t : Nat} (hM : M.1.cls = RX10) : Site M (.invokespecial 26) mX0_init 1 (some t) := Site.I okX0_init rfl rfl (by rw [hM]; exact (st_lw (List.mem_of_getElem? (i := 326) (by decide +kernel)))) (st_lw (List.mem_of_getElem? (i := 327) (by decide +kernel)))
theorem nX10_27 : New RX10 27 9 1 [.inl 0] := ⟨_, rfl, rfl, (List.mem_of_getElem? (i := 332) (by decide +kernel)), (List.mem_of_getElem? (i := 333) (by decide +kernel)), (List.mem_of_getElem? (i := 13) (by decide +kernel)), by decide, rfl⟩
theorem cX10_29 {M : MT} {t : Nat} (hM : M.1.cls = RX10) : Site M (.invokespecial 29) mX9_init 1 (some t) := Site.I okX9_init rfl rfl (by rw [hM]; exact (st_lw (List.mem_of_getElem? (i := 334) (by decide +kernel)))) (st_lw (List.mem_of_getElem? (i := 335) (by decide +kernel)))
theorem nX10_30 : New RX10 30 2 1 [.inl 0] := ⟨_, rfl, rfl, (List.mem_of_getElem? (i := 340) (by decide +kernel)), (List.mem_of_getElem? (i := 341) (by decide +kernel)), (List.mem_of_getElem? (i := 14) (by decide +kernel)), by decide, rfl⟩
theorem cX10_32 {M : MT} {t : Nat} (hM : M.1.cls = RX10) : Site M (.invokespecial 32) mX2_init 1 (some t) := Site.I okX2_init rfl rfl (by rw [hM]; exact (st_lw (List.mem_of_getElem? (i := 342) (by decide +kernel)))) (st_lw (List.mem_of_getElem? (i := 343) (by decide +kernel)))
theorem gX10_9_0 : GF RX10 9 0 0 := ⟨TX0 0, Or.inl (st_lw (List.mem_of_getElem? (i := 104) (by decide +kernel))), _, rfl, by decide, rfl⟩
theorem gX10_9_1 : GF RX10 9 1 0 := ⟨TX1 0, Or.inl (st_lw (List.mem_of_getElem? (i := 104) (by decide +kernel))), _, rfl, by decide, rfl⟩
theorem gX10_9_2 : GF RX10 9 2 0 := ⟨TX2 0, Or.inl (st_lw (List.mem_of_getElem? (i := 104) (by decide +kernel))), _, rfl, by decide, rfl⟩
theorem gX10_9_4 : GF RX10 9 4 0 := ⟨TX4 0, Or.inl (st_lw (List.mem_of_getElem? (i := 104) (by decide +kernel))), _, rfl, by decide, rfl⟩
theorem gX10_9_9 : GF RX10 9 9 0 := ⟨TX9 0, Or.inl (st_lw (List.mem_of_getElem? (i := 104) (by decide +kernel))), _, rfl, by decide, rfl⟩
theorem gX10_9_10 : GF RX10 9 10 0 := ⟨TX10 0, Or.inl (st_lw (List.mem_of_getElem? (i := 104) (by decide +kernel))), _, rfl, by decide, rfl⟩
theorem nL_7 : New RL 7 11 15 [.inr 0, .inr 0, .inr 0, .inr 0, .inl 0, .inr 0, .inl 0, .inr 0, .inr 0, .inr 0, .inr 0, .inr 0, .inr 0, .inr 0, .inl 0] := ⟨_, rfl, rfl, (List.mem_of_getElem? (i := 17) (by decide +kernel)), (List.mem_of_getElem? (i := 18) (by decide +kernel)), (List.mem_of_getElem? (i := 1) (by decide +kernel)), by decide, rfl⟩
theorem cL_9 {M : MT} {t : Nat} (hM : M.1.cls = RL) : Site M (.invokespecial 9) mX11_init 0 (some t) := Site.I okX11_init rfl rfl (by rw [hM]; exact (st_lw (List.mem_of_getElem? (i := 19) (by decide +kernel)))) (st_lw (List.mem_of_getElem? (i := 20) (by decide +kernel)))
theorem nL_10 : New RL 10 12 33 [.inr 0, .inr 0, .inr 0, .inr 0, .inr 0, .inr 0, .inr 0, .inl 0, .inl 0, .inr 0, .inr 0, .inr 0, .inr 0, .inr 0, .inr 0, .inl 0, .inl 0, .inl 0, .inr 0, .inl 0, .inl 0, .inl 0, .inr 0, .inr 0, .inl 0, .inr 0, .inl 0, .inr 0, .inl 0, .inl 0, .inr 0, .inl 0, .inl 0] := ⟨_, rfl, rfl, (List.mem_of_getElem? (i := 741) (by decide +kernel)), (List.mem_of_getElem? (i := 742) (by decide +kernel)), (List.mem_of_getElem? (i := 9) (by decide +kernel)), by decide, rfl⟩
theorem cL_12 {M : MT} {t : Nat} (hM : M.1.cls = RL) : Site M (.invokespecial 12) mX12_init 0 (some t) := Site.I okX12_init rfl rfl (by rw [hM]; exact (st_lw (List.mem_of_getElem? (i := 743) (by decide +kernel)))) (st_lw (List.mem_of_getElem? (i := 744) (by decide +kernel)))
theorem cL_13 {M : MT} (hM : M.1.cls = RL) : Site M (.invokevirtual 13) mX11_feed 1 (some 11) := Site.V okX11_feed (t := 11) rfl (by rw [hM]; exact (st_lw (List.mem_of_getElem? (i := 210) (by decide +kernel)))) (st_lw (List.mem_of_getElem? (i := 211) (by decide +kernel))) (st_lw (List.mem_of_getElem? (i := 212) (by decide +kernel)))
theorem cL_17 {M : MT} (hM : M.1.cls = RL) : Site M (.invokevirtual 17) mX12_feed 1 (some 12) := Site.V okX12_feed (t := 12) rfl (by rw [hM]; exact (st_lw (List.mem_of_getElem? (i := 847) (by decide +kernel)))) (st_lw (List.mem_of_getElem? (i := 848) (by decide +kernel))) (st_lw (List.mem_of_getElem? (i := 849) (by decide +kernel)))
theorem cL_18 {M : MT} (hM : M.1.cls = RL) : Site M (.invokevirtual 18) mX11_school 0 (some 11) := Site.V okX11_school (t := 11) rfl (by rw [hM]; exact (st_lw (List.mem_of_getElem? (i := 226) (by decide +kernel)))) (st_lw (List.mem_of_getElem? (i := 227) (by decide +kernel))) (st_lw (List.mem_of_getElem? (i := 228) (by decide +kernel)))
theorem cL_22 {M : MT} (hM : M.1.cls = RL) : Site M (.invokevirtual 22) mX12_school 0 (some 12) := Site.V okX12_school (t := 12) rfl (by rw [hM]; exact (st_lw (List.mem_of_getElem? (i := 858) (by decide +kernel)))) (st_lw (List.mem_of_getElem? (i := 859) (by decide +kernel))) (st_lw (List.mem_of_getElem? (i := 860) (by decide +kernel)))
theorem cL_23 {M : MT} (hM : M.1.cls = RL) : Site M (.invokevirtual 23) mX11_stranger 2 (some 11) := Site.V okX11_stranger (t := 11) rfl (by rw [hM]; exact (st_lw (List.mem_of_getElem? (i := 447) (by decide +kernel)))) (st_lw (List.mem_of_getElem? (i := 448) (by decide +kernel))) (st_lw (List.mem_of_getElem? (i := 449) (by decide +kernel)))
theorem cL_27 {M : MT} (hM : M.1.cls = RL) : Site M (.invokevirtual 27) mX12_stranger 2 (some 12) := Site.V okX12_stranger (t := 12) rfl (by rw [hM]; exact (st_lw (List.mem_of_getElem? (i := 960) (by decide +kernel)))) (st_lw (List.mem_of_getElem? (i := 961) (by decide +kernel))) (st_lw (List.mem_of_getElem? (i := 962) (by decide +kernel)))
theorem cL_28 {M : MT} (hM : M.1.cls = RL) : Site M (.invokevirtual 28) mX11_learn 3 (some 11) := Site.V okX11_learn (t := 11) rfl (by rw [hM]; exact (st_lw (List.mem_of_getElem? (i := 475) (by decide +kernel)))) (st_lw (List.mem_of_getElem? (i := 476) (by decide +kernel))) (st_lw (List.mem_of_getElem? (i := 477) (by decide +kernel)))
theorem cL_32 {M : MT} (hM : M.1.cls = RL) : Site M (.invokevirtual 32) mX12_learn 3 (some 12) := Site.V okX12_learn (t := 12) rfl (by rw [hM]; exact (st_lw (List.mem_of_getElem? (i := 964) (by decide +kernel)))) (st_lw (List.mem_of_getElem? (i := 965) (by decide +kernel))) (st_lw (List.mem_of_getElem? (i := 966) (by decide +kernel)))
theorem cL_33 {M : MT} (hM : M.1.cls = RL) : Site M (.invokevirtual 33) mX11_name 1 (some 11) := Site.V okX11_name (t := 11) rfl (by rw [hM]; exact (st_lw (List.mem_of_getElem? (i := 480) (by decide +kernel)))) (st_lw (List.mem_of_getElem? (i := 481) (by decide +kernel))) (st_lw (List.mem_of_getElem? (i := 482) (by decide +kernel)))
theorem cL_36 {M : MT} (hM : M.1.cls = RL) : Site M (.invokevirtual 36) mX12_name 1 (some 12) := Site.V okX12_name (t := 12) rfl (by rw [hM]; exact (st_lw (List.mem_of_getElem? (i := 971) (by decide +kernel)))) (st_lw (List.mem_of_getElem? (i := 972) (by decide +kernel))) (st_lw (List.mem_of_getElem? (i := 973) (by decide +kernel)))
theorem cL_37 {M : MT} (hM : M.1.cls = RL) : Site M (.invokevirtual 37) mX11_coin 2 (some 11) := Site.V okX11_coin (t := 11) rfl (by rw [hM]; exact (st_lw (List.mem_of_getElem? (i := 484) (by decide +kernel)))) (st_lw (List.mem_of_getElem? (i := 485) (by decide +kernel))) (st_lw (List.mem_of_getElem? (i := 486) (by decide +kernel)))
theorem cL_40 {M : MT} (hM : M.1.cls = RL) : Site M (.invokevirtual 40) mX12_coin 2 (some 12) := Site.V okX12_coin (t := 12) rfl (by rw [hM]; exact (st_lw (List.mem_of_getElem? (i := 975) (by decide +kernel)))) (st_lw (List.mem_of_getElem? (i := 976) (by decide +kernel))) (st_lw (List.mem_of_getElem? (i := 977) (by decide +kernel)))
theorem cL_41 {M : MT} (hM : M.1.cls = RL) : Site M (.invokevirtual 41) mX11_saying 2 (some 11) := Site.V okX11_saying (t := 11) rfl (by rw [hM]; exact (st_lw (List.mem_of_getElem? (i := 488) (by decide +kernel)))) (st_lw (List.mem_of_getElem? (i := 489) (by decide +kernel))) (st_lw (List.mem_of_getElem? (i := 490) (by decide +kernel)))
theorem cL_44 {M : MT} (hM : M.1.cls = RL) : Site M (.invokevirtual 44) mX12_saying 2 (some 12) := Site.V okX12_saying (t := 12) rfl (by rw [hM]; exact (st_lw (List.mem_of_getElem? (i := 979) (by decide +kernel)))) (st_lw (List.mem_of_getElem? (i := 980) (by decide +kernel))) (st_lw (List.mem_of_getElem? (i := 981) (by decide +kernel)))
theorem cL_45 {M : MT} (hM : M.1.cls = RL) : Site M (.invokevirtual 45) mX11_leave 0 (some 11) := Site.V okX11_leave (t := 11) rfl (by rw [hM]; exact (st_lw (List.mem_of_getElem? (i := 496) (by decide +kernel)))) (st_lw (List.mem_of_getElem? (i := 497) (by decide +kernel))) (st_lw (List.mem_of_getElem? (i := 498) (by decide +kernel)))
theorem cL_48 {M : MT} (hM : M.1.cls = RL) : Site M (.invokevirtual 48) mX12_leave 0 (some 12) := Site.V okX12_leave (t := 12) rfl (by rw [hM]; exact (st_lw (List.mem_of_getElem? (i := 989) (by decide +kernel)))) (st_lw (List.mem_of_getElem? (i := 990) (by decide +kernel))) (st_lw (List.mem_of_getElem? (i := 991) (by decide +kernel)))
theorem cL_49 {M : MT} (hM : M.1.cls = RL) : Site M (.invokevirtual 49) mX11_concludes 2 (some 11) := Site.V okX11_concludes (t := 11) rfl (by rw [hM]; exact (st_lw (List.mem_of_getElem? (i := 500) (by decide +kernel)))) (st_lw (List.mem_of_getElem? (i := 501) (by decide +kernel))) (st_lw (List.mem_of_getElem? (i := 502) (by decide +kernel)))
theorem cL_52 {M : MT} (hM : M.1.cls = RL) : Site M (.invokevirtual 52) mX12_concludes 2 (some 12) := Site.V okX12_concludes (t := 12) rfl (by rw [hM]; exact (st_lw (List.mem_of_getElem? (i := 993) (by decide +kernel)))) (st_lw (List.mem_of_getElem? (i := 994) (by decide +kernel))) (st_lw (List.mem_of_getElem? (i := 995) (by decide +kernel)))
theorem cL_53 {M : MT} (hM : M.1.cls = RL) : Site M (.invokevirtual 53) mX11_parts 3 (some 11) := Site.V okX11_parts (t := 11) rfl (by rw [hM]; exact (st_lw (List.mem_of_getElem? (i := 516) (by decide +kernel)))) (st_lw (List.mem_of_getElem? (i := 517) (by decide +kernel))) (st_lw (List.mem_of_getElem? (i := 518) (by decide +kernel)))
theorem cL_56 {M : MT} (hM : M.1.cls = RL) : Site M (.invokevirtual 56) mX12_parts 3 (some 12) := Site.V okX12_parts (t := 12) rfl (by rw [hM]; exact (st_lw (List.mem_of_getElem? (i := 1009) (by decide +kernel)))) (st_lw (List.mem_of_getElem? (i := 1010) (by decide +kernel))) (st_lw (List.mem_of_getElem? (i := 1011) (by decide +kernel)))
theorem cL_57 {M : MT} (hM : M.1.cls = RL) : Site M (.invokevirtual 57) mX11_won 2 (some 11) := Site.V okX11_won (t := 11) rfl (by rw [hM]; exact (st_lw (List.mem_of_getElem? (i := 520) (by decide +kernel)))) (st_lw (List.mem_of_getElem? (i := 521) (by decide +kernel))) (st_lw (List.mem_of_getElem? (i := 522) (by decide +kernel)))
theorem cL_60 {M : MT} (hM : M.1.cls = RL) : Site M (.invokevirtual 60) mX12_won 2 (some 12) := Site.V okX12_won (t := 12) rfl (by rw [hM]; exact (st_lw (List.mem_of_getElem? (i := 1013) (by decide +kernel)))) (st_lw (List.mem_of_getElem? (i := 1014) (by decide +kernel))) (st_lw (List.mem_of_getElem? (i := 1015) (by decide +kernel)))
theorem cL_61 {M : MT} (hM : M.1.cls = RL) : Site M (.invokevirtual 61) mX11_masters 1 (some 11) := Site.V okX11_masters (t := 11) rfl (by rw [hM]; exact (st_lw (List.mem_of_getElem? (i := 532) (by decide +kernel)))) (st_lw (List.mem_of_getElem? (i := 533) (by decide +kernel))) (st_lw (List.mem_of_getElem? (i := 534) (by decide +kernel)))
theorem cL_64 {M : MT} (hM : M.1.cls = RL) : Site M (.invokevirtual 64) mX12_masters 1 (some 12) := Site.V okX12_masters (t := 12) rfl (by rw [hM]; exact (st_lw (List.mem_of_getElem? (i := 1021) (by decide +kernel)))) (st_lw (List.mem_of_getElem? (i := 1022) (by decide +kernel))) (st_lw (List.mem_of_getElem? (i := 1023) (by decide +kernel)))
theorem cL_65 {M : MT} (hM : M.1.cls = RL) : Site M (.invokevirtual 65) mX11_shortest 2 (some 11) := Site.V okX11_shortest (t := 11) rfl (by rw [hM]; exact (st_lw (List.mem_of_getElem? (i := 540) (by decide +kernel)))) (st_lw (List.mem_of_getElem? (i := 541) (by decide +kernel))) (st_lw (List.mem_of_getElem? (i := 542) (by decide +kernel)))
theorem cL_68 {M : MT} (hM : M.1.cls = RL) : Site M (.invokevirtual 68) mX12_shortest 2 (some 12) := Site.V okX12_shortest (t := 12) rfl (by rw [hM]; exact (st_lw (List.mem_of_getElem? (i := 1025) (by decide +kernel)))) (st_lw (List.mem_of_getElem? (i := 1026) (by decide +kernel))) (st_lw (List.mem_of_getElem? (i := 1027) (by decide +kernel)))
theorem cL_69 {M : MT} (hM : M.1.cls = RL) : Site M (.invokevirtual 69) mX11_cut 2 (some 11) := Site.V okX11_cut (t := 11) rfl (by rw [hM]; exact (st_lw (List.mem_of_getElem? (i := 605) (by decide +kernel)))) (st_lw (List.mem_of_getElem? (i := 606) (by decide +kernel))) (st_lw (List.mem_of_getElem? (i := 607) (by decide +kernel)))
theorem cL_72 {M : MT} (hM : M.1.cls = RL) : Site M (.invokevirtual 72) mX12_cut 2 (some 12) := Site.V okX12_cut (t := 12) rfl (by rw [hM]; exact (st_lw (List.mem_of_getElem? (i := 1045) (by decide +kernel)))) (st_lw (List.mem_of_getElem? (i := 1046) (by decide +kernel))) (st_lw (List.mem_of_getElem? (i := 1047) (by decide +kernel)))
theorem cL_73 {M : MT} (hM : M.1.cls = RL) : Site M (.invokevirtual 73) mX11_many 2 (some 11) := Site.V okX11_many (t := 11) rfl (by rw [hM]; exact (st_lw (List.mem_of_getElem? (i := 614) (by decide +kernel)))) (st_lw (List.mem_of_getElem? (i := 615) (by decide +kernel))) (st_lw (List.mem_of_getElem? (i := 616) (by decide +kernel)))
theorem cL_76 {M : MT} (hM : M.1.cls = RL) : Site M (.invokevirtual 76) mX12_many 2 (some 12) := Site.V okX12_many (t := 12) rfl (by rw [hM]; exact (st_lw (List.mem_of_getElem? (i := 1054) (by decide +kernel)))) (st_lw (List.mem_of_getElem? (i := 1055) (by decide +kernel))) (st_lw (List.mem_of_getElem? (i := 1056) (by decide +kernel)))
theorem cL_77 {M : MT} (hM : M.1.cls = RL) : Site M (.invokevirtual 77) mX11_farthest 2 (some 11) := Site.V okX11_farthest (t := 11) rfl (by rw [hM]; exact (st_lw (List.mem_of_getElem? (i := 622) (by decide +kernel)))) (st_lw (List.mem_of_getElem? (i := 623) (by decide +kernel))) (st_lw (List.mem_of_getElem? (i := 624) (by decide +kernel)))
theorem cL_80 {M : MT} (hM : M.1.cls = RL) : Site M (.invokevirtual 80) mX12_farthest 2 (some 12) := Site.V okX12_farthest (t := 12) rfl (by rw [hM]; exact (st_lw (List.mem_of_getElem? (i := 1058) (by decide +kernel)))) (st_lw (List.mem_of_getElem? (i := 1059) (by decide +kernel))) (st_lw (List.mem_of_getElem? (i := 1060) (by decide +kernel)))
theorem cL_81 {M : MT} (hM : M.1.cls = RL) : Site M (.invokevirtual 81) mX11_saves 2 (some 11) := Site.V okX11_saves (t := 11) rfl (by rw [hM]; exact (st_lw (List.mem_of_getElem? (i := 630) (by decide +kernel)))) (st_lw (List.mem_of_getElem? (i := 631) (by decide +kernel))) (st_lw (List.mem_of_getElem? (i := 632) (by decide +kernel)))
theorem cL_84 {M : MT} (hM : M.1.cls = RL) : Site M (.invokevirtual 84) mX12_saves 2 (some 12) := Site.V okX12_saves (t := 12) rfl (by rw [hM]; exact (st_lw (List.mem_of_getElem? (i := 1062) (by decide +kernel)))) (st_lw (List.mem_of_getElem? (i := 1063) (by decide +kernel))) (st_lw (List.mem_of_getElem? (i := 1064) (by decide +kernel)))
theorem cL_85 {M : MT} (hM : M.1.cls = RL) : Site M (.invokevirtual 85) mX11_joined 3 (some 11) := Site.V okX11_joined (t := 11) rfl (by rw [hM]; exact (st_lw (List.mem_of_getElem? (i := 642) (by decide +kernel)))) (st_lw (List.mem_of_getElem? (i := 643) (by decide +kernel))) (st_lw (List.mem_of_getElem? (i := 644) (by decide +kernel)))
theorem cL_88 {M : MT} (hM : M.1.cls = RL) : Site M (.invokevirtual 88) mX12_joined 3 (some 12) := Site.V okX12_joined (t := 12) rfl (by rw [hM]; exact (st_lw (List.mem_of_getElem? (i := 1066) (by decide +kernel)))) (st_lw (List.mem_of_getElem? (i := 1067) (by decide +kernel))) (st_lw (List.mem_of_getElem? (i := 1068) (by decide +kernel)))
theorem cL_89 {M : MT} (hM : M.1.cls = RL) : Site M (.invokevirtual 89) mX11_drops 3 (some 11) := Site.V okX11_drops (t := 11) rfl (by rw [hM]; exact (st_lw (List.mem_of_getElem? (i := 646) (by decide +kernel)))) (st_lw (List.mem_of_getElem? (i := 647) (by decide +kernel))) (st_lw (List.mem_of_getElem? (i := 648) (by decide +kernel)))
theorem cL_92 {M : MT} (hM : M.1.cls = RL) : Site M (.invokevirtual 92) mX12_drops 3 (some 12) := Site.V okX12_drops (t := 12) rfl (by rw [hM]; exact (st_lw (List.mem_of_getElem? (i := 1070) (by decide +kernel)))) (st_lw (List.mem_of_getElem? (i := 1071) (by decide +kernel))) (st_lw (List.mem_of_getElem? (i := 1072) (by decide +kernel)))
theorem cL_93 {M : MT} (hM : M.1.cls = RL) : Site M (.invokevirtual 93) mX11_heard 4 (some 11) := Site.V okX11_heard (t := 11) rfl (by rw [hM]; exact (st_lw (List.mem_of_getElem? (i := 663) (by decide +kernel)))) (st_lw (List.mem_of_getElem? (i := 664) (by decide +kernel))) (st_lw (List.mem_of_getElem? (i := 665) (by decide +kernel)))
theorem cL_97 {M : MT} (hM : M.1.cls = RL) : Site M (.invokevirtual 97) mX12_heard 4 (some 12) := Site.V okX12_heard (t := 12) rfl (by rw [hM]; exact (st_lw (List.mem_of_getElem? (i := 1086) (by decide +kernel)))) (st_lw (List.mem_of_getElem? (i := 1087) (by decide +kernel))) (st_lw (List.mem_of_getElem? (i := 1088) (by decide +kernel)))
theorem cL_98 {M : MT} (hM : M.1.cls = RL) : Site M (.invokevirtual 98) mX11_unlike 1 (some 11) := Site.V okX11_unlike (t := 11) rfl (by rw [hM]; exact (st_lw (List.mem_of_getElem? (i := 670) (by decide +kernel)))) (st_lw (List.mem_of_getElem? (i := 671) (by decide +kernel))) (st_lw (List.mem_of_getElem? (i := 672) (by decide +kernel)))
theorem cL_101 {M : MT} (hM : M.1.cls = RL) : Site M (.invokevirtual 101) mX12_unlike 1 (some 12) := Site.V okX12_unlike (t := 12) rfl (by rw [hM]; exact (st_lw (List.mem_of_getElem? (i := 1093) (by decide +kernel)))) (st_lw (List.mem_of_getElem? (i := 1094) (by decide +kernel))) (st_lw (List.mem_of_getElem? (i := 1095) (by decide +kernel)))
theorem cL_102 {M : MT} (hM : M.1.cls = RL) : Site M (.invokevirtual 102) mX11_agree 0 (some 11) := Site.V okX11_agree (t := 11) rfl (by rw [hM]; exact (st_lw (List.mem_of_getElem? (i := 678) (by decide +kernel)))) (st_lw (List.mem_of_getElem? (i := 679) (by decide +kernel))) (st_lw (List.mem_of_getElem? (i := 680) (by decide +kernel)))
theorem cL_105 {M : MT} (hM : M.1.cls = RL) : Site M (.invokevirtual 105) mX12_agree 0 (some 12) := Site.V okX12_agree (t := 12) rfl (by rw [hM]; exact (st_lw (List.mem_of_getElem? (i := 1097) (by decide +kernel)))) (st_lw (List.mem_of_getElem? (i := 1098) (by decide +kernel))) (st_lw (List.mem_of_getElem? (i := 1099) (by decide +kernel)))
theorem cL_106 {M : MT} (hM : M.1.cls = RL) : Site M (.invokevirtual 106) mX11_row 1 (some 11) := Site.V okX11_row (t := 11) rfl (by rw [hM]; exact (st_lw (List.mem_of_getElem? (i := 686) (by decide +kernel)))) (st_lw (List.mem_of_getElem? (i := 687) (by decide +kernel))) (st_lw (List.mem_of_getElem? (i := 688) (by decide +kernel)))
theorem cL_109 {M : MT} (hM : M.1.cls = RL) : Site M (.invokevirtual 109) mX12_row 1 (some 12) := Site.V okX12_row (t := 12) rfl (by rw [hM]; exact (st_lw (List.mem_of_getElem? (i := 1105) (by decide +kernel)))) (st_lw (List.mem_of_getElem? (i := 1106) (by decide +kernel))) (st_lw (List.mem_of_getElem? (i := 1107) (by decide +kernel)))
theorem cL_110 {M : MT} (hM : M.1.cls = RL) : Site M (.invokevirtual 110) mX11_judge 1 (some 11) := Site.V okX11_judge (t := 11) rfl (by rw [hM]; exact (st_lw (List.mem_of_getElem? (i := 690) (by decide +kernel)))) (st_lw (List.mem_of_getElem? (i := 691) (by decide +kernel))) (st_lw (List.mem_of_getElem? (i := 692) (by decide +kernel)))
theorem cL_113 {M : MT} (hM : M.1.cls = RL) : Site M (.invokevirtual 113) mX12_judge 1 (some 12) := Site.V okX12_judge (t := 12) rfl (by rw [hM]; exact (st_lw (List.mem_of_getElem? (i := 1109) (by decide +kernel)))) (st_lw (List.mem_of_getElem? (i := 1110) (by decide +kernel))) (st_lw (List.mem_of_getElem? (i := 1111) (by decide +kernel)))
theorem cL_114 {M : MT} (hM : M.1.cls = RL) : Site M (.invokevirtual 114) mX11_seeds 4 (some 11) := Site.V okX11_seeds (t := 11) rfl (by rw [hM]; exact (st_lw (List.mem_of_getElem? (i := 694) (by decide +kernel)))) (st_lw (List.mem_of_getElem? (i := 695) (by decide +kernel))) (st_lw (List.mem_of_getElem? (i := 696) (by decide +kernel)))
theorem cL_117 {M : MT} (hM : M.1.cls = RL) : Site M (.invokevirtual 117) mX12_seeds 4 (some 12) := Site.V okX12_seeds (t := 12) rfl (by rw [hM]; exact (st_lw (List.mem_of_getElem? (i := 1113) (by decide +kernel)))) (st_lw (List.mem_of_getElem? (i := 1114) (by decide +kernel))) (st_lw (List.mem_of_getElem? (i := 1115) (by decide +kernel)))
theorem cL_118 {M : MT} (hM : M.1.cls = RL) : Site M (.invokevirtual 118) mX11_image 0 (some 11) := Site.V okX11_image (t := 11) rfl (by rw [hM]; exact (st_lw (List.mem_of_getElem? (i := 713) (by decide +kernel)))) (st_lw (List.mem_of_getElem? (i := 714) (by decide +kernel))) (st_lw (List.mem_of_getElem? (i := 715) (by decide +kernel)))
theorem cL_121 {M : MT} (hM : M.1.cls = RL) : Site M (.invokevirtual 121) mX12_image 0 (some 12) := Site.V okX12_image (t := 12) rfl (by rw [hM]; exact (st_lw (List.mem_of_getElem? (i := 952) (by decide +kernel)))) (st_lw (List.mem_of_getElem? (i := 953) (by decide +kernel))) (st_lw (List.mem_of_getElem? (i := 954) (by decide +kernel)))
theorem cL_122 {M : MT} (hM : M.1.cls = RL) : Site M (.invokevirtual 122) mX11_restore 0 (some 11) := Site.V okX11_restore (t := 11) rfl (by rw [hM]; exact (st_lw (List.mem_of_getElem? (i := 717) (by decide +kernel)))) (st_lw (List.mem_of_getElem? (i := 718) (by decide +kernel))) (st_lw (List.mem_of_getElem? (i := 719) (by decide +kernel)))
theorem cL_125 {M : MT} (hM : M.1.cls = RL) : Site M (.invokevirtual 125) mX12_restore 0 (some 12) := Site.V okX12_restore (t := 12) rfl (by rw [hM]; exact (st_lw (List.mem_of_getElem? (i := 956) (by decide +kernel)))) (st_lw (List.mem_of_getElem? (i := 957) (by decide +kernel))) (st_lw (List.mem_of_getElem? (i := 958) (by decide +kernel)))
theorem cL_126 {M : MT} (hM : M.1.cls = RL) : Site M (.invokevirtual 126) mX11_count 1 (some 11) := Site.V okX11_count (t := 11) rfl (by rw [hM]; exact (st_lw (List.mem_of_getElem? (i := 721) (by decide +kernel)))) (st_lw (List.mem_of_getElem? (i := 722) (by decide +kernel))) (st_lw (List.mem_of_getElem? (i := 723) (by decide +kernel)))
theorem cL_129 {M : MT} (hM : M.1.cls = RL) : Site M (.invokevirtual 129) mX12_count 1 (some 12) := Site.V okX12_count (t := 12) rfl (by rw [hM]; exact (st_lw (List.mem_of_getElem? (i := 1128) (by decide +kernel)))) (st_lw (List.mem_of_getElem? (i := 1129) (by decide +kernel))) (st_lw (List.mem_of_getElem? (i := 1130) (by decide +kernel)))
end
section
theorem bm_eq {z : Int} (h : RI z) : z.bmod Int32.size = z := by
  rw [← Int32.toInt_ofInt]
  exact ri_back h
theorem a_add_eq {x y : Int} (h : RI (x + y)) : a_add x y = x + y := by
  unfold a_add
  rw [← Int32.ofInt_add]
  exact ri_back h
theorem a_sub_eq {x y : Int} (h : RI (x - y)) : a_sub x y = x - y := by
  unfold a_sub
  rw [← Int32.ofInt_sub]
  exact ri_back h
theorem a_mul_eq {x y : Int} (h : RI (x * y)) : a_mul x y = x * y := by
  unfold a_mul
  rw [← Int32.ofInt_mul]
  exact ri_back h
theorem a_neg_eq {x : Int} (h : RI (-x)) : a_neg x = -x := by
  unfold a_neg
  rw [← Int32.ofInt_neg]
  exact ri_back h
def psh : Option AV → List AV → List AV
  | some v, l => v :: l
  | none, l => l
theorem psh_eq (r : Option AV) (l : List AV) : r.toList ++ l = psh r l := by cases r <;> rfl
section R10
variable {d d' bc bs : Nat} {M N : MT} {Q : Option AV → AH → Prop} {pc n tgt : Nat} {st rest : List AV} {ls tl : List (Option AV)} {h : AH} {x y : Int} {off : Int} {a t : Nat} {fs : List AV} {ins : Instr} {v1 v2 v3 v4 : AV}
theorem AW.ist0 {z : Option AV} (hd : decode M.2.1 pc = .ok (.istore_n 0, 1)) (hi : 0 < M.2.2.1) (k : AW d bc bs M Q (pc + 1) (some (.inl x) :: tl) st h) : AW d bc bs M Q pc (z :: tl) (.inl x :: st) h := AW.istore_n (n := 0) hd hi k
theorem AW.ast0 {z : Option AV} (hd : decode M.2.1 pc = .ok (.astore_n 0, 1)) (hi : 0 < M.2.2.1) (k : AW d bc bs M Q (pc + 1) (some (.inr a) :: tl) st h) : AW d bc bs M Q pc (z :: tl) (.inr a :: st) h := AW.astore_n (n := 0) hd hi k
theorem AW.inc0  {i : Int} (hd : decode M.2.1 pc = .ok (.iinc 0 i, 3)) (hi : 0 < M.2.2.1) (hr : RI (x + i)) (k : AW d bc bs M Q (pc + 3) (some (.inl (x + i)) :: tl) st h) : AW d bc bs M Q pc (some (.inl x) :: tl) st h := AW.iinc (i := 0) hd rfl hi (by show AW d bc bs M Q (pc + 3) (some (.inl (a_add x i)) :: tl) st h; rw [a_add_eq hr]; exact k)
theorem AW.ist1 {a0 z : Option AV} (hd : decode M.2.1 pc = .ok (.istore_n 1, 1)) (hi : 1 < M.2.2.1) (k : AW d bc bs M Q (pc + 1) (a0 :: some (.inl x) :: tl) st h) : AW d bc bs M Q pc (a0 :: z :: tl) (.inl x :: st) h := AW.istore_n (n := 1) hd hi k
theorem AW.ast1 {a0 z : Option AV} (hd : decode M.2.1 pc = .ok (.astore_n 1, 1)) (hi : 1 < M.2.2.1) (k : AW d bc bs M Q (pc + 1) (a0 :: some (.inr a) :: tl) st h) : AW d bc bs M Q pc (a0 :: z :: tl) (.inr a :: st) h := AW.astore_n (n := 1) hd hi k
theorem AW.inc1 {a0 : Option AV} {i : Int} (hd : decode M.2.1 pc = .ok (.iinc 1 i, 3)) (hi : 1 < M.2.2.1) (hr : RI (x + i)) (k : AW d bc bs M Q (pc + 3) (a0 :: some (.inl (x + i)) :: tl) st h) : AW d bc bs M Q pc (a0 :: some (.inl x) :: tl) st h := AW.iinc (i := 1) hd rfl hi (by show AW d bc bs M Q (pc + 3) (a0 :: some (.inl (a_add x i)) :: tl) st h; rw [a_add_eq hr]; exact k)
theorem AW.ist2 {a0 a1 z : Option AV} (hd : decode M.2.1 pc = .ok (.istore_n 2, 1)) (hi : 2 < M.2.2.1) (k : AW d bc bs M Q (pc + 1) (a0 :: a1 :: some (.inl x) :: tl) st h) : AW d bc bs M Q pc (a0 :: a1 :: z :: tl) (.inl x :: st) h := AW.istore_n (n := 2) hd hi k
theorem AW.ast2 {a0 a1 z : Option AV} (hd : decode M.2.1 pc = .ok (.astore_n 2, 1)) (hi : 2 < M.2.2.1) (k : AW d bc bs M Q (pc + 1) (a0 :: a1 :: some (.inr a) :: tl) st h) : AW d bc bs M Q pc (a0 :: a1 :: z :: tl) (.inr a :: st) h := AW.astore_n (n := 2) hd hi k
theorem AW.inc2 {a0 a1 : Option AV} {i : Int} (hd : decode M.2.1 pc = .ok (.iinc 2 i, 3)) (hi : 2 < M.2.2.1) (hr : RI (x + i)) (k : AW d bc bs M Q (pc + 3) (a0 :: a1 :: some (.inl (x + i)) :: tl) st h) : AW d bc bs M Q pc (a0 :: a1 :: some (.inl x) :: tl) st h := AW.iinc (i := 2) hd rfl hi (by show AW d bc bs M Q (pc + 3) (a0 :: a1 :: some (.inl (a_add x i)) :: tl) st h; rw [a_add_eq hr]; exact k)
theorem AW.ist3 {a0 a1 a2 z : Option AV} (hd : decode M.2.1 pc = .ok (.istore_n 3, 1)) (hi : 3 < M.2.2.1) (k : AW d bc bs M Q (pc + 1) (a0 :: a1 :: a2 :: some (.inl x) :: tl) st h) : AW d bc bs M Q pc (a0 :: a1 :: a2 :: z :: tl) (.inl x :: st) h := AW.istore_n (n := 3) hd hi k
theorem AW.ast3 {a0 a1 a2 z : Option AV} (hd : decode M.2.1 pc = .ok (.astore_n 3, 1)) (hi : 3 < M.2.2.1) (k : AW d bc bs M Q (pc + 1) (a0 :: a1 :: a2 :: some (.inr a) :: tl) st h) : AW d bc bs M Q pc (a0 :: a1 :: a2 :: z :: tl) (.inr a :: st) h := AW.astore_n (n := 3) hd hi k
theorem AW.inc3 {a0 a1 a2 : Option AV} {i : Int} (hd : decode M.2.1 pc = .ok (.iinc 3 i, 3)) (hi : 3 < M.2.2.1) (hr : RI (x + i)) (k : AW d bc bs M Q (pc + 3) (a0 :: a1 :: a2 :: some (.inl (x + i)) :: tl) st h) : AW d bc bs M Q pc (a0 :: a1 :: a2 :: some (.inl x) :: tl) st h := AW.iinc (i := 3) hd rfl hi (by show AW d bc bs M Q (pc + 3) (a0 :: a1 :: a2 :: some (.inl (a_add x i)) :: tl) st h; rw [a_add_eq hr]; exact k)
theorem AW.ist4 {a0 a1 a2 a3 z : Option AV} (hd : decode M.2.1 pc = .ok (.istore 4, 2)) (hi : 4 < M.2.2.1) (k : AW d bc bs M Q (pc + 2) (a0 :: a1 :: a2 :: a3 :: some (.inl x) :: tl) st h) : AW d bc bs M Q pc (a0 :: a1 :: a2 :: a3 :: z :: tl) (.inl x :: st) h := AW.istore (n := 4) hd hi k
theorem AW.ast4 {a0 a1 a2 a3 z : Option AV} (hd : decode M.2.1 pc = .ok (.astore 4, 2)) (hi : 4 < M.2.2.1) (k : AW d bc bs M Q (pc + 2) (a0 :: a1 :: a2 :: a3 :: some (.inr a) :: tl) st h) : AW d bc bs M Q pc (a0 :: a1 :: a2 :: a3 :: z :: tl) (.inr a :: st) h := AW.astore (n := 4) hd hi k
theorem AW.inc4 {a0 a1 a2 a3 : Option AV} {i : Int} (hd : decode M.2.1 pc = .ok (.iinc 4 i, 3)) (hi : 4 < M.2.2.1) (hr : RI (x + i)) (k : AW d bc bs M Q (pc + 3) (a0 :: a1 :: a2 :: a3 :: some (.inl (x + i)) :: tl) st h) : AW d bc bs M Q pc (a0 :: a1 :: a2 :: a3 :: some (.inl x) :: tl) st h := AW.iinc (i := 4) hd rfl hi (by show AW d bc bs M Q (pc + 3) (a0 :: a1 :: a2 :: a3 :: some (.inl (a_add x i)) :: tl) st h; rw [a_add_eq hr]; exact k)
theorem AW.ist5 {a0 a1 a2 a3 a4 z : Option AV} (hd : decode M.2.1 pc = .ok (.istore 5, 2)) (hi : 5 < M.2.2.1) (k : AW d bc bs M Q (pc + 2) (a0 :: a1 :: a2 :: a3 :: a4 :: some (.inl x) :: tl) st h) : AW d bc bs M Q pc (a0 :: a1 :: a2 :: a3 :: a4 :: z :: tl) (.inl x :: st) h := AW.istore (n := 5) hd hi k
theorem AW.ast5 {a0 a1 a2 a3 a4 z : Option AV} (hd : decode M.2.1 pc = .ok (.astore 5, 2)) (hi : 5 < M.2.2.1) (k : AW d bc bs M Q (pc + 2) (a0 :: a1 :: a2 :: a3 :: a4 :: some (.inr a) :: tl) st h) : AW d bc bs M Q pc (a0 :: a1 :: a2 :: a3 :: a4 :: z :: tl) (.inr a :: st) h := AW.astore (n := 5) hd hi k
theorem AW.inc5 {a0 a1 a2 a3 a4 : Option AV} {i : Int} (hd : decode M.2.1 pc = .ok (.iinc 5 i, 3)) (hi : 5 < M.2.2.1) (hr : RI (x + i)) (k : AW d bc bs M Q (pc + 3) (a0 :: a1 :: a2 :: a3 :: a4 :: some (.inl (x + i)) :: tl) st h) : AW d bc bs M Q pc (a0 :: a1 :: a2 :: a3 :: a4 :: some (.inl x) :: tl) st h := AW.iinc (i := 5) hd rfl hi (by show AW d bc bs M Q (pc + 3) (a0 :: a1 :: a2 :: a3 :: a4 :: some (.inl (a_add x i)) :: tl) st h; rw [a_add_eq hr]; exact k)
theorem AW.ist6 {a0 a1 a2 a3 a4 a5 z : Option AV} (hd : decode M.2.1 pc = .ok (.istore 6, 2)) (hi : 6 < M.2.2.1) (k : AW d bc bs M Q (pc + 2) (a0 :: a1 :: a2 :: a3 :: a4 :: a5 :: some (.inl x) :: tl) st h) : AW d bc bs M Q pc (a0 :: a1 :: a2 :: a3 :: a4 :: a5 :: z :: tl) (.inl x :: st) h := AW.istore (n := 6) hd hi k
theorem AW.ast6 {a0 a1 a2 a3 a4 a5 z : Option AV} (hd : decode M.2.1 pc = .ok (.astore 6, 2)) (hi : 6 < M.2.2.1) (k : AW d bc bs M Q (pc + 2) (a0 :: a1 :: a2 :: a3 :: a4 :: a5 :: some (.inr a) :: tl) st h) : AW d bc bs M Q pc (a0 :: a1 :: a2 :: a3 :: a4 :: a5 :: z :: tl) (.inr a :: st) h := AW.astore (n := 6) hd hi k
theorem AW.inc6 {a0 a1 a2 a3 a4 a5 : Option AV} {i : Int} (hd : decode M.2.1 pc = .ok (.iinc 6 i, 3)) (hi : 6 < M.2.2.1) (hr : RI (x + i)) (k : AW d bc bs M Q (pc + 3) (a0 :: a1 :: a2 :: a3 :: a4 :: a5 :: some (.inl (x + i)) :: tl) st h) : AW d bc bs M Q pc (a0 :: a1 :: a2 :: a3 :: a4 :: a5 :: some (.inl x) :: tl) st h := AW.iinc (i := 6) hd rfl hi (by show AW d bc bs M Q (pc + 3) (a0 :: a1 :: a2 :: a3 :: a4 :: a5 :: some (.inl (a_add x i)) :: tl) st h; rw [a_add_eq hr]; exact k)
theorem AW.ist7 {a0 a1 a2 a3 a4 a5 a6 z : Option AV} (hd : decode M.2.1 pc = .ok (.istore 7, 2)) (hi : 7 < M.2.2.1) (k : AW d bc bs M Q (pc + 2) (a0 :: a1 :: a2 :: a3 :: a4 :: a5 :: a6 :: some (.inl x) :: tl) st h) : AW d bc bs M Q pc (a0 :: a1 :: a2 :: a3 :: a4 :: a5 :: a6 :: z :: tl) (.inl x :: st) h := AW.istore (n := 7) hd hi k
theorem AW.ast7 {a0 a1 a2 a3 a4 a5 a6 z : Option AV} (hd : decode M.2.1 pc = .ok (.astore 7, 2)) (hi : 7 < M.2.2.1) (k : AW d bc bs M Q (pc + 2) (a0 :: a1 :: a2 :: a3 :: a4 :: a5 :: a6 :: some (.inr a) :: tl) st h) : AW d bc bs M Q pc (a0 :: a1 :: a2 :: a3 :: a4 :: a5 :: a6 :: z :: tl) (.inr a :: st) h := AW.astore (n := 7) hd hi k
theorem AW.inc7 {a0 a1 a2 a3 a4 a5 a6 : Option AV} {i : Int} (hd : decode M.2.1 pc = .ok (.iinc 7 i, 3)) (hi : 7 < M.2.2.1) (hr : RI (x + i)) (k : AW d bc bs M Q (pc + 3) (a0 :: a1 :: a2 :: a3 :: a4 :: a5 :: a6 :: some (.inl (x + i)) :: tl) st h) : AW d bc bs M Q pc (a0 :: a1 :: a2 :: a3 :: a4 :: a5 :: a6 :: some (.inl x) :: tl) st h := AW.iinc (i := 7) hd rfl hi (by show AW d bc bs M Q (pc + 3) (a0 :: a1 :: a2 :: a3 :: a4 :: a5 :: a6 :: some (.inl (a_add x i)) :: tl) st h; rw [a_add_eq hr]; exact k)
theorem AW.ist8 {a0 a1 a2 a3 a4 a5 a6 a7 z : Option AV} (hd : decode M.2.1 pc = .ok (.istore 8, 2)) (hi : 8 < M.2.2.1) (k : AW d bc bs M Q (pc + 2) (a0 :: a1 :: a2 :: a3 :: a4 :: a5 :: a6 :: a7 :: some (.inl x) :: tl) st h) : AW d bc bs M Q pc (a0 :: a1 :: a2 :: a3 :: a4 :: a5 :: a6 :: a7 :: z :: tl) (.inl x :: st) h := AW.istore (n := 8) hd hi k
theorem AW.ast8 {a0 a1 a2 a3 a4 a5 a6 a7 z : Option AV} (hd : decode M.2.1 pc = .ok (.astore 8, 2)) (hi : 8 < M.2.2.1) (k : AW d bc bs M Q (pc + 2) (a0 :: a1 :: a2 :: a3 :: a4 :: a5 :: a6 :: a7 :: some (.inr a) :: tl) st h) : AW d bc bs M Q pc (a0 :: a1 :: a2 :: a3 :: a4 :: a5 :: a6 :: a7 :: z :: tl) (.inr a :: st) h := AW.astore (n := 8) hd hi k
theorem AW.inc8 {a0 a1 a2 a3 a4 a5 a6 a7 : Option AV} {i : Int} (hd : decode M.2.1 pc = .ok (.iinc 8 i, 3)) (hi : 8 < M.2.2.1) (hr : RI (x + i)) (k : AW d bc bs M Q (pc + 3) (a0 :: a1 :: a2 :: a3 :: a4 :: a5 :: a6 :: a7 :: some (.inl (x + i)) :: tl) st h) : AW d bc bs M Q pc (a0 :: a1 :: a2 :: a3 :: a4 :: a5 :: a6 :: a7 :: some (.inl x) :: tl) st h := AW.iinc (i := 8) hd rfl hi (by show AW d bc bs M Q (pc + 3) (a0 :: a1 :: a2 :: a3 :: a4 :: a5 :: a6 :: a7 :: some (.inl (a_add x i)) :: tl) st h; rw [a_add_eq hr]; exact k)
theorem AW.ist9 {a0 a1 a2 a3 a4 a5 a6 a7 a8 z : Option AV} (hd : decode M.2.1 pc = .ok (.istore 9, 2)) (hi : 9 < M.2.2.1) (k : AW d bc bs M Q (pc + 2) (a0 :: a1 :: a2 :: a3 :: a4 :: a5 :: a6 :: a7 :: a8 :: some (.inl x) :: tl) st h) : AW d bc bs M Q pc (a0 :: a1 :: a2 :: a3 :: a4 :: a5 :: a6 :: a7 :: a8 :: z :: tl) (.inl x :: st) h := AW.istore (n := 9) hd hi k
theorem AW.ast9 {a0 a1 a2 a3 a4 a5 a6 a7 a8 z : Option AV} (hd : decode M.2.1 pc = .ok (.astore 9, 2)) (hi : 9 < M.2.2.1) (k : AW d bc bs M Q (pc + 2) (a0 :: a1 :: a2 :: a3 :: a4 :: a5 :: a6 :: a7 :: a8 :: some (.inr a) :: tl) st h) : AW d bc bs M Q pc (a0 :: a1 :: a2 :: a3 :: a4 :: a5 :: a6 :: a7 :: a8 :: z :: tl) (.inr a :: st) h := AW.astore (n := 9) hd hi k
theorem AW.inc9 {a0 a1 a2 a3 a4 a5 a6 a7 a8 : Option AV} {i : Int} (hd : decode M.2.1 pc = .ok (.iinc 9 i, 3)) (hi : 9 < M.2.2.1) (hr : RI (x + i)) (k : AW d bc bs M Q (pc + 3) (a0 :: a1 :: a2 :: a3 :: a4 :: a5 :: a6 :: a7 :: a8 :: some (.inl (x + i)) :: tl) st h) : AW d bc bs M Q pc (a0 :: a1 :: a2 :: a3 :: a4 :: a5 :: a6 :: a7 :: a8 :: some (.inl x) :: tl) st h := AW.iinc (i := 9) hd rfl hi (by show AW d bc bs M Q (pc + 3) (a0 :: a1 :: a2 :: a3 :: a4 :: a5 :: a6 :: a7 :: a8 :: some (.inl (a_add x i)) :: tl) st h; rw [a_add_eq hr]; exact k)
theorem AW.ist10 {a0 a1 a2 a3 a4 a5 a6 a7 a8 a9 z : Option AV} (hd : decode M.2.1 pc = .ok (.istore 10, 2)) (hi : 10 < M.2.2.1) (k : AW d bc bs M Q (pc + 2) (a0 :: a1 :: a2 :: a3 :: a4 :: a5 :: a6 :: a7 :: a8 :: a9 :: some (.inl x) :: tl) st h) : AW d bc bs M Q pc (a0 :: a1 :: a2 :: a3 :: a4 :: a5 :: a6 :: a7 :: a8 :: a9 :: z :: tl) (.inl x :: st) h := AW.istore (n := 10) hd hi k
theorem AW.ast10 {a0 a1 a2 a3 a4 a5 a6 a7 a8 a9 z : Option AV} (hd : decode M.2.1 pc = .ok (.astore 10, 2)) (hi : 10 < M.2.2.1) (k : AW d bc bs M Q (pc + 2) (a0 :: a1 :: a2 :: a3 :: a4 :: a5 :: a6 :: a7 :: a8 :: a9 :: some (.inr a) :: tl) st h) : AW d bc bs M Q pc (a0 :: a1 :: a2 :: a3 :: a4 :: a5 :: a6 :: a7 :: a8 :: a9 :: z :: tl) (.inr a :: st) h := AW.astore (n := 10) hd hi k
theorem AW.inc10 {a0 a1 a2 a3 a4 a5 a6 a7 a8 a9 : Option AV} {i : Int} (hd : decode M.2.1 pc = .ok (.iinc 10 i, 3)) (hi : 10 < M.2.2.1) (hr : RI (x + i)) (k : AW d bc bs M Q (pc + 3) (a0 :: a1 :: a2 :: a3 :: a4 :: a5 :: a6 :: a7 :: a8 :: a9 :: some (.inl (x + i)) :: tl) st h) : AW d bc bs M Q pc (a0 :: a1 :: a2 :: a3 :: a4 :: a5 :: a6 :: a7 :: a8 :: a9 :: some (.inl x) :: tl) st h := AW.iinc (i := 10) hd rfl hi (by show AW d bc bs M Q (pc + 3) (a0 :: a1 :: a2 :: a3 :: a4 :: a5 :: a6 :: a7 :: a8 :: a9 :: some (.inl (a_add x i)) :: tl) st h; rw [a_add_eq hr]; exact k)
theorem AW.ist11 {a0 a1 a2 a3 a4 a5 a6 a7 a8 a9 a10 z : Option AV} (hd : decode M.2.1 pc = .ok (.istore 11, 2)) (hi : 11 < M.2.2.1) (k : AW d bc bs M Q (pc + 2) (a0 :: a1 :: a2 :: a3 :: a4 :: a5 :: a6 :: a7 :: a8 :: a9 :: a10 :: some (.inl x) :: tl) st h) : AW d bc bs M Q pc (a0 :: a1 :: a2 :: a3 :: a4 :: a5 :: a6 :: a7 :: a8 :: a9 :: a10 :: z :: tl) (.inl x :: st) h := AW.istore (n := 11) hd hi k
theorem AW.ast11 {a0 a1 a2 a3 a4 a5 a6 a7 a8 a9 a10 z : Option AV} (hd : decode M.2.1 pc = .ok (.astore 11, 2)) (hi : 11 < M.2.2.1) (k : AW d bc bs M Q (pc + 2) (a0 :: a1 :: a2 :: a3 :: a4 :: a5 :: a6 :: a7 :: a8 :: a9 :: a10 :: some (.inr a) :: tl) st h) : AW d bc bs M Q pc (a0 :: a1 :: a2 :: a3 :: a4 :: a5 :: a6 :: a7 :: a8 :: a9 :: a10 :: z :: tl) (.inr a :: st) h := AW.astore (n := 11) hd hi k
theorem AW.inc11 {a0 a1 a2 a3 a4 a5 a6 a7 a8 a9 a10 : Option AV} {i : Int} (hd : decode M.2.1 pc = .ok (.iinc 11 i, 3)) (hi : 11 < M.2.2.1) (hr : RI (x + i)) (k : AW d bc bs M Q (pc + 3) (a0 :: a1 :: a2 :: a3 :: a4 :: a5 :: a6 :: a7 :: a8 :: a9 :: a10 :: some (.inl (x + i)) :: tl) st h) : AW d bc bs M Q pc (a0 :: a1 :: a2 :: a3 :: a4 :: a5 :: a6 :: a7 :: a8 :: a9 :: a10 :: some (.inl x) :: tl) st h := AW.iinc (i := 11) hd rfl hi (by show AW d bc bs M Q (pc + 3) (a0 :: a1 :: a2 :: a3 :: a4 :: a5 :: a6 :: a7 :: a8 :: a9 :: a10 :: some (.inl (a_add x i)) :: tl) st h; rw [a_add_eq hr]; exact k)
theorem AW.iaddR (hd : decode M.2.1 pc = .ok (.iadd, 1)) (hr : RI (x + y)) (k : AW d bc bs M Q (pc + 1) ls (.inl (x + y) :: st) h) : AW d bc bs M Q pc ls (.inl y :: .inl x :: st) h := AW.iadd hd (by rw [a_add_eq hr]; exact k)
theorem AW.isubR (hd : decode M.2.1 pc = .ok (.isub, 1)) (hr : RI (x - y)) (k : AW d bc bs M Q (pc + 1) ls (.inl (x - y) :: st) h) : AW d bc bs M Q pc ls (.inl y :: .inl x :: st) h := AW.isub hd (by rw [a_sub_eq hr]; exact k)
theorem AW.imulR (hd : decode M.2.1 pc = .ok (.imul, 1)) (hr : RI (x * y)) (k : AW d bc bs M Q (pc + 1) ls (.inl (x * y) :: st) h) : AW d bc bs M Q pc ls (.inl y :: .inl x :: st) h := AW.imul hd (by rw [a_mul_eq hr]; exact k)
theorem AW.inegR (hd : decode M.2.1 pc = .ok (.ineg, 1)) (hr : RI (-x)) (k : AW d bc bs M Q (pc + 1) ls (.inl (-x) :: st) h) : AW d bc bs M Q pc ls (.inl x :: st) h := AW.ineg hd (by rw [a_neg_eq hr]; exact k)
theorem AW.ifeq_t (hd : decode M.2.1 pc = .ok (.ifCond .eq off, 3)) (ht : (pc : Int) + off = (tgt : Int)) (hx : x = 0) (k : AW d bc bs M Q tgt ls st h) : AW d bc bs M Q pc ls (.inl x :: st) h := AW.ifeq hd ht (fun _ => k) (fun q => absurd hx q)
theorem AW.ifeq_f (hd : decode M.2.1 pc = .ok (.ifCond .eq off, 3)) (ht : (pc : Int) + off = (tgt : Int)) (hx : ¬ x = 0) (k : AW d bc bs M Q (pc + 3) ls st h) : AW d bc bs M Q pc ls (.inl x :: st) h := AW.ifeq hd ht (fun q => absurd q hx) (fun _ => k)
theorem AW.ifne_t (hd : decode M.2.1 pc = .ok (.ifCond .ne off, 3)) (ht : (pc : Int) + off = (tgt : Int)) (hx : ¬ x = 0) (k : AW d bc bs M Q tgt ls st h) : AW d bc bs M Q pc ls (.inl x :: st) h := AW.ifne hd ht (fun _ => k) (fun q => absurd q hx)
theorem AW.ifne_f (hd : decode M.2.1 pc = .ok (.ifCond .ne off, 3)) (ht : (pc : Int) + off = (tgt : Int)) (hx : x = 0) (k : AW d bc bs M Q (pc + 3) ls st h) : AW d bc bs M Q pc ls (.inl x :: st) h := AW.ifne hd ht (fun q => absurd hx q) (fun _ => k)
theorem AW.tab {dflt lo hi : Int} {offs : Array Int} {len : Nat} (tg : List Nat) (hd : decode M.2.1 pc = .ok (.tableswitch dflt lo hi offs, len)) (hn : (hi - lo + 1).toNat = tg.length) (hc : (List.range tg.length).all (fun i => match offs[i]?, tg[i]? with | some o, some t => decide ((pc : Int) + o = (t : Int)) | _, _ => false) = true) (hdf : (pc : Int) + dflt = (tgt : Int))
    (kin : ∀ (i t : Nat), tg[i]? = some t → x = lo + i → AW d bc bs M Q t ls st h) (kout : (x < lo ∨ hi < x) → AW d bc bs M Q tgt ls st h) : AW d bc bs M Q pc ls (.inl x :: st) h := by
  refine AW.table hd (fun i => tg.getD (i - lo).toNat 0) (fun i hi => ?_) hdf (fun i h1 h2 hx => ?_) kout
  · rw [hn] at hi
    have h1 := List.all_eq_true.mp hc i (List.mem_range.mpr hi)
    have e1 : (lo + (i : Int) - lo).toNat = i := by omega
    simp only [e1]
    rw [List.getD_eq_getElem?_getD]
    rw [List.getElem?_eq_getElem hi] at h1 ⊢
    split at h1
    · rename_i o t ho ht
      cases ht
      exact ⟨o, ho, of_decide_eq_true h1⟩
    · cases h1
  · have hl : (i - lo).toNat < tg.length := by omega
    simp only [List.getD_eq_getElem?_getD, List.getElem?_eq_getElem hl, Option.getD_some]
    exact kin (i - lo).toNat _ (List.getElem?_eq_getElem hl) (by omega)

theorem AW.cI1 (hs : Site M ins N 0 (some t)) (hN : MOK N 0) (hd : decode M.2.1 pc = .ok (ins, 3)) (ha : h.2 a = .inl (t + 1, fs)) (hdp : d' + 1 ≤ d) (k : MW d' 0 0 N [.inr a] h (fun r h' => AW d bc bs M Q (pc + 3) ls (psh r rest) h')) (ht : t < 32 := by decide) (hr : rest.length ≤ 8 := by exact Nat.le_of_ble_eq_true rfl) (hvs : 1 ≤ N.2.2.1 := by exact Nat.le_of_ble_eq_true rfl) : AW d bc bs M Q pc ls (.inr a :: rest) h :=
  AW.call (vs := [.inr a]) (rest := rest) (bc' := 0) (bs' := 0) (bc'' := bc) (bs'' := bs) hs hN hd hdp hr (Nat.zero_add _).symm (Nat.zero_add _).symm rfl hvs ⟨rfl, a, fs, _, rfl, ha, ht⟩ (by simp only [psh_eq]; exact k)
theorem AW.cI2 (hs : Site M ins N 1 (some t)) (hN : MOK N 1) (hd : decode M.2.1 pc = .ok (ins, 3)) (ha : h.2 a = .inl (t + 1, fs)) (hdp : d' + 1 ≤ d) (k : MW d' 0 0 N [.inr a, v1] h (fun r h' => AW d bc bs M Q (pc + 3) ls (psh r rest) h')) (ht : t < 32 := by decide) (hr : rest.length ≤ 8 := by exact Nat.le_of_ble_eq_true rfl) (hvs : 2 ≤ N.2.2.1 := by exact Nat.le_of_ble_eq_true rfl) : AW d bc bs M Q pc ls (v1 :: .inr a :: rest) h :=
  AW.call (vs := [.inr a, v1]) (rest := rest) (bc' := 0) (bs' := 0) (bc'' := bc) (bs'' := bs) hs hN hd hdp hr (Nat.zero_add _).symm (Nat.zero_add _).symm rfl hvs ⟨rfl, a, fs, _, rfl, ha, ht⟩ (by simp only [psh_eq]; exact k)
theorem AW.cI3 (hs : Site M ins N 2 (some t)) (hN : MOK N 2) (hd : decode M.2.1 pc = .ok (ins, 3)) (ha : h.2 a = .inl (t + 1, fs)) (hdp : d' + 1 ≤ d) (k : MW d' 0 0 N [.inr a, v1, v2] h (fun r h' => AW d bc bs M Q (pc + 3) ls (psh r rest) h')) (ht : t < 32 := by decide) (hr : rest.length ≤ 8 := by exact Nat.le_of_ble_eq_true rfl) (hvs : 3 ≤ N.2.2.1 := by exact Nat.le_of_ble_eq_true rfl) : AW d bc bs M Q pc ls (v2 :: v1 :: .inr a :: rest) h :=
  AW.call (vs := [.inr a, v1, v2]) (rest := rest) (bc' := 0) (bs' := 0) (bc'' := bc) (bs'' := bs) hs hN hd hdp hr (Nat.zero_add _).symm (Nat.zero_add _).symm rfl hvs ⟨rfl, a, fs, _, rfl, ha, ht⟩ (by simp only [psh_eq]; exact k)
theorem AW.cI4 (hs : Site M ins N 3 (some t)) (hN : MOK N 3) (hd : decode M.2.1 pc = .ok (ins, 3)) (ha : h.2 a = .inl (t + 1, fs)) (hdp : d' + 1 ≤ d) (k : MW d' 0 0 N [.inr a, v1, v2, v3] h (fun r h' => AW d bc bs M Q (pc + 3) ls (psh r rest) h')) (ht : t < 32 := by decide) (hr : rest.length ≤ 8 := by exact Nat.le_of_ble_eq_true rfl) (hvs : 4 ≤ N.2.2.1 := by exact Nat.le_of_ble_eq_true rfl) : AW d bc bs M Q pc ls (v3 :: v2 :: v1 :: .inr a :: rest) h :=
  AW.call (vs := [.inr a, v1, v2, v3]) (rest := rest) (bc' := 0) (bs' := 0) (bc'' := bc) (bs'' := bs) hs hN hd hdp hr (Nat.zero_add _).symm (Nat.zero_add _).symm rfl hvs ⟨rfl, a, fs, _, rfl, ha, ht⟩ (by simp only [psh_eq]; exact k)
theorem AW.cI5 (hs : Site M ins N 4 (some t)) (hN : MOK N 4) (hd : decode M.2.1 pc = .ok (ins, 3)) (ha : h.2 a = .inl (t + 1, fs)) (hdp : d' + 1 ≤ d) (k : MW d' 0 0 N [.inr a, v1, v2, v3, v4] h (fun r h' => AW d bc bs M Q (pc + 3) ls (psh r rest) h')) (ht : t < 32 := by decide) (hr : rest.length ≤ 8 := by exact Nat.le_of_ble_eq_true rfl) (hvs : 5 ≤ N.2.2.1 := by exact Nat.le_of_ble_eq_true rfl) : AW d bc bs M Q pc ls (v4 :: v3 :: v2 :: v1 :: .inr a :: rest) h :=
  AW.call (vs := [.inr a, v1, v2, v3, v4]) (rest := rest) (bc' := 0) (bs' := 0) (bc'' := bc) (bs'' := bs) hs hN hd hdp hr (Nat.zero_add _).symm (Nat.zero_add _).symm rfl hvs ⟨rfl, a, fs, _, rfl, ha, ht⟩ (by simp only [psh_eq]; exact k)
theorem AW.cS1 (hs : Site M ins N 1 none) (hN : MOK N 1) (hd : decode M.2.1 pc = .ok (ins, 3)) (hdp : d' + 1 ≤ d) (k : MW d' 0 0 N [v1] h (fun r h' => AW d bc bs M Q (pc + 3) ls (psh r rest) h')) (hr : rest.length ≤ 8 := by exact Nat.le_of_ble_eq_true rfl) (hvs : 1 ≤ N.2.2.1 := by exact Nat.le_of_ble_eq_true rfl) : AW d bc bs M Q pc ls (v1 :: rest) h :=
  AW.call (vs := [v1]) (rest := rest) (bc' := 0) (bs' := 0) (bc'' := bc) (bs'' := bs) hs hN hd hdp hr (Nat.zero_add _).symm (Nat.zero_add _).symm rfl hvs rfl (by simp only [psh_eq]; exact k)
theorem AW.cS2 (hs : Site M ins N 2 none) (hN : MOK N 2) (hd : decode M.2.1 pc = .ok (ins, 3)) (hdp : d' + 1 ≤ d) (k : MW d' 0 0 N [v1, v2] h (fun r h' => AW d bc bs M Q (pc + 3) ls (psh r rest) h')) (hr : rest.length ≤ 8 := by exact Nat.le_of_ble_eq_true rfl) (hvs : 2 ≤ N.2.2.1 := by exact Nat.le_of_ble_eq_true rfl) : AW d bc bs M Q pc ls (v2 :: v1 :: rest) h :=
  AW.call (vs := [v1, v2]) (rest := rest) (bc' := 0) (bs' := 0) (bc'' := bc) (bs'' := bs) hs hN hd hdp hr (Nat.zero_add _).symm (Nat.zero_add _).symm rfl hvs rfl (by simp only [psh_eq]; exact k)
theorem AW.cS3 (hs : Site M ins N 3 none) (hN : MOK N 3) (hd : decode M.2.1 pc = .ok (ins, 3)) (hdp : d' + 1 ≤ d) (k : MW d' 0 0 N [v1, v2, v3] h (fun r h' => AW d bc bs M Q (pc + 3) ls (psh r rest) h')) (hr : rest.length ≤ 8 := by exact Nat.le_of_ble_eq_true rfl) (hvs : 3 ≤ N.2.2.1 := by exact Nat.le_of_ble_eq_true rfl) : AW d bc bs M Q pc ls (v3 :: v2 :: v1 :: rest) h :=
  AW.call (vs := [v1, v2, v3]) (rest := rest) (bc' := 0) (bs' := 0) (bc'' := bc) (bs'' := bs) hs hN hd hdp hr (Nat.zero_add _).symm (Nat.zero_add _).symm rfl hvs rfl (by simp only [psh_eq]; exact k)
end R10
end
section
section Mod1
variable {d : Nat} {Q : Option AV → AH → Prop} {h : AH}
theorem W_isIn {v lo hi : Int} (h1 : lo ≤ v → v ≤ hi → Q (some (.inl 1)) h) (h0 : ¬ (lo ≤ v ∧ v ≤ hi) → Q (some (.inl 0)) h) : MW d 0 0 mX12_isIn [.inl v, .inl lo, .inl hi] h Q := by
  show AW d 0 0 mX12_isIn Q 0 [some (.inl v), some (.inl lo), some (.inl hi)] [] h
  refine AW.iload_n dX12_isIn_0 rfl ?_
  refine AW.iload_n dX12_isIn_1 rfl ?_
  refine AW.if_icmplt (tgt := 14) dX12_isIn_2 (by decide) (fun c2 => ?_) (fun c2 => ?_)
  · refine AW.iconst dX12_isIn_14 ?_
    refine AW.zreturn dX12_isIn_15 rfl (Or.inl rfl) ?_
    first | exact h1 (by omega) (by omega) | exact h0 (by omega)
  · refine AW.iload_n dX12_isIn_5 rfl ?_
    refine AW.iload_n dX12_isIn_6 rfl ?_
    refine AW.if_icmpgt (tgt := 14) dX12_isIn_7 (by decide) (fun c7 => ?_) (fun c7 => ?_)
    · refine AW.iconst dX12_isIn_14 ?_
      refine AW.zreturn dX12_isIn_15 rfl (Or.inl rfl) ?_
      first | exact h1 (by omega) (by omega) | exact h0 (by omega)
    · refine AW.iconst dX12_isIn_10 ?_
      refine AW.goto (tgt := 15) dX12_isIn_11 (by decide) ?_
      refine AW.zreturn dX12_isIn_15 rfl (Or.inr rfl) ?_
      first | exact h1 (by omega) (by omega) | exact h0 (by omega)
theorem W_bound {v lo hi : Int} (h1 : v < lo → Q (some (.inl (-4))) h) (h2 : ¬ v < lo → hi < v → Q (some (.inl (-6))) h) (h3 : lo ≤ v → v ≤ hi → Q (some (.inl 0)) h) : MW d 0 0 mX12_bound [.inl v, .inl lo, .inl hi] h Q := by
  show AW d 0 0 mX12_bound Q 0 [some (.inl v), some (.inl lo), some (.inl hi)] [] h
  refine AW.iload_n dX12_bound_0 rfl ?_
  refine AW.iload_n dX12_bound_1 rfl ?_
  refine AW.if_icmpge (tgt := 10) dX12_bound_2 (by decide) (fun c2 => ?_) (fun c2 => ?_)
  · refine AW.iload_n dX12_bound_10 rfl ?_
    refine AW.iload_n dX12_bound_11 rfl ?_
    refine AW.if_icmple (tgt := 20) dX12_bound_12 (by decide) (fun c12 => ?_) (fun c12 => ?_)
    · refine AW.iconst dX12_bound_20 ?_
      refine AW.ireturn dX12_bound_21 rfl ?_
      first | exact h1 (by omega) | exact h2 (by omega) (by omega) | exact h3 (by omega) (by omega)
    · refine AW.bipush dX12_bound_15 ?_
      refine AW.goto (tgt := 21) dX12_bound_17 (by decide) ?_
      refine AW.ireturn dX12_bound_21 rfl ?_
      first | exact h1 (by omega) | exact h2 (by omega) (by omega) | exact h3 (by omega) (by omega)
  · refine AW.bipush dX12_bound_5 ?_
    refine AW.goto (tgt := 21) dX12_bound_7 (by decide) ?_
    refine AW.ireturn dX12_bound_21 rfl ?_
    first | exact h1 (by omega) | exact h2 (by omega) (by omega) | exact h3 (by omega) (by omega)
end Mod1
end
