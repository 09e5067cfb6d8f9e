-- ===== PART A: goes FIRST, ahead of the names: the tables' words, and 'selects' of the private methods out of them =====
/-- a private method of a class that the tables say can be made, by its rows of tables_1 -/
def lw_okq (q : MethodName × Nat) : Prop := (q.1.cls ≠ "java/lang/invoke/MethodHandle" ∧ q.1.cls ≠ "java/lang/invoke/VarHandle") ∧ Cond.instantiable q.1.cls q.2 ∈ tables_1 ∧ Cond.privateMethod q.1 ∈ tables_1 ∧ Cond.instanceMethod q.1 ∈ tables_1
theorem lw_p0 : lw_okq (⟨"TippingBeam", "makeMove", "(II)I"⟩, 9) := ⟨⟨by decide +kernel, by decide +kernel⟩, List.mem_of_getElem? (i := 10) (by decide +kernel), List.mem_of_getElem? (i := 148) (by decide +kernel), List.mem_of_getElem? (i := 149) (by decide +kernel)⟩
theorem lw_p1 : lw_okq (⟨"TippingBeam$History", "dropOldest", "()V"⟩, 2) := ⟨⟨by decide +kernel, by decide +kernel⟩, List.mem_of_getElem? (i := 62) (by decide +kernel), List.mem_of_getElem? (i := 193) (by decide +kernel), List.mem_of_getElem? (i := 194) (by decide +kernel)⟩
theorem lw_p2 : lw_okq (⟨"TippingBeam$Beam", "weightAt", "(II)I"⟩, 12) := ⟨⟨by decide +kernel, by decide +kernel⟩, List.mem_of_getElem? (i := 18) (by decide +kernel), List.mem_of_getElem? (i := 222) (by decide +kernel), List.mem_of_getElem? (i := 223) (by decide +kernel)⟩
theorem lw_p3 : lw_okq (⟨"TippingBeam$Beam", "takeFrom", "(I)I"⟩, 12) := ⟨⟨by decide +kernel, by decide +kernel⟩, List.mem_of_getElem? (i := 18) (by decide +kernel), List.mem_of_getElem? (i := 239) (by decide +kernel), List.mem_of_getElem? (i := 240) (by decide +kernel)⟩
theorem lw_p4 : lw_okq (⟨"TippingBeam$Beam", "sideBehind", "(I)I"⟩, 12) := ⟨⟨by decide +kernel, by decide +kernel⟩, List.mem_of_getElem? (i := 18) (by decide +kernel), List.mem_of_getElem? (i := 243) (by decide +kernel), List.mem_of_getElem? (i := 244) (by decide +kernel)⟩
theorem lw_p5 : lw_okq (⟨"TippingBeam$MoveText", "take", "(C)V"⟩, 8) := ⟨⟨by decide +kernel, by decide +kernel⟩, List.mem_of_getElem? (i := 78) (by decide +kernel), List.mem_of_getElem? (i := 384) (by decide +kernel), List.mem_of_getElem? (i := 385) (by decide +kernel)⟩
theorem lw_p6 : lw_okq (⟨"TippingBeam$MoveText", "endMove", "()V"⟩, 8) := ⟨⟨by decide +kernel, by decide +kernel⟩, List.mem_of_getElem? (i := 78) (by decide +kernel), List.mem_of_getElem? (i := 388) (by decide +kernel), List.mem_of_getElem? (i := 389) (by decide +kernel)⟩
theorem lw_p7 : lw_okq (⟨"TippingBeamModel", "addBag", "(III)V"⟩, 17) := ⟨⟨by decide +kernel, by decide +kernel⟩, List.mem_of_getElem? (i := 516) (by decide +kernel), List.mem_of_getElem? (i := 522) (by decide +kernel), List.mem_of_getElem? (i := 523) (by decide +kernel)⟩
theorem lw_p8 : lw_okq (⟨"TippingBeamModel", "bagAt", "(II)I"⟩, 17) := ⟨⟨by decide +kernel, by decide +kernel⟩, List.mem_of_getElem? (i := 516) (by decide +kernel), List.mem_of_getElem? (i := 526) (by decide +kernel), List.mem_of_getElem? (i := 527) (by decide +kernel)⟩
theorem lw_p9 : lw_okq (⟨"TippingBeamModel", "tokens", "()I"⟩, 17) := ⟨⟨by decide +kernel, by decide +kernel⟩, List.mem_of_getElem? (i := 516) (by decide +kernel), List.mem_of_getElem? (i := 590) (by decide +kernel), List.mem_of_getElem? (i := 591) (by decide +kernel)⟩
theorem lw_p10 : lw_okq (⟨"TippingBeamModel", "many", "(I)I"⟩, 17) := ⟨⟨by decide +kernel, by decide +kernel⟩, List.mem_of_getElem? (i := 516) (by decide +kernel), List.mem_of_getElem? (i := 597) (by decide +kernel), List.mem_of_getElem? (i := 598) (by decide +kernel)⟩
theorem lw_p11 : lw_okq (⟨"TippingBeamModel", "record", "()V"⟩, 17) := ⟨⟨by decide +kernel, by decide +kernel⟩, List.mem_of_getElem? (i := 516) (by decide +kernel), List.mem_of_getElem? (i := 608) (by decide +kernel), List.mem_of_getElem? (i := 609) (by decide +kernel)⟩
theorem lw_p12 : lw_okq (⟨"TippingBeamModel", "tryMove", "(II)I"⟩, 17) := ⟨⟨by decide +kernel, by decide +kernel⟩, List.mem_of_getElem? (i := 516) (by decide +kernel), List.mem_of_getElem? (i := 625) (by decide +kernel), List.mem_of_getElem? (i := 626) (by decide +kernel)⟩
theorem lw_p13 : lw_okq (⟨"TippingBeamModel", "whyNot", "(II)I"⟩, 17) := ⟨⟨by decide +kernel, by decide +kernel⟩, List.mem_of_getElem? (i := 516) (by decide +kernel), List.mem_of_getElem? (i := 629) (by decide +kernel), List.mem_of_getElem? (i := 630) (by decide +kernel)⟩
theorem lw_p14 : lw_okq (⟨"TippingBeamModel", "isOver", "()Z"⟩, 17) := ⟨⟨by decide +kernel, by decide +kernel⟩, List.mem_of_getElem? (i := 516) (by decide +kernel), List.mem_of_getElem? (i := 633) (by decide +kernel), List.mem_of_getElem? (i := 634) (by decide +kernel)⟩
theorem lw_p15 : lw_okq (⟨"TippingBeamModel", "hasTipped", "()Z"⟩, 17) := ⟨⟨by decide +kernel, by decide +kernel⟩, List.mem_of_getElem? (i := 516) (by decide +kernel), List.mem_of_getElem? (i := 637) (by decide +kernel), List.mem_of_getElem? (i := 638) (by decide +kernel)⟩
def lw_privs_1 : List (MethodName × Nat) := [(⟨"TippingBeam", "makeMove", "(II)I"⟩, 9), (⟨"TippingBeam$History", "dropOldest", "()V"⟩, 2), (⟨"TippingBeam$Beam", "weightAt", "(II)I"⟩, 12), (⟨"TippingBeam$Beam", "takeFrom", "(I)I"⟩, 12), (⟨"TippingBeam$Beam", "sideBehind", "(I)I"⟩, 12), (⟨"TippingBeam$MoveText", "take", "(C)V"⟩, 8), (⟨"TippingBeam$MoveText", "endMove", "()V"⟩, 8), (⟨"TippingBeamModel", "addBag", "(III)V"⟩, 17), (⟨"TippingBeamModel", "bagAt", "(II)I"⟩, 17), (⟨"TippingBeamModel", "tokens", "()I"⟩, 17), (⟨"TippingBeamModel", "many", "(I)I"⟩, 17), (⟨"TippingBeamModel", "record", "()V"⟩, 17), (⟨"TippingBeamModel", "tryMove", "(II)I"⟩, 17), (⟨"TippingBeamModel", "whyNot", "(II)I"⟩, 17), (⟨"TippingBeamModel", "isOver", "()Z"⟩, 17), (⟨"TippingBeamModel", "hasTipped", "()Z"⟩, 17)]
theorem lw_r1 : ∀ q ∈ lw_privs_1, lw_okq q := List.forall_mem_cons.mpr ⟨lw_p0, List.forall_mem_cons.mpr ⟨lw_p1, List.forall_mem_cons.mpr ⟨lw_p2, List.forall_mem_cons.mpr ⟨lw_p3, List.forall_mem_cons.mpr ⟨lw_p4, List.forall_mem_cons.mpr ⟨lw_p5, List.forall_mem_cons.mpr ⟨lw_p6, List.forall_mem_cons.mpr ⟨lw_p7, List.forall_mem_cons.mpr ⟨lw_p8, List.forall_mem_cons.mpr ⟨lw_p9, List.forall_mem_cons.mpr ⟨lw_p10, List.forall_mem_cons.mpr ⟨lw_p11, List.forall_mem_cons.mpr ⟨lw_p12, List.forall_mem_cons.mpr ⟨lw_p13, List.forall_mem_cons.mpr ⟨lw_p14, List.forall_mem_cons.mpr ⟨lw_p15, fun _ h => absurd h List.not_mem_nil⟩⟩⟩⟩⟩⟩⟩⟩⟩⟩⟩⟩⟩⟩⟩⟩
theorem lw_p16 : lw_okq (⟨"TippingBeamModel", "allIn", "(I)I"⟩, 17) := ⟨⟨by decide +kernel, by decide +kernel⟩, List.mem_of_getElem? (i := 516) (by decide +kernel), List.mem_of_getElem? (i := 644) (by decide +kernel), List.mem_of_getElem? (i := 645) (by decide +kernel)⟩
theorem lw_p17 : lw_okq (⟨"TippingBeamModel", "inBag", "(II)I"⟩, 17) := ⟨⟨by decide +kernel, by decide +kernel⟩, List.mem_of_getElem? (i := 516) (by decide +kernel), List.mem_of_getElem? (i := 648) (by decide +kernel), List.mem_of_getElem? (i := 649) (by decide +kernel)⟩
theorem lw_p18 : lw_okq (⟨"TippingBeamModel", "moveIt", "(II)I"⟩, 17) := ⟨⟨by decide +kernel, by decide +kernel⟩, List.mem_of_getElem? (i := 516) (by decide +kernel), List.mem_of_getElem? (i := 655) (by decide +kernel), List.mem_of_getElem? (i := 656) (by decide +kernel)⟩
theorem lw_p19 : lw_okq (⟨"TippingBeamModel", "change", "(II)V"⟩, 17) := ⟨⟨by decide +kernel, by decide +kernel⟩, List.mem_of_getElem? (i := 516) (by decide +kernel), List.mem_of_getElem? (i := 659) (by decide +kernel), List.mem_of_getElem? (i := 660) (by decide +kernel)⟩
theorem lw_p20 : lw_okq (⟨"TippingBeamModel", "put", "(II)V"⟩, 17) := ⟨⟨by decide +kernel, by decide +kernel⟩, List.mem_of_getElem? (i := 516) (by decide +kernel), List.mem_of_getElem? (i := 663) (by decide +kernel), List.mem_of_getElem? (i := 664) (by decide +kernel)⟩
theorem lw_p21 : lw_okq (⟨"TippingBeamModel", "takeOff", "(I)I"⟩, 17) := ⟨⟨by decide +kernel, by decide +kernel⟩, List.mem_of_getElem? (i := 516) (by decide +kernel), List.mem_of_getElem? (i := 667) (by decide +kernel), List.mem_of_getElem? (i := 668) (by decide +kernel)⟩
theorem lw_p22 : lw_okq (⟨"TippingBeamModel", "looked", "(I)I"⟩, 17) := ⟨⟨by decide +kernel, by decide +kernel⟩, List.mem_of_getElem? (i := 516) (by decide +kernel), List.mem_of_getElem? (i := 679) (by decide +kernel), List.mem_of_getElem? (i := 680) (by decide +kernel)⟩
theorem lw_p23 : lw_okq (⟨"TippingBeamModel", "told", "()I"⟩, 17) := ⟨⟨by decide +kernel, by decide +kernel⟩, List.mem_of_getElem? (i := 516) (by decide +kernel), List.mem_of_getElem? (i := 683) (by decide +kernel), List.mem_of_getElem? (i := 684) (by decide +kernel)⟩
theorem lw_p24 : lw_okq (⟨"TippingBeamModel", "winner", "()I"⟩, 17) := ⟨⟨by decide +kernel, by decide +kernel⟩, List.mem_of_getElem? (i := 516) (by decide +kernel), List.mem_of_getElem? (i := 687) (by decide +kernel), List.mem_of_getElem? (i := 688) (by decide +kernel)⟩
theorem lw_p25 : lw_okq (⟨"TippingBeamModel", "lookOne", "()I"⟩, 17) := ⟨⟨by decide +kernel, by decide +kernel⟩, List.mem_of_getElem? (i := 516) (by decide +kernel), List.mem_of_getElem? (i := 691) (by decide +kernel), List.mem_of_getElem? (i := 692) (by decide +kernel)⟩
theorem lw_p26 : lw_okq (⟨"TippingBeamModel", "isPossible", "(I)Z"⟩, 17) := ⟨⟨by decide +kernel, by decide +kernel⟩, List.mem_of_getElem? (i := 516) (by decide +kernel), List.mem_of_getElem? (i := 695) (by decide +kernel), List.mem_of_getElem? (i := 696) (by decide +kernel)⟩
theorem lw_p27 : lw_okq (⟨"TippingBeamModel", "ahead", "(II)V"⟩, 17) := ⟨⟨by decide +kernel, by decide +kernel⟩, List.mem_of_getElem? (i := 516) (by decide +kernel), List.mem_of_getElem? (i := 705) (by decide +kernel), List.mem_of_getElem? (i := 706) (by decide +kernel)⟩
theorem lw_p28 : lw_okq (⟨"TippingBeamModel", "forMover", "(II)I"⟩, 17) := ⟨⟨by decide +kernel, by decide +kernel⟩, List.mem_of_getElem? (i := 516) (by decide +kernel), List.mem_of_getElem? (i := 709) (by decide +kernel), List.mem_of_getElem? (i := 710) (by decide +kernel)⟩
theorem lw_p29 : lw_okq (⟨"TippingBeamModel", "back", "(II)V"⟩, 17) := ⟨⟨by decide +kernel, by decide +kernel⟩, List.mem_of_getElem? (i := 516) (by decide +kernel), List.mem_of_getElem? (i := 713) (by decide +kernel), List.mem_of_getElem? (i := 714) (by decide +kernel)⟩
theorem lw_p30 : lw_okq (⟨"TippingBeamModel", "lookTwo", "()I"⟩, 17) := ⟨⟨by decide +kernel, by decide +kernel⟩, List.mem_of_getElem? (i := 516) (by decide +kernel), List.mem_of_getElem? (i := 717) (by decide +kernel), List.mem_of_getElem? (i := 718) (by decide +kernel)⟩
theorem lw_p31 : lw_okq (⟨"TippingBeamModel", "lookThree", "()I"⟩, 17) := ⟨⟨by decide +kernel, by decide +kernel⟩, List.mem_of_getElem? (i := 516) (by decide +kernel), List.mem_of_getElem? (i := 721) (by decide +kernel), List.mem_of_getElem? (i := 722) (by decide +kernel)⟩
def lw_privs_2 : List (MethodName × Nat) := [(⟨"TippingBeamModel", "allIn", "(I)I"⟩, 17), (⟨"TippingBeamModel", "inBag", "(II)I"⟩, 17), (⟨"TippingBeamModel", "moveIt", "(II)I"⟩, 17), (⟨"TippingBeamModel", "change", "(II)V"⟩, 17), (⟨"TippingBeamModel", "put", "(II)V"⟩, 17), (⟨"TippingBeamModel", "takeOff", "(I)I"⟩, 17), (⟨"TippingBeamModel", "looked", "(I)I"⟩, 17), (⟨"TippingBeamModel", "told", "()I"⟩, 17), (⟨"TippingBeamModel", "winner", "()I"⟩, 17), (⟨"TippingBeamModel", "lookOne", "()I"⟩, 17), (⟨"TippingBeamModel", "isPossible", "(I)Z"⟩, 17), (⟨"TippingBeamModel", "ahead", "(II)V"⟩, 17), (⟨"TippingBeamModel", "forMover", "(II)I"⟩, 17), (⟨"TippingBeamModel", "back", "(II)V"⟩, 17), (⟨"TippingBeamModel", "lookTwo", "()I"⟩, 17), (⟨"TippingBeamModel", "lookThree", "()I"⟩, 17)]
theorem lw_r2 : ∀ q ∈ lw_privs_2, lw_okq q := List.forall_mem_cons.mpr ⟨lw_p16, List.forall_mem_cons.mpr ⟨lw_p17, List.forall_mem_cons.mpr ⟨lw_p18, List.forall_mem_cons.mpr ⟨lw_p19, List.forall_mem_cons.mpr ⟨lw_p20, List.forall_mem_cons.mpr ⟨lw_p21, List.forall_mem_cons.mpr ⟨lw_p22, List.forall_mem_cons.mpr ⟨lw_p23, List.forall_mem_cons.mpr ⟨lw_p24, List.forall_mem_cons.mpr ⟨lw_p25, List.forall_mem_cons.mpr ⟨lw_p26, List.forall_mem_cons.mpr ⟨lw_p27, List.forall_mem_cons.mpr ⟨lw_p28, List.forall_mem_cons.mpr ⟨lw_p29, List.forall_mem_cons.mpr ⟨lw_p30, List.forall_mem_cons.mpr ⟨lw_p31, fun _ h => absurd h List.not_mem_nil⟩⟩⟩⟩⟩⟩⟩⟩⟩⟩⟩⟩⟩⟩⟩⟩
theorem lw_p32 : lw_okq (⟨"TippingBeamModel", "bestMove", "(I)I"⟩, 17) := ⟨⟨by decide +kernel, by decide +kernel⟩, List.mem_of_getElem? (i := 516) (by decide +kernel), List.mem_of_getElem? (i := 729) (by decide +kernel), List.mem_of_getElem? (i := 730) (by decide +kernel)⟩
theorem lw_p33 : lw_okq (⟨"TippingBeamModel", "readText", "()I"⟩, 17) := ⟨⟨by decide +kernel, by decide +kernel⟩, List.mem_of_getElem? (i := 516) (by decide +kernel), List.mem_of_getElem? (i := 774) (by decide +kernel), List.mem_of_getElem? (i := 775) (by decide +kernel)⟩
theorem lw_p34 : lw_okq (⟨"TippingBeamModel", "readMove", "()V"⟩, 17) := ⟨⟨by decide +kernel, by decide +kernel⟩, List.mem_of_getElem? (i := 516) (by decide +kernel), List.mem_of_getElem? (i := 778) (by decide +kernel), List.mem_of_getElem? (i := 779) (by decide +kernel)⟩
theorem lw_p35 : lw_okq (⟨"TippingBeamModel", "isMinus", "()Z"⟩, 17) := ⟨⟨by decide +kernel, by decide +kernel⟩, List.mem_of_getElem? (i := 516) (by decide +kernel), List.mem_of_getElem? (i := 782) (by decide +kernel), List.mem_of_getElem? (i := 783) (by decide +kernel)⟩
theorem lw_p36 : lw_okq (⟨"TippingBeamModel", "letter", "()I"⟩, 17) := ⟨⟨by decide +kernel, by decide +kernel⟩, List.mem_of_getElem? (i := 516) (by decide +kernel), List.mem_of_getElem? (i := 786) (by decide +kernel), List.mem_of_getElem? (i := 787) (by decide +kernel)⟩
theorem lw_p37 : lw_okq (⟨"TippingBeamModel", "digit", "()I"⟩, 17) := ⟨⟨by decide +kernel, by decide +kernel⟩, List.mem_of_getElem? (i := 516) (by decide +kernel), List.mem_of_getElem? (i := 790) (by decide +kernel), List.mem_of_getElem? (i := 791) (by decide +kernel)⟩
theorem lw_p38 : lw_okq (⟨"TippingBeamModel", "wants", "(Z)V"⟩, 17) := ⟨⟨by decide +kernel, by decide +kernel⟩, List.mem_of_getElem? (i := 516) (by decide +kernel), List.mem_of_getElem? (i := 794) (by decide +kernel), List.mem_of_getElem? (i := 795) (by decide +kernel)⟩
theorem lw_p39 : lw_okq (⟨"TippingBeamModel", "weights", "(I)I"⟩, 17) := ⟨⟨by decide +kernel, by decide +kernel⟩, List.mem_of_getElem? (i := 516) (by decide +kernel), List.mem_of_getElem? (i := 806) (by decide +kernel), List.mem_of_getElem? (i := 807) (by decide +kernel)⟩
theorem lw_p40 : lw_okq (⟨"TippingBeamModel", "top", "(I)I"⟩, 17) := ⟨⟨by decide +kernel, by decide +kernel⟩, List.mem_of_getElem? (i := 516) (by decide +kernel), List.mem_of_getElem? (i := 810) (by decide +kernel), List.mem_of_getElem? (i := 811) (by decide +kernel)⟩
theorem lw_p41 : lw_okq (⟨"TippingBeamModel", "result", "()I"⟩, 17) := ⟨⟨by decide +kernel, by decide +kernel⟩, List.mem_of_getElem? (i := 516) (by decide +kernel), List.mem_of_getElem? (i := 838) (by decide +kernel), List.mem_of_getElem? (i := 839) (by decide +kernel)⟩
theorem lw_p42 : lw_okq (⟨"TippingBeamModel", "allWeights", "()I"⟩, 17) := ⟨⟨by decide +kernel, by decide +kernel⟩, List.mem_of_getElem? (i := 516) (by decide +kernel), List.mem_of_getElem? (i := 842) (by decide +kernel), List.mem_of_getElem? (i := 843) (by decide +kernel)⟩
theorem lw_p43 : lw_okq (⟨"TippingBeamModel", "moves", "(Z)I"⟩, 17) := ⟨⟨by decide +kernel, by decide +kernel⟩, List.mem_of_getElem? (i := 516) (by decide +kernel), List.mem_of_getElem? (i := 846) (by decide +kernel), List.mem_of_getElem? (i := 847) (by decide +kernel)⟩
def lw_privs_3 : List (MethodName × Nat) := [(⟨"TippingBeamModel", "bestMove", "(I)I"⟩, 17), (⟨"TippingBeamModel", "readText", "()I"⟩, 17), (⟨"TippingBeamModel", "readMove", "()V"⟩, 17), (⟨"TippingBeamModel", "isMinus", "()Z"⟩, 17), (⟨"TippingBeamModel", "letter", "()I"⟩, 17), (⟨"TippingBeamModel", "digit", "()I"⟩, 17), (⟨"TippingBeamModel", "wants", "(Z)V"⟩, 17), (⟨"TippingBeamModel", "weights", "(I)I"⟩, 17), (⟨"TippingBeamModel", "top", "(I)I"⟩, 17), (⟨"TippingBeamModel", "result", "()I"⟩, 17), (⟨"TippingBeamModel", "allWeights", "()I"⟩, 17), (⟨"TippingBeamModel", "moves", "(Z)I"⟩, 17)]
theorem lw_r3 : ∀ q ∈ lw_privs_3, lw_okq q := List.forall_mem_cons.mpr ⟨lw_p32, List.forall_mem_cons.mpr ⟨lw_p33, List.forall_mem_cons.mpr ⟨lw_p34, List.forall_mem_cons.mpr ⟨lw_p35, List.forall_mem_cons.mpr ⟨lw_p36, List.forall_mem_cons.mpr ⟨lw_p37, List.forall_mem_cons.mpr ⟨lw_p38, List.forall_mem_cons.mpr ⟨lw_p39, List.forall_mem_cons.mpr ⟨lw_p40, List.forall_mem_cons.mpr ⟨lw_p41, List.forall_mem_cons.mpr ⟨lw_p42, List.forall_mem_cons.mpr ⟨lw_p43, fun _ h => absurd h List.not_mem_nil⟩⟩⟩⟩⟩⟩⟩⟩⟩⟩⟩⟩
def lw_privs : List (MethodName × Nat) := lw_privs_1 ++ (lw_privs_2 ++ (lw_privs_3))
def lw_tbl : List Cond := k2_sels lw_privs ++ tables_1
theorem lw_privs_ok : ∀ q ∈ lw_privs, lw_okq q := by
  show ∀ q ∈ lw_privs_1 ++ (lw_privs_2 ++ (lw_privs_3)), lw_okq q
  exact List.forall_mem_append.mpr ⟨lw_r1, List.forall_mem_append.mpr ⟨lw_r2, lw_r3⟩⟩

def RX0 : String := "TippingBeam$Beam"
def TX0 : u_T := fun k => match k with
  | 0 => ("TippingBeam$Beam", "stacks", "[I", true)
  | 1 => ("TippingBeam$Beam", "heights", "[I", true)
  | 2 => ("TippingBeam$Beam", "bags", "[I", true)
  | 3 => ("TippingBeam$Beam", "settings", "[I", true)
  | 4 => ("TippingBeam$Beam", "moves", "[I", true)
  | 5 => ("TippingBeam$Beam", "side", "I", false)
  | 6 => ("TippingBeam$Beam", "latestSide", "I", false)
  | 7 => ("TippingBeam$Beam", "movedTo", "I", false)
  | 8 => ("TippingBeam$Beam", "turn", "I", false)
  | 9 => ("TippingBeam$Beam", "told", "I", false)
  | 10 => ("TippingBeam$Beam", "greatest", "I", false)
  | _ => ("TippingBeam$Beam", "moveCount", "I", false)
def tyX0 : Nat → FieldType := fun k => match k with
  | 0 => .array .int
  | 1 => .array .int
  | 2 => .array .int
  | 3 => .array .int
  | 4 => .array .int
  | 5 => .int
  | 6 => .int
  | 7 => .int
  | 8 => .int
  | 9 => .int
  | 10 => .int
  | _ => .int
abbrev wsX00 : List Cond := u_ws RX0 TX0 12
theorem nmX0 : ∀ a, a < 12 → ∀ b, b < 12 → a ≠ b → (TX0 a).2.1 ≠ (TX0 b).2.1 := by decide +kernel
theorem tyX0_ok : ∀ k, k < 12 → parseFieldDescriptor (TX0 k).2.2.1 = some (tyX0 k) := by decide +kernel
abbrev cX0_init : ByteArray := prog_2_method_1_code
def yX0_init : MethodName := ⟨RX0, "<init>", "()V"⟩
abbrev cX0_copyFrom : ByteArray := prog_2_method_2_code
def yX0_copyFrom : MethodName := ⟨RX0, "copyFrom", "(LTippingBeam$Beam;)V"⟩
abbrev cX0_empty : ByteArray := prog_2_method_3_code
def yX0_empty : MethodName := ⟨RX0, "empty", "()V"⟩
abbrev cX0_isPlace : ByteArray := prog_2_method_4_code
def yX0_isPlace : MethodName := ⟨RX0, "isPlace", "(I)Z"⟩
abbrev cX0_isWeight : ByteArray := prog_2_method_5_code
def yX0_isWeight : MethodName := ⟨RX0, "isWeight", "(I)Z"⟩
abbrev cX0_isSide : ByteArray := prog_2_method_6_code
def yX0_isSide : MethodName := ⟨RX0, "isSide", "(I)Z"⟩
abbrev cX0_isSetting : ByteArray := prog_2_method_7_code
def yX0_isSetting : MethodName := ⟨RX0, "isSetting", "(I)Z"⟩
abbrev cX0_leastOfSetting : ByteArray := prog_2_method_8_code
def yX0_leastOfSetting : MethodName := ⟨RX0, "leastOfSetting", "(I)I"⟩
abbrev cX0_mostOfSetting : ByteArray := prog_2_method_9_code
def yX0_mostOfSetting : MethodName := ⟨RX0, "mostOfSetting", "(I)I"⟩
abbrev cX0_numberOf : ByteArray := prog_2_method_10_code
def yX0_numberOf : MethodName := ⟨RX0, "numberOf", "(I)I"⟩
abbrev cX0_placeOf : ByteArray := prog_2_method_11_code
def yX0_placeOf : MethodName := ⟨RX0, "placeOf", "(I)I"⟩
abbrev cX0_slotOf : ByteArray := prog_2_method_12_code
def yX0_slotOf : MethodName := ⟨RX0, "slotOf", "(I)I"⟩
abbrev cX0_heightAt : ByteArray := prog_2_method_13_code
def yX0_heightAt : MethodName := ⟨RX0, "heightAt", "(I)I"⟩
abbrev cX0_weightAt : ByteArray := prog_2_method_14_code
def yX0_weightAt : MethodName := ⟨RX0, "weightAt", "(II)I"⟩
abbrev cX0_uppermostAt : ByteArray := prog_2_method_15_code
def yX0_uppermostAt : MethodName := ⟨RX0, "uppermostAt", "(I)I"⟩
abbrev cX0_weightsAt : ByteArray := prog_2_method_16_code
def yX0_weightsAt : MethodName := ⟨RX0, "weightsAt", "(I)I"⟩
abbrev cX0_isFull : ByteArray := prog_2_method_17_code
def yX0_isFull : MethodName := ⟨RX0, "isFull", "(I)Z"⟩
abbrev cX0_putOn : ByteArray := prog_2_method_18_code
def yX0_putOn : MethodName := ⟨RX0, "putOn", "(II)V"⟩
abbrev cX0_takeFrom : ByteArray := prog_2_method_19_code
def yX0_takeFrom : MethodName := ⟨RX0, "takeFrom", "(I)I"⟩
abbrev cX0_tokens : ByteArray := prog_2_method_20_code
def yX0_tokens : MethodName := ⟨RX0, "tokens", "()I"⟩
abbrev cX0_weights : ByteArray := prog_2_method_21_code
def yX0_weights : MethodName := ⟨RX0, "weights", "()I"⟩
abbrev cX0_inBag : ByteArray := prog_2_method_22_code
def yX0_inBag : MethodName := ⟨RX0, "inBag", "(II)I"⟩
abbrev cX0_changeBag : ByteArray := prog_2_method_23_code
def yX0_changeBag : MethodName := ⟨RX0, "changeBag", "(III)V"⟩
abbrev cX0_setting : ByteArray := prog_2_method_24_code
def yX0_setting : MethodName := ⟨RX0, "setting", "(I)I"⟩
abbrev cX0_changeSetting : ByteArray := prog_2_method_25_code
def yX0_changeSetting : MethodName := ⟨RX0, "changeSetting", "(II)V"⟩
abbrev cX0_outcome : ByteArray := prog_2_method_26_code
def yX0_outcome : MethodName := ⟨RX0, "outcome", "()I"⟩
abbrev cX0_worth : ByteArray := prog_2_method_27_code
def yX0_worth : MethodName := ⟨RX0, "worth", "(I)I"⟩
abbrev cX0_whyNot : ByteArray := prog_2_method_28_code
def yX0_whyNot : MethodName := ⟨RX0, "whyNot", "(II)I"⟩
abbrev cX0_hindrance : ByteArray := prog_2_method_29_code
def yX0_hindrance : MethodName := ⟨RX0, "hindrance", "(II)I"⟩
abbrev cX0_targetOf : ByteArray := prog_2_method_30_code
def yX0_targetOf : MethodName := ⟨RX0, "targetOf", "(II)I"⟩
abbrev cX0_tellingOf : ByteArray := prog_2_method_31_code
def yX0_tellingOf : MethodName := ⟨RX0, "tellingOf", "(II)I"⟩
abbrev cX0_makeMove : ByteArray := prog_2_method_32_code
def yX0_makeMove : MethodName := ⟨RX0, "makeMove", "(II)V"⟩
abbrev cX0_tryMove : ByteArray := prog_2_method_33_code
def yX0_tryMove : MethodName := ⟨RX0, "tryMove", "(II)V"⟩
abbrev cX0_takeBack : ByteArray := prog_2_method_34_code
def yX0_takeBack : MethodName := ⟨RX0, "takeBack", "(IIIII)V"⟩
abbrev cX0_sideBehind : ByteArray := prog_2_method_35_code
def yX0_sideBehind : MethodName := ⟨RX0, "sideBehind", "(I)I"⟩
abbrev cX0_rowOf : ByteArray := prog_2_method_36_code
def yX0_rowOf : MethodName := ⟨RX0, "rowOf", "(I)I"⟩
abbrev cX0_isMoveKept : ByteArray := prog_2_method_37_code
def yX0_isMoveKept : MethodName := ⟨RX0, "isMoveKept", "(I)Z"⟩
abbrev cX0_partOfMove : ByteArray := prog_2_method_38_code
def yX0_partOfMove : MethodName := ⟨RX0, "partOfMove", "(II)I"⟩
abbrev cX0_possibleMoves : ByteArray := prog_2_method_39_code
def yX0_possibleMoves : MethodName := ⟨RX0, "possibleMoves", "()I"⟩
abbrev cX0_safeMoves : ByteArray := prog_2_method_40_code
def yX0_safeMoves : MethodName := ⟨RX0, "safeMoves", "()I"⟩
abbrev cX0_side : ByteArray := prog_2_method_41_code
def yX0_side : MethodName := ⟨RX0, "side", "()I"⟩
abbrev cX0_latestSide : ByteArray := prog_2_method_42_code
def yX0_latestSide : MethodName := ⟨RX0, "latestSide", "()I"⟩
abbrev cX0_movedTo : ByteArray := prog_2_method_43_code
def yX0_movedTo : MethodName := ⟨RX0, "movedTo", "()I"⟩
abbrev cX0_turn : ByteArray := prog_2_method_44_code
def yX0_turn : MethodName := ⟨RX0, "turn", "()I"⟩
abbrev cX0_toldByMoves : ByteArray := prog_2_method_45_code
def yX0_toldByMoves : MethodName := ⟨RX0, "toldByMoves", "()I"⟩
abbrev cX0_greatestTurn : ByteArray := prog_2_method_46_code
def yX0_greatestTurn : MethodName := ⟨RX0, "greatestTurn", "()I"⟩
abbrev cX0_moveCount : ByteArray := prog_2_method_47_code
def yX0_moveCount : MethodName := ⟨RX0, "moveCount", "()I"⟩
def RX1 : String := "TippingBeam$History"
def TX1 : u_T := fun k => match k with
  | 0 => ("TippingBeam$History", "states", "[LTippingBeam$Beam;", true)
  | _ => ("TippingBeam$History", "size", "I", false)
def tyX1 : Nat → FieldType := fun k => match k with
  | 0 => .array (.object "TippingBeam$Beam")
  | _ => .int
abbrev wsX10 : List Cond := u_ws RX1 TX1 2
theorem nmX1 : ∀ a, a < 2 → ∀ b, b < 2 → a ≠ b → (TX1 a).2.1 ≠ (TX1 b).2.1 := by decide +kernel
theorem tyX1_ok : ∀ k, k < 2 → parseFieldDescriptor (TX1 k).2.2.1 = some (tyX1 k) := by decide +kernel
abbrev cX1_init : ByteArray := prog_3_method_1_code
def yX1_init : MethodName := ⟨RX1, "<init>", "()V"⟩
abbrev cX1_size : ByteArray := prog_3_method_2_code
def yX1_size : MethodName := ⟨RX1, "size", "()I"⟩
abbrev cX1_remember : ByteArray := prog_3_method_3_code
def yX1_remember : MethodName := ⟨RX1, "remember", "(LTippingBeam$Beam;)V"⟩
abbrev cX1_dropOldest : ByteArray := prog_3_method_4_code
def yX1_dropOldest : MethodName := ⟨RX1, "dropOldest", "()V"⟩
abbrev cX1_bringBack : ByteArray := prog_3_method_5_code
def yX1_bringBack : MethodName := ⟨RX1, "bringBack", "(LTippingBeam$Beam;)Z"⟩
def RX2 : String := "TippingBeam$MoveText"
def TX2 : u_T := fun k => match k with
  | 0 => ("TippingBeam$MoveText", "characters", "[C", true)
  | 1 => ("TippingBeam$MoveText", "numbers", "[I", true)
  | 2 => ("TippingBeam$MoveText", "places", "[I", true)
  | 3 => ("TippingBeam$MoveText", "length", "I", false)
  | 4 => ("TippingBeam$MoveText", "moves", "I", false)
  | 5 => ("TippingBeam$MoveText", "number", "I", false)
  | 6 => ("TippingBeam$MoveText", "digit", "I", false)
  | _ => ("TippingBeam$MoveText", "negative", "Z", false)
def tyX2 : Nat → FieldType := fun k => match k with
  | 0 => .array .char
  | 1 => .array .int
  | 2 => .array .int
  | 3 => .int
  | 4 => .int
  | 5 => .int
  | 6 => .int
  | _ => .boolean
abbrev wsX20 : List Cond := u_ws RX2 TX2 8
theorem nmX2 : ∀ a, a < 8 → ∀ b, b < 8 → a ≠ b → (TX2 a).2.1 ≠ (TX2 b).2.1 := by decide +kernel
theorem tyX2_ok : ∀ k, k < 8 → parseFieldDescriptor (TX2 k).2.2.1 = some (tyX2 k) := by decide +kernel
abbrev cX2_init : ByteArray := prog_4_method_1_code
def yX2_init : MethodName := ⟨RX2, "<init>", "()V"⟩
abbrev cX2_length : ByteArray := prog_4_method_2_code
def yX2_length : MethodName := ⟨RX2, "length", "()I"⟩
abbrev cX2_append : ByteArray := prog_4_method_3_code
def yX2_append : MethodName := ⟨RX2, "append", "(C)Z"⟩
abbrev cX2_empty : ByteArray := prog_4_method_4_code
def yX2_empty : MethodName := ⟨RX2, "empty", "()V"⟩
abbrev cX2_moves : ByteArray := prog_4_method_5_code
def yX2_moves : MethodName := ⟨RX2, "moves", "()I"⟩
abbrev cX2_numberOf : ByteArray := prog_4_method_6_code
def yX2_numberOf : MethodName := ⟨RX2, "numberOf", "(I)I"⟩
abbrev cX2_placeOf : ByteArray := prog_4_method_7_code
def yX2_placeOf : MethodName := ⟨RX2, "placeOf", "(I)I"⟩
abbrev cX2_read : ByteArray := prog_4_method_8_code
def yX2_read : MethodName := ⟨RX2, "read", "()I"⟩
abbrev cX2_stateBehind : ByteArray := prog_4_method_9_code
def yX2_stateBehind : MethodName := ⟨RX2, "stateBehind", "(IC)I"⟩
abbrev cX2_take : ByteArray := prog_4_method_10_code
def yX2_take : MethodName := ⟨RX2, "take", "(C)V"⟩
abbrev cX2_endMove : ByteArray := prog_4_method_11_code
def yX2_endMove : MethodName := ⟨RX2, "endMove", "()V"⟩
def RX3 : String := "TippingBeam$Search"
def TX3 : u_T := fun k => match k with
  | _ => ("", "", "", false)
def tyX3 : Nat → FieldType := fun k => match k with
  | _ => .int
abbrev wsX30 : List Cond := u_ws RX3 TX3 0
theorem nmX3 : ∀ a, a < 0 → ∀ b, b < 0 → a ≠ b → (TX3 a).2.1 ≠ (TX3 b).2.1 := by decide +kernel
theorem tyX3_ok : ∀ k, k < 0 → parseFieldDescriptor (TX3 k).2.2.1 = some (tyX3 k) := by decide +kernel
abbrev cX3_lookAhead : ByteArray := prog_5_method_2_code
def yX3_lookAhead : MethodName := ⟨RX3, "lookAhead", "(LTippingBeam$Beam;I)I"⟩
abbrev cX3_bestRank : ByteArray := prog_5_method_3_code
def yX3_bestRank : MethodName := ⟨RX3, "bestRank", "(LTippingBeam$Beam;I)I"⟩
abbrev cX3_ahead : ByteArray := prog_5_method_4_code
def yX3_ahead : MethodName := ⟨RX3, "ahead", "(LTippingBeam$Beam;III)I"⟩
abbrev cX3_behind : ByteArray := prog_5_method_5_code
def yX3_behind : MethodName := ⟨RX3, "behind", "(LTippingBeam$Beam;IIIII)I"⟩
def RX4 : String := "TippingBeam"
def TX4 : u_T := fun k => match k with
  | 0 => ("TippingBeam", "beam", "LTippingBeam$Beam;", true)
  | 1 => ("TippingBeam", "trial", "LTippingBeam$Beam;", true)
  | 2 => ("TippingBeam", "snapshot", "LTippingBeam$Beam;", true)
  | 3 => ("TippingBeam", "history", "LTippingBeam$History;", true)
  | 4 => ("TippingBeam", "text", "LTippingBeam$MoveText;", true)
  | 5 => ("TippingBeam", "snapshotTaken", "Z", false)
  | 6 => ("TippingBeam", "everStopped", "Z", false)
  | 7 => ("TippingBeam", "stoppedMove", "I", false)
  | _ => ("TippingBeam", "stoppedReason", "I", false)
def tyX4 : Nat → FieldType := fun k => match k with
  | 0 => .object "TippingBeam$Beam"
  | 1 => .object "TippingBeam$Beam"
  | 2 => .object "TippingBeam$Beam"
  | 3 => .object "TippingBeam$History"
  | 4 => .object "TippingBeam$MoveText"
  | 5 => .boolean
  | 6 => .boolean
  | 7 => .int
  | _ => .int
abbrev wsX40 : List Cond := u_ws RX4 TX4 9
theorem nmX4 : ∀ a, a < 9 → ∀ b, b < 9 → a ≠ b → (TX4 a).2.1 ≠ (TX4 b).2.1 := by decide +kernel
theorem tyX4_ok : ∀ k, k < 9 → parseFieldDescriptor (TX4 k).2.2.1 = some (tyX4 k) := by decide +kernel
abbrev cX4_init : ByteArray := prog_1_method_1_code
def yX4_init : MethodName := ⟨RX4, "<init>", "()V"⟩
abbrev cX4_lay : ByteArray := prog_1_method_2_code
def yX4_lay : MethodName := ⟨RX4, "lay", "(II)I"⟩
abbrev cX4_push : ByteArray := prog_1_method_3_code
def yX4_push : MethodName := ⟨RX4, "push", "(IZ)I"⟩
abbrev cX4_play : ByteArray := prog_1_method_4_code
def yX4_play : MethodName := ⟨RX4, "play", "(I)I"⟩
abbrev cX4_makeMove : ByteArray := prog_1_method_5_code
def yX4_makeMove : MethodName := ⟨RX4, "makeMove", "(II)I"⟩
abbrev cX4_setBag : ByteArray := prog_1_method_6_code
def yX4_setBag : MethodName := ⟨RX4, "setBag", "(III)I"⟩
abbrev cX4_set : ByteArray := prog_1_method_7_code
def yX4_set : MethodName := ⟨RX4, "set", "(II)I"⟩
abbrev cX4_setUp : ByteArray := prog_1_method_8_code
def yX4_setUp : MethodName := ⟨RX4, "setUp", "(II)I"⟩
abbrev cX4_begin : ByteArray := prog_1_method_9_code
def yX4_begin : MethodName := ⟨RX4, "begin", "()I"⟩
abbrev cX4_type : ByteArray := prog_1_method_10_code
def yX4_type : MethodName := ⟨RX4, "type", "(C)I"⟩
abbrev cX4_clearText : ByteArray := prog_1_method_11_code
def yX4_clearText : MethodName := ⟨RX4, "clearText", "()I"⟩
abbrev cX4_perform : ByteArray := prog_1_method_12_code
def yX4_perform : MethodName := ⟨RX4, "perform", "()I"⟩
abbrev cX4_stopped : ByteArray := prog_1_method_13_code
def yX4_stopped : MethodName := ⟨RX4, "stopped", "(I)I"⟩
abbrev cX4_undo : ByteArray := prog_1_method_14_code
def yX4_undo : MethodName := ⟨RX4, "undo", "()I"⟩
abbrev cX4_keep : ByteArray := prog_1_method_15_code
def yX4_keep : MethodName := ⟨RX4, "keep", "()I"⟩
abbrev cX4_restore : ByteArray := prog_1_method_16_code
def yX4_restore : MethodName := ⟨RX4, "restore", "()I"⟩
abbrev cX4_at : ByteArray := prog_1_method_17_code
def yX4_at : MethodName := ⟨RX4, "at", "(II)I"⟩
abbrev cX4_bag : ByteArray := prog_1_method_18_code
def yX4_bag : MethodName := ⟨RX4, "bag", "(II)I"⟩
abbrev cX4_reason : ByteArray := prog_1_method_19_code
def yX4_reason : MethodName := ⟨RX4, "reason", "(II)I"⟩
abbrev cX4_possible : ByteArray := prog_1_method_20_code
def yX4_possible : MethodName := ⟨RX4, "possible", "(I)I"⟩
abbrev cX4_look : ByteArray := prog_1_method_21_code
def yX4_look : MethodName := ⟨RX4, "look", "(I)I"⟩
abbrev cX4_best : ByteArray := prog_1_method_22_code
def yX4_best : MethodName := ⟨RX4, "best", "(I)I"⟩
abbrev cX4_levels : ByteArray := prog_1_method_23_code
def yX4_levels : MethodName := ⟨RX4, "levels", "(I)I"⟩
abbrev cX4_made : ByteArray := prog_1_method_24_code
def yX4_made : MethodName := ⟨RX4, "made", "(II)I"⟩
abbrev cX4_count : ByteArray := prog_1_method_25_code
def yX4_count : MethodName := ⟨RX4, "count", "(I)I"⟩
abbrev cX4_tellMove : ByteArray := prog_1_method_26_code
def yX4_tellMove : MethodName := ⟨RX4, "tellMove", "(I)I"⟩
def RX5 : String := "TippingBeamModel"
def TX5 : u_T := fun k => match k with
  | 0 => ("TippingBeamModel", "z", "[I", true)
  | 1 => ("TippingBeamModel", "past", "[I", true)
  | 2 => ("TippingBeamModel", "pastMany", "I", false)
  | 3 => ("TippingBeamModel", "kept", "[I", true)
  | 4 => ("TippingBeamModel", "isKept", "Z", false)
  | 5 => ("TippingBeamModel", "spare", "[I", true)
  | 6 => ("TippingBeamModel", "text", "[C", true)
  | 7 => ("TippingBeamModel", "typed", "I", false)
  | 8 => ("TippingBeamModel", "stoppedAt", "I", false)
  | 9 => ("TippingBeamModel", "stoppedBy", "I", false)
  | 10 => ("TippingBeamModel", "sides", "[I", true)
  | 11 => ("TippingBeamModel", "lasts", "[I", true)
  | 12 => ("TippingBeamModel", "latelies", "[I", true)
  | 13 => ("TippingBeamModel", "read", "[I", true)
  | 14 => ("TippingBeamModel", "readMany", "I", false)
  | 15 => ("TippingBeamModel", "spot", "I", false)
  | _ => ("TippingBeamModel", "wrong", "I", false)
def tyX5 : Nat → FieldType := fun k => match k with
  | 0 => .array .int
  | 1 => .array .int
  | 2 => .int
  | 3 => .array .int
  | 4 => .boolean
  | 5 => .array .int
  | 6 => .array .char
  | 7 => .int
  | 8 => .int
  | 9 => .int
  | 10 => .array .int
  | 11 => .array .int
  | 12 => .array .int
  | 13 => .array .int
  | 14 => .int
  | 15 => .int
  | _ => .int
abbrev wsX50 : List Cond := u_ws RX5 TX5 17
theorem nmX5 : ∀ a, a < 17 → ∀ b, b < 17 → a ≠ b → (TX5 a).2.1 ≠ (TX5 b).2.1 := by decide +kernel
theorem tyX5_ok : ∀ k, k < 17 → parseFieldDescriptor (TX5 k).2.2.1 = some (tyX5 k) := by decide +kernel
abbrev cX5_init : ByteArray := prog_7_method_1_code
def yX5_init : MethodName := ⟨RX5, "<init>", "()V"⟩
abbrev cX5_in : ByteArray := prog_7_method_2_code
def yX5_in : MethodName := ⟨RX5, "in", "(III)Z"⟩
abbrev cX5_isPlace : ByteArray := prog_7_method_3_code
def yX5_isPlace : MethodName := ⟨RX5, "isPlace", "(I)Z"⟩
abbrev cX5_isWeight : ByteArray := prog_7_method_4_code
def yX5_isWeight : MethodName := ⟨RX5, "isWeight", "(I)Z"⟩
abbrev cX5_isSide : ByteArray := prog_7_method_5_code
def yX5_isSide : MethodName := ⟨RX5, "isSide", "(I)Z"⟩
abbrev cX5_bagAt : ByteArray := prog_7_method_6_code
def yX5_bagAt : MethodName := ⟨RX5, "bagAt", "(II)I"⟩
abbrev cX5_inBag : ByteArray := prog_7_method_7_code
def yX5_inBag : MethodName := ⟨RX5, "inBag", "(II)I"⟩
abbrev cX5_addBag : ByteArray := prog_7_method_8_code
def yX5_addBag : MethodName := ⟨RX5, "addBag", "(III)V"⟩
abbrev cX5_allIn : ByteArray := prog_7_method_9_code
def yX5_allIn : MethodName := ⟨RX5, "allIn", "(I)I"⟩
abbrev cX5_spotOf : ByteArray := prog_7_method_10_code
def yX5_spotOf : MethodName := ⟨RX5, "spotOf", "(I)I"⟩
abbrev cX5_many : ByteArray := prog_7_method_11_code
def yX5_many : MethodName := ⟨RX5, "many", "(I)I"⟩
abbrev cX5_top : ByteArray := prog_7_method_12_code
def yX5_top : MethodName := ⟨RX5, "top", "(I)I"⟩
abbrev cX5_put : ByteArray := prog_7_method_13_code
def yX5_put : MethodName := ⟨RX5, "put", "(II)V"⟩
abbrev cX5_takeOff : ByteArray := prog_7_method_14_code
def yX5_takeOff : MethodName := ⟨RX5, "takeOff", "(I)I"⟩
abbrev cX5_size : ByteArray := prog_7_method_15_code
def yX5_size : MethodName := ⟨RX5, "size", "(I)I"⟩
abbrev cX5_placeBy : ByteArray := prog_7_method_16_code
def yX5_placeBy : MethodName := ⟨RX5, "placeBy", "(I)I"⟩
abbrev cX5_record : ByteArray := prog_7_method_17_code
def yX5_record : MethodName := ⟨RX5, "record", "()V"⟩
abbrev cX5_undo : ByteArray := prog_7_method_18_code
def yX5_undo : MethodName := ⟨RX5, "undo", "()I"⟩
abbrev cX5_tokens : ByteArray := prog_7_method_19_code
def yX5_tokens : MethodName := ⟨RX5, "tokens", "()I"⟩
abbrev cX5_keep : ByteArray := prog_7_method_20_code
def yX5_keep : MethodName := ⟨RX5, "keep", "()I"⟩
abbrev cX5_restore : ByteArray := prog_7_method_21_code
def yX5_restore : MethodName := ⟨RX5, "restore", "()I"⟩
abbrev cX5_hasTipped : ByteArray := prog_7_method_22_code
def yX5_hasTipped : MethodName := ⟨RX5, "hasTipped", "()Z"⟩
abbrev cX5_isOver : ByteArray := prog_7_method_23_code
def yX5_isOver : MethodName := ⟨RX5, "isOver", "()Z"⟩
abbrev cX5_winner : ByteArray := prog_7_method_24_code
def yX5_winner : MethodName := ⟨RX5, "winner", "()I"⟩
abbrev cX5_result : ByteArray := prog_7_method_25_code
def yX5_result : MethodName := ⟨RX5, "result", "()I"⟩
abbrev cX5_goal : ByteArray := prog_7_method_26_code
def yX5_goal : MethodName := ⟨RX5, "goal", "(II)I"⟩
abbrev cX5_whyNot : ByteArray := prog_7_method_27_code
def yX5_whyNot : MethodName := ⟨RX5, "whyNot", "(II)I"⟩
abbrev cX5_change : ByteArray := prog_7_method_28_code
def yX5_change : MethodName := ⟨RX5, "change", "(II)V"⟩
abbrev cX5_moveIt : ByteArray := prog_7_method_29_code
def yX5_moveIt : MethodName := ⟨RX5, "moveIt", "(II)I"⟩
abbrev cX5_tryMove : ByteArray := prog_7_method_30_code
def yX5_tryMove : MethodName := ⟨RX5, "tryMove", "(II)I"⟩
abbrev cX5_lay : ByteArray := prog_7_method_31_code
def yX5_lay : MethodName := ⟨RX5, "lay", "(II)I"⟩
abbrev cX5_push : ByteArray := prog_7_method_32_code
def yX5_push : MethodName := ⟨RX5, "push", "(IZ)I"⟩
abbrev cX5_numberOf : ByteArray := prog_7_method_33_code
def yX5_numberOf : MethodName := ⟨RX5, "numberOf", "(I)I"⟩
abbrev cX5_placeOf : ByteArray := prog_7_method_34_code
def yX5_placeOf : MethodName := ⟨RX5, "placeOf", "(I)I"⟩
abbrev cX5_isPossible : ByteArray := prog_7_method_35_code
def yX5_isPossible : MethodName := ⟨RX5, "isPossible", "(I)Z"⟩
abbrev cX5_ahead : ByteArray := prog_7_method_36_code
def yX5_ahead : MethodName := ⟨RX5, "ahead", "(II)V"⟩
abbrev cX5_back : ByteArray := prog_7_method_37_code
def yX5_back : MethodName := ⟨RX5, "back", "(II)V"⟩
abbrev cX5_told : ByteArray := prog_7_method_38_code
def yX5_told : MethodName := ⟨RX5, "told", "()I"⟩
abbrev cX5_forMover : ByteArray := prog_7_method_39_code
def yX5_forMover : MethodName := ⟨RX5, "forMover", "(II)I"⟩
abbrev cX5_lookOne : ByteArray := prog_7_method_40_code
def yX5_lookOne : MethodName := ⟨RX5, "lookOne", "()I"⟩
abbrev cX5_lookTwo : ByteArray := prog_7_method_41_code
def yX5_lookTwo : MethodName := ⟨RX5, "lookTwo", "()I"⟩
abbrev cX5_lookThree : ByteArray := prog_7_method_42_code
def yX5_lookThree : MethodName := ⟨RX5, "lookThree", "()I"⟩
abbrev cX5_looked : ByteArray := prog_7_method_43_code
def yX5_looked : MethodName := ⟨RX5, "looked", "(I)I"⟩
abbrev cX5_look : ByteArray := prog_7_method_44_code
def yX5_look : MethodName := ⟨RX5, "look", "(I)I"⟩
abbrev cX5_bestMove : ByteArray := prog_7_method_45_code
def yX5_bestMove : MethodName := ⟨RX5, "bestMove", "(I)I"⟩
abbrev cX5_toldMove : ByteArray := prog_7_method_46_code
def yX5_toldMove : MethodName := ⟨RX5, "toldMove", "(I)I"⟩
abbrev cX5_best : ByteArray := prog_7_method_47_code
def yX5_best : MethodName := ⟨RX5, "best", "(I)I"⟩
abbrev cX5_play : ByteArray := prog_7_method_48_code
def yX5_play : MethodName := ⟨RX5, "play", "(I)I"⟩
abbrev cX5_setBag : ByteArray := prog_7_method_49_code
def yX5_setBag : MethodName := ⟨RX5, "setBag", "(III)I"⟩
abbrev cX5_isValue : ByteArray := prog_7_method_50_code
def yX5_isValue : MethodName := ⟨RX5, "isValue", "(II)Z"⟩
abbrev cX5_set : ByteArray := prog_7_method_51_code
def yX5_set : MethodName := ⟨RX5, "set", "(II)I"⟩
abbrev cX5_setUp : ByteArray := prog_7_method_52_code
def yX5_setUp : MethodName := ⟨RX5, "setUp", "(II)I"⟩
abbrev cX5_begin : ByteArray := prog_7_method_53_code
def yX5_begin : MethodName := ⟨RX5, "begin", "()I"⟩
abbrev cX5_type : ByteArray := prog_7_method_54_code
def yX5_type : MethodName := ⟨RX5, "type", "(C)I"⟩
abbrev cX5_clearText : ByteArray := prog_7_method_55_code
def yX5_clearText : MethodName := ⟨RX5, "clearText", "()I"⟩
abbrev cX5_letter : ByteArray := prog_7_method_56_code
def yX5_letter : MethodName := ⟨RX5, "letter", "()I"⟩
abbrev cX5_wants : ByteArray := prog_7_method_57_code
def yX5_wants : MethodName := ⟨RX5, "wants", "(Z)V"⟩
abbrev cX5_isMinus : ByteArray := prog_7_method_58_code
def yX5_isMinus : MethodName := ⟨RX5, "isMinus", "()Z"⟩
abbrev cX5_digit : ByteArray := prog_7_method_59_code
def yX5_digit : MethodName := ⟨RX5, "digit", "()I"⟩
abbrev cX5_readMove : ByteArray := prog_7_method_60_code
def yX5_readMove : MethodName := ⟨RX5, "readMove", "()V"⟩
abbrev cX5_readText : ByteArray := prog_7_method_61_code
def yX5_readText : MethodName := ⟨RX5, "readText", "()I"⟩
abbrev cX5_perform : ByteArray := prog_7_method_62_code
def yX5_perform : MethodName := ⟨RX5, "perform", "()I"⟩
abbrev cX5_stopped : ByteArray := prog_7_method_63_code
def yX5_stopped : MethodName := ⟨RX5, "stopped", "(I)I"⟩
abbrev cX5_weights : ByteArray := prog_7_method_64_code
def yX5_weights : MethodName := ⟨RX5, "weights", "(I)I"⟩
abbrev cX5_at : ByteArray := prog_7_method_65_code
def yX5_at : MethodName := ⟨RX5, "at", "(II)I"⟩
abbrev cX5_bag : ByteArray := prog_7_method_66_code
def yX5_bag : MethodName := ⟨RX5, "bag", "(II)I"⟩
abbrev cX5_reason : ByteArray := prog_7_method_67_code
def yX5_reason : MethodName := ⟨RX5, "reason", "(II)I"⟩
abbrev cX5_possible : ByteArray := prog_7_method_68_code
def yX5_possible : MethodName := ⟨RX5, "possible", "(I)I"⟩
abbrev cX5_levels : ByteArray := prog_7_method_69_code
def yX5_levels : MethodName := ⟨RX5, "levels", "(I)I"⟩
abbrev cX5_made : ByteArray := prog_7_method_70_code
def yX5_made : MethodName := ⟨RX5, "made", "(II)I"⟩
abbrev cX5_moves : ByteArray := prog_7_method_71_code
def yX5_moves : MethodName := ⟨RX5, "moves", "(Z)I"⟩
abbrev cX5_allWeights : ByteArray := prog_7_method_72_code
def yX5_allWeights : MethodName := ⟨RX5, "allWeights", "()I"⟩
abbrev cX5_count : ByteArray := prog_7_method_73_code
def yX5_count : MethodName := ⟨RX5, "count", "(I)I"⟩
def RJ9 : String := "java/lang/Math"
def TJ9 : u_T := fun k => match k with
  | _ => ("", "", "", false)
def tyJ9 : Nat → FieldType := fun k => match k with
  | _ => .int
abbrev wsJ90 : List Cond := u_ws RJ9 TJ9 0
theorem nmJ9 : ∀ a, a < 0 → ∀ b, b < 0 → a ≠ b → (TJ9 a).2.1 ≠ (TJ9 b).2.1 := by decide +kernel
theorem tyJ9_ok : ∀ k, k < 0 → parseFieldDescriptor (TJ9 k).2.2.1 = some (tyJ9 k) := by decide +kernel
abbrev cJ9_floorMod_7cf53 : ByteArray := prog_8_method_50_code
def yJ9_floorMod_7cf53 : MethodName := ⟨RJ9, "floorMod", "(II)I"⟩
abbrev cJ9_abs_0f7a4 : ByteArray := prog_8_method_59_code
def yJ9_abs_0f7a4 : MethodName := ⟨RJ9, "abs", "(I)I"⟩
abbrev cJ9_max_7cf53 : ByteArray := prog_8_method_65_code
def yJ9_max_7cf53 : MethodName := ⟨RJ9, "max", "(II)I"⟩
def RJ10 : String := "java/lang/System"
def TJ10 : u_T := fun k => match k with
  | _ => ("", "", "", false)
def tyJ10 : Nat → FieldType := fun k => match k with
  | _ => .int
abbrev wsJ100 : List Cond := u_ws RJ10 TJ10 0
theorem nmJ10 : ∀ a, a < 0 → ∀ b, b < 0 → a ≠ b → (TJ10 a).2.1 ≠ (TJ10 b).2.1 := by decide +kernel
theorem tyJ10_ok : ∀ k, k < 0 → parseFieldDescriptor (TJ10 k).2.2.1 = some (tyJ10 k) := by decide +kernel
def RL : String := "TippingBeamLaw"
abbrev cL_law : ByteArray := code
def yL_law : MethodName := ⟨RL, "law", "([I)Z"⟩
abbrev vwCl : List vw_C := [(RX0, TX0, 12), (RX1, TX1, 2), (RX2, TX2, 8), (RX4, TX4, 9), (RX5, TX5, 17)]
