section
-- ===== PART A: goes FIRST, ahead of the names: the tables' words, and 'selects' of the private methods out of them =====
/-- a private method of a class that the tables say can be made, by its rows of tables_1 -/
def lw_okq (q : MethodName × Nat) : Prop := (q.1.cls ≠ "java/lang/invoke/MethodHandle" ∧ q.1.cls ≠ "java/lang/invoke/VarHandle") ∧ Cond.instantiable q.1.cls q.2 ∈ tables_1 ∧ Cond.privateMethod q.1 ∈ tables_1 ∧ Cond.instanceMethod q.1 ∈ tables_1
theorem lw_p0 : lw_okq (⟨"TippingBeam", "makeMove", "(II)I"⟩, 9) := ⟨⟨by decide +kernel, by decide +kernel⟩, List.mem_of_getElem? (i := 10) (by decide +kernel), List.mem_of_getElem? (i := 148) (by decide +kernel), List.mem_of_getElem? (i := 149) (by decide +kernel)⟩
theorem lw_p1 : lw_okq (⟨"TippingBeam$History", "dropOldest", "()V"⟩, 2) := ⟨⟨by decide +kernel, by decide +kernel⟩, List.mem_of_getElem? (i := 62) (by decide +kernel), List.mem_of_getElem? (i := 193) (by decide +kernel), List.mem_of_getElem? (i := 194) (by decide +kernel)⟩
theorem lw_p2 : lw_okq (⟨"TippingBeam$Beam", "weightAt", "(II)I"⟩, 12) := ⟨⟨by decide +kernel, by decide +kernel⟩, List.mem_of_getElem? (i := 18) (by decide +kernel), List.mem_of_getElem? (i := 222) (by decide +kernel), List.mem_of_getElem? (i := 223) (by decide +kernel)⟩
theorem lw_p3 : lw_okq (⟨"TippingBeam$Beam", "takeFrom", "(I)I"⟩, 12) := ⟨⟨by decide +kernel, by decide +kernel⟩, List.mem_of_getElem? (i := 18) (by decide +kernel), List.mem_of_getElem? (i := 239) (by decide +kernel), List.mem_of_getElem? (i := 240) (by decide +kernel)⟩
theorem lw_p4 : lw_okq (⟨"TippingBeam$Beam", "sideBehind", "(I)I"⟩, 12) := ⟨⟨by decide +kernel, by decide +kernel⟩, List.mem_of_getElem? (i := 18) (by decide +kernel), List.mem_of_getElem? (i := 243) (by decide +kernel), List.mem_of_getElem? (i := 244) (by decide +kernel)⟩
theorem lw_p5 : lw_okq (⟨"TippingBeam$MoveText", "take", "(C)V"⟩, 8) := ⟨⟨by decide +kernel, by decide +kernel⟩, List.mem_of_getElem? (i := 78) (by decide +kernel), List.mem_of_getElem? (i := 384) (by decide +kernel), List.mem_of_getElem? (i := 385) (by decide +kernel)⟩
theorem lw_p6 : lw_okq (⟨"TippingBeam$MoveText", "endMove", "()V"⟩, 8) := ⟨⟨by decide +kernel, by decide +kernel⟩, List.mem_of_getElem? (i := 78) (by decide +kernel), List.mem_of_getElem? (i := 388) (by decide +kernel), List.mem_of_getElem? (i := 389) (by decide +kernel)⟩
theorem lw_p7 : lw_okq (⟨"TippingBeamModel", "addBag", "(III)V"⟩, 17) := ⟨⟨by decide +kernel, by decide +kernel⟩, List.mem_of_getElem? (i := 516) (by decide +kernel), List.mem_of_getElem? (i := 522) (by decide +kernel), List.mem_of_getElem? (i := 523) (by decide +kernel)⟩
theorem lw_p8 : lw_okq (⟨"TippingBeamModel", "bagAt", "(II)I"⟩, 17) := ⟨⟨by decide +kernel, by decide +kernel⟩, List.mem_of_getElem? (i := 516) (by decide +kernel), List.mem_of_getElem? (i := 526) (by decide +kernel), List.mem_of_getElem? (i := 527) (by decide +kernel)⟩
theorem lw_p9 : lw_okq (⟨"TippingBeamModel", "tokens", "()I"⟩, 17) := ⟨⟨by decide +kernel, by decide +kernel⟩, List.mem_of_getElem? (i := 516) (by decide +kernel), List.mem_of_getElem? (i := 590) (by decide +kernel), List.mem_of_getElem? (i := 591) (by decide +kernel)⟩
theorem lw_p10 : lw_okq (⟨"TippingBeamModel", "many", "(I)I"⟩, 17) := ⟨⟨by decide +kernel, by decide +kernel⟩, List.mem_of_getElem? (i := 516) (by decide +kernel), List.mem_of_getElem? (i := 597) (by decide +kernel), List.mem_of_getElem? (i := 598) (by decide +kernel)⟩
theorem lw_p11 : lw_okq (⟨"TippingBeamModel", "record", "()V"⟩, 17) := ⟨⟨by decide +kernel, by decide +kernel⟩, List.mem_of_getElem? (i := 516) (by decide +kernel), List.mem_of_getElem? (i := 608) (by decide +kernel), List.mem_of_getElem? (i := 609) (by decide +kernel)⟩
theorem lw_p12 : lw_okq (⟨"TippingBeamModel", "tryMove", "(II)I"⟩, 17) := ⟨⟨by decide +kernel, by decide +kernel⟩, List.mem_of_getElem? (i := 516) (by decide +kernel), List.mem_of_getElem? (i := 625) (by decide +kernel), List.mem_of_getElem? (i := 626) (by decide +kernel)⟩
theorem lw_p13 : lw_okq (⟨"TippingBeamModel", "whyNot", "(II)I"⟩, 17) := ⟨⟨by decide +kernel, by decide +kernel⟩, List.mem_of_getElem? (i := 516) (by decide +kernel), List.mem_of_getElem? (i := 629) (by decide +kernel), List.mem_of_getElem? (i := 630) (by decide +kernel)⟩
theorem lw_p14 : lw_okq (⟨"TippingBeamModel", "isOver", "()Z"⟩, 17) := ⟨⟨by decide +kernel, by decide +kernel⟩, List.mem_of_getElem? (i := 516) (by decide +kernel), List.mem_of_getElem? (i := 633) (by decide +kernel), List.mem_of_getElem? (i := 634) (by decide +kernel)⟩
theorem lw_p15 : lw_okq (⟨"TippingBeamModel", "hasTipped", "()Z"⟩, 17) := ⟨⟨by decide +kernel, by decide +kernel⟩, List.mem_of_getElem? (i := 516) (by decide +kernel), List.mem_of_getElem? (i := 637) (by decide +kernel), List.mem_of_getElem? (i := 638) (by decide +kernel)⟩
def lw_privs_1 : List (MethodName × Nat) := [(⟨"TippingBeam", "makeMove", "(II)I"⟩, 9), (⟨"TippingBeam$History", "dropOldest", "()V"⟩, 2), (⟨"TippingBeam$Beam", "weightAt", "(II)I"⟩, 12), (⟨"TippingBeam$Beam", "takeFrom", "(I)I"⟩, 12), (⟨"TippingBeam$Beam", "sideBehind", "(I)I"⟩, 12), (⟨"TippingBeam$MoveText", "take", "(C)V"⟩, 8), (⟨"TippingBeam$MoveText", "endMove", "()V"⟩, 8), (⟨"TippingBeamModel", "addBag", "(III)V"⟩, 17), (⟨"TippingBeamModel", "bagAt", "(II)I"⟩, 17), (⟨"TippingBeamModel", "tokens", "()I"⟩, 17), (⟨"TippingBeamModel", "many", "(I)I"⟩, 17), (⟨"TippingBeamModel", "record", "()V"⟩, 17), (⟨"TippingBeamModel", "tryMove", "(II)I"⟩, 17), (⟨"TippingBeamModel", "whyNot", "(II)I"⟩, 17), (⟨"TippingBeamModel", "isOver", "()Z"⟩, 17), (⟨"TippingBeamModel", "hasTipped", "()Z"⟩, 17)]
theorem lw_r1 : ∀ q ∈ lw_privs_1, lw_okq q := List.forall_mem_cons.mpr ⟨lw_p0, List.forall_mem_cons.mpr ⟨lw_p1, List.forall_mem_cons.mpr ⟨lw_p2, List.forall_mem_cons.mpr ⟨lw_p3, List.forall_mem_cons.mpr ⟨lw_p4, List.forall_mem_cons.mpr ⟨lw_p5, List.forall_mem_cons.mpr ⟨lw_p6, List.forall_mem_cons.mpr ⟨lw_p7, List.forall_mem_cons.mpr ⟨lw_p8, List.forall_mem_cons.mpr ⟨lw_p9, List.forall_mem_cons.mpr ⟨lw_p10, List.forall_mem_cons.mpr ⟨lw_p11, List.forall_mem_cons.mpr ⟨lw_p12, List.forall_mem_cons.mpr ⟨lw_p13, List.forall_mem_cons.mpr ⟨lw_p14, List.forall_mem_cons.mpr ⟨lw_p15, fun _ h => absurd h List.not_mem_nil⟩⟩⟩⟩⟩⟩⟩⟩⟩⟩⟩⟩⟩⟩⟩⟩
theorem lw_p16 : lw_okq (⟨"TippingBeamModel", "allIn", "(I)I"⟩, 17) := ⟨⟨by decide +kernel, by decide +kernel⟩, List.mem_of_getElem? (i := 516) (by decide +kernel), List.mem_of_getElem? (i := 644) (by decide +kernel), List.mem_of_getElem? (i := 645) (by decide +kernel)⟩
theorem lw_p17 : lw_okq (⟨"TippingBeamModel", "inBag", "(II)I"⟩, 17) := ⟨⟨by decide +kernel, by decide +kernel⟩, List.mem_of_getElem? (i := 516) (by decide +kernel), List.mem_of_getElem? (i := 648) (by decide +kernel), List.mem_of_getElem? (i := 649) (by decide +kernel)⟩
theorem lw_p18 : lw_okq (⟨"TippingBeamModel", "moveIt", "(II)I"⟩, 17) := ⟨⟨by decide +kernel, by decide +kernel⟩, List.mem_of_getElem? (i := 516) (by decide +kernel), List.mem_of_getElem? (i := 655) (by decide +kernel), List.mem_of_getElem? (i := 656) (by decide +kernel)⟩
theorem lw_p19 : lw_okq (⟨"TippingBeamModel", "change", "(II)V"⟩, 17) := ⟨⟨by decide +kernel, by decide +kernel⟩, List.mem_of_getElem? (i := 516) (by decide +kernel), List.mem_of_getElem? (i := 659) (by decide +kernel), List.mem_of_getElem? (i := 660) (by decide +kernel)⟩
theorem lw_p20 : lw_okq (⟨"TippingBeamModel", "put", "(II)V"⟩, 17) := ⟨⟨by decide +kernel, by decide +kernel⟩, List.mem_of_getElem? (i := 516) (by decide +kernel), List.mem_of_getElem? (i := 663) (by decide +kernel), List.mem_of_getElem? (i := 664) (by decide +kernel)⟩
theorem lw_p21 : lw_okq (⟨"TippingBeamModel", "takeOff", "(I)I"⟩, 17) := ⟨⟨by decide +kernel, by decide +kernel⟩, List.mem_of_getElem? (i := 516) (by decide +kernel), List.mem_of_getElem? (i := 667) (by decide +kernel), List.mem_of_getElem? (i := 668) (by decide +kernel)⟩
theorem lw_p22 : lw_okq (⟨"TippingBeamModel", "looked", "(I)I"⟩, 17) := ⟨⟨by decide +kernel, by decide +kernel⟩, List.mem_of_getElem? (i := 516) (by decide +kernel), List.mem_of_getElem? (i := 679) (by decide +kernel), List.mem_of_getElem? (i := 680) (by decide +kernel)⟩
theorem lw_p23 : lw_okq (⟨"TippingBeamModel", "told", "()I"⟩, 17) := ⟨⟨by decide +kernel, by decide +kernel⟩, List.mem_of_getElem? (i := 516) (by decide +kernel), List.mem_of_getElem? (i := 683) (by decide +kernel), List.mem_of_getElem? (i := 684) (by decide +kernel)⟩
theorem lw_p24 : lw_okq (⟨"TippingBeamModel", "winner", "()I"⟩, 17) := ⟨⟨by decide +kernel, by decide +kernel⟩, List.mem_of_getElem? (i := 516) (by decide +kernel), List.mem_of_getElem? (i := 687) (by decide +kernel), List.mem_of_getElem? (i := 688) (by decide +kernel)⟩
theorem lw_p25 : lw_okq (⟨"TippingBeamModel", "lookOne", "()I"⟩, 17) := ⟨⟨by decide +kernel, by decide +kernel⟩, List.mem_of_getElem? (i := 516) (by decide +kernel), List.mem_of_getElem? (i := 691) (by decide +kernel), List.mem_of_getElem? (i := 692) (by decide +kernel)⟩
theorem lw_p26 : lw_okq (⟨"TippingBeamModel", "isPossible", "(I)Z"⟩, 17) := ⟨⟨by decide +kernel, by decide +kernel⟩, List.mem_of_getElem? (i := 516) (by decide +kernel), List.mem_of_getElem? (i := 695) (by decide +kernel), List.mem_of_getElem? (i := 696) (by decide +kernel)⟩
theorem lw_p27 : lw_okq (⟨"TippingBeamModel", "ahead", "(II)V"⟩, 17) := ⟨⟨by decide +kernel, by decide +kernel⟩, List.mem_of_getElem? (i := 516) (by decide +kernel), List.mem_of_getElem? (i := 705) (by decide +kernel), List.mem_of_getElem? (i := 706) (by decide +kernel)⟩
theorem lw_p28 : lw_okq (⟨"TippingBeamModel", "forMover", "(II)I"⟩, 17) := ⟨⟨by decide +kernel, by decide +kernel⟩, List.mem_of_getElem? (i := 516) (by decide +kernel), List.mem_of_getElem? (i := 709) (by decide +kernel), List.mem_of_getElem? (i := 710) (by decide +kernel)⟩
theorem lw_p29 : lw_okq (⟨"TippingBeamModel", "back", "(II)V"⟩, 17) := ⟨⟨by decide +kernel, by decide +kernel⟩, List.mem_of_getElem? (i := 516) (by decide +kernel), List.mem_of_getElem? (i := 713) (by decide +kernel), List.mem_of_getElem? (i := 714) (by decide +kernel)⟩
theorem lw_p30 : lw_okq (⟨"TippingBeamModel", "lookTwo", "()I"⟩, 17) := ⟨⟨by decide +kernel, by decide +kernel⟩, List.mem_of_getElem? (i := 516) (by decide +kernel), List.mem_of_getElem? (i := 717) (by decide +kernel), List.mem_of_getElem? (i := 718) (by decide +kernel)⟩
theorem lw_p31 : lw_okq (⟨"TippingBeamModel", "lookThree", "()I"⟩, 17) := ⟨⟨by decide +kernel, by decide +kernel⟩, List.mem_of_getElem? (i := 516) (by decide +kernel), List.mem_of_getElem? (i := 721) (by decide +kernel), List.mem_of_getElem? (i := 722) (by decide +kernel)⟩
def lw_privs_2 : List (MethodName × Nat) := [(⟨"TippingBeamModel", "allIn", "(I)I"⟩, 17), (⟨"TippingBeamModel", "inBag", "(II)I"⟩, 17), (⟨"TippingBeamModel", "moveIt", "(II)I"⟩, 17), (⟨"TippingBeamModel", "change", "(II)V"⟩, 17), (⟨"TippingBeamModel", "put", "(II)V"⟩, 17), (⟨"TippingBeamModel", "takeOff", "(I)I"⟩, 17), (⟨"TippingBeamModel", "looked", "(I)I"⟩, 17), (⟨"TippingBeamModel", "told", "()I"⟩, 17), (⟨"TippingBeamModel", "winner", "()I"⟩, 17), (⟨"TippingBeamModel", "lookOne", "()I"⟩, 17), (⟨"TippingBeamModel", "isPossible", "(I)Z"⟩, 17), (⟨"TippingBeamModel", "ahead", "(II)V"⟩, 17), (⟨"TippingBeamModel", "forMover", "(II)I"⟩, 17), (⟨"TippingBeamModel", "back", "(II)V"⟩, 17), (⟨"TippingBeamModel", "lookTwo", "()I"⟩, 17), (⟨"TippingBeamModel", "lookThree", "()I"⟩, 17)]
theorem lw_r2 : ∀ q ∈ lw_privs_2, lw_okq q := List.forall_mem_cons.mpr ⟨lw_p16, List.forall_mem_cons.mpr ⟨lw_p17, List.forall_mem_cons.mpr ⟨lw_p18, List.forall_mem_cons.mpr ⟨lw_p19, List.forall_mem_cons.mpr ⟨lw_p20, List.forall_mem_cons.mpr ⟨lw_p21, List.forall_mem_cons.mpr ⟨lw_p22, List.forall_mem_cons.mpr ⟨lw_p23, List.forall_mem_cons.mpr ⟨lw_p24, List.forall_mem_cons.mpr ⟨lw_p25, List.forall_mem_cons.mpr ⟨lw_p26, List.forall_mem_cons.mpr ⟨lw_p27, List.forall_mem_cons.mpr ⟨lw_p28, List.forall_mem_cons.mpr ⟨lw_p29, List.forall_mem_cons.mpr ⟨lw_p30, List.forall_mem_cons.mpr ⟨lw_p31, fun _ h => absurd h List.not_mem_nil⟩⟩⟩⟩⟩⟩⟩⟩⟩⟩⟩⟩⟩⟩⟩⟩
theorem lw_p32 : lw_okq (⟨"TippingBeamModel", "bestMove", "(I)I"⟩, 17) := ⟨⟨by decide +kernel, by decide +kernel⟩, List.mem_of_getElem? (i := 516) (by decide +kernel), List.mem_of_getElem? (i := 729) (by decide +kernel), List.mem_of_getElem? (i := 730) (by decide +kernel)⟩
theorem lw_p33 : lw_okq (⟨"TippingBeamModel", "readText", "()I"⟩, 17) := ⟨⟨by decide +kernel, by decide +kernel⟩, List.mem_of_getElem? (i := 516) (by decide +kernel), List.mem_of_getElem? (i := 774) (by decide +kernel), List.mem_of_getElem? (i := 775) (by decide +kernel)⟩
theorem lw_p34 : lw_okq (⟨"TippingBeamModel", "readMove", "()V"⟩, 17) := ⟨⟨by decide +kernel, by decide +kernel⟩, List.mem_of_getElem? (i := 516) (by decide +kernel), List.mem_of_getElem? (i := 778) (by decide +kernel), List.mem_of_getElem? (i := 779) (by decide +kernel)⟩
theorem lw_p35 : lw_okq (⟨"TippingBeamModel", "isMinus", "()Z"⟩, 17) := ⟨⟨by decide +kernel, by decide +kernel⟩, List.mem_of_getElem? (i := 516) (by decide +kernel), List.mem_of_getElem? (i := 782) (by decide +kernel), List.mem_of_getElem? (i := 783) (by decide +kernel)⟩
theorem lw_p36 : lw_okq (⟨"TippingBeamModel", "letter", "()I"⟩, 17) := ⟨⟨by decide +kernel, by decide +kernel⟩, List.mem_of_getElem? (i := 516) (by decide +kernel), List.mem_of_getElem? (i := 786) (by decide +kernel), List.mem_of_getElem? (i := 787) (by decide +kernel)⟩
theorem lw_p37 : lw_okq (⟨"TippingBeamModel", "digit", "()I"⟩, 17) := ⟨⟨by decide +kernel, by decide +kernel⟩, List.mem_of_getElem? (i := 516) (by decide +kernel), List.mem_of_getElem? (i := 790) (by decide +kernel), List.mem_of_getElem? (i := 791) (by decide +kernel)⟩
theorem lw_p38 : lw_okq (⟨"TippingBeamModel", "wants", "(Z)V"⟩, 17) := ⟨⟨by decide +kernel, by decide +kernel⟩, List.mem_of_getElem? (i := 516) (by decide +kernel), List.mem_of_getElem? (i := 794) (by decide +kernel), List.mem_of_getElem? (i := 795) (by decide +kernel)⟩
theorem lw_p39 : lw_okq (⟨"TippingBeamModel", "weights", "(I)I"⟩, 17) := ⟨⟨by decide +kernel, by decide +kernel⟩, List.mem_of_getElem? (i := 516) (by decide +kernel), List.mem_of_getElem? (i := 806) (by decide +kernel), List.mem_of_getElem? (i := 807) (by decide +kernel)⟩
theorem lw_p40 : lw_okq (⟨"TippingBeamModel", "top", "(I)I"⟩, 17) := ⟨⟨by decide +kernel, by decide +kernel⟩, List.mem_of_getElem? (i := 516) (by decide +kernel), List.mem_of_getElem? (i := 810) (by decide +kernel), List.mem_of_getElem? (i := 811) (by decide +kernel)⟩
theorem lw_p41 : lw_okq (⟨"TippingBeamModel", "result", "()I"⟩, 17) := ⟨⟨by decide +kernel, by decide +kernel⟩, List.mem_of_getElem? (i := 516) (by decide +kernel), List.mem_of_getElem? (i := 838) (by decide +kernel), List.mem_of_getElem? (i := 839) (by decide +kernel)⟩
theorem lw_p42 : lw_okq (⟨"TippingBeamModel", "allWeights", "()I"⟩, 17) := ⟨⟨by decide +kernel, by decide +kernel⟩, List.mem_of_getElem? (i := 516) (by decide +kernel), List.mem_of_getElem? (i := 842) (by decide +kernel), List.mem_of_getElem? (i := 843) (by decide +kernel)⟩
theorem lw_p43 : lw_okq (⟨"TippingBeamModel", "moves", "(Z)I"⟩, 17) := ⟨⟨by decide +kernel, by decide +kernel⟩, List.mem_of_getElem? (i := 516) (by decide +kernel), List.mem_of_getElem? (i := 846) (by decide +kernel), List.mem_of_getElem? (i := 847) (by decide +kernel)⟩
def lw_privs_3 : List (MethodName × Nat) := [(⟨"TippingBeamModel", "bestMove", "(I)I"⟩, 17), (⟨"TippingBeamModel", "readText", "()I"⟩, 17), (⟨"TippingBeamModel", "readMove", "()V"⟩, 17), (⟨"TippingBeamModel", "isMinus", "()Z"⟩, 17), (⟨"TippingBeamModel", "letter", "()I"⟩, 17), (⟨"TippingBeamModel", "digit", "()I"⟩, 17), (⟨"TippingBeamModel", "wants", "(Z)V"⟩, 17), (⟨"TippingBeamModel", "weights", "(I)I"⟩, 17), (⟨"TippingBeamModel", "top", "(I)I"⟩, 17), (⟨"TippingBeamModel", "result", "()I"⟩, 17), (⟨"TippingBeamModel", "allWeights", "()I"⟩, 17), (⟨"TippingBeamModel", "moves", "(Z)I"⟩, 17)]
theorem lw_r3 : ∀ q ∈ lw_privs_3, lw_okq q := List.forall_mem_cons.mpr ⟨lw_p32, List.forall_mem_cons.mpr ⟨lw_p33, List.forall_mem_cons.mpr ⟨lw_p34, List.forall_mem_cons.mpr ⟨lw_p35, List.forall_mem_cons.mpr ⟨lw_p36, List.forall_mem_cons.mpr ⟨lw_p37, List.forall_mem_cons.mpr ⟨lw_p38, List.forall_mem_cons.mpr ⟨lw_p39, List.forall_mem_cons.mpr ⟨lw_p40, List.forall_mem_cons.mpr ⟨lw_p41, List.forall_mem_cons.mpr ⟨lw_p42, List.forall_mem_cons.mpr ⟨lw_p43, fun _ h => absurd h List.not_mem_nil⟩⟩⟩⟩⟩⟩⟩⟩⟩⟩⟩⟩
def lw_privs : List (MethodName × Nat) := lw_privs_1 ++ (lw_privs_2 ++ (lw_privs_3))
def lw_tbl : List Cond := k2_sels lw_privs ++ tables_1
theorem lw_privs_ok : ∀ q ∈ lw_privs, lw_okq q := by
  show ∀ q ∈ lw_privs_1 ++ (lw_privs_2 ++ (lw_privs_3)), lw_okq q
  exact List.forall_mem_append.mpr ⟨lw_r1, List.forall_mem_append.mpr ⟨lw_r2, lw_r3⟩⟩

def RX0 : String := "TippingBeam$Beam"
def TX0 : u_T := fun k => match k with
  | 0 => ("TippingBeam$Beam", "stacks", "[I", true)
  | 1 => ("TippingBeam$Beam", "heights", "[I", true)
  | 2 => ("TippingBeam$Beam", "bags", "[I", true)
  | 3 => ("TippingBeam$Beam", "settings", "[I", true)
  | 4 => ("TippingBeam$Beam", "moves", "[I", true)
  | 5 => ("TippingBeam$Beam", "side", "I", false)
  | 6 => ("TippingBeam$Beam", "latestSide", "I", false)
  | 7 => ("TippingBeam$Beam", "movedTo", "I", false)
  | 8 => ("TippingBeam$Beam", "turn", "I", false)
  | 9 => ("TippingBeam$Beam", "told", "I", false)
  | 10 => ("TippingBeam$Beam", "greatest", "I", false)
  | _ => ("TippingBeam$Beam", "moveCount", "I", false)
def tyX0 : Nat → FieldType := fun k => match k with
  | 0 => .array .int
  | 1 => .array .int
  | 2 => .array .int
  | 3 => .array .int
  | 4 => .array .int
  | 5 => .int
  | 6 => .int
  | 7 => .int
  | 8 => .int
  | 9 => .int
  | 10 => .int
  | _ => .int
abbrev wsX00 : List Cond := u_ws RX0 TX0 12
theorem nmX0 : ∀ a, a < 12 → ∀ b, b < 12 → a ≠ b → (TX0 a).2.1 ≠ (TX0 b).2.1 := by decide +kernel
theorem tyX0_ok : ∀ k, k < 12 → parseFieldDescriptor (TX0 k).2.2.1 = some (tyX0 k) := by decide +kernel
abbrev cX0_init : ByteArray := prog_2_method_1_code
def yX0_init : MethodName := ⟨RX0, "<init>", "()V"⟩
abbrev cX0_copyFrom : ByteArray := prog_2_method_2_code
def yX0_copyFrom : MethodName := ⟨RX0, "copyFrom", "(LTippingBeam$Beam;)V"⟩
abbrev cX0_empty : ByteArray := prog_2_method_3_code
def yX0_empty : MethodName := ⟨RX0, "empty", "()V"⟩
abbrev cX0_isPlace : ByteArray := prog_2_method_4_code
def yX0_isPlace : MethodName := ⟨RX0, "isPlace", "(I)Z"⟩
abbrev cX0_isWeight : ByteArray := prog_2_method_5_code
def yX0_isWeight : MethodName := ⟨RX0, "isWeight", "(I)Z"⟩
abbrev cX0_isSide : ByteArray := prog_2_method_6_code
def yX0_isSide : MethodName := ⟨RX0, "isSide", "(I)Z"⟩
abbrev cX0_isSetting : ByteArray := prog_2_method_7_code
def yX0_isSetting : MethodName := ⟨RX0, "isSetting", "(I)Z"⟩
abbrev cX0_leastOfSetting : ByteArray := prog_2_method_8_code
def yX0_leastOfSetting : MethodName := ⟨RX0, "leastOfSetting", "(I)I"⟩
abbrev cX0_mostOfSetting : ByteArray := prog_2_method_9_code
def yX0_mostOfSetting : MethodName := ⟨RX0, "mostOfSetting", "(I)I"⟩
abbrev cX0_numberOf : ByteArray := prog_2_method_10_code
def yX0_numberOf : MethodName := ⟨RX0, "numberOf", "(I)I"⟩
abbrev cX0_placeOf : ByteArray := prog_2_method_11_code
def yX0_placeOf : MethodName := ⟨RX0, "placeOf", "(I)I"⟩
abbrev cX0_slotOf : ByteArray := prog_2_method_12_code
def yX0_slotOf : MethodName := ⟨RX0, "slotOf", "(I)I"⟩
abbrev cX0_heightAt : ByteArray := prog_2_method_13_code
def yX0_heightAt : MethodName := ⟨RX0, "heightAt", "(I)I"⟩
abbrev cX0_weightAt : ByteArray := prog_2_method_14_code
def yX0_weightAt : MethodName := ⟨RX0, "weightAt", "(II)I"⟩
abbrev cX0_uppermostAt : ByteArray := prog_2_method_15_code
def yX0_uppermostAt : MethodName := ⟨RX0, "uppermostAt", "(I)I"⟩
abbrev cX0_weightsAt : ByteArray := prog_2_method_16_code
def yX0_weightsAt : MethodName := ⟨RX0, "weightsAt", "(I)I"⟩
abbrev cX0_isFull : ByteArray := prog_2_method_17_code
def yX0_isFull : MethodName := ⟨RX0, "isFull", "(I)Z"⟩
abbrev cX0_putOn : ByteArray := prog_2_method_18_code
def yX0_putOn : MethodName := ⟨RX0, "putOn", "(II)V"⟩
abbrev cX0_takeFrom : ByteArray := prog_2_method_19_code
def yX0_takeFrom : MethodName := ⟨RX0, "takeFrom", "(I)I"⟩
abbrev cX0_tokens : ByteArray := prog_2_method_20_code
def yX0_tokens : MethodName := ⟨RX0, "tokens", "()I"⟩
abbrev cX0_weights : ByteArray := prog_2_method_21_code
def yX0_weights : MethodName := ⟨RX0, "weights", "()I"⟩
abbrev cX0_inBag : ByteArray := prog_2_method_22_code
def yX0_inBag : MethodName := ⟨RX0, "inBag", "(II)I"⟩
abbrev cX0_changeBag : ByteArray := prog_2_method_23_code
def yX0_changeBag : MethodName := ⟨RX0, "changeBag", "(III)V"⟩
abbrev cX0_setting : ByteArray := prog_2_method_24_code
def yX0_setting : MethodName := ⟨RX0, "setting", "(I)I"⟩
abbrev cX0_changeSetting : ByteArray := prog_2_method_25_code
def yX0_changeSetting : MethodName := ⟨RX0, "changeSetting", "(II)V"⟩
abbrev cX0_outcome : ByteArray := prog_2_method_26_code
def yX0_outcome : MethodName := ⟨RX0, "outcome", "()I"⟩
abbrev cX0_worth : ByteArray := prog_2_method_27_code
def yX0_worth : MethodName := ⟨RX0, "worth", "(I)I"⟩
abbrev cX0_whyNot : ByteArray := prog_2_method_28_code
def yX0_whyNot : MethodName := ⟨RX0, "whyNot", "(II)I"⟩
abbrev cX0_hindrance : ByteArray := prog_2_method_29_code
def yX0_hindrance : MethodName := ⟨RX0, "hindrance", "(II)I"⟩
abbrev cX0_targetOf : ByteArray := prog_2_method_30_code
def yX0_targetOf : MethodName := ⟨RX0, "targetOf", "(II)I"⟩
abbrev cX0_tellingOf : ByteArray := prog_2_method_31_code
def yX0_tellingOf : MethodName := ⟨RX0, "tellingOf", "(II)I"⟩
abbrev cX0_makeMove : ByteArray := prog_2_method_32_code
def yX0_makeMove : MethodName := ⟨RX0, "makeMove", "(II)V"⟩
abbrev cX0_tryMove : ByteArray := prog_2_method_33_code
def yX0_tryMove : MethodName := ⟨RX0, "tryMove", "(II)V"⟩
abbrev cX0_takeBack : ByteArray := prog_2_method_34_code
def yX0_takeBack : MethodName := ⟨RX0, "takeBack", "(IIIII)V"⟩
abbrev cX0_sideBehind : ByteArray := prog_2_method_35_code
def yX0_sideBehind : MethodName := ⟨RX0, "sideBehind", "(I)I"⟩
abbrev cX0_rowOf : ByteArray := prog_2_method_36_code
def yX0_rowOf : MethodName := ⟨RX0, "rowOf", "(I)I"⟩
abbrev cX0_isMoveKept : ByteArray := prog_2_method_37_code
def yX0_isMoveKept : MethodName := ⟨RX0, "isMoveKept", "(I)Z"⟩
abbrev cX0_partOfMove : ByteArray := prog_2_method_38_code
def yX0_partOfMove : MethodName := ⟨RX0, "partOfMove", "(II)I"⟩
abbrev cX0_possibleMoves : ByteArray := prog_2_method_39_code
def yX0_possibleMoves : MethodName := ⟨RX0, "possibleMoves", "()I"⟩
abbrev cX0_safeMoves : ByteArray := prog_2_method_40_code
def yX0_safeMoves : MethodName := ⟨RX0, "safeMoves", "()I"⟩
abbrev cX0_side : ByteArray := prog_2_method_41_code
def yX0_side : MethodName := ⟨RX0, "side", "()I"⟩
abbrev cX0_latestSide : ByteArray := prog_2_method_42_code
def yX0_latestSide : MethodName := ⟨RX0, "latestSide", "()I"⟩
abbrev cX0_movedTo : ByteArray := prog_2_method_43_code
def yX0_movedTo : MethodName := ⟨RX0, "movedTo", "()I"⟩
abbrev cX0_turn : ByteArray := prog_2_method_44_code
def yX0_turn : MethodName := ⟨RX0, "turn", "()I"⟩
abbrev cX0_toldByMoves : ByteArray := prog_2_method_45_code
def yX0_toldByMoves : MethodName := ⟨RX0, "toldByMoves", "()I"⟩
abbrev cX0_greatestTurn : ByteArray := prog_2_method_46_code
def yX0_greatestTurn : MethodName := ⟨RX0, "greatestTurn", "()I"⟩
abbrev cX0_moveCount : ByteArray := prog_2_method_47_code
def yX0_moveCount : MethodName := ⟨RX0, "moveCount", "()I"⟩
def RX1 : String := "TippingBeam$History"
def TX1 : u_T := fun k => match k with
  | 0 => ("TippingBeam$History", "states", "[LTippingBeam$Beam;", true)
  | _ => ("TippingBeam$History", "size", "I", false)
def tyX1 : Nat → FieldType := fun k => match k with
  | 0 => .array (.object "TippingBeam$Beam")
  | _ => .int
abbrev wsX10 : List Cond := u_ws RX1 TX1 2
theorem nmX1 : ∀ a, a < 2 → ∀ b, b < 2 → a ≠ b → (TX1 a).2.1 ≠ (TX1 b).2.1 := by decide +kernel
theorem tyX1_ok : ∀ k, k < 2 → parseFieldDescriptor (TX1 k).2.2.1 = some (tyX1 k) := by decide +kernel
abbrev cX1_init : ByteArray := prog_3_method_1_code
def yX1_init : MethodName := ⟨RX1, "<init>", "()V"⟩
abbrev cX1_size : ByteArray := prog_3_method_2_code
def yX1_size : MethodName := ⟨RX1, "size", "()I"⟩
abbrev cX1_remember : ByteArray := prog_3_method_3_code
def yX1_remember : MethodName := ⟨RX1, "remember", "(LTippingBeam$Beam;)V"⟩
abbrev cX1_dropOldest : ByteArray := prog_3_method_4_code
def yX1_dropOldest : MethodName := ⟨RX1, "dropOldest", "()V"⟩
abbrev cX1_bringBack : ByteArray := prog_3_method_5_code
def yX1_bringBack : MethodName := ⟨RX1, "bringBack", "(LTippingBeam$Beam;)Z"⟩
def RX2 : String := "TippingBeam$MoveText"
def TX2 : u_T := fun k => match k with
  | 0 => ("TippingBeam$MoveText", "characters", "[C", true)
  | 1 => ("TippingBeam$MoveText", "numbers", "[I", true)
  | 2 => ("TippingBeam$MoveText", "places", "[I", true)
  | 3 => ("TippingBeam$MoveText", "length", "I", false)
  | 4 => ("TippingBeam$MoveText", "moves", "I", false)
  | 5 => ("TippingBeam$MoveText", "number", "I", false)
  | 6 => ("TippingBeam$MoveText", "digit", "I", false)
  | _ => ("TippingBeam$MoveText", "negative", "Z", false)
def tyX2 : Nat → FieldType := fun k => match k with
  | 0 => .array .char
  | 1 => .array .int
  | 2 => .array .int
  | 3 => .int
  | 4 => .int
  | 5 => .int
  | 6 => .int
  | _ => .boolean
abbrev wsX20 : List Cond := u_ws RX2 TX2 8
theorem nmX2 : ∀ a, a < 8 → ∀ b, b < 8 → a ≠ b → (TX2 a).2.1 ≠ (TX2 b).2.1 := by decide +kernel
theorem tyX2_ok : ∀ k, k < 8 → parseFieldDescriptor (TX2 k).2.2.1 = some (tyX2 k) := by decide +kernel
abbrev cX2_init : ByteArray := prog_4_method_1_code
def yX2_init : MethodName := ⟨RX2, "<init>", "()V"⟩
abbrev cX2_length : ByteArray := prog_4_method_2_code
def yX2_length : MethodName := ⟨RX2, "length", "()I"⟩
abbrev cX2_append : ByteArray := prog_4_method_3_code
def yX2_append : MethodName := ⟨RX2, "append", "(C)Z"⟩
abbrev cX2_empty : ByteArray := prog_4_method_4_code
def yX2_empty : MethodName := ⟨RX2, "empty", "()V"⟩
abbrev cX2_moves : ByteArray := prog_4_method_5_code
def yX2_moves : MethodName := ⟨RX2, "moves", "()I"⟩
abbrev cX2_numberOf : ByteArray := prog_4_method_6_code
def yX2_numberOf : MethodName := ⟨RX2, "numberOf", "(I)I"⟩
abbrev cX2_placeOf : ByteArray := prog_4_method_7_code
def yX2_placeOf : MethodName := ⟨RX2, "placeOf", "(I)I"⟩
abbrev cX2_read : ByteArray := prog_4_method_8_code
def yX2_read : MethodName := ⟨RX2, "read", "()I"⟩
abbrev cX2_stateBehind : ByteArray := prog_4_method_9_code
def yX2_stateBehind : MethodName := ⟨RX2, "stateBehind", "(IC)I"⟩
abbrev cX2_take : ByteArray := prog_4_method_10_code
def yX2_take : MethodName := ⟨RX2, "take", "(C)V"⟩
abbrev cX2_endMove : ByteArray := prog_4_method_11_code
def yX2_endMove : MethodName := ⟨RX2, "endMove", "()V"⟩
def RX3 : String := "TippingBeam$Search"
def TX3 : u_T := fun k => match k with
  | _ => ("", "", "", false)
def tyX3 : Nat → FieldType := fun k => match k with
  | _ => .int
abbrev wsX30 : List Cond := u_ws RX3 TX3 0
theorem nmX3 : ∀ a, a < 0 → ∀ b, b < 0 → a ≠ b → (TX3 a).2.1 ≠ (TX3 b).2.1 := by decide +kernel
theorem tyX3_ok : ∀ k, k < 0 → parseFieldDescriptor (TX3 k).2.2.1 = some (tyX3 k) := by decide +kernel
abbrev cX3_lookAhead : ByteArray := prog_5_method_2_code
def yX3_lookAhead : MethodName := ⟨RX3, "lookAhead", "(LTippingBeam$Beam;I)I"⟩
abbrev cX3_bestRank : ByteArray := prog_5_method_3_code
def yX3_bestRank : MethodName := ⟨RX3, "bestRank", "(LTippingBeam$Beam;I)I"⟩
abbrev cX3_ahead : ByteArray := prog_5_method_4_code
def yX3_ahead : MethodName := ⟨RX3, "ahead", "(LTippingBeam$Beam;III)I"⟩
abbrev cX3_behind : ByteArray := prog_5_method_5_code
def yX3_behind : MethodName := ⟨RX3, "behind", "(LTippingBeam$Beam;IIIII)I"⟩
def RX4 : String := "TippingBeam"
def TX4 : u_T := fun k => match k with
  | 0 => ("TippingBeam", "beam", "LTippingBeam$Beam;", true)
  | 1 => ("TippingBeam", "trial", "LTippingBeam$Beam;", true)
  | 2 => ("TippingBeam", "snapshot", "LTippingBeam$Beam;", true)
  | 3 => ("TippingBeam", "history", "LTippingBeam$History;", true)
  | 4 => ("TippingBeam", "text", "LTippingBeam$MoveText;", true)
  | 5 => ("TippingBeam", "snapshotTaken", "Z", false)
  | 6 => ("TippingBeam", "everStopped", "Z", false)
  | 7 => ("TippingBeam", "stoppedMove", "I", false)
  | _ => ("TippingBeam", "stoppedReason", "I", false)
def tyX4 : Nat → FieldType := fun k => match k with
  | 0 => .object "TippingBeam$Beam"
  | 1 => .object "TippingBeam$Beam"
  | 2 => .object "TippingBeam$Beam"
  | 3 => .object "TippingBeam$History"
  | 4 => .object "TippingBeam$MoveText"
  | 5 => .boolean
  | 6 => .boolean
  | 7 => .int
  | _ => .int
abbrev wsX40 : List Cond := u_ws RX4 TX4 9
theorem nmX4 : ∀ a, a < 9 → ∀ b, b < 9 → a ≠ b → (TX4 a).2.1 ≠ (TX4 b).2.1 := by decide +kernel
theorem tyX4_ok : ∀ k, k < 9 → parseFieldDescriptor (TX4 k).2.2.1 = some (tyX4 k) := by decide +kernel
abbrev cX4_init : ByteArray := prog_1_method_1_code
def yX4_init : MethodName := ⟨RX4, "<init>", "()V"⟩
abbrev cX4_lay : ByteArray := prog_1_method_2_code
def yX4_lay : MethodName := ⟨RX4, "lay", "(II)I"⟩
abbrev cX4_push : ByteArray := prog_1_method_3_code
def yX4_push : MethodName := ⟨RX4, "push", "(IZ)I"⟩
abbrev cX4_play : ByteArray := prog_1_method_4_code
def yX4_play : MethodName := ⟨RX4, "play", "(I)I"⟩
abbrev cX4_makeMove : ByteArray := prog_1_method_5_code
def yX4_makeMove : MethodName := ⟨RX4, "makeMove", "(II)I"⟩
abbrev cX4_setBag : ByteArray := prog_1_method_6_code
def yX4_setBag : MethodName := ⟨RX4, "setBag", "(III)I"⟩
abbrev cX4_set : ByteArray := prog_1_method_7_code
def yX4_set : MethodName := ⟨RX4, "set", "(II)I"⟩
abbrev cX4_setUp : ByteArray := prog_1_method_8_code
def yX4_setUp : MethodName := ⟨RX4, "setUp", "(II)I"⟩
abbrev cX4_begin : ByteArray := prog_1_method_9_code
def yX4_begin : MethodName := ⟨RX4, "begin", "()I"⟩
abbrev cX4_type : ByteArray := prog_1_method_10_code
def yX4_type : MethodName := ⟨RX4, "type", "(C)I"⟩
abbrev cX4_clearText : ByteArray := prog_1_method_11_code
def yX4_clearText : MethodName := ⟨RX4, "clearText", "()I"⟩
abbrev cX4_perform : ByteArray := prog_1_method_12_code
def yX4_perform : MethodName := ⟨RX4, "perform", "()I"⟩
abbrev cX4_stopped : ByteArray := prog_1_method_13_code
def yX4_stopped : MethodName := ⟨RX4, "stopped", "(I)I"⟩
abbrev cX4_undo : ByteArray := prog_1_method_14_code
def yX4_undo : MethodName := ⟨RX4, "undo", "()I"⟩
abbrev cX4_keep : ByteArray := prog_1_method_15_code
def yX4_keep : MethodName := ⟨RX4, "keep", "()I"⟩
abbrev cX4_restore : ByteArray := prog_1_method_16_code
def yX4_restore : MethodName := ⟨RX4, "restore", "()I"⟩
abbrev cX4_at : ByteArray := prog_1_method_17_code
def yX4_at : MethodName := ⟨RX4, "at", "(II)I"⟩
abbrev cX4_bag : ByteArray := prog_1_method_18_code
def yX4_bag : MethodName := ⟨RX4, "bag", "(II)I"⟩
abbrev cX4_reason : ByteArray := prog_1_method_19_code
def yX4_reason : MethodName := ⟨RX4, "reason", "(II)I"⟩
abbrev cX4_possible : ByteArray := prog_1_method_20_code
def yX4_possible : MethodName := ⟨RX4, "possible", "(I)I"⟩
abbrev cX4_look : ByteArray := prog_1_method_21_code
def yX4_look : MethodName := ⟨RX4, "look", "(I)I"⟩
abbrev cX4_best : ByteArray := prog_1_method_22_code
def yX4_best : MethodName := ⟨RX4, "best", "(I)I"⟩
abbrev cX4_levels : ByteArray := prog_1_method_23_code
def yX4_levels : MethodName := ⟨RX4, "levels", "(I)I"⟩
abbrev cX4_made : ByteArray := prog_1_method_24_code
def yX4_made : MethodName := ⟨RX4, "made", "(II)I"⟩
abbrev cX4_count : ByteArray := prog_1_method_25_code
def yX4_count : MethodName := ⟨RX4, "count", "(I)I"⟩
abbrev cX4_tellMove : ByteArray := prog_1_method_26_code
def yX4_tellMove : MethodName := ⟨RX4, "tellMove", "(I)I"⟩
def RX5 : String := "TippingBeamModel"
def TX5 : u_T := fun k => match k with
  | 0 => ("TippingBeamModel", "z", "[I", true)
  | 1 => ("TippingBeamModel", "past", "[I", true)
  | 2 => ("TippingBeamModel", "pastMany", "I", false)
  | 3 => ("TippingBeamModel", "kept", "[I", true)
  | 4 => ("TippingBeamModel", "isKept", "Z", false)
  | 5 => ("TippingBeamModel", "spare", "[I", true)
  | 6 => ("TippingBeamModel", "text", "[C", true)
  | 7 => ("TippingBeamModel", "typed", "I", false)
  | 8 => ("TippingBeamModel", "stoppedAt", "I", false)
  | 9 => ("TippingBeamModel", "stoppedBy", "I", false)
  | 10 => ("TippingBeamModel", "sides", "[I", true)
  | 11 => ("TippingBeamModel", "lasts", "[I", true)
  | 12 => ("TippingBeamModel", "latelies", "[I", true)
  | 13 => ("TippingBeamModel", "read", "[I", true)
  | 14 => ("TippingBeamModel", "readMany", "I", false)
  | 15 => ("TippingBeamModel", "spot", "I", false)
  | _ => ("TippingBeamModel", "wrong", "I", false)
def tyX5 : Nat → FieldType := fun k => match k with
  | 0 => .array .int
  | 1 => .array .int
  | 2 => .int
  | 3 => .array .int
  | 4 => .boolean
  | 5 => .array .int
  | 6 => .array .char
  | 7 => .int
  | 8 => .int
  | 9 => .int
  | 10 => .array .int
  | 11 => .array .int
  | 12 => .array .int
  | 13 => .array .int
  | 14 => .int
  | 15 => .int
  | _ => .int
abbrev wsX50 : List Cond := u_ws RX5 TX5 17
theorem nmX5 : ∀ a, a < 17 → ∀ b, b < 17 → a ≠ b → (TX5 a).2.1 ≠ (TX5 b).2.1 := by decide +kernel
theorem tyX5_ok : ∀ k, k < 17 → parseFieldDescriptor (TX5 k).2.2.1 = some (tyX5 k) := by decide +kernel
abbrev cX5_init : ByteArray := prog_7_method_1_code
def yX5_init : MethodName := ⟨RX5, "<init>", "()V"⟩
abbrev cX5_in : ByteArray := prog_7_method_2_code
def yX5_in : MethodName := ⟨RX5, "in", "(III)Z"⟩
abbrev cX5_isPlace : ByteArray := prog_7_method_3_code
def yX5_isPlace : MethodName := ⟨RX5, "isPlace", "(I)Z"⟩
abbrev cX5_isWeight : ByteArray := prog_7_method_4_code
def yX5_isWeight : MethodName := ⟨RX5, "isWeight", "(I)Z"⟩
abbrev cX5_isSide : ByteArray := prog_7_method_5_code
def yX5_isSide : MethodName := ⟨RX5, "isSide", "(I)Z"⟩
abbrev cX5_bagAt : ByteArray := prog_7_method_6_code
def yX5_bagAt : MethodName := ⟨RX5, "bagAt", "(II)I"⟩
abbrev cX5_inBag : ByteArray := prog_7_method_7_code
def yX5_inBag : MethodName := ⟨RX5, "inBag", "(II)I"⟩
abbrev cX5_addBag : ByteArray := prog_7_method_8_code
def yX5_addBag : MethodName := ⟨RX5, "addBag", "(III)V"⟩
abbrev cX5_allIn : ByteArray := prog_7_method_9_code
def yX5_allIn : MethodName := ⟨RX5, "allIn", "(I)I"⟩
abbrev cX5_spotOf : ByteArray := prog_7_method_10_code
def yX5_spotOf : MethodName := ⟨RX5, "spotOf", "(I)I"⟩
abbrev cX5_many : ByteArray := prog_7_method_11_code
def yX5_many : MethodName := ⟨RX5, "many", "(I)I"⟩
abbrev cX5_top : ByteArray := prog_7_method_12_code
def yX5_top : MethodName := ⟨RX5, "top", "(I)I"⟩
abbrev cX5_put : ByteArray := prog_7_method_13_code
def yX5_put : MethodName := ⟨RX5, "put", "(II)V"⟩
abbrev cX5_takeOff : ByteArray := prog_7_method_14_code
def yX5_takeOff : MethodName := ⟨RX5, "takeOff", "(I)I"⟩
abbrev cX5_size : ByteArray := prog_7_method_15_code
def yX5_size : MethodName := ⟨RX5, "size", "(I)I"⟩
abbrev cX5_placeBy : ByteArray := prog_7_method_16_code
def yX5_placeBy : MethodName := ⟨RX5, "placeBy", "(I)I"⟩
abbrev cX5_record : ByteArray := prog_7_method_17_code
def yX5_record : MethodName := ⟨RX5, "record", "()V"⟩
abbrev cX5_undo : ByteArray := prog_7_method_18_code
def yX5_undo : MethodName := ⟨RX5, "undo", "()I"⟩
abbrev cX5_tokens : ByteArray := prog_7_method_19_code
def yX5_tokens : MethodName := ⟨RX5, "tokens", "()I"⟩
abbrev cX5_keep : ByteArray := prog_7_method_20_code
def yX5_keep : MethodName := ⟨RX5, "keep", "()I"⟩
abbrev cX5_restore : ByteArray := prog_7_method_21_code
def yX5_restore : MethodName := ⟨RX5, "restore", "()I"⟩
abbrev cX5_hasTipped : ByteArray := prog_7_method_22_code
def yX5_hasTipped : MethodName := ⟨RX5, "hasTipped", "()Z"⟩
abbrev cX5_isOver : ByteArray := prog_7_method_23_code
def yX5_isOver : MethodName := ⟨RX5, "isOver", "()Z"⟩
abbrev cX5_winner : ByteArray := prog_7_method_24_code
def yX5_winner : MethodName := ⟨RX5, "winner", "()I"⟩
abbrev cX5_result : ByteArray := prog_7_method_25_code
def yX5_result : MethodName := ⟨RX5, "result", "()I"⟩
abbrev cX5_goal : ByteArray := prog_7_method_26_code
def yX5_goal : MethodName := ⟨RX5, "goal", "(II)I"⟩
abbrev cX5_whyNot : ByteArray := prog_7_method_27_code
def yX5_whyNot : MethodName := ⟨RX5, "whyNot", "(II)I"⟩
abbrev cX5_change : ByteArray := prog_7_method_28_code
def yX5_change : MethodName := ⟨RX5, "change", "(II)V"⟩
abbrev cX5_moveIt : ByteArray := prog_7_method_29_code
def yX5_moveIt : MethodName := ⟨RX5, "moveIt", "(II)I"⟩
abbrev cX5_tryMove : ByteArray := prog_7_method_30_code
def yX5_tryMove : MethodName := ⟨RX5, "tryMove", "(II)I"⟩
abbrev cX5_lay : ByteArray := prog_7_method_31_code
def yX5_lay : MethodName := ⟨RX5, "lay", "(II)I"⟩
abbrev cX5_push : ByteArray := prog_7_method_32_code
def yX5_push : MethodName := ⟨RX5, "push", "(IZ)I"⟩
abbrev cX5_numberOf : ByteArray := prog_7_method_33_code
def yX5_numberOf : MethodName := ⟨RX5, "numberOf", "(I)I"⟩
abbrev cX5_placeOf : ByteArray := prog_7_method_34_code
def yX5_placeOf : MethodName := ⟨RX5, "placeOf", "(I)I"⟩
abbrev cX5_isPossible : ByteArray := prog_7_method_35_code
def yX5_isPossible : MethodName := ⟨RX5, "isPossible", "(I)Z"⟩
abbrev cX5_ahead : ByteArray := prog_7_method_36_code
def yX5_ahead : MethodName := ⟨RX5, "ahead", "(II)V"⟩
abbrev cX5_back : ByteArray := prog_7_method_37_code
def yX5_back : MethodName := ⟨RX5, "back", "(II)V"⟩
abbrev cX5_told : ByteArray := prog_7_method_38_code
def yX5_told : MethodName := ⟨RX5, "told", "()I"⟩
abbrev cX5_forMover : ByteArray := prog_7_method_39_code
def yX5_forMover : MethodName := ⟨RX5, "forMover", "(II)I"⟩
abbrev cX5_lookOne : ByteArray := prog_7_method_40_code
def yX5_lookOne : MethodName := ⟨RX5, "lookOne", "()I"⟩
abbrev cX5_lookTwo : ByteArray := prog_7_method_41_code
def yX5_lookTwo : MethodName := ⟨RX5, "lookTwo", "()I"⟩
abbrev cX5_lookThree : ByteArray := prog_7_method_42_code
def yX5_lookThree : MethodName := ⟨RX5, "lookThree", "()I"⟩
abbrev cX5_looked : ByteArray := prog_7_method_43_code
def yX5_looked : MethodName := ⟨RX5, "looked", "(I)I"⟩
abbrev cX5_look : ByteArray := prog_7_method_44_code
def yX5_look : MethodName := ⟨RX5, "look", "(I)I"⟩
abbrev cX5_bestMove : ByteArray := prog_7_method_45_code
def yX5_bestMove : MethodName := ⟨RX5, "bestMove", "(I)I"⟩
abbrev cX5_toldMove : ByteArray := prog_7_method_46_code
def yX5_toldMove : MethodName := ⟨RX5, "toldMove", "(I)I"⟩
abbrev cX5_best : ByteArray := prog_7_method_47_code
def yX5_best : MethodName := ⟨RX5, "best", "(I)I"⟩
abbrev cX5_play : ByteArray := prog_7_method_48_code
def yX5_play : MethodName := ⟨RX5, "play", "(I)I"⟩
abbrev cX5_setBag : ByteArray := prog_7_method_49_code
def yX5_setBag : MethodName := ⟨RX5, "setBag", "(III)I"⟩
abbrev cX5_isValue : ByteArray := prog_7_method_50_code
def yX5_isValue : MethodName := ⟨RX5, "isValue", "(II)Z"⟩
abbrev cX5_set : ByteArray := prog_7_method_51_code
def yX5_set : MethodName := ⟨RX5, "set", "(II)I"⟩
abbrev cX5_setUp : ByteArray := prog_7_method_52_code
def yX5_setUp : MethodName := ⟨RX5, "setUp", "(II)I"⟩
abbrev cX5_begin : ByteArray := prog_7_method_53_code
def yX5_begin : MethodName := ⟨RX5, "begin", "()I"⟩
abbrev cX5_type : ByteArray := prog_7_method_54_code
def yX5_type : MethodName := ⟨RX5, "type", "(C)I"⟩
abbrev cX5_clearText : ByteArray := prog_7_method_55_code
def yX5_clearText : MethodName := ⟨RX5, "clearText", "()I"⟩
abbrev cX5_letter : ByteArray := prog_7_method_56_code
def yX5_letter : MethodName := ⟨RX5, "letter", "()I"⟩
abbrev cX5_wants : ByteArray := prog_7_method_57_code
def yX5_wants : MethodName := ⟨RX5, "wants", "(Z)V"⟩
abbrev cX5_isMinus : ByteArray := prog_7_method_58_code
def yX5_isMinus : MethodName := ⟨RX5, "isMinus", "()Z"⟩
abbrev cX5_digit : ByteArray := prog_7_method_59_code
def yX5_digit : MethodName := ⟨RX5, "digit", "()I"⟩
abbrev cX5_readMove : ByteArray := prog_7_method_60_code
def yX5_readMove : MethodName := ⟨RX5, "readMove", "()V"⟩
abbrev cX5_readText : ByteArray := prog_7_method_61_code
def yX5_readText : MethodName := ⟨RX5, "readText", "()I"⟩
abbrev cX5_perform : ByteArray := prog_7_method_62_code
def yX5_perform : MethodName := ⟨RX5, "perform", "()I"⟩
abbrev cX5_stopped : ByteArray := prog_7_method_63_code
def yX5_stopped : MethodName := ⟨RX5, "stopped", "(I)I"⟩
abbrev cX5_weights : ByteArray := prog_7_method_64_code
def yX5_weights : MethodName := ⟨RX5, "weights", "(I)I"⟩
abbrev cX5_at : ByteArray := prog_7_method_65_code
def yX5_at : MethodName := ⟨RX5, "at", "(II)I"⟩
abbrev cX5_bag : ByteArray := prog_7_method_66_code
def yX5_bag : MethodName := ⟨RX5, "bag", "(II)I"⟩
abbrev cX5_reason : ByteArray := prog_7_method_67_code
def yX5_reason : MethodName := ⟨RX5, "reason", "(II)I"⟩
abbrev cX5_possible : ByteArray := prog_7_method_68_code
def yX5_possible : MethodName := ⟨RX5, "possible", "(I)I"⟩
abbrev cX5_levels : ByteArray := prog_7_method_69_code
def yX5_levels : MethodName := ⟨RX5, "levels", "(I)I"⟩
abbrev cX5_made : ByteArray := prog_7_method_70_code
def yX5_made : MethodName := ⟨RX5, "made", "(II)I"⟩
abbrev cX5_moves : ByteArray := prog_7_method_71_code
def yX5_moves : MethodName := ⟨RX5, "moves", "(Z)I"⟩
abbrev cX5_allWeights : ByteArray := prog_7_method_72_code
def yX5_allWeights : MethodName := ⟨RX5, "allWeights", "()I"⟩
abbrev cX5_count : ByteArray := prog_7_method_73_code
def yX5_count : MethodName := ⟨RX5, "count", "(I)I"⟩
def RJ9 : String := "java/lang/Math"
def TJ9 : u_T := fun k => match k with
  | _ => ("", "", "", false)
def tyJ9 : Nat → FieldType := fun k => match k with
  | _ => .int
abbrev wsJ90 : List Cond := u_ws RJ9 TJ9 0
theorem nmJ9 : ∀ a, a < 0 → ∀ b, b < 0 → a ≠ b → (TJ9 a).2.1 ≠ (TJ9 b).2.1 := by decide +kernel
theorem tyJ9_ok : ∀ k, k < 0 → parseFieldDescriptor (TJ9 k).2.2.1 = some (tyJ9 k) := by decide +kernel
abbrev cJ9_floorMod_7cf53 : ByteArray := prog_8_method_50_code
def yJ9_floorMod_7cf53 : MethodName := ⟨RJ9, "floorMod", "(II)I"⟩
abbrev cJ9_abs_0f7a4 : ByteArray := prog_8_method_59_code
def yJ9_abs_0f7a4 : MethodName := ⟨RJ9, "abs", "(I)I"⟩
abbrev cJ9_max_7cf53 : ByteArray := prog_8_method_65_code
def yJ9_max_7cf53 : MethodName := ⟨RJ9, "max", "(II)I"⟩
def RJ10 : String := "java/lang/System"
def TJ10 : u_T := fun k => match k with
  | _ => ("", "", "", false)
def tyJ10 : Nat → FieldType := fun k => match k with
  | _ => .int
abbrev wsJ100 : List Cond := u_ws RJ10 TJ10 0
theorem nmJ10 : ∀ a, a < 0 → ∀ b, b < 0 → a ≠ b → (TJ10 a).2.1 ≠ (TJ10 b).2.1 := by decide +kernel
theorem tyJ10_ok : ∀ k, k < 0 → parseFieldDescriptor (TJ10 k).2.2.1 = some (tyJ10 k) := by decide +kernel
def RL : String := "TippingBeamLaw"
abbrev cL_law : ByteArray := code
def yL_law : MethodName := ⟨RL, "law", "([I)Z"⟩
abbrev vwCl : List vw_C := [(RX0, TX0, 12), (RX1, TX1, 2), (RX2, TX2, 8), (RX4, TX4, 9), (RX5, TX5, 17)]
end
section
def wG : List Cond := lw_tbl.filter goodWord
theorem wd_of {i : Nat} {w : Cond} (h : lw_tbl[i]? = some w) (g : goodWord w = true) : w ∈ wG := List.mem_filter.mpr ⟨List.mem_of_getElem? h, g⟩
theorem wG_in {w : Cond} (h : w ∈ wG) : w ∈ lw_tbl := (List.mem_filter.mp h).1
theorem wd_0 : Cond.selects RX4 yX4_makeMove yX4_makeMove ∈ wG := wd_of (i := 0) (by decide +kernel) (by decide +kernel)
theorem wd_1 : Cond.selects RX1 yX1_dropOldest yX1_dropOldest ∈ wG := wd_of (i := 1) (by decide +kernel) (by decide +kernel)
theorem wd_2 : Cond.selects RX0 yX0_weightAt yX0_weightAt ∈ wG := wd_of (i := 2) (by decide +kernel) (by decide +kernel)
theorem wd_3 : Cond.selects RX0 yX0_takeFrom yX0_takeFrom ∈ wG := wd_of (i := 3) (by decide +kernel) (by decide +kernel)
theorem wd_4 : Cond.selects RX0 yX0_sideBehind yX0_sideBehind ∈ wG := wd_of (i := 4) (by decide +kernel) (by decide +kernel)
theorem wd_5 : Cond.selects RX2 yX2_take yX2_take ∈ wG := wd_of (i := 5) (by decide +kernel) (by decide +kernel)
theorem wd_6 : Cond.selects RX2 yX2_endMove yX2_endMove ∈ wG := wd_of (i := 6) (by decide +kernel) (by decide +kernel)
theorem wd_7 : Cond.selects RX5 yX5_addBag yX5_addBag ∈ wG := wd_of (i := 7) (by decide +kernel) (by decide +kernel)
theorem wd_8 : Cond.selects RX5 yX5_bagAt yX5_bagAt ∈ wG := wd_of (i := 8) (by decide +kernel) (by decide +kernel)
theorem wd_9 : Cond.selects RX5 yX5_tokens yX5_tokens ∈ wG := wd_of (i := 9) (by decide +kernel) (by decide +kernel)
theorem wd_10 : Cond.selects RX5 yX5_many yX5_many ∈ wG := wd_of (i := 10) (by decide +kernel) (by decide +kernel)
theorem wd_11 : Cond.selects RX5 yX5_record yX5_record ∈ wG := wd_of (i := 11) (by decide +kernel) (by decide +kernel)
theorem wd_12 : Cond.selects RX5 yX5_tryMove yX5_tryMove ∈ wG := wd_of (i := 12) (by decide +kernel) (by decide +kernel)
theorem wd_13 : Cond.selects RX5 yX5_whyNot yX5_whyNot ∈ wG := wd_of (i := 13) (by decide +kernel) (by decide +kernel)
theorem wd_14 : Cond.selects RX5 yX5_isOver yX5_isOver ∈ wG := wd_of (i := 14) (by decide +kernel) (by decide +kernel)
theorem wd_15 : Cond.selects RX5 yX5_hasTipped yX5_hasTipped ∈ wG := wd_of (i := 15) (by decide +kernel) (by decide +kernel)
theorem wd_16 : Cond.selects RX5 yX5_allIn yX5_allIn ∈ wG := wd_of (i := 16) (by decide +kernel) (by decide +kernel)
theorem wd_17 : Cond.selects RX5 yX5_inBag yX5_inBag ∈ wG := wd_of (i := 17) (by decide +kernel) (by decide +kernel)
theorem wd_18 : Cond.selects RX5 yX5_moveIt yX5_moveIt ∈ wG := wd_of (i := 18) (by decide +kernel) (by decide +kernel)
theorem wd_19 : Cond.selects RX5 yX5_change yX5_change ∈ wG := wd_of (i := 19) (by decide +kernel) (by decide +kernel)
theorem wd_20 : Cond.selects RX5 yX5_put yX5_put ∈ wG := wd_of (i := 20) (by decide +kernel) (by decide +kernel)
theorem wd_21 : Cond.selects RX5 yX5_takeOff yX5_takeOff ∈ wG := wd_of (i := 21) (by decide +kernel) (by decide +kernel)
theorem wd_22 : Cond.selects RX5 yX5_looked yX5_looked ∈ wG := wd_of (i := 22) (by decide +kernel) (by decide +kernel)
theorem wd_23 : Cond.selects RX5 yX5_told yX5_told ∈ wG := wd_of (i := 23) (by decide +kernel) (by decide +kernel)
theorem wd_24 : Cond.selects RX5 yX5_winner yX5_winner ∈ wG := wd_of (i := 24) (by decide +kernel) (by decide +kernel)
theorem wd_25 : Cond.selects RX5 yX5_lookOne yX5_lookOne ∈ wG := wd_of (i := 25) (by decide +kernel) (by decide +kernel)
theorem wd_26 : Cond.selects RX5 yX5_isPossible yX5_isPossible ∈ wG := wd_of (i := 26) (by decide +kernel) (by decide +kernel)
theorem wd_27 : Cond.selects RX5 yX5_ahead yX5_ahead ∈ wG := wd_of (i := 27) (by decide +kernel) (by decide +kernel)
theorem wd_28 : Cond.selects RX5 yX5_forMover yX5_forMover ∈ wG := wd_of (i := 28) (by decide +kernel) (by decide +kernel)
theorem wd_29 : Cond.selects RX5 yX5_back yX5_back ∈ wG := wd_of (i := 29) (by decide +kernel) (by decide +kernel)
theorem wd_30 : Cond.selects RX5 yX5_lookTwo yX5_lookTwo ∈ wG := wd_of (i := 30) (by decide +kernel) (by decide +kernel)
theorem wd_31 : Cond.selects RX5 yX5_lookThree yX5_lookThree ∈ wG := wd_of (i := 31) (by decide +kernel) (by decide +kernel)
theorem wd_32 : Cond.selects RX5 yX5_bestMove yX5_bestMove ∈ wG := wd_of (i := 32) (by decide +kernel) (by decide +kernel)
theorem wd_33 : Cond.selects RX5 yX5_readText yX5_readText ∈ wG := wd_of (i := 33) (by decide +kernel) (by decide +kernel)
theorem wd_34 : Cond.selects RX5 yX5_readMove yX5_readMove ∈ wG := wd_of (i := 34) (by decide +kernel) (by decide +kernel)
theorem wd_35 : Cond.selects RX5 yX5_isMinus yX5_isMinus ∈ wG := wd_of (i := 35) (by decide +kernel) (by decide +kernel)
theorem wd_36 : Cond.selects RX5 yX5_letter yX5_letter ∈ wG := wd_of (i := 36) (by decide +kernel) (by decide +kernel)
theorem wd_37 : Cond.selects RX5 yX5_digit yX5_digit ∈ wG := wd_of (i := 37) (by decide +kernel) (by decide +kernel)
theorem wd_38 : Cond.selects RX5 yX5_wants yX5_wants ∈ wG := wd_of (i := 38) (by decide +kernel) (by decide +kernel)
theorem wd_39 : Cond.selects RX5 yX5_weights yX5_weights ∈ wG := wd_of (i := 39) (by decide +kernel) (by decide +kernel)
theorem wd_40 : Cond.selects RX5 yX5_top yX5_top ∈ wG := wd_of (i := 40) (by decide +kernel) (by decide +kernel)
theorem wd_41 : Cond.selects RX5 yX5_result yX5_result ∈ wG := wd_of (i := 41) (by decide +kernel) (by decide +kernel)
theorem wd_42 : Cond.selects RX5 yX5_allWeights yX5_allWeights ∈ wG := wd_of (i := 42) (by decide +kernel) (by decide +kernel)
theorem wd_43 : Cond.selects RX5 yX5_moves yX5_moves ∈ wG := wd_of (i := 43) (by decide +kernel) (by decide +kernel)
theorem wd_45 : Cond.initialized RX4 ∈ wG := wd_of (i := 45) (by decide +kernel) (by decide +kernel)
theorem wd_46 : Cond.initialized RX0 ∈ wG := wd_of (i := 46) (by decide +kernel) (by decide +kernel)
theorem wd_47 : Cond.initialized RX1 ∈ wG := wd_of (i := 47) (by decide +kernel) (by decide +kernel)
theorem wd_48 : Cond.initialized RX2 ∈ wG := wd_of (i := 48) (by decide +kernel) (by decide +kernel)
theorem wd_49 : Cond.initialized RX5 ∈ wG := wd_of (i := 49) (by decide +kernel) (by decide +kernel)
theorem wd_50 : Cond.initialized "java/lang/Math" ∈ wG := wd_of (i := 50) (by decide +kernel) (by decide +kernel)
theorem wd_51 : Cond.initialized "java/lang/System" ∈ wG := wd_of (i := 51) (by decide +kernel) (by decide +kernel)
theorem wd_52 : Cond.initialized RX3 ∈ wG := wd_of (i := 52) (by decide +kernel) (by decide +kernel)
theorem wd_53 : Cond.classLink RL 7 RX4 ∈ wG := wd_of (i := 53) (by decide +kernel) (by decide +kernel)
theorem wd_54 : Cond.instantiable RX4 9 ∈ wG := wd_of (i := 54) (by decide +kernel) (by decide +kernel)
theorem wd_55 : Cond.methodLink RL 9 yX4_init ∈ wG := wd_of (i := 55) (by decide +kernel) (by decide +kernel)
theorem wd_56 : Cond.instanceMethod yX4_init ∈ wG := wd_of (i := 56) (by decide +kernel) (by decide +kernel)
theorem wd_57 : Cond.code yX4_init cX4_init 1 none ∈ wG := wd_of (i := 57) (by decide +kernel) (by decide +kernel)
theorem wd_58 : Cond.methodLink RX4 1 objectInit ∈ wG := wd_of (i := 58) (by decide +kernel) (by decide +kernel)
theorem wd_59 : Cond.instanceMethod objectInit ∈ wG := wd_of (i := 59) (by decide +kernel) (by decide +kernel)
theorem wd_60 : Cond.code objectInit ⟨#[0xb1]⟩ 1 none ∈ wG := wd_of (i := 60) (by decide +kernel) (by decide +kernel)
theorem wd_61 : Cond.classLink RX4 7 RX0 ∈ wG := wd_of (i := 61) (by decide +kernel) (by decide +kernel)
theorem wd_62 : Cond.instantiable RX0 12 ∈ wG := wd_of (i := 62) (by decide +kernel) (by decide +kernel)
theorem wd_63 : Cond.methodLink RX4 9 yX0_init ∈ wG := wd_of (i := 63) (by decide +kernel) (by decide +kernel)
theorem wd_64 : Cond.instanceMethod yX0_init ∈ wG := wd_of (i := 64) (by decide +kernel) (by decide +kernel)
theorem wd_65 : Cond.code yX0_init cX0_init 2 none ∈ wG := wd_of (i := 65) (by decide +kernel) (by decide +kernel)
theorem wd_66 : Cond.methodLink RX0 1 objectInit ∈ wG := wd_of (i := 66) (by decide +kernel) (by decide +kernel)
theorem wd_67 : Cond.fieldLink RX0 9 "TippingBeam$Beam" "stacks" "[I" ∈ wG := wd_of (i := 67) (by decide +kernel) (by decide +kernel)
theorem wd_68 : Cond.fieldLink RX0 13 "TippingBeam$Beam" "heights" "[I" ∈ wG := wd_of (i := 68) (by decide +kernel) (by decide +kernel)
theorem wd_69 : Cond.fieldLink RX0 16 "TippingBeam$Beam" "bags" "[I" ∈ wG := wd_of (i := 69) (by decide +kernel) (by decide +kernel)
theorem wd_70 : Cond.fieldLink RX0 19 "TippingBeam$Beam" "settings" "[I" ∈ wG := wd_of (i := 70) (by decide +kernel) (by decide +kernel)
theorem wd_71 : Cond.fieldLink RX0 22 "TippingBeam$Beam" "moves" "[I" ∈ wG := wd_of (i := 71) (by decide +kernel) (by decide +kernel)
theorem wd_72 : Cond.fieldLink RX0 35 "TippingBeam$Beam" "side" "I" ∈ wG := wd_of (i := 72) (by decide +kernel) (by decide +kernel)
theorem wd_73 : Cond.fieldLink RX0 25 "TippingBeam$Beam" "latestSide" "I" ∈ wG := wd_of (i := 73) (by decide +kernel) (by decide +kernel)
theorem wd_74 : Cond.fieldLink RX0 38 "TippingBeam$Beam" "movedTo" "I" ∈ wG := wd_of (i := 74) (by decide +kernel) (by decide +kernel)
theorem wd_75 : Cond.fieldLink RX0 41 "TippingBeam$Beam" "turn" "I" ∈ wG := wd_of (i := 75) (by decide +kernel) (by decide +kernel)
theorem wd_76 : Cond.fieldLink RX0 44 "TippingBeam$Beam" "told" "I" ∈ wG := wd_of (i := 76) (by decide +kernel) (by decide +kernel)
theorem wd_77 : Cond.fieldLink RX0 47 "TippingBeam$Beam" "greatest" "I" ∈ wG := wd_of (i := 77) (by decide +kernel) (by decide +kernel)
theorem wd_78 : Cond.fieldLink RX0 50 "TippingBeam$Beam" "moveCount" "I" ∈ wG := wd_of (i := 78) (by decide +kernel) (by decide +kernel)
theorem wd_104 : Cond.arrayClass .int ∈ wG := wd_of (i := 104) (by decide +kernel) (by decide +kernel)
theorem wd_105 : Cond.classLink RX4 22 RX1 ∈ wG := wd_of (i := 105) (by decide +kernel) (by decide +kernel)
theorem wd_106 : Cond.instantiable RX1 2 ∈ wG := wd_of (i := 106) (by decide +kernel) (by decide +kernel)
theorem wd_107 : Cond.methodLink RX4 24 yX1_init ∈ wG := wd_of (i := 107) (by decide +kernel) (by decide +kernel)
theorem wd_108 : Cond.instanceMethod yX1_init ∈ wG := wd_of (i := 108) (by decide +kernel) (by decide +kernel)
theorem wd_109 : Cond.code yX1_init cX1_init 2 none ∈ wG := wd_of (i := 109) (by decide +kernel) (by decide +kernel)
theorem wd_110 : Cond.methodLink RX1 1 objectInit ∈ wG := wd_of (i := 110) (by decide +kernel) (by decide +kernel)
theorem wd_111 : Cond.classLink RX1 9 RX0 ∈ wG := wd_of (i := 111) (by decide +kernel) (by decide +kernel)
theorem wd_113 : Cond.methodLink RX1 15 yX0_init ∈ wG := wd_of (i := 113) (by decide +kernel) (by decide +kernel)
theorem wd_114 : Cond.fieldLink RX1 11 "TippingBeam$History" "states" "[LTippingBeam$Beam;" ∈ wG := wd_of (i := 114) (by decide +kernel) (by decide +kernel)
theorem wd_115 : Cond.fieldLink RX1 16 "TippingBeam$History" "size" "I" ∈ wG := wd_of (i := 115) (by decide +kernel) (by decide +kernel)
theorem wd_121 : Cond.classLink RX4 29 RX2 ∈ wG := wd_of (i := 121) (by decide +kernel) (by decide +kernel)
theorem wd_122 : Cond.instantiable RX2 8 ∈ wG := wd_of (i := 122) (by decide +kernel) (by decide +kernel)
theorem wd_124 : Cond.instanceMethod yX2_init ∈ wG := wd_of (i := 124) (by decide +kernel) (by decide +kernel)
theorem wd_125 : Cond.code yX2_init cX2_init 1 none ∈ wG := wd_of (i := 125) (by decide +kernel) (by decide +kernel)
theorem wd_126 : Cond.methodLink RX2 1 objectInit ∈ wG := wd_of (i := 126) (by decide +kernel) (by decide +kernel)
theorem wd_127 : Cond.fieldLink RX2 9 "TippingBeam$MoveText" "characters" "[C" ∈ wG := wd_of (i := 127) (by decide +kernel) (by decide +kernel)
theorem wd_128 : Cond.fieldLink RX2 13 "TippingBeam$MoveText" "numbers" "[I" ∈ wG := wd_of (i := 128) (by decide +kernel) (by decide +kernel)
theorem wd_129 : Cond.fieldLink RX2 17 "TippingBeam$MoveText" "places" "[I" ∈ wG := wd_of (i := 129) (by decide +kernel) (by decide +kernel)
theorem wd_130 : Cond.fieldLink RX2 20 "TippingBeam$MoveText" "length" "I" ∈ wG := wd_of (i := 130) (by decide +kernel) (by decide +kernel)
theorem wd_131 : Cond.fieldLink RX2 24 "TippingBeam$MoveText" "moves" "I" ∈ wG := wd_of (i := 131) (by decide +kernel) (by decide +kernel)
theorem wd_132 : Cond.fieldLink RX2 45 "TippingBeam$MoveText" "number" "I" ∈ wG := wd_of (i := 132) (by decide +kernel) (by decide +kernel)
theorem wd_133 : Cond.fieldLink RX2 42 "TippingBeam$MoveText" "digit" "I" ∈ wG := wd_of (i := 133) (by decide +kernel) (by decide +kernel)
theorem wd_134 : Cond.fieldLink RX2 27 "TippingBeam$MoveText" "negative" "Z" ∈ wG := wd_of (i := 134) (by decide +kernel) (by decide +kernel)
theorem wd_152 : Cond.arrayClass .char ∈ wG := wd_of (i := 152) (by decide +kernel) (by decide +kernel)
theorem wd_153 : Cond.fieldLink RX4 10 "TippingBeam" "beam" "LTippingBeam$Beam;" ∈ wG := wd_of (i := 153) (by decide +kernel) (by decide +kernel)
theorem wd_154 : Cond.fieldLink RX4 16 "TippingBeam" "trial" "LTippingBeam$Beam;" ∈ wG := wd_of (i := 154) (by decide +kernel) (by decide +kernel)
theorem wd_155 : Cond.fieldLink RX4 19 "TippingBeam" "snapshot" "LTippingBeam$Beam;" ∈ wG := wd_of (i := 155) (by decide +kernel) (by decide +kernel)
theorem wd_156 : Cond.fieldLink RX4 25 "TippingBeam" "history" "LTippingBeam$History;" ∈ wG := wd_of (i := 156) (by decide +kernel) (by decide +kernel)
theorem wd_157 : Cond.fieldLink RX4 32 "TippingBeam" "text" "LTippingBeam$MoveText;" ∈ wG := wd_of (i := 157) (by decide +kernel) (by decide +kernel)
theorem wd_158 : Cond.fieldLink RX4 148 "TippingBeam" "snapshotTaken" "Z" ∈ wG := wd_of (i := 158) (by decide +kernel) (by decide +kernel)
theorem wd_159 : Cond.fieldLink RX4 130 "TippingBeam" "everStopped" "Z" ∈ wG := wd_of (i := 159) (by decide +kernel) (by decide +kernel)
theorem wd_160 : Cond.fieldLink RX4 134 "TippingBeam" "stoppedMove" "I" ∈ wG := wd_of (i := 160) (by decide +kernel) (by decide +kernel)
theorem wd_161 : Cond.fieldLink RX4 138 "TippingBeam" "stoppedReason" "I" ∈ wG := wd_of (i := 161) (by decide +kernel) (by decide +kernel)
theorem wd_181 : Cond.methodLink RL 13 yX4_lay ∈ wG := wd_of (i := 181) (by decide +kernel) (by decide +kernel)
theorem wd_182 : Cond.instanceMethod yX4_lay ∈ wG := wd_of (i := 182) (by decide +kernel) (by decide +kernel)
theorem wd_183 : Cond.selects RX4 yX4_lay yX4_lay ∈ wG := wd_of (i := 183) (by decide +kernel) (by decide +kernel)
theorem wd_184 : Cond.code yX4_lay cX4_lay 3 (some .int) ∈ wG := wd_of (i := 184) (by decide +kernel) (by decide +kernel)
theorem wd_185 : Cond.methodLink RX4 36 yX0_isWeight ∈ wG := wd_of (i := 185) (by decide +kernel) (by decide +kernel)
theorem wd_186 : Cond.static yX0_isWeight ∈ wG := wd_of (i := 186) (by decide +kernel) (by decide +kernel)
theorem wd_187 : Cond.code yX0_isWeight cX0_isWeight 1 (some .boolean) ∈ wG := wd_of (i := 187) (by decide +kernel) (by decide +kernel)
theorem wd_188 : Cond.methodLink RX4 40 yX0_isPlace ∈ wG := wd_of (i := 188) (by decide +kernel) (by decide +kernel)
theorem wd_189 : Cond.static yX0_isPlace ∈ wG := wd_of (i := 189) (by decide +kernel) (by decide +kernel)
theorem wd_190 : Cond.code yX0_isPlace cX0_isPlace 1 (some .boolean) ∈ wG := wd_of (i := 190) (by decide +kernel) (by decide +kernel)
theorem wd_191 : Cond.methodLink RX4 43 yX4_makeMove ∈ wG := wd_of (i := 191) (by decide +kernel) (by decide +kernel)
theorem wd_193 : Cond.instanceMethod yX4_makeMove ∈ wG := wd_of (i := 193) (by decide +kernel) (by decide +kernel)
theorem wd_194 : Cond.code yX4_makeMove cX4_makeMove 4 (some .int) ∈ wG := wd_of (i := 194) (by decide +kernel) (by decide +kernel)
theorem wd_195 : Cond.methodLink RX4 60 yX0_whyNot ∈ wG := wd_of (i := 195) (by decide +kernel) (by decide +kernel)
theorem wd_196 : Cond.instanceMethod yX0_whyNot ∈ wG := wd_of (i := 196) (by decide +kernel) (by decide +kernel)
theorem wd_197 : Cond.selects RX0 yX0_whyNot yX0_whyNot ∈ wG := wd_of (i := 197) (by decide +kernel) (by decide +kernel)
theorem wd_198 : Cond.code yX0_whyNot cX0_whyNot 3 (some .int) ∈ wG := wd_of (i := 198) (by decide +kernel) (by decide +kernel)
theorem wd_199 : Cond.methodLink RX0 88 yX0_outcome ∈ wG := wd_of (i := 199) (by decide +kernel) (by decide +kernel)
theorem wd_200 : Cond.instanceMethod yX0_outcome ∈ wG := wd_of (i := 200) (by decide +kernel) (by decide +kernel)
theorem wd_201 : Cond.selects RX0 yX0_outcome yX0_outcome ∈ wG := wd_of (i := 201) (by decide +kernel) (by decide +kernel)
theorem wd_202 : Cond.code yX0_outcome cX0_outcome 2 (some .int) ∈ wG := wd_of (i := 202) (by decide +kernel) (by decide +kernel)
theorem wd_203 : Cond.methodLink RX0 80 Lib.Math.abs.name ∈ wG := wd_of (i := 203) (by decide +kernel) (by decide +kernel)
theorem wd_204 : Cond.static Lib.Math.abs.name ∈ wG := wd_of (i := 204) (by decide +kernel) (by decide +kernel)
theorem wd_205 : Cond.code Lib.Math.abs.name Lib.Math.abs.code 1 (some .int) ∈ wG := wd_of (i := 205) (by decide +kernel) (by decide +kernel)
theorem wd_206 : Cond.methodLink RX0 85 yX0_inBag ∈ wG := wd_of (i := 206) (by decide +kernel) (by decide +kernel)
theorem wd_207 : Cond.instanceMethod yX0_inBag ∈ wG := wd_of (i := 207) (by decide +kernel) (by decide +kernel)
theorem wd_208 : Cond.selects RX0 yX0_inBag yX0_inBag ∈ wG := wd_of (i := 208) (by decide +kernel) (by decide +kernel)
theorem wd_209 : Cond.code yX0_inBag cX0_inBag 3 (some .int) ∈ wG := wd_of (i := 209) (by decide +kernel) (by decide +kernel)
theorem wd_210 : Cond.methodLink RX0 71 yX0_isSide ∈ wG := wd_of (i := 210) (by decide +kernel) (by decide +kernel)
theorem wd_211 : Cond.static yX0_isSide ∈ wG := wd_of (i := 211) (by decide +kernel) (by decide +kernel)
theorem wd_212 : Cond.code yX0_isSide cX0_isSide 1 (some .boolean) ∈ wG := wd_of (i := 212) (by decide +kernel) (by decide +kernel)
theorem wd_213 : Cond.methodLink RX0 92 yX0_hindrance ∈ wG := wd_of (i := 213) (by decide +kernel) (by decide +kernel)
theorem wd_214 : Cond.instanceMethod yX0_hindrance ∈ wG := wd_of (i := 214) (by decide +kernel) (by decide +kernel)
theorem wd_215 : Cond.selects RX0 yX0_hindrance yX0_hindrance ∈ wG := wd_of (i := 215) (by decide +kernel) (by decide +kernel)
theorem wd_216 : Cond.code yX0_hindrance cX0_hindrance 4 (some .int) ∈ wG := wd_of (i := 216) (by decide +kernel) (by decide +kernel)
theorem wd_217 : Cond.methodLink RX0 61 yX0_heightAt ∈ wG := wd_of (i := 217) (by decide +kernel) (by decide +kernel)
theorem wd_218 : Cond.instanceMethod yX0_heightAt ∈ wG := wd_of (i := 218) (by decide +kernel) (by decide +kernel)
theorem wd_219 : Cond.selects RX0 yX0_heightAt yX0_heightAt ∈ wG := wd_of (i := 219) (by decide +kernel) (by decide +kernel)
theorem wd_220 : Cond.code yX0_heightAt cX0_heightAt 2 (some .int) ∈ wG := wd_of (i := 220) (by decide +kernel) (by decide +kernel)
theorem wd_221 : Cond.methodLink RX0 53 yX0_isPlace ∈ wG := wd_of (i := 221) (by decide +kernel) (by decide +kernel)
theorem wd_222 : Cond.methodLink RX0 57 yX0_slotOf ∈ wG := wd_of (i := 222) (by decide +kernel) (by decide +kernel)
theorem wd_223 : Cond.static yX0_slotOf ∈ wG := wd_of (i := 223) (by decide +kernel) (by decide +kernel)
theorem wd_224 : Cond.code yX0_slotOf cX0_slotOf 1 (some .int) ∈ wG := wd_of (i := 224) (by decide +kernel) (by decide +kernel)
theorem wd_225 : Cond.methodLink RX0 95 yX0_targetOf ∈ wG := wd_of (i := 225) (by decide +kernel) (by decide +kernel)
theorem wd_226 : Cond.static yX0_targetOf ∈ wG := wd_of (i := 226) (by decide +kernel) (by decide +kernel)
theorem wd_227 : Cond.code yX0_targetOf cX0_targetOf 3 (some .int) ∈ wG := wd_of (i := 227) (by decide +kernel) (by decide +kernel)
theorem wd_228 : Cond.methodLink RX0 98 yX0_isFull ∈ wG := wd_of (i := 228) (by decide +kernel) (by decide +kernel)
theorem wd_229 : Cond.instanceMethod yX0_isFull ∈ wG := wd_of (i := 229) (by decide +kernel) (by decide +kernel)
theorem wd_230 : Cond.selects RX0 yX0_isFull yX0_isFull ∈ wG := wd_of (i := 230) (by decide +kernel) (by decide +kernel)
theorem wd_231 : Cond.code yX0_isFull cX0_isFull 2 (some .boolean) ∈ wG := wd_of (i := 231) (by decide +kernel) (by decide +kernel)
theorem wd_232 : Cond.methodLink RX4 63 yX1_remember ∈ wG := wd_of (i := 232) (by decide +kernel) (by decide +kernel)
theorem wd_233 : Cond.instanceMethod yX1_remember ∈ wG := wd_of (i := 233) (by decide +kernel) (by decide +kernel)
theorem wd_234 : Cond.selects RX1 yX1_remember yX1_remember ∈ wG := wd_of (i := 234) (by decide +kernel) (by decide +kernel)
theorem wd_235 : Cond.code yX1_remember cX1_remember 3 none ∈ wG := wd_of (i := 235) (by decide +kernel) (by decide +kernel)
theorem wd_236 : Cond.methodLink RX1 20 yX1_dropOldest ∈ wG := wd_of (i := 236) (by decide +kernel) (by decide +kernel)
theorem wd_238 : Cond.instanceMethod yX1_dropOldest ∈ wG := wd_of (i := 238) (by decide +kernel) (by decide +kernel)
theorem wd_239 : Cond.code yX1_dropOldest cX1_dropOldest 3 none ∈ wG := wd_of (i := 239) (by decide +kernel) (by decide +kernel)
theorem wd_240 : Cond.methodLink RX1 23 yX0_copyFrom ∈ wG := wd_of (i := 240) (by decide +kernel) (by decide +kernel)
theorem wd_241 : Cond.instanceMethod yX0_copyFrom ∈ wG := wd_of (i := 241) (by decide +kernel) (by decide +kernel)
theorem wd_242 : Cond.selects RX0 yX0_copyFrom yX0_copyFrom ∈ wG := wd_of (i := 242) (by decide +kernel) (by decide +kernel)
theorem wd_243 : Cond.code yX0_copyFrom cX0_copyFrom 2 none ∈ wG := wd_of (i := 243) (by decide +kernel) (by decide +kernel)
theorem wd_244 : Cond.methodLink RX0 29 arraycopyName ∈ wG := wd_of (i := 244) (by decide +kernel) (by decide +kernel)
theorem wd_245 : Cond.static arraycopyName ∈ wG := wd_of (i := 245) (by decide +kernel) (by decide +kernel)
theorem wd_246 : Cond.native arraycopyName ∈ wG := wd_of (i := 246) (by decide +kernel) (by decide +kernel)
theorem wd_247 : Cond.methodLink RX4 67 yX0_makeMove ∈ wG := wd_of (i := 247) (by decide +kernel) (by decide +kernel)
theorem wd_248 : Cond.instanceMethod yX0_makeMove ∈ wG := wd_of (i := 248) (by decide +kernel) (by decide +kernel)
theorem wd_249 : Cond.selects RX0 yX0_makeMove yX0_makeMove ∈ wG := wd_of (i := 249) (by decide +kernel) (by decide +kernel)
theorem wd_250 : Cond.code yX0_makeMove cX0_makeMove 4 none ∈ wG := wd_of (i := 250) (by decide +kernel) (by decide +kernel)
theorem wd_251 : Cond.methodLink RX0 104 yX0_rowOf ∈ wG := wd_of (i := 251) (by decide +kernel) (by decide +kernel)
theorem wd_252 : Cond.static yX0_rowOf ∈ wG := wd_of (i := 252) (by decide +kernel) (by decide +kernel)
theorem wd_253 : Cond.code yX0_rowOf cX0_rowOf 1 (some .int) ∈ wG := wd_of (i := 253) (by decide +kernel) (by decide +kernel)
theorem wd_254 : Cond.methodLink RX0 130 yJ9_floorMod_7cf53 ∈ wG := wd_of (i := 254) (by decide +kernel) (by decide +kernel)
theorem wd_255 : Cond.static yJ9_floorMod_7cf53 ∈ wG := wd_of (i := 255) (by decide +kernel) (by decide +kernel)
theorem wd_256 : Cond.code yJ9_floorMod_7cf53 cJ9_floorMod_7cf53 3 (some .int) ∈ wG := wd_of (i := 256) (by decide +kernel) (by decide +kernel)
theorem wd_257 : Cond.methodLink RX0 107 yX0_tellingOf ∈ wG := wd_of (i := 257) (by decide +kernel) (by decide +kernel)
theorem wd_258 : Cond.instanceMethod yX0_tellingOf ∈ wG := wd_of (i := 258) (by decide +kernel) (by decide +kernel)
theorem wd_259 : Cond.selects RX0 yX0_tellingOf yX0_tellingOf ∈ wG := wd_of (i := 259) (by decide +kernel) (by decide +kernel)
theorem wd_260 : Cond.code yX0_tellingOf cX0_tellingOf 3 (some .int) ∈ wG := wd_of (i := 260) (by decide +kernel) (by decide +kernel)
theorem wd_261 : Cond.methodLink RX0 101 yX0_uppermostAt ∈ wG := wd_of (i := 261) (by decide +kernel) (by decide +kernel)
theorem wd_262 : Cond.instanceMethod yX0_uppermostAt ∈ wG := wd_of (i := 262) (by decide +kernel) (by decide +kernel)
theorem wd_263 : Cond.selects RX0 yX0_uppermostAt yX0_uppermostAt ∈ wG := wd_of (i := 263) (by decide +kernel) (by decide +kernel)
theorem wd_264 : Cond.code yX0_uppermostAt cX0_uppermostAt 2 (some .int) ∈ wG := wd_of (i := 264) (by decide +kernel) (by decide +kernel)
theorem wd_265 : Cond.methodLink RX0 64 yX0_weightAt ∈ wG := wd_of (i := 265) (by decide +kernel) (by decide +kernel)
theorem wd_267 : Cond.instanceMethod yX0_weightAt ∈ wG := wd_of (i := 267) (by decide +kernel) (by decide +kernel)
theorem wd_268 : Cond.code yX0_weightAt cX0_weightAt 3 (some .int) ∈ wG := wd_of (i := 268) (by decide +kernel) (by decide +kernel)
theorem wd_269 : Cond.methodLink RX0 110 yX0_tryMove ∈ wG := wd_of (i := 269) (by decide +kernel) (by decide +kernel)
theorem wd_270 : Cond.instanceMethod yX0_tryMove ∈ wG := wd_of (i := 270) (by decide +kernel) (by decide +kernel)
theorem wd_271 : Cond.selects RX0 yX0_tryMove yX0_tryMove ∈ wG := wd_of (i := 271) (by decide +kernel) (by decide +kernel)
theorem wd_272 : Cond.code yX0_tryMove cX0_tryMove 4 none ∈ wG := wd_of (i := 272) (by decide +kernel) (by decide +kernel)
theorem wd_273 : Cond.methodLink RX0 117 yX0_changeBag ∈ wG := wd_of (i := 273) (by decide +kernel) (by decide +kernel)
theorem wd_274 : Cond.instanceMethod yX0_changeBag ∈ wG := wd_of (i := 274) (by decide +kernel) (by decide +kernel)
theorem wd_275 : Cond.selects RX0 yX0_changeBag yX0_changeBag ∈ wG := wd_of (i := 275) (by decide +kernel) (by decide +kernel)
theorem wd_276 : Cond.code yX0_changeBag cX0_changeBag 4 none ∈ wG := wd_of (i := 276) (by decide +kernel) (by decide +kernel)
theorem wd_277 : Cond.methodLink RX0 74 yX0_isWeight ∈ wG := wd_of (i := 277) (by decide +kernel) (by decide +kernel)
theorem wd_278 : Cond.methodLink RX0 121 yX0_putOn ∈ wG := wd_of (i := 278) (by decide +kernel) (by decide +kernel)
theorem wd_279 : Cond.instanceMethod yX0_putOn ∈ wG := wd_of (i := 279) (by decide +kernel) (by decide +kernel)
theorem wd_280 : Cond.selects RX0 yX0_putOn yX0_putOn ∈ wG := wd_of (i := 280) (by decide +kernel) (by decide +kernel)
theorem wd_281 : Cond.code yX0_putOn cX0_putOn 4 none ∈ wG := wd_of (i := 281) (by decide +kernel) (by decide +kernel)
theorem wd_282 : Cond.methodLink RX0 124 yX0_takeFrom ∈ wG := wd_of (i := 282) (by decide +kernel) (by decide +kernel)
theorem wd_284 : Cond.instanceMethod yX0_takeFrom ∈ wG := wd_of (i := 284) (by decide +kernel) (by decide +kernel)
theorem wd_285 : Cond.code yX0_takeFrom cX0_takeFrom 4 (some .int) ∈ wG := wd_of (i := 285) (by decide +kernel) (by decide +kernel)
theorem wd_286 : Cond.methodLink RX0 127 yX0_sideBehind ∈ wG := wd_of (i := 286) (by decide +kernel) (by decide +kernel)
theorem wd_288 : Cond.instanceMethod yX0_sideBehind ∈ wG := wd_of (i := 288) (by decide +kernel) (by decide +kernel)
theorem wd_289 : Cond.code yX0_sideBehind cX0_sideBehind 4 (some .int) ∈ wG := wd_of (i := 289) (by decide +kernel) (by decide +kernel)
theorem wd_290 : Cond.methodLink RX0 114 Lib.Math.max.name ∈ wG := wd_of (i := 290) (by decide +kernel) (by decide +kernel)
theorem wd_291 : Cond.static Lib.Math.max.name ∈ wG := wd_of (i := 291) (by decide +kernel) (by decide +kernel)
theorem wd_292 : Cond.code Lib.Math.max.name Lib.Math.max.code 2 (some .int) ∈ wG := wd_of (i := 292) (by decide +kernel) (by decide +kernel)
theorem wd_293 : Cond.methodLink RX4 70 yX0_turn ∈ wG := wd_of (i := 293) (by decide +kernel) (by decide +kernel)
theorem wd_294 : Cond.instanceMethod yX0_turn ∈ wG := wd_of (i := 294) (by decide +kernel) (by decide +kernel)
theorem wd_295 : Cond.selects RX0 yX0_turn yX0_turn ∈ wG := wd_of (i := 295) (by decide +kernel) (by decide +kernel)
theorem wd_296 : Cond.code yX0_turn cX0_turn 1 (some .int) ∈ wG := wd_of (i := 296) (by decide +kernel) (by decide +kernel)
theorem wd_297 : Cond.methodLink RL 18 yX4_push ∈ wG := wd_of (i := 297) (by decide +kernel) (by decide +kernel)
theorem wd_298 : Cond.instanceMethod yX4_push ∈ wG := wd_of (i := 298) (by decide +kernel) (by decide +kernel)
theorem wd_299 : Cond.selects RX4 yX4_push yX4_push ∈ wG := wd_of (i := 299) (by decide +kernel) (by decide +kernel)
theorem wd_300 : Cond.code yX4_push cX4_push 3 (some .int) ∈ wG := wd_of (i := 300) (by decide +kernel) (by decide +kernel)
theorem wd_301 : Cond.methodLink RL 23 yX4_play ∈ wG := wd_of (i := 301) (by decide +kernel) (by decide +kernel)
theorem wd_302 : Cond.instanceMethod yX4_play ∈ wG := wd_of (i := 302) (by decide +kernel) (by decide +kernel)
theorem wd_303 : Cond.selects RX4 yX4_play yX4_play ∈ wG := wd_of (i := 303) (by decide +kernel) (by decide +kernel)
theorem wd_304 : Cond.code yX4_play cX4_play 3 (some .int) ∈ wG := wd_of (i := 304) (by decide +kernel) (by decide +kernel)
theorem wd_305 : Cond.methodLink RX4 47 yX3_bestRank ∈ wG := wd_of (i := 305) (by decide +kernel) (by decide +kernel)
theorem wd_306 : Cond.static yX3_bestRank ∈ wG := wd_of (i := 306) (by decide +kernel) (by decide +kernel)
theorem wd_307 : Cond.code yX3_bestRank cX3_bestRank 11 (some .int) ∈ wG := wd_of (i := 307) (by decide +kernel) (by decide +kernel)
theorem wd_308 : Cond.methodLink RX3 13 yX0_outcome ∈ wG := wd_of (i := 308) (by decide +kernel) (by decide +kernel)
theorem wd_309 : Cond.methodLink RX3 19 yX0_numberOf ∈ wG := wd_of (i := 309) (by decide +kernel) (by decide +kernel)
theorem wd_310 : Cond.static yX0_numberOf ∈ wG := wd_of (i := 310) (by decide +kernel) (by decide +kernel)
theorem wd_311 : Cond.code yX0_numberOf cX0_numberOf 1 (some .int) ∈ wG := wd_of (i := 311) (by decide +kernel) (by decide +kernel)
theorem wd_312 : Cond.methodLink RX3 23 yX0_placeOf ∈ wG := wd_of (i := 312) (by decide +kernel) (by decide +kernel)
theorem wd_313 : Cond.static yX0_placeOf ∈ wG := wd_of (i := 313) (by decide +kernel) (by decide +kernel)
theorem wd_314 : Cond.code yX0_placeOf cX0_placeOf 2 (some .int) ∈ wG := wd_of (i := 314) (by decide +kernel) (by decide +kernel)
theorem wd_315 : Cond.methodLink RX3 26 yX0_hindrance ∈ wG := wd_of (i := 315) (by decide +kernel) (by decide +kernel)
theorem wd_316 : Cond.methodLink RX3 30 yX0_turn ∈ wG := wd_of (i := 316) (by decide +kernel) (by decide +kernel)
theorem wd_317 : Cond.methodLink RX3 33 yX0_tellingOf ∈ wG := wd_of (i := 317) (by decide +kernel) (by decide +kernel)
theorem wd_318 : Cond.methodLink RX3 36 Lib.Math.abs.name ∈ wG := wd_of (i := 318) (by decide +kernel) (by decide +kernel)
theorem wd_319 : Cond.methodLink RX3 41 yX3_behind ∈ wG := wd_of (i := 319) (by decide +kernel) (by decide +kernel)
theorem wd_320 : Cond.static yX3_behind ∈ wG := wd_of (i := 320) (by decide +kernel) (by decide +kernel)
theorem wd_321 : Cond.code yX3_behind cX3_behind 10 (some .int) ∈ wG := wd_of (i := 321) (by decide +kernel) (by decide +kernel)
theorem wd_322 : Cond.methodLink RX3 51 yX0_side ∈ wG := wd_of (i := 322) (by decide +kernel) (by decide +kernel)
theorem wd_323 : Cond.instanceMethod yX0_side ∈ wG := wd_of (i := 323) (by decide +kernel) (by decide +kernel)
theorem wd_324 : Cond.selects RX0 yX0_side yX0_side ∈ wG := wd_of (i := 324) (by decide +kernel) (by decide +kernel)
theorem wd_325 : Cond.code yX0_side cX0_side 1 (some .int) ∈ wG := wd_of (i := 325) (by decide +kernel) (by decide +kernel)
theorem wd_326 : Cond.methodLink RX3 54 yX0_latestSide ∈ wG := wd_of (i := 326) (by decide +kernel) (by decide +kernel)
theorem wd_327 : Cond.instanceMethod yX0_latestSide ∈ wG := wd_of (i := 327) (by decide +kernel) (by decide +kernel)
theorem wd_328 : Cond.selects RX0 yX0_latestSide yX0_latestSide ∈ wG := wd_of (i := 328) (by decide +kernel) (by decide +kernel)
theorem wd_329 : Cond.code yX0_latestSide cX0_latestSide 1 (some .int) ∈ wG := wd_of (i := 329) (by decide +kernel) (by decide +kernel)
theorem wd_330 : Cond.methodLink RX3 57 yX0_movedTo ∈ wG := wd_of (i := 330) (by decide +kernel) (by decide +kernel)
theorem wd_331 : Cond.instanceMethod yX0_movedTo ∈ wG := wd_of (i := 331) (by decide +kernel) (by decide +kernel)
theorem wd_332 : Cond.selects RX0 yX0_movedTo yX0_movedTo ∈ wG := wd_of (i := 332) (by decide +kernel) (by decide +kernel)
theorem wd_333 : Cond.code yX0_movedTo cX0_movedTo 1 (some .int) ∈ wG := wd_of (i := 333) (by decide +kernel) (by decide +kernel)
theorem wd_334 : Cond.methodLink RX3 60 yX0_tryMove ∈ wG := wd_of (i := 334) (by decide +kernel) (by decide +kernel)
theorem wd_335 : Cond.methodLink RX3 7 yX3_ahead ∈ wG := wd_of (i := 335) (by decide +kernel) (by decide +kernel)
theorem wd_336 : Cond.static yX3_ahead ∈ wG := wd_of (i := 336) (by decide +kernel) (by decide +kernel)
theorem wd_337 : Cond.code yX3_ahead cX3_ahead 10 (some .int) ∈ wG := wd_of (i := 337) (by decide +kernel) (by decide +kernel)
theorem wd_338 : Cond.methodLink RX3 45 yX0_worth ∈ wG := wd_of (i := 338) (by decide +kernel) (by decide +kernel)
theorem wd_339 : Cond.instanceMethod yX0_worth ∈ wG := wd_of (i := 339) (by decide +kernel) (by decide +kernel)
theorem wd_340 : Cond.selects RX0 yX0_worth yX0_worth ∈ wG := wd_of (i := 340) (by decide +kernel) (by decide +kernel)
theorem wd_341 : Cond.code yX0_worth cX0_worth 2 (some .int) ∈ wG := wd_of (i := 341) (by decide +kernel) (by decide +kernel)
theorem wd_342 : Cond.methodLink RX3 48 Lib.Math.max.name ∈ wG := wd_of (i := 342) (by decide +kernel) (by decide +kernel)
theorem wd_343 : Cond.methodLink RX3 64 yX0_takeBack ∈ wG := wd_of (i := 343) (by decide +kernel) (by decide +kernel)
theorem wd_344 : Cond.instanceMethod yX0_takeBack ∈ wG := wd_of (i := 344) (by decide +kernel) (by decide +kernel)
theorem wd_345 : Cond.selects RX0 yX0_takeBack yX0_takeBack ∈ wG := wd_of (i := 345) (by decide +kernel) (by decide +kernel)
theorem wd_346 : Cond.code yX0_takeBack cX0_takeBack 7 none ∈ wG := wd_of (i := 346) (by decide +kernel) (by decide +kernel)
theorem wd_347 : Cond.methodLink RX4 53 yX0_numberOf ∈ wG := wd_of (i := 347) (by decide +kernel) (by decide +kernel)
theorem wd_348 : Cond.methodLink RX4 57 yX0_placeOf ∈ wG := wd_of (i := 348) (by decide +kernel) (by decide +kernel)
theorem wd_349 : Cond.methodLink RL 28 yX4_setBag ∈ wG := wd_of (i := 349) (by decide +kernel) (by decide +kernel)
theorem wd_350 : Cond.instanceMethod yX4_setBag ∈ wG := wd_of (i := 350) (by decide +kernel) (by decide +kernel)
theorem wd_351 : Cond.selects RX4 yX4_setBag yX4_setBag ∈ wG := wd_of (i := 351) (by decide +kernel) (by decide +kernel)
theorem wd_352 : Cond.code yX4_setBag cX4_setBag 5 (some .int) ∈ wG := wd_of (i := 352) (by decide +kernel) (by decide +kernel)
theorem wd_353 : Cond.methodLink RX4 74 yX0_isSide ∈ wG := wd_of (i := 353) (by decide +kernel) (by decide +kernel)
theorem wd_354 : Cond.methodLink RX4 77 yX0_inBag ∈ wG := wd_of (i := 354) (by decide +kernel) (by decide +kernel)
theorem wd_355 : Cond.methodLink RX4 80 yX0_changeBag ∈ wG := wd_of (i := 355) (by decide +kernel) (by decide +kernel)
theorem wd_356 : Cond.methodLink RL 33 yX4_set ∈ wG := wd_of (i := 356) (by decide +kernel) (by decide +kernel)
theorem wd_357 : Cond.instanceMethod yX4_set ∈ wG := wd_of (i := 357) (by decide +kernel) (by decide +kernel)
theorem wd_358 : Cond.selects RX4 yX4_set yX4_set ∈ wG := wd_of (i := 358) (by decide +kernel) (by decide +kernel)
theorem wd_359 : Cond.code yX4_set cX4_set 4 (some .int) ∈ wG := wd_of (i := 359) (by decide +kernel) (by decide +kernel)
theorem wd_360 : Cond.methodLink RX4 84 yX0_isSetting ∈ wG := wd_of (i := 360) (by decide +kernel) (by decide +kernel)
theorem wd_361 : Cond.static yX0_isSetting ∈ wG := wd_of (i := 361) (by decide +kernel) (by decide +kernel)
theorem wd_362 : Cond.code yX0_isSetting cX0_isSetting 1 (some .boolean) ∈ wG := wd_of (i := 362) (by decide +kernel) (by decide +kernel)
theorem wd_363 : Cond.methodLink RX4 87 yX0_leastOfSetting ∈ wG := wd_of (i := 363) (by decide +kernel) (by decide +kernel)
theorem wd_364 : Cond.static yX0_leastOfSetting ∈ wG := wd_of (i := 364) (by decide +kernel) (by decide +kernel)
theorem wd_365 : Cond.code yX0_leastOfSetting cX0_leastOfSetting 1 (some .int) ∈ wG := wd_of (i := 365) (by decide +kernel) (by decide +kernel)
theorem wd_366 : Cond.methodLink RX4 90 yX0_mostOfSetting ∈ wG := wd_of (i := 366) (by decide +kernel) (by decide +kernel)
theorem wd_367 : Cond.static yX0_mostOfSetting ∈ wG := wd_of (i := 367) (by decide +kernel) (by decide +kernel)
theorem wd_368 : Cond.code yX0_mostOfSetting cX0_mostOfSetting 1 (some .int) ∈ wG := wd_of (i := 368) (by decide +kernel) (by decide +kernel)
theorem wd_369 : Cond.methodLink RX4 93 yX0_setting ∈ wG := wd_of (i := 369) (by decide +kernel) (by decide +kernel)
theorem wd_370 : Cond.instanceMethod yX0_setting ∈ wG := wd_of (i := 370) (by decide +kernel) (by decide +kernel)
theorem wd_371 : Cond.selects RX0 yX0_setting yX0_setting ∈ wG := wd_of (i := 371) (by decide +kernel) (by decide +kernel)
theorem wd_372 : Cond.code yX0_setting cX0_setting 2 (some .int) ∈ wG := wd_of (i := 372) (by decide +kernel) (by decide +kernel)
theorem wd_373 : Cond.methodLink RX0 77 yX0_isSetting ∈ wG := wd_of (i := 373) (by decide +kernel) (by decide +kernel)
theorem wd_374 : Cond.methodLink RX4 96 yX0_changeSetting ∈ wG := wd_of (i := 374) (by decide +kernel) (by decide +kernel)
theorem wd_375 : Cond.instanceMethod yX0_changeSetting ∈ wG := wd_of (i := 375) (by decide +kernel) (by decide +kernel)
theorem wd_376 : Cond.selects RX0 yX0_changeSetting yX0_changeSetting ∈ wG := wd_of (i := 376) (by decide +kernel) (by decide +kernel)
theorem wd_377 : Cond.code yX0_changeSetting cX0_changeSetting 3 none ∈ wG := wd_of (i := 377) (by decide +kernel) (by decide +kernel)
theorem wd_378 : Cond.methodLink RL 37 yX4_setUp ∈ wG := wd_of (i := 378) (by decide +kernel) (by decide +kernel)
theorem wd_379 : Cond.instanceMethod yX4_setUp ∈ wG := wd_of (i := 379) (by decide +kernel) (by decide +kernel)
theorem wd_380 : Cond.selects RX4 yX4_setUp yX4_setUp ∈ wG := wd_of (i := 380) (by decide +kernel) (by decide +kernel)
theorem wd_381 : Cond.code yX4_setUp cX4_setUp 3 (some .int) ∈ wG := wd_of (i := 381) (by decide +kernel) (by decide +kernel)
theorem wd_382 : Cond.methodLink RX4 99 yX0_isFull ∈ wG := wd_of (i := 382) (by decide +kernel) (by decide +kernel)
theorem wd_383 : Cond.methodLink RX4 102 yX0_putOn ∈ wG := wd_of (i := 383) (by decide +kernel) (by decide +kernel)
theorem wd_384 : Cond.methodLink RL 41 yX4_begin ∈ wG := wd_of (i := 384) (by decide +kernel) (by decide +kernel)
theorem wd_385 : Cond.instanceMethod yX4_begin ∈ wG := wd_of (i := 385) (by decide +kernel) (by decide +kernel)
theorem wd_386 : Cond.selects RX4 yX4_begin yX4_begin ∈ wG := wd_of (i := 386) (by decide +kernel) (by decide +kernel)
theorem wd_387 : Cond.code yX4_begin cX4_begin 2 (some .int) ∈ wG := wd_of (i := 387) (by decide +kernel) (by decide +kernel)
theorem wd_388 : Cond.methodLink RX4 105 yX0_tokens ∈ wG := wd_of (i := 388) (by decide +kernel) (by decide +kernel)
theorem wd_389 : Cond.instanceMethod yX0_tokens ∈ wG := wd_of (i := 389) (by decide +kernel) (by decide +kernel)
theorem wd_390 : Cond.selects RX0 yX0_tokens yX0_tokens ∈ wG := wd_of (i := 390) (by decide +kernel) (by decide +kernel)
theorem wd_391 : Cond.code yX0_tokens cX0_tokens 3 (some .int) ∈ wG := wd_of (i := 391) (by decide +kernel) (by decide +kernel)
theorem wd_392 : Cond.methodLink RX4 108 yX0_empty ∈ wG := wd_of (i := 392) (by decide +kernel) (by decide +kernel)
theorem wd_393 : Cond.instanceMethod yX0_empty ∈ wG := wd_of (i := 393) (by decide +kernel) (by decide +kernel)
theorem wd_394 : Cond.selects RX0 yX0_empty yX0_empty ∈ wG := wd_of (i := 394) (by decide +kernel) (by decide +kernel)
theorem wd_395 : Cond.code yX0_empty cX0_empty 2 none ∈ wG := wd_of (i := 395) (by decide +kernel) (by decide +kernel)
theorem wd_396 : Cond.methodLink RL 46 yX4_type ∈ wG := wd_of (i := 396) (by decide +kernel) (by decide +kernel)
theorem wd_397 : Cond.instanceMethod yX4_type ∈ wG := wd_of (i := 397) (by decide +kernel) (by decide +kernel)
theorem wd_398 : Cond.selects RX4 yX4_type yX4_type ∈ wG := wd_of (i := 398) (by decide +kernel) (by decide +kernel)
theorem wd_399 : Cond.code yX4_type cX4_type 2 (some .int) ∈ wG := wd_of (i := 399) (by decide +kernel) (by decide +kernel)
theorem wd_400 : Cond.methodLink RX4 111 yX2_append ∈ wG := wd_of (i := 400) (by decide +kernel) (by decide +kernel)
theorem wd_401 : Cond.instanceMethod yX2_append ∈ wG := wd_of (i := 401) (by decide +kernel) (by decide +kernel)
theorem wd_402 : Cond.selects RX2 yX2_append yX2_append ∈ wG := wd_of (i := 402) (by decide +kernel) (by decide +kernel)
theorem wd_403 : Cond.code yX2_append cX2_append 2 (some .boolean) ∈ wG := wd_of (i := 403) (by decide +kernel) (by decide +kernel)
theorem wd_404 : Cond.methodLink RX4 115 yX2_length ∈ wG := wd_of (i := 404) (by decide +kernel) (by decide +kernel)
theorem wd_405 : Cond.instanceMethod yX2_length ∈ wG := wd_of (i := 405) (by decide +kernel) (by decide +kernel)
theorem wd_406 : Cond.selects RX2 yX2_length yX2_length ∈ wG := wd_of (i := 406) (by decide +kernel) (by decide +kernel)
theorem wd_407 : Cond.code yX2_length cX2_length 1 (some .int) ∈ wG := wd_of (i := 407) (by decide +kernel) (by decide +kernel)
theorem wd_408 : Cond.methodLink RL 51 yX4_clearText ∈ wG := wd_of (i := 408) (by decide +kernel) (by decide +kernel)
theorem wd_409 : Cond.instanceMethod yX4_clearText ∈ wG := wd_of (i := 409) (by decide +kernel) (by decide +kernel)
theorem wd_410 : Cond.selects RX4 yX4_clearText yX4_clearText ∈ wG := wd_of (i := 410) (by decide +kernel) (by decide +kernel)
theorem wd_411 : Cond.code yX4_clearText cX4_clearText 2 (some .int) ∈ wG := wd_of (i := 411) (by decide +kernel) (by decide +kernel)
theorem wd_412 : Cond.methodLink RX4 118 yX2_empty ∈ wG := wd_of (i := 412) (by decide +kernel) (by decide +kernel)
theorem wd_413 : Cond.instanceMethod yX2_empty ∈ wG := wd_of (i := 413) (by decide +kernel) (by decide +kernel)
theorem wd_414 : Cond.selects RX2 yX2_empty yX2_empty ∈ wG := wd_of (i := 414) (by decide +kernel) (by decide +kernel)
theorem wd_415 : Cond.code yX2_empty cX2_empty 1 none ∈ wG := wd_of (i := 415) (by decide +kernel) (by decide +kernel)
theorem wd_416 : Cond.methodLink RL 55 yX4_perform ∈ wG := wd_of (i := 416) (by decide +kernel) (by decide +kernel)
theorem wd_417 : Cond.instanceMethod yX4_perform ∈ wG := wd_of (i := 417) (by decide +kernel) (by decide +kernel)
theorem wd_418 : Cond.selects RX4 yX4_perform yX4_perform ∈ wG := wd_of (i := 418) (by decide +kernel) (by decide +kernel)
theorem wd_419 : Cond.code yX4_perform cX4_perform 5 (some .int) ∈ wG := wd_of (i := 419) (by decide +kernel) (by decide +kernel)
theorem wd_420 : Cond.methodLink RX4 119 yX2_read ∈ wG := wd_of (i := 420) (by decide +kernel) (by decide +kernel)
theorem wd_421 : Cond.instanceMethod yX2_read ∈ wG := wd_of (i := 421) (by decide +kernel) (by decide +kernel)
theorem wd_422 : Cond.selects RX2 yX2_read yX2_read ∈ wG := wd_of (i := 422) (by decide +kernel) (by decide +kernel)
theorem wd_423 : Cond.code yX2_read cX2_read 3 (some .int) ∈ wG := wd_of (i := 423) (by decide +kernel) (by decide +kernel)
theorem wd_424 : Cond.methodLink RX2 31 yX2_stateBehind ∈ wG := wd_of (i := 424) (by decide +kernel) (by decide +kernel)
theorem wd_425 : Cond.static yX2_stateBehind ∈ wG := wd_of (i := 425) (by decide +kernel) (by decide +kernel)
theorem wd_426 : Cond.code yX2_stateBehind cX2_stateBehind 4 (some .int) ∈ wG := wd_of (i := 426) (by decide +kernel) (by decide +kernel)
theorem wd_427 : Cond.methodLink RX2 35 yX2_take ∈ wG := wd_of (i := 427) (by decide +kernel) (by decide +kernel)
theorem wd_429 : Cond.instanceMethod yX2_take ∈ wG := wd_of (i := 429) (by decide +kernel) (by decide +kernel)
theorem wd_430 : Cond.code yX2_take cX2_take 2 none ∈ wG := wd_of (i := 430) (by decide +kernel) (by decide +kernel)
theorem wd_431 : Cond.methodLink RX2 39 yX2_endMove ∈ wG := wd_of (i := 431) (by decide +kernel) (by decide +kernel)
theorem wd_433 : Cond.instanceMethod yX2_endMove ∈ wG := wd_of (i := 433) (by decide +kernel) (by decide +kernel)
theorem wd_434 : Cond.code yX2_endMove cX2_endMove 1 none ∈ wG := wd_of (i := 434) (by decide +kernel) (by decide +kernel)
theorem wd_435 : Cond.methodLink RX4 122 yX0_copyFrom ∈ wG := wd_of (i := 435) (by decide +kernel) (by decide +kernel)
theorem wd_436 : Cond.methodLink RX4 125 yX2_moves ∈ wG := wd_of (i := 436) (by decide +kernel) (by decide +kernel)
theorem wd_437 : Cond.instanceMethod yX2_moves ∈ wG := wd_of (i := 437) (by decide +kernel) (by decide +kernel)
theorem wd_438 : Cond.selects RX2 yX2_moves yX2_moves ∈ wG := wd_of (i := 438) (by decide +kernel) (by decide +kernel)
theorem wd_439 : Cond.code yX2_moves cX2_moves 1 (some .int) ∈ wG := wd_of (i := 439) (by decide +kernel) (by decide +kernel)
theorem wd_440 : Cond.methodLink RX4 128 yX2_numberOf ∈ wG := wd_of (i := 440) (by decide +kernel) (by decide +kernel)
theorem wd_441 : Cond.instanceMethod yX2_numberOf ∈ wG := wd_of (i := 441) (by decide +kernel) (by decide +kernel)
theorem wd_442 : Cond.selects RX2 yX2_numberOf yX2_numberOf ∈ wG := wd_of (i := 442) (by decide +kernel) (by decide +kernel)
theorem wd_443 : Cond.code yX2_numberOf cX2_numberOf 2 (some .int) ∈ wG := wd_of (i := 443) (by decide +kernel) (by decide +kernel)
theorem wd_444 : Cond.methodLink RX4 129 yX2_placeOf ∈ wG := wd_of (i := 444) (by decide +kernel) (by decide +kernel)
theorem wd_445 : Cond.instanceMethod yX2_placeOf ∈ wG := wd_of (i := 445) (by decide +kernel) (by decide +kernel)
theorem wd_446 : Cond.selects RX2 yX2_placeOf yX2_placeOf ∈ wG := wd_of (i := 446) (by decide +kernel) (by decide +kernel)
theorem wd_447 : Cond.code yX2_placeOf cX2_placeOf 2 (some .int) ∈ wG := wd_of (i := 447) (by decide +kernel) (by decide +kernel)
theorem wd_448 : Cond.methodLink RL 59 yX4_stopped ∈ wG := wd_of (i := 448) (by decide +kernel) (by decide +kernel)
theorem wd_449 : Cond.instanceMethod yX4_stopped ∈ wG := wd_of (i := 449) (by decide +kernel) (by decide +kernel)
theorem wd_450 : Cond.selects RX4 yX4_stopped yX4_stopped ∈ wG := wd_of (i := 450) (by decide +kernel) (by decide +kernel)
theorem wd_451 : Cond.code yX4_stopped cX4_stopped 2 (some .int) ∈ wG := wd_of (i := 451) (by decide +kernel) (by decide +kernel)
theorem wd_452 : Cond.methodLink RL 63 yX4_undo ∈ wG := wd_of (i := 452) (by decide +kernel) (by decide +kernel)
theorem wd_453 : Cond.instanceMethod yX4_undo ∈ wG := wd_of (i := 453) (by decide +kernel) (by decide +kernel)
theorem wd_454 : Cond.selects RX4 yX4_undo yX4_undo ∈ wG := wd_of (i := 454) (by decide +kernel) (by decide +kernel)
theorem wd_455 : Cond.code yX4_undo cX4_undo 1 (some .int) ∈ wG := wd_of (i := 455) (by decide +kernel) (by decide +kernel)
theorem wd_456 : Cond.methodLink RX4 141 yX1_bringBack ∈ wG := wd_of (i := 456) (by decide +kernel) (by decide +kernel)
theorem wd_457 : Cond.instanceMethod yX1_bringBack ∈ wG := wd_of (i := 457) (by decide +kernel) (by decide +kernel)
theorem wd_458 : Cond.selects RX1 yX1_bringBack yX1_bringBack ∈ wG := wd_of (i := 458) (by decide +kernel) (by decide +kernel)
theorem wd_459 : Cond.code yX1_bringBack cX1_bringBack 3 (some .boolean) ∈ wG := wd_of (i := 459) (by decide +kernel) (by decide +kernel)
theorem wd_460 : Cond.methodLink RX4 145 yX1_size ∈ wG := wd_of (i := 460) (by decide +kernel) (by decide +kernel)
theorem wd_461 : Cond.instanceMethod yX1_size ∈ wG := wd_of (i := 461) (by decide +kernel) (by decide +kernel)
theorem wd_462 : Cond.selects RX1 yX1_size yX1_size ∈ wG := wd_of (i := 462) (by decide +kernel) (by decide +kernel)
theorem wd_463 : Cond.code yX1_size cX1_size 1 (some .int) ∈ wG := wd_of (i := 463) (by decide +kernel) (by decide +kernel)
theorem wd_464 : Cond.methodLink RL 67 yX4_keep ∈ wG := wd_of (i := 464) (by decide +kernel) (by decide +kernel)
theorem wd_465 : Cond.instanceMethod yX4_keep ∈ wG := wd_of (i := 465) (by decide +kernel) (by decide +kernel)
theorem wd_466 : Cond.selects RX4 yX4_keep yX4_keep ∈ wG := wd_of (i := 466) (by decide +kernel) (by decide +kernel)
theorem wd_467 : Cond.code yX4_keep cX4_keep 1 (some .int) ∈ wG := wd_of (i := 467) (by decide +kernel) (by decide +kernel)
theorem wd_468 : Cond.methodLink RL 71 yX4_restore ∈ wG := wd_of (i := 468) (by decide +kernel) (by decide +kernel)
theorem wd_469 : Cond.instanceMethod yX4_restore ∈ wG := wd_of (i := 469) (by decide +kernel) (by decide +kernel)
theorem wd_470 : Cond.selects RX4 yX4_restore yX4_restore ∈ wG := wd_of (i := 470) (by decide +kernel) (by decide +kernel)
theorem wd_471 : Cond.code yX4_restore cX4_restore 1 (some .int) ∈ wG := wd_of (i := 471) (by decide +kernel) (by decide +kernel)
theorem wd_472 : Cond.methodLink RL 75 yX4_at ∈ wG := wd_of (i := 472) (by decide +kernel) (by decide +kernel)
theorem wd_473 : Cond.instanceMethod yX4_at ∈ wG := wd_of (i := 473) (by decide +kernel) (by decide +kernel)
theorem wd_474 : Cond.selects RX4 yX4_at yX4_at ∈ wG := wd_of (i := 474) (by decide +kernel) (by decide +kernel)
theorem wd_475 : Cond.code yX4_at cX4_at 3 (some .int) ∈ wG := wd_of (i := 475) (by decide +kernel) (by decide +kernel)
theorem wd_476 : Cond.methodLink RX4 151 yX0_heightAt ∈ wG := wd_of (i := 476) (by decide +kernel) (by decide +kernel)
theorem wd_477 : Cond.methodLink RX4 154 yX0_weightsAt ∈ wG := wd_of (i := 477) (by decide +kernel) (by decide +kernel)
theorem wd_478 : Cond.instanceMethod yX0_weightsAt ∈ wG := wd_of (i := 478) (by decide +kernel) (by decide +kernel)
theorem wd_479 : Cond.selects RX0 yX0_weightsAt yX0_weightsAt ∈ wG := wd_of (i := 479) (by decide +kernel) (by decide +kernel)
theorem wd_480 : Cond.code yX0_weightsAt cX0_weightsAt 5 (some .int) ∈ wG := wd_of (i := 480) (by decide +kernel) (by decide +kernel)
theorem wd_481 : Cond.methodLink RX4 157 yX0_uppermostAt ∈ wG := wd_of (i := 481) (by decide +kernel) (by decide +kernel)
theorem wd_482 : Cond.methodLink RL 79 yX4_bag ∈ wG := wd_of (i := 482) (by decide +kernel) (by decide +kernel)
theorem wd_483 : Cond.instanceMethod yX4_bag ∈ wG := wd_of (i := 483) (by decide +kernel) (by decide +kernel)
theorem wd_484 : Cond.selects RX4 yX4_bag yX4_bag ∈ wG := wd_of (i := 484) (by decide +kernel) (by decide +kernel)
theorem wd_485 : Cond.code yX4_bag cX4_bag 3 (some .int) ∈ wG := wd_of (i := 485) (by decide +kernel) (by decide +kernel)
theorem wd_486 : Cond.methodLink RL 83 yX4_reason ∈ wG := wd_of (i := 486) (by decide +kernel) (by decide +kernel)
theorem wd_487 : Cond.instanceMethod yX4_reason ∈ wG := wd_of (i := 487) (by decide +kernel) (by decide +kernel)
theorem wd_488 : Cond.selects RX4 yX4_reason yX4_reason ∈ wG := wd_of (i := 488) (by decide +kernel) (by decide +kernel)
theorem wd_489 : Cond.code yX4_reason cX4_reason 3 (some .int) ∈ wG := wd_of (i := 489) (by decide +kernel) (by decide +kernel)
theorem wd_490 : Cond.methodLink RL 87 yX4_possible ∈ wG := wd_of (i := 490) (by decide +kernel) (by decide +kernel)
theorem wd_491 : Cond.instanceMethod yX4_possible ∈ wG := wd_of (i := 491) (by decide +kernel) (by decide +kernel)
theorem wd_492 : Cond.selects RX4 yX4_possible yX4_possible ∈ wG := wd_of (i := 492) (by decide +kernel) (by decide +kernel)
theorem wd_493 : Cond.code yX4_possible cX4_possible 4 (some .int) ∈ wG := wd_of (i := 493) (by decide +kernel) (by decide +kernel)
theorem wd_494 : Cond.methodLink RX4 160 yX4_tellMove ∈ wG := wd_of (i := 494) (by decide +kernel) (by decide +kernel)
theorem wd_495 : Cond.static yX4_tellMove ∈ wG := wd_of (i := 495) (by decide +kernel) (by decide +kernel)
theorem wd_496 : Cond.code yX4_tellMove cX4_tellMove 1 (some .int) ∈ wG := wd_of (i := 496) (by decide +kernel) (by decide +kernel)
theorem wd_497 : Cond.methodLink RL 91 yX4_look ∈ wG := wd_of (i := 497) (by decide +kernel) (by decide +kernel)
theorem wd_498 : Cond.instanceMethod yX4_look ∈ wG := wd_of (i := 498) (by decide +kernel) (by decide +kernel)
theorem wd_499 : Cond.selects RX4 yX4_look yX4_look ∈ wG := wd_of (i := 499) (by decide +kernel) (by decide +kernel)
theorem wd_500 : Cond.code yX4_look cX4_look 2 (some .int) ∈ wG := wd_of (i := 500) (by decide +kernel) (by decide +kernel)
theorem wd_501 : Cond.methodLink RX4 163 yX3_lookAhead ∈ wG := wd_of (i := 501) (by decide +kernel) (by decide +kernel)
theorem wd_502 : Cond.static yX3_lookAhead ∈ wG := wd_of (i := 502) (by decide +kernel) (by decide +kernel)
theorem wd_503 : Cond.code yX3_lookAhead cX3_lookAhead 2 (some .int) ∈ wG := wd_of (i := 503) (by decide +kernel) (by decide +kernel)
theorem wd_504 : Cond.methodLink RL 95 yX4_best ∈ wG := wd_of (i := 504) (by decide +kernel) (by decide +kernel)
theorem wd_505 : Cond.instanceMethod yX4_best ∈ wG := wd_of (i := 505) (by decide +kernel) (by decide +kernel)
theorem wd_506 : Cond.selects RX4 yX4_best yX4_best ∈ wG := wd_of (i := 506) (by decide +kernel) (by decide +kernel)
theorem wd_507 : Cond.code yX4_best cX4_best 3 (some .int) ∈ wG := wd_of (i := 507) (by decide +kernel) (by decide +kernel)
theorem wd_508 : Cond.methodLink RL 99 yX4_levels ∈ wG := wd_of (i := 508) (by decide +kernel) (by decide +kernel)
theorem wd_509 : Cond.instanceMethod yX4_levels ∈ wG := wd_of (i := 509) (by decide +kernel) (by decide +kernel)
theorem wd_510 : Cond.selects RX4 yX4_levels yX4_levels ∈ wG := wd_of (i := 510) (by decide +kernel) (by decide +kernel)
theorem wd_511 : Cond.code yX4_levels cX4_levels 3 (some .int) ∈ wG := wd_of (i := 511) (by decide +kernel) (by decide +kernel)
theorem wd_512 : Cond.methodLink RL 103 yX4_made ∈ wG := wd_of (i := 512) (by decide +kernel) (by decide +kernel)
theorem wd_513 : Cond.instanceMethod yX4_made ∈ wG := wd_of (i := 513) (by decide +kernel) (by decide +kernel)
theorem wd_514 : Cond.selects RX4 yX4_made yX4_made ∈ wG := wd_of (i := 514) (by decide +kernel) (by decide +kernel)
theorem wd_515 : Cond.code yX4_made cX4_made 3 (some .int) ∈ wG := wd_of (i := 515) (by decide +kernel) (by decide +kernel)
theorem wd_516 : Cond.methodLink RX4 166 yX0_isMoveKept ∈ wG := wd_of (i := 516) (by decide +kernel) (by decide +kernel)
theorem wd_517 : Cond.instanceMethod yX0_isMoveKept ∈ wG := wd_of (i := 517) (by decide +kernel) (by decide +kernel)
theorem wd_518 : Cond.selects RX0 yX0_isMoveKept yX0_isMoveKept ∈ wG := wd_of (i := 518) (by decide +kernel) (by decide +kernel)
theorem wd_519 : Cond.code yX0_isMoveKept cX0_isMoveKept 2 (some .boolean) ∈ wG := wd_of (i := 519) (by decide +kernel) (by decide +kernel)
theorem wd_520 : Cond.methodLink RX4 169 yX0_partOfMove ∈ wG := wd_of (i := 520) (by decide +kernel) (by decide +kernel)
theorem wd_521 : Cond.instanceMethod yX0_partOfMove ∈ wG := wd_of (i := 521) (by decide +kernel) (by decide +kernel)
theorem wd_522 : Cond.selects RX0 yX0_partOfMove yX0_partOfMove ∈ wG := wd_of (i := 522) (by decide +kernel) (by decide +kernel)
theorem wd_523 : Cond.code yX0_partOfMove cX0_partOfMove 3 (some .int) ∈ wG := wd_of (i := 523) (by decide +kernel) (by decide +kernel)
theorem wd_524 : Cond.methodLink RX0 133 yX0_isMoveKept ∈ wG := wd_of (i := 524) (by decide +kernel) (by decide +kernel)
theorem wd_525 : Cond.methodLink RL 107 yX4_count ∈ wG := wd_of (i := 525) (by decide +kernel) (by decide +kernel)
theorem wd_526 : Cond.instanceMethod yX4_count ∈ wG := wd_of (i := 526) (by decide +kernel) (by decide +kernel)
theorem wd_527 : Cond.selects RX4 yX4_count yX4_count ∈ wG := wd_of (i := 527) (by decide +kernel) (by decide +kernel)
theorem wd_528 : Cond.code yX4_count cX4_count 2 (some .int) ∈ wG := wd_of (i := 528) (by decide +kernel) (by decide +kernel)
theorem wd_529 : Cond.methodLink RX4 172 yX0_side ∈ wG := wd_of (i := 529) (by decide +kernel) (by decide +kernel)
theorem wd_530 : Cond.methodLink RX4 175 yX0_outcome ∈ wG := wd_of (i := 530) (by decide +kernel) (by decide +kernel)
theorem wd_531 : Cond.methodLink RX4 178 yX0_moveCount ∈ wG := wd_of (i := 531) (by decide +kernel) (by decide +kernel)
theorem wd_532 : Cond.instanceMethod yX0_moveCount ∈ wG := wd_of (i := 532) (by decide +kernel) (by decide +kernel)
theorem wd_533 : Cond.selects RX0 yX0_moveCount yX0_moveCount ∈ wG := wd_of (i := 533) (by decide +kernel) (by decide +kernel)
theorem wd_534 : Cond.code yX0_moveCount cX0_moveCount 1 (some .int) ∈ wG := wd_of (i := 534) (by decide +kernel) (by decide +kernel)
theorem wd_535 : Cond.methodLink RX4 181 yX0_toldByMoves ∈ wG := wd_of (i := 535) (by decide +kernel) (by decide +kernel)
theorem wd_536 : Cond.instanceMethod yX0_toldByMoves ∈ wG := wd_of (i := 536) (by decide +kernel) (by decide +kernel)
theorem wd_537 : Cond.selects RX0 yX0_toldByMoves yX0_toldByMoves ∈ wG := wd_of (i := 537) (by decide +kernel) (by decide +kernel)
theorem wd_538 : Cond.code yX0_toldByMoves cX0_toldByMoves 1 (some .int) ∈ wG := wd_of (i := 538) (by decide +kernel) (by decide +kernel)
theorem wd_539 : Cond.methodLink RX4 184 yX0_weights ∈ wG := wd_of (i := 539) (by decide +kernel) (by decide +kernel)
theorem wd_540 : Cond.instanceMethod yX0_weights ∈ wG := wd_of (i := 540) (by decide +kernel) (by decide +kernel)
theorem wd_541 : Cond.selects RX0 yX0_weights yX0_weights ∈ wG := wd_of (i := 541) (by decide +kernel) (by decide +kernel)
theorem wd_542 : Cond.code yX0_weights cX0_weights 3 (some .int) ∈ wG := wd_of (i := 542) (by decide +kernel) (by decide +kernel)
theorem wd_543 : Cond.methodLink RX0 68 yX0_weightsAt ∈ wG := wd_of (i := 543) (by decide +kernel) (by decide +kernel)
theorem wd_544 : Cond.methodLink RX4 187 yX0_possibleMoves ∈ wG := wd_of (i := 544) (by decide +kernel) (by decide +kernel)
theorem wd_545 : Cond.instanceMethod yX0_possibleMoves ∈ wG := wd_of (i := 545) (by decide +kernel) (by decide +kernel)
theorem wd_546 : Cond.selects RX0 yX0_possibleMoves yX0_possibleMoves ∈ wG := wd_of (i := 546) (by decide +kernel) (by decide +kernel)
theorem wd_547 : Cond.code yX0_possibleMoves cX0_possibleMoves 3 (some .int) ∈ wG := wd_of (i := 547) (by decide +kernel) (by decide +kernel)
theorem wd_548 : Cond.methodLink RX0 136 yX0_numberOf ∈ wG := wd_of (i := 548) (by decide +kernel) (by decide +kernel)
theorem wd_549 : Cond.methodLink RX0 139 yX0_placeOf ∈ wG := wd_of (i := 549) (by decide +kernel) (by decide +kernel)
theorem wd_550 : Cond.methodLink RX0 142 yX0_whyNot ∈ wG := wd_of (i := 550) (by decide +kernel) (by decide +kernel)
theorem wd_551 : Cond.methodLink RX4 190 yX0_safeMoves ∈ wG := wd_of (i := 551) (by decide +kernel) (by decide +kernel)
theorem wd_552 : Cond.instanceMethod yX0_safeMoves ∈ wG := wd_of (i := 552) (by decide +kernel) (by decide +kernel)
theorem wd_553 : Cond.selects RX0 yX0_safeMoves yX0_safeMoves ∈ wG := wd_of (i := 553) (by decide +kernel) (by decide +kernel)
theorem wd_554 : Cond.code yX0_safeMoves cX0_safeMoves 5 (some .int) ∈ wG := wd_of (i := 554) (by decide +kernel) (by decide +kernel)
theorem wd_555 : Cond.methodLink RX4 193 yX0_greatestTurn ∈ wG := wd_of (i := 555) (by decide +kernel) (by decide +kernel)
theorem wd_556 : Cond.instanceMethod yX0_greatestTurn ∈ wG := wd_of (i := 556) (by decide +kernel) (by decide +kernel)
theorem wd_557 : Cond.selects RX0 yX0_greatestTurn yX0_greatestTurn ∈ wG := wd_of (i := 557) (by decide +kernel) (by decide +kernel)
theorem wd_558 : Cond.code yX0_greatestTurn cX0_greatestTurn 1 (some .int) ∈ wG := wd_of (i := 558) (by decide +kernel) (by decide +kernel)
theorem wd_559 : Cond.classLink RL 10 RX5 ∈ wG := wd_of (i := 559) (by decide +kernel) (by decide +kernel)
theorem wd_560 : Cond.instantiable RX5 17 ∈ wG := wd_of (i := 560) (by decide +kernel) (by decide +kernel)
theorem wd_561 : Cond.methodLink RL 12 yX5_init ∈ wG := wd_of (i := 561) (by decide +kernel) (by decide +kernel)
theorem wd_562 : Cond.instanceMethod yX5_init ∈ wG := wd_of (i := 562) (by decide +kernel) (by decide +kernel)
theorem wd_563 : Cond.code yX5_init cX5_init 2 none ∈ wG := wd_of (i := 563) (by decide +kernel) (by decide +kernel)
theorem wd_564 : Cond.methodLink RX5 1 objectInit ∈ wG := wd_of (i := 564) (by decide +kernel) (by decide +kernel)
theorem wd_565 : Cond.methodLink RX5 45 yX5_addBag ∈ wG := wd_of (i := 565) (by decide +kernel) (by decide +kernel)
theorem wd_567 : Cond.instanceMethod yX5_addBag ∈ wG := wd_of (i := 567) (by decide +kernel) (by decide +kernel)
theorem wd_568 : Cond.code yX5_addBag cX5_addBag 4 none ∈ wG := wd_of (i := 568) (by decide +kernel) (by decide +kernel)
theorem wd_569 : Cond.methodLink RX5 53 yX5_bagAt ∈ wG := wd_of (i := 569) (by decide +kernel) (by decide +kernel)
theorem wd_571 : Cond.instanceMethod yX5_bagAt ∈ wG := wd_of (i := 571) (by decide +kernel) (by decide +kernel)
theorem wd_572 : Cond.code yX5_bagAt cX5_bagAt 3 (some .int) ∈ wG := wd_of (i := 572) (by decide +kernel) (by decide +kernel)
theorem wd_573 : Cond.fieldLink RX5 7 "TippingBeamModel" "z" "[I" ∈ wG := wd_of (i := 573) (by decide +kernel) (by decide +kernel)
theorem wd_574 : Cond.fieldLink RX5 13 "TippingBeamModel" "past" "[I" ∈ wG := wd_of (i := 574) (by decide +kernel) (by decide +kernel)
theorem wd_575 : Cond.fieldLink RX5 67 "TippingBeamModel" "pastMany" "I" ∈ wG := wd_of (i := 575) (by decide +kernel) (by decide +kernel)
theorem wd_576 : Cond.fieldLink RX5 16 "TippingBeamModel" "kept" "[I" ∈ wG := wd_of (i := 576) (by decide +kernel) (by decide +kernel)
theorem wd_577 : Cond.fieldLink RX5 73 "TippingBeamModel" "isKept" "Z" ∈ wG := wd_of (i := 577) (by decide +kernel) (by decide +kernel)
theorem wd_578 : Cond.fieldLink RX5 19 "TippingBeamModel" "spare" "[I" ∈ wG := wd_of (i := 578) (by decide +kernel) (by decide +kernel)
theorem wd_579 : Cond.fieldLink RX5 22 "TippingBeamModel" "text" "[C" ∈ wG := wd_of (i := 579) (by decide +kernel) (by decide +kernel)
theorem wd_580 : Cond.fieldLink RX5 175 "TippingBeamModel" "typed" "I" ∈ wG := wd_of (i := 580) (by decide +kernel) (by decide +kernel)
theorem wd_581 : Cond.fieldLink RX5 26 "TippingBeamModel" "stoppedAt" "I" ∈ wG := wd_of (i := 581) (by decide +kernel) (by decide +kernel)
theorem wd_582 : Cond.fieldLink RX5 30 "TippingBeamModel" "stoppedBy" "I" ∈ wG := wd_of (i := 582) (by decide +kernel) (by decide +kernel)
theorem wd_583 : Cond.fieldLink RX5 33 "TippingBeamModel" "sides" "[I" ∈ wG := wd_of (i := 583) (by decide +kernel) (by decide +kernel)
theorem wd_584 : Cond.fieldLink RX5 36 "TippingBeamModel" "lasts" "[I" ∈ wG := wd_of (i := 584) (by decide +kernel) (by decide +kernel)
theorem wd_585 : Cond.fieldLink RX5 39 "TippingBeamModel" "latelies" "[I" ∈ wG := wd_of (i := 585) (by decide +kernel) (by decide +kernel)
theorem wd_586 : Cond.fieldLink RX5 42 "TippingBeamModel" "read" "[I" ∈ wG := wd_of (i := 586) (by decide +kernel) (by decide +kernel)
theorem wd_587 : Cond.fieldLink RX5 191 "TippingBeamModel" "readMany" "I" ∈ wG := wd_of (i := 587) (by decide +kernel) (by decide +kernel)
theorem wd_588 : Cond.fieldLink RX5 178 "TippingBeamModel" "spot" "I" ∈ wG := wd_of (i := 588) (by decide +kernel) (by decide +kernel)
theorem wd_589 : Cond.fieldLink RX5 181 "TippingBeamModel" "wrong" "I" ∈ wG := wd_of (i := 589) (by decide +kernel) (by decide +kernel)
theorem wd_625 : Cond.methodLink RL 66 yX5_undo ∈ wG := wd_of (i := 625) (by decide +kernel) (by decide +kernel)
theorem wd_626 : Cond.instanceMethod yX5_undo ∈ wG := wd_of (i := 626) (by decide +kernel) (by decide +kernel)
theorem wd_627 : Cond.selects RX5 yX5_undo yX5_undo ∈ wG := wd_of (i := 627) (by decide +kernel) (by decide +kernel)
theorem wd_628 : Cond.code yX5_undo cX5_undo 2 (some .int) ∈ wG := wd_of (i := 628) (by decide +kernel) (by decide +kernel)
theorem wd_629 : Cond.methodLink RL 70 yX5_keep ∈ wG := wd_of (i := 629) (by decide +kernel) (by decide +kernel)
theorem wd_630 : Cond.instanceMethod yX5_keep ∈ wG := wd_of (i := 630) (by decide +kernel) (by decide +kernel)
theorem wd_631 : Cond.selects RX5 yX5_keep yX5_keep ∈ wG := wd_of (i := 631) (by decide +kernel) (by decide +kernel)
theorem wd_632 : Cond.code yX5_keep cX5_keep 2 (some .int) ∈ wG := wd_of (i := 632) (by decide +kernel) (by decide +kernel)
theorem wd_633 : Cond.methodLink RX5 77 yX5_tokens ∈ wG := wd_of (i := 633) (by decide +kernel) (by decide +kernel)
theorem wd_635 : Cond.instanceMethod yX5_tokens ∈ wG := wd_of (i := 635) (by decide +kernel) (by decide +kernel)
theorem wd_636 : Cond.code yX5_tokens cX5_tokens 3 (some .int) ∈ wG := wd_of (i := 636) (by decide +kernel) (by decide +kernel)
theorem wd_637 : Cond.methodLink RX5 70 yX5_placeBy ∈ wG := wd_of (i := 637) (by decide +kernel) (by decide +kernel)
theorem wd_638 : Cond.static yX5_placeBy ∈ wG := wd_of (i := 638) (by decide +kernel) (by decide +kernel)
theorem wd_639 : Cond.code yX5_placeBy cX5_placeBy 1 (some .int) ∈ wG := wd_of (i := 639) (by decide +kernel) (by decide +kernel)
theorem wd_640 : Cond.methodLink RX5 64 yX5_many ∈ wG := wd_of (i := 640) (by decide +kernel) (by decide +kernel)
theorem wd_642 : Cond.instanceMethod yX5_many ∈ wG := wd_of (i := 642) (by decide +kernel) (by decide +kernel)
theorem wd_643 : Cond.code yX5_many cX5_many 2 (some .int) ∈ wG := wd_of (i := 643) (by decide +kernel) (by decide +kernel)
theorem wd_644 : Cond.methodLink RX5 60 yX5_spotOf ∈ wG := wd_of (i := 644) (by decide +kernel) (by decide +kernel)
theorem wd_645 : Cond.static yX5_spotOf ∈ wG := wd_of (i := 645) (by decide +kernel) (by decide +kernel)
theorem wd_646 : Cond.code yX5_spotOf cX5_spotOf 1 (some .int) ∈ wG := wd_of (i := 646) (by decide +kernel) (by decide +kernel)
theorem wd_647 : Cond.methodLink RL 74 yX5_restore ∈ wG := wd_of (i := 647) (by decide +kernel) (by decide +kernel)
theorem wd_648 : Cond.instanceMethod yX5_restore ∈ wG := wd_of (i := 648) (by decide +kernel) (by decide +kernel)
theorem wd_649 : Cond.selects RX5 yX5_restore yX5_restore ∈ wG := wd_of (i := 649) (by decide +kernel) (by decide +kernel)
theorem wd_650 : Cond.code yX5_restore cX5_restore 2 (some .int) ∈ wG := wd_of (i := 650) (by decide +kernel) (by decide +kernel)
theorem wd_651 : Cond.methodLink RX5 81 yX5_record ∈ wG := wd_of (i := 651) (by decide +kernel) (by decide +kernel)
theorem wd_653 : Cond.instanceMethod yX5_record ∈ wG := wd_of (i := 653) (by decide +kernel) (by decide +kernel)
theorem wd_654 : Cond.code yX5_record cX5_record 2 none ∈ wG := wd_of (i := 654) (by decide +kernel) (by decide +kernel)
theorem wd_655 : Cond.methodLink RL 17 yX5_lay ∈ wG := wd_of (i := 655) (by decide +kernel) (by decide +kernel)
theorem wd_656 : Cond.instanceMethod yX5_lay ∈ wG := wd_of (i := 656) (by decide +kernel) (by decide +kernel)
theorem wd_657 : Cond.selects RX5 yX5_lay yX5_lay ∈ wG := wd_of (i := 657) (by decide +kernel) (by decide +kernel)
theorem wd_658 : Cond.code yX5_lay cX5_lay 3 (some .int) ∈ wG := wd_of (i := 658) (by decide +kernel) (by decide +kernel)
theorem wd_659 : Cond.methodLink RX5 123 yX5_isWeight ∈ wG := wd_of (i := 659) (by decide +kernel) (by decide +kernel)
theorem wd_660 : Cond.static yX5_isWeight ∈ wG := wd_of (i := 660) (by decide +kernel) (by decide +kernel)
theorem wd_661 : Cond.code yX5_isWeight cX5_isWeight 1 (some .boolean) ∈ wG := wd_of (i := 661) (by decide +kernel) (by decide +kernel)
theorem wd_662 : Cond.methodLink RX5 49 yX5_in ∈ wG := wd_of (i := 662) (by decide +kernel) (by decide +kernel)
theorem wd_663 : Cond.static yX5_in ∈ wG := wd_of (i := 663) (by decide +kernel) (by decide +kernel)
theorem wd_664 : Cond.code yX5_in cX5_in 3 (some .boolean) ∈ wG := wd_of (i := 664) (by decide +kernel) (by decide +kernel)
theorem wd_665 : Cond.methodLink RX5 100 yX5_isPlace ∈ wG := wd_of (i := 665) (by decide +kernel) (by decide +kernel)
theorem wd_666 : Cond.static yX5_isPlace ∈ wG := wd_of (i := 666) (by decide +kernel) (by decide +kernel)
theorem wd_667 : Cond.code yX5_isPlace cX5_isPlace 1 (some .boolean) ∈ wG := wd_of (i := 667) (by decide +kernel) (by decide +kernel)
theorem wd_668 : Cond.methodLink RX5 126 yX5_tryMove ∈ wG := wd_of (i := 668) (by decide +kernel) (by decide +kernel)
theorem wd_670 : Cond.instanceMethod yX5_tryMove ∈ wG := wd_of (i := 670) (by decide +kernel) (by decide +kernel)
theorem wd_671 : Cond.code yX5_tryMove cX5_tryMove 4 (some .int) ∈ wG := wd_of (i := 671) (by decide +kernel) (by decide +kernel)
theorem wd_672 : Cond.methodLink RX5 117 yX5_whyNot ∈ wG := wd_of (i := 672) (by decide +kernel) (by decide +kernel)
theorem wd_674 : Cond.instanceMethod yX5_whyNot ∈ wG := wd_of (i := 674) (by decide +kernel) (by decide +kernel)
theorem wd_675 : Cond.code yX5_whyNot cX5_whyNot 4 (some .int) ∈ wG := wd_of (i := 675) (by decide +kernel) (by decide +kernel)
theorem wd_676 : Cond.methodLink RX5 94 yX5_isOver ∈ wG := wd_of (i := 676) (by decide +kernel) (by decide +kernel)
theorem wd_678 : Cond.instanceMethod yX5_isOver ∈ wG := wd_of (i := 678) (by decide +kernel) (by decide +kernel)
theorem wd_679 : Cond.code yX5_isOver cX5_isOver 1 (some .boolean) ∈ wG := wd_of (i := 679) (by decide +kernel) (by decide +kernel)
theorem wd_680 : Cond.methodLink RX5 87 yX5_hasTipped ∈ wG := wd_of (i := 680) (by decide +kernel) (by decide +kernel)
theorem wd_682 : Cond.instanceMethod yX5_hasTipped ∈ wG := wd_of (i := 682) (by decide +kernel) (by decide +kernel)
theorem wd_683 : Cond.code yX5_hasTipped cX5_hasTipped 1 (some .boolean) ∈ wG := wd_of (i := 683) (by decide +kernel) (by decide +kernel)
theorem wd_684 : Cond.methodLink RX5 84 yX5_size ∈ wG := wd_of (i := 684) (by decide +kernel) (by decide +kernel)
theorem wd_685 : Cond.static yX5_size ∈ wG := wd_of (i := 685) (by decide +kernel) (by decide +kernel)
theorem wd_686 : Cond.code yX5_size cX5_size 1 (some .int) ∈ wG := wd_of (i := 686) (by decide +kernel) (by decide +kernel)
theorem wd_687 : Cond.methodLink RX5 91 yX5_allIn ∈ wG := wd_of (i := 687) (by decide +kernel) (by decide +kernel)
theorem wd_689 : Cond.instanceMethod yX5_allIn ∈ wG := wd_of (i := 689) (by decide +kernel) (by decide +kernel)
theorem wd_690 : Cond.code yX5_allIn cX5_allIn 4 (some .int) ∈ wG := wd_of (i := 690) (by decide +kernel) (by decide +kernel)
theorem wd_691 : Cond.methodLink RX5 57 yX5_inBag ∈ wG := wd_of (i := 691) (by decide +kernel) (by decide +kernel)
theorem wd_693 : Cond.instanceMethod yX5_inBag ∈ wG := wd_of (i := 693) (by decide +kernel) (by decide +kernel)
theorem wd_694 : Cond.code yX5_inBag cX5_inBag 3 (some .int) ∈ wG := wd_of (i := 694) (by decide +kernel) (by decide +kernel)
theorem wd_695 : Cond.methodLink RX5 104 yX5_goal ∈ wG := wd_of (i := 695) (by decide +kernel) (by decide +kernel)
theorem wd_696 : Cond.static yX5_goal ∈ wG := wd_of (i := 696) (by decide +kernel) (by decide +kernel)
theorem wd_697 : Cond.code yX5_goal cX5_goal 4 (some .int) ∈ wG := wd_of (i := 697) (by decide +kernel) (by decide +kernel)
theorem wd_698 : Cond.methodLink RX5 120 yX5_moveIt ∈ wG := wd_of (i := 698) (by decide +kernel) (by decide +kernel)
theorem wd_700 : Cond.instanceMethod yX5_moveIt ∈ wG := wd_of (i := 700) (by decide +kernel) (by decide +kernel)
theorem wd_701 : Cond.code yX5_moveIt cX5_moveIt 7 (some .int) ∈ wG := wd_of (i := 701) (by decide +kernel) (by decide +kernel)
theorem wd_702 : Cond.methodLink RX5 114 yX5_change ∈ wG := wd_of (i := 702) (by decide +kernel) (by decide +kernel)
theorem wd_704 : Cond.instanceMethod yX5_change ∈ wG := wd_of (i := 704) (by decide +kernel) (by decide +kernel)
theorem wd_705 : Cond.code yX5_change cX5_change 5 none ∈ wG := wd_of (i := 705) (by decide +kernel) (by decide +kernel)
theorem wd_706 : Cond.methodLink RX5 107 yX5_put ∈ wG := wd_of (i := 706) (by decide +kernel) (by decide +kernel)
theorem wd_708 : Cond.instanceMethod yX5_put ∈ wG := wd_of (i := 708) (by decide +kernel) (by decide +kernel)
theorem wd_709 : Cond.code yX5_put cX5_put 4 none ∈ wG := wd_of (i := 709) (by decide +kernel) (by decide +kernel)
theorem wd_710 : Cond.methodLink RX5 111 yX5_takeOff ∈ wG := wd_of (i := 710) (by decide +kernel) (by decide +kernel)
theorem wd_712 : Cond.instanceMethod yX5_takeOff ∈ wG := wd_of (i := 712) (by decide +kernel) (by decide +kernel)
theorem wd_713 : Cond.code yX5_takeOff cX5_takeOff 4 (some .int) ∈ wG := wd_of (i := 713) (by decide +kernel) (by decide +kernel)
theorem wd_714 : Cond.methodLink RL 22 yX5_push ∈ wG := wd_of (i := 714) (by decide +kernel) (by decide +kernel)
theorem wd_715 : Cond.instanceMethod yX5_push ∈ wG := wd_of (i := 715) (by decide +kernel) (by decide +kernel)
theorem wd_716 : Cond.selects RX5 yX5_push yX5_push ∈ wG := wd_of (i := 716) (by decide +kernel) (by decide +kernel)
theorem wd_717 : Cond.code yX5_push cX5_push 3 (some .int) ∈ wG := wd_of (i := 717) (by decide +kernel) (by decide +kernel)
theorem wd_718 : Cond.methodLink RL 94 yX5_look ∈ wG := wd_of (i := 718) (by decide +kernel) (by decide +kernel)
theorem wd_719 : Cond.instanceMethod yX5_look ∈ wG := wd_of (i := 719) (by decide +kernel) (by decide +kernel)
theorem wd_720 : Cond.selects RX5 yX5_look yX5_look ∈ wG := wd_of (i := 720) (by decide +kernel) (by decide +kernel)
theorem wd_721 : Cond.code yX5_look cX5_look 2 (some .int) ∈ wG := wd_of (i := 721) (by decide +kernel) (by decide +kernel)
theorem wd_722 : Cond.methodLink RX5 159 yX5_looked ∈ wG := wd_of (i := 722) (by decide +kernel) (by decide +kernel)
theorem wd_724 : Cond.instanceMethod yX5_looked ∈ wG := wd_of (i := 724) (by decide +kernel) (by decide +kernel)
theorem wd_725 : Cond.code yX5_looked cX5_looked 2 (some .int) ∈ wG := wd_of (i := 725) (by decide +kernel) (by decide +kernel)
theorem wd_726 : Cond.methodLink RX5 135 yX5_told ∈ wG := wd_of (i := 726) (by decide +kernel) (by decide +kernel)
theorem wd_728 : Cond.instanceMethod yX5_told ∈ wG := wd_of (i := 728) (by decide +kernel) (by decide +kernel)
theorem wd_729 : Cond.code yX5_told cX5_told 1 (some .int) ∈ wG := wd_of (i := 729) (by decide +kernel) (by decide +kernel)
theorem wd_730 : Cond.methodLink RX5 97 yX5_winner ∈ wG := wd_of (i := 730) (by decide +kernel) (by decide +kernel)
theorem wd_732 : Cond.instanceMethod yX5_winner ∈ wG := wd_of (i := 732) (by decide +kernel) (by decide +kernel)
theorem wd_733 : Cond.code yX5_winner cX5_winner 1 (some .int) ∈ wG := wd_of (i := 733) (by decide +kernel) (by decide +kernel)
theorem wd_734 : Cond.methodLink RX5 150 yX5_lookOne ∈ wG := wd_of (i := 734) (by decide +kernel) (by decide +kernel)
theorem wd_736 : Cond.instanceMethod yX5_lookOne ∈ wG := wd_of (i := 736) (by decide +kernel) (by decide +kernel)
theorem wd_737 : Cond.code yX5_lookOne cX5_lookOne 4 (some .int) ∈ wG := wd_of (i := 737) (by decide +kernel) (by decide +kernel)
theorem wd_738 : Cond.methodLink RX5 138 yX5_isPossible ∈ wG := wd_of (i := 738) (by decide +kernel) (by decide +kernel)
theorem wd_740 : Cond.instanceMethod yX5_isPossible ∈ wG := wd_of (i := 740) (by decide +kernel) (by decide +kernel)
theorem wd_741 : Cond.code yX5_isPossible cX5_isPossible 2 (some .boolean) ∈ wG := wd_of (i := 741) (by decide +kernel) (by decide +kernel)
theorem wd_742 : Cond.methodLink RX5 129 yX5_numberOf ∈ wG := wd_of (i := 742) (by decide +kernel) (by decide +kernel)
theorem wd_743 : Cond.static yX5_numberOf ∈ wG := wd_of (i := 743) (by decide +kernel) (by decide +kernel)
theorem wd_744 : Cond.code yX5_numberOf cX5_numberOf 1 (some .int) ∈ wG := wd_of (i := 744) (by decide +kernel) (by decide +kernel)
theorem wd_745 : Cond.methodLink RX5 132 yX5_placeOf ∈ wG := wd_of (i := 745) (by decide +kernel) (by decide +kernel)
theorem wd_746 : Cond.static yX5_placeOf ∈ wG := wd_of (i := 746) (by decide +kernel) (by decide +kernel)
theorem wd_747 : Cond.code yX5_placeOf cX5_placeOf 1 (some .int) ∈ wG := wd_of (i := 747) (by decide +kernel) (by decide +kernel)
theorem wd_748 : Cond.methodLink RX5 141 yX5_ahead ∈ wG := wd_of (i := 748) (by decide +kernel) (by decide +kernel)
theorem wd_750 : Cond.instanceMethod yX5_ahead ∈ wG := wd_of (i := 750) (by decide +kernel) (by decide +kernel)
theorem wd_751 : Cond.code yX5_ahead cX5_ahead 3 none ∈ wG := wd_of (i := 751) (by decide +kernel) (by decide +kernel)
theorem wd_752 : Cond.methodLink RX5 144 yX5_forMover ∈ wG := wd_of (i := 752) (by decide +kernel) (by decide +kernel)
theorem wd_754 : Cond.instanceMethod yX5_forMover ∈ wG := wd_of (i := 754) (by decide +kernel) (by decide +kernel)
theorem wd_755 : Cond.code yX5_forMover cX5_forMover 3 (some .int) ∈ wG := wd_of (i := 755) (by decide +kernel) (by decide +kernel)
theorem wd_756 : Cond.methodLink RX5 147 yX5_back ∈ wG := wd_of (i := 756) (by decide +kernel) (by decide +kernel)
theorem wd_758 : Cond.instanceMethod yX5_back ∈ wG := wd_of (i := 758) (by decide +kernel) (by decide +kernel)
theorem wd_759 : Cond.code yX5_back cX5_back 5 none ∈ wG := wd_of (i := 759) (by decide +kernel) (by decide +kernel)
theorem wd_760 : Cond.methodLink RX5 153 yX5_lookTwo ∈ wG := wd_of (i := 760) (by decide +kernel) (by decide +kernel)
theorem wd_762 : Cond.instanceMethod yX5_lookTwo ∈ wG := wd_of (i := 762) (by decide +kernel) (by decide +kernel)
theorem wd_763 : Cond.code yX5_lookTwo cX5_lookTwo 4 (some .int) ∈ wG := wd_of (i := 763) (by decide +kernel) (by decide +kernel)
theorem wd_764 : Cond.methodLink RX5 156 yX5_lookThree ∈ wG := wd_of (i := 764) (by decide +kernel) (by decide +kernel)
theorem wd_766 : Cond.instanceMethod yX5_lookThree ∈ wG := wd_of (i := 766) (by decide +kernel) (by decide +kernel)
theorem wd_767 : Cond.code yX5_lookThree cX5_lookThree 4 (some .int) ∈ wG := wd_of (i := 767) (by decide +kernel) (by decide +kernel)
theorem wd_768 : Cond.methodLink RL 98 yX5_best ∈ wG := wd_of (i := 768) (by decide +kernel) (by decide +kernel)
theorem wd_769 : Cond.instanceMethod yX5_best ∈ wG := wd_of (i := 769) (by decide +kernel) (by decide +kernel)
theorem wd_770 : Cond.selects RX5 yX5_best yX5_best ∈ wG := wd_of (i := 770) (by decide +kernel) (by decide +kernel)
theorem wd_771 : Cond.code yX5_best cX5_best 3 (some .int) ∈ wG := wd_of (i := 771) (by decide +kernel) (by decide +kernel)
theorem wd_772 : Cond.methodLink RX5 162 yX5_bestMove ∈ wG := wd_of (i := 772) (by decide +kernel) (by decide +kernel)
theorem wd_774 : Cond.instanceMethod yX5_bestMove ∈ wG := wd_of (i := 774) (by decide +kernel) (by decide +kernel)
theorem wd_775 : Cond.code yX5_bestMove cX5_bestMove 9 (some .int) ∈ wG := wd_of (i := 775) (by decide +kernel) (by decide +kernel)
theorem wd_776 : Cond.methodLink RX5 165 yX5_toldMove ∈ wG := wd_of (i := 776) (by decide +kernel) (by decide +kernel)
theorem wd_777 : Cond.static yX5_toldMove ∈ wG := wd_of (i := 777) (by decide +kernel) (by decide +kernel)
theorem wd_778 : Cond.code yX5_toldMove cX5_toldMove 1 (some .int) ∈ wG := wd_of (i := 778) (by decide +kernel) (by decide +kernel)
theorem wd_779 : Cond.methodLink RL 27 yX5_play ∈ wG := wd_of (i := 779) (by decide +kernel) (by decide +kernel)
theorem wd_780 : Cond.instanceMethod yX5_play ∈ wG := wd_of (i := 780) (by decide +kernel) (by decide +kernel)
theorem wd_781 : Cond.selects RX5 yX5_play yX5_play ∈ wG := wd_of (i := 781) (by decide +kernel) (by decide +kernel)
theorem wd_782 : Cond.code yX5_play cX5_play 3 (some .int) ∈ wG := wd_of (i := 782) (by decide +kernel) (by decide +kernel)
theorem wd_783 : Cond.methodLink RL 32 yX5_setBag ∈ wG := wd_of (i := 783) (by decide +kernel) (by decide +kernel)
theorem wd_784 : Cond.instanceMethod yX5_setBag ∈ wG := wd_of (i := 784) (by decide +kernel) (by decide +kernel)
theorem wd_785 : Cond.selects RX5 yX5_setBag yX5_setBag ∈ wG := wd_of (i := 785) (by decide +kernel) (by decide +kernel)
theorem wd_786 : Cond.code yX5_setBag cX5_setBag 5 (some .int) ∈ wG := wd_of (i := 786) (by decide +kernel) (by decide +kernel)
theorem wd_787 : Cond.methodLink RX5 168 yX5_isSide ∈ wG := wd_of (i := 787) (by decide +kernel) (by decide +kernel)
theorem wd_788 : Cond.static yX5_isSide ∈ wG := wd_of (i := 788) (by decide +kernel) (by decide +kernel)
theorem wd_789 : Cond.code yX5_isSide cX5_isSide 1 (some .boolean) ∈ wG := wd_of (i := 789) (by decide +kernel) (by decide +kernel)
theorem wd_790 : Cond.methodLink RL 36 yX5_set ∈ wG := wd_of (i := 790) (by decide +kernel) (by decide +kernel)
theorem wd_791 : Cond.instanceMethod yX5_set ∈ wG := wd_of (i := 791) (by decide +kernel) (by decide +kernel)
theorem wd_792 : Cond.selects RX5 yX5_set yX5_set ∈ wG := wd_of (i := 792) (by decide +kernel) (by decide +kernel)
theorem wd_793 : Cond.code yX5_set cX5_set 4 (some .int) ∈ wG := wd_of (i := 793) (by decide +kernel) (by decide +kernel)
theorem wd_794 : Cond.methodLink RX5 171 yX5_isValue ∈ wG := wd_of (i := 794) (by decide +kernel) (by decide +kernel)
theorem wd_795 : Cond.static yX5_isValue ∈ wG := wd_of (i := 795) (by decide +kernel) (by decide +kernel)
theorem wd_796 : Cond.code yX5_isValue cX5_isValue 2 (some .boolean) ∈ wG := wd_of (i := 796) (by decide +kernel) (by decide +kernel)
theorem wd_797 : Cond.methodLink RL 40 yX5_setUp ∈ wG := wd_of (i := 797) (by decide +kernel) (by decide +kernel)
theorem wd_798 : Cond.instanceMethod yX5_setUp ∈ wG := wd_of (i := 798) (by decide +kernel) (by decide +kernel)
theorem wd_799 : Cond.selects RX5 yX5_setUp yX5_setUp ∈ wG := wd_of (i := 799) (by decide +kernel) (by decide +kernel)
theorem wd_800 : Cond.code yX5_setUp cX5_setUp 3 (some .int) ∈ wG := wd_of (i := 800) (by decide +kernel) (by decide +kernel)
theorem wd_801 : Cond.methodLink RL 45 yX5_begin ∈ wG := wd_of (i := 801) (by decide +kernel) (by decide +kernel)
theorem wd_802 : Cond.instanceMethod yX5_begin ∈ wG := wd_of (i := 802) (by decide +kernel) (by decide +kernel)
theorem wd_803 : Cond.selects RX5 yX5_begin yX5_begin ∈ wG := wd_of (i := 803) (by decide +kernel) (by decide +kernel)
theorem wd_804 : Cond.code yX5_begin cX5_begin 3 (some .int) ∈ wG := wd_of (i := 804) (by decide +kernel) (by decide +kernel)
theorem wd_805 : Cond.methodLink RL 50 yX5_type ∈ wG := wd_of (i := 805) (by decide +kernel) (by decide +kernel)
theorem wd_806 : Cond.instanceMethod yX5_type ∈ wG := wd_of (i := 806) (by decide +kernel) (by decide +kernel)
theorem wd_807 : Cond.selects RX5 yX5_type yX5_type ∈ wG := wd_of (i := 807) (by decide +kernel) (by decide +kernel)
theorem wd_808 : Cond.code yX5_type cX5_type 2 (some .int) ∈ wG := wd_of (i := 808) (by decide +kernel) (by decide +kernel)
theorem wd_809 : Cond.methodLink RL 54 yX5_clearText ∈ wG := wd_of (i := 809) (by decide +kernel) (by decide +kernel)
theorem wd_810 : Cond.instanceMethod yX5_clearText ∈ wG := wd_of (i := 810) (by decide +kernel) (by decide +kernel)
theorem wd_811 : Cond.selects RX5 yX5_clearText yX5_clearText ∈ wG := wd_of (i := 811) (by decide +kernel) (by decide +kernel)
theorem wd_812 : Cond.code yX5_clearText cX5_clearText 2 (some .int) ∈ wG := wd_of (i := 812) (by decide +kernel) (by decide +kernel)
theorem wd_813 : Cond.methodLink RL 58 yX5_perform ∈ wG := wd_of (i := 813) (by decide +kernel) (by decide +kernel)
theorem wd_814 : Cond.instanceMethod yX5_perform ∈ wG := wd_of (i := 814) (by decide +kernel) (by decide +kernel)
theorem wd_815 : Cond.selects RX5 yX5_perform yX5_perform ∈ wG := wd_of (i := 815) (by decide +kernel) (by decide +kernel)
theorem wd_816 : Cond.code yX5_perform cX5_perform 5 (some .int) ∈ wG := wd_of (i := 816) (by decide +kernel) (by decide +kernel)
theorem wd_817 : Cond.methodLink RX5 203 yX5_readText ∈ wG := wd_of (i := 817) (by decide +kernel) (by decide +kernel)
theorem wd_819 : Cond.instanceMethod yX5_readText ∈ wG := wd_of (i := 819) (by decide +kernel) (by decide +kernel)
theorem wd_820 : Cond.code yX5_readText cX5_readText 2 (some .int) ∈ wG := wd_of (i := 820) (by decide +kernel) (by decide +kernel)
theorem wd_821 : Cond.methodLink RX5 200 yX5_readMove ∈ wG := wd_of (i := 821) (by decide +kernel) (by decide +kernel)
theorem wd_823 : Cond.instanceMethod yX5_readMove ∈ wG := wd_of (i := 823) (by decide +kernel) (by decide +kernel)
theorem wd_824 : Cond.code yX5_readMove cX5_readMove 6 none ∈ wG := wd_of (i := 824) (by decide +kernel) (by decide +kernel)
theorem wd_825 : Cond.methodLink RX5 194 yX5_isMinus ∈ wG := wd_of (i := 825) (by decide +kernel) (by decide +kernel)
theorem wd_827 : Cond.instanceMethod yX5_isMinus ∈ wG := wd_of (i := 827) (by decide +kernel) (by decide +kernel)
theorem wd_828 : Cond.code yX5_isMinus cX5_isMinus 2 (some .boolean) ∈ wG := wd_of (i := 828) (by decide +kernel) (by decide +kernel)
theorem wd_829 : Cond.methodLink RX5 184 yX5_letter ∈ wG := wd_of (i := 829) (by decide +kernel) (by decide +kernel)
theorem wd_831 : Cond.instanceMethod yX5_letter ∈ wG := wd_of (i := 831) (by decide +kernel) (by decide +kernel)
theorem wd_832 : Cond.code yX5_letter cX5_letter 1 (some .int) ∈ wG := wd_of (i := 832) (by decide +kernel) (by decide +kernel)
theorem wd_833 : Cond.methodLink RX5 197 yX5_digit ∈ wG := wd_of (i := 833) (by decide +kernel) (by decide +kernel)
theorem wd_835 : Cond.instanceMethod yX5_digit ∈ wG := wd_of (i := 835) (by decide +kernel) (by decide +kernel)
theorem wd_836 : Cond.code yX5_digit cX5_digit 2 (some .int) ∈ wG := wd_of (i := 836) (by decide +kernel) (by decide +kernel)
theorem wd_837 : Cond.methodLink RX5 187 yX5_wants ∈ wG := wd_of (i := 837) (by decide +kernel) (by decide +kernel)
theorem wd_839 : Cond.instanceMethod yX5_wants ∈ wG := wd_of (i := 839) (by decide +kernel) (by decide +kernel)
theorem wd_840 : Cond.code yX5_wants cX5_wants 2 none ∈ wG := wd_of (i := 840) (by decide +kernel) (by decide +kernel)
theorem wd_841 : Cond.methodLink RL 62 yX5_stopped ∈ wG := wd_of (i := 841) (by decide +kernel) (by decide +kernel)
theorem wd_842 : Cond.instanceMethod yX5_stopped ∈ wG := wd_of (i := 842) (by decide +kernel) (by decide +kernel)
theorem wd_843 : Cond.selects RX5 yX5_stopped yX5_stopped ∈ wG := wd_of (i := 843) (by decide +kernel) (by decide +kernel)
theorem wd_844 : Cond.code yX5_stopped cX5_stopped 2 (some .int) ∈ wG := wd_of (i := 844) (by decide +kernel) (by decide +kernel)
theorem wd_845 : Cond.methodLink RL 78 yX5_at ∈ wG := wd_of (i := 845) (by decide +kernel) (by decide +kernel)
theorem wd_846 : Cond.instanceMethod yX5_at ∈ wG := wd_of (i := 846) (by decide +kernel) (by decide +kernel)
theorem wd_847 : Cond.selects RX5 yX5_at yX5_at ∈ wG := wd_of (i := 847) (by decide +kernel) (by decide +kernel)
theorem wd_848 : Cond.code yX5_at cX5_at 3 (some .int) ∈ wG := wd_of (i := 848) (by decide +kernel) (by decide +kernel)
theorem wd_849 : Cond.methodLink RX5 206 yX5_weights ∈ wG := wd_of (i := 849) (by decide +kernel) (by decide +kernel)
theorem wd_851 : Cond.instanceMethod yX5_weights ∈ wG := wd_of (i := 851) (by decide +kernel) (by decide +kernel)
theorem wd_852 : Cond.code yX5_weights cX5_weights 4 (some .int) ∈ wG := wd_of (i := 852) (by decide +kernel) (by decide +kernel)
theorem wd_853 : Cond.methodLink RX5 209 yX5_top ∈ wG := wd_of (i := 853) (by decide +kernel) (by decide +kernel)
theorem wd_855 : Cond.instanceMethod yX5_top ∈ wG := wd_of (i := 855) (by decide +kernel) (by decide +kernel)
theorem wd_856 : Cond.code yX5_top cX5_top 2 (some .int) ∈ wG := wd_of (i := 856) (by decide +kernel) (by decide +kernel)
theorem wd_857 : Cond.methodLink RL 82 yX5_bag ∈ wG := wd_of (i := 857) (by decide +kernel) (by decide +kernel)
theorem wd_858 : Cond.instanceMethod yX5_bag ∈ wG := wd_of (i := 858) (by decide +kernel) (by decide +kernel)
theorem wd_859 : Cond.selects RX5 yX5_bag yX5_bag ∈ wG := wd_of (i := 859) (by decide +kernel) (by decide +kernel)
theorem wd_860 : Cond.code yX5_bag cX5_bag 3 (some .int) ∈ wG := wd_of (i := 860) (by decide +kernel) (by decide +kernel)
theorem wd_861 : Cond.methodLink RL 86 yX5_reason ∈ wG := wd_of (i := 861) (by decide +kernel) (by decide +kernel)
theorem wd_862 : Cond.instanceMethod yX5_reason ∈ wG := wd_of (i := 862) (by decide +kernel) (by decide +kernel)
theorem wd_863 : Cond.selects RX5 yX5_reason yX5_reason ∈ wG := wd_of (i := 863) (by decide +kernel) (by decide +kernel)
theorem wd_864 : Cond.code yX5_reason cX5_reason 3 (some .int) ∈ wG := wd_of (i := 864) (by decide +kernel) (by decide +kernel)
theorem wd_865 : Cond.methodLink RL 90 yX5_possible ∈ wG := wd_of (i := 865) (by decide +kernel) (by decide +kernel)
theorem wd_866 : Cond.instanceMethod yX5_possible ∈ wG := wd_of (i := 866) (by decide +kernel) (by decide +kernel)
theorem wd_867 : Cond.selects RX5 yX5_possible yX5_possible ∈ wG := wd_of (i := 867) (by decide +kernel) (by decide +kernel)
theorem wd_868 : Cond.code yX5_possible cX5_possible 4 (some .int) ∈ wG := wd_of (i := 868) (by decide +kernel) (by decide +kernel)
theorem wd_869 : Cond.methodLink RL 102 yX5_levels ∈ wG := wd_of (i := 869) (by decide +kernel) (by decide +kernel)
theorem wd_870 : Cond.instanceMethod yX5_levels ∈ wG := wd_of (i := 870) (by decide +kernel) (by decide +kernel)
theorem wd_871 : Cond.selects RX5 yX5_levels yX5_levels ∈ wG := wd_of (i := 871) (by decide +kernel) (by decide +kernel)
theorem wd_872 : Cond.code yX5_levels cX5_levels 4 (some .int) ∈ wG := wd_of (i := 872) (by decide +kernel) (by decide +kernel)
theorem wd_873 : Cond.methodLink RL 106 yX5_made ∈ wG := wd_of (i := 873) (by decide +kernel) (by decide +kernel)
theorem wd_874 : Cond.instanceMethod yX5_made ∈ wG := wd_of (i := 874) (by decide +kernel) (by decide +kernel)
theorem wd_875 : Cond.selects RX5 yX5_made yX5_made ∈ wG := wd_of (i := 875) (by decide +kernel) (by decide +kernel)
theorem wd_876 : Cond.code yX5_made cX5_made 3 (some .int) ∈ wG := wd_of (i := 876) (by decide +kernel) (by decide +kernel)
theorem wd_877 : Cond.methodLink RL 110 yX5_count ∈ wG := wd_of (i := 877) (by decide +kernel) (by decide +kernel)
theorem wd_878 : Cond.instanceMethod yX5_count ∈ wG := wd_of (i := 878) (by decide +kernel) (by decide +kernel)
theorem wd_879 : Cond.selects RX5 yX5_count yX5_count ∈ wG := wd_of (i := 879) (by decide +kernel) (by decide +kernel)
theorem wd_880 : Cond.code yX5_count cX5_count 2 (some .int) ∈ wG := wd_of (i := 880) (by decide +kernel) (by decide +kernel)
theorem wd_881 : Cond.methodLink RX5 212 yX5_result ∈ wG := wd_of (i := 881) (by decide +kernel) (by decide +kernel)
theorem wd_883 : Cond.instanceMethod yX5_result ∈ wG := wd_of (i := 883) (by decide +kernel) (by decide +kernel)
theorem wd_884 : Cond.code yX5_result cX5_result 1 (some .int) ∈ wG := wd_of (i := 884) (by decide +kernel) (by decide +kernel)
theorem wd_885 : Cond.methodLink RX5 215 yX5_allWeights ∈ wG := wd_of (i := 885) (by decide +kernel) (by decide +kernel)
theorem wd_887 : Cond.instanceMethod yX5_allWeights ∈ wG := wd_of (i := 887) (by decide +kernel) (by decide +kernel)
theorem wd_888 : Cond.code yX5_allWeights cX5_allWeights 3 (some .int) ∈ wG := wd_of (i := 888) (by decide +kernel) (by decide +kernel)
theorem wd_889 : Cond.methodLink RX5 218 yX5_moves ∈ wG := wd_of (i := 889) (by decide +kernel) (by decide +kernel)
theorem wd_891 : Cond.instanceMethod yX5_moves ∈ wG := wd_of (i := 891) (by decide +kernel) (by decide +kernel)
theorem wd_892 : Cond.code yX5_moves cX5_moves 4 (some .int) ∈ wG := wd_of (i := 892) (by decide +kernel) (by decide +kernel)
theorem wd_in {ws : List Cond} (ps : List Nat) (h : ws = ps.filterMap (fun i => lw_tbl[i]?)) (g : ws.all goodWord = true) : ∀ w ∈ ws, w ∈ wG := by
  intro w hw
  have g1 := List.all_eq_true.mp g w hw
  rw [h] at hw
  obtain ⟨i, -, hi⟩ := List.mem_filterMap.mp hw
  exact wd_of hi g1
theorem inX0 : ∀ w ∈ wsX00, w ∈ wG := wd_in [79, 81, 83, 85, 87, 89, 91, 93, 95, 97, 99, 101] (by decide +kernel) (by decide +kernel)
theorem inX1 : ∀ w ∈ wsX10, w ∈ wG := wd_in [116, 118] (by decide +kernel) (by decide +kernel)
theorem inX2 : ∀ w ∈ wsX20, w ∈ wG := wd_in [135, 137, 139, 141, 143, 145, 147, 149] (by decide +kernel) (by decide +kernel)
theorem inX4 : ∀ w ∈ wsX40, w ∈ wG := wd_in [162, 164, 166, 168, 170, 172, 174, 176, 178] (by decide +kernel) (by decide +kernel)
theorem inX5 : ∀ w ∈ wsX50, w ∈ wG := wd_in [590, 592, 594, 596, 598, 600, 602, 604, 606, 608, 610, 612, 614, 616, 618, 620, 622] (by decide +kernel) (by decide +kernel)
theorem G_in {ws : List Cond} (h : ∀ w ∈ ws, w ∈ wG) : GoodIn wG ws := fun w hw => ⟨h w hw, good_of_word (List.mem_filter.mp (h w hw)).2⟩
end
section
/-! MEMORY: a cell's number and a place in it tell an int; a layout tells what a cell is -/
abbrev Mm : Type := Nat → Nat → Int32
abbrev Ev : Type := va_G × (Nat → ClassId) × Nat × (Nat → (Nat → Int32) → va_E) × (Nat → Nat)
abbrev eG (γ : Ev) : va_G := γ.1
abbrev eT (γ : Ev) : Nat → ClassId := γ.2.1
abbrev eN (γ : Ev) : Nat := γ.2.2.1
abbrev eK (γ : Ev) : Nat → (Nat → Int32) → va_E := γ.2.2.2.1
abbrev eA (γ : Ev) : Nat → Nat := γ.2.2.2.2
abbrev eTy (γ : Ev) : List (ClassId × FieldType) := [(eT γ 0, .int), (eT γ 1, .char), (eT γ 2, .object "TippingBeam$Beam")]
def wmk (γ : Ev) (μ : Mm) : va_W := (List.range (eN γ)).map (fun c => (eA γ c, eK γ c (μ c)))
def mset (μ : Mm) (c : Nat) (f : Nat → Int32) : Mm := fun j => if j = c then f else μ j
def st (n : Nat) (σ : Mm) (o : Nat) (B : Mm) : Mm := fun c => if o ≤ c ∧ c < o + n then B (c - o) else σ c
def dArr (cA : ClassId) (n : Nat) : (Nat → Int32) → va_E := fun f => .inl (cA, n, .inl f)
def AK (γ : Ev) : Nat → Prop := fun q => ∃ c, c < eN γ ∧ q = eA γ c
def dis (γ : Ev) : Prop := ∀ i j, i < eN γ → j < eN γ → eA γ i = eA γ j → i = j
def Wo (γ : Ev) (μ : Mm) (s : State) (H : Heap) (locs : List Loc) : Prop := va_P (eG γ) vwCl (wmk γ μ) H ∧ va_S (AK γ) s.heap H locs
def Wd (γ : Ev) (μ : Mm) (U : State) : Prop := va_P (eG γ) vwCl (wmk γ μ) U.heap ∧ va_K (eG γ) vwCl (eTy γ) U ∧ dis γ
theorem st_at {n i : Nat} {σ B : Mm} {o : Nat} (h : i < n) : st n σ o B (o + i) = B i := by
  unfold st
  rw [if_pos ⟨by omega, by omega⟩, Nat.add_sub_cancel_left]
theorem st_set {n i : Nat} {σ B : Mm} {o : Nat} {f : Nat → Int32} (h : i < n) : mset (st n σ o B) (o + i) f = st n σ o (mset B i f) := by
  funext c
  unfold mset st
  by_cases hc : c = o + i
  · subst hc
    rw [if_pos rfl, if_pos ⟨by omega, by omega⟩]
    dsimp only
    rw [if_pos (by omega)]
  · rw [if_neg hc]
    by_cases h2 : o ≤ c ∧ c < o + n
    · rw [if_pos h2, if_pos h2]
      dsimp only
      rw [if_neg (by omega)]
    · rw [if_neg h2, if_neg h2]
theorem st_out {n c : Nat} {σ B : Mm} {o : Nat} (h : c < o ∨ o + n ≤ c) : st n σ o B c = σ c := by
  unfold st
  rw [if_neg (by omega)]
theorem st_st {n : Nat} {σ B B' : Mm} {o : Nat} : st n (st n σ o B) o B' = st n σ o B' := by
  funext c
  unfold st
  by_cases h2 : o ≤ c ∧ c < o + n
  · rw [if_pos h2, if_pos h2]
  · rw [if_neg h2, if_neg h2, if_neg h2]
theorem st_self {n : Nat} {σ : Mm} {o : Nat} : st n σ o (fun i => σ (o + i)) = σ := by
  funext c
  unfold st
  by_cases h2 : o ≤ c ∧ c < o + n
  · rw [if_pos h2]
    show σ (o + (c - o)) = σ c
    rw [Nat.add_sub_cancel' h2.1]
  · rw [if_neg h2]
theorem wmk_at {γ : Ev} {μ : Mm} {c : Nat} {d : (Nat → Int32) → va_E} {f : Nat → Int32} (hc : c < eN γ ∧ eK γ c = d) (hm : μ c = f) : (wmk γ μ)[c]? = some (eA γ c, d f) := by
  unfold wmk
  rw [List.getElem?_map, List.getElem?_range hc.1]
  show some (eA γ c, eK γ c (μ c)) = _
  rw [hc.2, hm]
theorem wmk_len {γ : Ev} {μ : Mm} : (wmk γ μ).length = eN γ := by simp [wmk]
theorem wmk_inv {γ : Ev} {μ : Mm} {k : Nat} {q : Nat × va_E} (h : (wmk γ μ)[k]? = some q) : k < eN γ ∧ q.1 = eA γ k := by
  have hl : k < eN γ := by
    have := (List.getElem?_eq_some_iff.mp h).1
    rwa [wmk_len] at this
  rw [wmk_at ⟨hl, rfl⟩ rfl] at h
  cases h
  exact ⟨hl, rfl⟩
theorem wmk_set {γ : Ev} {μ : Mm} {c : Nat} {d : (Nat → Int32) → va_E} {f : Nat → Int32} (hc : c < eN γ ∧ eK γ c = d) : (wmk γ μ).set c (eA γ c, d f) = wmk γ (mset μ c f) := by
  apply List.ext_getElem?
  intro i
  rw [List.getElem?_set]
  by_cases hi : c = i
  · subst hi
    rw [if_pos rfl, if_pos (by rw [wmk_len]; exact hc.1), wmk_at (μ := mset μ c f) hc (show mset μ c f c = f by unfold mset; rw [if_pos rfl])]
  · rw [if_neg hi]
    by_cases hl : i < eN γ
    · rw [wmk_at (μ := μ) ⟨hl, rfl⟩ rfl, wmk_at (μ := mset μ c f) ⟨hl, rfl⟩ (show mset μ c f i = μ i by unfold mset; rw [if_neg (fun e => hi e.symm)])]
    · rw [List.getElem?_eq_none (by rw [wmk_len]; omega), List.getElem?_eq_none (by rw [wmk_len]; omega)]
theorem wmk_D {γ : Ev} {μ : Mm} (h : dis γ) : va_D (AK γ) (wmk γ μ) := by
  refine ⟨fun i j p q hi hj hpq => ?_, fun k q hk => ?_⟩
  · obtain ⟨a1, b1⟩ := wmk_inv hi
    obtain ⟨a2, b2⟩ := wmk_inv hj
    exact h i j a1 a2 (by rw [← b1, ← b2, hpq])
  · obtain ⟨a1, b1⟩ := wmk_inv hk
    exact ⟨k, a1, b1⟩
/-! rows read and written: nothing where the place isn't there -/
def rd (n : Nat) (f : Nat → Int32) (i : Int32) : Option Int32 := if i < 0 ∨ n ≤ i.toNatClampNeg then none else some (f i.toNatClampNeg)
def wr (n : Nat) (B : Mm) (c : Nat) (i x : Int32) : Option Mm := if i < 0 ∨ n ≤ i.toNatClampNeg then none else some (mset B c (upd (B c) i.toNatClampNeg x))
def pf (B : Mm) (c k : Nat) (x : Int32) : Option Mm := some (mset B c (upd (B c) k x))
def cpy (n0 n1 : Nat) (A : Mm) (ca : Nat) (B : Mm) (cb : Nat) (sp dp n : Int32) : Option Mm := if sp < 0 ∨ dp < 0 ∨ n < 0 ∨ n0 < sp.toNatClampNeg + n.toNatClampNeg ∨ n1 < dp.toNatClampNeg + n.toNatClampNeg then none else some (mset B cb (va_cpy (A ca) (B cb) sp.toNatClampNeg dp.toNatClampNeg n.toNatClampNeg))
def dvi (x y : Int32) : Option Int32 := if y = 0 then none else some (x / y)
def rmi (x y : Int32) : Option Int32 := if y = 0 then none else some (x - x / y * y)
def bo (x : Int32) : Option Int32 := if x = 0 ∨ x = 1 then some x else none
def jn {α β : Type} (f : α) (g : α → β) : β := g f
theorem ob {α β : Type} {o : Option α} {f : α → Option β} {z : β} (h : Option.bind o f = some z) : ∃ v, o = some v ∧ f v = some z := Option.bind_eq_some_iff.mp h
theorem ifp {c : Prop} {d : Decidable c} {α : Type} {a b z : α} (hc : c) (h : @ite α c d a b = z) : a = z := by rwa [if_pos hc] at h
theorem ifn {c : Prop} {d : Decidable c} {α : Type} {a b z : α} (hc : ¬ c) (h : @ite α c d a b = z) : b = z := by rwa [if_neg hc] at h
theorem rd_some {n : Nat} {f : Nat → Int32} {i v : Int32} (h : rd n f i = some v) : vp_in i n ∧ f i.toNatClampNeg = v := by
  unfold rd at h
  by_cases hc : i < 0 ∨ n ≤ i.toNatClampNeg
  · rw [if_pos hc] at h; cases h
  · rw [if_neg hc] at h; cases h; exact ⟨hc, rfl⟩
theorem wr_some {n : Nat} {B B1 : Mm} {c : Nat} {i x : Int32} (h : wr n B c i x = some B1) : vp_in i n ∧ mset B c (upd (B c) i.toNatClampNeg x) = B1 := by
  unfold wr at h
  by_cases hc : i < 0 ∨ n ≤ i.toNatClampNeg
  · rw [if_pos hc] at h; cases h
  · rw [if_neg hc] at h; cases h; exact ⟨hc, rfl⟩
theorem cpy_some {n0 n1 : Nat} {A : Mm} {ca : Nat} {B B1 : Mm} {cb : Nat} {sp dp n : Int32} (h : cpy n0 n1 A ca B cb sp dp n = some B1) : (¬ sp < 0 ∧ ¬ dp < 0 ∧ ¬ n < 0 ∧ sp.toNatClampNeg + n.toNatClampNeg ≤ n0 ∧ dp.toNatClampNeg + n.toNatClampNeg ≤ n1) ∧ mset B cb (va_cpy (A ca) (B cb) sp.toNatClampNeg dp.toNatClampNeg n.toNatClampNeg) = B1 := by
  unfold cpy at h
  by_cases hc : sp < 0 ∨ dp < 0 ∨ n < 0 ∨ n0 < sp.toNatClampNeg + n.toNatClampNeg ∨ n1 < dp.toNatClampNeg + n.toNatClampNeg
  · rw [if_pos hc] at h; cases h
  · rw [if_neg hc] at h; cases h
    simp only [not_or, Nat.not_lt] at hc
    exact ⟨hc, rfl⟩
theorem dvi_some {x y v : Int32} (h : dvi x y = some v) : ¬ y = 0 ∧ x / y = v := by
  unfold dvi at h
  by_cases hc : y = 0
  · rw [if_pos hc] at h; cases h
  · rw [if_neg hc] at h; cases h; exact ⟨hc, rfl⟩
theorem rmi_some {x y v : Int32} (h : rmi x y = some v) : ¬ y = 0 ∧ x - x / y * y = v := by
  unfold rmi at h
  by_cases hc : y = 0
  · rw [if_pos hc] at h; cases h
  · rw [if_neg hc] at h; cases h; exact ⟨hc, rfl⟩
theorem bo_some {x v : Int32} (h : bo x = some v) : (x = 0 ∨ x = 1) ∧ x = v := by
  unfold bo at h
  by_cases hc : x = 0 ∨ x = 1
  · rw [if_pos hc] at h; cases h; exact ⟨hc, rfl⟩
  · rw [if_neg hc] at h; cases h
theorem bo_narrow {x v : Int32} (h : bo x = some v) : narrow .boolean (.int v) = .int v := by
  obtain ⟨h1, rfl⟩ := bo_some h
  rcases h1 with rfl | rfl <;> rfl
/-! what holds all along a method's body -/
def Cx (p : Program) (R : Room) (s : State) (m : MethodId) (args : Array Value) (meth : Method) (c : Code) (own : String) (cc : ByteArray) (nL : Nat) (ret : Option FieldType) (fF fL : Nat) (γ : Ev) : Prop :=
  p.tables.exec = Jvm.exec ∧ c.code = cc ∧ meth.sig.returnType = ret ∧ c.maxLocals = nL ∧ s.vm.findClass own = some m.cls ∧ (∀ w ∈ wG, w.before args s = true) ∧ meth.locks = false ∧ va_K (eG γ) vwCl (eTy γ) s ∧ dis γ ∧ fF ≤ R.frames ∧ fL ≤ R.locals
def Qo (γ : Ev) (r : Option Value) (μ : Mm) : Array Value → State → Outcome → State → Prop := fun _ u oc t => oc = .returned r ∧ Wd γ μ t ∧ va_F (AK γ) u t
def Ct (l : Launch) (y : MethodName) (cc : ByteArray) (n : Nat) (ret : Option FieldType) (fF fL : Nat) (γ : Ev) (av : List Value) (μ : Mm) (r : Option Value) (μ' : Mm) : Prop :=
  Met l y (.code y cc n ret :: wG) { frames := fF, cells := 0, slots := 0, locals := fL } (va_Pc av (Wd γ μ)) (Qo γ r μ') 0 0 (AK γ)
set_option maxHeartbeats 4000000 in
theorem Ct.of {l : Launch} {y : MethodName} {cc : ByteArray} {n : Nat} {ret : Option FieldType} {fF fL : Nat} {γ : Ev} {av : List Value} {μ μ' : Mm} {r : Option Value} {own : String} (hy : plainName y.cls = true) (ho : y.cls = own) (hn : (lg_sl av).length ≤ n)
    (body : ∀ {p : Program} {e : Env} {R : Room} {s : State} {m : MethodId} {below : List Frame} {meth : Method} {c : Code}, Cx p R s m av.toArray meth c own cc n ret fF fL γ → Wo γ μ s s.heap [] → ∀ {ls : Array Slot}, lv_has ls n (lv_args 0 av) → W p l e R s m av.toArray below meth c s.heap [] 0 0 (MQ below (Qo γ r μ') av.toArray s 0 0 (AK γ)) (F0 m 0 ls [])) : Ct l y cc n ret fF fL γ av μ r μ' := by
  refine Met.ofW (cc := cc) (maxL := n) (ret := ret) hy rfl ?_
  intro p e s m args below meth c s₁ B hml hv
  obtain ⟨rfl, hP, hK, hD⟩ := hv
  have hts := atoms_spec (ws := .code y cc n ret :: wG) B.pre
  have hown : s.vm.findClass own = some m.cls := by rw [← ho]; exact findClass_of_methodNamed B.named
  have hl := lv_entry av (n := n) hn
  rw [lg_entry_eq]
  exact body ⟨B.exec, B.bytes, B.returns, hml, hown, fun w hw => hts w (List.mem_cons_of_mem _ hw), B.notSynchronized, hK, hD, Nat.le_refl _, Nat.le_refl _⟩ ⟨hP, va_S.rf⟩ hl
def LkV (own : String) (idx : Nat) (C : String) (y : MethodName) (cc : ByteArray) (n : Nat) (ret : Option FieldType) (np : Nat) : Prop :=
  y.cls = C ∧ (Cond.methodLink own idx y ∈ wG ∧ Cond.instanceMethod y ∈ wG ∧ Cond.selects C y y ∈ wG ∧ Cond.initialized C ∈ wG ∧ Cond.code y cc n ret ∈ wG) ∧ y.cls ≠ "java/lang/invoke/MethodHandle" ∧ y.cls ≠ "java/lang/invoke/VarHandle" ∧ (parseMethodDescriptor y.desc).map (fun d => d.parameters.length) = some np
def LkS (own : String) (idx : Nat) (y : MethodName) (cc : ByteArray) (n : Nat) (ret : Option FieldType) (np : Nat) : Prop :=
  (Cond.methodLink own idx y ∈ wG ∧ Cond.static y ∈ wG ∧ Cond.initialized y.cls ∈ wG ∧ Cond.code y cc n ret ∈ wG) ∧ y.cls ≠ "java/lang/invoke/MethodHandle" ∧ y.cls ≠ "java/lang/invoke/VarHandle" ∧ (parseMethodDescriptor y.desc).map (fun d => d.parameters.length) = some np
theorem Wd.blind {γ : Ev} {μ : Mm} {av : List Value} : FrameBlind (va_Pc av (Wd γ μ)) := by
  intro a U g mk q
  obtain ⟨q0, qP, qK, qD⟩ := q
  exact ⟨q0, qP, va_K.moved (u := U) (U := U.calling g mk a) (Vm.Alike.refl U.vm) qK, qD⟩
section RW
variable {p : Program} {l : Launch} {e : Env} {R : Room} {s : State} {m : MethodId} {args : Array Value} {below : List Frame} {meth : Method} {c : Code} {H : Heap} {locs : List Loc} {Q : State → Prop} {cc : ByteArray} {pc : Nat} {ls : Array Slot} {rest st0 : List Value} {γ : Ev} {μ μ' : Mm} {σ B B1 : Mm} {o N : Nat} {own : String} {nL fF fL : Nat} {ret : Option FieldType}
theorem r_iald (hx : p.tables.exec = Jvm.exec) (hb : c.code = cc) (hK : va_K (eG γ) vwCl (eTy γ) s) (hw : Wo γ μ s H locs) {k n : Nat} {f : Nat → Int32} (hc : k < eN γ ∧ eK γ k = dArr (eT γ 0) n) (hm : μ k = f) {i v : Int32} (hv : rd n f i = some v) (hdg : decode cc pc = .ok (.iaload, 1)) (kk : W p l e R s m args below meth c H locs 0 0 Q (F0 m (pc + 1) ls (.int v :: rest))) : W p l e R s m args below meth c H locs 0 0 Q (F0 m pc ls (.int i :: .ref (eA γ k) :: rest)) := by
  obtain ⟨h1, rfl⟩ := rd_some hv
  exact va_iald hx hb hK hw.1 k 0 (wmk_at hc hm) rfl h1 hdg kk
theorem r_cald (hx : p.tables.exec = Jvm.exec) (hb : c.code = cc) (hK : va_K (eG γ) vwCl (eTy γ) s) (hw : Wo γ μ s H locs) {k n : Nat} {f : Nat → Int32} (hc : k < eN γ ∧ eK γ k = dArr (eT γ 1) n) (hm : μ k = f) {i v : Int32} (hv : rd n f i = some v) (hdg : decode cc pc = .ok (.caload, 1)) (kk : W p l e R s m args below meth c H locs 0 0 Q (F0 m (pc + 1) ls (.int v :: rest))) : W p l e R s m args below meth c H locs 0 0 Q (F0 m pc ls (.int i :: .ref (eA γ k) :: rest)) := by
  obtain ⟨h1, rfl⟩ := rd_some hv
  exact va_cald hx hb hK hw.1 k 1 (wmk_at hc hm) rfl h1 hdg kk
theorem r_alen (hx : p.tables.exec = Jvm.exec) (hb : c.code = cc) (hK : va_K (eG γ) vwCl (eTy γ) s) (hw : Wo γ μ s H locs) {k n : Nat} (hc : k < eN γ ∧ eK γ k = dArr (eT γ 0) n) (v : Int32) (hv : Int32.ofNat n = v) (hdg : decode cc pc = .ok (.arraylength, 1)) (kk : W p l e R s m args below meth c H locs 0 0 Q (F0 m (pc + 1) ls (.int v :: rest))) : W p l e R s m args below meth c H locs 0 0 Q (F0 m pc ls (.ref (eA γ k) :: rest)) :=
  va_alen hx hb hK hw.1 k 0 (x := (n, .inl (μ k))) (wmk_at hc rfl) (ty := .int) rfl hv hdg kk
theorem r_alenC (hx : p.tables.exec = Jvm.exec) (hb : c.code = cc) (hK : va_K (eG γ) vwCl (eTy γ) s) (hw : Wo γ μ s H locs) {k n : Nat} (hc : k < eN γ ∧ eK γ k = dArr (eT γ 1) n) (v : Int32) (hv : Int32.ofNat n = v) (hdg : decode cc pc = .ok (.arraylength, 1)) (kk : W p l e R s m args below meth c H locs 0 0 Q (F0 m (pc + 1) ls (.int v :: rest))) : W p l e R s m args below meth c H locs 0 0 Q (F0 m pc ls (.ref (eA γ k) :: rest)) :=
  va_alen hx hb hK hw.1 k 1 (x := (n, .inl (μ k))) (wmk_at hc rfl) (ty := .char) rfl hv hdg kk
theorem r_iast (hx : p.tables.exec = Jvm.exec) (hb : c.code = cc) (hK : va_K (eG γ) vwCl (eTy γ) s) (hd : dis γ) (hw : Wo γ (st N σ o B) s H locs) {i n : Nat} (hi : i < N) (hc : o + i < eN γ ∧ eK γ (o + i) = dArr (eT γ 0) n) {j x : Int32} (hv : wr n B i j x = some B1) (hdg : decode cc pc = .ok (.iastore, 1)) (kk : ∀ {H1 : Heap} {locs1 : List Loc}, Wo γ (st N σ o B1) s H1 locs1 → W p l e R s m args below meth c H1 locs1 0 0 Q (F0 m (pc + 1) ls rest)) : W p l e R s m args below meth c H locs 0 0 Q (F0 m pc ls (.int x :: .int j :: .ref (eA γ (o + i)) :: rest)) := by
  obtain ⟨h1, rfl⟩ := wr_some hv
  refine va_iast hx hb hK hw.1 (wmk_D hd) hw.2 (o + i) 0 (wmk_at hc (st_at hi)) rfl h1 hdg (fun H1 locs1 a _ b => kk ⟨?_, b⟩)
  rw [← st_set hi, ← wmk_set hc]
  exact a
def wrc (n : Nat) (B : Mm) (c : Nat) (i x : Int32) : Option Mm := wr n B c i (vp_nar .char x)
theorem r_cast (hx : p.tables.exec = Jvm.exec) (hb : c.code = cc) (hK : va_K (eG γ) vwCl (eTy γ) s) (hd : dis γ) (hw : Wo γ (st N σ o B) s H locs) {i n : Nat} (hi : i < N) (hc : o + i < eN γ ∧ eK γ (o + i) = dArr (eT γ 1) n) {j x : Int32} (hv : wrc n B i j x = some B1) (hdg : decode cc pc = .ok (.castore, 1)) (kk : ∀ {H1 : Heap} {locs1 : List Loc}, Wo γ (st N σ o B1) s H1 locs1 → W p l e R s m args below meth c H1 locs1 0 0 Q (F0 m (pc + 1) ls rest)) : W p l e R s m args below meth c H locs 0 0 Q (F0 m pc ls (.int x :: .int j :: .ref (eA γ (o + i)) :: rest)) := by
  obtain ⟨h1, rfl⟩ := wr_some hv
  refine va_cast hx hb hK hw.1 (wmk_D hd) hw.2 (o + i) 1 (wmk_at hc (st_at hi)) rfl h1 hdg (fun H1 locs1 a _ b => kk ⟨?_, b⟩)
  rw [← st_set hi, ← wmk_set hc]
  exact a
theorem r_get (hx : p.tables.exec = Jvm.exec) (hb : c.code = cc) (hts : ∀ w ∈ wG, w.before args s = true) (hK : va_K (eG γ) vwCl (eTy γ) s) (hw : Wo γ μ s H locs) (hown : s.vm.findClass own = some m.cls) {C : String} {T : u_T} {M ci idx q : Nat} (hin : ∀ w ∈ u_ws C T M, w ∈ wG) (hcl : vwCl[ci]? = some (C, T, M)) {fl : (Nat → Int32) → List Value} (hc : q < eN γ ∧ eK γ q = fun f => .inr (ci, fl f)) {f : Nat → Int32} (hm : μ q = f) (k : Nat) (hk : k < M) (hlink : Cond.fieldLink own idx (T k).1 (T k).2.1 (T k).2.2.1 ∈ wG) {v : Value} (hv : (fl f)[k]? = some v) (hdg : decode cc pc = .ok (.getfield idx, 3))
    (kk : W p l e R s m args below meth c H locs 0 0 Q (F0 m (pc + 3) ls (v :: rest))) : W p l e R s m args below meth c H locs 0 0 Q (F0 m pc ls (.ref (eA γ q) :: rest)) :=
  va_get hx hb hts hin hown hK hw.1 q (wmk_at hc hm) hcl k hk (hts _ hlink) (fun _ h => h) hv hdg kk
theorem r_put (hx : p.tables.exec = Jvm.exec) (hb : c.code = cc) (hts : ∀ w ∈ wG, w.before args s = true) (hK : va_K (eG γ) vwCl (eTy γ) s) (hd : dis γ) (hw : Wo γ (st N σ o B) s H locs) (hown : s.vm.findClass own = some m.cls) {C : String} {T : u_T} {M ci idx : Nat} (hin : ∀ w ∈ u_ws C T M, w ∈ wG) (ty0 : Nat → FieldType) (hty : ∀ k, k < M → parseFieldDescriptor (T k).2.2.1 = some (ty0 k)) (hnm : ∀ a, a < M → ∀ b, b < M → a ≠ b → (T a).2.1 ≠ (T b).2.1) (hcl : vwCl[ci]? = some (C, T, M)) {fl : (Nat → Int32) → List Value} (h0 : 0 < N) (hc : o < eN γ ∧ eK γ o = fun f => .inr (ci, fl f)) (k : Nat) (hk : k < M) (hlink : Cond.fieldLink own idx (T k).1 (T k).2.1 (T k).2.2.1 ∈ wG) (hfin : (T k).2.2.2 = false) {ty : FieldType} (htk : ty0 k = ty) {x : Int32} (hn : narrow ty (.int x) = .int x) (hfit : fits ty (.int x) = true) (hl : ∀ f, k < (fl f).length) (hset : ∀ f, (fl f).set k (.int x) = fl (upd f k x)) (hv : pf B 0 k x = some B1) (hdg : decode cc pc = .ok (.putfield idx, 3))
    (kk : ∀ {H1 : Heap} {locs1 : List Loc}, Wo γ (st N σ o B1) s H1 locs1 → W p l e R s m args below meth c H1 locs1 0 0 Q (F0 m (pc + 3) ls rest)) : W p l e R s m args below meth c H locs 0 0 Q (F0 m pc ls (.int x :: .ref (eA γ o) :: rest)) := by
  cases hv
  have hc0 : o + 0 < eN γ ∧ eK γ (o + 0) = fun f => .inr (ci, fl f) := hc
  refine va_put hx hb hts hin ty0 hty hnm hown hK hw.1 (wmk_D hd) hw.2 (o + 0) (wmk_at hc0 (st_at h0)) hcl k hk (hts _ hlink) (fun _ h => h) hfin (by rw [hty k hk, htk]) hn hfit (hl _) hdg (fun H1 locs1 a _ b => kk ⟨?_, b⟩)
  rw [← st_set h0, ← wmk_set hc0]
  rw [hset] at a
  exact a
theorem r_iret (hx : p.tables.exec = Jvm.exec) (hb : c.code = cc) (hr : meth.sig.returnType = some .int) (hlk : meth.locks = false) (hK : va_K (eG γ) vwCl (eTy γ) s) (hd : dis γ) (hw : Wo γ μ s H locs) {v : Int32} (hdg : decode cc pc = .ok (.ireturn, 1)) : W p l e R s m args below meth c H locs 0 0 (MQ below (Qo γ (some (.int v)) μ) args s 0 0 (AK γ)) (F0 m pc ls [.int v]) :=
  W.iret hx hb hr (fun t ht hW => ⟨rfl, ⟨by rw [ht]; exact hw.1, va_K.moved hW.alike hK, hd⟩, hw.2.F ht⟩) hw.2.2.2 hdg hlk
theorem r_zret (hx : p.tables.exec = Jvm.exec) (hb : c.code = cc) (hr : meth.sig.returnType = some .boolean) (hlk : meth.locks = false) (hK : va_K (eG γ) vwCl (eTy γ) s) (hd : dis γ) (hw : Wo γ μ s H locs) {v : Int32} (hn : narrow .boolean (.int v) = .int v) (hdg : decode cc pc = .ok (.ireturn, 1)) : W p l e R s m args below meth c H locs 0 0 (MQ below (Qo γ (some (.int v)) μ) args s 0 0 (AK γ)) (F0 m pc ls [.int v]) :=
  W.zret hx hb hr hn (fun t ht hW => ⟨rfl, ⟨by rw [ht]; exact hw.1, va_K.moved hW.alike hK, hd⟩, hw.2.F ht⟩) hw.2.2.2 hdg hlk
theorem r_vret (hx : p.tables.exec = Jvm.exec) (hb : c.code = cc) (hr : meth.sig.returnType = none) (hlk : meth.locks = false) (hK : va_K (eG γ) vwCl (eTy γ) s) (hd : dis γ) (hw : Wo γ μ s H locs) (hdg : decode cc pc = .ok (.return_, 1)) : W p l e R s m args below meth c H locs 0 0 (MQ below (Qo γ none μ) args s 0 0 (AK γ)) (F0 m pc ls []) :=
  W.vret hx hb hr (fun t ht hW => ⟨rfl, ⟨by rw [ht]; exact hw.1, va_K.moved hW.alike hK, hd⟩, hw.2.F ht⟩) hw.2.2.2 hdg hlk
theorem r_run {r : Option Value} {a : Array Value} (hr : va_Run p l e R s m args below meth c H locs 0 0 0 0 (F0 m pc ls st0) rest (Qo γ r μ' a) (AK γ)) (hw : Wo γ μ s H locs)
    (kk : ∀ {H1 : Heap} {locs1 : List Loc}, Wo γ μ' s H1 locs1 → W p l e R s m args below meth c H1 locs1 0 0 Q (F0 m (pc + 3) ls (r.toList ++ rest))) : W p l e R s m args below meth c H locs 0 0 Q (F0 m pc ls st0) := by
  intro T hT X
  obtain ⟨v, st₀, t, T', L, h0, X', hL, e1, e2, ⟨hv, ⟨hP1, hK1, hd1⟩, hz, hk⟩, stp⟩ := hr T hT X
  cases hv
  rw [h0] at hz hk
  have hS := hw.2
  obtain ⟨t2, a1, b1⟩ := kk (H1 := T'.heap) (locs1 := locs ++ L) ⟨by rw [e1]; exact hP1, Nat.le_trans hS.1 (by rw [e1]; exact hz), fun q h1 h2 => by rw [e1, hk q (Nat.lt_of_lt_of_le h1 hS.1) h2]; exact hS.2.1 q h1 h2, fun q hq => by
      rcases List.mem_append.mp hq with h | h
      · exact hS.2.2 q h
      · exact hL q h⟩ T' rfl X'
  exact ⟨t2, stp t2 a1, b1⟩
theorem r_V {y : MethodName} {cy : ByteArray} {ny fy ly idx : Nat} {ry : Option FieldType} {b : Nat} {As : List Value} {r : Option Value} {C : String} (C0 : Cx p R s m args meth c own cc nL ret fF fL γ) (hM : Ct l y cy ny ry fy ly γ (.ref b :: As) μ r μ') (lk : LkV own idx C y cy ny ry As.length) {q ci M : Nat} {T : u_T} {fl : (Nat → Int32) → List Value} (hc : q < eN γ ∧ eK γ q = fun f => .inr (ci, fl f)) (hcl : vwCl[ci]? = some (C, T, M)) (hbq : b = eA γ q) (hls : ls.size = nL) (hst : st0 = As.reverse ++ .ref b :: rest) (hW : (rest.map fun v => v.category).sum ≤ 8) (hroom : fy + 1 ≤ fF ∧ 8 + (ny + 11) + ly ≤ fL) (hw : Wo γ μ s H locs) (hdg : decode cc pc = .ok (.invokevirtual idx, 3))
    (kk : ∀ {H1 : Heap} {locs1 : List Loc}, Wo γ μ' s H1 locs1 → W p l e R s m args below meth c H1 locs1 0 0 Q (F0 m (pc + 3) ls (r.toList ++ rest))) : W p l e R s m args below meth c H locs 0 0 Q (F0 m pc ls st0) := by
  obtain ⟨hx, hb, hr, hml, hown, hts, hlk, hK, hd, hF, hL⟩ := C0
  obtain ⟨hC, ⟨w1, w2, w3, w4, w5⟩, hd1, hd2, hd3⟩ := lk
  subst hbq
  subst hC
  have cw := cwV (R := R) (rm := { frames := fy, cells := 0, slots := 0, locals := ly }) (mc := 0) (ms := 0) (ws := .code y cy ny ry :: wG) (own := own) (index := idx) (C := y.cls) As.length hts (G_in (fun w hw => by
    unfold wsV at hw
    simp only [List.cons_append, List.nil_append, List.mem_cons] at hw
    rcases hw with rfl | rfl | rfl | rfl | rfl | h
    · exact w1
    · exact w2
    · exact w3
    · exact w4
    · exact w5
    · exact h)) rfl rfl rfl ⟨rfl, hd1, hd2, hd3⟩ ⟨Nat.le_trans hroom.1 hF, Nat.le_trans hroom.2 hL⟩
  refine r_run (va_runV (As := As) (rest := rest) ⟨hx, hb, hml, hown, hts⟩ hM cw ⟨Wd.blind, va_recv hK hw.1 hcl (wmk_at hc rfl), fun U hU hWU => ⟨rfl, by rw [hU]; exact hw.1, va_K.moved hWU.alike hK, hd⟩⟩ rfl rfl hls hst (lv_room hW) hdg ⟨Nat.zero_le _, Nat.zero_le _⟩) hw kk
theorem r_S {y : MethodName} {cy : ByteArray} {ny fy ly idx : Nat} {ry : Option FieldType} {As : List Value} {r : Option Value} (C0 : Cx p R s m args meth c own cc nL ret fF fL γ) (hM : Ct l y cy ny ry fy ly γ As μ r μ') (lk : LkS own idx y cy ny ry As.length) (hls : ls.size = nL) (hst : st0 = As.reverse ++ rest) (hW : (rest.map fun v => v.category).sum ≤ 8) (hroom : fy + 1 ≤ fF ∧ 8 + (ny + 11) + ly ≤ fL) (hw : Wo γ μ s H locs) (hdg : decode cc pc = .ok (.invokestatic idx, 3))
    (kk : ∀ {H1 : Heap} {locs1 : List Loc}, Wo γ μ' s H1 locs1 → W p l e R s m args below meth c H1 locs1 0 0 Q (F0 m (pc + 3) ls (r.toList ++ rest))) : W p l e R s m args below meth c H locs 0 0 Q (F0 m pc ls st0) := by
  obtain ⟨hx, hb, hr, hml, hown, hts, hlk, hK, hd, hF, hL⟩ := C0
  obtain ⟨⟨w1, w2, w4, w5⟩, hd1, hd2, hd3⟩ := lk
  have cw := va_cwS (R := R) (rm := { frames := fy, cells := 0, slots := 0, locals := ly }) (mc := 0) (ms := 0) (ws := .code y cy ny ry :: wG) (own := own) (index := idx) As.length hts (G_in (fun w hw => by
    unfold va_wsS at hw
    simp only [List.cons_append, List.nil_append, List.mem_cons] at hw
    rcases hw with rfl | rfl | rfl | rfl | h
    · exact w1
    · exact w2
    · exact w4
    · exact w5
    · exact h)) rfl rfl rfl ⟨hd1, hd2, hd3⟩ ⟨Nat.le_trans hroom.1 hF, Nat.le_trans hroom.2 hL⟩
  refine r_run (va_runS (As := As) (rest := rest) ⟨hx, hb, hml, hown, hts⟩ hM cw ⟨Wd.blind, fun U hU hWU => ⟨rfl, by rw [hU]; exact hw.1, va_K.moved hWU.alike hK, hd⟩⟩ rfl rfl hls hst (lv_room hW) hdg ⟨Nat.zero_le _, Nat.zero_le _⟩) hw kk
theorem r_Vi {y : MethodName} {cy : ByteArray} {ny fy ly idx : Nat} {ry : Option FieldType} {b : Nat} {As : List Value} {r : Int32} {C : String} (C0 : Cx p R s m args meth c own cc nL ret fF fL γ) (hM : Ct l y cy ny ry fy ly γ (.ref b :: As) μ (some (.int r)) μ') (lk : LkV own idx C y cy ny ry As.length) {q ci M : Nat} {T : u_T} {fl : (Nat → Int32) → List Value} (hc : q < eN γ ∧ eK γ q = fun f => .inr (ci, fl f)) (hcl : vwCl[ci]? = some (C, T, M)) (hbq : b = eA γ q) (hls : ls.size = nL) (hst : st0 = As.reverse ++ .ref b :: rest) (hW : (rest.map fun v => v.category).sum ≤ 8) (hroom : fy + 1 ≤ fF ∧ 8 + (ny + 11) + ly ≤ fL) (hw : Wo γ μ s H locs) (hdg : decode cc pc = .ok (.invokevirtual idx, 3))
    (kk : ∀ {H1 : Heap} {locs1 : List Loc}, Wo γ μ' s H1 locs1 → W p l e R s m args below meth c H1 locs1 0 0 Q (F0 m (pc + 3) ls (.int r :: rest))) : W p l e R s m args below meth c H locs 0 0 Q (F0 m pc ls st0) :=
  r_V C0 hM lk hc hcl hbq hls hst hW hroom hw hdg kk
theorem r_Vv {y : MethodName} {cy : ByteArray} {ny fy ly idx : Nat} {ry : Option FieldType} {b : Nat} {As : List Value} {C : String} (C0 : Cx p R s m args meth c own cc nL ret fF fL γ) (hM : Ct l y cy ny ry fy ly γ (.ref b :: As) μ none μ') (lk : LkV own idx C y cy ny ry As.length) {q ci M : Nat} {T : u_T} {fl : (Nat → Int32) → List Value} (hc : q < eN γ ∧ eK γ q = fun f => .inr (ci, fl f)) (hcl : vwCl[ci]? = some (C, T, M)) (hbq : b = eA γ q) (hls : ls.size = nL) (hst : st0 = As.reverse ++ .ref b :: rest) (hW : (rest.map fun v => v.category).sum ≤ 8) (hroom : fy + 1 ≤ fF ∧ 8 + (ny + 11) + ly ≤ fL) (hw : Wo γ μ s H locs) (hdg : decode cc pc = .ok (.invokevirtual idx, 3))
    (kk : ∀ {H1 : Heap} {locs1 : List Loc}, Wo γ μ' s H1 locs1 → W p l e R s m args below meth c H1 locs1 0 0 Q (F0 m (pc + 3) ls rest)) : W p l e R s m args below meth c H locs 0 0 Q (F0 m pc ls st0) :=
  r_V C0 hM lk hc hcl hbq hls hst hW hroom hw hdg kk
theorem r_Si {y : MethodName} {cy : ByteArray} {ny fy ly idx : Nat} {ry : Option FieldType} {As : List Value} {r : Int32} (C0 : Cx p R s m args meth c own cc nL ret fF fL γ) (hM : Ct l y cy ny ry fy ly γ As μ (some (.int r)) μ') (lk : LkS own idx y cy ny ry As.length) (hls : ls.size = nL) (hst : st0 = As.reverse ++ rest) (hW : (rest.map fun v => v.category).sum ≤ 8) (hroom : fy + 1 ≤ fF ∧ 8 + (ny + 11) + ly ≤ fL) (hw : Wo γ μ s H locs) (hdg : decode cc pc = .ok (.invokestatic idx, 3))
    (kk : ∀ {H1 : Heap} {locs1 : List Loc}, Wo γ μ' s H1 locs1 → W p l e R s m args below meth c H1 locs1 0 0 Q (F0 m (pc + 3) ls (.int r :: rest))) : W p l e R s m args below meth c H locs 0 0 Q (F0 m pc ls st0) :=
  r_S C0 hM lk hls hst hW hroom hw hdg kk
/-! Math.abs, Math.max, arraycopy -/
def iabs (x : Int32) : Int32 := if 0 ≤ x then x else 0 - x
def imax (x y : Int32) : Int32 := if x < y then y else x
def LkJ (own : String) (idx : Nat) (y : MethodName) (cy : ByteArray) (n : Nat) (cls : String) : Prop := Cond.methodLink own idx y ∈ wG ∧ Cond.static y ∈ wG ∧ Cond.initialized cls ∈ wG ∧ Cond.code y cy n (some .int) ∈ wG
theorem r_abs (C0 : Cx p R s m args meth c own cc nL ret fF fL γ) {idx : Nat} (lk : LkJ own idx Lib.Math.abs.name Lib.Math.abs.code 1 "java/lang/Math") (hls : ls.size = nL) (hW : (rest.map fun v => v.category).sum ≤ 8) (hroom : 1 ≤ fF ∧ 21 ≤ fL) {x : Int32} (hdg : decode cc pc = .ok (.invokestatic idx, 3))
    (kk : W p l e R s m args below meth c H locs 0 0 Q (F0 m (pc + 3) ls (.int (iabs x) :: rest))) : W p l e R s m args below meth c H locs 0 0 Q (F0 m pc ls (.int x :: rest)) := by
  obtain ⟨hx, hb, hr, hml, hown, hts, hlk, hK, hd, hF, hL⟩ := C0
  obtain ⟨w1, w2, w3, w4⟩ := lk
  exact va_mabs hx hb (hml.trans hls.symm) hown (hts _ w1) (hts _ w2) (hts _ w3) (hts _ w4) (Nat.le_trans hroom.1 hF) (by omega) (Nat.zero_le _) (Nat.zero_le _) hdg kk
theorem r_max (C0 : Cx p R s m args meth c own cc nL ret fF fL γ) {idx : Nat} (lk : LkJ own idx Lib.Math.max.name Lib.Math.max.code 2 "java/lang/Math") (hls : ls.size = nL) (hW : (rest.map fun v => v.category).sum ≤ 8) (hroom : 1 ≤ fF ∧ 21 ≤ fL) {x y : Int32} (hdg : decode cc pc = .ok (.invokestatic idx, 3))
    (kk : W p l e R s m args below meth c H locs 0 0 Q (F0 m (pc + 3) ls (.int (imax x y) :: rest))) : W p l e R s m args below meth c H locs 0 0 Q (F0 m pc ls (.int y :: .int x :: rest)) := by
  obtain ⟨hx, hb, hr, hml, hown, hts, hlk, hK, hd, hF, hL⟩ := C0
  obtain ⟨w1, w2, w3, w4⟩ := lk
  exact va_mmax hx hb (hml.trans hls.symm) hown (hts _ w1) (hts _ w2) (hts _ w3) (hts _ w4) (Nat.le_trans hroom.1 hF) (by omega) (Nat.zero_le _) (Nat.zero_le _) hdg kk
def LkC (own : String) (idx : Nat) : Prop := Cond.methodLink own idx arraycopyName ∈ wG ∧ Cond.native arraycopyName ∈ wG ∧ Cond.static arraycopyName ∈ wG ∧ Cond.initialized "java/lang/System" ∈ wG
theorem copy_room : nativeFrameWords "java/lang/System" "arraycopy" 5 + 11 ≤ 60 := by decide +kernel
theorem r_copy (C0 : Cx p R s m args meth c own cc nL ret fF fL γ) {idx : Nat} (lk : LkC own idx) (hls : ls.size = nL) (hW : (rest.map fun v => v.category).sum ≤ 8) (hroom : 1 ≤ fF ∧ 68 ≤ fL) (hw : Wo γ (st N σ o B) s H locs) {i n1 k n0 ca : Nat} {A : Mm} (hc0 : k < eN γ ∧ eK γ k = dArr (eT γ 0) n0) (hm0 : st N σ o B k = A ca) (hi : i < N) (hc1 : o + i < eN γ ∧ eK γ (o + i) = dArr (eT γ 0) n1) {sp dp n : Int32} (hv : cpy n0 n1 A ca B i sp dp n = some B1) (hdg : decode cc pc = .ok (.invokestatic idx, 3))
    (kk : ∀ {H1 : Heap} {locs1 : List Loc}, Wo γ (st N σ o B1) s H1 locs1 → W p l e R s m args below meth c H1 locs1 0 0 Q (F0 m (pc + 3) ls rest)) : W p l e R s m args below meth c H locs 0 0 Q (F0 m pc ls (.int n :: .int dp :: .ref (eA γ (o + i)) :: .int sp :: .ref (eA γ k) :: rest)) := by
  obtain ⟨hx, hb, hr, hml, hown, hts, hlk, hK, hd, hF, hL⟩ := C0
  obtain ⟨w1, w2, w3, w4⟩ := lk
  obtain ⟨⟨g1, g2, g3, g4, g5⟩, rfl⟩ := cpy_some hv
  have hcr := copy_room
  refine va_copyi hx hb (hml.trans hls.symm) hown (hts _ w1) (hts _ w2) (hts _ w3) (hts _ w4) hK hw.1 (wmk_D hd) hw.2 k (o + i) 0 0 (wmk_at hc0 hm0) (wmk_at hc1 (st_at hi)) rfl rfl rfl g1 g2 g3 g4 g5 (fun _ _ => rfl) (Nat.le_trans hroom.1 hF) (by omega) hdg (fun H1 locs1 a _ b => kk ⟨?_, b⟩)
  rw [← st_set hi, ← wmk_set hc1]
  exact a
end RW
end
