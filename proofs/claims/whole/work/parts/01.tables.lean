-- ===== PART A: goes FIRST, ahead of the names: the tables' words, and 'selects' of the private methods out of them =====
/-- a private method of a class that the tables say can be made, by its rows of tables_1 -/
def lw_okq (q : MethodName × Nat) : Prop := (q.1.cls ≠ "java/lang/invoke/MethodHandle" ∧ q.1.cls ≠ "java/lang/invoke/VarHandle") ∧ Cond.instantiable q.1.cls q.2 ∈ tables_1 ∧ Cond.privateMethod q.1 ∈ tables_1 ∧ Cond.instanceMethod q.1 ∈ tables_1
theorem lw_p0 : lw_okq (⟨"LadderSigns$Curve", "complete", "(LLadderSigns$Point;)V"⟩, 14) := ⟨⟨by decide +kernel, by decide +kernel⟩, List.mem_of_getElem? (i := 98) (by decide +kernel), List.mem_of_getElem? (i := 147) (by decide +kernel), List.mem_of_getElem? (i := 148) (by decide +kernel)⟩
theorem lw_p1 : lw_okq (⟨"LadderSigns$FieldNumbers", "fold", "([J)V"⟩, 8) := ⟨⟨by decide +kernel, by decide +kernel⟩, List.mem_of_getElem? (i := 42) (by decide +kernel), List.mem_of_getElem? (i := 155) (by decide +kernel), List.mem_of_getElem? (i := 156) (by decide +kernel)⟩
theorem lw_p2 : lw_okq (⟨"LadderSigns$FieldNumbers", "carry", "([J)V"⟩, 8) := ⟨⟨by decide +kernel, by decide +kernel⟩, List.mem_of_getElem? (i := 42) (by decide +kernel), List.mem_of_getElem? (i := 160) (by decide +kernel), List.mem_of_getElem? (i := 161) (by decide +kernel)⟩
theorem lw_p3 : lw_okq (⟨"LadderSigns$FieldNumbers", "makeExact", "([J)V"⟩, 8) := ⟨⟨by decide +kernel, by decide +kernel⟩, List.mem_of_getElem? (i := 42) (by decide +kernel), List.mem_of_getElem? (i := 428) (by decide +kernel), List.mem_of_getElem? (i := 429) (by decide +kernel)⟩
theorem lw_p4 : lw_okq (⟨"LadderSigns", "combine", "(I)V"⟩, 17) := ⟨⟨by decide +kernel, by decide +kernel⟩, List.mem_of_getElem? (i := 15) (by decide +kernel), List.mem_of_getElem? (i := 440) (by decide +kernel), List.mem_of_getElem? (i := 441) (by decide +kernel)⟩
theorem lw_p5 : lw_okq (⟨"LadderSigns$Curve", "becomeNeutral", "(LLadderSigns$Point;)V"⟩, 14) := ⟨⟨by decide +kernel, by decide +kernel⟩, List.mem_of_getElem? (i := 98) (by decide +kernel), List.mem_of_getElem? (i := 606) (by decide +kernel), List.mem_of_getElem? (i := 607) (by decide +kernel)⟩
theorem lw_p6 : lw_okq (⟨"LadderSigns$Ladder", "step", "([J[J[J[J[J)V"⟩, 11) := ⟨⟨by decide +kernel, by decide +kernel⟩, List.mem_of_getElem? (i := 210) (by decide +kernel), List.mem_of_getElem? (i := 656) (by decide +kernel), List.mem_of_getElem? (i := 657) (by decide +kernel)⟩
theorem lw_p7 : lw_okq (⟨"LadderSigns$Sha512", "takeByte", "(I)V"⟩, 4) := ⟨⟨by decide +kernel, by decide +kernel⟩, List.mem_of_getElem? (i := 250) (by decide +kernel), List.mem_of_getElem? (i := 686) (by decide +kernel), List.mem_of_getElem? (i := 687) (by decide +kernel)⟩
theorem lw_p8 : lw_okq (⟨"LadderSigns$Sha512", "pad", "(I)V"⟩, 4) := ⟨⟨by decide +kernel, by decide +kernel⟩, List.mem_of_getElem? (i := 250) (by decide +kernel), List.mem_of_getElem? (i := 694) (by decide +kernel), List.mem_of_getElem? (i := 695) (by decide +kernel)⟩
theorem lw_p9 : lw_okq (⟨"LadderSigns$Sha512", "fillSchedule", "(I)V"⟩, 4) := ⟨⟨by decide +kernel, by decide +kernel⟩, List.mem_of_getElem? (i := 250) (by decide +kernel), List.mem_of_getElem? (i := 701) (by decide +kernel), List.mem_of_getElem? (i := 702) (by decide +kernel)⟩
theorem lw_p10 : lw_okq (⟨"LadderSigns$Sha512", "mix", "()V"⟩, 4) := ⟨⟨by decide +kernel, by decide +kernel⟩, List.mem_of_getElem? (i := 250) (by decide +kernel), List.mem_of_getElem? (i := 708) (by decide +kernel), List.mem_of_getElem? (i := 709) (by decide +kernel)⟩
theorem lw_p11 : lw_okq (⟨"LadderSigns$Signer", "unfold", "([J)V"⟩, 12) := ⟨⟨by decide +kernel, by decide +kernel⟩, List.mem_of_getElem? (i := 269) (by decide +kernel), List.mem_of_getElem? (i := 728) (by decide +kernel), List.mem_of_getElem? (i := 729) (by decide +kernel)⟩
theorem lw_p12 : lw_okq (⟨"LadderSigns$Signer", "findChallenge", "([J[JLLadderSigns$Text;)V"⟩, 12) := ⟨⟨by decide +kernel, by decide +kernel⟩, List.mem_of_getElem? (i := 269) (by decide +kernel), List.mem_of_getElem? (i := 752) (by decide +kernel), List.mem_of_getElem? (i := 753) (by decide +kernel)⟩
theorem lw_p13 : lw_okq (⟨"LadderSignsModel", "words", "(IJJJJ)V"⟩, 23) := ⟨⟨by decide +kernel, by decide +kernel⟩, List.mem_of_getElem? (i := 775) (by decide +kernel), List.mem_of_getElem? (i := 784) (by decide +kernel), List.mem_of_getElem? (i := 785) (by decide +kernel)⟩
theorem lw_p14 : lw_okq (⟨"LadderSignsModel", "put", "(IJ)V"⟩, 23) := ⟨⟨by decide +kernel, by decide +kernel⟩, List.mem_of_getElem? (i := 775) (by decide +kernel), List.mem_of_getElem? (i := 791) (by decide +kernel), List.mem_of_getElem? (i := 792) (by decide +kernel)⟩
theorem lw_p15 : lw_okq (⟨"LadderSignsModel", "raise", "(III)V"⟩, 23) := ⟨⟨by decide +kernel, by decide +kernel⟩, List.mem_of_getElem? (i := 775) (by decide +kernel), List.mem_of_getElem? (i := 799) (by decide +kernel), List.mem_of_getElem? (i := 800) (by decide +kernel)⟩
def lw_privs_1 : List (MethodName × Nat) := [(⟨"LadderSigns$Curve", "complete", "(LLadderSigns$Point;)V"⟩, 14), (⟨"LadderSigns$FieldNumbers", "fold", "([J)V"⟩, 8), (⟨"LadderSigns$FieldNumbers", "carry", "([J)V"⟩, 8), (⟨"LadderSigns$FieldNumbers", "makeExact", "([J)V"⟩, 8), (⟨"LadderSigns", "combine", "(I)V"⟩, 17), (⟨"LadderSigns$Curve", "becomeNeutral", "(LLadderSigns$Point;)V"⟩, 14), (⟨"LadderSigns$Ladder", "step", "([J[J[J[J[J)V"⟩, 11), (⟨"LadderSigns$Sha512", "takeByte", "(I)V"⟩, 4), (⟨"LadderSigns$Sha512", "pad", "(I)V"⟩, 4), (⟨"LadderSigns$Sha512", "fillSchedule", "(I)V"⟩, 4), (⟨"LadderSigns$Sha512", "mix", "()V"⟩, 4), (⟨"LadderSigns$Signer", "unfold", "([J)V"⟩, 12), (⟨"LadderSigns$Signer", "findChallenge", "([J[JLLadderSigns$Text;)V"⟩, 12), (⟨"LadderSignsModel", "words", "(IJJJJ)V"⟩, 23), (⟨"LadderSignsModel", "put", "(IJ)V"⟩, 23), (⟨"LadderSignsModel", "raise", "(III)V"⟩, 23)]
theorem lw_r1 : ∀ q ∈ lw_privs_1, lw_okq q := List.forall_mem_cons.mpr ⟨lw_p0, List.forall_mem_cons.mpr ⟨lw_p1, List.forall_mem_cons.mpr ⟨lw_p2, List.forall_mem_cons.mpr ⟨lw_p3, List.forall_mem_cons.mpr ⟨lw_p4, List.forall_mem_cons.mpr ⟨lw_p5, List.forall_mem_cons.mpr ⟨lw_p6, List.forall_mem_cons.mpr ⟨lw_p7, List.forall_mem_cons.mpr ⟨lw_p8, List.forall_mem_cons.mpr ⟨lw_p9, List.forall_mem_cons.mpr ⟨lw_p10, List.forall_mem_cons.mpr ⟨lw_p11, List.forall_mem_cons.mpr ⟨lw_p12, List.forall_mem_cons.mpr ⟨lw_p13, List.forall_mem_cons.mpr ⟨lw_p14, List.forall_mem_cons.mpr ⟨lw_p15, fun _ h => absurd h List.not_mem_nil⟩⟩⟩⟩⟩⟩⟩⟩⟩⟩⟩⟩⟩⟩⟩⟩
theorem lw_p16 : lw_okq (⟨"LadderSignsModel", "copyOf", "(II)V"⟩, 23) := ⟨⟨by decide +kernel, by decide +kernel⟩, List.mem_of_getElem? (i := 775) (by decide +kernel), List.mem_of_getElem? (i := 803) (by decide +kernel), List.mem_of_getElem? (i := 804) (by decide +kernel)⟩
theorem lw_p17 : lw_okq (⟨"LadderSignsModel", "multiply", "(III)V"⟩, 23) := ⟨⟨by decide +kernel, by decide +kernel⟩, List.mem_of_getElem? (i := 775) (by decide +kernel), List.mem_of_getElem? (i := 807) (by decide +kernel), List.mem_of_getElem? (i := 808) (by decide +kernel)⟩
theorem lw_p18 : lw_okq (⟨"LadderSignsModel", "reduce", "(I)V"⟩, 23) := ⟨⟨by decide +kernel, by decide +kernel⟩, List.mem_of_getElem? (i := 775) (by decide +kernel), List.mem_of_getElem? (i := 812) (by decide +kernel), List.mem_of_getElem? (i := 813) (by decide +kernel)⟩
theorem lw_p19 : lw_okq (⟨"LadderSignsModel", "bit", "(II)I"⟩, 23) := ⟨⟨by decide +kernel, by decide +kernel⟩, List.mem_of_getElem? (i := 775) (by decide +kernel), List.mem_of_getElem? (i := 816) (by decide +kernel), List.mem_of_getElem? (i := 817) (by decide +kernel)⟩
theorem lw_p20 : lw_okq (⟨"LadderSignsModel", "subtract", "(III)V"⟩, 23) := ⟨⟨by decide +kernel, by decide +kernel⟩, List.mem_of_getElem? (i := 775) (by decide +kernel), List.mem_of_getElem? (i := 821) (by decide +kernel), List.mem_of_getElem? (i := 822) (by decide +kernel)⟩
theorem lw_p21 : lw_okq (⟨"LadderSignsModel", "invert", "(II)V"⟩, 23) := ⟨⟨by decide +kernel, by decide +kernel⟩, List.mem_of_getElem? (i := 775) (by decide +kernel), List.mem_of_getElem? (i := 826) (by decide +kernel), List.mem_of_getElem? (i := 827) (by decide +kernel)⟩
theorem lw_p22 : lw_okq (⟨"LadderSignsModel", "add", "(III)V"⟩, 23) := ⟨⟨by decide +kernel, by decide +kernel⟩, List.mem_of_getElem? (i := 775) (by decide +kernel), List.mem_of_getElem? (i := 831) (by decide +kernel), List.mem_of_getElem? (i := 832) (by decide +kernel)⟩
theorem lw_p23 : lw_okq (⟨"LadderSignsModel", "pack", "(II)V"⟩, 23) := ⟨⟨by decide +kernel, by decide +kernel⟩, List.mem_of_getElem? (i := 775) (by decide +kernel), List.mem_of_getElem? (i := 837) (by decide +kernel), List.mem_of_getElem? (i := 838) (by decide +kernel)⟩
theorem lw_p24 : lw_okq (⟨"LadderSignsModel", "lessPrime", "()V"⟩, 23) := ⟨⟨by decide +kernel, by decide +kernel⟩, List.mem_of_getElem? (i := 775) (by decide +kernel), List.mem_of_getElem? (i := 841) (by decide +kernel), List.mem_of_getElem? (i := 842) (by decide +kernel)⟩
theorem lw_p25 : lw_okq (⟨"LadderSignsModel", "open", "(II)Z"⟩, 23) := ⟨⟨by decide +kernel, by decide +kernel⟩, List.mem_of_getElem? (i := 775) (by decide +kernel), List.mem_of_getElem? (i := 847) (by decide +kernel), List.mem_of_getElem? (i := 848) (by decide +kernel)⟩
theorem lw_p26 : lw_okq (⟨"LadderSignsModel", "against", "(II)I"⟩, 23) := ⟨⟨by decide +kernel, by decide +kernel⟩, List.mem_of_getElem? (i := 775) (by decide +kernel), List.mem_of_getElem? (i := 851) (by decide +kernel), List.mem_of_getElem? (i := 852) (by decide +kernel)⟩
theorem lw_p27 : lw_okq (⟨"LadderSignsModel", "unpack", "(II)V"⟩, 23) := ⟨⟨by decide +kernel, by decide +kernel⟩, List.mem_of_getElem? (i := 775) (by decide +kernel), List.mem_of_getElem? (i := 859) (by decide +kernel), List.mem_of_getElem? (i := 860) (by decide +kernel)⟩
theorem lw_p28 : lw_okq (⟨"LadderSignsModel", "roots", "(II)Z"⟩, 23) := ⟨⟨by decide +kernel, by decide +kernel⟩, List.mem_of_getElem? (i := 775) (by decide +kernel), List.mem_of_getElem? (i := 863) (by decide +kernel), List.mem_of_getElem? (i := 864) (by decide +kernel)⟩
theorem lw_p29 : lw_okq (⟨"LadderSignsModel", "isSame", "(II)Z"⟩, 23) := ⟨⟨by decide +kernel, by decide +kernel⟩, List.mem_of_getElem? (i := 775) (by decide +kernel), List.mem_of_getElem? (i := 869) (by decide +kernel), List.mem_of_getElem? (i := 870) (by decide +kernel)⟩
theorem lw_p30 : lw_okq (⟨"LadderSignsModel", "lowest", "(I)I"⟩, 23) := ⟨⟨by decide +kernel, by decide +kernel⟩, List.mem_of_getElem? (i := 775) (by decide +kernel), List.mem_of_getElem? (i := 873) (by decide +kernel), List.mem_of_getElem? (i := 874) (by decide +kernel)⟩
theorem lw_p31 : lw_okq (⟨"LadderSignsModel", "roots", "()V"⟩, 23) := ⟨⟨by decide +kernel, by decide +kernel⟩, List.mem_of_getElem? (i := 775) (by decide +kernel), List.mem_of_getElem? (i := 877) (by decide +kernel), List.mem_of_getElem? (i := 878) (by decide +kernel)⟩
def lw_privs_2 : List (MethodName × Nat) := [(⟨"LadderSignsModel", "copyOf", "(II)V"⟩, 23), (⟨"LadderSignsModel", "multiply", "(III)V"⟩, 23), (⟨"LadderSignsModel", "reduce", "(I)V"⟩, 23), (⟨"LadderSignsModel", "bit", "(II)I"⟩, 23), (⟨"LadderSignsModel", "subtract", "(III)V"⟩, 23), (⟨"LadderSignsModel", "invert", "(II)V"⟩, 23), (⟨"LadderSignsModel", "add", "(III)V"⟩, 23), (⟨"LadderSignsModel", "pack", "(II)V"⟩, 23), (⟨"LadderSignsModel", "lessPrime", "()V"⟩, 23), (⟨"LadderSignsModel", "open", "(II)Z"⟩, 23), (⟨"LadderSignsModel", "against", "(II)I"⟩, 23), (⟨"LadderSignsModel", "unpack", "(II)V"⟩, 23), (⟨"LadderSignsModel", "roots", "(II)Z"⟩, 23), (⟨"LadderSignsModel", "isSame", "(II)Z"⟩, 23), (⟨"LadderSignsModel", "lowest", "(I)I"⟩, 23), (⟨"LadderSignsModel", "roots", "()V"⟩, 23)]
theorem lw_r2 : ∀ q ∈ lw_privs_2, lw_okq q := List.forall_mem_cons.mpr ⟨lw_p16, List.forall_mem_cons.mpr ⟨lw_p17, List.forall_mem_cons.mpr ⟨lw_p18, List.forall_mem_cons.mpr ⟨lw_p19, List.forall_mem_cons.mpr ⟨lw_p20, List.forall_mem_cons.mpr ⟨lw_p21, List.forall_mem_cons.mpr ⟨lw_p22, List.forall_mem_cons.mpr ⟨lw_p23, List.forall_mem_cons.mpr ⟨lw_p24, List.forall_mem_cons.mpr ⟨lw_p25, List.forall_mem_cons.mpr ⟨lw_p26, List.forall_mem_cons.mpr ⟨lw_p27, List.forall_mem_cons.mpr ⟨lw_p28, List.forall_mem_cons.mpr ⟨lw_p29, List.forall_mem_cons.mpr ⟨lw_p30, List.forall_mem_cons.mpr ⟨lw_p31, fun _ h => absurd h List.not_mem_nil⟩⟩⟩⟩⟩⟩⟩⟩⟩⟩⟩⟩⟩⟩⟩⟩
theorem lw_p32 : lw_okq (⟨"LadderSignsModel", "behindPoint", "(IZ)J"⟩, 23) := ⟨⟨by decide +kernel, by decide +kernel⟩, List.mem_of_getElem? (i := 775) (by decide +kernel), List.mem_of_getElem? (i := 884) (by decide +kernel), List.mem_of_getElem? (i := 885) (by decide +kernel)⟩
theorem lw_p33 : lw_okq (⟨"LadderSignsModel", "powers", "()V"⟩, 23) := ⟨⟨by decide +kernel, by decide +kernel⟩, List.mem_of_getElem? (i := 775) (by decide +kernel), List.mem_of_getElem? (i := 888) (by decide +kernel), List.mem_of_getElem? (i := 889) (by decide +kernel)⟩
theorem lw_p34 : lw_okq (⟨"LadderSignsModel", "fromSlot", "(II)V"⟩, 23) := ⟨⟨by decide +kernel, by decide +kernel⟩, List.mem_of_getElem? (i := 775) (by decide +kernel), List.mem_of_getElem? (i := 981) (by decide +kernel), List.mem_of_getElem? (i := 982) (by decide +kernel)⟩
theorem lw_p35 : lw_okq (⟨"LadderSignsModel", "toSlot", "(II)V"⟩, 23) := ⟨⟨by decide +kernel, by decide +kernel⟩, List.mem_of_getElem? (i := 775) (by decide +kernel), List.mem_of_getElem? (i := 985) (by decide +kernel), List.mem_of_getElem? (i := 986) (by decide +kernel)⟩
theorem lw_p36 : lw_okq (⟨"LadderSignsModel", "load", "(II)V"⟩, 23) := ⟨⟨by decide +kernel, by decide +kernel⟩, List.mem_of_getElem? (i := 775) (by decide +kernel), List.mem_of_getElem? (i := 1009) (by decide +kernel), List.mem_of_getElem? (i := 1010) (by decide +kernel)⟩
theorem lw_p37 : lw_okq (⟨"LadderSignsModel", "store", "(II)V"⟩, 23) := ⟨⟨by decide +kernel, by decide +kernel⟩, List.mem_of_getElem? (i := 775) (by decide +kernel), List.mem_of_getElem? (i := 1013) (by decide +kernel), List.mem_of_getElem? (i := 1014) (by decide +kernel)⟩
theorem lw_p38 : lw_okq (⟨"LadderSignsModel", "scalarOf", "(IIII)V"⟩, 23) := ⟨⟨by decide +kernel, by decide +kernel⟩, List.mem_of_getElem? (i := 775) (by decide +kernel), List.mem_of_getElem? (i := 1037) (by decide +kernel), List.mem_of_getElem? (i := 1038) (by decide +kernel)⟩
theorem lw_p39 : lw_okq (⟨"LadderSignsModel", "modulo", "(I)V"⟩, 23) := ⟨⟨by decide +kernel, by decide +kernel⟩, List.mem_of_getElem? (i := 775) (by decide +kernel), List.mem_of_getElem? (i := 1044) (by decide +kernel), List.mem_of_getElem? (i := 1045) (by decide +kernel)⟩
theorem lw_p40 : lw_okq (⟨"LadderSignsModel", "lessOrder", "()V"⟩, 23) := ⟨⟨by decide +kernel, by decide +kernel⟩, List.mem_of_getElem? (i := 775) (by decide +kernel), List.mem_of_getElem? (i := 1048) (by decide +kernel), List.mem_of_getElem? (i := 1049) (by decide +kernel)⟩
theorem lw_p41 : lw_okq (⟨"LadderSignsModel", "opens", "(II)Z"⟩, 23) := ⟨⟨by decide +kernel, by decide +kernel⟩, List.mem_of_getElem? (i := 775) (by decide +kernel), List.mem_of_getElem? (i := 1056) (by decide +kernel), List.mem_of_getElem? (i := 1057) (by decide +kernel)⟩
theorem lw_p42 : lw_okq (⟨"LadderSignsModel", "negate", "(I)V"⟩, 23) := ⟨⟨by decide +kernel, by decide +kernel⟩, List.mem_of_getElem? (i := 775) (by decide +kernel), List.mem_of_getElem? (i := 1068) (by decide +kernel), List.mem_of_getElem? (i := 1069) (by decide +kernel)⟩
theorem lw_p43 : lw_okq (⟨"LadderSignsModel", "addPoint", "(II)V"⟩, 23) := ⟨⟨by decide +kernel, by decide +kernel⟩, List.mem_of_getElem? (i := 775) (by decide +kernel), List.mem_of_getElem? (i := 1072) (by decide +kernel), List.mem_of_getElem? (i := 1073) (by decide +kernel)⟩
theorem lw_p44 : lw_okq (⟨"LadderSignsModel", "storePoint", "(II)V"⟩, 23) := ⟨⟨by decide +kernel, by decide +kernel⟩, List.mem_of_getElem? (i := 775) (by decide +kernel), List.mem_of_getElem? (i := 1076) (by decide +kernel), List.mem_of_getElem? (i := 1077) (by decide +kernel)⟩
theorem lw_p45 : lw_okq (⟨"LadderSignsModel", "bytes", "(II)V"⟩, 23) := ⟨⟨by decide +kernel, by decide +kernel⟩, List.mem_of_getElem? (i := 775) (by decide +kernel), List.mem_of_getElem? (i := 1080) (by decide +kernel), List.mem_of_getElem? (i := 1081) (by decide +kernel)⟩
theorem lw_p46 : lw_okq (⟨"LadderSignsModel", "many", "(III)V"⟩, 23) := ⟨⟨by decide +kernel, by decide +kernel⟩, List.mem_of_getElem? (i := 775) (by decide +kernel), List.mem_of_getElem? (i := 1088) (by decide +kernel), List.mem_of_getElem? (i := 1089) (by decide +kernel)⟩
theorem lw_p47 : lw_okq (⟨"LadderSignsModel", "neutral", "(I)V"⟩, 23) := ⟨⟨by decide +kernel, by decide +kernel⟩, List.mem_of_getElem? (i := 775) (by decide +kernel), List.mem_of_getElem? (i := 1092) (by decide +kernel), List.mem_of_getElem? (i := 1093) (by decide +kernel)⟩
def lw_privs_3 : List (MethodName × Nat) := [(⟨"LadderSignsModel", "behindPoint", "(IZ)J"⟩, 23), (⟨"LadderSignsModel", "powers", "()V"⟩, 23), (⟨"LadderSignsModel", "fromSlot", "(II)V"⟩, 23), (⟨"LadderSignsModel", "toSlot", "(II)V"⟩, 23), (⟨"LadderSignsModel", "load", "(II)V"⟩, 23), (⟨"LadderSignsModel", "store", "(II)V"⟩, 23), (⟨"LadderSignsModel", "scalarOf", "(IIII)V"⟩, 23), (⟨"LadderSignsModel", "modulo", "(I)V"⟩, 23), (⟨"LadderSignsModel", "lessOrder", "()V"⟩, 23), (⟨"LadderSignsModel", "opens", "(II)Z"⟩, 23), (⟨"LadderSignsModel", "negate", "(I)V"⟩, 23), (⟨"LadderSignsModel", "addPoint", "(II)V"⟩, 23), (⟨"LadderSignsModel", "storePoint", "(II)V"⟩, 23), (⟨"LadderSignsModel", "bytes", "(II)V"⟩, 23), (⟨"LadderSignsModel", "many", "(III)V"⟩, 23), (⟨"LadderSignsModel", "neutral", "(I)V"⟩, 23)]
theorem lw_r3 : ∀ q ∈ lw_privs_3, lw_okq q := List.forall_mem_cons.mpr ⟨lw_p32, List.forall_mem_cons.mpr ⟨lw_p33, List.forall_mem_cons.mpr ⟨lw_p34, List.forall_mem_cons.mpr ⟨lw_p35, List.forall_mem_cons.mpr ⟨lw_p36, List.forall_mem_cons.mpr ⟨lw_p37, List.forall_mem_cons.mpr ⟨lw_p38, List.forall_mem_cons.mpr ⟨lw_p39, List.forall_mem_cons.mpr ⟨lw_p40, List.forall_mem_cons.mpr ⟨lw_p41, List.forall_mem_cons.mpr ⟨lw_p42, List.forall_mem_cons.mpr ⟨lw_p43, List.forall_mem_cons.mpr ⟨lw_p44, List.forall_mem_cons.mpr ⟨lw_p45, List.forall_mem_cons.mpr ⟨lw_p46, List.forall_mem_cons.mpr ⟨lw_p47, fun _ h => absurd h List.not_mem_nil⟩⟩⟩⟩⟩⟩⟩⟩⟩⟩⟩⟩⟩⟩⟩⟩
theorem lw_p48 : lw_okq (⟨"LadderSignsModel", "isNeutral", "(I)Z"⟩, 23) := ⟨⟨by decide +kernel, by decide +kernel⟩, List.mem_of_getElem? (i := 775) (by decide +kernel), List.mem_of_getElem? (i := 1104) (by decide +kernel), List.mem_of_getElem? (i := 1105) (by decide +kernel)⟩
theorem lw_p49 : lw_okq (⟨"LadderSignsModel", "clamp", "(I)V"⟩, 23) := ⟨⟨by decide +kernel, by decide +kernel⟩, List.mem_of_getElem? (i := 775) (by decide +kernel), List.mem_of_getElem? (i := 1116) (by decide +kernel), List.mem_of_getElem? (i := 1117) (by decide +kernel)⟩
theorem lw_p50 : lw_okq (⟨"LadderSignsModel", "swap", "(II)V"⟩, 23) := ⟨⟨by decide +kernel, by decide +kernel⟩, List.mem_of_getElem? (i := 775) (by decide +kernel), List.mem_of_getElem? (i := 1122) (by decide +kernel), List.mem_of_getElem? (i := 1123) (by decide +kernel)⟩
theorem lw_p51 : lw_okq (⟨"LadderSignsModel", "tellText", "()V"⟩, 23) := ⟨⟨by decide +kernel, by decide +kernel⟩, List.mem_of_getElem? (i := 775) (by decide +kernel), List.mem_of_getElem? (i := 1130) (by decide +kernel), List.mem_of_getElem? (i := 1131) (by decide +kernel)⟩
theorem lw_p52 : lw_okq (⟨"LadderSignsModel", "tell", "(I)V"⟩, 23) := ⟨⟨by decide +kernel, by decide +kernel⟩, List.mem_of_getElem? (i := 775) (by decide +kernel), List.mem_of_getElem? (i := 1134) (by decide +kernel), List.mem_of_getElem? (i := 1135) (by decide +kernel)⟩
theorem lw_p53 : lw_okq (⟨"LadderSignsModel", "digests", "()V"⟩, 23) := ⟨⟨by decide +kernel, by decide +kernel⟩, List.mem_of_getElem? (i := 775) (by decide +kernel), List.mem_of_getElem? (i := 1138) (by decide +kernel), List.mem_of_getElem? (i := 1139) (by decide +kernel)⟩
theorem lw_p54 : lw_okq (⟨"LadderSignsModel", "block", "(I)V"⟩, 23) := ⟨⟨by decide +kernel, by decide +kernel⟩, List.mem_of_getElem? (i := 775) (by decide +kernel), List.mem_of_getElem? (i := 1142) (by decide +kernel), List.mem_of_getElem? (i := 1143) (by decide +kernel)⟩
theorem lw_p55 : lw_okq (⟨"LadderSignsModel", "digestWords", "(II)V"⟩, 23) := ⟨⟨by decide +kernel, by decide +kernel⟩, List.mem_of_getElem? (i := 775) (by decide +kernel), List.mem_of_getElem? (i := 1149) (by decide +kernel), List.mem_of_getElem? (i := 1150) (by decide +kernel)⟩
theorem lw_p56 : lw_okq (⟨"LadderSignsModel", "open", "(I)V"⟩, 23) := ⟨⟨by decide +kernel, by decide +kernel⟩, List.mem_of_getElem? (i := 775) (by decide +kernel), List.mem_of_getElem? (i := 1157) (by decide +kernel), List.mem_of_getElem? (i := 1158) (by decide +kernel)⟩
theorem lw_p57 : lw_okq (⟨"LadderSignsModel", "tellWords", "(I)V"⟩, 23) := ⟨⟨by decide +kernel, by decide +kernel⟩, List.mem_of_getElem? (i := 775) (by decide +kernel), List.mem_of_getElem? (i := 1161) (by decide +kernel), List.mem_of_getElem? (i := 1162) (by decide +kernel)⟩
theorem lw_p58 : lw_okq (⟨"LadderSignsModel", "digestScalar", "(I)V"⟩, 23) := ⟨⟨by decide +kernel, by decide +kernel⟩, List.mem_of_getElem? (i := 775) (by decide +kernel), List.mem_of_getElem? (i := 1169) (by decide +kernel), List.mem_of_getElem? (i := 1170) (by decide +kernel)⟩
theorem lw_p59 : lw_okq (⟨"LadderSignsModel", "isRight", "(II)Z"⟩, 23) := ⟨⟨by decide +kernel, by decide +kernel⟩, List.mem_of_getElem? (i := 775) (by decide +kernel), List.mem_of_getElem? (i := 1177) (by decide +kernel), List.mem_of_getElem? (i := 1178) (by decide +kernel)⟩
theorem lw_p60 : lw_okq (⟨"LadderSignsModel", "eightTimes", "(I)V"⟩, 23) := ⟨⟨by decide +kernel, by decide +kernel⟩, List.mem_of_getElem? (i := 775) (by decide +kernel), List.mem_of_getElem? (i := 1181) (by decide +kernel), List.mem_of_getElem? (i := 1182) (by decide +kernel)⟩
def lw_privs_4 : List (MethodName × Nat) := [(⟨"LadderSignsModel", "isNeutral", "(I)Z"⟩, 23), (⟨"LadderSignsModel", "clamp", "(I)V"⟩, 23), (⟨"LadderSignsModel", "swap", "(II)V"⟩, 23), (⟨"LadderSignsModel", "tellText", "()V"⟩, 23), (⟨"LadderSignsModel", "tell", "(I)V"⟩, 23), (⟨"LadderSignsModel", "digests", "()V"⟩, 23), (⟨"LadderSignsModel", "block", "(I)V"⟩, 23), (⟨"LadderSignsModel", "digestWords", "(II)V"⟩, 23), (⟨"LadderSignsModel", "open", "(I)V"⟩, 23), (⟨"LadderSignsModel", "tellWords", "(I)V"⟩, 23), (⟨"LadderSignsModel", "digestScalar", "(I)V"⟩, 23), (⟨"LadderSignsModel", "isRight", "(II)Z"⟩, 23), (⟨"LadderSignsModel", "eightTimes", "(I)V"⟩, 23)]
theorem lw_r4 : ∀ q ∈ lw_privs_4, lw_okq q := List.forall_mem_cons.mpr ⟨lw_p48, List.forall_mem_cons.mpr ⟨lw_p49, List.forall_mem_cons.mpr ⟨lw_p50, List.forall_mem_cons.mpr ⟨lw_p51, List.forall_mem_cons.mpr ⟨lw_p52, List.forall_mem_cons.mpr ⟨lw_p53, List.forall_mem_cons.mpr ⟨lw_p54, List.forall_mem_cons.mpr ⟨lw_p55, List.forall_mem_cons.mpr ⟨lw_p56, List.forall_mem_cons.mpr ⟨lw_p57, List.forall_mem_cons.mpr ⟨lw_p58, List.forall_mem_cons.mpr ⟨lw_p59, List.forall_mem_cons.mpr ⟨lw_p60, fun _ h => absurd h List.not_mem_nil⟩⟩⟩⟩⟩⟩⟩⟩⟩⟩⟩⟩⟩
def lw_privs : List (MethodName × Nat) := lw_privs_1 ++ (lw_privs_2 ++ (lw_privs_3 ++ (lw_privs_4)))
def lw_tbl : List Cond := k2_sels lw_privs ++ tables_1
theorem lw_privs_ok : ∀ q ∈ lw_privs, lw_okq q := by
  show ∀ q ∈ lw_privs_1 ++ (lw_privs_2 ++ (lw_privs_3 ++ (lw_privs_4))), lw_okq q
  exact List.forall_mem_append.mpr ⟨lw_r1, List.forall_mem_append.mpr ⟨lw_r2, List.forall_mem_append.mpr ⟨lw_r3, lw_r4⟩⟩⟩
/-! ===== BEGIN words of one list among another's, by their places ===== -/
theorem goodIn_r {big : List Cond} (ws : List Cond) (ps : List Nat) (hp : ws = ps.filterMap (fun i => big[i]?)) (h : ws.all goodWord = true) : GoodIn big ws := by
  intro w hw
  have h1 := List.all_eq_true.mp h w hw
  rw [hp] at hw
  obtain ⟨i, -, hi⟩ := List.mem_filterMap.mp hw
  have hm : w ∈ big := by first | exact List.mem_of_getElem? hi | exact List.getElem?_mem hi
  exact ⟨hm, good_of_word h1⟩
theorem goodIn_app {big a b : List Cond} (ha : GoodIn big a) (hb : GoodIn big b) : GoodIn big (a ++ b) := fun w h => (List.mem_append.mp h).elim (ha w) (hb w)
theorem goodIn_ca {big a b : List Cond} {c : Cond} (ha : GoodIn big (c :: a)) (hb : GoodIn big b) : GoodIn big (c :: (a ++ b)) := fun w h => (List.mem_cons.mp h).elim (fun e => ha w (List.mem_cons.mpr (Or.inl e))) (fun h => (List.mem_append.mp h).elim (fun h => ha w (List.mem_cons.mpr (Or.inr h))) (hb w))
theorem goodIn_sub {big ws : List Cond} (hm : ∀ w ∈ ws, w ∈ big) (h : ws.all goodWord = true) : GoodIn big ws := fun w hw => ⟨hm w hw, good_of_word (List.all_eq_true.mp h w hw)⟩
/-! ===== END ===== -/

def RX0 : String := "LadderSigns$Curve"
def TX0 : u_T := fun k => match k with
  | 0 => ("LadderSigns$Curve", "basePoint", "LLadderSigns$Point;", true)
  | 1 => ("LadderSigns$Curve", "numbers", "LLadderSigns$FieldNumbers;", true)
  | 2 => ("LadderSigns$Curve", "one", "[J", true)
  | 3 => ("LadderSigns$Curve", "d", "[J", true)
  | 4 => ("LadderSigns$Curve", "twiceD", "[J", true)
  | 5 => ("LadderSigns$Curve", "a", "[J", true)
  | 6 => ("LadderSigns$Curve", "b", "[J", true)
  | 7 => ("LadderSigns$Curve", "c", "[J", true)
  | 8 => ("LadderSigns$Curve", "e", "[J", true)
  | 9 => ("LadderSigns$Curve", "f", "[J", true)
  | 10 => ("LadderSigns$Curve", "g", "[J", true)
  | 11 => ("LadderSigns$Curve", "h", "[J", true)
  | 12 => ("LadderSigns$Curve", "lowBits", "[J", true)
  | _ => ("LadderSigns$Curve", "table", "[LLadderSigns$Point;", true)
def tyX0 : Nat → FieldType := fun k => match k with
  | 0 => .object "LadderSigns$Point"
  | 1 => .object "LadderSigns$FieldNumbers"
  | 2 => .array .long
  | 3 => .array .long
  | 4 => .array .long
  | 5 => .array .long
  | 6 => .array .long
  | 7 => .array .long
  | 8 => .array .long
  | 9 => .array .long
  | 10 => .array .long
  | 11 => .array .long
  | 12 => .array .long
  | _ => .array (.object "LadderSigns$Point")
abbrev wsX00 : List Cond := u_ws RX0 TX0 14
theorem nmX0 : ∀ a, a < 14 → ∀ b, b < 14 → a ≠ b → (TX0 a).2.1 ≠ (TX0 b).2.1 := by decide +kernel
theorem tyX0_ok : ∀ k, k < 14 → parseFieldDescriptor (TX0 k).2.2.1 = some (tyX0 k) := by decide +kernel
abbrev cX0_init : ByteArray := prog_2_method_1_code
def yX0_init : MethodName := ⟨RX0, "<init>", "(LLadderSigns$FieldNumbers;)V"⟩
abbrev cX0_complete : ByteArray := prog_2_method_2_code
def yX0_complete : MethodName := ⟨RX0, "complete", "(LLadderSigns$Point;)V"⟩
abbrev cX0_becomeNeutral : ByteArray := prog_2_method_3_code
def yX0_becomeNeutral : MethodName := ⟨RX0, "becomeNeutral", "(LLadderSigns$Point;)V"⟩
abbrev cX0_read : ByteArray := prog_2_method_4_code
def yX0_read : MethodName := ⟨RX0, "read", "([JLLadderSigns$Point;)Z"⟩
abbrev cX0_write : ByteArray := prog_2_method_5_code
def yX0_write : MethodName := ⟨RX0, "write", "(LLadderSigns$Point;[J)V"⟩
abbrev cX0_negate : ByteArray := prog_2_method_6_code
def yX0_negate : MethodName := ⟨RX0, "negate", "(LLadderSigns$Point;)V"⟩
abbrev cX0_add : ByteArray := prog_2_method_7_code
def yX0_add : MethodName := ⟨RX0, "add", "(LLadderSigns$Point;LLadderSigns$Point;LLadderSigns$Point;)V"⟩
abbrev cX0_twice : ByteArray := prog_2_method_8_code
def yX0_twice : MethodName := ⟨RX0, "twice", "(LLadderSigns$Point;LLadderSigns$Point;)V"⟩
abbrev cX0_multiply : ByteArray := prog_2_method_9_code
def yX0_multiply : MethodName := ⟨RX0, "multiply", "([JLLadderSigns$Point;LLadderSigns$Point;)V"⟩
abbrev cX0_isNeutral : ByteArray := prog_2_method_10_code
def yX0_isNeutral : MethodName := ⟨RX0, "isNeutral", "(LLadderSigns$Point;)Z"⟩
abbrev cX0_findOtherShape : ByteArray := prog_2_method_11_code
def yX0_findOtherShape : MethodName := ⟨RX0, "findOtherShape", "(LLadderSigns$Point;[J)V"⟩
def RX1 : String := "LadderSigns$FieldNumbers"
def TX1 : u_T := fun k => match k with
  | 0 => ("LadderSigns$FieldNumbers", "zero", "[J", true)
  | 1 => ("LadderSigns$FieldNumbers", "rootOfMinusOne", "[J", true)
  | 2 => ("LadderSigns$FieldNumbers", "wide", "[J", true)
  | 3 => ("LadderSigns$FieldNumbers", "exact", "[J", true)
  | 4 => ("LadderSigns$FieldNumbers", "difference", "[J", true)
  | 5 => ("LadderSigns$FieldNumbers", "candidate", "[J", true)
  | 6 => ("LadderSigns$FieldNumbers", "itsSquare", "[J", true)
  | _ => ("LadderSigns$FieldNumbers", "powers", "[[J", true)
def tyX1 : Nat → FieldType := fun k => match k with
  | 0 => .array .long
  | 1 => .array .long
  | 2 => .array .long
  | 3 => .array .long
  | 4 => .array .long
  | 5 => .array .long
  | 6 => .array .long
  | _ => .array (.array .long)
abbrev wsX10 : List Cond := u_ws RX1 TX1 8
theorem nmX1 : ∀ a, a < 8 → ∀ b, b < 8 → a ≠ b → (TX1 a).2.1 ≠ (TX1 b).2.1 := by decide +kernel
theorem tyX1_ok : ∀ k, k < 8 → parseFieldDescriptor (TX1 k).2.2.1 = some (tyX1 k) := by decide +kernel
abbrev cX1_init : ByteArray := prog_3_method_1_code
def yX1_init : MethodName := ⟨RX1, "<init>", "()V"⟩
abbrev cX1_load : ByteArray := prog_3_method_2_code
def yX1_load : MethodName := ⟨RX1, "load", "([J[J)V"⟩
abbrev cX1_store : ByteArray := prog_3_method_3_code
def yX1_store : MethodName := ⟨RX1, "store", "([J[J)V"⟩
abbrev cX1_move : ByteArray := prog_3_method_4_code
def yX1_move : MethodName := ⟨RX1, "move", "([J[J)V"⟩
abbrev cX1_become : ByteArray := prog_3_method_5_code
def yX1_become : MethodName := ⟨RX1, "become", "([JJ)V"⟩
abbrev cX1_add : ByteArray := prog_3_method_6_code
def yX1_add : MethodName := ⟨RX1, "add", "([J[J[J)V"⟩
abbrev cX1_subtract : ByteArray := prog_3_method_7_code
def yX1_subtract : MethodName := ⟨RX1, "subtract", "([J[J[J)V"⟩
abbrev cX1_negate : ByteArray := prog_3_method_8_code
def yX1_negate : MethodName := ⟨RX1, "negate", "([J[J)V"⟩
abbrev cX1_scale : ByteArray := prog_3_method_9_code
def yX1_scale : MethodName := ⟨RX1, "scale", "([JJ[J)V"⟩
abbrev cX1_multiply : ByteArray := prog_3_method_10_code
def yX1_multiply : MethodName := ⟨RX1, "multiply", "([J[J[J)V"⟩
abbrev cX1_square : ByteArray := prog_3_method_11_code
def yX1_square : MethodName := ⟨RX1, "square", "([J[J)V"⟩
abbrev cX1_fold : ByteArray := prog_3_method_12_code
def yX1_fold : MethodName := ⟨RX1, "fold", "([J)V"⟩
abbrev cX1_carry : ByteArray := prog_3_method_13_code
def yX1_carry : MethodName := ⟨RX1, "carry", "([J)V"⟩
abbrev cX1_makeExact : ByteArray := prog_3_method_14_code
def yX1_makeExact : MethodName := ⟨RX1, "makeExact", "([J)V"⟩
abbrev cX1_isZero : ByteArray := prog_3_method_15_code
def yX1_isZero : MethodName := ⟨RX1, "isZero", "([J)Z"⟩
abbrev cX1_areSame : ByteArray := prog_3_method_16_code
def yX1_areSame : MethodName := ⟨RX1, "areSame", "([J[J)Z"⟩
abbrev cX1_isNothing : ByteArray := prog_3_method_17_code
def yX1_isNothing : MethodName := ⟨RX1, "isNothing", "([J)Z"⟩
abbrev cX1_isOdd : ByteArray := prog_3_method_18_code
def yX1_isOdd : MethodName := ⟨RX1, "isOdd", "([J)Z"⟩
abbrev cX1_raise : ByteArray := prog_3_method_19_code
def yX1_raise : MethodName := ⟨RX1, "raise", "([J[J[J)V"⟩
abbrev cX1_invert : ByteArray := prog_3_method_20_code
def yX1_invert : MethodName := ⟨RX1, "invert", "([J[J)V"⟩
abbrev cX1_findRoot : ByteArray := prog_3_method_21_code
def yX1_findRoot : MethodName := ⟨RX1, "findRoot", "([J[J)Z"⟩
def RX2 : String := "LadderSigns$Ladder"
def TX2 : u_T := fun k => match k with
  | 0 => ("LadderSigns$Ladder", "numbers", "LLadderSigns$FieldNumbers;", true)
  | 1 => ("LadderSigns$Ladder", "secret", "[J", true)
  | 2 => ("LadderSigns$Ladder", "x2", "[J", true)
  | 3 => ("LadderSigns$Ladder", "z2", "[J", true)
  | 4 => ("LadderSigns$Ladder", "x3", "[J", true)
  | 5 => ("LadderSigns$Ladder", "z3", "[J", true)
  | 6 => ("LadderSigns$Ladder", "a", "[J", true)
  | 7 => ("LadderSigns$Ladder", "b", "[J", true)
  | 8 => ("LadderSigns$Ladder", "c", "[J", true)
  | 9 => ("LadderSigns$Ladder", "d", "[J", true)
  | _ => ("LadderSigns$Ladder", "e", "[J", true)
def tyX2 : Nat → FieldType := fun k => match k with
  | 0 => .object "LadderSigns$FieldNumbers"
  | 1 => .array .long
  | 2 => .array .long
  | 3 => .array .long
  | 4 => .array .long
  | 5 => .array .long
  | 6 => .array .long
  | 7 => .array .long
  | 8 => .array .long
  | 9 => .array .long
  | _ => .array .long
abbrev wsX20 : List Cond := u_ws RX2 TX2 11
theorem nmX2 : ∀ a, a < 11 → ∀ b, b < 11 → a ≠ b → (TX2 a).2.1 ≠ (TX2 b).2.1 := by decide +kernel
theorem tyX2_ok : ∀ k, k < 11 → parseFieldDescriptor (TX2 k).2.2.1 = some (tyX2 k) := by decide +kernel
abbrev cX2_init : ByteArray := prog_4_method_1_code
def yX2_init : MethodName := ⟨RX2, "<init>", "(LLadderSigns$FieldNumbers;)V"⟩
abbrev cX2_climb : ByteArray := prog_4_method_2_code
def yX2_climb : MethodName := ⟨RX2, "climb", "([J[J[J)V"⟩
abbrev cX2_step : ByteArray := prog_4_method_3_code
def yX2_step : MethodName := ⟨RX2, "step", "([J[J[J[J[J)V"⟩
def RX3 : String := "LadderSigns$Point"
def TX3 : u_T := fun k => match k with
  | 0 => ("LadderSigns$Point", "x", "[J", true)
  | 1 => ("LadderSigns$Point", "y", "[J", true)
  | 2 => ("LadderSigns$Point", "z", "[J", true)
  | _ => ("LadderSigns$Point", "t", "[J", true)
def tyX3 : Nat → FieldType := fun k => match k with
  | 0 => .array .long
  | 1 => .array .long
  | 2 => .array .long
  | _ => .array .long
abbrev wsX30 : List Cond := u_ws RX3 TX3 4
theorem nmX3 : ∀ a, a < 4 → ∀ b, b < 4 → a ≠ b → (TX3 a).2.1 ≠ (TX3 b).2.1 := by decide +kernel
theorem tyX3_ok : ∀ k, k < 4 → parseFieldDescriptor (TX3 k).2.2.1 = some (tyX3 k) := by decide +kernel
abbrev cX3_init : ByteArray := prog_5_method_1_code
def yX3_init : MethodName := ⟨RX3, "<init>", "()V"⟩
def RX4 : String := "LadderSigns$Scalars"
def TX4 : u_T := fun k => match k with
  | 0 => ("LadderSigns$Scalars", "factor", "[J", true)
  | 1 => ("LadderSigns$Scalars", "total", "[J", true)
  | _ => ("LadderSigns$Scalars", "summand", "[J", true)
def tyX4 : Nat → FieldType := fun k => match k with
  | 0 => .array .long
  | 1 => .array .long
  | _ => .array .long
abbrev wsX40 : List Cond := u_ws RX4 TX4 3
theorem nmX4 : ∀ a, a < 3 → ∀ b, b < 3 → a ≠ b → (TX4 a).2.1 ≠ (TX4 b).2.1 := by decide +kernel
theorem tyX4_ok : ∀ k, k < 3 → parseFieldDescriptor (TX4 k).2.2.1 = some (tyX4 k) := by decide +kernel
abbrev cX4_init : ByteArray := prog_6_method_1_code
def yX4_init : MethodName := ⟨RX4, "<init>", "()V"⟩
abbrev cX4_isBelowOrder : ByteArray := prog_6_method_2_code
def yX4_isBelowOrder : MethodName := ⟨RX4, "isBelowOrder", "([J)Z"⟩
abbrev cX4_increase : ByteArray := prog_6_method_3_code
def yX4_increase : MethodName := ⟨RX4, "increase", "([J[J)V"⟩
abbrev cX4_reduce : ByteArray := prog_6_method_4_code
def yX4_reduce : MethodName := ⟨RX4, "reduce", "([JI[J)V"⟩
abbrev cX4_multiplyAndAdd : ByteArray := prog_6_method_5_code
def yX4_multiplyAndAdd : MethodName := ⟨RX4, "multiplyAndAdd", "([J[J[J[J)V"⟩
def RX5 : String := "LadderSigns$Sha512"
def TX5 : u_T := fun k => match k with
  | 0 => ("LadderSigns$Sha512", "message", "[B", true)
  | 1 => ("LadderSigns$Sha512", "length", "I", false)
  | 2 => ("LadderSigns$Sha512", "schedule", "[J", true)
  | _ => ("LadderSigns$Sha512", "state", "[J", true)
def tyX5 : Nat → FieldType := fun k => match k with
  | 0 => .array .byte
  | 1 => .int
  | 2 => .array .long
  | _ => .array .long
abbrev wsX50 : List Cond := u_ws RX5 TX5 4
theorem nmX5 : ∀ a, a < 4 → ∀ b, b < 4 → a ≠ b → (TX5 a).2.1 ≠ (TX5 b).2.1 := by decide +kernel
theorem tyX5_ok : ∀ k, k < 4 → parseFieldDescriptor (TX5 k).2.2.1 = some (tyX5 k) := by decide +kernel
abbrev cX5_init : ByteArray := prog_7_method_1_code
def yX5_init : MethodName := ⟨RX5, "<init>", "()V"⟩
abbrev cX5_begin : ByteArray := prog_7_method_2_code
def yX5_begin : MethodName := ⟨RX5, "begin", "()V"⟩
abbrev cX5_takeByte : ByteArray := prog_7_method_3_code
def yX5_takeByte : MethodName := ⟨RX5, "takeByte", "(I)V"⟩
abbrev cX5_takeRow : ByteArray := prog_7_method_4_code
def yX5_takeRow : MethodName := ⟨RX5, "takeRow", "([J)V"⟩
abbrev cX5_takeText : ByteArray := prog_7_method_5_code
def yX5_takeText : MethodName := ⟨RX5, "takeText", "(LLadderSigns$Text;)V"⟩
abbrev cX5_finish : ByteArray := prog_7_method_6_code
def yX5_finish : MethodName := ⟨RX5, "finish", "([J)V"⟩
abbrev cX5_pad : ByteArray := prog_7_method_7_code
def yX5_pad : MethodName := ⟨RX5, "pad", "(I)V"⟩
abbrev cX5_fillSchedule : ByteArray := prog_7_method_8_code
def yX5_fillSchedule : MethodName := ⟨RX5, "fillSchedule", "(I)V"⟩
abbrev cX5_mix : ByteArray := prog_7_method_9_code
def yX5_mix : MethodName := ⟨RX5, "mix", "()V"⟩
abbrev cX5_rotated : ByteArray := prog_7_method_10_code
def yX5_rotated : MethodName := ⟨RX5, "rotated", "(JI)J"⟩
abbrev cX5_turned : ByteArray := prog_7_method_11_code
def yX5_turned : MethodName := ⟨RX5, "turned", "(J)J"⟩
def RX6 : String := "LadderSigns$Signer"
def TX6 : u_T := fun k => match k with
  | 0 => ("LadderSigns$Signer", "curve", "LLadderSigns$Curve;", true)
  | 1 => ("LadderSigns$Signer", "scalars", "LLadderSigns$Scalars;", true)
  | 2 => ("LadderSigns$Signer", "sha", "LLadderSigns$Sha512;", true)
  | 3 => ("LadderSigns$Signer", "hash", "[J", true)
  | 4 => ("LadderSigns$Signer", "secretNumber", "[J", true)
  | 5 => ("LadderSigns$Signer", "secretPrefix", "[J", true)
  | 6 => ("LadderSigns$Signer", "nonce", "[J", true)
  | 7 => ("LadderSigns$Signer", "challenge", "[J", true)
  | 8 => ("LadderSigns$Signer", "keyRow", "[J", true)
  | 9 => ("LadderSigns$Signer", "keyPoint", "LLadderSigns$Point;", true)
  | 10 => ("LadderSigns$Signer", "noncePoint", "LLadderSigns$Point;", true)
  | _ => ("LadderSigns$Signer", "product", "LLadderSigns$Point;", true)
def tyX6 : Nat → FieldType := fun k => match k with
  | 0 => .object "LadderSigns$Curve"
  | 1 => .object "LadderSigns$Scalars"
  | 2 => .object "LadderSigns$Sha512"
  | 3 => .array .long
  | 4 => .array .long
  | 5 => .array .long
  | 6 => .array .long
  | 7 => .array .long
  | 8 => .array .long
  | 9 => .object "LadderSigns$Point"
  | 10 => .object "LadderSigns$Point"
  | _ => .object "LadderSigns$Point"
abbrev wsX60 : List Cond := u_ws RX6 TX6 12
theorem nmX6 : ∀ a, a < 12 → ∀ b, b < 12 → a ≠ b → (TX6 a).2.1 ≠ (TX6 b).2.1 := by decide +kernel
theorem tyX6_ok : ∀ k, k < 12 → parseFieldDescriptor (TX6 k).2.2.1 = some (tyX6 k) := by decide +kernel
abbrev cX6_init : ByteArray := prog_8_method_1_code
def yX6_init : MethodName := ⟨RX6, "<init>", "(LLadderSigns$Curve;LLadderSigns$Scalars;LLadderSigns$Sha512;)V"⟩
abbrev cX6_makeKey : ByteArray := prog_8_method_2_code
def yX6_makeKey : MethodName := ⟨RX6, "makeKey", "([J[J)V"⟩
abbrev cX6_makeSignature : ByteArray := prog_8_method_3_code
def yX6_makeSignature : MethodName := ⟨RX6, "makeSignature", "([JLLadderSigns$Text;[J[J)V"⟩
abbrev cX6_isRight : ByteArray := prog_8_method_4_code
def yX6_isRight : MethodName := ⟨RX6, "isRight", "([J[J[JLLadderSigns$Text;)Z"⟩
abbrev cX6_unfold : ByteArray := prog_8_method_5_code
def yX6_unfold : MethodName := ⟨RX6, "unfold", "([J)V"⟩
abbrev cX6_findChallenge : ByteArray := prog_8_method_6_code
def yX6_findChallenge : MethodName := ⟨RX6, "findChallenge", "([J[JLLadderSigns$Text;)V"⟩
def RX7 : String := "LadderSigns$Text"
def TX7 : u_T := fun k => match k with
  | 0 => ("LadderSigns$Text", "bytes", "[B", true)
  | _ => ("LadderSigns$Text", "length", "I", false)
def tyX7 : Nat → FieldType := fun k => match k with
  | 0 => .array .byte
  | _ => .int
abbrev wsX70 : List Cond := u_ws RX7 TX7 2
theorem nmX7 : ∀ a, a < 2 → ∀ b, b < 2 → a ≠ b → (TX7 a).2.1 ≠ (TX7 b).2.1 := by decide +kernel
theorem tyX7_ok : ∀ k, k < 2 → parseFieldDescriptor (TX7 k).2.2.1 = some (tyX7 k) := by decide +kernel
abbrev cX7_init : ByteArray := prog_9_method_1_code
def yX7_init : MethodName := ⟨RX7, "<init>", "()V"⟩
abbrev cX7_append : ByteArray := prog_9_method_2_code
def yX7_append : MethodName := ⟨RX7, "append", "(JI)V"⟩
abbrev cX7_byteAt : ByteArray := prog_9_method_3_code
def yX7_byteAt : MethodName := ⟨RX7, "byteAt", "(I)I"⟩
def RX8 : String := "LadderSigns$Words"
def TX8 : u_T := fun k => match k with
  | _ => ("", "", "", false)
def tyX8 : Nat → FieldType := fun k => match k with
  | _ => .int
abbrev wsX80 : List Cond := u_ws RX8 TX8 0
theorem nmX8 : ∀ a, a < 0 → ∀ b, b < 0 → a ≠ b → (TX8 a).2.1 ≠ (TX8 b).2.1 := by decide +kernel
theorem tyX8_ok : ∀ k, k < 0 → parseFieldDescriptor (TX8 k).2.2.1 = some (tyX8 k) := by decide +kernel
abbrev cX8_bit : ByteArray := prog_10_method_2_code
def yX8_bit : MethodName := ⟨RX8, "bit", "([JI)I"⟩
abbrev cX8_nibble : ByteArray := prog_10_method_3_code
def yX8_nibble : MethodName := ⟨RX8, "nibble", "([JI)I"⟩
abbrev cX8_move : ByteArray := prog_10_method_4_code
def yX8_move : MethodName := ⟨RX8, "move", "([J[J)V"⟩
abbrev cX8_order : ByteArray := prog_10_method_5_code
def yX8_order : MethodName := ⟨RX8, "order", "([J[J)I"⟩
abbrev cX8_bitLength : ByteArray := prog_10_method_6_code
def yX8_bitLength : MethodName := ⟨RX8, "bitLength", "([J)I"⟩
abbrev cX8_increase : ByteArray := prog_10_method_7_code
def yX8_increase : MethodName := ⟨RX8, "increase", "([J[J)V"⟩
abbrev cX8_decrease : ByteArray := prog_10_method_8_code
def yX8_decrease : MethodName := ⟨RX8, "decrease", "([J[J)V"⟩
abbrev cX8_clamp : ByteArray := prog_10_method_9_code
def yX8_clamp : MethodName := ⟨RX8, "clamp", "([J)V"⟩
def RX9 : String := "LadderSigns"
def TX9 : u_T := fun k => match k with
  | 0 => ("LadderSigns", "slots", "[[J", true)
  | 1 => ("LadderSigns", "text", "LLadderSigns$Text;", true)
  | 2 => ("LadderSigns", "workLeft", "I", false)
  | 3 => ("LadderSigns", "signaturesMade", "I", false)
  | 4 => ("LadderSigns", "judged", "I", false)
  | 5 => ("LadderSigns", "judgedRight", "I", false)
  | 6 => ("LadderSigns", "numbers", "LLadderSigns$FieldNumbers;", true)
  | 7 => ("LadderSigns", "scalars", "LLadderSigns$Scalars;", true)
  | 8 => ("LadderSigns", "curve", "LLadderSigns$Curve;", true)
  | 9 => ("LadderSigns", "ladder", "LLadderSigns$Ladder;", true)
  | 10 => ("LadderSigns", "sha", "LLadderSigns$Sha512;", true)
  | 11 => ("LadderSigns", "signer", "LLadderSigns$Signer;", true)
  | 12 => ("LadderSigns", "first", "[J", true)
  | 13 => ("LadderSigns", "second", "[J", true)
  | 14 => ("LadderSigns", "hash", "[J", true)
  | 15 => ("LadderSigns", "left", "LLadderSigns$Point;", true)
  | _ => ("LadderSigns", "right", "LLadderSigns$Point;", true)
def tyX9 : Nat → FieldType := fun k => match k with
  | 0 => .array (.array .long)
  | 1 => .object "LadderSigns$Text"
  | 2 => .int
  | 3 => .int
  | 4 => .int
  | 5 => .int
  | 6 => .object "LadderSigns$FieldNumbers"
  | 7 => .object "LadderSigns$Scalars"
  | 8 => .object "LadderSigns$Curve"
  | 9 => .object "LadderSigns$Ladder"
  | 10 => .object "LadderSigns$Sha512"
  | 11 => .object "LadderSigns$Signer"
  | 12 => .array .long
  | 13 => .array .long
  | 14 => .array .long
  | 15 => .object "LadderSigns$Point"
  | _ => .object "LadderSigns$Point"
abbrev wsX90 : List Cond := u_ws RX9 TX9 17
theorem nmX9 : ∀ a, a < 17 → ∀ b, b < 17 → a ≠ b → (TX9 a).2.1 ≠ (TX9 b).2.1 := by decide +kernel
theorem tyX9_ok : ∀ k, k < 17 → parseFieldDescriptor (TX9 k).2.2.1 = some (tyX9 k) := by decide +kernel
abbrev cX9_init : ByteArray := prog_1_method_1_code
def yX9_init : MethodName := ⟨RX9, "<init>", "()V"⟩
abbrev cX9_set : ByteArray := prog_1_method_2_code
def yX9_set : MethodName := ⟨RX9, "set", "(IIJ)I"⟩
abbrev cX9_word : ByteArray := prog_1_method_3_code
def yX9_word : MethodName := ⟨RX9, "word", "(II)J"⟩
abbrev cX9_copy : ByteArray := prog_1_method_4_code
def yX9_copy : MethodName := ⟨RX9, "copy", "(II)I"⟩
abbrev cX9_type : ByteArray := prog_1_method_5_code
def yX9_type : MethodName := ⟨RX9, "type", "(JI)I"⟩
abbrev cX9_clear : ByteArray := prog_1_method_6_code
def yX9_clear : MethodName := ⟨RX9, "clear", "()I"⟩
abbrev cX9_at : ByteArray := prog_1_method_7_code
def yX9_at : MethodName := ⟨RX9, "at", "(I)I"⟩
abbrev cX9_flip : ByteArray := prog_1_method_8_code
def yX9_flip : MethodName := ⟨RX9, "flip", "(III)I"⟩
abbrev cX9_field : ByteArray := prog_1_method_9_code
def yX9_field : MethodName := ⟨RX9, "field", "(IIII)I"⟩
abbrev cX9_power : ByteArray := prog_1_method_10_code
def yX9_power : MethodName := ⟨RX9, "power", "(III)I"⟩
abbrev cX9_root : ByteArray := prog_1_method_11_code
def yX9_root : MethodName := ⟨RX9, "root", "(II)I"⟩
abbrev cX9_about : ByteArray := prog_1_method_12_code
def yX9_about : MethodName := ⟨RX9, "about", "(II)I"⟩
abbrev cX9_compare : ByteArray := prog_1_method_13_code
def yX9_compare : MethodName := ⟨RX9, "compare", "(II)I"⟩
abbrev cX9_scalar : ByteArray := prog_1_method_14_code
def yX9_scalar : MethodName := ⟨RX9, "scalar", "(IIII)I"⟩
abbrev cX9_isPoint : ByteArray := prog_1_method_15_code
def yX9_isPoint : MethodName := ⟨RX9, "isPoint", "(I)I"⟩
abbrev cX9_across : ByteArray := prog_1_method_16_code
def yX9_across : MethodName := ⟨RX9, "across", "(II)I"⟩
abbrev cX9_sum : ByteArray := prog_1_method_17_code
def yX9_sum : MethodName := ⟨RX9, "sum", "(IIII)I"⟩
abbrev cX9_times : ByteArray := prog_1_method_18_code
def yX9_times : MethodName := ⟨RX9, "times", "(III)I"⟩
abbrev cX9_base : ByteArray := prog_1_method_19_code
def yX9_base : MethodName := ⟨RX9, "base", "(II)I"⟩
abbrev cX9_small : ByteArray := prog_1_method_20_code
def yX9_small : MethodName := ⟨RX9, "small", "(I)I"⟩
abbrev cX9_other : ByteArray := prog_1_method_21_code
def yX9_other : MethodName := ⟨RX9, "other", "(II)I"⟩
abbrev cX9_share : ByteArray := prog_1_method_22_code
def yX9_share : MethodName := ⟨RX9, "share", "(III)I"⟩
abbrev cX9_digest : ByteArray := prog_1_method_23_code
def yX9_digest : MethodName := ⟨RX9, "digest", "(I)I"⟩
abbrev cX9_key : ByteArray := prog_1_method_24_code
def yX9_key : MethodName := ⟨RX9, "key", "(II)I"⟩
abbrev cX9_sign : ByteArray := prog_1_method_25_code
def yX9_sign : MethodName := ⟨RX9, "sign", "(II)I"⟩
abbrev cX9_judge : ByteArray := prog_1_method_26_code
def yX9_judge : MethodName := ⟨RX9, "judge", "(II)I"⟩
abbrev cX9_count : ByteArray := prog_1_method_27_code
def yX9_count : MethodName := ⟨RX9, "count", "(I)I"⟩
abbrev cX9_isSlot : ByteArray := prog_1_method_28_code
def yX9_isSlot : MethodName := ⟨RX9, "isSlot", "(I)Z"⟩
abbrev cX9_isPair : ByteArray := prog_1_method_29_code
def yX9_isPair : MethodName := ⟨RX9, "isPair", "(I)Z"⟩
abbrev cX9_isWithin : ByteArray := prog_1_method_30_code
def yX9_isWithin : MethodName := ⟨RX9, "isWithin", "(II)Z"⟩
abbrev cX9_told : ByteArray := prog_1_method_31_code
def yX9_told : MethodName := ⟨RX9, "told", "(Z)I"⟩
abbrev cX9_combine : ByteArray := prog_1_method_32_code
def yX9_combine : MethodName := ⟨RX9, "combine", "(I)V"⟩
def RX10 : String := "LadderSignsModel"
def TX10 : u_T := fun k => match k with
  | 0 => ("LadderSignsModel", "slots", "[J", true)
  | 1 => ("LadderSignsModel", "text", "[I", true)
  | 2 => ("LadderSignsModel", "size", "I", false)
  | 3 => ("LadderSignsModel", "work", "I", false)
  | 4 => ("LadderSignsModel", "signed", "I", false)
  | 5 => ("LadderSignsModel", "judged", "I", false)
  | 6 => ("LadderSignsModel", "right", "I", false)
  | 7 => ("LadderSignsModel", "g", "[J", true)
  | 8 => ("LadderSignsModel", "product", "[J", true)
  | 9 => ("LadderSignsModel", "w", "[J", true)
  | 10 => ("LadderSignsModel", "first", "[J", true)
  | 11 => ("LadderSignsModel", "third", "[J", true)
  | 12 => ("LadderSignsModel", "root", "[J", true)
  | 13 => ("LadderSignsModel", "square", "[J", true)
  | 14 => ("LadderSignsModel", "cube", "[J", true)
  | 15 => ("LadderSignsModel", "message", "[I", true)
  | 16 => ("LadderSignsModel", "messageSize", "I", false)
  | 17 => ("LadderSignsModel", "schedule", "[J", true)
  | 18 => ("LadderSignsModel", "state", "[J", true)
  | 19 => ("LadderSignsModel", "v", "[J", true)
  | 20 => ("LadderSignsModel", "digest", "[I", true)
  | 21 => ("LadderSignsModel", "great", "[J", true)
  | _ => ("LadderSignsModel", "rest", "[J", true)
def tyX10 : Nat → FieldType := fun k => match k with
  | 0 => .array .long
  | 1 => .array .int
  | 2 => .int
  | 3 => .int
  | 4 => .int
  | 5 => .int
  | 6 => .int
  | 7 => .array .long
  | 8 => .array .long
  | 9 => .array .long
  | 10 => .array .long
  | 11 => .array .long
  | 12 => .array .long
  | 13 => .array .long
  | 14 => .array .long
  | 15 => .array .int
  | 16 => .int
  | 17 => .array .long
  | 18 => .array .long
  | 19 => .array .long
  | 20 => .array .int
  | 21 => .array .long
  | _ => .array .long
abbrev wsX100 : List Cond := u_ws RX10 TX10 23
theorem nmX10 : ∀ a, a < 23 → ∀ b, b < 23 → a ≠ b → (TX10 a).2.1 ≠ (TX10 b).2.1 := by decide +kernel
theorem tyX10_ok : ∀ k, k < 23 → parseFieldDescriptor (TX10 k).2.2.1 = some (tyX10 k) := by decide +kernel
abbrev cX10_init : ByteArray := prog_12_method_1_code
def yX10_init : MethodName := ⟨RX10, "<init>", "()V"⟩
abbrev cX10_in : ByteArray := prog_12_method_3_code
def yX10_in : MethodName := ⟨RX10, "in", "(III)Z"⟩
abbrev cX10_isSlot : ByteArray := prog_12_method_4_code
def yX10_isSlot : MethodName := ⟨RX10, "isSlot", "(I)Z"⟩
abbrev cX10_words : ByteArray := prog_12_method_5_code
def yX10_words : MethodName := ⟨RX10, "words", "(IJJJJ)V"⟩
abbrev cX10_fromSlot : ByteArray := prog_12_method_6_code
def yX10_fromSlot : MethodName := ⟨RX10, "fromSlot", "(II)V"⟩
abbrev cX10_toSlot : ByteArray := prog_12_method_7_code
def yX10_toSlot : MethodName := ⟨RX10, "toSlot", "(II)V"⟩
abbrev cX10_bit : ByteArray := prog_12_method_8_code
def yX10_bit : MethodName := ⟨RX10, "bit", "(II)I"⟩
abbrev cX10_isBelow : ByteArray := prog_12_method_9_code
def yX10_isBelow : MethodName := ⟨RX10, "isBelow", "(JJ)Z"⟩
abbrev cX10_against : ByteArray := prog_12_method_10_code
def yX10_against : MethodName := ⟨RX10, "against", "(II)I"⟩
abbrev cX10_put : ByteArray := prog_12_method_11_code
def yX10_put : MethodName := ⟨RX10, "put", "(IJ)V"⟩
abbrev cX10_copyOf : ByteArray := prog_12_method_12_code
def yX10_copyOf : MethodName := ⟨RX10, "copyOf", "(II)V"⟩
abbrev cX10_reduce : ByteArray := prog_12_method_13_code
def yX10_reduce : MethodName := ⟨RX10, "reduce", "(I)V"⟩
abbrev cX10_add : ByteArray := prog_12_method_14_code
def yX10_add : MethodName := ⟨RX10, "add", "(III)V"⟩
abbrev cX10_subtract : ByteArray := prog_12_method_15_code
def yX10_subtract : MethodName := ⟨RX10, "subtract", "(III)V"⟩
abbrev cX10_multiply : ByteArray := prog_12_method_16_code
def yX10_multiply : MethodName := ⟨RX10, "multiply", "(III)V"⟩
abbrev cX10_raise : ByteArray := prog_12_method_17_code
def yX10_raise : MethodName := ⟨RX10, "raise", "(III)V"⟩
abbrev cX10_invert : ByteArray := prog_12_method_18_code
def yX10_invert : MethodName := ⟨RX10, "invert", "(II)V"⟩
abbrev cX10_pack : ByteArray := prog_12_method_19_code
def yX10_pack : MethodName := ⟨RX10, "pack", "(II)V"⟩
abbrev cX10_lessPrime : ByteArray := prog_12_method_20_code
def yX10_lessPrime : MethodName := ⟨RX10, "lessPrime", "()V"⟩
abbrev cX10_unpack : ByteArray := prog_12_method_21_code
def yX10_unpack : MethodName := ⟨RX10, "unpack", "(II)V"⟩
abbrev cX10_isSame : ByteArray := prog_12_method_22_code
def yX10_isSame : MethodName := ⟨RX10, "isSame", "(II)Z"⟩
abbrev cX10_lowest : ByteArray := prog_12_method_23_code
def yX10_lowest : MethodName := ⟨RX10, "lowest", "(I)I"⟩
abbrev cX10_roots : ByteArray := prog_12_method_24_code
def yX10_roots : MethodName := ⟨RX10, "roots", "(II)Z"⟩
abbrev cX10_neutral : ByteArray := prog_12_method_25_code
def yX10_neutral : MethodName := ⟨RX10, "neutral", "(I)V"⟩
abbrev cX10_addPoint : ByteArray := prog_12_method_27_code
def yX10_addPoint : MethodName := ⟨RX10, "addPoint", "(II)V"⟩
abbrev cX10_many : ByteArray := prog_12_method_28_code
def yX10_many : MethodName := ⟨RX10, "many", "(III)V"⟩
abbrev cX10_bytes : ByteArray := prog_12_method_29_code
def yX10_bytes : MethodName := ⟨RX10, "bytes", "(II)V"⟩
abbrev cX10_open : ByteArray := prog_12_method_30_code
def yX10_open : MethodName := ⟨RX10, "open", "(II)Z"⟩
abbrev cX10_isNeutral : ByteArray := prog_12_method_31_code
def yX10_isNeutral : MethodName := ⟨RX10, "isNeutral", "(I)Z"⟩
abbrev cX10_isPrime : ByteArray := prog_12_method_32_code
def yX10_isPrime : MethodName := ⟨RX10, "isPrime", "(I)Z"⟩
abbrev cX10_powers : ByteArray := prog_12_method_33_code
def yX10_powers : MethodName := ⟨RX10, "powers", "()V"⟩
abbrev cX10_behindPoint : ByteArray := prog_12_method_34_code
def yX10_behindPoint : MethodName := ⟨RX10, "behindPoint", "(IZ)J"⟩
abbrev cX10_roots_ : ByteArray := prog_12_method_35_code
def yX10_roots_ : MethodName := ⟨RX10, "roots", "()V"⟩
abbrev cX10_tell : ByteArray := prog_12_method_36_code
def yX10_tell : MethodName := ⟨RX10, "tell", "(I)V"⟩
abbrev cX10_tellWords : ByteArray := prog_12_method_37_code
def yX10_tellWords : MethodName := ⟨RX10, "tellWords", "(I)V"⟩
abbrev cX10_tellText : ByteArray := prog_12_method_38_code
def yX10_tellText : MethodName := ⟨RX10, "tellText", "()V"⟩
abbrev cX10_turned : ByteArray := prog_12_method_39_code
def yX10_turned : MethodName := ⟨RX10, "turned", "(JI)J"⟩
abbrev cX10_block : ByteArray := prog_12_method_40_code
def yX10_block : MethodName := ⟨RX10, "block", "(I)V"⟩
abbrev cX10_digests : ByteArray := prog_12_method_41_code
def yX10_digests : MethodName := ⟨RX10, "digests", "()V"⟩
abbrev cX10_digestWords : ByteArray := prog_12_method_42_code
def yX10_digestWords : MethodName := ⟨RX10, "digestWords", "(II)V"⟩
abbrev cX10_limb : ByteArray := prog_12_method_43_code
def yX10_limb : MethodName := ⟨RX10, "limb", "(JI)J"⟩
abbrev cX10_modulo : ByteArray := prog_12_method_44_code
def yX10_modulo : MethodName := ⟨RX10, "modulo", "(I)V"⟩
abbrev cX10_lessOrder : ByteArray := prog_12_method_45_code
def yX10_lessOrder : MethodName := ⟨RX10, "lessOrder", "()V"⟩
abbrev cX10_scalarOf : ByteArray := prog_12_method_46_code
def yX10_scalarOf : MethodName := ⟨RX10, "scalarOf", "(IIII)V"⟩
abbrev cX10_digestScalar : ByteArray := prog_12_method_47_code
def yX10_digestScalar : MethodName := ⟨RX10, "digestScalar", "(I)V"⟩
abbrev cX10_set : ByteArray := prog_12_method_48_code
def yX10_set : MethodName := ⟨RX10, "set", "(IIJ)I"⟩
abbrev cX10_word : ByteArray := prog_12_method_49_code
def yX10_word : MethodName := ⟨RX10, "word", "(II)J"⟩
abbrev cX10_copy : ByteArray := prog_12_method_50_code
def yX10_copy : MethodName := ⟨RX10, "copy", "(II)I"⟩
abbrev cX10_type : ByteArray := prog_12_method_51_code
def yX10_type : MethodName := ⟨RX10, "type", "(JI)I"⟩
abbrev cX10_clear : ByteArray := prog_12_method_52_code
def yX10_clear : MethodName := ⟨RX10, "clear", "()I"⟩
abbrev cX10_at : ByteArray := prog_12_method_53_code
def yX10_at : MethodName := ⟨RX10, "at", "(I)I"⟩
abbrev cX10_flip : ByteArray := prog_12_method_54_code
def yX10_flip : MethodName := ⟨RX10, "flip", "(III)I"⟩
abbrev cX10_load : ByteArray := prog_12_method_55_code
def yX10_load : MethodName := ⟨RX10, "load", "(II)V"⟩
abbrev cX10_store : ByteArray := prog_12_method_56_code
def yX10_store : MethodName := ⟨RX10, "store", "(II)V"⟩
abbrev cX10_field : ByteArray := prog_12_method_57_code
def yX10_field : MethodName := ⟨RX10, "field", "(IIII)I"⟩
abbrev cX10_power : ByteArray := prog_12_method_58_code
def yX10_power : MethodName := ⟨RX10, "power", "(III)I"⟩
abbrev cX10_root : ByteArray := prog_12_method_59_code
def yX10_root : MethodName := ⟨RX10, "root", "(II)I"⟩
abbrev cX10_about : ByteArray := prog_12_method_60_code
def yX10_about : MethodName := ⟨RX10, "about", "(II)I"⟩
abbrev cX10_compare : ByteArray := prog_12_method_61_code
def yX10_compare : MethodName := ⟨RX10, "compare", "(II)I"⟩
abbrev cX10_scalar : ByteArray := prog_12_method_62_code
def yX10_scalar : MethodName := ⟨RX10, "scalar", "(IIII)I"⟩
abbrev cX10_opens : ByteArray := prog_12_method_63_code
def yX10_opens : MethodName := ⟨RX10, "opens", "(II)Z"⟩
abbrev cX10_storePoint : ByteArray := prog_12_method_64_code
def yX10_storePoint : MethodName := ⟨RX10, "storePoint", "(II)V"⟩
abbrev cX10_isPoint : ByteArray := prog_12_method_65_code
def yX10_isPoint : MethodName := ⟨RX10, "isPoint", "(I)I"⟩
abbrev cX10_across : ByteArray := prog_12_method_66_code
def yX10_across : MethodName := ⟨RX10, "across", "(II)I"⟩
abbrev cX10_negate : ByteArray := prog_12_method_67_code
def yX10_negate : MethodName := ⟨RX10, "negate", "(I)V"⟩
abbrev cX10_sum : ByteArray := prog_12_method_68_code
def yX10_sum : MethodName := ⟨RX10, "sum", "(IIII)I"⟩
abbrev cX10_times : ByteArray := prog_12_method_69_code
def yX10_times : MethodName := ⟨RX10, "times", "(III)I"⟩
abbrev cX10_base : ByteArray := prog_12_method_70_code
def yX10_base : MethodName := ⟨RX10, "base", "(II)I"⟩
abbrev cX10_small : ByteArray := prog_12_method_71_code
def yX10_small : MethodName := ⟨RX10, "small", "(I)I"⟩
abbrev cX10_other : ByteArray := prog_12_method_72_code
def yX10_other : MethodName := ⟨RX10, "other", "(II)I"⟩
abbrev cX10_clamp : ByteArray := prog_12_method_73_code
def yX10_clamp : MethodName := ⟨RX10, "clamp", "(I)V"⟩
abbrev cX10_swap : ByteArray := prog_12_method_74_code
def yX10_swap : MethodName := ⟨RX10, "swap", "(II)V"⟩
abbrev cX10_share : ByteArray := prog_12_method_75_code
def yX10_share : MethodName := ⟨RX10, "share", "(III)I"⟩
abbrev cX10_digest : ByteArray := prog_12_method_76_code
def yX10_digest : MethodName := ⟨RX10, "digest", "(I)I"⟩
abbrev cX10_open_ : ByteArray := prog_12_method_77_code
def yX10_open_ : MethodName := ⟨RX10, "open", "(I)V"⟩
abbrev cX10_key : ByteArray := prog_12_method_78_code
def yX10_key : MethodName := ⟨RX10, "key", "(II)I"⟩
abbrev cX10_sign : ByteArray := prog_12_method_79_code
def yX10_sign : MethodName := ⟨RX10, "sign", "(II)I"⟩
abbrev cX10_eightTimes : ByteArray := prog_12_method_80_code
def yX10_eightTimes : MethodName := ⟨RX10, "eightTimes", "(I)V"⟩
abbrev cX10_isRight : ByteArray := prog_12_method_81_code
def yX10_isRight : MethodName := ⟨RX10, "isRight", "(II)Z"⟩
abbrev cX10_judge : ByteArray := prog_12_method_82_code
def yX10_judge : MethodName := ⟨RX10, "judge", "(II)I"⟩
abbrev cX10_count : ByteArray := prog_12_method_83_code
def yX10_count : MethodName := ⟨RX10, "count", "(I)I"⟩
def RJ10 : String := "java/lang/System"
def TJ10 : u_T := fun k => match k with
  | _ => ("", "", "", false)
def tyJ10 : Nat → FieldType := fun k => match k with
  | _ => .int
abbrev wsJ100 : List Cond := u_ws RJ10 TJ10 0
theorem nmJ10 : ∀ a, a < 0 → ∀ b, b < 0 → a ≠ b → (TJ10 a).2.1 ≠ (TJ10 b).2.1 := by decide +kernel
theorem tyJ10_ok : ∀ k, k < 0 → parseFieldDescriptor (TJ10 k).2.2.1 = some (tyJ10 k) := by decide +kernel
def RJ7 : String := "java/util/Arrays"
def TJ7 : u_T := fun k => match k with
  | _ => ("", "", "", false)
def tyJ7 : Nat → FieldType := fun k => match k with
  | _ => .int
abbrev wsJ70 : List Cond := u_ws RJ7 TJ7 0
theorem nmJ7 : ∀ a, a < 0 → ∀ b, b < 0 → a ≠ b → (TJ7 a).2.1 ≠ (TJ7 b).2.1 := by decide +kernel
theorem tyJ7_ok : ∀ k, k < 0 → parseFieldDescriptor (TJ7 k).2.2.1 = some (tyJ7 k) := by decide +kernel
abbrev cJ7_fill_d0a16 : ByteArray := prog_14_method_101_code
def yJ7_fill_d0a16 : MethodName := ⟨RJ7, "fill", "([JJ)V"⟩
def RL : String := "LadderSignsLaw"
abbrev cL_law : ByteArray := code
def yL_law : MethodName := ⟨RL, "law", "([I)Z"⟩
abbrev vwCl : List vw_C := [(RX0, TX0, 14), (RX1, TX1, 8), (RX2, TX2, 11), (RX3, TX3, 4), (RX4, TX4, 3), (RX5, TX5, 4), (RX6, TX6, 12), (RX7, TX7, 2), (RX9, TX9, 17), (RX10, TX10, 23)]
def wsL_law_r1 : List Cond := [Cond.classLink RL 7 RX9, Cond.instantiable RX9 17, Cond.initialized RX9, Cond.classLink RL 10 RX10, Cond.instantiable RX10 23, Cond.initialized RX10, Cond.constantLong RL 13 (4294967295), Cond.methodLink RL 9 yX9_init, Cond.instanceMethod yX9_init, Cond.code yX9_init cX9_init 1 none, Cond.methodLink RX9 1 objectInit, Cond.instanceMethod objectInit, Cond.code objectInit ⟨#[0xb1]⟩ 1 none, Cond.classLink RX9 11 "[[J", Cond.arrayClass .long, Cond.fieldLink RX9 13 "LadderSigns" "slots" "[[J", Cond.classLink RX9 16 RX7, Cond.instantiable RX7 2, Cond.initialized RX7, Cond.fieldLink RX9 19 "LadderSigns" "text" "LLadderSigns$Text;", Cond.fieldLink RX9 23 "LadderSigns" "workLeft" "I", Cond.fieldLink RX9 27 "LadderSigns" "signaturesMade" "I", Cond.fieldLink RX9 30 "LadderSigns" "judged" "I", Cond.fieldLink RX9 33 "LadderSigns" "judgedRight" "I"]
def wsL_law_r2 : List Cond := [Cond.classLink RX9 36 RX1, Cond.instantiable RX1 8, Cond.initialized RX1, Cond.fieldLink RX9 39 "LadderSigns" "numbers" "LLadderSigns$FieldNumbers;", Cond.classLink RX9 43 RX4, Cond.instantiable RX4 3, Cond.initialized RX4, Cond.fieldLink RX9 46 "LadderSigns" "scalars" "LLadderSigns$Scalars;", Cond.classLink RX9 50 RX0, Cond.instantiable RX0 14, Cond.initialized RX0, Cond.fieldLink RX9 55 "LadderSigns" "curve" "LLadderSigns$Curve;", Cond.classLink RX9 59 RX2, Cond.instantiable RX2 11, Cond.initialized RX2, Cond.fieldLink RX9 62 "LadderSigns" "ladder" "LLadderSigns$Ladder;", Cond.classLink RX9 66 RX5, Cond.instantiable RX5 4, Cond.initialized RX5, Cond.fieldLink RX9 69 "LadderSigns" "sha" "LLadderSigns$Sha512;", Cond.classLink RX9 73 RX6, Cond.instantiable RX6 12, Cond.initialized RX6, Cond.fieldLink RX9 78 "LadderSigns" "signer" "LLadderSigns$Signer;"]
def wsL_law_r3 : List Cond := [Cond.fieldLink RX9 82 "LadderSigns" "first" "[J", Cond.fieldLink RX9 86 "LadderSigns" "second" "[J", Cond.fieldLink RX9 89 "LadderSigns" "hash" "[J", Cond.classLink RX9 92 RX3, Cond.instantiable RX3 4, Cond.initialized RX3, Cond.fieldLink RX9 95 "LadderSigns" "left" "LLadderSigns$Point;", Cond.fieldLink RX9 99 "LadderSigns" "right" "LLadderSigns$Point;", Cond.instanceMethod yX7_init, Cond.code yX7_init cX7_init 1 none, Cond.methodLink RX7 1 objectInit, Cond.arrayClass .byte, Cond.fieldLink RX7 9 "LadderSigns$Text" "bytes" "[B", Cond.fieldLink RX7 13 "LadderSigns$Text" "length" "I", Cond.methodLink RX9 38 yX1_init, Cond.instanceMethod yX1_init, Cond.code yX1_init cX1_init 1 none, Cond.methodLink RX1 3 objectInit, Cond.fieldLink RX1 9 "LadderSigns$FieldNumbers" "zero" "[J", Cond.fieldLink RX1 13 "LadderSigns$FieldNumbers" "rootOfMinusOne" "[J", Cond.fieldLink RX1 16 "LadderSigns$FieldNumbers" "wide" "[J", Cond.fieldLink RX1 19 "LadderSigns$FieldNumbers" "exact" "[J", Cond.fieldLink RX1 22 "LadderSigns$FieldNumbers" "difference" "[J", Cond.fieldLink RX1 25 "LadderSigns$FieldNumbers" "candidate" "[J"]
def wsL_law_r4 : List Cond := [Cond.fieldLink RX1 28 "LadderSigns$FieldNumbers" "itsSquare" "[J", Cond.classLink RX1 31 "[[J", Cond.fieldLink RX1 33 "LadderSigns$FieldNumbers" "powers" "[[J", Cond.fieldLink RX1 36 "LadderSigns$FieldNumbers" "ROOT_OF_MINUS_ONE" "[J", Cond.methodLink RX1 39 yX1_load, Cond.instanceMethod yX1_load, Cond.selects RX1 yX1_load yX1_load, Cond.code yX1_load cX1_load 8 none, Cond.constantLong RX1 45 (67108863), Cond.constantLong RX1 47 (2097151), Cond.instanceMethod yX4_init, Cond.code yX4_init cX4_init 1 none, Cond.methodLink RX4 1 objectInit, Cond.fieldLink RX4 9 "LadderSigns$Scalars" "factor" "[J", Cond.fieldLink RX4 15 "LadderSigns$Scalars" "total" "[J", Cond.fieldLink RX4 18 "LadderSigns$Scalars" "summand" "[J", Cond.methodLink RX9 52 yX0_init, Cond.instanceMethod yX0_init, Cond.code yX0_init cX0_init 3 none, Cond.methodLink RX0 1 objectInit, Cond.classLink RX0 7 RX3, Cond.fieldLink RX0 10 "LadderSigns$Curve" "basePoint" "LLadderSigns$Point;", Cond.fieldLink RX0 18 "LadderSigns$Curve" "one" "[J", Cond.fieldLink RX0 22 "LadderSigns$Curve" "d" "[J"]
def wsL_law_r5 : List Cond := [Cond.fieldLink RX0 25 "LadderSigns$Curve" "twiceD" "[J", Cond.fieldLink RX0 28 "LadderSigns$Curve" "a" "[J", Cond.fieldLink RX0 31 "LadderSigns$Curve" "b" "[J", Cond.fieldLink RX0 34 "LadderSigns$Curve" "c" "[J", Cond.fieldLink RX0 37 "LadderSigns$Curve" "e" "[J", Cond.fieldLink RX0 40 "LadderSigns$Curve" "f" "[J", Cond.fieldLink RX0 43 "LadderSigns$Curve" "g" "[J", Cond.fieldLink RX0 46 "LadderSigns$Curve" "h" "[J", Cond.fieldLink RX0 51 "LadderSigns$Curve" "lowBits" "[J", Cond.fieldLink RX0 54 "LadderSigns$Curve" "table" "[LLadderSigns$Point;", Cond.fieldLink RX0 58 "LadderSigns$Curve" "numbers" "LLadderSigns$FieldNumbers;", Cond.fieldLink RX0 66 "LadderSigns$Curve" "D" "[J", Cond.fieldLink RX0 77 "LadderSigns$Curve" "BASE_X" "[J", Cond.fieldLink RX0 80 "LadderSigns$Point" "x" "[J", Cond.fieldLink RX0 83 "LadderSigns$Curve" "BASE_Y" "[J", Cond.fieldLink RX0 86 "LadderSigns$Point" "y" "[J", Cond.instanceMethod yX3_init, Cond.code yX3_init cX3_init 1 none, Cond.methodLink RX3 1 objectInit, Cond.fieldLink RX3 9 "LadderSigns$Point" "x" "[J", Cond.fieldLink RX3 15 "LadderSigns$Point" "y" "[J", Cond.fieldLink RX3 18 "LadderSigns$Point" "z" "[J", Cond.fieldLink RX3 21 "LadderSigns$Point" "t" "[J", Cond.methodLink RX0 62 yX1_become]
def wsL_law_r6 : List Cond := [Cond.instanceMethod yX1_become, Cond.selects RX1 yX1_become yX1_become, Cond.code yX1_become cX1_become 4 none, Cond.methodLink RX1 53 yJ7_fill_d0a16, Cond.static yJ7_fill_d0a16, Cond.initialized RJ7, Cond.code yJ7_fill_d0a16 cJ7_fill_d0a16 5 none, Cond.methodLink RX0 69 yX1_load, Cond.methodLink RX0 73 yX1_add, Cond.instanceMethod yX1_add, Cond.selects RX1 yX1_add yX1_add, Cond.code yX1_add cX1_add 5 none, Cond.methodLink RX0 89 yX0_complete, Cond.instanceMethod yX0_complete, Cond.selects RX0 yX0_complete yX0_complete, Cond.code yX0_complete cX0_complete 2 none, Cond.fieldLink RX0 93 "LadderSigns$Point" "z" "[J", Cond.fieldLink RX0 96 "LadderSigns$Point" "t" "[J", Cond.methodLink RX0 99 yX1_multiply, Cond.instanceMethod yX1_multiply, Cond.selects RX1 yX1_multiply yX1_multiply, Cond.code yX1_multiply cX1_multiply 8 none, Cond.methodLink RX1 72 yX1_fold, Cond.instanceMethod yX1_fold]
def wsL_law_r7 : List Cond := [Cond.selects RX1 yX1_fold yX1_fold, Cond.code yX1_fold cX1_fold 3 none, Cond.constantLong RX1 77 (608), Cond.methodLink RX1 69 yX1_carry, Cond.instanceMethod yX1_carry, Cond.selects RX1 yX1_carry yX1_carry, Cond.code yX1_carry cX1_carry 4 none, Cond.constantLong RX1 79 (19), Cond.methodLink RX9 61 yX2_init, Cond.instanceMethod yX2_init, Cond.code yX2_init cX2_init 2 none, Cond.methodLink RX2 1 objectInit, Cond.fieldLink RX2 9 "LadderSigns$Ladder" "secret" "[J", Cond.fieldLink RX2 17 "LadderSigns$Ladder" "x2" "[J", Cond.fieldLink RX2 20 "LadderSigns$Ladder" "z2" "[J", Cond.fieldLink RX2 23 "LadderSigns$Ladder" "x3" "[J", Cond.fieldLink RX2 26 "LadderSigns$Ladder" "z3" "[J", Cond.fieldLink RX2 29 "LadderSigns$Ladder" "a" "[J", Cond.fieldLink RX2 32 "LadderSigns$Ladder" "b" "[J", Cond.fieldLink RX2 35 "LadderSigns$Ladder" "c" "[J", Cond.fieldLink RX2 38 "LadderSigns$Ladder" "d" "[J", Cond.fieldLink RX2 41 "LadderSigns$Ladder" "e" "[J", Cond.fieldLink RX2 44 "LadderSigns$Ladder" "numbers" "LLadderSigns$FieldNumbers;", Cond.instanceMethod yX5_init]
def wsL_law_r8 : List Cond := [Cond.code yX5_init cX5_init 1 none, Cond.methodLink RX5 5 objectInit, Cond.fieldLink RX5 11 "LadderSigns$Sha512" "message" "[B", Cond.fieldLink RX5 15 "LadderSigns$Sha512" "length" "I", Cond.fieldLink RX5 19 "LadderSigns$Sha512" "schedule" "[J", Cond.fieldLink RX5 23 "LadderSigns$Sha512" "state" "[J", Cond.methodLink RX9 75 yX6_init, Cond.instanceMethod yX6_init, Cond.code yX6_init cX6_init 4 none, Cond.methodLink RX6 1 objectInit, Cond.fieldLink RX6 9 "LadderSigns$Signer" "hash" "[J", Cond.fieldLink RX6 17 "LadderSigns$Signer" "secretNumber" "[J", Cond.fieldLink RX6 20 "LadderSigns$Signer" "secretPrefix" "[J", Cond.fieldLink RX6 23 "LadderSigns$Signer" "nonce" "[J", Cond.fieldLink RX6 26 "LadderSigns$Signer" "challenge" "[J", Cond.fieldLink RX6 29 "LadderSigns$Signer" "keyRow" "[J", Cond.classLink RX6 32 RX3, Cond.fieldLink RX6 35 "LadderSigns$Signer" "keyPoint" "LLadderSigns$Point;", Cond.fieldLink RX6 39 "LadderSigns$Signer" "noncePoint" "LLadderSigns$Point;", Cond.fieldLink RX6 42 "LadderSigns$Signer" "product" "LLadderSigns$Point;", Cond.fieldLink RX6 45 "LadderSigns$Signer" "curve" "LLadderSigns$Curve;", Cond.fieldLink RX6 49 "LadderSigns$Signer" "scalars" "LLadderSigns$Scalars;", Cond.fieldLink RX6 53 "LadderSigns$Signer" "sha" "LLadderSigns$Sha512;", Cond.methodLink RL 12 yX10_init]
def wsL_law_r9 : List Cond := [Cond.instanceMethod yX10_init, Cond.code yX10_init cX10_init 1 none, Cond.methodLink RX10 1 objectInit, Cond.fieldLink RX10 7 "LadderSignsModel" "slots" "[J", Cond.arrayClass .int, Cond.fieldLink RX10 13 "LadderSignsModel" "text" "[I", Cond.fieldLink RX10 17 "LadderSignsModel" "work" "I", Cond.fieldLink RX10 21 "LadderSignsModel" "g" "[J", Cond.fieldLink RX10 24 "LadderSignsModel" "product" "[J", Cond.fieldLink RX10 27 "LadderSignsModel" "w" "[J", Cond.fieldLink RX10 30 "LadderSignsModel" "first" "[J", Cond.fieldLink RX10 33 "LadderSignsModel" "third" "[J", Cond.fieldLink RX10 36 "LadderSignsModel" "root" "[J", Cond.fieldLink RX10 39 "LadderSignsModel" "square" "[J", Cond.fieldLink RX10 42 "LadderSignsModel" "cube" "[J", Cond.fieldLink RX10 45 "LadderSignsModel" "message" "[I", Cond.fieldLink RX10 48 "LadderSignsModel" "schedule" "[J", Cond.fieldLink RX10 51 "LadderSignsModel" "state" "[J", Cond.fieldLink RX10 54 "LadderSignsModel" "v" "[J", Cond.fieldLink RX10 57 "LadderSignsModel" "digest" "[I", Cond.fieldLink RX10 60 "LadderSignsModel" "great" "[J", Cond.fieldLink RX10 63 "LadderSignsModel" "rest" "[J", Cond.constantLong RX10 66 (-19), Cond.constantLong RX10 68 (-1)]
def wsL_law_r10 : List Cond := [Cond.constantLong RX10 70 (9223372036854775807), Cond.constantLong RX10 76 (6346243789798364141), Cond.constantLong RX10 78 (1503914060200516822), Cond.constantLong RX10 80 (1152921504606846976), Cond.constantLong RX10 86 (2), Cond.constantLong RX10 88 (-5), Cond.constantLong RX10 90 (2305843009213693951), Cond.constantLong RX10 96 (121665), Cond.constantLong RX10 101 (121666), Cond.constantLong RX10 117 (4), Cond.constantLong RX10 119 (5), Cond.methodLink RX10 72 yX10_words, Cond.instanceMethod yX10_words, Cond.selects RX10 yX10_words yX10_words, Cond.code yX10_words cX10_words 10 none, Cond.methodLink RX10 82 yX10_put, Cond.instanceMethod yX10_put, Cond.selects RX10 yX10_put yX10_put, Cond.code yX10_put cX10_put 5 none, Cond.constantLong RX10 141 (65535), Cond.methodLink RX10 92 yX10_raise, Cond.instanceMethod yX10_raise, Cond.selects RX10 yX10_raise yX10_raise, Cond.code yX10_raise cX10_raise 5 none]
def wsL_law_r11 : List Cond := [Cond.methodLink RX10 145 yX10_copyOf, Cond.instanceMethod yX10_copyOf, Cond.selects RX10 yX10_copyOf yX10_copyOf, Cond.code yX10_copyOf cX10_copyOf 4 none, Cond.methodLink RX10 107 yX10_multiply, Cond.instanceMethod yX10_multiply, Cond.selects RX10 yX10_multiply yX10_multiply, Cond.code yX10_multiply cX10_multiply 6 none, Cond.constantLong RX10 143 (38), Cond.methodLink RX10 113 yX10_reduce, Cond.instanceMethod yX10_reduce, Cond.selects RX10 yX10_reduce yX10_reduce, Cond.code yX10_reduce cX10_reduce 5 none, Cond.methodLink RX10 148 yX10_bit, Cond.instanceMethod yX10_bit, Cond.selects RX10 yX10_bit yX10_bit, Cond.code yX10_bit cX10_bit 3 (some .int), Cond.methodLink RX10 98 yX10_subtract, Cond.instanceMethod yX10_subtract, Cond.selects RX10 yX10_subtract yX10_subtract, Cond.code yX10_subtract cX10_subtract 5 none, Cond.methodLink RX10 103 yX10_invert, Cond.instanceMethod yX10_invert, Cond.selects RX10 yX10_invert yX10_invert]
def wsL_law_r12 : List Cond := [Cond.code yX10_invert cX10_invert 3 none, Cond.constantLong RX10 152 (-21), Cond.methodLink RX10 110 yX10_add, Cond.instanceMethod yX10_add, Cond.selects RX10 yX10_add yX10_add, Cond.code yX10_add cX10_add 5 none, Cond.methodLink RX10 121 yX10_pack, Cond.instanceMethod yX10_pack, Cond.selects RX10 yX10_pack yX10_pack, Cond.code yX10_pack cX10_pack 5 none, Cond.methodLink RX10 154 yX10_lessPrime, Cond.instanceMethod yX10_lessPrime, Cond.selects RX10 yX10_lessPrime yX10_lessPrime, Cond.code yX10_lessPrime cX10_lessPrime 6 none, Cond.constantLong RX10 157 (65517), Cond.constantLong RX10 159 (32767), Cond.methodLink RX10 124 yX10_open, Cond.instanceMethod yX10_open, Cond.selects RX10 yX10_open yX10_open, Cond.code yX10_open cX10_open 5 (some .boolean), Cond.methodLink RX10 161 yX10_against, Cond.instanceMethod yX10_against, Cond.selects RX10 yX10_against yX10_against, Cond.code yX10_against cX10_against 4 (some .int)]
def wsL_law_r13 : List Cond := [Cond.methodLink RX10 137 yX10_isBelow, Cond.static yX10_isBelow, Cond.code yX10_isBelow cX10_isBelow 4 (some .boolean), Cond.constantLong RX10 135 (-9223372036854775808), Cond.methodLink RX10 181 yX10_unpack, Cond.instanceMethod yX10_unpack, Cond.selects RX10 yX10_unpack yX10_unpack, Cond.code yX10_unpack cX10_unpack 4 none, Cond.methodLink RX10 184 yX10_roots, Cond.instanceMethod yX10_roots, Cond.selects RX10 yX10_roots yX10_roots, Cond.code yX10_roots cX10_roots 3 (some .boolean), Cond.constantLong RX10 164 (-2), Cond.constantLong RX10 166 (1152921504606846975), Cond.methodLink RX10 168 yX10_isSame, Cond.instanceMethod yX10_isSame, Cond.selects RX10 yX10_isSame yX10_isSame, Cond.code yX10_isSame cX10_isSame 3 (some .boolean), Cond.methodLink RX10 177 yX10_lowest, Cond.instanceMethod yX10_lowest, Cond.selects RX10 yX10_lowest yX10_lowest, Cond.code yX10_lowest cX10_lowest 2 (some .int), Cond.methodLink RX10 128 yX10_roots_, Cond.instanceMethod yX10_roots_]
def wsL_law_r14 : List Cond := [Cond.selects RX10 yX10_roots_ yX10_roots_, Cond.code yX10_roots_ cX10_roots_ 3 none, Cond.methodLink RX10 189 yX10_isPrime, Cond.static yX10_isPrime, Cond.code yX10_isPrime cX10_isPrime 3 (some .boolean), Cond.methodLink RX10 193 yX10_behindPoint, Cond.instanceMethod yX10_behindPoint, Cond.selects RX10 yX10_behindPoint yX10_behindPoint, Cond.code yX10_behindPoint cX10_behindPoint 6 (some .long), Cond.methodLink RX10 186 yX10_powers, Cond.instanceMethod yX10_powers, Cond.selects RX10 yX10_powers yX10_powers, Cond.code yX10_powers cX10_powers 3 none, Cond.methodLink RL 15 yX9_set, Cond.instanceMethod yX9_set, Cond.selects RX9 yX9_set yX9_set, Cond.code yX9_set cX9_set 5 (some .int), Cond.methodLink RX9 102 yX9_isSlot, Cond.static yX9_isSlot, Cond.code yX9_isSlot cX9_isSlot 1 (some .boolean), Cond.methodLink RX9 106 yX9_isWithin, Cond.static yX9_isWithin, Cond.code yX9_isWithin cX9_isWithin 2 (some .boolean), Cond.methodLink RL 19 yX10_set]
def wsL_law_r15 : List Cond := [Cond.instanceMethod yX10_set, Cond.selects RX10 yX10_set yX10_set, Cond.code yX10_set cX10_set 5 (some .int), Cond.methodLink RX10 222 yX10_isSlot, Cond.static yX10_isSlot, Cond.code yX10_isSlot cX10_isSlot 1 (some .boolean), Cond.methodLink RX10 131 yX10_in, Cond.static yX10_in, Cond.code yX10_in cX10_in 3 (some .boolean), Cond.methodLink RL 20 yX9_word, Cond.instanceMethod yX9_word, Cond.selects RX9 yX9_word yX9_word, Cond.code yX9_word cX9_word 3 (some .long), Cond.methodLink RL 24 yX10_word, Cond.instanceMethod yX10_word, Cond.selects RX10 yX10_word yX10_word, Cond.code yX10_word cX10_word 3 (some .long), Cond.methodLink RL 25 yX9_copy, Cond.instanceMethod yX9_copy, Cond.selects RX9 yX9_copy yX9_copy, Cond.code yX9_copy cX9_copy 3 (some .int), Cond.methodLink RX9 110 yX8_move, Cond.static yX8_move, Cond.initialized RX8]
def wsL_law_r16 : List Cond := [Cond.code yX8_move cX8_move 2 none, Cond.methodLink RX8 9 arraycopyName, Cond.native arraycopyName, Cond.static arraycopyName, Cond.initialized "java/lang/System", Cond.methodLink RL 29 yX10_copy, Cond.instanceMethod yX10_copy, Cond.selects RX10 yX10_copy yX10_copy, Cond.code yX10_copy cX10_copy 3 (some .int), Cond.methodLink RX10 225 yX10_fromSlot, Cond.instanceMethod yX10_fromSlot, Cond.selects RX10 yX10_fromSlot yX10_fromSlot, Cond.code yX10_fromSlot cX10_fromSlot 3 none, Cond.methodLink RX10 228 yX10_toSlot, Cond.instanceMethod yX10_toSlot, Cond.selects RX10 yX10_toSlot yX10_toSlot, Cond.code yX10_toSlot cX10_toSlot 4 none, Cond.methodLink RL 30 yX9_type, Cond.instanceMethod yX9_type, Cond.selects RX9 yX9_type yX9_type, Cond.code yX9_type cX9_type 4 (some .int), Cond.fieldLink RX9 114 "LadderSigns$Text" "length" "I", Cond.methodLink RX9 117 yX7_append, Cond.instanceMethod yX7_append]
def wsL_law_r17 : List Cond := [Cond.selects RX7 yX7_append yX7_append, Cond.code yX7_append cX7_append 5 none, Cond.methodLink RL 34 yX10_type, Cond.instanceMethod yX10_type, Cond.selects RX10 yX10_type yX10_type, Cond.code yX10_type cX10_type 5 (some .int), Cond.fieldLink RX10 203 "LadderSignsModel" "size" "I", Cond.methodLink RL 35 yX9_clear, Cond.instanceMethod yX9_clear, Cond.selects RX9 yX9_clear yX9_clear, Cond.code yX9_clear cX9_clear 2 (some .int), Cond.methodLink RL 39 yX10_clear, Cond.instanceMethod yX10_clear, Cond.selects RX10 yX10_clear yX10_clear, Cond.code yX10_clear cX10_clear 2 (some .int), Cond.methodLink RL 40 yX9_at, Cond.instanceMethod yX9_at, Cond.selects RX9 yX9_at yX9_at, Cond.code yX9_at cX9_at 2 (some .int), Cond.methodLink RX9 121 yX7_byteAt, Cond.instanceMethod yX7_byteAt, Cond.selects RX7 yX7_byteAt yX7_byteAt, Cond.code yX7_byteAt cX7_byteAt 2 (some .int), Cond.methodLink RL 44 yX10_at]
def wsL_law_r18 : List Cond := [Cond.instanceMethod yX10_at, Cond.selects RX10 yX10_at yX10_at, Cond.code yX10_at cX10_at 2 (some .int), Cond.methodLink RL 45 yX9_flip, Cond.instanceMethod yX9_flip, Cond.selects RX9 yX9_flip yX9_flip, Cond.code yX9_flip cX9_flip 5 (some .int), Cond.methodLink RX9 125 yX8_bit, Cond.static yX8_bit, Cond.code yX8_bit cX8_bit 2 (some .int), Cond.methodLink RL 49 yX10_flip, Cond.instanceMethod yX10_flip, Cond.selects RX10 yX10_flip yX10_flip, Cond.code yX10_flip cX10_flip 5 (some .int), Cond.methodLink RL 50 yX9_field, Cond.instanceMethod yX9_field, Cond.selects RX9 yX9_field yX9_field, Cond.code yX9_field cX9_field 5 (some .int), Cond.methodLink RX9 129 yX1_load, Cond.methodLink RX9 132 yX1_isZero, Cond.instanceMethod yX1_isZero, Cond.selects RX1 yX1_isZero yX1_isZero, Cond.code yX1_isZero cX1_isZero 2 (some .boolean), Cond.methodLink RX1 49 yX1_makeExact]
def wsL_law_r19 : List Cond := [Cond.instanceMethod yX1_makeExact, Cond.selects RX1 yX1_makeExact yX1_makeExact, Cond.code yX1_makeExact cX1_makeExact 2 none, Cond.methodLink RX1 81 yX1_move, Cond.instanceMethod yX1_move, Cond.selects RX1 yX1_move yX1_move, Cond.code yX1_move cX1_move 3 none, Cond.methodLink RX1 59 arraycopyName, Cond.methodLink RX1 84 yX1_isNothing, Cond.static yX1_isNothing, Cond.code yX1_isNothing cX1_isNothing 4 (some .boolean), Cond.methodLink RX9 136 yX9_combine, Cond.instanceMethod yX9_combine, Cond.selects RX9 yX9_combine yX9_combine, Cond.code yX9_combine cX9_combine 2 none, Cond.methodLink RX9 247 yX1_add, Cond.methodLink RX9 249 yX1_subtract, Cond.instanceMethod yX1_subtract, Cond.selects RX1 yX1_subtract yX1_subtract, Cond.code yX1_subtract cX1_subtract 5 none, Cond.methodLink RX9 252 yX1_multiply, Cond.methodLink RX9 254 yX1_invert, Cond.instanceMethod yX1_invert, Cond.selects RX1 yX1_invert yX1_invert]
def wsL_law_r20 : List Cond := [Cond.code yX1_invert cX1_invert 3 none, Cond.fieldLink RX1 101 "LadderSigns$FieldNumbers" "INVERTING_POWER" "[J", Cond.methodLink RX1 104 yX1_raise, Cond.instanceMethod yX1_raise, Cond.selects RX1 yX1_raise yX1_raise, Cond.code yX1_raise cX1_raise 6 none, Cond.methodLink RX1 88 yX1_become, Cond.methodLink RX1 91 yX1_multiply, Cond.methodLink RX1 94 yX1_square, Cond.instanceMethod yX1_square, Cond.selects RX1 yX1_square yX1_square, Cond.code yX1_square cX1_square 7 none, Cond.constantLong RX1 75 (2), Cond.methodLink RX1 97 yX8_nibble, Cond.static yX8_nibble, Cond.code yX8_nibble cX8_nibble 2 (some .int), Cond.methodLink RX9 140 yX1_store, Cond.instanceMethod yX1_store, Cond.selects RX1 yX1_store yX1_store, Cond.code yX1_store cX1_store 6 none, Cond.methodLink RL 54 yX10_field, Cond.instanceMethod yX10_field, Cond.selects RX10 yX10_field yX10_field, Cond.code yX10_field cX10_field 5 (some .int)]
def wsL_law_r21 : List Cond := [Cond.methodLink RX10 231 yX10_load, Cond.instanceMethod yX10_load, Cond.selects RX10 yX10_load yX10_load, Cond.code yX10_load cX10_load 3 none, Cond.methodLink RX10 234 yX10_store, Cond.instanceMethod yX10_store, Cond.selects RX10 yX10_store yX10_store, Cond.code yX10_store cX10_store 3 none, Cond.methodLink RL 55 yX9_power, Cond.instanceMethod yX9_power, Cond.selects RX9 yX9_power yX9_power, Cond.code yX9_power cX9_power 4 (some .int), Cond.methodLink RX9 143 yX1_raise, Cond.methodLink RL 58 yX10_power, Cond.instanceMethod yX10_power, Cond.selects RX10 yX10_power yX10_power, Cond.code yX10_power cX10_power 4 (some .int), Cond.methodLink RL 59 yX9_root, Cond.instanceMethod yX9_root, Cond.selects RX9 yX9_root yX9_root, Cond.code yX9_root cX9_root 3 (some .int), Cond.methodLink RX9 147 yX1_findRoot, Cond.instanceMethod yX1_findRoot, Cond.selects RX1 yX1_findRoot yX1_findRoot]
def wsL_law_r22 : List Cond := [Cond.code yX1_findRoot cX1_findRoot 3 (some .boolean), Cond.fieldLink RX1 107 "LadderSigns$FieldNumbers" "ROOT_POWER" "[J", Cond.methodLink RX1 110 yX1_areSame, Cond.instanceMethod yX1_areSame, Cond.selects RX1 yX1_areSame yX1_areSame, Cond.code yX1_areSame cX1_areSame 3 (some .boolean), Cond.methodLink RX1 65 yX1_subtract, Cond.methodLink RX1 114 yX1_isOdd, Cond.instanceMethod yX1_isOdd, Cond.selects RX1 yX1_isOdd yX1_isOdd, Cond.code yX1_isOdd cX1_isOdd 2 (some .boolean), Cond.methodLink RX1 117 yX1_negate, Cond.instanceMethod yX1_negate, Cond.selects RX1 yX1_negate yX1_negate, Cond.code yX1_negate cX1_negate 3 none, Cond.methodLink RL 62 yX10_root, Cond.instanceMethod yX10_root, Cond.selects RX10 yX10_root yX10_root, Cond.code yX10_root cX10_root 3 (some .int), Cond.methodLink RL 63 yX9_about, Cond.instanceMethod yX9_about, Cond.selects RX9 yX9_about yX9_about, Cond.code yX9_about cX9_about 4 (some .int), Cond.fieldLink RX9 151 "LadderSigns$FieldNumbers" "PRIME" "[J"]
def wsL_law_r23 : List Cond := [Cond.methodLink RX9 154 yX8_order, Cond.static yX8_order, Cond.code yX8_order cX8_order 3 (some .int), Cond.constantLong RX8 15 (-9223372036854775808), Cond.methodLink RX9 158 yX9_told, Cond.static yX9_told, Cond.code yX9_told cX9_told 1 (some .int), Cond.methodLink RX9 162 yX4_isBelowOrder, Cond.static yX4_isBelowOrder, Cond.code yX4_isBelowOrder cX4_isBelowOrder 1 (some .boolean), Cond.fieldLink RX4 21 "LadderSigns$Scalars" "ORDER" "[J", Cond.methodLink RX4 24 yX8_order, Cond.methodLink RX9 165 yX1_isOdd, Cond.methodLink RX9 168 yX8_bitLength, Cond.static yX8_bitLength, Cond.code yX8_bitLength cX8_bitLength 2 (some .int), Cond.methodLink RX8 17 yX8_bit, Cond.methodLink RL 66 yX10_about, Cond.instanceMethod yX10_about, Cond.selects RX10 yX10_about yX10_about, Cond.code yX10_about cX10_about 4 (some .int), Cond.methodLink RL 67 yX9_compare, Cond.instanceMethod yX9_compare, Cond.selects RX9 yX9_compare yX9_compare]
def wsL_law_r24 : List Cond := [Cond.code yX9_compare cX9_compare 3 (some .int), Cond.methodLink RL 70 yX10_compare, Cond.instanceMethod yX10_compare, Cond.selects RX10 yX10_compare yX10_compare, Cond.code yX10_compare cX10_compare 3 (some .int), Cond.methodLink RL 71 yX9_scalar, Cond.instanceMethod yX9_scalar, Cond.selects RX9 yX9_scalar yX9_scalar, Cond.code yX9_scalar cX9_scalar 5 (some .int), Cond.methodLink RX9 172 yX4_multiplyAndAdd, Cond.instanceMethod yX4_multiplyAndAdd, Cond.selects RX4 yX4_multiplyAndAdd yX4_multiplyAndAdd, Cond.code yX4_multiplyAndAdd cX4_multiplyAndAdd 6 none, Cond.methodLink RX4 49 yX4_reduce, Cond.static yX4_reduce, Cond.code yX4_reduce cX4_reduce 4 none, Cond.fieldLink RX4 46 "LadderSigns$Scalars" "ONE" "[J", Cond.methodLink RX4 35 yJ7_fill_d0a16, Cond.methodLink RX4 41 yX4_increase, Cond.static yX4_increase, Cond.code yX4_increase cX4_increase 2 none, Cond.methodLink RX4 28 yX8_increase, Cond.static yX8_increase, Cond.code yX8_increase cX8_increase 11 none]
def wsL_law_r25 : List Cond := [Cond.constantLong RX8 21 (-1), Cond.methodLink RX4 32 yX8_decrease, Cond.static yX8_decrease, Cond.code yX8_decrease cX8_decrease 11 none, Cond.methodLink RX4 42 yX8_bit, Cond.methodLink RX4 53 yX8_move, Cond.methodLink RL 74 yX10_scalar, Cond.instanceMethod yX10_scalar, Cond.selects RX10 yX10_scalar yX10_scalar, Cond.code yX10_scalar cX10_scalar 5 (some .int), Cond.methodLink RX10 237 yX10_scalarOf, Cond.instanceMethod yX10_scalarOf, Cond.selects RX10 yX10_scalarOf yX10_scalarOf, Cond.code yX10_scalarOf cX10_scalarOf 7 none, Cond.methodLink RX10 216 yX10_limb, Cond.static yX10_limb, Cond.code yX10_limb cX10_limb 3 (some .long), Cond.methodLink RX10 219 yX10_modulo, Cond.instanceMethod yX10_modulo, Cond.selects RX10 yX10_modulo yX10_modulo, Cond.code yX10_modulo cX10_modulo 6 none, Cond.methodLink RX10 213 yX10_lessOrder, Cond.instanceMethod yX10_lessOrder, Cond.selects RX10 yX10_lessOrder yX10_lessOrder]
def wsL_law_r26 : List Cond := [Cond.code yX10_lessOrder cX10_lessOrder 6 none, Cond.methodLink RL 75 yX9_isPoint, Cond.instanceMethod yX9_isPoint, Cond.selects RX9 yX9_isPoint yX9_isPoint, Cond.code yX9_isPoint cX9_isPoint 2 (some .int), Cond.methodLink RX9 176 yX0_read, Cond.instanceMethod yX0_read, Cond.selects RX0 yX0_read yX0_read, Cond.code yX0_read cX0_read 3 (some .boolean), Cond.constantLong RX0 105 (9223372036854775807), Cond.fieldLink RX0 107 "LadderSigns$FieldNumbers" "PRIME" "[J", Cond.methodLink RX0 102 yX8_move, Cond.methodLink RX0 110 yX8_order, Cond.methodLink RX0 114 yX1_square, Cond.methodLink RX0 117 yX1_invert, Cond.methodLink RX0 120 yX1_subtract, Cond.methodLink RX0 123 yX1_findRoot, Cond.methodLink RX0 127 yX8_bit, Cond.methodLink RX0 131 yX1_isZero, Cond.methodLink RX0 135 yX1_negate, Cond.methodLink RL 78 yX10_isPoint, Cond.instanceMethod yX10_isPoint, Cond.selects RX10 yX10_isPoint yX10_isPoint, Cond.code yX10_isPoint cX10_isPoint 2 (some .int)]
def wsL_law_r27 : List Cond := [Cond.methodLink RX10 244 yX10_opens, Cond.instanceMethod yX10_opens, Cond.selects RX10 yX10_opens yX10_opens, Cond.code yX10_opens cX10_opens 3 (some .boolean), Cond.methodLink RL 79 yX9_across, Cond.instanceMethod yX9_across, Cond.selects RX9 yX9_across yX9_across, Cond.code yX9_across cX9_across 3 (some .int), Cond.fieldLink RX9 180 "LadderSigns$Point" "x" "[J", Cond.methodLink RL 82 yX10_across, Cond.instanceMethod yX10_across, Cond.selects RX10 yX10_across yX10_across, Cond.code yX10_across cX10_across 3 (some .int), Cond.methodLink RL 83 yX9_sum, Cond.instanceMethod yX9_sum, Cond.selects RX9 yX9_sum yX9_sum, Cond.code yX9_sum cX9_sum 5 (some .int), Cond.methodLink RX9 183 yX0_negate, Cond.instanceMethod yX0_negate, Cond.selects RX0 yX0_negate yX0_negate, Cond.code yX0_negate cX0_negate 2 none, Cond.methodLink RX9 187 yX0_add, Cond.instanceMethod yX0_add, Cond.selects RX0 yX0_add yX0_add]
def wsL_law_r28 : List Cond := [Cond.code yX0_add cX0_add 4 none, Cond.methodLink RX9 191 yX0_write, Cond.instanceMethod yX0_write, Cond.selects RX0 yX0_write yX0_write, Cond.code yX0_write cX0_write 3 none, Cond.constantLong RX0 144 (-9223372036854775808), Cond.methodLink RX0 138 yX1_store, Cond.methodLink RX0 141 yX1_isOdd, Cond.methodLink RL 86 yX10_sum, Cond.instanceMethod yX10_sum, Cond.selects RX10 yX10_sum yX10_sum, Cond.code yX10_sum cX10_sum 5 (some .int), Cond.methodLink RX10 247 yX10_negate, Cond.instanceMethod yX10_negate, Cond.selects RX10 yX10_negate yX10_negate, Cond.code yX10_negate cX10_negate 2 none, Cond.methodLink RX10 174 yX10_addPoint, Cond.instanceMethod yX10_addPoint, Cond.selects RX10 yX10_addPoint yX10_addPoint, Cond.code yX10_addPoint cX10_addPoint 3 none, Cond.methodLink RX10 250 yX10_storePoint, Cond.instanceMethod yX10_storePoint, Cond.selects RX10 yX10_storePoint yX10_storePoint, Cond.code yX10_storePoint cX10_storePoint 3 none]
def wsL_law_r29 : List Cond := [Cond.methodLink RX10 241 yX10_bytes, Cond.instanceMethod yX10_bytes, Cond.selects RX10 yX10_bytes yX10_bytes, Cond.code yX10_bytes cX10_bytes 5 none, Cond.methodLink RL 87 yX9_times, Cond.instanceMethod yX9_times, Cond.selects RX9 yX9_times yX9_times, Cond.code yX9_times cX9_times 4 (some .int), Cond.methodLink RX9 195 yX0_multiply, Cond.instanceMethod yX0_multiply, Cond.selects RX0 yX0_multiply yX0_multiply, Cond.code yX0_multiply cX0_multiply 6 none, Cond.methodLink RX0 146 yX0_becomeNeutral, Cond.instanceMethod yX0_becomeNeutral, Cond.selects RX0 yX0_becomeNeutral yX0_becomeNeutral, Cond.code yX0_becomeNeutral cX0_becomeNeutral 2 none, Cond.methodLink RX0 149 yX0_add, Cond.methodLink RX0 152 yX0_twice, Cond.instanceMethod yX0_twice, Cond.selects RX0 yX0_twice yX0_twice, Cond.code yX0_twice cX0_twice 3 none, Cond.methodLink RX0 156 yX8_nibble, Cond.methodLink RL 90 yX10_times, Cond.instanceMethod yX10_times]
def wsL_law_r30 : List Cond := [Cond.selects RX10 yX10_times yX10_times, Cond.code yX10_times cX10_times 4 (some .int), Cond.methodLink RX10 253 yX10_many, Cond.instanceMethod yX10_many, Cond.selects RX10 yX10_many yX10_many, Cond.code yX10_many cX10_many 5 none, Cond.methodLink RX10 171 yX10_neutral, Cond.instanceMethod yX10_neutral, Cond.selects RX10 yX10_neutral yX10_neutral, Cond.code yX10_neutral cX10_neutral 2 none, Cond.methodLink RL 91 yX9_base, Cond.instanceMethod yX9_base, Cond.selects RX9 yX9_base yX9_base, Cond.code yX9_base cX9_base 3 (some .int), Cond.fieldLink RX9 199 "LadderSigns$Curve" "basePoint" "LLadderSigns$Point;", Cond.methodLink RL 94 yX10_base, Cond.instanceMethod yX10_base, Cond.selects RX10 yX10_base yX10_base, Cond.code yX10_base cX10_base 3 (some .int), Cond.methodLink RL 95 yX9_small, Cond.instanceMethod yX9_small, Cond.selects RX9 yX9_small yX9_small, Cond.code yX9_small cX9_small 3 (some .int), Cond.methodLink RX9 202 yX0_isNeutral]
def wsL_law_r31 : List Cond := [Cond.instanceMethod yX0_isNeutral, Cond.selects RX0 yX0_isNeutral yX0_isNeutral, Cond.code yX0_isNeutral cX0_isNeutral 2 (some .boolean), Cond.methodLink RX0 159 yX1_areSame, Cond.methodLink RX9 206 yX0_twice, Cond.methodLink RL 98 yX10_small, Cond.instanceMethod yX10_small, Cond.selects RX10 yX10_small yX10_small, Cond.code yX10_small cX10_small 3 (some .int), Cond.methodLink RX10 256 yX10_isNeutral, Cond.instanceMethod yX10_isNeutral, Cond.selects RX10 yX10_isNeutral yX10_isNeutral, Cond.code yX10_isNeutral cX10_isNeutral 2 (some .boolean), Cond.methodLink RL 99 yX9_other, Cond.instanceMethod yX9_other, Cond.selects RX9 yX9_other yX9_other, Cond.code yX9_other cX9_other 3 (some .int), Cond.methodLink RX9 210 yX0_findOtherShape, Cond.instanceMethod yX0_findOtherShape, Cond.selects RX0 yX0_findOtherShape yX0_findOtherShape, Cond.code yX0_findOtherShape cX0_findOtherShape 3 none, Cond.methodLink RL 102 yX10_other, Cond.instanceMethod yX10_other, Cond.selects RX10 yX10_other yX10_other]
def wsL_law_r32 : List Cond := [Cond.code yX10_other cX10_other 3 (some .int), Cond.methodLink RL 103 yX9_share, Cond.instanceMethod yX9_share, Cond.selects RX9 yX9_share yX9_share, Cond.code yX9_share cX9_share 4 (some .int), Cond.methodLink RX9 213 yX2_climb, Cond.instanceMethod yX2_climb, Cond.selects RX2 yX2_climb yX2_climb, Cond.code yX2_climb cX2_climb 5 none, Cond.methodLink RX2 48 yX8_move, Cond.methodLink RX2 52 yX8_clamp, Cond.static yX8_clamp, Cond.code yX8_clamp cX8_clamp 1 none, Cond.constantLong RX8 23 (-8), Cond.constantLong RX8 25 (9223372036854775807), Cond.constantLong RX8 27 (4611686018427387904), Cond.methodLink RX2 56 yX1_become, Cond.methodLink RX2 60 yX1_move, Cond.methodLink RX2 61 yX8_bit, Cond.methodLink RX2 65 yX2_step, Cond.instanceMethod yX2_step, Cond.selects RX2 yX2_step yX2_step, Cond.code yX2_step cX2_step 6 none, Cond.constantLong RX2 85 (121665)]
def wsL_law_r33 : List Cond := [Cond.methodLink RX2 76 yX1_add, Cond.methodLink RX2 79 yX1_subtract, Cond.methodLink RX2 72 yX1_multiply, Cond.methodLink RX2 82 yX1_square, Cond.methodLink RX2 87 yX1_scale, Cond.instanceMethod yX1_scale, Cond.selects RX1 yX1_scale yX1_scale, Cond.code yX1_scale cX1_scale 6 none, Cond.methodLink RX2 69 yX1_invert, Cond.methodLink RL 106 yX10_share, Cond.instanceMethod yX10_share, Cond.selects RX10 yX10_share yX10_share, Cond.code yX10_share cX10_share 6 (some .int), Cond.methodLink RX10 263 yX10_clamp, Cond.instanceMethod yX10_clamp, Cond.selects RX10 yX10_clamp yX10_clamp, Cond.code yX10_clamp cX10_clamp 2 none, Cond.constantLong RX10 259 (-8), Cond.constantLong RX10 261 (4611686018427387904), Cond.methodLink RX10 266 yX10_swap, Cond.instanceMethod yX10_swap, Cond.selects RX10 yX10_swap yX10_swap, Cond.code yX10_swap cX10_swap 6 none, Cond.methodLink RL 107 yX9_digest]
def wsL_law_r34 : List Cond := [Cond.instanceMethod yX9_digest, Cond.selects RX9 yX9_digest yX9_digest, Cond.code yX9_digest cX9_digest 2 (some .int), Cond.methodLink RX9 230 arraycopyName, Cond.methodLink RX9 216 yX9_isPair, Cond.static yX9_isPair, Cond.code yX9_isPair cX9_isPair 1 (some .boolean), Cond.methodLink RX9 219 yX5_begin, Cond.instanceMethod yX5_begin, Cond.selects RX5 yX5_begin yX5_begin, Cond.code yX5_begin cX5_begin 1 none, Cond.methodLink RX9 222 yX5_takeText, Cond.instanceMethod yX5_takeText, Cond.selects RX5 yX5_takeText yX5_takeText, Cond.code yX5_takeText cX5_takeText 3 none, Cond.fieldLink RX5 32 "LadderSigns$Text" "length" "I", Cond.methodLink RX5 33 yX7_byteAt, Cond.methodLink RX5 28 yX5_takeByte, Cond.instanceMethod yX5_takeByte, Cond.selects RX5 yX5_takeByte yX5_takeByte, Cond.code yX5_takeByte cX5_takeByte 2 none, Cond.methodLink RX9 226 yX5_finish, Cond.instanceMethod yX5_finish, Cond.selects RX5 yX5_finish yX5_finish]
def wsL_law_r35 : List Cond := [Cond.code yX5_finish cX5_finish 4 none, Cond.fieldLink RX5 40 "LadderSigns$Sha512" "FIRST_STATE" "[J", Cond.methodLink RX5 43 arraycopyName, Cond.methodLink RX5 37 yX5_pad, Cond.instanceMethod yX5_pad, Cond.selects RX5 yX5_pad yX5_pad, Cond.code yX5_pad cX5_pad 3 none, Cond.methodLink RX5 49 yX5_fillSchedule, Cond.instanceMethod yX5_fillSchedule, Cond.selects RX5 yX5_fillSchedule yX5_fillSchedule, Cond.code yX5_fillSchedule cX5_fillSchedule 11 none, Cond.methodLink RX5 59 yX5_rotated, Cond.static yX5_rotated, Cond.code yX5_rotated cX5_rotated 3 (some .long), Cond.methodLink RX5 52 yX5_mix, Cond.instanceMethod yX5_mix, Cond.selects RX5 yX5_mix yX5_mix, Cond.code yX5_mix cX5_mix 28 none, Cond.constantLong RX5 63 (-1), Cond.fieldLink RX5 65 "LadderSigns$Sha512" "ROUND_WORDS" "[J", Cond.methodLink RX5 55 yX5_turned, Cond.static yX5_turned, Cond.code yX5_turned cX5_turned 5 (some .long), Cond.constantLong RX5 68 (255)]
def wsL_law_r36 : List Cond := [Cond.methodLink RL 110 yX10_digest, Cond.instanceMethod yX10_digest, Cond.selects RX10 yX10_digest yX10_digest, Cond.code yX10_digest cX10_digest 2 (some .int), Cond.methodLink RX10 269 yX10_tellText, Cond.instanceMethod yX10_tellText, Cond.selects RX10 yX10_tellText yX10_tellText, Cond.code yX10_tellText cX10_tellText 2 none, Cond.methodLink RX10 200 yX10_tell, Cond.instanceMethod yX10_tell, Cond.selects RX10 yX10_tell yX10_tell, Cond.code yX10_tell cX10_tell 2 none, Cond.fieldLink RX10 197 "LadderSignsModel" "messageSize" "I", Cond.methodLink RX10 272 yX10_digests, Cond.instanceMethod yX10_digests, Cond.selects RX10 yX10_digests yX10_digests, Cond.code yX10_digests cX10_digests 3 none, Cond.methodLink RX10 210 yX10_block, Cond.instanceMethod yX10_block, Cond.selects RX10 yX10_block yX10_block, Cond.code yX10_block cX10_block 8 none, Cond.methodLink RX10 206 yX10_turned, Cond.static yX10_turned, Cond.code yX10_turned cX10_turned 3 (some .long)]
def wsL_law_r37 : List Cond := [Cond.methodLink RX10 275 yX10_digestWords, Cond.instanceMethod yX10_digestWords, Cond.selects RX10 yX10_digestWords yX10_digestWords, Cond.code yX10_digestWords cX10_digestWords 7 none, Cond.methodLink RL 111 yX9_key, Cond.instanceMethod yX9_key, Cond.selects RX9 yX9_key yX9_key, Cond.code yX9_key cX9_key 3 (some .int), Cond.methodLink RX9 236 yX6_makeKey, Cond.instanceMethod yX6_makeKey, Cond.selects RX6 yX6_makeKey yX6_makeKey, Cond.code yX6_makeKey cX6_makeKey 3 none, Cond.fieldLink RX6 61 "LadderSigns$Curve" "basePoint" "LLadderSigns$Point;", Cond.methodLink RX6 57 yX6_unfold, Cond.instanceMethod yX6_unfold, Cond.selects RX6 yX6_unfold yX6_unfold, Cond.code yX6_unfold cX6_unfold 2 none, Cond.methodLink RX6 125 arraycopyName, Cond.methodLink RX6 74 yX5_begin, Cond.methodLink RX6 77 yX5_takeRow, Cond.instanceMethod yX5_takeRow, Cond.selects RX5 yX5_takeRow yX5_takeRow, Cond.code yX5_takeRow cX5_takeRow 3 none, Cond.methodLink RX6 84 yX5_finish]
def wsL_law_r38 : List Cond := [Cond.methodLink RX6 131 yX8_clamp, Cond.methodLink RX6 66 yX0_multiply, Cond.methodLink RX6 70 yX0_write, Cond.methodLink RL 114 yX10_key, Cond.instanceMethod yX10_key, Cond.selects RX10 yX10_key yX10_key, Cond.code yX10_key cX10_key 3 (some .int), Cond.methodLink RX10 281 yX10_open_, Cond.instanceMethod yX10_open_, Cond.selects RX10 yX10_open_ yX10_open_, Cond.code yX10_open_ cX10_open_ 2 none, Cond.methodLink RX10 278 yX10_tellWords, Cond.instanceMethod yX10_tellWords, Cond.selects RX10 yX10_tellWords yX10_tellWords, Cond.code yX10_tellWords cX10_tellWords 3 none, Cond.methodLink RL 115 yX9_sign, Cond.instanceMethod yX9_sign, Cond.selects RX9 yX9_sign yX9_sign, Cond.code yX9_sign cX9_sign 3 (some .int), Cond.methodLink RX9 239 yX6_makeSignature, Cond.instanceMethod yX6_makeSignature, Cond.selects RX6 yX6_makeSignature yX6_makeSignature, Cond.code yX6_makeSignature cX6_makeSignature 5 none, Cond.methodLink RX6 80 yX5_takeText]
def wsL_law_r39 : List Cond := [Cond.methodLink RX6 87 yX4_reduce, Cond.methodLink RX6 93 yX6_findChallenge, Cond.instanceMethod yX6_findChallenge, Cond.selects RX6 yX6_findChallenge yX6_findChallenge, Cond.code yX6_findChallenge cX6_findChallenge 4 none, Cond.methodLink RX6 97 yX4_multiplyAndAdd, Cond.methodLink RL 118 yX10_sign, Cond.instanceMethod yX10_sign, Cond.selects RX10 yX10_sign yX10_sign, Cond.code yX10_sign cX10_sign 3 (some .int), Cond.fieldLink RX10 286 "LadderSignsModel" "signed" "I", Cond.methodLink RX10 283 yX10_digestScalar, Cond.instanceMethod yX10_digestScalar, Cond.selects RX10 yX10_digestScalar yX10_digestScalar, Cond.code yX10_digestScalar cX10_digestScalar 3 none, Cond.methodLink RL 119 yX9_judge, Cond.instanceMethod yX9_judge, Cond.selects RX9 yX9_judge yX9_judge, Cond.code yX9_judge cX9_judge 3 (some .int), Cond.methodLink RX9 243 yX6_isRight, Cond.instanceMethod yX6_isRight, Cond.selects RX6 yX6_isRight yX6_isRight, Cond.code yX6_isRight cX6_isRight 6 (some .boolean), Cond.methodLink RX6 101 yX4_isBelowOrder]
def wsL_law_r40 : List Cond := [Cond.methodLink RX6 105 yX0_read, Cond.methodLink RX6 109 yX0_add, Cond.methodLink RX6 113 yX0_negate, Cond.methodLink RX6 117 yX0_twice, Cond.methodLink RX6 121 yX0_isNeutral, Cond.methodLink RL 122 yX10_judge, Cond.instanceMethod yX10_judge, Cond.selects RX10 yX10_judge yX10_judge, Cond.code yX10_judge cX10_judge 3 (some .int), Cond.fieldLink RX10 292 "LadderSignsModel" "judged" "I", Cond.fieldLink RX10 298 "LadderSignsModel" "right" "I", Cond.methodLink RX10 295 yX10_isRight, Cond.instanceMethod yX10_isRight, Cond.selects RX10 yX10_isRight yX10_isRight, Cond.code yX10_isRight cX10_isRight 3 (some .boolean), Cond.methodLink RX10 289 yX10_eightTimes, Cond.instanceMethod yX10_eightTimes, Cond.selects RX10 yX10_eightTimes yX10_eightTimes, Cond.code yX10_eightTimes cX10_eightTimes 3 none, Cond.methodLink RL 123 yX9_count, Cond.instanceMethod yX9_count, Cond.selects RX9 yX9_count yX9_count, Cond.code yX9_count cX9_count 2 (some .int), Cond.methodLink RL 126 yX10_count]
def wsL_law_r41 : List Cond := [Cond.instanceMethod yX10_count, Cond.selects RX10 yX10_count yX10_count, Cond.code yX10_count cX10_count 2 (some .int)]
def wsL_law : List Cond := (wsL_law_r1 ++ (wsL_law_r2 ++ (wsL_law_r3 ++ (wsL_law_r4 ++ (wsL_law_r5 ++ (wsL_law_r6 ++ (wsL_law_r7 ++ (wsL_law_r8 ++ (wsL_law_r9 ++ (wsL_law_r10 ++ (wsL_law_r11 ++ (wsL_law_r12 ++ (wsL_law_r13 ++ (wsL_law_r14 ++ (wsL_law_r15 ++ (wsL_law_r16 ++ (wsL_law_r17 ++ (wsL_law_r18 ++ (wsL_law_r19 ++ (wsL_law_r20 ++ (wsL_law_r21 ++ (wsL_law_r22 ++ (wsL_law_r23 ++ (wsL_law_r24 ++ (wsL_law_r25 ++ (wsL_law_r26 ++ (wsL_law_r27 ++ (wsL_law_r28 ++ (wsL_law_r29 ++ (wsL_law_r30 ++ (wsL_law_r31 ++ (wsL_law_r32 ++ (wsL_law_r33 ++ (wsL_law_r34 ++ (wsL_law_r35 ++ (wsL_law_r36 ++ (wsL_law_r37 ++ (wsL_law_r38 ++ (wsL_law_r39 ++ (wsL_law_r40 ++ wsL_law_r41)))))))))))))))))))))))))))))))))))))))) ++ wsX90 ++ wsX100 ++ wsX70 ++ wsX10 ++ wsX40 ++ wsX00 ++ wsX20 ++ wsX50 ++ wsX60 ++ wsX30 ++ ([] : List Cond)
theorem inlX0 : ∀ w ∈ wsX00, w ∈ wsL_law := fun _ h => List.mem_append_left _ (List.mem_append_left _ (List.mem_append_left _ (List.mem_append_left _ (List.mem_append_left _ (List.mem_append_right _ h)))))
theorem inlX1 : ∀ w ∈ wsX10, w ∈ wsL_law := fun _ h => List.mem_append_left _ (List.mem_append_left _ (List.mem_append_left _ (List.mem_append_left _ (List.mem_append_left _ (List.mem_append_left _ (List.mem_append_left _ (List.mem_append_right _ h)))))))
theorem inlX2 : ∀ w ∈ wsX20, w ∈ wsL_law := fun _ h => List.mem_append_left _ (List.mem_append_left _ (List.mem_append_left _ (List.mem_append_left _ (List.mem_append_right _ h))))
theorem inlX3 : ∀ w ∈ wsX30, w ∈ wsL_law := fun _ h => List.mem_append_left _ (List.mem_append_right _ h)
theorem inlX4 : ∀ w ∈ wsX40, w ∈ wsL_law := fun _ h => List.mem_append_left _ (List.mem_append_left _ (List.mem_append_left _ (List.mem_append_left _ (List.mem_append_left _ (List.mem_append_left _ (List.mem_append_right _ h))))))
theorem inlX5 : ∀ w ∈ wsX50, w ∈ wsL_law := fun _ h => List.mem_append_left _ (List.mem_append_left _ (List.mem_append_left _ (List.mem_append_right _ h)))
theorem inlX6 : ∀ w ∈ wsX60, w ∈ wsL_law := fun _ h => List.mem_append_left _ (List.mem_append_left _ (List.mem_append_right _ h))
theorem inlX7 : ∀ w ∈ wsX70, w ∈ wsL_law := fun _ h => List.mem_append_left _ (List.mem_append_left _ (List.mem_append_left _ (List.mem_append_left _ (List.mem_append_left _ (List.mem_append_left _ (List.mem_append_left _ (List.mem_append_left _ (List.mem_append_right _ h))))))))
theorem inlX9 : ∀ w ∈ wsX90, w ∈ wsL_law := fun _ h => List.mem_append_left _ (List.mem_append_left _ (List.mem_append_left _ (List.mem_append_left _ (List.mem_append_left _ (List.mem_append_left _ (List.mem_append_left _ (List.mem_append_left _ (List.mem_append_left _ (List.mem_append_left _ (List.mem_append_right _ h))))))))))
theorem inlX10 : ∀ w ∈ wsX100, w ∈ wsL_law := fun _ h => List.mem_append_left _ (List.mem_append_left _ (List.mem_append_left _ (List.mem_append_left _ (List.mem_append_left _ (List.mem_append_left _ (List.mem_append_left _ (List.mem_append_left _ (List.mem_append_left _ (List.mem_append_right _ h)))))))))
