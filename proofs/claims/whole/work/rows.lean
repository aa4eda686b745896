section
-- ===== PART A: goes FIRST, ahead of the names: the tables' words, and 'selects' of the private methods out of them =====
/-- a private method of a class that the tables say can be made, by its rows of tables_1 -/
def lw_okq (q : MethodName × Nat) : Prop := (q.1.cls ≠ "java/lang/invoke/MethodHandle" ∧ q.1.cls ≠ "java/lang/invoke/VarHandle") ∧ Cond.instantiable q.1.cls q.2 ∈ tables_1 ∧ Cond.privateMethod q.1 ∈ tables_1 ∧ Cond.instanceMethod q.1 ∈ tables_1
theorem lw_p0 : lw_okq (⟨"LadderSigns$Curve", "complete", "(LLadderSigns$Point;)V"⟩, 14) := ⟨⟨by decide +kernel, by decide +kernel⟩, List.mem_of_getElem? (i := 98) (by decide +kernel), List.mem_of_getElem? (i := 147) (by decide +kernel), List.mem_of_getElem? (i := 148) (by decide +kernel)⟩
theorem lw_p1 : lw_okq (⟨"LadderSigns$FieldNumbers", "fold", "([J)V"⟩, 8) := ⟨⟨by decide +kernel, by decide +kernel⟩, List.mem_of_getElem? (i := 42) (by decide +kernel), List.mem_of_getElem? (i := 155) (by decide +kernel), List.mem_of_getElem? (i := 156) (by decide +kernel)⟩
theorem lw_p2 : lw_okq (⟨"LadderSigns$FieldNumbers", "carry", "([J)V"⟩, 8) := ⟨⟨by decide +kernel, by decide +kernel⟩, List.mem_of_getElem? (i := 42) (by decide +kernel), List.mem_of_getElem? (i := 160) (by decide +kernel), List.mem_of_getElem? (i := 161) (by decide +kernel)⟩
theorem lw_p3 : lw_okq (⟨"LadderSigns$FieldNumbers", "makeExact", "([J)V"⟩, 8) := ⟨⟨by decide +kernel, by decide +kernel⟩, List.mem_of_getElem? (i := 42) (by decide +kernel), List.mem_of_getElem? (i := 428) (by decide +kernel), List.mem_of_getElem? (i := 429) (by decide +kernel)⟩
theorem lw_p4 : lw_okq (⟨"LadderSigns", "combine", "(I)V"⟩, 17) := ⟨⟨by decide +kernel, by decide +kernel⟩, List.mem_of_getElem? (i := 15) (by decide +kernel), List.mem_of_getElem? (i := 440) (by decide +kernel), List.mem_of_getElem? (i := 441) (by decide +kernel)⟩
theorem lw_p5 : lw_okq (⟨"LadderSigns$Curve", "becomeNeutral", "(LLadderSigns$Point;)V"⟩, 14) := ⟨⟨by decide +kernel, by decide +kernel⟩, List.mem_of_getElem? (i := 98) (by decide +kernel), List.mem_of_getElem? (i := 606) (by decide +kernel), List.mem_of_getElem? (i := 607) (by decide +kernel)⟩
theorem lw_p6 : lw_okq (⟨"LadderSigns$Ladder", "step", "([J[J[J[J[J)V"⟩, 11) := ⟨⟨by decide +kernel, by decide +kernel⟩, List.mem_of_getElem? (i := 210) (by decide +kernel), List.mem_of_getElem? (i := 656) (by decide +kernel), List.mem_of_getElem? (i := 657) (by decide +kernel)⟩
theorem lw_p7 : lw_okq (⟨"LadderSigns$Sha512", "takeByte", "(I)V"⟩, 4) := ⟨⟨by decide +kernel, by decide +kernel⟩, List.mem_of_getElem? (i := 250) (by decide +kernel), List.mem_of_getElem? (i := 686) (by decide +kernel), List.mem_of_getElem? (i := 687) (by decide +kernel)⟩
theorem lw_p8 : lw_okq (⟨"LadderSigns$Sha512", "pad", "(I)V"⟩, 4) := ⟨⟨by decide +kernel, by decide +kernel⟩, List.mem_of_getElem? (i := 250) (by decide +kernel), List.mem_of_getElem? (i := 694) (by decide +kernel), List.mem_of_getElem? (i := 695) (by decide +kernel)⟩
theorem lw_p9 : lw_okq (⟨"LadderSigns$Sha512", "fillSchedule", "(I)V"⟩, 4) := ⟨⟨by decide +kernel, by decide +kernel⟩, List.mem_of_getElem? (i := 250) (by decide +kernel), List.mem_of_getElem? (i := 701) (by decide +kernel), List.mem_of_getElem? (i := 702) (by decide +kernel)⟩
theorem lw_p10 : lw_okq (⟨"LadderSigns$Sha512", "mix", "()V"⟩, 4) := ⟨⟨by decide +kernel, by decide +kernel⟩, List.mem_of_getElem? (i := 250) (by decide +kernel), List.mem_of_getElem? (i := 708) (by decide +kernel), List.mem_of_getElem? (i := 709) (by decide +kernel)⟩
theorem lw_p11 : lw_okq (⟨"LadderSigns$Signer", "unfold", "([J)V"⟩, 12) := ⟨⟨by decide +kernel, by decide +kernel⟩, List.mem_of_getElem? (i := 269) (by decide +kernel), List.mem_of_getElem? (i := 728) (by decide +kernel), List.mem_of_getElem? (i := 729) (by decide +kernel)⟩
theorem lw_p12 : lw_okq (⟨"LadderSigns$Signer", "findChallenge", "([J[JLLadderSigns$Text;)V"⟩, 12) := ⟨⟨by decide +kernel, by decide +kernel⟩, List.mem_of_getElem? (i := 269) (by decide +kernel), List.mem_of_getElem? (i := 752) (by decide +kernel), List.mem_of_getElem? (i := 753) (by decide +kernel)⟩
theorem lw_p13 : lw_okq (⟨"LadderSignsModel", "words", "(IJJJJ)V"⟩, 23) := ⟨⟨by decide +kernel, by decide +kernel⟩, List.mem_of_getElem? (i := 775) (by decide +kernel), List.mem_of_getElem? (i := 784) (by decide +kernel), List.mem_of_getElem? (i := 785) (by decide +kernel)⟩
theorem lw_p14 : lw_okq (⟨"LadderSignsModel", "put", "(IJ)V"⟩, 23) := ⟨⟨by decide +kernel, by decide +kernel⟩, List.mem_of_getElem? (i := 775) (by decide +kernel), List.mem_of_getElem? (i := 791) (by decide +kernel), List.mem_of_getElem? (i := 792) (by decide +kernel)⟩
theorem lw_p15 : lw_okq (⟨"LadderSignsModel", "raise", "(III)V"⟩, 23) := ⟨⟨by decide +kernel, by decide +kernel⟩, List.mem_of_getElem? (i := 775) (by decide +kernel), List.mem_of_getElem? (i := 799) (by decide +kernel), List.mem_of_getElem? (i := 800) (by decide +kernel)⟩
def lw_privs_1 : List (MethodName × Nat) := [(⟨"LadderSigns$Curve", "complete", "(LLadderSigns$Point;)V"⟩, 14), (⟨"LadderSigns$FieldNumbers", "fold", "([J)V"⟩, 8), (⟨"LadderSigns$FieldNumbers", "carry", "([J)V"⟩, 8), (⟨"LadderSigns$FieldNumbers", "makeExact", "([J)V"⟩, 8), (⟨"LadderSigns", "combine", "(I)V"⟩, 17), (⟨"LadderSigns$Curve", "becomeNeutral", "(LLadderSigns$Point;)V"⟩, 14), (⟨"LadderSigns$Ladder", "step", "([J[J[J[J[J)V"⟩, 11), (⟨"LadderSigns$Sha512", "takeByte", "(I)V"⟩, 4), (⟨"LadderSigns$Sha512", "pad", "(I)V"⟩, 4), (⟨"LadderSigns$Sha512", "fillSchedule", "(I)V"⟩, 4), (⟨"LadderSigns$Sha512", "mix", "()V"⟩, 4), (⟨"LadderSigns$Signer", "unfold", "([J)V"⟩, 12), (⟨"LadderSigns$Signer", "findChallenge", "([J[JLLadderSigns$Text;)V"⟩, 12), (⟨"LadderSignsModel", "words", "(IJJJJ)V"⟩, 23), (⟨"LadderSignsModel", "put", "(IJ)V"⟩, 23), (⟨"LadderSignsModel", "raise", "(III)V"⟩, 23)]
theorem lw_r1 : ∀ q ∈ lw_privs_1, lw_okq q := List.forall_mem_cons.mpr ⟨lw_p0, List.forall_mem_cons.mpr ⟨lw_p1, List.forall_mem_cons.mpr ⟨lw_p2, List.forall_mem_cons.mpr ⟨lw_p3, List.forall_mem_cons.mpr ⟨lw_p4, List.forall_mem_cons.mpr ⟨lw_p5, List.forall_mem_cons.mpr ⟨lw_p6, List.forall_mem_cons.mpr ⟨lw_p7, List.forall_mem_cons.mpr ⟨lw_p8, List.forall_mem_cons.mpr ⟨lw_p9, List.forall_mem_cons.mpr ⟨lw_p10, List.forall_mem_cons.mpr ⟨lw_p11, List.forall_mem_cons.mpr ⟨lw_p12, List.forall_mem_cons.mpr ⟨lw_p13, List.forall_mem_cons.mpr ⟨lw_p14, List.forall_mem_cons.mpr ⟨lw_p15, fun _ h => absurd h List.not_mem_nil⟩⟩⟩⟩⟩⟩⟩⟩⟩⟩⟩⟩⟩⟩⟩⟩
theorem lw_p16 : lw_okq (⟨"LadderSignsModel", "copyOf", "(II)V"⟩, 23) := ⟨⟨by decide +kernel, by decide +kernel⟩, List.mem_of_getElem? (i := 775) (by decide +kernel), List.mem_of_getElem? (i := 803) (by decide +kernel), List.mem_of_getElem? (i := 804) (by decide +kernel)⟩
theorem lw_p17 : lw_okq (⟨"LadderSignsModel", "multiply", "(III)V"⟩, 23) := ⟨⟨by decide +kernel, by decide +kernel⟩, List.mem_of_getElem? (i := 775) (by decide +kernel), List.mem_of_getElem? (i := 807) (by decide +kernel), List.mem_of_getElem? (i := 808) (by decide +kernel)⟩
theorem lw_p18 : lw_okq (⟨"LadderSignsModel", "reduce", "(I)V"⟩, 23) := ⟨⟨by decide +kernel, by decide +kernel⟩, List.mem_of_getElem? (i := 775) (by decide +kernel), List.mem_of_getElem? (i := 812) (by decide +kernel), List.mem_of_getElem? (i := 813) (by decide +kernel)⟩
theorem lw_p19 : lw_okq (⟨"LadderSignsModel", "bit", "(II)I"⟩, 23) := ⟨⟨by decide +kernel, by decide +kernel⟩, List.mem_of_getElem? (i := 775) (by decide +kernel), List.mem_of_getElem? (i := 816) (by decide +kernel), List.mem_of_getElem? (i := 817) (by decide +kernel)⟩
theorem lw_p20 : lw_okq (⟨"LadderSignsModel", "subtract", "(III)V"⟩, 23) := ⟨⟨by decide +kernel, by decide +kernel⟩, List.mem_of_getElem? (i := 775) (by decide +kernel), List.mem_of_getElem? (i := 821) (by decide +kernel), List.mem_of_getElem? (i := 822) (by decide +kernel)⟩
theorem lw_p21 : lw_okq (⟨"LadderSignsModel", "invert", "(II)V"⟩, 23) := ⟨⟨by decide +kernel, by decide +kernel⟩, List.mem_of_getElem? (i := 775) (by decide +kernel), List.mem_of_getElem? (i := 826) (by decide +kernel), List.mem_of_getElem? (i := 827) (by decide +kernel)⟩
theorem lw_p22 : lw_okq (⟨"LadderSignsModel", "add", "(III)V"⟩, 23) := ⟨⟨by decide +kernel, by decide +kernel⟩, List.mem_of_getElem? (i := 775) (by decide +kernel), List.mem_of_getElem? (i := 831) (by decide +kernel), List.mem_of_getElem? (i := 832) (by decide +kernel)⟩
theorem lw_p23 : lw_okq (⟨"LadderSignsModel", "pack", "(II)V"⟩, 23) := ⟨⟨by decide +kernel, by decide +kernel⟩, List.mem_of_getElem? (i := 775) (by decide +kernel), List.mem_of_getElem? (i := 837) (by decide +kernel), List.mem_of_getElem? (i := 838) (by decide +kernel)⟩
theorem lw_p24 : lw_okq (⟨"LadderSignsModel", "lessPrime", "()V"⟩, 23) := ⟨⟨by decide +kernel, by decide +kernel⟩, List.mem_of_getElem? (i := 775) (by decide +kernel), List.mem_of_getElem? (i := 841) (by decide +kernel), List.mem_of_getElem? (i := 842) (by decide +kernel)⟩
theorem lw_p25 : lw_okq (⟨"LadderSignsModel", "open", "(II)Z"⟩, 23) := ⟨⟨by decide +kernel, by decide +kernel⟩, List.mem_of_getElem? (i := 775) (by decide +kernel), List.mem_of_getElem? (i := 847) (by decide +kernel), List.mem_of_getElem? (i := 848) (by decide +kernel)⟩
theorem lw_p26 : lw_okq (⟨"LadderSignsModel", "against", "(II)I"⟩, 23) := ⟨⟨by decide +kernel, by decide +kernel⟩, List.mem_of_getElem? (i := 775) (by decide +kernel), List.mem_of_getElem? (i := 851) (by decide +kernel), List.mem_of_getElem? (i := 852) (by decide +kernel)⟩
theorem lw_p27 : lw_okq (⟨"LadderSignsModel", "unpack", "(II)V"⟩, 23) := ⟨⟨by decide +kernel, by decide +kernel⟩, List.mem_of_getElem? (i := 775) (by decide +kernel), List.mem_of_getElem? (i := 859) (by decide +kernel), List.mem_of_getElem? (i := 860) (by decide +kernel)⟩
theorem lw_p28 : lw_okq (⟨"LadderSignsModel", "roots", "(II)Z"⟩, 23) := ⟨⟨by decide +kernel, by decide +kernel⟩, List.mem_of_getElem? (i := 775) (by decide +kernel), List.mem_of_getElem? (i := 863) (by decide +kernel), List.mem_of_getElem? (i := 864) (by decide +kernel)⟩
theorem lw_p29 : lw_okq (⟨"LadderSignsModel", "isSame", "(II)Z"⟩, 23) := ⟨⟨by decide +kernel, by decide +kernel⟩, List.mem_of_getElem? (i := 775) (by decide +kernel), List.mem_of_getElem? (i := 869) (by decide +kernel), List.mem_of_getElem? (i := 870) (by decide +kernel)⟩
theorem lw_p30 : lw_okq (⟨"LadderSignsModel", "lowest", "(I)I"⟩, 23) := ⟨⟨by decide +kernel, by decide +kernel⟩, List.mem_of_getElem? (i := 775) (by decide +kernel), List.mem_of_getElem? (i := 873) (by decide +kernel), List.mem_of_getElem? (i := 874) (by decide +kernel)⟩
theorem lw_p31 : lw_okq (⟨"LadderSignsModel", "roots", "()V"⟩, 23) := ⟨⟨by decide +kernel, by decide +kernel⟩, List.mem_of_getElem? (i := 775) (by decide +kernel), List.mem_of_getElem? (i := 877) (by decide +kernel), List.mem_of_getElem? (i := 878) (by decide +kernel)⟩
def lw_privs_2 : List (MethodName × Nat) := [(⟨"LadderSignsModel", "copyOf", "(II)V"⟩, 23), (⟨"LadderSignsModel", "multiply", "(III)V"⟩, 23), (⟨"LadderSignsModel", "reduce", "(I)V"⟩, 23), (⟨"LadderSignsModel", "bit", "(II)I"⟩, 23), (⟨"LadderSignsModel", "subtract", "(III)V"⟩, 23), (⟨"LadderSignsModel", "invert", "(II)V"⟩, 23), (⟨"LadderSignsModel", "add", "(III)V"⟩, 23), (⟨"LadderSignsModel", "pack", "(II)V"⟩, 23), (⟨"LadderSignsModel", "lessPrime", "()V"⟩, 23), (⟨"LadderSignsModel", "open", "(II)Z"⟩, 23), (⟨"LadderSignsModel", "against", "(II)I"⟩, 23), (⟨"LadderSignsModel", "unpack", "(II)V"⟩, 23), (⟨"LadderSignsModel", "roots", "(II)Z"⟩, 23), (⟨"LadderSignsModel", "isSame", "(II)Z"⟩, 23), (⟨"LadderSignsModel", "lowest", "(I)I"⟩, 23), (⟨"LadderSignsModel", "roots", "()V"⟩, 23)]
theorem lw_r2 : ∀ q ∈ lw_privs_2, lw_okq q := List.forall_mem_cons.mpr ⟨lw_p16, List.forall_mem_cons.mpr ⟨lw_p17, List.forall_mem_cons.mpr ⟨lw_p18, List.forall_mem_cons.mpr ⟨lw_p19, List.forall_mem_cons.mpr ⟨lw_p20, List.forall_mem_cons.mpr ⟨lw_p21, List.forall_mem_cons.mpr ⟨lw_p22, List.forall_mem_cons.mpr ⟨lw_p23, List.forall_mem_cons.mpr ⟨lw_p24, List.forall_mem_cons.mpr ⟨lw_p25, List.forall_mem_cons.mpr ⟨lw_p26, List.forall_mem_cons.mpr ⟨lw_p27, List.forall_mem_cons.mpr ⟨lw_p28, List.forall_mem_cons.mpr ⟨lw_p29, List.forall_mem_cons.mpr ⟨lw_p30, List.forall_mem_cons.mpr ⟨lw_p31, fun _ h => absurd h List.not_mem_nil⟩⟩⟩⟩⟩⟩⟩⟩⟩⟩⟩⟩⟩⟩⟩⟩
theorem lw_p32 : lw_okq (⟨"LadderSignsModel", "behindPoint", "(IZ)J"⟩, 23) := ⟨⟨by decide +kernel, by decide +kernel⟩, List.mem_of_getElem? (i := 775) (by decide +kernel), List.mem_of_getElem? (i := 884) (by decide +kernel), List.mem_of_getElem? (i := 885) (by decide +kernel)⟩
theorem lw_p33 : lw_okq (⟨"LadderSignsModel", "powers", "()V"⟩, 23) := ⟨⟨by decide +kernel, by decide +kernel⟩, List.mem_of_getElem? (i := 775) (by decide +kernel), List.mem_of_getElem? (i := 888) (by decide +kernel), List.mem_of_getElem? (i := 889) (by decide +kernel)⟩
theorem lw_p34 : lw_okq (⟨"LadderSignsModel", "fromSlot", "(II)V"⟩, 23) := ⟨⟨by decide +kernel, by decide +kernel⟩, List.mem_of_getElem? (i := 775) (by decide +kernel), List.mem_of_getElem? (i := 981) (by decide +kernel), List.mem_of_getElem? (i := 982) (by decide +kernel)⟩
theorem lw_p35 : lw_okq (⟨"LadderSignsModel", "toSlot", "(II)V"⟩, 23) := ⟨⟨by decide +kernel, by decide +kernel⟩, List.mem_of_getElem? (i := 775) (by decide +kernel), List.mem_of_getElem? (i := 985) (by decide +kernel), List.mem_of_getElem? (i := 986) (by decide +kernel)⟩
theorem lw_p36 : lw_okq (⟨"LadderSignsModel", "load", "(II)V"⟩, 23) := ⟨⟨by decide +kernel, by decide +kernel⟩, List.mem_of_getElem? (i := 775) (by decide +kernel), List.mem_of_getElem? (i := 1009) (by decide +kernel), List.mem_of_getElem? (i := 1010) (by decide +kernel)⟩
theorem lw_p37 : lw_okq (⟨"LadderSignsModel", "store", "(II)V"⟩, 23) := ⟨⟨by decide +kernel, by decide +kernel⟩, List.mem_of_getElem? (i := 775) (by decide +kernel), List.mem_of_getElem? (i := 1013) (by decide +kernel), List.mem_of_getElem? (i := 1014) (by decide +kernel)⟩
theorem lw_p38 : lw_okq (⟨"LadderSignsModel", "scalarOf", "(IIII)V"⟩, 23) := ⟨⟨by decide +kernel, by decide +kernel⟩, List.mem_of_getElem? (i := 775) (by decide +kernel), List.mem_of_getElem? (i := 1037) (by decide +kernel), List.mem_of_getElem? (i := 1038) (by decide +kernel)⟩
theorem lw_p39 : lw_okq (⟨"LadderSignsModel", "modulo", "(I)V"⟩, 23) := ⟨⟨by decide +kernel, by decide +kernel⟩, List.mem_of_getElem? (i := 775) (by decide +kernel), List.mem_of_getElem? (i := 1044) (by decide +kernel), List.mem_of_getElem? (i := 1045) (by decide +kernel)⟩
theorem lw_p40 : lw_okq (⟨"LadderSignsModel", "lessOrder", "()V"⟩, 23) := ⟨⟨by decide +kernel, by decide +kernel⟩, List.mem_of_getElem? (i := 775) (by decide +kernel), List.mem_of_getElem? (i := 1048) (by decide +kernel), List.mem_of_getElem? (i := 1049) (by decide +kernel)⟩
theorem lw_p41 : lw_okq (⟨"LadderSignsModel", "opens", "(II)Z"⟩, 23) := ⟨⟨by decide +kernel, by decide +kernel⟩, List.mem_of_getElem? (i := 775) (by decide +kernel), List.mem_of_getElem? (i := 1056) (by decide +kernel), List.mem_of_getElem? (i := 1057) (by decide +kernel)⟩
theorem lw_p42 : lw_okq (⟨"LadderSignsModel", "negate", "(I)V"⟩, 23) := ⟨⟨by decide +kernel, by decide +kernel⟩, List.mem_of_getElem? (i := 775) (by decide +kernel), List.mem_of_getElem? (i := 1068) (by decide +kernel), List.mem_of_getElem? (i := 1069) (by decide +kernel)⟩
theorem lw_p43 : lw_okq (⟨"LadderSignsModel", "addPoint", "(II)V"⟩, 23) := ⟨⟨by decide +kernel, by decide +kernel⟩, List.mem_of_getElem? (i := 775) (by decide +kernel), List.mem_of_getElem? (i := 1072) (by decide +kernel), List.mem_of_getElem? (i := 1073) (by decide +kernel)⟩
theorem lw_p44 : lw_okq (⟨"LadderSignsModel", "storePoint", "(II)V"⟩, 23) := ⟨⟨by decide +kernel, by decide +kernel⟩, List.mem_of_getElem? (i := 775) (by decide +kernel), List.mem_of_getElem? (i := 1076) (by decide +kernel), List.mem_of_getElem? (i := 1077) (by decide +kernel)⟩
theorem lw_p45 : lw_okq (⟨"LadderSignsModel", "bytes", "(II)V"⟩, 23) := ⟨⟨by decide +kernel, by decide +kernel⟩, List.mem_of_getElem? (i := 775) (by decide +kernel), List.mem_of_getElem? (i := 1080) (by decide +kernel), List.mem_of_getElem? (i := 1081) (by decide +kernel)⟩
theorem lw_p46 : lw_okq (⟨"LadderSignsModel", "many", "(III)V"⟩, 23) := ⟨⟨by decide +kernel, by decide +kernel⟩, List.mem_of_getElem? (i := 775) (by decide +kernel), List.mem_of_getElem? (i := 1088) (by decide +kernel), List.mem_of_getElem? (i := 1089) (by decide +kernel)⟩
theorem lw_p47 : lw_okq (⟨"LadderSignsModel", "neutral", "(I)V"⟩, 23) := ⟨⟨by decide +kernel, by decide +kernel⟩, List.mem_of_getElem? (i := 775) (by decide +kernel), List.mem_of_getElem? (i := 1092) (by decide +kernel), List.mem_of_getElem? (i := 1093) (by decide +kernel)⟩
def lw_privs_3 : List (MethodName × Nat) := [(⟨"LadderSignsModel", "behindPoint", "(IZ)J"⟩, 23), (⟨"LadderSignsModel", "powers", "()V"⟩, 23), (⟨"LadderSignsModel", "fromSlot", "(II)V"⟩, 23), (⟨"LadderSignsModel", "toSlot", "(II)V"⟩, 23), (⟨"LadderSignsModel", "load", "(II)V"⟩, 23), (⟨"LadderSignsModel", "store", "(II)V"⟩, 23), (⟨"LadderSignsModel", "scalarOf", "(IIII)V"⟩, 23), (⟨"LadderSignsModel", "modulo", "(I)V"⟩, 23), (⟨"LadderSignsModel", "lessOrder", "()V"⟩, 23), (⟨"LadderSignsModel", "opens", "(II)Z"⟩, 23), (⟨"LadderSignsModel", "negate", "(I)V"⟩, 23), (⟨"LadderSignsModel", "addPoint", "(II)V"⟩, 23), (⟨"LadderSignsModel", "storePoint", "(II)V"⟩, 23), (⟨"LadderSignsModel", "bytes", "(II)V"⟩, 23), (⟨"LadderSignsModel", "many", "(III)V"⟩, 23), (⟨"LadderSignsModel", "neutral", "(I)V"⟩, 23)]
theorem lw_r3 : ∀ q ∈ lw_privs_3, lw_okq q := List.forall_mem_cons.mpr ⟨lw_p32, List.forall_mem_cons.mpr ⟨lw_p33, List.forall_mem_cons.mpr ⟨lw_p34, List.forall_mem_cons.mpr ⟨lw_p35, List.forall_mem_cons.mpr ⟨lw_p36, List.forall_mem_cons.mpr ⟨lw_p37, List.forall_mem_cons.mpr ⟨lw_p38, List.forall_mem_cons.mpr ⟨lw_p39, List.forall_mem_cons.mpr ⟨lw_p40, List.forall_mem_cons.mpr ⟨lw_p41, List.forall_mem_cons.mpr ⟨lw_p42, List.forall_mem_cons.mpr ⟨lw_p43, List.forall_mem_cons.mpr ⟨lw_p44, List.forall_mem_cons.mpr ⟨lw_p45, List.forall_mem_cons.mpr ⟨lw_p46, List.forall_mem_cons.mpr ⟨lw_p47, fun _ h => absurd h List.not_mem_nil⟩⟩⟩⟩⟩⟩⟩⟩⟩⟩⟩⟩⟩⟩⟩⟩
theorem lw_p48 : lw_okq (⟨"LadderSignsModel", "isNeutral", "(I)Z"⟩, 23) := ⟨⟨by decide +kernel, by decide +kernel⟩, List.mem_of_getElem? (i := 775) (by decide +kernel), List.mem_of_getElem? (i := 1104) (by decide +kernel), List.mem_of_getElem? (i := 1105) (by decide +kernel)⟩
theorem lw_p49 : lw_okq (⟨"LadderSignsModel", "clamp", "(I)V"⟩, 23) := ⟨⟨by decide +kernel, by decide +kernel⟩, List.mem_of_getElem? (i := 775) (by decide +kernel), List.mem_of_getElem? (i := 1116) (by decide +kernel), List.mem_of_getElem? (i := 1117) (by decide +kernel)⟩
theorem lw_p50 : lw_okq (⟨"LadderSignsModel", "swap", "(II)V"⟩, 23) := ⟨⟨by decide +kernel, by decide +kernel⟩, List.mem_of_getElem? (i := 775) (by decide +kernel), List.mem_of_getElem? (i := 1122) (by decide +kernel), List.mem_of_getElem? (i := 1123) (by decide +kernel)⟩
theorem lw_p51 : lw_okq (⟨"LadderSignsModel", "tellText", "()V"⟩, 23) := ⟨⟨by decide +kernel, by decide +kernel⟩, List.mem_of_getElem? (i := 775) (by decide +kernel), List.mem_of_getElem? (i := 1130) (by decide +kernel), List.mem_of_getElem? (i := 1131) (by decide +kernel)⟩
theorem lw_p52 : lw_okq (⟨"LadderSignsModel", "tell", "(I)V"⟩, 23) := ⟨⟨by decide +kernel, by decide +kernel⟩, List.mem_of_getElem? (i := 775) (by decide +kernel), List.mem_of_getElem? (i := 1134) (by decide +kernel), List.mem_of_getElem? (i := 1135) (by decide +kernel)⟩
theorem lw_p53 : lw_okq (⟨"LadderSignsModel", "digests", "()V"⟩, 23) := ⟨⟨by decide +kernel, by decide +kernel⟩, List.mem_of_getElem? (i := 775) (by decide +kernel), List.mem_of_getElem? (i := 1138) (by decide +kernel), List.mem_of_getElem? (i := 1139) (by decide +kernel)⟩
theorem lw_p54 : lw_okq (⟨"LadderSignsModel", "block", "(I)V"⟩, 23) := ⟨⟨by decide +kernel, by decide +kernel⟩, List.mem_of_getElem? (i := 775) (by decide +kernel), List.mem_of_getElem? (i := 1142) (by decide +kernel), List.mem_of_getElem? (i := 1143) (by decide +kernel)⟩
theorem lw_p55 : lw_okq (⟨"LadderSignsModel", "digestWords", "(II)V"⟩, 23) := ⟨⟨by decide +kernel, by decide +kernel⟩, List.mem_of_getElem? (i := 775) (by decide +kernel), List.mem_of_getElem? (i := 1149) (by decide +kernel), List.mem_of_getElem? (i := 1150) (by decide +kernel)⟩
theorem lw_p56 : lw_okq (⟨"LadderSignsModel", "open", "(I)V"⟩, 23) := ⟨⟨by decide +kernel, by decide +kernel⟩, List.mem_of_getElem? (i := 775) (by decide +kernel), List.mem_of_getElem? (i := 1157) (by decide +kernel), List.mem_of_getElem? (i := 1158) (by decide +kernel)⟩
theorem lw_p57 : lw_okq (⟨"LadderSignsModel", "tellWords", "(I)V"⟩, 23) := ⟨⟨by decide +kernel, by decide +kernel⟩, List.mem_of_getElem? (i := 775) (by decide +kernel), List.mem_of_getElem? (i := 1161) (by decide +kernel), List.mem_of_getElem? (i := 1162) (by decide +kernel)⟩
theorem lw_p58 : lw_okq (⟨"LadderSignsModel", "digestScalar", "(I)V"⟩, 23) := ⟨⟨by decide +kernel, by decide +kernel⟩, List.mem_of_getElem? (i := 775) (by decide +kernel), List.mem_of_getElem? (i := 1169) (by decide +kernel), List.mem_of_getElem? (i := 1170) (by decide +kernel)⟩
theorem lw_p59 : lw_okq (⟨"LadderSignsModel", "isRight", "(II)Z"⟩, 23) := ⟨⟨by decide +kernel, by decide +kernel⟩, List.mem_of_getElem? (i := 775) (by decide +kernel), List.mem_of_getElem? (i := 1177) (by decide +kernel), List.mem_of_getElem? (i := 1178) (by decide +kernel)⟩
theorem lw_p60 : lw_okq (⟨"LadderSignsModel", "eightTimes", "(I)V"⟩, 23) := ⟨⟨by decide +kernel, by decide +kernel⟩, List.mem_of_getElem? (i := 775) (by decide +kernel), List.mem_of_getElem? (i := 1181) (by decide +kernel), List.mem_of_getElem? (i := 1182) (by decide +kernel)⟩
def lw_privs_4 : List (MethodName × Nat) := [(⟨"LadderSignsModel", "isNeutral", "(I)Z"⟩, 23), (⟨"LadderSignsModel", "clamp", "(I)V"⟩, 23), (⟨"LadderSignsModel", "swap", "(II)V"⟩, 23), (⟨"LadderSignsModel", "tellText", "()V"⟩, 23), (⟨"LadderSignsModel", "tell", "(I)V"⟩, 23), (⟨"LadderSignsModel", "digests", "()V"⟩, 23), (⟨"LadderSignsModel", "block", "(I)V"⟩, 23), (⟨"LadderSignsModel", "digestWords", "(II)V"⟩, 23), (⟨"LadderSignsModel", "open", "(I)V"⟩, 23), (⟨"LadderSignsModel", "tellWords", "(I)V"⟩, 23), (⟨"LadderSignsModel", "digestScalar", "(I)V"⟩, 23), (⟨"LadderSignsModel", "isRight", "(II)Z"⟩, 23), (⟨"LadderSignsModel", "eightTimes", "(I)V"⟩, 23)]
theorem lw_r4 : ∀ q ∈ lw_privs_4, lw_okq q := List.forall_mem_cons.mpr ⟨lw_p48, List.forall_mem_cons.mpr ⟨lw_p49, List.forall_mem_cons.mpr ⟨lw_p50, List.forall_mem_cons.mpr ⟨lw_p51, List.forall_mem_cons.mpr ⟨lw_p52, List.forall_mem_cons.mpr ⟨lw_p53, List.forall_mem_cons.mpr ⟨lw_p54, List.forall_mem_cons.mpr ⟨lw_p55, List.forall_mem_cons.mpr ⟨lw_p56, List.forall_mem_cons.mpr ⟨lw_p57, List.forall_mem_cons.mpr ⟨lw_p58, List.forall_mem_cons.mpr ⟨lw_p59, List.forall_mem_cons.mpr ⟨lw_p60, fun _ h => absurd h List.not_mem_nil⟩⟩⟩⟩⟩⟩⟩⟩⟩⟩⟩⟩⟩
def lw_privs : List (MethodName × Nat) := lw_privs_1 ++ (lw_privs_2 ++ (lw_privs_3 ++ (lw_privs_4)))
def lw_tbl : List Cond := k2_sels lw_privs ++ tables_1
theorem lw_privs_ok : ∀ q ∈ lw_privs, lw_okq q := by
  show ∀ q ∈ lw_privs_1 ++ (lw_privs_2 ++ (lw_privs_3 ++ (lw_privs_4))), lw_okq q
  exact List.forall_mem_append.mpr ⟨lw_r1, List.forall_mem_append.mpr ⟨lw_r2, List.forall_mem_append.mpr ⟨lw_r3, lw_r4⟩⟩⟩
/-! ===== BEGIN words of one list among another's, by their places ===== -/
theorem goodIn_r {big : List Cond} (ws : List Cond) (ps : List Nat) (hp : ws = ps.filterMap (fun i => big[i]?)) (h : ws.all goodWord = true) : GoodIn big ws := by
  intro w hw
  have h1 := List.all_eq_true.mp h w hw
  rw [hp] at hw
  obtain ⟨i, -, hi⟩ := List.mem_filterMap.mp hw
  have hm : w ∈ big := by first | exact List.mem_of_getElem? hi | exact List.getElem?_mem hi
  exact ⟨hm, good_of_word h1⟩
theorem goodIn_app {big a b : List Cond} (ha : GoodIn big a) (hb : GoodIn big b) : GoodIn big (a ++ b) := fun w h => (List.mem_append.mp h).elim (ha w) (hb w)
theorem goodIn_ca {big a b : List Cond} {c : Cond} (ha : GoodIn big (c :: a)) (hb : GoodIn big b) : GoodIn big (c :: (a ++ b)) := fun w h => (List.mem_cons.mp h).elim (fun e => ha w (List.mem_cons.mpr (Or.inl e))) (fun h => (List.mem_append.mp h).elim (fun h => ha w (List.mem_cons.mpr (Or.inr h))) (hb w))
theorem goodIn_sub {big ws : List Cond} (hm : ∀ w ∈ ws, w ∈ big) (h : ws.all goodWord = true) : GoodIn big ws := fun w hw => ⟨hm w hw, good_of_word (List.all_eq_true.mp h w hw)⟩
/-! ===== END ===== -/

def RX0 : String := "LadderSigns$Curve"
def TX0 : u_T := fun k => match k with
  | 0 => ("LadderSigns$Curve", "basePoint", "LLadderSigns$Point;", true)
  | 1 => ("LadderSigns$Curve", "numbers", "LLadderSigns$FieldNumbers;", true)
  | 2 => ("LadderSigns$Curve", "one", "[J", true)
  | 3 => ("LadderSigns$Curve", "d", "[J", true)
  | 4 => ("LadderSigns$Curve", "twiceD", "[J", true)
  | 5 => ("LadderSigns$Curve", "a", "[J", true)
  | 6 => ("LadderSigns$Curve", "b", "[J", true)
  | 7 => ("LadderSigns$Curve", "c", "[J", true)
  | 8 => ("LadderSigns$Curve", "e", "[J", true)
  | 9 => ("LadderSigns$Curve", "f", "[J", true)
  | 10 => ("LadderSigns$Curve", "g", "[J", true)
  | 11 => ("LadderSigns$Curve", "h", "[J", true)
  | 12 => ("LadderSigns$Curve", "lowBits", "[J", true)
  | _ => ("LadderSigns$Curve", "table", "[LLadderSigns$Point;", true)
def tyX0 : Nat → FieldType := fun k => match k with
  | 0 => .object "LadderSigns$Point"
  | 1 => .object "LadderSigns$FieldNumbers"
  | 2 => .array .long
  | 3 => .array .long
  | 4 => .array .long
  | 5 => .array .long
  | 6 => .array .long
  | 7 => .array .long
  | 8 => .array .long
  | 9 => .array .long
  | 10 => .array .long
  | 11 => .array .long
  | 12 => .array .long
  | _ => .array (.object "LadderSigns$Point")
abbrev wsX00 : List Cond := u_ws RX0 TX0 14
theorem nmX0 : ∀ a, a < 14 → ∀ b, b < 14 → a ≠ b → (TX0 a).2.1 ≠ (TX0 b).2.1 := by decide +kernel
theorem tyX0_ok : ∀ k, k < 14 → parseFieldDescriptor (TX0 k).2.2.1 = some (tyX0 k) := by decide +kernel
abbrev cX0_init : ByteArray := prog_2_method_1_code
def yX0_init : MethodName := ⟨RX0, "<init>", "(LLadderSigns$FieldNumbers;)V"⟩
abbrev cX0_complete : ByteArray := prog_2_method_2_code
def yX0_complete : MethodName := ⟨RX0, "complete", "(LLadderSigns$Point;)V"⟩
abbrev cX0_becomeNeutral : ByteArray := prog_2_method_3_code
def yX0_becomeNeutral : MethodName := ⟨RX0, "becomeNeutral", "(LLadderSigns$Point;)V"⟩
abbrev cX0_read : ByteArray := prog_2_method_4_code
def yX0_read : MethodName := ⟨RX0, "read", "([JLLadderSigns$Point;)Z"⟩
abbrev cX0_write : ByteArray := prog_2_method_5_code
def yX0_write : MethodName := ⟨RX0, "write", "(LLadderSigns$Point;[J)V"⟩
abbrev cX0_negate : ByteArray := prog_2_method_6_code
def yX0_negate : MethodName := ⟨RX0, "negate", "(LLadderSigns$Point;)V"⟩
abbrev cX0_add : ByteArray := prog_2_method_7_code
def yX0_add : MethodName := ⟨RX0, "add", "(LLadderSigns$Point;LLadderSigns$Point;LLadderSigns$Point;)V"⟩
abbrev cX0_twice : ByteArray := prog_2_method_8_code
def yX0_twice : MethodName := ⟨RX0, "twice", "(LLadderSigns$Point;LLadderSigns$Point;)V"⟩
abbrev cX0_multiply : ByteArray := prog_2_method_9_code
def yX0_multiply : MethodName := ⟨RX0, "multiply", "([JLLadderSigns$Point;LLadderSigns$Point;)V"⟩
abbrev cX0_isNeutral : ByteArray := prog_2_method_10_code
def yX0_isNeutral : MethodName := ⟨RX0, "isNeutral", "(LLadderSigns$Point;)Z"⟩
abbrev cX0_findOtherShape : ByteArray := prog_2_method_11_code
def yX0_findOtherShape : MethodName := ⟨RX0, "findOtherShape", "(LLadderSigns$Point;[J)V"⟩
def RX1 : String := "LadderSigns$FieldNumbers"
def TX1 : u_T := fun k => match k with
  | 0 => ("LadderSigns$FieldNumbers", "zero", "[J", true)
  | 1 => ("LadderSigns$FieldNumbers", "rootOfMinusOne", "[J", true)
  | 2 => ("LadderSigns$FieldNumbers", "wide", "[J", true)
  | 3 => ("LadderSigns$FieldNumbers", "exact", "[J", true)
  | 4 => ("LadderSigns$FieldNumbers", "difference", "[J", true)
  | 5 => ("LadderSigns$FieldNumbers", "candidate", "[J", true)
  | 6 => ("LadderSigns$FieldNumbers", "itsSquare", "[J", true)
  | _ => ("LadderSigns$FieldNumbers", "powers", "[[J", true)
def tyX1 : Nat → FieldType := fun k => match k with
  | 0 => .array .long
  | 1 => .array .long
  | 2 => .array .long
  | 3 => .array .long
  | 4 => .array .long
  | 5 => .array .long
  | 6 => .array .long
  | _ => .array (.array .long)
abbrev wsX10 : List Cond := u_ws RX1 TX1 8
theorem nmX1 : ∀ a, a < 8 → ∀ b, b < 8 → a ≠ b → (TX1 a).2.1 ≠ (TX1 b).2.1 := by decide +kernel
theorem tyX1_ok : ∀ k, k < 8 → parseFieldDescriptor (TX1 k).2.2.1 = some (tyX1 k) := by decide +kernel
abbrev cX1_init : ByteArray := prog_3_method_1_code
def yX1_init : MethodName := ⟨RX1, "<init>", "()V"⟩
abbrev cX1_load : ByteArray := prog_3_method_2_code
def yX1_load : MethodName := ⟨RX1, "load", "([J[J)V"⟩
abbrev cX1_store : ByteArray := prog_3_method_3_code
def yX1_store : MethodName := ⟨RX1, "store", "([J[J)V"⟩
abbrev cX1_move : ByteArray := prog_3_method_4_code
def yX1_move : MethodName := ⟨RX1, "move", "([J[J)V"⟩
abbrev cX1_become : ByteArray := prog_3_method_5_code
def yX1_become : MethodName := ⟨RX1, "become", "([JJ)V"⟩
abbrev cX1_add : ByteArray := prog_3_method_6_code
def yX1_add : MethodName := ⟨RX1, "add", "([J[J[J)V"⟩
abbrev cX1_subtract : ByteArray := prog_3_method_7_code
def yX1_subtract : MethodName := ⟨RX1, "subtract", "([J[J[J)V"⟩
abbrev cX1_negate : ByteArray := prog_3_method_8_code
def yX1_negate : MethodName := ⟨RX1, "negate", "([J[J)V"⟩
abbrev cX1_scale : ByteArray := prog_3_method_9_code
def yX1_scale : MethodName := ⟨RX1, "scale", "([JJ[J)V"⟩
abbrev cX1_multiply : ByteArray := prog_3_method_10_code
def yX1_multiply : MethodName := ⟨RX1, "multiply", "([J[J[J)V"⟩
abbrev cX1_square : ByteArray := prog_3_method_11_code
def yX1_square : MethodName := ⟨RX1, "square", "([J[J)V"⟩
abbrev cX1_fold : ByteArray := prog_3_method_12_code
def yX1_fold : MethodName := ⟨RX1, "fold", "([J)V"⟩
abbrev cX1_carry : ByteArray := prog_3_method_13_code
def yX1_carry : MethodName := ⟨RX1, "carry", "([J)V"⟩
abbrev cX1_makeExact : ByteArray := prog_3_method_14_code
def yX1_makeExact : MethodName := ⟨RX1, "makeExact", "([J)V"⟩
abbrev cX1_isZero : ByteArray := prog_3_method_15_code
def yX1_isZero : MethodName := ⟨RX1, "isZero", "([J)Z"⟩
abbrev cX1_areSame : ByteArray := prog_3_method_16_code
def yX1_areSame : MethodName := ⟨RX1, "areSame", "([J[J)Z"⟩
abbrev cX1_isNothing : ByteArray := prog_3_method_17_code
def yX1_isNothing : MethodName := ⟨RX1, "isNothing", "([J)Z"⟩
abbrev cX1_isOdd : ByteArray := prog_3_method_18_code
def yX1_isOdd : MethodName := ⟨RX1, "isOdd", "([J)Z"⟩
abbrev cX1_raise : ByteArray := prog_3_method_19_code
def yX1_raise : MethodName := ⟨RX1, "raise", "([J[J[J)V"⟩
abbrev cX1_invert : ByteArray := prog_3_method_20_code
def yX1_invert : MethodName := ⟨RX1, "invert", "([J[J)V"⟩
abbrev cX1_findRoot : ByteArray := prog_3_method_21_code
def yX1_findRoot : MethodName := ⟨RX1, "findRoot", "([J[J)Z"⟩
def RX2 : String := "LadderSigns$Ladder"
def TX2 : u_T := fun k => match k with
  | 0 => ("LadderSigns$Ladder", "numbers", "LLadderSigns$FieldNumbers;", true)
  | 1 => ("LadderSigns$Ladder", "secret", "[J", true)
  | 2 => ("LadderSigns$Ladder", "x2", "[J", true)
  | 3 => ("LadderSigns$Ladder", "z2", "[J", true)
  | 4 => ("LadderSigns$Ladder", "x3", "[J", true)
  | 5 => ("LadderSigns$Ladder", "z3", "[J", true)
  | 6 => ("LadderSigns$Ladder", "a", "[J", true)
  | 7 => ("LadderSigns$Ladder", "b", "[J", true)
  | 8 => ("LadderSigns$Ladder", "c", "[J", true)
  | 9 => ("LadderSigns$Ladder", "d", "[J", true)
  | _ => ("LadderSigns$Ladder", "e", "[J", true)
def tyX2 : Nat → FieldType := fun k => match k with
  | 0 => .object "LadderSigns$FieldNumbers"
  | 1 => .array .long
  | 2 => .array .long
  | 3 => .array .long
  | 4 => .array .long
  | 5 => .array .long
  | 6 => .array .long
  | 7 => .array .long
  | 8 => .array .long
  | 9 => .array .long
  | _ => .array .long
abbrev wsX20 : List Cond := u_ws RX2 TX2 11
theorem nmX2 : ∀ a, a < 11 → ∀ b, b < 11 → a ≠ b → (TX2 a).2.1 ≠ (TX2 b).2.1 := by decide +kernel
theorem tyX2_ok : ∀ k, k < 11 → parseFieldDescriptor (TX2 k).2.2.1 = some (tyX2 k) := by decide +kernel
abbrev cX2_init : ByteArray := prog_4_method_1_code
def yX2_init : MethodName := ⟨RX2, "<init>", "(LLadderSigns$FieldNumbers;)V"⟩
abbrev cX2_climb : ByteArray := prog_4_method_2_code
def yX2_climb : MethodName := ⟨RX2, "climb", "([J[J[J)V"⟩
abbrev cX2_step : ByteArray := prog_4_method_3_code
def yX2_step : MethodName := ⟨RX2, "step", "([J[J[J[J[J)V"⟩
def RX3 : String := "LadderSigns$Point"
def TX3 : u_T := fun k => match k with
  | 0 => ("LadderSigns$Point", "x", "[J", true)
  | 1 => ("LadderSigns$Point", "y", "[J", true)
  | 2 => ("LadderSigns$Point", "z", "[J", true)
  | _ => ("LadderSigns$Point", "t", "[J", true)
def tyX3 : Nat → FieldType := fun k => match k with
  | 0 => .array .long
  | 1 => .array .long
  | 2 => .array .long
  | _ => .array .long
abbrev wsX30 : List Cond := u_ws RX3 TX3 4
theorem nmX3 : ∀ a, a < 4 → ∀ b, b < 4 → a ≠ b → (TX3 a).2.1 ≠ (TX3 b).2.1 := by decide +kernel
theorem tyX3_ok : ∀ k, k < 4 → parseFieldDescriptor (TX3 k).2.2.1 = some (tyX3 k) := by decide +kernel
abbrev cX3_init : ByteArray := prog_5_method_1_code
def yX3_init : MethodName := ⟨RX3, "<init>", "()V"⟩
def RX4 : String := "LadderSigns$Scalars"
def TX4 : u_T := fun k => match k with
  | 0 => ("LadderSigns$Scalars", "factor", "[J", true)
  | 1 => ("LadderSigns$Scalars", "total", "[J", true)
  | _ => ("LadderSigns$Scalars", "summand", "[J", true)
def tyX4 : Nat → FieldType := fun k => match k with
  | 0 => .array .long
  | 1 => .array .long
  | _ => .array .long
abbrev wsX40 : List Cond := u_ws RX4 TX4 3
theorem nmX4 : ∀ a, a < 3 → ∀ b, b < 3 → a ≠ b → (TX4 a).2.1 ≠ (TX4 b).2.1 := by decide +kernel
theorem tyX4_ok : ∀ k, k < 3 → parseFieldDescriptor (TX4 k).2.2.1 = some (tyX4 k) := by decide +kernel
abbrev cX4_init : ByteArray := prog_6_method_1_code
def yX4_init : MethodName := ⟨RX4, "<init>", "()V"⟩
abbrev cX4_isBelowOrder : ByteArray := prog_6_method_2_code
def yX4_isBelowOrder : MethodName := ⟨RX4, "isBelowOrder", "([J)Z"⟩
abbrev cX4_increase : ByteArray := prog_6_method_3_code
def yX4_increase : MethodName := ⟨RX4, "increase", "([J[J)V"⟩
abbrev cX4_reduce : ByteArray := prog_6_method_4_code
def yX4_reduce : MethodName := ⟨RX4, "reduce", "([JI[J)V"⟩
abbrev cX4_multiplyAndAdd : ByteArray := prog_6_method_5_code
def yX4_multiplyAndAdd : MethodName := ⟨RX4, "multiplyAndAdd", "([J[J[J[J)V"⟩
def RX5 : String := "LadderSigns$Sha512"
def TX5 : u_T := fun k => match k with
  | 0 => ("LadderSigns$Sha512", "message", "[B", true)
  | 1 => ("LadderSigns$Sha512", "length", "I", false)
  | 2 => ("LadderSigns$Sha512", "schedule", "[J", true)
  | _ => ("LadderSigns$Sha512", "state", "[J", true)
def tyX5 : Nat → FieldType := fun k => match k with
  | 0 => .array .byte
  | 1 => .int
  | 2 => .array .long
  | _ => .array .long
abbrev wsX50 : List Cond := u_ws RX5 TX5 4
theorem nmX5 : ∀ a, a < 4 → ∀ b, b < 4 → a ≠ b → (TX5 a).2.1 ≠ (TX5 b).2.1 := by decide +kernel
theorem tyX5_ok : ∀ k, k < 4 → parseFieldDescriptor (TX5 k).2.2.1 = some (tyX5 k) := by decide +kernel
abbrev cX5_init : ByteArray := prog_7_method_1_code
def yX5_init : MethodName := ⟨RX5, "<init>", "()V"⟩
abbrev cX5_begin : ByteArray := prog_7_method_2_code
def yX5_begin : MethodName := ⟨RX5, "begin", "()V"⟩
abbrev cX5_takeByte : ByteArray := prog_7_method_3_code
def yX5_takeByte : MethodName := ⟨RX5, "takeByte", "(I)V"⟩
abbrev cX5_takeRow : ByteArray := prog_7_method_4_code
def yX5_takeRow : MethodName := ⟨RX5, "takeRow", "([J)V"⟩
abbrev cX5_takeText : ByteArray := prog_7_method_5_code
def yX5_takeText : MethodName := ⟨RX5, "takeText", "(LLadderSigns$Text;)V"⟩
abbrev cX5_finish : ByteArray := prog_7_method_6_code
def yX5_finish : MethodName := ⟨RX5, "finish", "([J)V"⟩
abbrev cX5_pad : ByteArray := prog_7_method_7_code
def yX5_pad : MethodName := ⟨RX5, "pad", "(I)V"⟩
abbrev cX5_fillSchedule : ByteArray := prog_7_method_8_code
def yX5_fillSchedule : MethodName := ⟨RX5, "fillSchedule", "(I)V"⟩
abbrev cX5_mix : ByteArray := prog_7_method_9_code
def yX5_mix : MethodName := ⟨RX5, "mix", "()V"⟩
abbrev cX5_rotated : ByteArray := prog_7_method_10_code
def yX5_rotated : MethodName := ⟨RX5, "rotated", "(JI)J"⟩
abbrev cX5_turned : ByteArray := prog_7_method_11_code
def yX5_turned : MethodName := ⟨RX5, "turned", "(J)J"⟩
def RX6 : String := "LadderSigns$Signer"
def TX6 : u_T := fun k => match k with
  | 0 => ("LadderSigns$Signer", "curve", "LLadderSigns$Curve;", true)
  | 1 => ("LadderSigns$Signer", "scalars", "LLadderSigns$Scalars;", true)
  | 2 => ("LadderSigns$Signer", "sha", "LLadderSigns$Sha512;", true)
  | 3 => ("LadderSigns$Signer", "hash", "[J", true)
  | 4 => ("LadderSigns$Signer", "secretNumber", "[J", true)
  | 5 => ("LadderSigns$Signer", "secretPrefix", "[J", true)
  | 6 => ("LadderSigns$Signer", "nonce", "[J", true)
  | 7 => ("LadderSigns$Signer", "challenge", "[J", true)
  | 8 => ("LadderSigns$Signer", "keyRow", "[J", true)
  | 9 => ("LadderSigns$Signer", "keyPoint", "LLadderSigns$Point;", true)
  | 10 => ("LadderSigns$Signer", "noncePoint", "LLadderSigns$Point;", true)
  | _ => ("LadderSigns$Signer", "product", "LLadderSigns$Point;", true)
def tyX6 : Nat → FieldType := fun k => match k with
  | 0 => .object "LadderSigns$Curve"
  | 1 => .object "LadderSigns$Scalars"
  | 2 => .object "LadderSigns$Sha512"
  | 3 => .array .long
  | 4 => .array .long
  | 5 => .array .long
  | 6 => .array .long
  | 7 => .array .long
  | 8 => .array .long
  | 9 => .object "LadderSigns$Point"
  | 10 => .object "LadderSigns$Point"
  | _ => .object "LadderSigns$Point"
abbrev wsX60 : List Cond := u_ws RX6 TX6 12
theorem nmX6 : ∀ a, a < 12 → ∀ b, b < 12 → a ≠ b → (TX6 a).2.1 ≠ (TX6 b).2.1 := by decide +kernel
theorem tyX6_ok : ∀ k, k < 12 → parseFieldDescriptor (TX6 k).2.2.1 = some (tyX6 k) := by decide +kernel
abbrev cX6_init : ByteArray := prog_8_method_1_code
def yX6_init : MethodName := ⟨RX6, "<init>", "(LLadderSigns$Curve;LLadderSigns$Scalars;LLadderSigns$Sha512;)V"⟩
abbrev cX6_makeKey : ByteArray := prog_8_method_2_code
def yX6_makeKey : MethodName := ⟨RX6, "makeKey", "([J[J)V"⟩
abbrev cX6_makeSignature : ByteArray := prog_8_method_3_code
def yX6_makeSignature : MethodName := ⟨RX6, "makeSignature", "([JLLadderSigns$Text;[J[J)V"⟩
abbrev cX6_isRight : ByteArray := prog_8_method_4_code
def yX6_isRight : MethodName := ⟨RX6, "isRight", "([J[J[JLLadderSigns$Text;)Z"⟩
abbrev cX6_unfold : ByteArray := prog_8_method_5_code
def yX6_unfold : MethodName := ⟨RX6, "unfold", "([J)V"⟩
abbrev cX6_findChallenge : ByteArray := prog_8_method_6_code
def yX6_findChallenge : MethodName := ⟨RX6, "findChallenge", "([J[JLLadderSigns$Text;)V"⟩
def RX7 : String := "LadderSigns$Text"
def TX7 : u_T := fun k => match k with
  | 0 => ("LadderSigns$Text", "bytes", "[B", true)
  | _ => ("LadderSigns$Text", "length", "I", false)
def tyX7 : Nat → FieldType := fun k => match k with
  | 0 => .array .byte
  | _ => .int
abbrev wsX70 : List Cond := u_ws RX7 TX7 2
theorem nmX7 : ∀ a, a < 2 → ∀ b, b < 2 → a ≠ b → (TX7 a).2.1 ≠ (TX7 b).2.1 := by decide +kernel
theorem tyX7_ok : ∀ k, k < 2 → parseFieldDescriptor (TX7 k).2.2.1 = some (tyX7 k) := by decide +kernel
abbrev cX7_init : ByteArray := prog_9_method_1_code
def yX7_init : MethodName := ⟨RX7, "<init>", "()V"⟩
abbrev cX7_append : ByteArray := prog_9_method_2_code
def yX7_append : MethodName := ⟨RX7, "append", "(JI)V"⟩
abbrev cX7_byteAt : ByteArray := prog_9_method_3_code
def yX7_byteAt : MethodName := ⟨RX7, "byteAt", "(I)I"⟩
def RX8 : String := "LadderSigns$Words"
def TX8 : u_T := fun k => match k with
  | _ => ("", "", "", false)
def tyX8 : Nat → FieldType := fun k => match k with
  | _ => .int
abbrev wsX80 : List Cond := u_ws RX8 TX8 0
theorem nmX8 : ∀ a, a < 0 → ∀ b, b < 0 → a ≠ b → (TX8 a).2.1 ≠ (TX8 b).2.1 := by decide +kernel
theorem tyX8_ok : ∀ k, k < 0 → parseFieldDescriptor (TX8 k).2.2.1 = some (tyX8 k) := by decide +kernel
abbrev cX8_bit : ByteArray := prog_10_method_2_code
def yX8_bit : MethodName := ⟨RX8, "bit", "([JI)I"⟩
abbrev cX8_nibble : ByteArray := prog_10_method_3_code
def yX8_nibble : MethodName := ⟨RX8, "nibble", "([JI)I"⟩
abbrev cX8_move : ByteArray := prog_10_method_4_code
def yX8_move : MethodName := ⟨RX8, "move", "([J[J)V"⟩
abbrev cX8_order : ByteArray := prog_10_method_5_code
def yX8_order : MethodName := ⟨RX8, "order", "([J[J)I"⟩
abbrev cX8_bitLength : ByteArray := prog_10_method_6_code
def yX8_bitLength : MethodName := ⟨RX8, "bitLength", "([J)I"⟩
abbrev cX8_increase : ByteArray := prog_10_method_7_code
def yX8_increase : MethodName := ⟨RX8, "increase", "([J[J)V"⟩
abbrev cX8_decrease : ByteArray := prog_10_method_8_code
def yX8_decrease : MethodName := ⟨RX8, "decrease", "([J[J)V"⟩
abbrev cX8_clamp : ByteArray := prog_10_method_9_code
def yX8_clamp : MethodName := ⟨RX8, "clamp", "([J)V"⟩
def RX9 : String := "LadderSigns"
def TX9 : u_T := fun k => match k with
  | 0 => ("LadderSigns", "slots", "[[J", true)
  | 1 => ("LadderSigns", "text", "LLadderSigns$Text;", true)
  | 2 => ("LadderSigns", "workLeft", "I", false)
  | 3 => ("LadderSigns", "signaturesMade", "I", false)
  | 4 => ("LadderSigns", "judged", "I", false)
  | 5 => ("LadderSigns", "judgedRight", "I", false)
  | 6 => ("LadderSigns", "numbers", "LLadderSigns$FieldNumbers;", true)
  | 7 => ("LadderSigns", "scalars", "LLadderSigns$Scalars;", true)
  | 8 => ("LadderSigns", "curve", "LLadderSigns$Curve;", true)
  | 9 => ("LadderSigns", "ladder", "LLadderSigns$Ladder;", true)
  | 10 => ("LadderSigns", "sha", "LLadderSigns$Sha512;", true)
  | 11 => ("LadderSigns", "signer", "LLadderSigns$Signer;", true)
  | 12 => ("LadderSigns", "first", "[J", true)
  | 13 => ("LadderSigns", "second", "[J", true)
  | 14 => ("LadderSigns", "hash", "[J", true)
  | 15 => ("LadderSigns", "left", "LLadderSigns$Point;", true)
  | _ => ("LadderSigns", "right", "LLadderSigns$Point;", true)
def tyX9 : Nat → FieldType := fun k => match k with
  | 0 => .array (.array .long)
  | 1 => .object "LadderSigns$Text"
  | 2 => .int
  | 3 => .int
  | 4 => .int
  | 5 => .int
  | 6 => .object "LadderSigns$FieldNumbers"
  | 7 => .object "LadderSigns$Scalars"
  | 8 => .object "LadderSigns$Curve"
  | 9 => .object "LadderSigns$Ladder"
  | 10 => .object "LadderSigns$Sha512"
  | 11 => .object "LadderSigns$Signer"
  | 12 => .array .long
  | 13 => .array .long
  | 14 => .array .long
  | 15 => .object "LadderSigns$Point"
  | _ => .object "LadderSigns$Point"
abbrev wsX90 : List Cond := u_ws RX9 TX9 17
theorem nmX9 : ∀ a, a < 17 → ∀ b, b < 17 → a ≠ b → (TX9 a).2.1 ≠ (TX9 b).2.1 := by decide +kernel
theorem tyX9_ok : ∀ k, k < 17 → parseFieldDescriptor (TX9 k).2.2.1 = some (tyX9 k) := by decide +kernel
abbrev cX9_init : ByteArray := prog_1_method_1_code
def yX9_init : MethodName := ⟨RX9, "<init>", "()V"⟩
abbrev cX9_set : ByteArray := prog_1_method_2_code
def yX9_set : MethodName := ⟨RX9, "set", "(IIJ)I"⟩
abbrev cX9_word : ByteArray := prog_1_method_3_code
def yX9_word : MethodName := ⟨RX9, "word", "(II)J"⟩
abbrev cX9_copy : ByteArray := prog_1_method_4_code
def yX9_copy : MethodName := ⟨RX9, "copy", "(II)I"⟩
abbrev cX9_type : ByteArray := prog_1_method_5_code
def yX9_type : MethodName := ⟨RX9, "type", "(JI)I"⟩
abbrev cX9_clear : ByteArray := prog_1_method_6_code
def yX9_clear : MethodName := ⟨RX9, "clear", "()I"⟩
abbrev cX9_at : ByteArray := prog_1_method_7_code
def yX9_at : MethodName := ⟨RX9, "at", "(I)I"⟩
abbrev cX9_flip : ByteArray := prog_1_method_8_code
def yX9_flip : MethodName := ⟨RX9, "flip", "(III)I"⟩
abbrev cX9_field : ByteArray := prog_1_method_9_code
def yX9_field : MethodName := ⟨RX9, "field", "(IIII)I"⟩
abbrev cX9_power : ByteArray := prog_1_method_10_code
def yX9_power : MethodName := ⟨RX9, "power", "(III)I"⟩
abbrev cX9_root : ByteArray := prog_1_method_11_code
def yX9_root : MethodName := ⟨RX9, "root", "(II)I"⟩
abbrev cX9_about : ByteArray := prog_1_method_12_code
def yX9_about : MethodName := ⟨RX9, "about", "(II)I"⟩
abbrev cX9_compare : ByteArray := prog_1_method_13_code
def yX9_compare : MethodName := ⟨RX9, "compare", "(II)I"⟩
abbrev cX9_scalar : ByteArray := prog_1_method_14_code
def yX9_scalar : MethodName := ⟨RX9, "scalar", "(IIII)I"⟩
abbrev cX9_isPoint : ByteArray := prog_1_method_15_code
def yX9_isPoint : MethodName := ⟨RX9, "isPoint", "(I)I"⟩
abbrev cX9_across : ByteArray := prog_1_method_16_code
def yX9_across : MethodName := ⟨RX9, "across", "(II)I"⟩
abbrev cX9_sum : ByteArray := prog_1_method_17_code
def yX9_sum : MethodName := ⟨RX9, "sum", "(IIII)I"⟩
abbrev cX9_times : ByteArray := prog_1_method_18_code
def yX9_times : MethodName := ⟨RX9, "times", "(III)I"⟩
abbrev cX9_base : ByteArray := prog_1_method_19_code
def yX9_base : MethodName := ⟨RX9, "base", "(II)I"⟩
abbrev cX9_small : ByteArray := prog_1_method_20_code
def yX9_small : MethodName := ⟨RX9, "small", "(I)I"⟩
abbrev cX9_other : ByteArray := prog_1_method_21_code
def yX9_other : MethodName := ⟨RX9, "other", "(II)I"⟩
abbrev cX9_share : ByteArray := prog_1_method_22_code
def yX9_share : MethodName := ⟨RX9, "share", "(III)I"⟩
abbrev cX9_digest : ByteArray := prog_1_method_23_code
def yX9_digest : MethodName := ⟨RX9, "digest", "(I)I"⟩
abbrev cX9_key : ByteArray := prog_1_method_24_code
def yX9_key : MethodName := ⟨RX9, "key", "(II)I"⟩
abbrev cX9_sign : ByteArray := prog_1_method_25_code
def yX9_sign : MethodName := ⟨RX9, "sign", "(II)I"⟩
abbrev cX9_judge : ByteArray := prog_1_method_26_code
def yX9_judge : MethodName := ⟨RX9, "judge", "(II)I"⟩
abbrev cX9_count : ByteArray := prog_1_method_27_code
def yX9_count : MethodName := ⟨RX9, "count", "(I)I"⟩
abbrev cX9_isSlot : ByteArray := prog_1_method_28_code
def yX9_isSlot : MethodName := ⟨RX9, "isSlot", "(I)Z"⟩
abbrev cX9_isPair : ByteArray := prog_1_method_29_code
def yX9_isPair : MethodName := ⟨RX9, "isPair", "(I)Z"⟩
abbrev cX9_isWithin : ByteArray := prog_1_method_30_code
def yX9_isWithin : MethodName := ⟨RX9, "isWithin", "(II)Z"⟩
abbrev cX9_told : ByteArray := prog_1_method_31_code
def yX9_told : MethodName := ⟨RX9, "told", "(Z)I"⟩
abbrev cX9_combine : ByteArray := prog_1_method_32_code
def yX9_combine : MethodName := ⟨RX9, "combine", "(I)V"⟩
def RX10 : String := "LadderSignsModel"
def TX10 : u_T := fun k => match k with
  | 0 => ("LadderSignsModel", "slots", "[J", true)
  | 1 => ("LadderSignsModel", "text", "[I", true)
  | 2 => ("LadderSignsModel", "size", "I", false)
  | 3 => ("LadderSignsModel", "work", "I", false)
  | 4 => ("LadderSignsModel", "signed", "I", false)
  | 5 => ("LadderSignsModel", "judged", "I", false)
  | 6 => ("LadderSignsModel", "right", "I", false)
  | 7 => ("LadderSignsModel", "g", "[J", true)
  | 8 => ("LadderSignsModel", "product", "[J", true)
  | 9 => ("LadderSignsModel", "w", "[J", true)
  | 10 => ("LadderSignsModel", "first", "[J", true)
  | 11 => ("LadderSignsModel", "third", "[J", true)
  | 12 => ("LadderSignsModel", "root", "[J", true)
  | 13 => ("LadderSignsModel", "square", "[J", true)
  | 14 => ("LadderSignsModel", "cube", "[J", true)
  | 15 => ("LadderSignsModel", "message", "[I", true)
  | 16 => ("LadderSignsModel", "messageSize", "I", false)
  | 17 => ("LadderSignsModel", "schedule", "[J", true)
  | 18 => ("LadderSignsModel", "state", "[J", true)
  | 19 => ("LadderSignsModel", "v", "[J", true)
  | 20 => ("LadderSignsModel", "digest", "[I", true)
  | 21 => ("LadderSignsModel", "great", "[J", true)
  | _ => ("LadderSignsModel", "rest", "[J", true)
def tyX10 : Nat → FieldType := fun k => match k with
  | 0 => .array .long
  | 1 => .array .int
  | 2 => .int
  | 3 => .int
  | 4 => .int
  | 5 => .int
  | 6 => .int
  | 7 => .array .long
  | 8 => .array .long
  | 9 => .array .long
  | 10 => .array .long
  | 11 => .array .long
  | 12 => .array .long
  | 13 => .array .long
  | 14 => .array .long
  | 15 => .array .int
  | 16 => .int
  | 17 => .array .long
  | 18 => .array .long
  | 19 => .array .long
  | 20 => .array .int
  | 21 => .array .long
  | _ => .array .long
abbrev wsX100 : List Cond := u_ws RX10 TX10 23
theorem nmX10 : ∀ a, a < 23 → ∀ b, b < 23 → a ≠ b → (TX10 a).2.1 ≠ (TX10 b).2.1 := by decide +kernel
theorem tyX10_ok : ∀ k, k < 23 → parseFieldDescriptor (TX10 k).2.2.1 = some (tyX10 k) := by decide +kernel
abbrev cX10_init : ByteArray := prog_12_method_1_code
def yX10_init : MethodName := ⟨RX10, "<init>", "()V"⟩
abbrev cX10_in : ByteArray := prog_12_method_3_code
def yX10_in : MethodName := ⟨RX10, "in", "(III)Z"⟩
abbrev cX10_isSlot : ByteArray := prog_12_method_4_code
def yX10_isSlot : MethodName := ⟨RX10, "isSlot", "(I)Z"⟩
abbrev cX10_words : ByteArray := prog_12_method_5_code
def yX10_words : MethodName := ⟨RX10, "words", "(IJJJJ)V"⟩
abbrev cX10_fromSlot : ByteArray := prog_12_method_6_code
def yX10_fromSlot : MethodName := ⟨RX10, "fromSlot", "(II)V"⟩
abbrev cX10_toSlot : ByteArray := prog_12_method_7_code
def yX10_toSlot : MethodName := ⟨RX10, "toSlot", "(II)V"⟩
abbrev cX10_bit : ByteArray := prog_12_method_8_code
def yX10_bit : MethodName := ⟨RX10, "bit", "(II)I"⟩
abbrev cX10_isBelow : ByteArray := prog_12_method_9_code
def yX10_isBelow : MethodName := ⟨RX10, "isBelow", "(JJ)Z"⟩
abbrev cX10_against : ByteArray := prog_12_method_10_code
def yX10_against : MethodName := ⟨RX10, "against", "(II)I"⟩
abbrev cX10_put : ByteArray := prog_12_method_11_code
def yX10_put : MethodName := ⟨RX10, "put", "(IJ)V"⟩
abbrev cX10_copyOf : ByteArray := prog_12_method_12_code
def yX10_copyOf : MethodName := ⟨RX10, "copyOf", "(II)V"⟩
abbrev cX10_reduce : ByteArray := prog_12_method_13_code
def yX10_reduce : MethodName := ⟨RX10, "reduce", "(I)V"⟩
abbrev cX10_add : ByteArray := prog_12_method_14_code
def yX10_add : MethodName := ⟨RX10, "add", "(III)V"⟩
abbrev cX10_subtract : ByteArray := prog_12_method_15_code
def yX10_subtract : MethodName := ⟨RX10, "subtract", "(III)V"⟩
abbrev cX10_multiply : ByteArray := prog_12_method_16_code
def yX10_multiply : MethodName := ⟨RX10, "multiply", "(III)V"⟩
abbrev cX10_raise : ByteArray := prog_12_method_17_code
def yX10_raise : MethodName := ⟨RX10, "raise", "(III)V"⟩
abbrev cX10_invert : ByteArray := prog_12_method_18_code
def yX10_invert : MethodName := ⟨RX10, "invert", "(II)V"⟩
abbrev cX10_pack : ByteArray := prog_12_method_19_code
def yX10_pack : MethodName := ⟨RX10, "pack", "(II)V"⟩
abbrev cX10_lessPrime : ByteArray := prog_12_method_20_code
def yX10_lessPrime : MethodName := ⟨RX10, "lessPrime", "()V"⟩
abbrev cX10_unpack : ByteArray := prog_12_method_21_code
def yX10_unpack : MethodName := ⟨RX10, "unpack", "(II)V"⟩
abbrev cX10_isSame : ByteArray := prog_12_method_22_code
def yX10_isSame : MethodName := ⟨RX10, "isSame", "(II)Z"⟩
abbrev cX10_lowest : ByteArray := prog_12_method_23_code
def yX10_lowest : MethodName := ⟨RX10, "lowest", "(I)I"⟩
abbrev cX10_roots : ByteArray := prog_12_method_24_code
def yX10_roots : MethodName := ⟨RX10, "roots", "(II)Z"⟩
abbrev cX10_neutral : ByteArray := prog_12_method_25_code
def yX10_neutral : MethodName := ⟨RX10, "neutral", "(I)V"⟩
abbrev cX10_addPoint : ByteArray := prog_12_method_27_code
def yX10_addPoint : MethodName := ⟨RX10, "addPoint", "(II)V"⟩
abbrev cX10_many : ByteArray := prog_12_method_28_code
def yX10_many : MethodName := ⟨RX10, "many", "(III)V"⟩
abbrev cX10_bytes : ByteArray := prog_12_method_29_code
def yX10_bytes : MethodName := ⟨RX10, "bytes", "(II)V"⟩
abbrev cX10_open : ByteArray := prog_12_method_30_code
def yX10_open : MethodName := ⟨RX10, "open", "(II)Z"⟩
abbrev cX10_isNeutral : ByteArray := prog_12_method_31_code
def yX10_isNeutral : MethodName := ⟨RX10, "isNeutral", "(I)Z"⟩
abbrev cX10_isPrime : ByteArray := prog_12_method_32_code
def yX10_isPrime : MethodName := ⟨RX10, "isPrime", "(I)Z"⟩
abbrev cX10_powers : ByteArray := prog_12_method_33_code
def yX10_powers : MethodName := ⟨RX10, "powers", "()V"⟩
abbrev cX10_behindPoint : ByteArray := prog_12_method_34_code
def yX10_behindPoint : MethodName := ⟨RX10, "behindPoint", "(IZ)J"⟩
abbrev cX10_roots_ : ByteArray := prog_12_method_35_code
def yX10_roots_ : MethodName := ⟨RX10, "roots", "()V"⟩
abbrev cX10_tell : ByteArray := prog_12_method_36_code
def yX10_tell : MethodName := ⟨RX10, "tell", "(I)V"⟩
abbrev cX10_tellWords : ByteArray := prog_12_method_37_code
def yX10_tellWords : MethodName := ⟨RX10, "tellWords", "(I)V"⟩
abbrev cX10_tellText : ByteArray := prog_12_method_38_code
def yX10_tellText : MethodName := ⟨RX10, "tellText", "()V"⟩
abbrev cX10_turned : ByteArray := prog_12_method_39_code
def yX10_turned : MethodName := ⟨RX10, "turned", "(JI)J"⟩
abbrev cX10_block : ByteArray := prog_12_method_40_code
def yX10_block : MethodName := ⟨RX10, "block", "(I)V"⟩
abbrev cX10_digests : ByteArray := prog_12_method_41_code
def yX10_digests : MethodName := ⟨RX10, "digests", "()V"⟩
abbrev cX10_digestWords : ByteArray := prog_12_method_42_code
def yX10_digestWords : MethodName := ⟨RX10, "digestWords", "(II)V"⟩
abbrev cX10_limb : ByteArray := prog_12_method_43_code
def yX10_limb : MethodName := ⟨RX10, "limb", "(JI)J"⟩
abbrev cX10_modulo : ByteArray := prog_12_method_44_code
def yX10_modulo : MethodName := ⟨RX10, "modulo", "(I)V"⟩
abbrev cX10_lessOrder : ByteArray := prog_12_method_45_code
def yX10_lessOrder : MethodName := ⟨RX10, "lessOrder", "()V"⟩
abbrev cX10_scalarOf : ByteArray := prog_12_method_46_code
def yX10_scalarOf : MethodName := ⟨RX10, "scalarOf", "(IIII)V"⟩
abbrev cX10_digestScalar : ByteArray := prog_12_method_47_code
def yX10_digestScalar : MethodName := ⟨RX10, "digestScalar", "(I)V"⟩
abbrev cX10_set : ByteArray := prog_12_method_48_code
def yX10_set : MethodName := ⟨RX10, "set", "(IIJ)I"⟩
abbrev cX10_word : ByteArray := prog_12_method_49_code
def yX10_word : MethodName := ⟨RX10, "word", "(II)J"⟩
abbrev cX10_copy : ByteArray := prog_12_method_50_code
def yX10_copy : MethodName := ⟨RX10, "copy", "(II)I"⟩
abbrev cX10_type : ByteArray := prog_12_method_51_code
def yX10_type : MethodName := ⟨RX10, "type", "(JI)I"⟩
abbrev cX10_clear : ByteArray := prog_12_method_52_code
def yX10_clear : MethodName := ⟨RX10, "clear", "()I"⟩
abbrev cX10_at : ByteArray := prog_12_method_53_code
def yX10_at : MethodName := ⟨RX10, "at", "(I)I"⟩
abbrev cX10_flip : ByteArray := prog_12_method_54_code
def yX10_flip : MethodName := ⟨RX10, "flip", "(III)I"⟩
abbrev cX10_load : ByteArray := prog_12_method_55_code
def yX10_load : MethodName := ⟨RX10, "load", "(II)V"⟩
abbrev cX10_store : ByteArray := prog_12_method_56_code
def yX10_store : MethodName := ⟨RX10, "store", "(II)V"⟩
abbrev cX10_field : ByteArray := prog_12_method_57_code
def yX10_field : MethodName := ⟨RX10, "field", "(IIII)I"⟩
abbrev cX10_power : ByteArray := prog_12_method_58_code
def yX10_power : MethodName := ⟨RX10, "power", "(III)I"⟩
abbrev cX10_root : ByteArray := prog_12_method_59_code
def yX10_root : MethodName := ⟨RX10, "root", "(II)I"⟩
abbrev cX10_about : ByteArray := prog_12_method_60_code
def yX10_about : MethodName := ⟨RX10, "about", "(II)I"⟩
abbrev cX10_compare : ByteArray := prog_12_method_61_code
def yX10_compare : MethodName := ⟨RX10, "compare", "(II)I"⟩
abbrev cX10_scalar : ByteArray := prog_12_method_62_code
def yX10_scalar : MethodName := ⟨RX10, "scalar", "(IIII)I"⟩
abbrev cX10_opens : ByteArray := prog_12_method_63_code
def yX10_opens : MethodName := ⟨RX10, "opens", "(II)Z"⟩
abbrev cX10_storePoint : ByteArray := prog_12_method_64_code
def yX10_storePoint : MethodName := ⟨RX10, "storePoint", "(II)V"⟩
abbrev cX10_isPoint : ByteArray := prog_12_method_65_code
def yX10_isPoint : MethodName := ⟨RX10, "isPoint", "(I)I"⟩
abbrev cX10_across : ByteArray := prog_12_method_66_code
def yX10_across : MethodName := ⟨RX10, "across", "(II)I"⟩
abbrev cX10_negate : ByteArray := prog_12_method_67_code
def yX10_negate : MethodName := ⟨RX10, "negate", "(I)V"⟩
abbrev cX10_sum : ByteArray := prog_12_method_68_code
def yX10_sum : MethodName := ⟨RX10, "sum", "(IIII)I"⟩
abbrev cX10_times : ByteArray := prog_12_method_69_code
def yX10_times : MethodName := ⟨RX10, "times", "(III)I"⟩
abbrev cX10_base : ByteArray := prog_12_method_70_code
def yX10_base : MethodName := ⟨RX10, "base", "(II)I"⟩
abbrev cX10_small : ByteArray := prog_12_method_71_code
def yX10_small : MethodName := ⟨RX10, "small", "(I)I"⟩
abbrev cX10_other : ByteArray := prog_12_method_72_code
def yX10_other : MethodName := ⟨RX10, "other", "(II)I"⟩
abbrev cX10_clamp : ByteArray := prog_12_method_73_code
def yX10_clamp : MethodName := ⟨RX10, "clamp", "(I)V"⟩
abbrev cX10_swap : ByteArray := prog_12_method_74_code
def yX10_swap : MethodName := ⟨RX10, "swap", "(II)V"⟩
abbrev cX10_share : ByteArray := prog_12_method_75_code
def yX10_share : MethodName := ⟨RX10, "share", "(III)I"⟩
abbrev cX10_digest : ByteArray := prog_12_method_76_code
def yX10_digest : MethodName := ⟨RX10, "digest", "(I)I"⟩
abbrev cX10_open_ : ByteArray := prog_12_method_77_code
def yX10_open_ : MethodName := ⟨RX10, "open", "(I)V"⟩
abbrev cX10_key : ByteArray := prog_12_method_78_code
def yX10_key : MethodName := ⟨RX10, "key", "(II)I"⟩
abbrev cX10_sign : ByteArray := prog_12_method_79_code
def yX10_sign : MethodName := ⟨RX10, "sign", "(II)I"⟩
abbrev cX10_eightTimes : ByteArray := prog_12_method_80_code
def yX10_eightTimes : MethodName := ⟨RX10, "eightTimes", "(I)V"⟩
abbrev cX10_isRight : ByteArray := prog_12_method_81_code
def yX10_isRight : MethodName := ⟨RX10, "isRight", "(II)Z"⟩
abbrev cX10_judge : ByteArray := prog_12_method_82_code
def yX10_judge : MethodName := ⟨RX10, "judge", "(II)I"⟩
abbrev cX10_count : ByteArray := prog_12_method_83_code
def yX10_count : MethodName := ⟨RX10, "count", "(I)I"⟩
def RJ10 : String := "java/lang/System"
def TJ10 : u_T := fun k => match k with
  | _ => ("", "", "", false)
def tyJ10 : Nat → FieldType := fun k => match k with
  | _ => .int
abbrev wsJ100 : List Cond := u_ws RJ10 TJ10 0
theorem nmJ10 : ∀ a, a < 0 → ∀ b, b < 0 → a ≠ b → (TJ10 a).2.1 ≠ (TJ10 b).2.1 := by decide +kernel
theorem tyJ10_ok : ∀ k, k < 0 → parseFieldDescriptor (TJ10 k).2.2.1 = some (tyJ10 k) := by decide +kernel
def RJ7 : String := "java/util/Arrays"
def TJ7 : u_T := fun k => match k with
  | _ => ("", "", "", false)
def tyJ7 : Nat → FieldType := fun k => match k with
  | _ => .int
abbrev wsJ70 : List Cond := u_ws RJ7 TJ7 0
theorem nmJ7 : ∀ a, a < 0 → ∀ b, b < 0 → a ≠ b → (TJ7 a).2.1 ≠ (TJ7 b).2.1 := by decide +kernel
theorem tyJ7_ok : ∀ k, k < 0 → parseFieldDescriptor (TJ7 k).2.2.1 = some (tyJ7 k) := by decide +kernel
abbrev cJ7_fill_d0a16 : ByteArray := prog_14_method_101_code
def yJ7_fill_d0a16 : MethodName := ⟨RJ7, "fill", "([JJ)V"⟩
def RL : String := "LadderSignsLaw"
abbrev cL_law : ByteArray := code
def yL_law : MethodName := ⟨RL, "law", "([I)Z"⟩
abbrev vwCl : List vw_C := [(RX0, TX0, 14), (RX1, TX1, 8), (RX2, TX2, 11), (RX3, TX3, 4), (RX4, TX4, 3), (RX5, TX5, 4), (RX6, TX6, 12), (RX7, TX7, 2), (RX9, TX9, 17), (RX10, TX10, 23)]
def wsL_law_r1 : List Cond := [Cond.classLink RL 7 RX9, Cond.instantiable RX9 17, Cond.initialized RX9, Cond.classLink RL 10 RX10, Cond.instantiable RX10 23, Cond.initialized RX10, Cond.constantLong RL 13 (4294967295), Cond.methodLink RL 9 yX9_init, Cond.instanceMethod yX9_init, Cond.code yX9_init cX9_init 1 none, Cond.methodLink RX9 1 objectInit, Cond.instanceMethod objectInit, Cond.code objectInit ⟨#[0xb1]⟩ 1 none, Cond.classLink RX9 11 "[[J", Cond.arrayClass .long, Cond.fieldLink RX9 13 "LadderSigns" "slots" "[[J", Cond.classLink RX9 16 RX7, Cond.instantiable RX7 2, Cond.initialized RX7, Cond.fieldLink RX9 19 "LadderSigns" "text" "LLadderSigns$Text;", Cond.fieldLink RX9 23 "LadderSigns" "workLeft" "I", Cond.fieldLink RX9 27 "LadderSigns" "signaturesMade" "I", Cond.fieldLink RX9 30 "LadderSigns" "judged" "I", Cond.fieldLink RX9 33 "LadderSigns" "judgedRight" "I"]
def wsL_law_r2 : List Cond := [Cond.classLink RX9 36 RX1, Cond.instantiable RX1 8, Cond.initialized RX1, Cond.fieldLink RX9 39 "LadderSigns" "numbers" "LLadderSigns$FieldNumbers;", Cond.classLink RX9 43 RX4, Cond.instantiable RX4 3, Cond.initialized RX4, Cond.fieldLink RX9 46 "LadderSigns" "scalars" "LLadderSigns$Scalars;", Cond.classLink RX9 50 RX0, Cond.instantiable RX0 14, Cond.initialized RX0, Cond.fieldLink RX9 55 "LadderSigns" "curve" "LLadderSigns$Curve;", Cond.classLink RX9 59 RX2, Cond.instantiable RX2 11, Cond.initialized RX2, Cond.fieldLink RX9 62 "LadderSigns" "ladder" "LLadderSigns$Ladder;", Cond.classLink RX9 66 RX5, Cond.instantiable RX5 4, Cond.initialized RX5, Cond.fieldLink RX9 69 "LadderSigns" "sha" "LLadderSigns$Sha512;", Cond.classLink RX9 73 RX6, Cond.instantiable RX6 12, Cond.initialized RX6, Cond.fieldLink RX9 78 "LadderSigns" "signer" "LLadderSigns$Signer;"]
def wsL_law_r3 : List Cond := [Cond.fieldLink RX9 82 "LadderSigns" "first" "[J", Cond.fieldLink RX9 86 "LadderSigns" "second" "[J", Cond.fieldLink RX9 89 "LadderSigns" "hash" "[J", Cond.classLink RX9 92 RX3, Cond.instantiable RX3 4, Cond.initialized RX3, Cond.fieldLink RX9 95 "LadderSigns" "left" "LLadderSigns$Point;", Cond.fieldLink RX9 99 "LadderSigns" "right" "LLadderSigns$Point;", Cond.instanceMethod yX7_init, Cond.code yX7_init cX7_init 1 none, Cond.methodLink RX7 1 objectInit, Cond.arrayClass .byte, Cond.fieldLink RX7 9 "LadderSigns$Text" "bytes" "[B", Cond.fieldLink RX7 13 "LadderSigns$Text" "length" "I", Cond.methodLink RX9 38 yX1_init, Cond.instanceMethod yX1_init, Cond.code yX1_init cX1_init 1 none, Cond.methodLink RX1 3 objectInit, Cond.fieldLink RX1 9 "LadderSigns$FieldNumbers" "zero" "[J", Cond.fieldLink RX1 13 "LadderSigns$FieldNumbers" "rootOfMinusOne" "[J", Cond.fieldLink RX1 16 "LadderSigns$FieldNumbers" "wide" "[J", Cond.fieldLink RX1 19 "LadderSigns$FieldNumbers" "exact" "[J", Cond.fieldLink RX1 22 "LadderSigns$FieldNumbers" "difference" "[J", Cond.fieldLink RX1 25 "LadderSigns$FieldNumbers" "candidate" "[J"]
def wsL_law_r4 : List Cond := [Cond.fieldLink RX1 28 "LadderSigns$FieldNumbers" "itsSquare" "[J", Cond.classLink RX1 31 "[[J", Cond.fieldLink RX1 33 "LadderSigns$FieldNumbers" "powers" "[[J", Cond.fieldLink RX1 36 "LadderSigns$FieldNumbers" "ROOT_OF_MINUS_ONE" "[J", Cond.methodLink RX1 39 yX1_load, Cond.instanceMethod yX1_load, Cond.selects RX1 yX1_load yX1_load, Cond.code yX1_load cX1_load 8 none, Cond.constantLong RX1 45 (67108863), Cond.constantLong RX1 47 (2097151), Cond.instanceMethod yX4_init, Cond.code yX4_init cX4_init 1 none, Cond.methodLink RX4 1 objectInit, Cond.fieldLink RX4 9 "LadderSigns$Scalars" "factor" "[J", Cond.fieldLink RX4 15 "LadderSigns$Scalars" "total" "[J", Cond.fieldLink RX4 18 "LadderSigns$Scalars" "summand" "[J", Cond.methodLink RX9 52 yX0_init, Cond.instanceMethod yX0_init, Cond.code yX0_init cX0_init 3 none, Cond.methodLink RX0 1 objectInit, Cond.classLink RX0 7 RX3, Cond.fieldLink RX0 10 "LadderSigns$Curve" "basePoint" "LLadderSigns$Point;", Cond.fieldLink RX0 18 "LadderSigns$Curve" "one" "[J", Cond.fieldLink RX0 22 "LadderSigns$Curve" "d" "[J"]
def wsL_law_r5 : List Cond := [Cond.fieldLink RX0 25 "LadderSigns$Curve" "twiceD" "[J", Cond.fieldLink RX0 28 "LadderSigns$Curve" "a" "[J", Cond.fieldLink RX0 31 "LadderSigns$Curve" "b" "[J", Cond.fieldLink RX0 34 "LadderSigns$Curve" "c" "[J", Cond.fieldLink RX0 37 "LadderSigns$Curve" "e" "[J", Cond.fieldLink RX0 40 "LadderSigns$Curve" "f" "[J", Cond.fieldLink RX0 43 "LadderSigns$Curve" "g" "[J", Cond.fieldLink RX0 46 "LadderSigns$Curve" "h" "[J", Cond.fieldLink RX0 51 "LadderSigns$Curve" "lowBits" "[J", Cond.fieldLink RX0 54 "LadderSigns$Curve" "table" "[LLadderSigns$Point;", Cond.fieldLink RX0 58 "LadderSigns$Curve" "numbers" "LLadderSigns$FieldNumbers;", Cond.fieldLink RX0 66 "LadderSigns$Curve" "D" "[J", Cond.fieldLink RX0 77 "LadderSigns$Curve" "BASE_X" "[J", Cond.fieldLink RX0 80 "LadderSigns$Point" "x" "[J", Cond.fieldLink RX0 83 "LadderSigns$Curve" "BASE_Y" "[J", Cond.fieldLink RX0 86 "LadderSigns$Point" "y" "[J", Cond.instanceMethod yX3_init, Cond.code yX3_init cX3_init 1 none, Cond.methodLink RX3 1 objectInit, Cond.fieldLink RX3 9 "LadderSigns$Point" "x" "[J", Cond.fieldLink RX3 15 "LadderSigns$Point" "y" "[J", Cond.fieldLink RX3 18 "LadderSigns$Point" "z" "[J", Cond.fieldLink RX3 21 "LadderSigns$Point" "t" "[J", Cond.methodLink RX0 62 yX1_become]
def wsL_law_r6 : List Cond := [Cond.instanceMethod yX1_become, Cond.selects RX1 yX1_become yX1_become, Cond.code yX1_become cX1_become 4 none, Cond.methodLink RX1 53 yJ7_fill_d0a16, Cond.static yJ7_fill_d0a16, Cond.initialized RJ7, Cond.code yJ7_fill_d0a16 cJ7_fill_d0a16 5 none, Cond.methodLink RX0 69 yX1_load, Cond.methodLink RX0 73 yX1_add, Cond.instanceMethod yX1_add, Cond.selects RX1 yX1_add yX1_add, Cond.code yX1_add cX1_add 5 none, Cond.methodLink RX0 89 yX0_complete, Cond.instanceMethod yX0_complete, Cond.selects RX0 yX0_complete yX0_complete, Cond.code yX0_complete cX0_complete 2 none, Cond.fieldLink RX0 93 "LadderSigns$Point" "z" "[J", Cond.fieldLink RX0 96 "LadderSigns$Point" "t" "[J", Cond.methodLink RX0 99 yX1_multiply, Cond.instanceMethod yX1_multiply, Cond.selects RX1 yX1_multiply yX1_multiply, Cond.code yX1_multiply cX1_multiply 8 none, Cond.methodLink RX1 72 yX1_fold, Cond.instanceMethod yX1_fold]
def wsL_law_r7 : List Cond := [Cond.selects RX1 yX1_fold yX1_fold, Cond.code yX1_fold cX1_fold 3 none, Cond.constantLong RX1 77 (608), Cond.methodLink RX1 69 yX1_carry, Cond.instanceMethod yX1_carry, Cond.selects RX1 yX1_carry yX1_carry, Cond.code yX1_carry cX1_carry 4 none, Cond.constantLong RX1 79 (19), Cond.methodLink RX9 61 yX2_init, Cond.instanceMethod yX2_init, Cond.code yX2_init cX2_init 2 none, Cond.methodLink RX2 1 objectInit, Cond.fieldLink RX2 9 "LadderSigns$Ladder" "secret" "[J", Cond.fieldLink RX2 17 "LadderSigns$Ladder" "x2" "[J", Cond.fieldLink RX2 20 "LadderSigns$Ladder" "z2" "[J", Cond.fieldLink RX2 23 "LadderSigns$Ladder" "x3" "[J", Cond.fieldLink RX2 26 "LadderSigns$Ladder" "z3" "[J", Cond.fieldLink RX2 29 "LadderSigns$Ladder" "a" "[J", Cond.fieldLink RX2 32 "LadderSigns$Ladder" "b" "[J", Cond.fieldLink RX2 35 "LadderSigns$Ladder" "c" "[J", Cond.fieldLink RX2 38 "LadderSigns$Ladder" "d" "[J", Cond.fieldLink RX2 41 "LadderSigns$Ladder" "e" "[J", Cond.fieldLink RX2 44 "LadderSigns$Ladder" "numbers" "LLadderSigns$FieldNumbers;", Cond.instanceMethod yX5_init]
def wsL_law_r8 : List Cond := [Cond.code yX5_init cX5_init 1 none, Cond.methodLink RX5 5 objectInit, Cond.fieldLink RX5 11 "LadderSigns$Sha512" "message" "[B", Cond.fieldLink RX5 15 "LadderSigns$Sha512" "length" "I", Cond.fieldLink RX5 19 "LadderSigns$Sha512" "schedule" "[J", Cond.fieldLink RX5 23 "LadderSigns$Sha512" "state" "[J", Cond.methodLink RX9 75 yX6_init, Cond.instanceMethod yX6_init, Cond.code yX6_init cX6_init 4 none, Cond.methodLink RX6 1 objectInit, Cond.fieldLink RX6 9 "LadderSigns$Signer" "hash" "[J", Cond.fieldLink RX6 17 "LadderSigns$Signer" "secretNumber" "[J", Cond.fieldLink RX6 20 "LadderSigns$Signer" "secretPrefix" "[J", Cond.fieldLink RX6 23 "LadderSigns$Signer" "nonce" "[J", Cond.fieldLink RX6 26 "LadderSigns$Signer" "challenge" "[J", Cond.fieldLink RX6 29 "LadderSigns$Signer" "keyRow" "[J", Cond.classLink RX6 32 RX3, Cond.fieldLink RX6 35 "LadderSigns$Signer" "keyPoint" "LLadderSigns$Point;", Cond.fieldLink RX6 39 "LadderSigns$Signer" "noncePoint" "LLadderSigns$Point;", Cond.fieldLink RX6 42 "LadderSigns$Signer" "product" "LLadderSigns$Point;", Cond.fieldLink RX6 45 "LadderSigns$Signer" "curve" "LLadderSigns$Curve;", Cond.fieldLink RX6 49 "LadderSigns$Signer" "scalars" "LLadderSigns$Scalars;", Cond.fieldLink RX6 53 "LadderSigns$Signer" "sha" "LLadderSigns$Sha512;", Cond.methodLink RL 12 yX10_init]
def wsL_law_r9 : List Cond := [Cond.instanceMethod yX10_init, Cond.code yX10_init cX10_init 1 none, Cond.methodLink RX10 1 objectInit, Cond.fieldLink RX10 7 "LadderSignsModel" "slots" "[J", Cond.arrayClass .int, Cond.fieldLink RX10 13 "LadderSignsModel" "text" "[I", Cond.fieldLink RX10 17 "LadderSignsModel" "work" "I", Cond.fieldLink RX10 21 "LadderSignsModel" "g" "[J", Cond.fieldLink RX10 24 "LadderSignsModel" "product" "[J", Cond.fieldLink RX10 27 "LadderSignsModel" "w" "[J", Cond.fieldLink RX10 30 "LadderSignsModel" "first" "[J", Cond.fieldLink RX10 33 "LadderSignsModel" "third" "[J", Cond.fieldLink RX10 36 "LadderSignsModel" "root" "[J", Cond.fieldLink RX10 39 "LadderSignsModel" "square" "[J", Cond.fieldLink RX10 42 "LadderSignsModel" "cube" "[J", Cond.fieldLink RX10 45 "LadderSignsModel" "message" "[I", Cond.fieldLink RX10 48 "LadderSignsModel" "schedule" "[J", Cond.fieldLink RX10 51 "LadderSignsModel" "state" "[J", Cond.fieldLink RX10 54 "LadderSignsModel" "v" "[J", Cond.fieldLink RX10 57 "LadderSignsModel" "digest" "[I", Cond.fieldLink RX10 60 "LadderSignsModel" "great" "[J", Cond.fieldLink RX10 63 "LadderSignsModel" "rest" "[J", Cond.constantLong RX10 66 (-19), Cond.constantLong RX10 68 (-1)]
def wsL_law_r10 : List Cond := [Cond.constantLong RX10 70 (9223372036854775807), Cond.constantLong RX10 76 (6346243789798364141), Cond.constantLong RX10 78 (1503914060200516822), Cond.constantLong RX10 80 (1152921504606846976), Cond.constantLong RX10 86 (2), Cond.constantLong RX10 88 (-5), Cond.constantLong RX10 90 (2305843009213693951), Cond.constantLong RX10 96 (121665), Cond.constantLong RX10 101 (121666), Cond.constantLong RX10 117 (4), Cond.constantLong RX10 119 (5), Cond.methodLink RX10 72 yX10_words, Cond.instanceMethod yX10_words, Cond.selects RX10 yX10_words yX10_words, Cond.code yX10_words cX10_words 10 none, Cond.methodLink RX10 82 yX10_put, Cond.instanceMethod yX10_put, Cond.selects RX10 yX10_put yX10_put, Cond.code yX10_put cX10_put 5 none, Cond.constantLong RX10 141 (65535), Cond.methodLink RX10 92 yX10_raise, Cond.instanceMethod yX10_raise, Cond.selects RX10 yX10_raise yX10_raise, Cond.code yX10_raise cX10_raise 5 none]
def wsL_law_r11 : List Cond := [Cond.methodLink RX10 145 yX10_copyOf, Cond.instanceMethod yX10_copyOf, Cond.selects RX10 yX10_copyOf yX10_copyOf, Cond.code yX10_copyOf cX10_copyOf 4 none, Cond.methodLink RX10 107 yX10_multiply, Cond.instanceMethod yX10_multiply, Cond.selects RX10 yX10_multiply yX10_multiply, Cond.code yX10_multiply cX10_multiply 6 none, Cond.constantLong RX10 143 (38), Cond.methodLink RX10 113 yX10_reduce, Cond.instanceMethod yX10_reduce, Cond.selects RX10 yX10_reduce yX10_reduce, Cond.code yX10_reduce cX10_reduce 5 none, Cond.methodLink RX10 148 yX10_bit, Cond.instanceMethod yX10_bit, Cond.selects RX10 yX10_bit yX10_bit, Cond.code yX10_bit cX10_bit 3 (some .int), Cond.methodLink RX10 98 yX10_subtract, Cond.instanceMethod yX10_subtract, Cond.selects RX10 yX10_subtract yX10_subtract, Cond.code yX10_subtract cX10_subtract 5 none, Cond.methodLink RX10 103 yX10_invert, Cond.instanceMethod yX10_invert, Cond.selects RX10 yX10_invert yX10_invert]
def wsL_law_r12 : List Cond := [Cond.code yX10_invert cX10_invert 3 none, Cond.constantLong RX10 152 (-21), Cond.methodLink RX10 110 yX10_add, Cond.instanceMethod yX10_add, Cond.selects RX10 yX10_add yX10_add, Cond.code yX10_add cX10_add 5 none, Cond.methodLink RX10 121 yX10_pack, Cond.instanceMethod yX10_pack, Cond.selects RX10 yX10_pack yX10_pack, Cond.code yX10_pack cX10_pack 5 none, Cond.methodLink RX10 154 yX10_lessPrime, Cond.instanceMethod yX10_lessPrime, Cond.selects RX10 yX10_lessPrime yX10_lessPrime, Cond.code yX10_lessPrime cX10_lessPrime 6 none, Cond.constantLong RX10 157 (65517), Cond.constantLong RX10 159 (32767), Cond.methodLink RX10 124 yX10_open, Cond.instanceMethod yX10_open, Cond.selects RX10 yX10_open yX10_open, Cond.code yX10_open cX10_open 5 (some .boolean), Cond.methodLink RX10 161 yX10_against, Cond.instanceMethod yX10_against, Cond.selects RX10 yX10_against yX10_against, Cond.code yX10_against cX10_against 4 (some .int)]
def wsL_law_r13 : List Cond := [Cond.methodLink RX10 137 yX10_isBelow, Cond.static yX10_isBelow, Cond.code yX10_isBelow cX10_isBelow 4 (some .boolean), Cond.constantLong RX10 135 (-9223372036854775808), Cond.methodLink RX10 181 yX10_unpack, Cond.instanceMethod yX10_unpack, Cond.selects RX10 yX10_unpack yX10_unpack, Cond.code yX10_unpack cX10_unpack 4 none, Cond.methodLink RX10 184 yX10_roots, Cond.instanceMethod yX10_roots, Cond.selects RX10 yX10_roots yX10_roots, Cond.code yX10_roots cX10_roots 3 (some .boolean), Cond.constantLong RX10 164 (-2), Cond.constantLong RX10 166 (1152921504606846975), Cond.methodLink RX10 168 yX10_isSame, Cond.instanceMethod yX10_isSame, Cond.selects RX10 yX10_isSame yX10_isSame, Cond.code yX10_isSame cX10_isSame 3 (some .boolean), Cond.methodLink RX10 177 yX10_lowest, Cond.instanceMethod yX10_lowest, Cond.selects RX10 yX10_lowest yX10_lowest, Cond.code yX10_lowest cX10_lowest 2 (some .int), Cond.methodLink RX10 128 yX10_roots_, Cond.instanceMethod yX10_roots_]
def wsL_law_r14 : List Cond := [Cond.selects RX10 yX10_roots_ yX10_roots_, Cond.code yX10_roots_ cX10_roots_ 3 none, Cond.methodLink RX10 189 yX10_isPrime, Cond.static yX10_isPrime, Cond.code yX10_isPrime cX10_isPrime 3 (some .boolean), Cond.methodLink RX10 193 yX10_behindPoint, Cond.instanceMethod yX10_behindPoint, Cond.selects RX10 yX10_behindPoint yX10_behindPoint, Cond.code yX10_behindPoint cX10_behindPoint 6 (some .long), Cond.methodLink RX10 186 yX10_powers, Cond.instanceMethod yX10_powers, Cond.selects RX10 yX10_powers yX10_powers, Cond.code yX10_powers cX10_powers 3 none, Cond.methodLink RL 15 yX9_set, Cond.instanceMethod yX9_set, Cond.selects RX9 yX9_set yX9_set, Cond.code yX9_set cX9_set 5 (some .int), Cond.methodLink RX9 102 yX9_isSlot, Cond.static yX9_isSlot, Cond.code yX9_isSlot cX9_isSlot 1 (some .boolean), Cond.methodLink RX9 106 yX9_isWithin, Cond.static yX9_isWithin, Cond.code yX9_isWithin cX9_isWithin 2 (some .boolean), Cond.methodLink RL 19 yX10_set]
def wsL_law_r15 : List Cond := [Cond.instanceMethod yX10_set, Cond.selects RX10 yX10_set yX10_set, Cond.code yX10_set cX10_set 5 (some .int), Cond.methodLink RX10 222 yX10_isSlot, Cond.static yX10_isSlot, Cond.code yX10_isSlot cX10_isSlot 1 (some .boolean), Cond.methodLink RX10 131 yX10_in, Cond.static yX10_in, Cond.code yX10_in cX10_in 3 (some .boolean), Cond.methodLink RL 20 yX9_word, Cond.instanceMethod yX9_word, Cond.selects RX9 yX9_word yX9_word, Cond.code yX9_word cX9_word 3 (some .long), Cond.methodLink RL 24 yX10_word, Cond.instanceMethod yX10_word, Cond.selects RX10 yX10_word yX10_word, Cond.code yX10_word cX10_word 3 (some .long), Cond.methodLink RL 25 yX9_copy, Cond.instanceMethod yX9_copy, Cond.selects RX9 yX9_copy yX9_copy, Cond.code yX9_copy cX9_copy 3 (some .int), Cond.methodLink RX9 110 yX8_move, Cond.static yX8_move, Cond.initialized RX8]
def wsL_law_r16 : List Cond := [Cond.code yX8_move cX8_move 2 none, Cond.methodLink RX8 9 arraycopyName, Cond.native arraycopyName, Cond.static arraycopyName, Cond.initialized "java/lang/System", Cond.methodLink RL 29 yX10_copy, Cond.instanceMethod yX10_copy, Cond.selects RX10 yX10_copy yX10_copy, Cond.code yX10_copy cX10_copy 3 (some .int), Cond.methodLink RX10 225 yX10_fromSlot, Cond.instanceMethod yX10_fromSlot, Cond.selects RX10 yX10_fromSlot yX10_fromSlot, Cond.code yX10_fromSlot cX10_fromSlot 3 none, Cond.methodLink RX10 228 yX10_toSlot, Cond.instanceMethod yX10_toSlot, Cond.selects RX10 yX10_toSlot yX10_toSlot, Cond.code yX10_toSlot cX10_toSlot 4 none, Cond.methodLink RL 30 yX9_type, Cond.instanceMethod yX9_type, Cond.selects RX9 yX9_type yX9_type, Cond.code yX9_type cX9_type 4 (some .int), Cond.fieldLink RX9 114 "LadderSigns$Text" "length" "I", Cond.methodLink RX9 117 yX7_append, Cond.instanceMethod yX7_append]
def wsL_law_r17 : List Cond := [Cond.selects RX7 yX7_append yX7_append, Cond.code yX7_append cX7_append 5 none, Cond.methodLink RL 34 yX10_type, Cond.instanceMethod yX10_type, Cond.selects RX10 yX10_type yX10_type, Cond.code yX10_type cX10_type 5 (some .int), Cond.fieldLink RX10 203 "LadderSignsModel" "size" "I", Cond.methodLink RL 35 yX9_clear, Cond.instanceMethod yX9_clear, Cond.selects RX9 yX9_clear yX9_clear, Cond.code yX9_clear cX9_clear 2 (some .int), Cond.methodLink RL 39 yX10_clear, Cond.instanceMethod yX10_clear, Cond.selects RX10 yX10_clear yX10_clear, Cond.code yX10_clear cX10_clear 2 (some .int), Cond.methodLink RL 40 yX9_at, Cond.instanceMethod yX9_at, Cond.selects RX9 yX9_at yX9_at, Cond.code yX9_at cX9_at 2 (some .int), Cond.methodLink RX9 121 yX7_byteAt, Cond.instanceMethod yX7_byteAt, Cond.selects RX7 yX7_byteAt yX7_byteAt, Cond.code yX7_byteAt cX7_byteAt 2 (some .int), Cond.methodLink RL 44 yX10_at]
def wsL_law_r18 : List Cond := [Cond.instanceMethod yX10_at, Cond.selects RX10 yX10_at yX10_at, Cond.code yX10_at cX10_at 2 (some .int), Cond.methodLink RL 45 yX9_flip, Cond.instanceMethod yX9_flip, Cond.selects RX9 yX9_flip yX9_flip, Cond.code yX9_flip cX9_flip 5 (some .int), Cond.methodLink RX9 125 yX8_bit, Cond.static yX8_bit, Cond.code yX8_bit cX8_bit 2 (some .int), Cond.methodLink RL 49 yX10_flip, Cond.instanceMethod yX10_flip, Cond.selects RX10 yX10_flip yX10_flip, Cond.code yX10_flip cX10_flip 5 (some .int), Cond.methodLink RL 50 yX9_field, Cond.instanceMethod yX9_field, Cond.selects RX9 yX9_field yX9_field, Cond.code yX9_field cX9_field 5 (some .int), Cond.methodLink RX9 129 yX1_load, Cond.methodLink RX9 132 yX1_isZero, Cond.instanceMethod yX1_isZero, Cond.selects RX1 yX1_isZero yX1_isZero, Cond.code yX1_isZero cX1_isZero 2 (some .boolean), Cond.methodLink RX1 49 yX1_makeExact]
def wsL_law_r19 : List Cond := [Cond.instanceMethod yX1_makeExact, Cond.selects RX1 yX1_makeExact yX1_makeExact, Cond.code yX1_makeExact cX1_makeExact 2 none, Cond.methodLink RX1 81 yX1_move, Cond.instanceMethod yX1_move, Cond.selects RX1 yX1_move yX1_move, Cond.code yX1_move cX1_move 3 none, Cond.methodLink RX1 59 arraycopyName, Cond.methodLink RX1 84 yX1_isNothing, Cond.static yX1_isNothing, Cond.code yX1_isNothing cX1_isNothing 4 (some .boolean), Cond.methodLink RX9 136 yX9_combine, Cond.instanceMethod yX9_combine, Cond.selects RX9 yX9_combine yX9_combine, Cond.code yX9_combine cX9_combine 2 none, Cond.methodLink RX9 247 yX1_add, Cond.methodLink RX9 249 yX1_subtract, Cond.instanceMethod yX1_subtract, Cond.selects RX1 yX1_subtract yX1_subtract, Cond.code yX1_subtract cX1_subtract 5 none, Cond.methodLink RX9 252 yX1_multiply, Cond.methodLink RX9 254 yX1_invert, Cond.instanceMethod yX1_invert, Cond.selects RX1 yX1_invert yX1_invert]
def wsL_law_r20 : List Cond := [Cond.code yX1_invert cX1_invert 3 none, Cond.fieldLink RX1 101 "LadderSigns$FieldNumbers" "INVERTING_POWER" "[J", Cond.methodLink RX1 104 yX1_raise, Cond.instanceMethod yX1_raise, Cond.selects RX1 yX1_raise yX1_raise, Cond.code yX1_raise cX1_raise 6 none, Cond.methodLink RX1 88 yX1_become, Cond.methodLink RX1 91 yX1_multiply, Cond.methodLink RX1 94 yX1_square, Cond.instanceMethod yX1_square, Cond.selects RX1 yX1_square yX1_square, Cond.code yX1_square cX1_square 7 none, Cond.constantLong RX1 75 (2), Cond.methodLink RX1 97 yX8_nibble, Cond.static yX8_nibble, Cond.code yX8_nibble cX8_nibble 2 (some .int), Cond.methodLink RX9 140 yX1_store, Cond.instanceMethod yX1_store, Cond.selects RX1 yX1_store yX1_store, Cond.code yX1_store cX1_store 6 none, Cond.methodLink RL 54 yX10_field, Cond.instanceMethod yX10_field, Cond.selects RX10 yX10_field yX10_field, Cond.code yX10_field cX10_field 5 (some .int)]
def wsL_law_r21 : List Cond := [Cond.methodLink RX10 231 yX10_load, Cond.instanceMethod yX10_load, Cond.selects RX10 yX10_load yX10_load, Cond.code yX10_load cX10_load 3 none, Cond.methodLink RX10 234 yX10_store, Cond.instanceMethod yX10_store, Cond.selects RX10 yX10_store yX10_store, Cond.code yX10_store cX10_store 3 none, Cond.methodLink RL 55 yX9_power, Cond.instanceMethod yX9_power, Cond.selects RX9 yX9_power yX9_power, Cond.code yX9_power cX9_power 4 (some .int), Cond.methodLink RX9 143 yX1_raise, Cond.methodLink RL 58 yX10_power, Cond.instanceMethod yX10_power, Cond.selects RX10 yX10_power yX10_power, Cond.code yX10_power cX10_power 4 (some .int), Cond.methodLink RL 59 yX9_root, Cond.instanceMethod yX9_root, Cond.selects RX9 yX9_root yX9_root, Cond.code yX9_root cX9_root 3 (some .int), Cond.methodLink RX9 147 yX1_findRoot, Cond.instanceMethod yX1_findRoot, Cond.selects RX1 yX1_findRoot yX1_findRoot]
def wsL_law_r22 : List Cond := [Cond.code yX1_findRoot cX1_findRoot 3 (some .boolean), Cond.fieldLink RX1 107 "LadderSigns$FieldNumbers" "ROOT_POWER" "[J", Cond.methodLink RX1 110 yX1_areSame, Cond.instanceMethod yX1_areSame, Cond.selects RX1 yX1_areSame yX1_areSame, Cond.code yX1_areSame cX1_areSame 3 (some .boolean), Cond.methodLink RX1 65 yX1_subtract, Cond.methodLink RX1 114 yX1_isOdd, Cond.instanceMethod yX1_isOdd, Cond.selects RX1 yX1_isOdd yX1_isOdd, Cond.code yX1_isOdd cX1_isOdd 2 (some .boolean), Cond.methodLink RX1 117 yX1_negate, Cond.instanceMethod yX1_negate, Cond.selects RX1 yX1_negate yX1_negate, Cond.code yX1_negate cX1_negate 3 none, Cond.methodLink RL 62 yX10_root, Cond.instanceMethod yX10_root, Cond.selects RX10 yX10_root yX10_root, Cond.code yX10_root cX10_root 3 (some .int), Cond.methodLink RL 63 yX9_about, Cond.instanceMethod yX9_about, Cond.selects RX9 yX9_about yX9_about, Cond.code yX9_about cX9_about 4 (some .int), Cond.fieldLink RX9 151 "LadderSigns$FieldNumbers" "PRIME" "[J"]
def wsL_law_r23 : List Cond := [Cond.methodLink RX9 154 yX8_order, Cond.static yX8_order, Cond.code yX8_order cX8_order 3 (some .int), Cond.constantLong RX8 15 (-9223372036854775808), Cond.methodLink RX9 158 yX9_told, Cond.static yX9_told, Cond.code yX9_told cX9_told 1 (some .int), Cond.methodLink RX9 162 yX4_isBelowOrder, Cond.static yX4_isBelowOrder, Cond.code yX4_isBelowOrder cX4_isBelowOrder 1 (some .boolean), Cond.fieldLink RX4 21 "LadderSigns$Scalars" "ORDER" "[J", Cond.methodLink RX4 24 yX8_order, Cond.methodLink RX9 165 yX1_isOdd, Cond.methodLink RX9 168 yX8_bitLength, Cond.static yX8_bitLength, Cond.code yX8_bitLength cX8_bitLength 2 (some .int), Cond.methodLink RX8 17 yX8_bit, Cond.methodLink RL 66 yX10_about, Cond.instanceMethod yX10_about, Cond.selects RX10 yX10_about yX10_about, Cond.code yX10_about cX10_about 4 (some .int), Cond.methodLink RL 67 yX9_compare, Cond.instanceMethod yX9_compare, Cond.selects RX9 yX9_compare yX9_compare]
def wsL_law_r24 : List Cond := [Cond.code yX9_compare cX9_compare 3 (some .int), Cond.methodLink RL 70 yX10_compare, Cond.instanceMethod yX10_compare, Cond.selects RX10 yX10_compare yX10_compare, Cond.code yX10_compare cX10_compare 3 (some .int), Cond.methodLink RL 71 yX9_scalar, Cond.instanceMethod yX9_scalar, Cond.selects RX9 yX9_scalar yX9_scalar, Cond.code yX9_scalar cX9_scalar 5 (some .int), Cond.methodLink RX9 172 yX4_multiplyAndAdd, Cond.instanceMethod yX4_multiplyAndAdd, Cond.selects RX4 yX4_multiplyAndAdd yX4_multiplyAndAdd, Cond.code yX4_multiplyAndAdd cX4_multiplyAndAdd 6 none, Cond.methodLink RX4 49 yX4_reduce, Cond.static yX4_reduce, Cond.code yX4_reduce cX4_reduce 4 none, Cond.fieldLink RX4 46 "LadderSigns$Scalars" "ONE" "[J", Cond.methodLink RX4 35 yJ7_fill_d0a16, Cond.methodLink RX4 41 yX4_increase, Cond.static yX4_increase, Cond.code yX4_increase cX4_increase 2 none, Cond.methodLink RX4 28 yX8_increase, Cond.static yX8_increase, Cond.code yX8_increase cX8_increase 11 none]
def wsL_law_r25 : List Cond := [Cond.constantLong RX8 21 (-1), Cond.methodLink RX4 32 yX8_decrease, Cond.static yX8_decrease, Cond.code yX8_decrease cX8_decrease 11 none, Cond.methodLink RX4 42 yX8_bit, Cond.methodLink RX4 53 yX8_move, Cond.methodLink RL 74 yX10_scalar, Cond.instanceMethod yX10_scalar, Cond.selects RX10 yX10_scalar yX10_scalar, Cond.code yX10_scalar cX10_scalar 5 (some .int), Cond.methodLink RX10 237 yX10_scalarOf, Cond.instanceMethod yX10_scalarOf, Cond.selects RX10 yX10_scalarOf yX10_scalarOf, Cond.code yX10_scalarOf cX10_scalarOf 7 none, Cond.methodLink RX10 216 yX10_limb, Cond.static yX10_limb, Cond.code yX10_limb cX10_limb 3 (some .long), Cond.methodLink RX10 219 yX10_modulo, Cond.instanceMethod yX10_modulo, Cond.selects RX10 yX10_modulo yX10_modulo, Cond.code yX10_modulo cX10_modulo 6 none, Cond.methodLink RX10 213 yX10_lessOrder, Cond.instanceMethod yX10_lessOrder, Cond.selects RX10 yX10_lessOrder yX10_lessOrder]
def wsL_law_r26 : List Cond := [Cond.code yX10_lessOrder cX10_lessOrder 6 none, Cond.methodLink RL 75 yX9_isPoint, Cond.instanceMethod yX9_isPoint, Cond.selects RX9 yX9_isPoint yX9_isPoint, Cond.code yX9_isPoint cX9_isPoint 2 (some .int), Cond.methodLink RX9 176 yX0_read, Cond.instanceMethod yX0_read, Cond.selects RX0 yX0_read yX0_read, Cond.code yX0_read cX0_read 3 (some .boolean), Cond.constantLong RX0 105 (9223372036854775807), Cond.fieldLink RX0 107 "LadderSigns$FieldNumbers" "PRIME" "[J", Cond.methodLink RX0 102 yX8_move, Cond.methodLink RX0 110 yX8_order, Cond.methodLink RX0 114 yX1_square, Cond.methodLink RX0 117 yX1_invert, Cond.methodLink RX0 120 yX1_subtract, Cond.methodLink RX0 123 yX1_findRoot, Cond.methodLink RX0 127 yX8_bit, Cond.methodLink RX0 131 yX1_isZero, Cond.methodLink RX0 135 yX1_negate, Cond.methodLink RL 78 yX10_isPoint, Cond.instanceMethod yX10_isPoint, Cond.selects RX10 yX10_isPoint yX10_isPoint, Cond.code yX10_isPoint cX10_isPoint 2 (some .int)]
def wsL_law_r27 : List Cond := [Cond.methodLink RX10 244 yX10_opens, Cond.instanceMethod yX10_opens, Cond.selects RX10 yX10_opens yX10_opens, Cond.code yX10_opens cX10_opens 3 (some .boolean), Cond.methodLink RL 79 yX9_across, Cond.instanceMethod yX9_across, Cond.selects RX9 yX9_across yX9_across, Cond.code yX9_across cX9_across 3 (some .int), Cond.fieldLink RX9 180 "LadderSigns$Point" "x" "[J", Cond.methodLink RL 82 yX10_across, Cond.instanceMethod yX10_across, Cond.selects RX10 yX10_across yX10_across, Cond.code yX10_across cX10_across 3 (some .int), Cond.methodLink RL 83 yX9_sum, Cond.instanceMethod yX9_sum, Cond.selects RX9 yX9_sum yX9_sum, Cond.code yX9_sum cX9_sum 5 (some .int), Cond.methodLink RX9 183 yX0_negate, Cond.instanceMethod yX0_negate, Cond.selects RX0 yX0_negate yX0_negate, Cond.code yX0_negate cX0_negate 2 none, Cond.methodLink RX9 187 yX0_add, Cond.instanceMethod yX0_add, Cond.selects RX0 yX0_add yX0_add]
def wsL_law_r28 : List Cond := [Cond.code yX0_add cX0_add 4 none, Cond.methodLink RX9 191 yX0_write, Cond.instanceMethod yX0_write, Cond.selects RX0 yX0_write yX0_write, Cond.code yX0_write cX0_write 3 none, Cond.constantLong RX0 144 (-9223372036854775808), Cond.methodLink RX0 138 yX1_store, Cond.methodLink RX0 141 yX1_isOdd, Cond.methodLink RL 86 yX10_sum, Cond.instanceMethod yX10_sum, Cond.selects RX10 yX10_sum yX10_sum, Cond.code yX10_sum cX10_sum 5 (some .int), Cond.methodLink RX10 247 yX10_negate, Cond.instanceMethod yX10_negate, Cond.selects RX10 yX10_negate yX10_negate, Cond.code yX10_negate cX10_negate 2 none, Cond.methodLink RX10 174 yX10_addPoint, Cond.instanceMethod yX10_addPoint, Cond.selects RX10 yX10_addPoint yX10_addPoint, Cond.code yX10_addPoint cX10_addPoint 3 none, Cond.methodLink RX10 250 yX10_storePoint, Cond.instanceMethod yX10_storePoint, Cond.selects RX10 yX10_storePoint yX10_storePoint, Cond.code yX10_storePoint cX10_storePoint 3 none]
def wsL_law_r29 : List Cond := [Cond.methodLink RX10 241 yX10_bytes, Cond.instanceMethod yX10_bytes, Cond.selects RX10 yX10_bytes yX10_bytes, Cond.code yX10_bytes cX10_bytes 5 none, Cond.methodLink RL 87 yX9_times, Cond.instanceMethod yX9_times, Cond.selects RX9 yX9_times yX9_times, Cond.code yX9_times cX9_times 4 (some .int), Cond.methodLink RX9 195 yX0_multiply, Cond.instanceMethod yX0_multiply, Cond.selects RX0 yX0_multiply yX0_multiply, Cond.code yX0_multiply cX0_multiply 6 none, Cond.methodLink RX0 146 yX0_becomeNeutral, Cond.instanceMethod yX0_becomeNeutral, Cond.selects RX0 yX0_becomeNeutral yX0_becomeNeutral, Cond.code yX0_becomeNeutral cX0_becomeNeutral 2 none, Cond.methodLink RX0 149 yX0_add, Cond.methodLink RX0 152 yX0_twice, Cond.instanceMethod yX0_twice, Cond.selects RX0 yX0_twice yX0_twice, Cond.code yX0_twice cX0_twice 3 none, Cond.methodLink RX0 156 yX8_nibble, Cond.methodLink RL 90 yX10_times, Cond.instanceMethod yX10_times]
def wsL_law_r30 : List Cond := [Cond.selects RX10 yX10_times yX10_times, Cond.code yX10_times cX10_times 4 (some .int), Cond.methodLink RX10 253 yX10_many, Cond.instanceMethod yX10_many, Cond.selects RX10 yX10_many yX10_many, Cond.code yX10_many cX10_many 5 none, Cond.methodLink RX10 171 yX10_neutral, Cond.instanceMethod yX10_neutral, Cond.selects RX10 yX10_neutral yX10_neutral, Cond.code yX10_neutral cX10_neutral 2 none, Cond.methodLink RL 91 yX9_base, Cond.instanceMethod yX9_base, Cond.selects RX9 yX9_base yX9_base, Cond.code yX9_base cX9_base 3 (some .int), Cond.fieldLink RX9 199 "LadderSigns$Curve" "basePoint" "LLadderSigns$Point;", Cond.methodLink RL 94 yX10_base, Cond.instanceMethod yX10_base, Cond.selects RX10 yX10_base yX10_base, Cond.code yX10_base cX10_base 3 (some .int), Cond.methodLink RL 95 yX9_small, Cond.instanceMethod yX9_small, Cond.selects RX9 yX9_small yX9_small, Cond.code yX9_small cX9_small 3 (some .int), Cond.methodLink RX9 202 yX0_isNeutral]
def wsL_law_r31 : List Cond := [Cond.instanceMethod yX0_isNeutral, Cond.selects RX0 yX0_isNeutral yX0_isNeutral, Cond.code yX0_isNeutral cX0_isNeutral 2 (some .boolean), Cond.methodLink RX0 159 yX1_areSame, Cond.methodLink RX9 206 yX0_twice, Cond.methodLink RL 98 yX10_small, Cond.instanceMethod yX10_small, Cond.selects RX10 yX10_small yX10_small, Cond.code yX10_small cX10_small 3 (some .int), Cond.methodLink RX10 256 yX10_isNeutral, Cond.instanceMethod yX10_isNeutral, Cond.selects RX10 yX10_isNeutral yX10_isNeutral, Cond.code yX10_isNeutral cX10_isNeutral 2 (some .boolean), Cond.methodLink RL 99 yX9_other, Cond.instanceMethod yX9_other, Cond.selects RX9 yX9_other yX9_other, Cond.code yX9_other cX9_other 3 (some .int), Cond.methodLink RX9 210 yX0_findOtherShape, Cond.instanceMethod yX0_findOtherShape, Cond.selects RX0 yX0_findOtherShape yX0_findOtherShape, Cond.code yX0_findOtherShape cX0_findOtherShape 3 none, Cond.methodLink RL 102 yX10_other, Cond.instanceMethod yX10_other, Cond.selects RX10 yX10_other yX10_other]
def wsL_law_r32 : List Cond := [Cond.code yX10_other cX10_other 3 (some .int), Cond.methodLink RL 103 yX9_share, Cond.instanceMethod yX9_share, Cond.selects RX9 yX9_share yX9_share, Cond.code yX9_share cX9_share 4 (some .int), Cond.methodLink RX9 213 yX2_climb, Cond.instanceMethod yX2_climb, Cond.selects RX2 yX2_climb yX2_climb, Cond.code yX2_climb cX2_climb 5 none, Cond.methodLink RX2 48 yX8_move, Cond.methodLink RX2 52 yX8_clamp, Cond.static yX8_clamp, Cond.code yX8_clamp cX8_clamp 1 none, Cond.constantLong RX8 23 (-8), Cond.constantLong RX8 25 (9223372036854775807), Cond.constantLong RX8 27 (4611686018427387904), Cond.methodLink RX2 56 yX1_become, Cond.methodLink RX2 60 yX1_move, Cond.methodLink RX2 61 yX8_bit, Cond.methodLink RX2 65 yX2_step, Cond.instanceMethod yX2_step, Cond.selects RX2 yX2_step yX2_step, Cond.code yX2_step cX2_step 6 none, Cond.constantLong RX2 85 (121665)]
def wsL_law_r33 : List Cond := [Cond.methodLink RX2 76 yX1_add, Cond.methodLink RX2 79 yX1_subtract, Cond.methodLink RX2 72 yX1_multiply, Cond.methodLink RX2 82 yX1_square, Cond.methodLink RX2 87 yX1_scale, Cond.instanceMethod yX1_scale, Cond.selects RX1 yX1_scale yX1_scale, Cond.code yX1_scale cX1_scale 6 none, Cond.methodLink RX2 69 yX1_invert, Cond.methodLink RL 106 yX10_share, Cond.instanceMethod yX10_share, Cond.selects RX10 yX10_share yX10_share, Cond.code yX10_share cX10_share 6 (some .int), Cond.methodLink RX10 263 yX10_clamp, Cond.instanceMethod yX10_clamp, Cond.selects RX10 yX10_clamp yX10_clamp, Cond.code yX10_clamp cX10_clamp 2 none, Cond.constantLong RX10 259 (-8), Cond.constantLong RX10 261 (4611686018427387904), Cond.methodLink RX10 266 yX10_swap, Cond.instanceMethod yX10_swap, Cond.selects RX10 yX10_swap yX10_swap, Cond.code yX10_swap cX10_swap 6 none, Cond.methodLink RL 107 yX9_digest]
def wsL_law_r34 : List Cond := [Cond.instanceMethod yX9_digest, Cond.selects RX9 yX9_digest yX9_digest, Cond.code yX9_digest cX9_digest 2 (some .int), Cond.methodLink RX9 230 arraycopyName, Cond.methodLink RX9 216 yX9_isPair, Cond.static yX9_isPair, Cond.code yX9_isPair cX9_isPair 1 (some .boolean), Cond.methodLink RX9 219 yX5_begin, Cond.instanceMethod yX5_begin, Cond.selects RX5 yX5_begin yX5_begin, Cond.code yX5_begin cX5_begin 1 none, Cond.methodLink RX9 222 yX5_takeText, Cond.instanceMethod yX5_takeText, Cond.selects RX5 yX5_takeText yX5_takeText, Cond.code yX5_takeText cX5_takeText 3 none, Cond.fieldLink RX5 32 "LadderSigns$Text" "length" "I", Cond.methodLink RX5 33 yX7_byteAt, Cond.methodLink RX5 28 yX5_takeByte, Cond.instanceMethod yX5_takeByte, Cond.selects RX5 yX5_takeByte yX5_takeByte, Cond.code yX5_takeByte cX5_takeByte 2 none, Cond.methodLink RX9 226 yX5_finish, Cond.instanceMethod yX5_finish, Cond.selects RX5 yX5_finish yX5_finish]
def wsL_law_r35 : List Cond := [Cond.code yX5_finish cX5_finish 4 none, Cond.fieldLink RX5 40 "LadderSigns$Sha512" "FIRST_STATE" "[J", Cond.methodLink RX5 43 arraycopyName, Cond.methodLink RX5 37 yX5_pad, Cond.instanceMethod yX5_pad, Cond.selects RX5 yX5_pad yX5_pad, Cond.code yX5_pad cX5_pad 3 none, Cond.methodLink RX5 49 yX5_fillSchedule, Cond.instanceMethod yX5_fillSchedule, Cond.selects RX5 yX5_fillSchedule yX5_fillSchedule, Cond.code yX5_fillSchedule cX5_fillSchedule 11 none, Cond.methodLink RX5 59 yX5_rotated, Cond.static yX5_rotated, Cond.code yX5_rotated cX5_rotated 3 (some .long), Cond.methodLink RX5 52 yX5_mix, Cond.instanceMethod yX5_mix, Cond.selects RX5 yX5_mix yX5_mix, Cond.code yX5_mix cX5_mix 28 none, Cond.constantLong RX5 63 (-1), Cond.fieldLink RX5 65 "LadderSigns$Sha512" "ROUND_WORDS" "[J", Cond.methodLink RX5 55 yX5_turned, Cond.static yX5_turned, Cond.code yX5_turned cX5_turned 5 (some .long), Cond.constantLong RX5 68 (255)]
def wsL_law_r36 : List Cond := [Cond.methodLink RL 110 yX10_digest, Cond.instanceMethod yX10_digest, Cond.selects RX10 yX10_digest yX10_digest, Cond.code yX10_digest cX10_digest 2 (some .int), Cond.methodLink RX10 269 yX10_tellText, Cond.instanceMethod yX10_tellText, Cond.selects RX10 yX10_tellText yX10_tellText, Cond.code yX10_tellText cX10_tellText 2 none, Cond.methodLink RX10 200 yX10_tell, Cond.instanceMethod yX10_tell, Cond.selects RX10 yX10_tell yX10_tell, Cond.code yX10_tell cX10_tell 2 none, Cond.fieldLink RX10 197 "LadderSignsModel" "messageSize" "I", Cond.methodLink RX10 272 yX10_digests, Cond.instanceMethod yX10_digests, Cond.selects RX10 yX10_digests yX10_digests, Cond.code yX10_digests cX10_digests 3 none, Cond.methodLink RX10 210 yX10_block, Cond.instanceMethod yX10_block, Cond.selects RX10 yX10_block yX10_block, Cond.code yX10_block cX10_block 8 none, Cond.methodLink RX10 206 yX10_turned, Cond.static yX10_turned, Cond.code yX10_turned cX10_turned 3 (some .long)]
def wsL_law_r37 : List Cond := [Cond.methodLink RX10 275 yX10_digestWords, Cond.instanceMethod yX10_digestWords, Cond.selects RX10 yX10_digestWords yX10_digestWords, Cond.code yX10_digestWords cX10_digestWords 7 none, Cond.methodLink RL 111 yX9_key, Cond.instanceMethod yX9_key, Cond.selects RX9 yX9_key yX9_key, Cond.code yX9_key cX9_key 3 (some .int), Cond.methodLink RX9 236 yX6_makeKey, Cond.instanceMethod yX6_makeKey, Cond.selects RX6 yX6_makeKey yX6_makeKey, Cond.code yX6_makeKey cX6_makeKey 3 none, Cond.fieldLink RX6 61 "LadderSigns$Curve" "basePoint" "LLadderSigns$Point;", Cond.methodLink RX6 57 yX6_unfold, Cond.instanceMethod yX6_unfold, Cond.selects RX6 yX6_unfold yX6_unfold, Cond.code yX6_unfold cX6_unfold 2 none, Cond.methodLink RX6 125 arraycopyName, Cond.methodLink RX6 74 yX5_begin, Cond.methodLink RX6 77 yX5_takeRow, Cond.instanceMethod yX5_takeRow, Cond.selects RX5 yX5_takeRow yX5_takeRow, Cond.code yX5_takeRow cX5_takeRow 3 none, Cond.methodLink RX6 84 yX5_finish]
def wsL_law_r38 : List Cond := [Cond.methodLink RX6 131 yX8_clamp, Cond.methodLink RX6 66 yX0_multiply, Cond.methodLink RX6 70 yX0_write, Cond.methodLink RL 114 yX10_key, Cond.instanceMethod yX10_key, Cond.selects RX10 yX10_key yX10_key, Cond.code yX10_key cX10_key 3 (some .int), Cond.methodLink RX10 281 yX10_open_, Cond.instanceMethod yX10_open_, Cond.selects RX10 yX10_open_ yX10_open_, Cond.code yX10_open_ cX10_open_ 2 none, Cond.methodLink RX10 278 yX10_tellWords, Cond.instanceMethod yX10_tellWords, Cond.selects RX10 yX10_tellWords yX10_tellWords, Cond.code yX10_tellWords cX10_tellWords 3 none, Cond.methodLink RL 115 yX9_sign, Cond.instanceMethod yX9_sign, Cond.selects RX9 yX9_sign yX9_sign, Cond.code yX9_sign cX9_sign 3 (some .int), Cond.methodLink RX9 239 yX6_makeSignature, Cond.instanceMethod yX6_makeSignature, Cond.selects RX6 yX6_makeSignature yX6_makeSignature, Cond.code yX6_makeSignature cX6_makeSignature 5 none, Cond.methodLink RX6 80 yX5_takeText]
def wsL_law_r39 : List Cond := [Cond.methodLink RX6 87 yX4_reduce, Cond.methodLink RX6 93 yX6_findChallenge, Cond.instanceMethod yX6_findChallenge, Cond.selects RX6 yX6_findChallenge yX6_findChallenge, Cond.code yX6_findChallenge cX6_findChallenge 4 none, Cond.methodLink RX6 97 yX4_multiplyAndAdd, Cond.methodLink RL 118 yX10_sign, Cond.instanceMethod yX10_sign, Cond.selects RX10 yX10_sign yX10_sign, Cond.code yX10_sign cX10_sign 3 (some .int), Cond.fieldLink RX10 286 "LadderSignsModel" "signed" "I", Cond.methodLink RX10 283 yX10_digestScalar, Cond.instanceMethod yX10_digestScalar, Cond.selects RX10 yX10_digestScalar yX10_digestScalar, Cond.code yX10_digestScalar cX10_digestScalar 3 none, Cond.methodLink RL 119 yX9_judge, Cond.instanceMethod yX9_judge, Cond.selects RX9 yX9_judge yX9_judge, Cond.code yX9_judge cX9_judge 3 (some .int), Cond.methodLink RX9 243 yX6_isRight, Cond.instanceMethod yX6_isRight, Cond.selects RX6 yX6_isRight yX6_isRight, Cond.code yX6_isRight cX6_isRight 6 (some .boolean), Cond.methodLink RX6 101 yX4_isBelowOrder]
def wsL_law_r40 : List Cond := [Cond.methodLink RX6 105 yX0_read, Cond.methodLink RX6 109 yX0_add, Cond.methodLink RX6 113 yX0_negate, Cond.methodLink RX6 117 yX0_twice, Cond.methodLink RX6 121 yX0_isNeutral, Cond.methodLink RL 122 yX10_judge, Cond.instanceMethod yX10_judge, Cond.selects RX10 yX10_judge yX10_judge, Cond.code yX10_judge cX10_judge 3 (some .int), Cond.fieldLink RX10 292 "LadderSignsModel" "judged" "I", Cond.fieldLink RX10 298 "LadderSignsModel" "right" "I", Cond.methodLink RX10 295 yX10_isRight, Cond.instanceMethod yX10_isRight, Cond.selects RX10 yX10_isRight yX10_isRight, Cond.code yX10_isRight cX10_isRight 3 (some .boolean), Cond.methodLink RX10 289 yX10_eightTimes, Cond.instanceMethod yX10_eightTimes, Cond.selects RX10 yX10_eightTimes yX10_eightTimes, Cond.code yX10_eightTimes cX10_eightTimes 3 none, Cond.methodLink RL 123 yX9_count, Cond.instanceMethod yX9_count, Cond.selects RX9 yX9_count yX9_count, Cond.code yX9_count cX9_count 2 (some .int), Cond.methodLink RL 126 yX10_count]
def wsL_law_r41 : List Cond := [Cond.instanceMethod yX10_count, Cond.selects RX10 yX10_count yX10_count, Cond.code yX10_count cX10_count 2 (some .int)]
def wsL_law : List Cond := (wsL_law_r1 ++ (wsL_law_r2 ++ (wsL_law_r3 ++ (wsL_law_r4 ++ (wsL_law_r5 ++ (wsL_law_r6 ++ (wsL_law_r7 ++ (wsL_law_r8 ++ (wsL_law_r9 ++ (wsL_law_r10 ++ (wsL_law_r11 ++ (wsL_law_r12 ++ (wsL_law_r13 ++ (wsL_law_r14 ++ (wsL_law_r15 ++ (wsL_law_r16 ++ (wsL_law_r17 ++ (wsL_law_r18 ++ (wsL_law_r19 ++ (wsL_law_r20 ++ (wsL_law_r21 ++ (wsL_law_r22 ++ (wsL_law_r23 ++ (wsL_law_r24 ++ (wsL_law_r25 ++ (wsL_law_r26 ++ (wsL_law_r27 ++ (wsL_law_r28 ++ (wsL_law_r29 ++ (wsL_law_r30 ++ (wsL_law_r31 ++ (wsL_law_r32 ++ (wsL_law_r33 ++ (wsL_law_r34 ++ (wsL_law_r35 ++ (wsL_law_r36 ++ (wsL_law_r37 ++ (wsL_law_r38 ++ (wsL_law_r39 ++ (wsL_law_r40 ++ wsL_law_r41)))))))))))))))))))))))))))))))))))))))) ++ wsX90 ++ wsX100 ++ wsX70 ++ wsX10 ++ wsX40 ++ wsX00 ++ wsX20 ++ wsX50 ++ wsX60 ++ wsX30 ++ ([] : List Cond)
set_option maxRecDepth 20000 in
theorem wsL_law_in : ∀ w ∈ wsL_law, w ∈ lw_tbl := fun w h => (goodIn_p wsL_law [79, 82, 89, 106, 114, 146, 162, 168, 192, 195, 202, 210, 214, 218, 223, 274, 314, 333, 839, 847, 854, 862, 866, 870, 875, 879, 884, 889, 894, 900, 904, 910, 914, 917, 922, 926, 932, 936, 940, 943, 947, 951, 431, 434, 437, 1026, 1029, 1032, 441, 1036, 445, 448, 1040, 1044, 1048, 455, 459, 1052, 463, 1056, 467, 471, 1060, 475, 478, 1064, 482, 487, 491, 495, 499, 503, 508, 513, 519, 525, 529, 533, 1068, 1072, 1076, 537, 1080, 542, 546, 552, 557, 561, 1084, 565, 570, 574, 577, 584, 1088, 589, 1092, 593, 597, 600, 604, 607, 611, 1096, 1100, 1103, 1107, 1111, 619, 623, 1115, 1119, 638, 1123, 642, 646, 650, 654, 1127, 1131, 1135, 1139, 1143, 661, 665, 669, 674, 1147, 1151, 1155, 679, 1159, 683, 687, 1163, 1167, 693, 697, 1171, 701, 705, 709, 719, 728, 1175, 1179, 1185, 733, 736, 740, 744, 749, 753, 757, 764, 767, 771, 777, 1189, 1193, 1197, 1201, 1205, 1208, 1212, 783, 787, 791, 796, 1216, 1220, 1224, 805, 809, 815, 1228, 1232, 820, 824, 1236, 1240, 1244, 834, 1248] (by decide +kernel) (by decide +kernel) w h).1
theorem inlX0 : ∀ w ∈ wsX00, w ∈ wsL_law := fun _ h => List.mem_append_left _ (List.mem_append_left _ (List.mem_append_left _ (List.mem_append_left _ (List.mem_append_left _ (List.mem_append_right _ h)))))
theorem inX0 : ∀ w ∈ wsX00, w ∈ lw_tbl := fun w h => wsL_law_in w (inlX0 w h)
theorem inlX1 : ∀ w ∈ wsX10, w ∈ wsL_law := fun _ h => List.mem_append_left _ (List.mem_append_left _ (List.mem_append_left _ (List.mem_append_left _ (List.mem_append_left _ (List.mem_append_left _ (List.mem_append_left _ (List.mem_append_right _ h)))))))
theorem inX1 : ∀ w ∈ wsX10, w ∈ lw_tbl := fun w h => wsL_law_in w (inlX1 w h)
theorem inlX2 : ∀ w ∈ wsX20, w ∈ wsL_law := fun _ h => List.mem_append_left _ (List.mem_append_left _ (List.mem_append_left _ (List.mem_append_left _ (List.mem_append_right _ h))))
theorem inX2 : ∀ w ∈ wsX20, w ∈ lw_tbl := fun w h => wsL_law_in w (inlX2 w h)
theorem inlX3 : ∀ w ∈ wsX30, w ∈ wsL_law := fun _ h => List.mem_append_left _ (List.mem_append_right _ h)
theorem inX3 : ∀ w ∈ wsX30, w ∈ lw_tbl := fun w h => wsL_law_in w (inlX3 w h)
theorem inlX4 : ∀ w ∈ wsX40, w ∈ wsL_law := fun _ h => List.mem_append_left _ (List.mem_append_left _ (List.mem_append_left _ (List.mem_append_left _ (List.mem_append_left _ (List.mem_append_left _ (List.mem_append_right _ h))))))
theorem inX4 : ∀ w ∈ wsX40, w ∈ lw_tbl := fun w h => wsL_law_in w (inlX4 w h)
theorem inlX5 : ∀ w ∈ wsX50, w ∈ wsL_law := fun _ h => List.mem_append_left _ (List.mem_append_left _ (List.mem_append_left _ (List.mem_append_right _ h)))
theorem inX5 : ∀ w ∈ wsX50, w ∈ lw_tbl := fun w h => wsL_law_in w (inlX5 w h)
theorem inlX6 : ∀ w ∈ wsX60, w ∈ wsL_law := fun _ h => List.mem_append_left _ (List.mem_append_left _ (List.mem_append_right _ h))
theorem inX6 : ∀ w ∈ wsX60, w ∈ lw_tbl := fun w h => wsL_law_in w (inlX6 w h)
theorem inlX7 : ∀ w ∈ wsX70, w ∈ wsL_law := fun _ h => List.mem_append_left _ (List.mem_append_left _ (List.mem_append_left _ (List.mem_append_left _ (List.mem_append_left _ (List.mem_append_left _ (List.mem_append_left _ (List.mem_append_left _ (List.mem_append_right _ h))))))))
theorem inX7 : ∀ w ∈ wsX70, w ∈ lw_tbl := fun w h => wsL_law_in w (inlX7 w h)
theorem inX8 : ∀ w ∈ wsX80, w ∈ lw_tbl := by decide +kernel
theorem inlX9 : ∀ w ∈ wsX90, w ∈ wsL_law := fun _ h => List.mem_append_left _ (List.mem_append_left _ (List.mem_append_left _ (List.mem_append_left _ (List.mem_append_left _ (List.mem_append_left _ (List.mem_append_left _ (List.mem_append_left _ (List.mem_append_left _ (List.mem_append_left _ (List.mem_append_right _ h))))))))))
theorem inX9 : ∀ w ∈ wsX90, w ∈ lw_tbl := fun w h => wsL_law_in w (inlX9 w h)
theorem inlX10 : ∀ w ∈ wsX100, w ∈ wsL_law := fun _ h => List.mem_append_left _ (List.mem_append_left _ (List.mem_append_left _ (List.mem_append_left _ (List.mem_append_left _ (List.mem_append_left _ (List.mem_append_left _ (List.mem_append_left _ (List.mem_append_left _ (List.mem_append_right _ h)))))))))
theorem inX10 : ∀ w ∈ wsX100, w ∈ lw_tbl := fun w h => wsL_law_in w (inlX10 w h)
theorem inJ10 : ∀ w ∈ wsJ100, w ∈ lw_tbl := by decide +kernel
theorem inJ7 : ∀ w ∈ wsJ70, w ∈ lw_tbl := by decide +kernel
end
section
theorem dX0_init_0 : decode cX0_init 0 = .ok (.aload_n 0, 1) := by decide +kernel
theorem dX0_init_1 : decode cX0_init 1 = .ok (.invokespecial 1, 3) := by decide +kernel
theorem dX0_init_4 : decode cX0_init 4 = .ok (.aload_n 0, 1) := by decide +kernel
theorem dX0_init_5 : decode cX0_init 5 = .ok (.new 7, 3) := by decide +kernel
theorem dX0_init_8 : decode cX0_init 8 = .ok (.dup, 1) := by decide +kernel
theorem dX0_init_9 : decode cX0_init 9 = .ok (.invokespecial 9, 3) := by decide +kernel
theorem dX0_init_12 : decode cX0_init 12 = .ok (.putfield 10, 3) := by decide +kernel
theorem dX0_init_15 : decode cX0_init 15 = .ok (.aload_n 0, 1) := by decide +kernel
theorem dX0_init_16 : decode cX0_init 16 = .ok (.bipush 10, 2) := by decide +kernel
theorem dX0_init_18 : decode cX0_init 18 = .ok (.newarray .long, 2) := by decide +kernel
theorem dX0_init_20 : decode cX0_init 20 = .ok (.putfield 18, 3) := by decide +kernel
theorem dX0_init_23 : decode cX0_init 23 = .ok (.aload_n 0, 1) := by decide +kernel
theorem dX0_init_24 : decode cX0_init 24 = .ok (.bipush 10, 2) := by decide +kernel
theorem dX0_init_26 : decode cX0_init 26 = .ok (.newarray .long, 2) := by decide +kernel
theorem dX0_init_28 : decode cX0_init 28 = .ok (.putfield 22, 3) := by decide +kernel
theorem dX0_init_31 : decode cX0_init 31 = .ok (.aload_n 0, 1) := by decide +kernel
theorem dX0_init_32 : decode cX0_init 32 = .ok (.bipush 10, 2) := by decide +kernel
theorem dX0_init_34 : decode cX0_init 34 = .ok (.newarray .long, 2) := by decide +kernel
theorem dX0_init_36 : decode cX0_init 36 = .ok (.putfield 25, 3) := by decide +kernel
theorem dX0_init_39 : decode cX0_init 39 = .ok (.aload_n 0, 1) := by decide +kernel
theorem dX0_init_40 : decode cX0_init 40 = .ok (.bipush 10, 2) := by decide +kernel
theorem dX0_init_42 : decode cX0_init 42 = .ok (.newarray .long, 2) := by decide +kernel
theorem dX0_init_44 : decode cX0_init 44 = .ok (.putfield 28, 3) := by decide +kernel
theorem dX0_init_47 : decode cX0_init 47 = .ok (.aload_n 0, 1) := by decide +kernel
theorem dX0_init_48 : decode cX0_init 48 = .ok (.bipush 10, 2) := by decide +kernel
theorem dX0_init_50 : decode cX0_init 50 = .ok (.newarray .long, 2) := by decide +kernel
theorem dX0_init_52 : decode cX0_init 52 = .ok (.putfield 31, 3) := by decide +kernel
theorem dX0_init_55 : decode cX0_init 55 = .ok (.aload_n 0, 1) := by decide +kernel
theorem dX0_init_56 : decode cX0_init 56 = .ok (.bipush 10, 2) := by decide +kernel
theorem dX0_init_58 : decode cX0_init 58 = .ok (.newarray .long, 2) := by decide +kernel
theorem dX0_init_60 : decode cX0_init 60 = .ok (.putfield 34, 3) := by decide +kernel
theorem dX0_init_63 : decode cX0_init 63 = .ok (.aload_n 0, 1) := by decide +kernel
theorem dX0_init_64 : decode cX0_init 64 = .ok (.bipush 10, 2) := by decide +kernel
theorem dX0_init_66 : decode cX0_init 66 = .ok (.newarray .long, 2) := by decide +kernel
theorem dX0_init_68 : decode cX0_init 68 = .ok (.putfield 37, 3) := by decide +kernel
theorem dX0_init_71 : decode cX0_init 71 = .ok (.aload_n 0, 1) := by decide +kernel
theorem dX0_init_72 : decode cX0_init 72 = .ok (.bipush 10, 2) := by decide +kernel
theorem dX0_init_74 : decode cX0_init 74 = .ok (.newarray .long, 2) := by decide +kernel
theorem dX0_init_76 : decode cX0_init 76 = .ok (.putfield 40, 3) := by decide +kernel
theorem dX0_init_79 : decode cX0_init 79 = .ok (.aload_n 0, 1) := by decide +kernel
theorem dX0_init_80 : decode cX0_init 80 = .ok (.bipush 10, 2) := by decide +kernel
theorem dX0_init_82 : decode cX0_init 82 = .ok (.newarray .long, 2) := by decide +kernel
theorem dX0_init_84 : decode cX0_init 84 = .ok (.putfield 43, 3) := by decide +kernel
theorem dX0_init_87 : decode cX0_init 87 = .ok (.aload_n 0, 1) := by decide +kernel
theorem dX0_init_88 : decode cX0_init 88 = .ok (.bipush 10, 2) := by decide +kernel
theorem dX0_init_90 : decode cX0_init 90 = .ok (.newarray .long, 2) := by decide +kernel
theorem dX0_init_92 : decode cX0_init 92 = .ok (.putfield 46, 3) := by decide +kernel
theorem dX0_init_95 : decode cX0_init 95 = .ok (.aload_n 0, 1) := by decide +kernel
theorem dX0_init_96 : decode cX0_init 96 = .ok (.iconst 4, 1) := by decide +kernel
theorem dX0_init_97 : decode cX0_init 97 = .ok (.newarray .long, 2) := by decide +kernel
theorem dX0_init_99 : decode cX0_init 99 = .ok (.putfield 51, 3) := by decide +kernel
theorem dX0_init_102 : decode cX0_init 102 = .ok (.aload_n 0, 1) := by decide +kernel
theorem dX0_init_103 : decode cX0_init 103 = .ok (.bipush 16, 2) := by decide +kernel
theorem dX0_init_105 : decode cX0_init 105 = .ok (.anewarray 7, 3) := by decide +kernel
theorem dX0_init_108 : decode cX0_init 108 = .ok (.putfield 54, 3) := by decide +kernel
theorem dX0_init_111 : decode cX0_init 111 = .ok (.aload_n 0, 1) := by decide +kernel
theorem dX0_init_112 : decode cX0_init 112 = .ok (.aload_n 1, 1) := by decide +kernel
theorem dX0_init_113 : decode cX0_init 113 = .ok (.putfield 58, 3) := by decide +kernel
theorem dX0_init_116 : decode cX0_init 116 = .ok (.aload_n 1, 1) := by decide +kernel
theorem dX0_init_117 : decode cX0_init 117 = .ok (.aload_n 0, 1) := by decide +kernel
theorem dX0_init_118 : decode cX0_init 118 = .ok (.getfield 18, 3) := by decide +kernel
theorem dX0_init_121 : decode cX0_init 121 = .ok (.lconst 1, 1) := by decide +kernel
theorem dX0_init_122 : decode cX0_init 122 = .ok (.invokevirtual 62, 3) := by decide +kernel
theorem dX0_init_125 : decode cX0_init 125 = .ok (.aload_n 1, 1) := by decide +kernel
theorem dX0_init_126 : decode cX0_init 126 = .ok (.getstatic 66, 3) := by decide +kernel
theorem dX0_init_129 : decode cX0_init 129 = .ok (.aload_n 0, 1) := by decide +kernel
theorem dX0_init_130 : decode cX0_init 130 = .ok (.getfield 22, 3) := by decide +kernel
theorem dX0_init_133 : decode cX0_init 133 = .ok (.invokevirtual 69, 3) := by decide +kernel
theorem dX0_init_136 : decode cX0_init 136 = .ok (.aload_n 1, 1) := by decide +kernel
theorem dX0_init_137 : decode cX0_init 137 = .ok (.aload_n 0, 1) := by decide +kernel
theorem dX0_init_138 : decode cX0_init 138 = .ok (.getfield 22, 3) := by decide +kernel
theorem dX0_init_141 : decode cX0_init 141 = .ok (.aload_n 0, 1) := by decide +kernel
theorem dX0_init_142 : decode cX0_init 142 = .ok (.getfield 22, 3) := by decide +kernel
theorem dX0_init_145 : decode cX0_init 145 = .ok (.aload_n 0, 1) := by decide +kernel
theorem dX0_init_146 : decode cX0_init 146 = .ok (.getfield 25, 3) := by decide +kernel
theorem dX0_init_149 : decode cX0_init 149 = .ok (.invokevirtual 73, 3) := by decide +kernel
theorem dX0_init_152 : decode cX0_init 152 = .ok (.aload_n 1, 1) := by decide +kernel
theorem dX0_init_153 : decode cX0_init 153 = .ok (.getstatic 77, 3) := by decide +kernel
theorem dX0_init_156 : decode cX0_init 156 = .ok (.aload_n 0, 1) := by decide +kernel
theorem dX0_init_157 : decode cX0_init 157 = .ok (.getfield 10, 3) := by decide +kernel
theorem dX0_init_160 : decode cX0_init 160 = .ok (.getfield 80, 3) := by decide +kernel
theorem dX0_init_163 : decode cX0_init 163 = .ok (.invokevirtual 69, 3) := by decide +kernel
theorem dX0_init_166 : decode cX0_init 166 = .ok (.aload_n 1, 1) := by decide +kernel
theorem dX0_init_167 : decode cX0_init 167 = .ok (.getstatic 83, 3) := by decide +kernel
theorem dX0_init_170 : decode cX0_init 170 = .ok (.aload_n 0, 1) := by decide +kernel
theorem dX0_init_171 : decode cX0_init 171 = .ok (.getfield 10, 3) := by decide +kernel
theorem dX0_init_174 : decode cX0_init 174 = .ok (.getfield 86, 3) := by decide +kernel
theorem dX0_init_177 : decode cX0_init 177 = .ok (.invokevirtual 69, 3) := by decide +kernel
theorem dX0_init_180 : decode cX0_init 180 = .ok (.aload_n 0, 1) := by decide +kernel
theorem dX0_init_181 : decode cX0_init 181 = .ok (.aload_n 0, 1) := by decide +kernel
theorem dX0_init_182 : decode cX0_init 182 = .ok (.getfield 10, 3) := by decide +kernel
theorem dX0_init_185 : decode cX0_init 185 = .ok (.invokevirtual 89, 3) := by decide +kernel
theorem dX0_init_188 : decode cX0_init 188 = .ok (.iconst 0, 1) := by decide +kernel
theorem dX0_init_189 : decode cX0_init 189 = .ok (.istore_n 2, 1) := by decide +kernel
theorem dX0_init_190 : decode cX0_init 190 = .ok (.iload_n 2, 1) := by decide +kernel
theorem dX0_init_191 : decode cX0_init 191 = .ok (.aload_n 0, 1) := by decide +kernel
theorem dX0_init_192 : decode cX0_init 192 = .ok (.getfield 54, 3) := by decide +kernel
theorem dX0_init_195 : decode cX0_init 195 = .ok (.arraylength, 1) := by decide +kernel
theorem dX0_init_196 : decode cX0_init 196 = .ok (.if_icmp .ge 22, 3) := by decide +kernel
theorem dX0_init_199 : decode cX0_init 199 = .ok (.aload_n 0, 1) := by decide +kernel
theorem dX0_init_200 : decode cX0_init 200 = .ok (.getfield 54, 3) := by decide +kernel
theorem dX0_init_203 : decode cX0_init 203 = .ok (.iload_n 2, 1) := by decide +kernel
theorem dX0_init_204 : decode cX0_init 204 = .ok (.new 7, 3) := by decide +kernel
theorem dX0_init_207 : decode cX0_init 207 = .ok (.dup, 1) := by decide +kernel
theorem dX0_init_208 : decode cX0_init 208 = .ok (.invokespecial 9, 3) := by decide +kernel
theorem dX0_init_211 : decode cX0_init 211 = .ok (.aastore, 1) := by decide +kernel
theorem dX0_init_212 : decode cX0_init 212 = .ok (.iinc 2 1, 3) := by decide +kernel
theorem dX0_init_215 : decode cX0_init 215 = .ok (.goto (-25), 3) := by decide +kernel
theorem dX0_init_218 : decode cX0_init 218 = .ok (.return_, 1) := by decide +kernel
theorem dX0_complete_0 : decode cX0_complete 0 = .ok (.aload_n 0, 1) := by decide +kernel
theorem dX0_complete_1 : decode cX0_complete 1 = .ok (.getfield 58, 3) := by decide +kernel
theorem dX0_complete_4 : decode cX0_complete 4 = .ok (.aload_n 1, 1) := by decide +kernel
theorem dX0_complete_5 : decode cX0_complete 5 = .ok (.getfield 93, 3) := by decide +kernel
theorem dX0_complete_8 : decode cX0_complete 8 = .ok (.lconst 1, 1) := by decide +kernel
theorem dX0_complete_9 : decode cX0_complete 9 = .ok (.invokevirtual 62, 3) := by decide +kernel
theorem dX0_complete_12 : decode cX0_complete 12 = .ok (.aload_n 0, 1) := by decide +kernel
theorem dX0_complete_13 : decode cX0_complete 13 = .ok (.getfield 58, 3) := by decide +kernel
theorem dX0_complete_16 : decode cX0_complete 16 = .ok (.aload_n 1, 1) := by decide +kernel
theorem dX0_complete_17 : decode cX0_complete 17 = .ok (.getfield 80, 3) := by decide +kernel
theorem dX0_complete_20 : decode cX0_complete 20 = .ok (.aload_n 1, 1) := by decide +kernel
theorem dX0_complete_21 : decode cX0_complete 21 = .ok (.getfield 86, 3) := by decide +kernel
theorem dX0_complete_24 : decode cX0_complete 24 = .ok (.aload_n 1, 1) := by decide +kernel
theorem dX0_complete_25 : decode cX0_complete 25 = .ok (.getfield 96, 3) := by decide +kernel
theorem dX0_complete_28 : decode cX0_complete 28 = .ok (.invokevirtual 99, 3) := by decide +kernel
theorem dX0_complete_31 : decode cX0_complete 31 = .ok (.return_, 1) := by decide +kernel
theorem dX0_becomeNeutral_0 : decode cX0_becomeNeutral 0 = .ok (.aload_n 0, 1) := by decide +kernel
theorem dX0_becomeNeutral_1 : decode cX0_becomeNeutral 1 = .ok (.getfield 58, 3) := by decide +kernel
theorem dX0_becomeNeutral_4 : decode cX0_becomeNeutral 4 = .ok (.aload_n 1, 1) := by decide +kernel
theorem dX0_becomeNeutral_5 : decode cX0_becomeNeutral 5 = .ok (.getfield 80, 3) := by decide +kernel
theorem dX0_becomeNeutral_8 : decode cX0_becomeNeutral 8 = .ok (.lconst 0, 1) := by decide +kernel
theorem dX0_becomeNeutral_9 : decode cX0_becomeNeutral 9 = .ok (.invokevirtual 62, 3) := by decide +kernel
theorem dX0_becomeNeutral_12 : decode cX0_becomeNeutral 12 = .ok (.aload_n 0, 1) := by decide +kernel
theorem dX0_becomeNeutral_13 : decode cX0_becomeNeutral 13 = .ok (.getfield 58, 3) := by decide +kernel
theorem dX0_becomeNeutral_16 : decode cX0_becomeNeutral 16 = .ok (.aload_n 1, 1) := by decide +kernel
theorem dX0_becomeNeutral_17 : decode cX0_becomeNeutral 17 = .ok (.getfield 86, 3) := by decide +kernel
theorem dX0_becomeNeutral_20 : decode cX0_becomeNeutral 20 = .ok (.lconst 1, 1) := by decide +kernel
theorem dX0_becomeNeutral_21 : decode cX0_becomeNeutral 21 = .ok (.invokevirtual 62, 3) := by decide +kernel
theorem dX0_becomeNeutral_24 : decode cX0_becomeNeutral 24 = .ok (.aload_n 0, 1) := by decide +kernel
theorem dX0_becomeNeutral_25 : decode cX0_becomeNeutral 25 = .ok (.aload_n 1, 1) := by decide +kernel
theorem dX0_becomeNeutral_26 : decode cX0_becomeNeutral 26 = .ok (.invokevirtual 89, 3) := by decide +kernel
theorem dX0_becomeNeutral_29 : decode cX0_becomeNeutral 29 = .ok (.return_, 1) := by decide +kernel
theorem dX0_read_0 : decode cX0_read 0 = .ok (.aload_n 1, 1) := by decide +kernel
theorem dX0_read_1 : decode cX0_read 1 = .ok (.aload_n 0, 1) := by decide +kernel
theorem dX0_read_2 : decode cX0_read 2 = .ok (.getfield 51, 3) := by decide +kernel
theorem dX0_read_5 : decode cX0_read 5 = .ok (.invokestatic 102, 3) := by decide +kernel
theorem dX0_read_8 : decode cX0_read 8 = .ok (.aload_n 0, 1) := by decide +kernel
theorem dX0_read_9 : decode cX0_read 9 = .ok (.getfield 51, 3) := by decide +kernel
theorem dX0_read_12 : decode cX0_read 12 = .ok (.iconst 3, 1) := by decide +kernel
theorem dX0_read_13 : decode cX0_read 13 = .ok (.dup2, 1) := by decide +kernel
theorem dX0_read_14 : decode cX0_read 14 = .ok (.laload, 1) := by decide +kernel
theorem dX0_read_15 : decode cX0_read 15 = .ok (.ldc2_w 105, 3) := by decide +kernel
theorem dX0_read_18 : decode cX0_read 18 = .ok (.land, 1) := by decide +kernel
theorem dX0_read_19 : decode cX0_read 19 = .ok (.lastore, 1) := by decide +kernel
theorem dX0_read_20 : decode cX0_read 20 = .ok (.aload_n 0, 1) := by decide +kernel
theorem dX0_read_21 : decode cX0_read 21 = .ok (.getfield 51, 3) := by decide +kernel
theorem dX0_read_24 : decode cX0_read 24 = .ok (.getstatic 107, 3) := by decide +kernel
theorem dX0_read_27 : decode cX0_read 27 = .ok (.invokestatic 110, 3) := by decide +kernel
theorem dX0_read_30 : decode cX0_read 30 = .ok (.ifCond .lt 5, 3) := by decide +kernel
theorem dX0_read_33 : decode cX0_read 33 = .ok (.iconst 0, 1) := by decide +kernel
theorem dX0_read_34 : decode cX0_read 34 = .ok (.ireturn, 1) := by decide +kernel
theorem dX0_read_35 : decode cX0_read 35 = .ok (.aload_n 0, 1) := by decide +kernel
theorem dX0_read_36 : decode cX0_read 36 = .ok (.getfield 58, 3) := by decide +kernel
theorem dX0_read_39 : decode cX0_read 39 = .ok (.aload_n 1, 1) := by decide +kernel
theorem dX0_read_40 : decode cX0_read 40 = .ok (.aload_n 2, 1) := by decide +kernel
theorem dX0_read_41 : decode cX0_read 41 = .ok (.getfield 86, 3) := by decide +kernel
theorem dX0_read_44 : decode cX0_read 44 = .ok (.invokevirtual 69, 3) := by decide +kernel
theorem dX0_read_47 : decode cX0_read 47 = .ok (.aload_n 0, 1) := by decide +kernel
theorem dX0_read_48 : decode cX0_read 48 = .ok (.getfield 58, 3) := by decide +kernel
theorem dX0_read_51 : decode cX0_read 51 = .ok (.aload_n 2, 1) := by decide +kernel
theorem dX0_read_52 : decode cX0_read 52 = .ok (.getfield 86, 3) := by decide +kernel
theorem dX0_read_55 : decode cX0_read 55 = .ok (.aload_n 0, 1) := by decide +kernel
theorem dX0_read_56 : decode cX0_read 56 = .ok (.getfield 28, 3) := by decide +kernel
theorem dX0_read_59 : decode cX0_read 59 = .ok (.invokevirtual 114, 3) := by decide +kernel
theorem dX0_read_62 : decode cX0_read 62 = .ok (.aload_n 0, 1) := by decide +kernel
theorem dX0_read_63 : decode cX0_read 63 = .ok (.getfield 58, 3) := by decide +kernel
theorem dX0_read_66 : decode cX0_read 66 = .ok (.aload_n 0, 1) := by decide +kernel
theorem dX0_read_67 : decode cX0_read 67 = .ok (.getfield 22, 3) := by decide +kernel
theorem dX0_read_70 : decode cX0_read 70 = .ok (.aload_n 0, 1) := by decide +kernel
theorem dX0_read_71 : decode cX0_read 71 = .ok (.getfield 28, 3) := by decide +kernel
theorem dX0_read_74 : decode cX0_read 74 = .ok (.aload_n 0, 1) := by decide +kernel
theorem dX0_read_75 : decode cX0_read 75 = .ok (.getfield 31, 3) := by decide +kernel
theorem dX0_read_78 : decode cX0_read 78 = .ok (.invokevirtual 99, 3) := by decide +kernel
theorem dX0_read_81 : decode cX0_read 81 = .ok (.aload_n 0, 1) := by decide +kernel
theorem dX0_read_82 : decode cX0_read 82 = .ok (.getfield 58, 3) := by decide +kernel
theorem dX0_read_85 : decode cX0_read 85 = .ok (.aload_n 0, 1) := by decide +kernel
theorem dX0_read_86 : decode cX0_read 86 = .ok (.getfield 31, 3) := by decide +kernel
theorem dX0_read_89 : decode cX0_read 89 = .ok (.aload_n 0, 1) := by decide +kernel
theorem dX0_read_90 : decode cX0_read 90 = .ok (.getfield 18, 3) := by decide +kernel
theorem dX0_read_93 : decode cX0_read 93 = .ok (.aload_n 0, 1) := by decide +kernel
theorem dX0_read_94 : decode cX0_read 94 = .ok (.getfield 31, 3) := by decide +kernel
theorem dX0_read_97 : decode cX0_read 97 = .ok (.invokevirtual 73, 3) := by decide +kernel
theorem dX0_read_100 : decode cX0_read 100 = .ok (.aload_n 0, 1) := by decide +kernel
theorem dX0_read_101 : decode cX0_read 101 = .ok (.getfield 58, 3) := by decide +kernel
theorem dX0_read_104 : decode cX0_read 104 = .ok (.aload_n 0, 1) := by decide +kernel
theorem dX0_read_105 : decode cX0_read 105 = .ok (.getfield 31, 3) := by decide +kernel
theorem dX0_read_108 : decode cX0_read 108 = .ok (.aload_n 0, 1) := by decide +kernel
theorem dX0_read_109 : decode cX0_read 109 = .ok (.getfield 31, 3) := by decide +kernel
theorem dX0_read_112 : decode cX0_read 112 = .ok (.invokevirtual 117, 3) := by decide +kernel
theorem dX0_read_115 : decode cX0_read 115 = .ok (.aload_n 0, 1) := by decide +kernel
theorem dX0_read_116 : decode cX0_read 116 = .ok (.getfield 58, 3) := by decide +kernel
theorem dX0_read_119 : decode cX0_read 119 = .ok (.aload_n 0, 1) := by decide +kernel
theorem dX0_read_120 : decode cX0_read 120 = .ok (.getfield 28, 3) := by decide +kernel
theorem dX0_read_123 : decode cX0_read 123 = .ok (.aload_n 0, 1) := by decide +kernel
theorem dX0_read_124 : decode cX0_read 124 = .ok (.getfield 18, 3) := by decide +kernel
theorem dX0_read_127 : decode cX0_read 127 = .ok (.aload_n 0, 1) := by decide +kernel
theorem dX0_read_128 : decode cX0_read 128 = .ok (.getfield 28, 3) := by decide +kernel
theorem dX0_read_131 : decode cX0_read 131 = .ok (.invokevirtual 120, 3) := by decide +kernel
theorem dX0_read_134 : decode cX0_read 134 = .ok (.aload_n 0, 1) := by decide +kernel
theorem dX0_read_135 : decode cX0_read 135 = .ok (.getfield 58, 3) := by decide +kernel
theorem dX0_read_138 : decode cX0_read 138 = .ok (.aload_n 0, 1) := by decide +kernel
theorem dX0_read_139 : decode cX0_read 139 = .ok (.getfield 28, 3) := by decide +kernel
theorem dX0_read_142 : decode cX0_read 142 = .ok (.aload_n 0, 1) := by decide +kernel
theorem dX0_read_143 : decode cX0_read 143 = .ok (.getfield 31, 3) := by decide +kernel
theorem dX0_read_146 : decode cX0_read 146 = .ok (.aload_n 0, 1) := by decide +kernel
theorem dX0_read_147 : decode cX0_read 147 = .ok (.getfield 28, 3) := by decide +kernel
theorem dX0_read_150 : decode cX0_read 150 = .ok (.invokevirtual 99, 3) := by decide +kernel
theorem dX0_read_153 : decode cX0_read 153 = .ok (.aload_n 0, 1) := by decide +kernel
theorem dX0_read_154 : decode cX0_read 154 = .ok (.getfield 58, 3) := by decide +kernel
theorem dX0_read_157 : decode cX0_read 157 = .ok (.aload_n 0, 1) := by decide +kernel
theorem dX0_read_158 : decode cX0_read 158 = .ok (.getfield 28, 3) := by decide +kernel
theorem dX0_read_161 : decode cX0_read 161 = .ok (.aload_n 2, 1) := by decide +kernel
theorem dX0_read_162 : decode cX0_read 162 = .ok (.getfield 80, 3) := by decide +kernel
theorem dX0_read_165 : decode cX0_read 165 = .ok (.invokevirtual 123, 3) := by decide +kernel
theorem dX0_read_168 : decode cX0_read 168 = .ok (.ifCond .ne 5, 3) := by decide +kernel
theorem dX0_read_171 : decode cX0_read 171 = .ok (.iconst 0, 1) := by decide +kernel
theorem dX0_read_172 : decode cX0_read 172 = .ok (.ireturn, 1) := by decide +kernel
theorem dX0_read_173 : decode cX0_read 173 = .ok (.aload_n 1, 1) := by decide +kernel
theorem dX0_read_174 : decode cX0_read 174 = .ok (.sipush 255, 3) := by decide +kernel
theorem dX0_read_177 : decode cX0_read 177 = .ok (.invokestatic 127, 3) := by decide +kernel
theorem dX0_read_180 : decode cX0_read 180 = .ok (.iconst 1, 1) := by decide +kernel
theorem dX0_read_181 : decode cX0_read 181 = .ok (.if_icmp .ne 34, 3) := by decide +kernel
theorem dX0_read_184 : decode cX0_read 184 = .ok (.aload_n 0, 1) := by decide +kernel
theorem dX0_read_185 : decode cX0_read 185 = .ok (.getfield 58, 3) := by decide +kernel
theorem dX0_read_188 : decode cX0_read 188 = .ok (.aload_n 2, 1) := by decide +kernel
theorem dX0_read_189 : decode cX0_read 189 = .ok (.getfield 80, 3) := by decide +kernel
theorem dX0_read_192 : decode cX0_read 192 = .ok (.invokevirtual 131, 3) := by decide +kernel
theorem dX0_read_195 : decode cX0_read 195 = .ok (.ifCond .eq 5, 3) := by decide +kernel
theorem dX0_read_198 : decode cX0_read 198 = .ok (.iconst 0, 1) := by decide +kernel
theorem dX0_read_199 : decode cX0_read 199 = .ok (.ireturn, 1) := by decide +kernel
theorem dX0_read_200 : decode cX0_read 200 = .ok (.aload_n 0, 1) := by decide +kernel
theorem dX0_read_201 : decode cX0_read 201 = .ok (.getfield 58, 3) := by decide +kernel
theorem dX0_read_204 : decode cX0_read 204 = .ok (.aload_n 2, 1) := by decide +kernel
theorem dX0_read_205 : decode cX0_read 205 = .ok (.getfield 80, 3) := by decide +kernel
theorem dX0_read_208 : decode cX0_read 208 = .ok (.aload_n 2, 1) := by decide +kernel
theorem dX0_read_209 : decode cX0_read 209 = .ok (.getfield 80, 3) := by decide +kernel
theorem dX0_read_212 : decode cX0_read 212 = .ok (.invokevirtual 135, 3) := by decide +kernel
theorem dX0_read_215 : decode cX0_read 215 = .ok (.aload_n 0, 1) := by decide +kernel
theorem dX0_read_216 : decode cX0_read 216 = .ok (.aload_n 2, 1) := by decide +kernel
theorem dX0_read_217 : decode cX0_read 217 = .ok (.invokevirtual 89, 3) := by decide +kernel
theorem dX0_read_220 : decode cX0_read 220 = .ok (.iconst 1, 1) := by decide +kernel
theorem dX0_read_221 : decode cX0_read 221 = .ok (.ireturn, 1) := by decide +kernel
theorem dX0_write_0 : decode cX0_write 0 = .ok (.aload_n 0, 1) := by decide +kernel
theorem dX0_write_1 : decode cX0_write 1 = .ok (.getfield 58, 3) := by decide +kernel
theorem dX0_write_4 : decode cX0_write 4 = .ok (.aload_n 1, 1) := by decide +kernel
theorem dX0_write_5 : decode cX0_write 5 = .ok (.getfield 93, 3) := by decide +kernel
theorem dX0_write_8 : decode cX0_write 8 = .ok (.aload_n 0, 1) := by decide +kernel
theorem dX0_write_9 : decode cX0_write 9 = .ok (.getfield 28, 3) := by decide +kernel
theorem dX0_write_12 : decode cX0_write 12 = .ok (.invokevirtual 117, 3) := by decide +kernel
theorem dX0_write_15 : decode cX0_write 15 = .ok (.aload_n 0, 1) := by decide +kernel
theorem dX0_write_16 : decode cX0_write 16 = .ok (.getfield 58, 3) := by decide +kernel
theorem dX0_write_19 : decode cX0_write 19 = .ok (.aload_n 1, 1) := by decide +kernel
theorem dX0_write_20 : decode cX0_write 20 = .ok (.getfield 80, 3) := by decide +kernel
theorem dX0_write_23 : decode cX0_write 23 = .ok (.aload_n 0, 1) := by decide +kernel
theorem dX0_write_24 : decode cX0_write 24 = .ok (.getfield 28, 3) := by decide +kernel
theorem dX0_write_27 : decode cX0_write 27 = .ok (.aload_n 0, 1) := by decide +kernel
theorem dX0_write_28 : decode cX0_write 28 = .ok (.getfield 31, 3) := by decide +kernel
theorem dX0_write_31 : decode cX0_write 31 = .ok (.invokevirtual 99, 3) := by decide +kernel
theorem dX0_write_34 : decode cX0_write 34 = .ok (.aload_n 0, 1) := by decide +kernel
theorem dX0_write_35 : decode cX0_write 35 = .ok (.getfield 58, 3) := by decide +kernel
theorem dX0_write_38 : decode cX0_write 38 = .ok (.aload_n 1, 1) := by decide +kernel
theorem dX0_write_39 : decode cX0_write 39 = .ok (.getfield 86, 3) := by decide +kernel
theorem dX0_write_42 : decode cX0_write 42 = .ok (.aload_n 0, 1) := by decide +kernel
theorem dX0_write_43 : decode cX0_write 43 = .ok (.getfield 28, 3) := by decide +kernel
theorem dX0_write_46 : decode cX0_write 46 = .ok (.aload_n 0, 1) := by decide +kernel
theorem dX0_write_47 : decode cX0_write 47 = .ok (.getfield 34, 3) := by decide +kernel
theorem dX0_write_50 : decode cX0_write 50 = .ok (.invokevirtual 99, 3) := by decide +kernel
theorem dX0_write_53 : decode cX0_write 53 = .ok (.aload_n 0, 1) := by decide +kernel
theorem dX0_write_54 : decode cX0_write 54 = .ok (.getfield 58, 3) := by decide +kernel
theorem dX0_write_57 : decode cX0_write 57 = .ok (.aload_n 0, 1) := by decide +kernel
theorem dX0_write_58 : decode cX0_write 58 = .ok (.getfield 34, 3) := by decide +kernel
theorem dX0_write_61 : decode cX0_write 61 = .ok (.aload_n 2, 1) := by decide +kernel
theorem dX0_write_62 : decode cX0_write 62 = .ok (.invokevirtual 138, 3) := by decide +kernel
theorem dX0_write_65 : decode cX0_write 65 = .ok (.aload_n 0, 1) := by decide +kernel
theorem dX0_write_66 : decode cX0_write 66 = .ok (.getfield 58, 3) := by decide +kernel
theorem dX0_write_69 : decode cX0_write 69 = .ok (.aload_n 0, 1) := by decide +kernel
theorem dX0_write_70 : decode cX0_write 70 = .ok (.getfield 31, 3) := by decide +kernel
theorem dX0_write_73 : decode cX0_write 73 = .ok (.invokevirtual 141, 3) := by decide +kernel
theorem dX0_write_76 : decode cX0_write 76 = .ok (.ifCond .eq 12, 3) := by decide +kernel
theorem dX0_write_79 : decode cX0_write 79 = .ok (.aload_n 2, 1) := by decide +kernel
theorem dX0_write_80 : decode cX0_write 80 = .ok (.iconst 3, 1) := by decide +kernel
theorem dX0_write_81 : decode cX0_write 81 = .ok (.dup2, 1) := by decide +kernel
theorem dX0_write_82 : decode cX0_write 82 = .ok (.laload, 1) := by decide +kernel
theorem dX0_write_83 : decode cX0_write 83 = .ok (.ldc2_w 144, 3) := by decide +kernel
theorem dX0_write_86 : decode cX0_write 86 = .ok (.lor, 1) := by decide +kernel
theorem dX0_write_87 : decode cX0_write 87 = .ok (.lastore, 1) := by decide +kernel
theorem dX0_write_88 : decode cX0_write 88 = .ok (.return_, 1) := by decide +kernel
theorem dX0_negate_0 : decode cX0_negate 0 = .ok (.aload_n 0, 1) := by decide +kernel
theorem dX0_negate_1 : decode cX0_negate 1 = .ok (.getfield 58, 3) := by decide +kernel
theorem dX0_negate_4 : decode cX0_negate 4 = .ok (.aload_n 1, 1) := by decide +kernel
theorem dX0_negate_5 : decode cX0_negate 5 = .ok (.getfield 80, 3) := by decide +kernel
theorem dX0_negate_8 : decode cX0_negate 8 = .ok (.aload_n 1, 1) := by decide +kernel
theorem dX0_negate_9 : decode cX0_negate 9 = .ok (.getfield 80, 3) := by decide +kernel
theorem dX0_negate_12 : decode cX0_negate 12 = .ok (.invokevirtual 135, 3) := by decide +kernel
theorem dX0_negate_15 : decode cX0_negate 15 = .ok (.aload_n 0, 1) := by decide +kernel
theorem dX0_negate_16 : decode cX0_negate 16 = .ok (.getfield 58, 3) := by decide +kernel
theorem dX0_negate_19 : decode cX0_negate 19 = .ok (.aload_n 1, 1) := by decide +kernel
theorem dX0_negate_20 : decode cX0_negate 20 = .ok (.getfield 96, 3) := by decide +kernel
theorem dX0_negate_23 : decode cX0_negate 23 = .ok (.aload_n 1, 1) := by decide +kernel
theorem dX0_negate_24 : decode cX0_negate 24 = .ok (.getfield 96, 3) := by decide +kernel
theorem dX0_negate_27 : decode cX0_negate 27 = .ok (.invokevirtual 135, 3) := by decide +kernel
theorem dX0_negate_30 : decode cX0_negate 30 = .ok (.return_, 1) := by decide +kernel
theorem dX0_add_0 : decode cX0_add 0 = .ok (.aload_n 0, 1) := by decide +kernel
theorem dX0_add_1 : decode cX0_add 1 = .ok (.getfield 58, 3) := by decide +kernel
theorem dX0_add_4 : decode cX0_add 4 = .ok (.aload_n 1, 1) := by decide +kernel
theorem dX0_add_5 : decode cX0_add 5 = .ok (.getfield 86, 3) := by decide +kernel
theorem dX0_add_8 : decode cX0_add 8 = .ok (.aload_n 1, 1) := by decide +kernel
theorem dX0_add_9 : decode cX0_add 9 = .ok (.getfield 80, 3) := by decide +kernel
theorem dX0_add_12 : decode cX0_add 12 = .ok (.aload_n 0, 1) := by decide +kernel
theorem dX0_add_13 : decode cX0_add 13 = .ok (.getfield 37, 3) := by decide +kernel
theorem dX0_add_16 : decode cX0_add 16 = .ok (.invokevirtual 120, 3) := by decide +kernel
theorem dX0_add_19 : decode cX0_add 19 = .ok (.aload_n 0, 1) := by decide +kernel
theorem dX0_add_20 : decode cX0_add 20 = .ok (.getfield 58, 3) := by decide +kernel
theorem dX0_add_23 : decode cX0_add 23 = .ok (.aload_n 2, 1) := by decide +kernel
theorem dX0_add_24 : decode cX0_add 24 = .ok (.getfield 86, 3) := by decide +kernel
theorem dX0_add_27 : decode cX0_add 27 = .ok (.aload_n 2, 1) := by decide +kernel
theorem dX0_add_28 : decode cX0_add 28 = .ok (.getfield 80, 3) := by decide +kernel
theorem dX0_add_31 : decode cX0_add 31 = .ok (.aload_n 0, 1) := by decide +kernel
theorem dX0_add_32 : decode cX0_add 32 = .ok (.getfield 40, 3) := by decide +kernel
theorem dX0_add_35 : decode cX0_add 35 = .ok (.invokevirtual 120, 3) := by decide +kernel
theorem dX0_add_38 : decode cX0_add 38 = .ok (.aload_n 0, 1) := by decide +kernel
theorem dX0_add_39 : decode cX0_add 39 = .ok (.getfield 58, 3) := by decide +kernel
theorem dX0_add_42 : decode cX0_add 42 = .ok (.aload_n 0, 1) := by decide +kernel
theorem dX0_add_43 : decode cX0_add 43 = .ok (.getfield 37, 3) := by decide +kernel
theorem dX0_add_46 : decode cX0_add 46 = .ok (.aload_n 0, 1) := by decide +kernel
theorem dX0_add_47 : decode cX0_add 47 = .ok (.getfield 40, 3) := by decide +kernel
theorem dX0_add_50 : decode cX0_add 50 = .ok (.aload_n 0, 1) := by decide +kernel
theorem dX0_add_51 : decode cX0_add 51 = .ok (.getfield 28, 3) := by decide +kernel
theorem dX0_add_54 : decode cX0_add 54 = .ok (.invokevirtual 99, 3) := by decide +kernel
theorem dX0_add_57 : decode cX0_add 57 = .ok (.aload_n 0, 1) := by decide +kernel
theorem dX0_add_58 : decode cX0_add 58 = .ok (.getfield 58, 3) := by decide +kernel
theorem dX0_add_61 : decode cX0_add 61 = .ok (.aload_n 1, 1) := by decide +kernel
theorem dX0_add_62 : decode cX0_add 62 = .ok (.getfield 86, 3) := by decide +kernel
theorem dX0_add_65 : decode cX0_add 65 = .ok (.aload_n 1, 1) := by decide +kernel
theorem dX0_add_66 : decode cX0_add 66 = .ok (.getfield 80, 3) := by decide +kernel
theorem dX0_add_69 : decode cX0_add 69 = .ok (.aload_n 0, 1) := by decide +kernel
theorem dX0_add_70 : decode cX0_add 70 = .ok (.getfield 37, 3) := by decide +kernel
theorem dX0_add_73 : decode cX0_add 73 = .ok (.invokevirtual 73, 3) := by decide +kernel
theorem dX0_add_76 : decode cX0_add 76 = .ok (.aload_n 0, 1) := by decide +kernel
theorem dX0_add_77 : decode cX0_add 77 = .ok (.getfield 58, 3) := by decide +kernel
theorem dX0_add_80 : decode cX0_add 80 = .ok (.aload_n 2, 1) := by decide +kernel
theorem dX0_add_81 : decode cX0_add 81 = .ok (.getfield 86, 3) := by decide +kernel
theorem dX0_add_84 : decode cX0_add 84 = .ok (.aload_n 2, 1) := by decide +kernel
theorem dX0_add_85 : decode cX0_add 85 = .ok (.getfield 80, 3) := by decide +kernel
theorem dX0_add_88 : decode cX0_add 88 = .ok (.aload_n 0, 1) := by decide +kernel
theorem dX0_add_89 : decode cX0_add 89 = .ok (.getfield 40, 3) := by decide +kernel
theorem dX0_add_92 : decode cX0_add 92 = .ok (.invokevirtual 73, 3) := by decide +kernel
theorem dX0_add_95 : decode cX0_add 95 = .ok (.aload_n 0, 1) := by decide +kernel
theorem dX0_add_96 : decode cX0_add 96 = .ok (.getfield 58, 3) := by decide +kernel
theorem dX0_add_99 : decode cX0_add 99 = .ok (.aload_n 0, 1) := by decide +kernel
theorem dX0_add_100 : decode cX0_add 100 = .ok (.getfield 37, 3) := by decide +kernel
theorem dX0_add_103 : decode cX0_add 103 = .ok (.aload_n 0, 1) := by decide +kernel
theorem dX0_add_104 : decode cX0_add 104 = .ok (.getfield 40, 3) := by decide +kernel
theorem dX0_add_107 : decode cX0_add 107 = .ok (.aload_n 0, 1) := by decide +kernel
theorem dX0_add_108 : decode cX0_add 108 = .ok (.getfield 31, 3) := by decide +kernel
theorem dX0_add_111 : decode cX0_add 111 = .ok (.invokevirtual 99, 3) := by decide +kernel
theorem dX0_add_114 : decode cX0_add 114 = .ok (.aload_n 0, 1) := by decide +kernel
theorem dX0_add_115 : decode cX0_add 115 = .ok (.getfield 58, 3) := by decide +kernel
theorem dX0_add_118 : decode cX0_add 118 = .ok (.aload_n 1, 1) := by decide +kernel
theorem dX0_add_119 : decode cX0_add 119 = .ok (.getfield 96, 3) := by decide +kernel
theorem dX0_add_122 : decode cX0_add 122 = .ok (.aload_n 2, 1) := by decide +kernel
theorem dX0_add_123 : decode cX0_add 123 = .ok (.getfield 96, 3) := by decide +kernel
theorem dX0_add_126 : decode cX0_add 126 = .ok (.aload_n 0, 1) := by decide +kernel
theorem dX0_add_127 : decode cX0_add 127 = .ok (.getfield 34, 3) := by decide +kernel
theorem dX0_add_130 : decode cX0_add 130 = .ok (.invokevirtual 99, 3) := by decide +kernel
theorem dX0_add_133 : decode cX0_add 133 = .ok (.aload_n 0, 1) := by decide +kernel
theorem dX0_add_134 : decode cX0_add 134 = .ok (.getfield 58, 3) := by decide +kernel
theorem dX0_add_137 : decode cX0_add 137 = .ok (.aload_n 0, 1) := by decide +kernel
theorem dX0_add_138 : decode cX0_add 138 = .ok (.getfield 34, 3) := by decide +kernel
theorem dX0_add_141 : decode cX0_add 141 = .ok (.aload_n 0, 1) := by decide +kernel
theorem dX0_add_142 : decode cX0_add 142 = .ok (.getfield 25, 3) := by decide +kernel
theorem dX0_add_145 : decode cX0_add 145 = .ok (.aload_n 0, 1) := by decide +kernel
theorem dX0_add_146 : decode cX0_add 146 = .ok (.getfield 34, 3) := by decide +kernel
theorem dX0_add_149 : decode cX0_add 149 = .ok (.invokevirtual 99, 3) := by decide +kernel
theorem dX0_add_152 : decode cX0_add 152 = .ok (.aload_n 0, 1) := by decide +kernel
theorem dX0_add_153 : decode cX0_add 153 = .ok (.getfield 58, 3) := by decide +kernel
theorem dX0_add_156 : decode cX0_add 156 = .ok (.aload_n 1, 1) := by decide +kernel
theorem dX0_add_157 : decode cX0_add 157 = .ok (.getfield 93, 3) := by decide +kernel
theorem dX0_add_160 : decode cX0_add 160 = .ok (.aload_n 2, 1) := by decide +kernel
theorem dX0_add_161 : decode cX0_add 161 = .ok (.getfield 93, 3) := by decide +kernel
theorem dX0_add_164 : decode cX0_add 164 = .ok (.aload_n 0, 1) := by decide +kernel
theorem dX0_add_165 : decode cX0_add 165 = .ok (.getfield 43, 3) := by decide +kernel
theorem dX0_add_168 : decode cX0_add 168 = .ok (.invokevirtual 99, 3) := by decide +kernel
theorem dX0_add_171 : decode cX0_add 171 = .ok (.aload_n 0, 1) := by decide +kernel
theorem dX0_add_172 : decode cX0_add 172 = .ok (.getfield 58, 3) := by decide +kernel
theorem dX0_add_175 : decode cX0_add 175 = .ok (.aload_n 0, 1) := by decide +kernel
theorem dX0_add_176 : decode cX0_add 176 = .ok (.getfield 43, 3) := by decide +kernel
theorem dX0_add_179 : decode cX0_add 179 = .ok (.aload_n 0, 1) := by decide +kernel
theorem dX0_add_180 : decode cX0_add 180 = .ok (.getfield 43, 3) := by decide +kernel
theorem dX0_add_183 : decode cX0_add 183 = .ok (.aload_n 0, 1) := by decide +kernel
theorem dX0_add_184 : decode cX0_add 184 = .ok (.getfield 43, 3) := by decide +kernel
theorem dX0_add_187 : decode cX0_add 187 = .ok (.invokevirtual 73, 3) := by decide +kernel
theorem dX0_add_190 : decode cX0_add 190 = .ok (.aload_n 0, 1) := by decide +kernel
theorem dX0_add_191 : decode cX0_add 191 = .ok (.getfield 58, 3) := by decide +kernel
theorem dX0_add_194 : decode cX0_add 194 = .ok (.aload_n 0, 1) := by decide +kernel
theorem dX0_add_195 : decode cX0_add 195 = .ok (.getfield 31, 3) := by decide +kernel
theorem dX0_add_198 : decode cX0_add 198 = .ok (.aload_n 0, 1) := by decide +kernel
theorem dX0_add_199 : decode cX0_add 199 = .ok (.getfield 28, 3) := by decide +kernel
theorem dX0_add_202 : decode cX0_add 202 = .ok (.aload_n 0, 1) := by decide +kernel
theorem dX0_add_203 : decode cX0_add 203 = .ok (.getfield 37, 3) := by decide +kernel
theorem dX0_add_206 : decode cX0_add 206 = .ok (.invokevirtual 120, 3) := by decide +kernel
theorem dX0_add_209 : decode cX0_add 209 = .ok (.aload_n 0, 1) := by decide +kernel
theorem dX0_add_210 : decode cX0_add 210 = .ok (.getfield 58, 3) := by decide +kernel
theorem dX0_add_213 : decode cX0_add 213 = .ok (.aload_n 0, 1) := by decide +kernel
theorem dX0_add_214 : decode cX0_add 214 = .ok (.getfield 31, 3) := by decide +kernel
theorem dX0_add_217 : decode cX0_add 217 = .ok (.aload_n 0, 1) := by decide +kernel
theorem dX0_add_218 : decode cX0_add 218 = .ok (.getfield 28, 3) := by decide +kernel
theorem dX0_add_221 : decode cX0_add 221 = .ok (.aload_n 0, 1) := by decide +kernel
theorem dX0_add_222 : decode cX0_add 222 = .ok (.getfield 46, 3) := by decide +kernel
theorem dX0_add_225 : decode cX0_add 225 = .ok (.invokevirtual 73, 3) := by decide +kernel
theorem dX0_add_228 : decode cX0_add 228 = .ok (.aload_n 0, 1) := by decide +kernel
theorem dX0_add_229 : decode cX0_add 229 = .ok (.getfield 58, 3) := by decide +kernel
theorem dX0_add_232 : decode cX0_add 232 = .ok (.aload_n 0, 1) := by decide +kernel
theorem dX0_add_233 : decode cX0_add 233 = .ok (.getfield 43, 3) := by decide +kernel
theorem dX0_add_236 : decode cX0_add 236 = .ok (.aload_n 0, 1) := by decide +kernel
theorem dX0_add_237 : decode cX0_add 237 = .ok (.getfield 34, 3) := by decide +kernel
theorem dX0_add_240 : decode cX0_add 240 = .ok (.aload_n 0, 1) := by decide +kernel
theorem dX0_add_241 : decode cX0_add 241 = .ok (.getfield 40, 3) := by decide +kernel
theorem dX0_add_244 : decode cX0_add 244 = .ok (.invokevirtual 120, 3) := by decide +kernel
theorem dX0_add_247 : decode cX0_add 247 = .ok (.aload_n 0, 1) := by decide +kernel
theorem dX0_add_248 : decode cX0_add 248 = .ok (.getfield 58, 3) := by decide +kernel
theorem dX0_add_251 : decode cX0_add 251 = .ok (.aload_n 0, 1) := by decide +kernel
theorem dX0_add_252 : decode cX0_add 252 = .ok (.getfield 43, 3) := by decide +kernel
theorem dX0_add_255 : decode cX0_add 255 = .ok (.aload_n 0, 1) := by decide +kernel
theorem dX0_add_256 : decode cX0_add 256 = .ok (.getfield 34, 3) := by decide +kernel
theorem dX0_add_259 : decode cX0_add 259 = .ok (.aload_n 0, 1) := by decide +kernel
theorem dX0_add_260 : decode cX0_add 260 = .ok (.getfield 43, 3) := by decide +kernel
theorem dX0_add_263 : decode cX0_add 263 = .ok (.invokevirtual 73, 3) := by decide +kernel
theorem dX0_add_266 : decode cX0_add 266 = .ok (.aload_n 0, 1) := by decide +kernel
theorem dX0_add_267 : decode cX0_add 267 = .ok (.getfield 58, 3) := by decide +kernel
theorem dX0_add_270 : decode cX0_add 270 = .ok (.aload_n 0, 1) := by decide +kernel
theorem dX0_add_271 : decode cX0_add 271 = .ok (.getfield 37, 3) := by decide +kernel
theorem dX0_add_274 : decode cX0_add 274 = .ok (.aload_n 0, 1) := by decide +kernel
theorem dX0_add_275 : decode cX0_add 275 = .ok (.getfield 40, 3) := by decide +kernel
theorem dX0_add_278 : decode cX0_add 278 = .ok (.aload_n 3, 1) := by decide +kernel
theorem dX0_add_279 : decode cX0_add 279 = .ok (.getfield 80, 3) := by decide +kernel
theorem dX0_add_282 : decode cX0_add 282 = .ok (.invokevirtual 99, 3) := by decide +kernel
theorem dX0_add_285 : decode cX0_add 285 = .ok (.aload_n 0, 1) := by decide +kernel
theorem dX0_add_286 : decode cX0_add 286 = .ok (.getfield 58, 3) := by decide +kernel
theorem dX0_add_289 : decode cX0_add 289 = .ok (.aload_n 0, 1) := by decide +kernel
theorem dX0_add_290 : decode cX0_add 290 = .ok (.getfield 43, 3) := by decide +kernel
theorem dX0_add_293 : decode cX0_add 293 = .ok (.aload_n 0, 1) := by decide +kernel
theorem dX0_add_294 : decode cX0_add 294 = .ok (.getfield 46, 3) := by decide +kernel
theorem dX0_add_297 : decode cX0_add 297 = .ok (.aload_n 3, 1) := by decide +kernel
theorem dX0_add_298 : decode cX0_add 298 = .ok (.getfield 86, 3) := by decide +kernel
theorem dX0_add_301 : decode cX0_add 301 = .ok (.invokevirtual 99, 3) := by decide +kernel
theorem dX0_add_304 : decode cX0_add 304 = .ok (.aload_n 0, 1) := by decide +kernel
theorem dX0_add_305 : decode cX0_add 305 = .ok (.getfield 58, 3) := by decide +kernel
theorem dX0_add_308 : decode cX0_add 308 = .ok (.aload_n 0, 1) := by decide +kernel
theorem dX0_add_309 : decode cX0_add 309 = .ok (.getfield 40, 3) := by decide +kernel
theorem dX0_add_312 : decode cX0_add 312 = .ok (.aload_n 0, 1) := by decide +kernel
theorem dX0_add_313 : decode cX0_add 313 = .ok (.getfield 43, 3) := by decide +kernel
theorem dX0_add_316 : decode cX0_add 316 = .ok (.aload_n 3, 1) := by decide +kernel
theorem dX0_add_317 : decode cX0_add 317 = .ok (.getfield 93, 3) := by decide +kernel
theorem dX0_add_320 : decode cX0_add 320 = .ok (.invokevirtual 99, 3) := by decide +kernel
theorem dX0_add_323 : decode cX0_add 323 = .ok (.aload_n 0, 1) := by decide +kernel
theorem dX0_add_324 : decode cX0_add 324 = .ok (.getfield 58, 3) := by decide +kernel
theorem dX0_add_327 : decode cX0_add 327 = .ok (.aload_n 0, 1) := by decide +kernel
theorem dX0_add_328 : decode cX0_add 328 = .ok (.getfield 37, 3) := by decide +kernel
theorem dX0_add_331 : decode cX0_add 331 = .ok (.aload_n 0, 1) := by decide +kernel
theorem dX0_add_332 : decode cX0_add 332 = .ok (.getfield 46, 3) := by decide +kernel
theorem dX0_add_335 : decode cX0_add 335 = .ok (.aload_n 3, 1) := by decide +kernel
theorem dX0_add_336 : decode cX0_add 336 = .ok (.getfield 96, 3) := by decide +kernel
theorem dX0_add_339 : decode cX0_add 339 = .ok (.invokevirtual 99, 3) := by decide +kernel
theorem dX0_add_342 : decode cX0_add 342 = .ok (.return_, 1) := by decide +kernel
theorem dX0_twice_0 : decode cX0_twice 0 = .ok (.aload_n 0, 1) := by decide +kernel
theorem dX0_twice_1 : decode cX0_twice 1 = .ok (.getfield 58, 3) := by decide +kernel
theorem dX0_twice_4 : decode cX0_twice 4 = .ok (.aload_n 1, 1) := by decide +kernel
theorem dX0_twice_5 : decode cX0_twice 5 = .ok (.getfield 80, 3) := by decide +kernel
theorem dX0_twice_8 : decode cX0_twice 8 = .ok (.aload_n 1, 1) := by decide +kernel
theorem dX0_twice_9 : decode cX0_twice 9 = .ok (.getfield 86, 3) := by decide +kernel
theorem dX0_twice_12 : decode cX0_twice 12 = .ok (.aload_n 0, 1) := by decide +kernel
theorem dX0_twice_13 : decode cX0_twice 13 = .ok (.getfield 37, 3) := by decide +kernel
theorem dX0_twice_16 : decode cX0_twice 16 = .ok (.invokevirtual 73, 3) := by decide +kernel
theorem dX0_twice_19 : decode cX0_twice 19 = .ok (.aload_n 0, 1) := by decide +kernel
theorem dX0_twice_20 : decode cX0_twice 20 = .ok (.getfield 58, 3) := by decide +kernel
theorem dX0_twice_23 : decode cX0_twice 23 = .ok (.aload_n 0, 1) := by decide +kernel
theorem dX0_twice_24 : decode cX0_twice 24 = .ok (.getfield 37, 3) := by decide +kernel
theorem dX0_twice_27 : decode cX0_twice 27 = .ok (.aload_n 0, 1) := by decide +kernel
theorem dX0_twice_28 : decode cX0_twice 28 = .ok (.getfield 37, 3) := by decide +kernel
theorem dX0_twice_31 : decode cX0_twice 31 = .ok (.invokevirtual 114, 3) := by decide +kernel
theorem dX0_twice_34 : decode cX0_twice 34 = .ok (.aload_n 0, 1) := by decide +kernel
theorem dX0_twice_35 : decode cX0_twice 35 = .ok (.getfield 58, 3) := by decide +kernel
theorem dX0_twice_38 : decode cX0_twice 38 = .ok (.aload_n 1, 1) := by decide +kernel
theorem dX0_twice_39 : decode cX0_twice 39 = .ok (.getfield 80, 3) := by decide +kernel
theorem dX0_twice_42 : decode cX0_twice 42 = .ok (.aload_n 0, 1) := by decide +kernel
theorem dX0_twice_43 : decode cX0_twice 43 = .ok (.getfield 28, 3) := by decide +kernel
theorem dX0_twice_46 : decode cX0_twice 46 = .ok (.invokevirtual 114, 3) := by decide +kernel
theorem dX0_twice_49 : decode cX0_twice 49 = .ok (.aload_n 0, 1) := by decide +kernel
theorem dX0_twice_50 : decode cX0_twice 50 = .ok (.getfield 58, 3) := by decide +kernel
theorem dX0_twice_53 : decode cX0_twice 53 = .ok (.aload_n 1, 1) := by decide +kernel
theorem dX0_twice_54 : decode cX0_twice 54 = .ok (.getfield 86, 3) := by decide +kernel
theorem dX0_twice_57 : decode cX0_twice 57 = .ok (.aload_n 0, 1) := by decide +kernel
theorem dX0_twice_58 : decode cX0_twice 58 = .ok (.getfield 31, 3) := by decide +kernel
theorem dX0_twice_61 : decode cX0_twice 61 = .ok (.invokevirtual 114, 3) := by decide +kernel
theorem dX0_twice_64 : decode cX0_twice 64 = .ok (.aload_n 0, 1) := by decide +kernel
theorem dX0_twice_65 : decode cX0_twice 65 = .ok (.getfield 58, 3) := by decide +kernel
theorem dX0_twice_68 : decode cX0_twice 68 = .ok (.aload_n 1, 1) := by decide +kernel
theorem dX0_twice_69 : decode cX0_twice 69 = .ok (.getfield 93, 3) := by decide +kernel
theorem dX0_twice_72 : decode cX0_twice 72 = .ok (.aload_n 0, 1) := by decide +kernel
theorem dX0_twice_73 : decode cX0_twice 73 = .ok (.getfield 34, 3) := by decide +kernel
theorem dX0_twice_76 : decode cX0_twice 76 = .ok (.invokevirtual 114, 3) := by decide +kernel
theorem dX0_twice_79 : decode cX0_twice 79 = .ok (.aload_n 0, 1) := by decide +kernel
theorem dX0_twice_80 : decode cX0_twice 80 = .ok (.getfield 58, 3) := by decide +kernel
theorem dX0_twice_83 : decode cX0_twice 83 = .ok (.aload_n 0, 1) := by decide +kernel
theorem dX0_twice_84 : decode cX0_twice 84 = .ok (.getfield 34, 3) := by decide +kernel
theorem dX0_twice_87 : decode cX0_twice 87 = .ok (.aload_n 0, 1) := by decide +kernel
theorem dX0_twice_88 : decode cX0_twice 88 = .ok (.getfield 34, 3) := by decide +kernel
theorem dX0_twice_91 : decode cX0_twice 91 = .ok (.aload_n 0, 1) := by decide +kernel
theorem dX0_twice_92 : decode cX0_twice 92 = .ok (.getfield 34, 3) := by decide +kernel
theorem dX0_twice_95 : decode cX0_twice 95 = .ok (.invokevirtual 73, 3) := by decide +kernel
theorem dX0_twice_98 : decode cX0_twice 98 = .ok (.aload_n 0, 1) := by decide +kernel
theorem dX0_twice_99 : decode cX0_twice 99 = .ok (.getfield 58, 3) := by decide +kernel
theorem dX0_twice_102 : decode cX0_twice 102 = .ok (.aload_n 0, 1) := by decide +kernel
theorem dX0_twice_103 : decode cX0_twice 103 = .ok (.getfield 28, 3) := by decide +kernel
theorem dX0_twice_106 : decode cX0_twice 106 = .ok (.aload_n 0, 1) := by decide +kernel
theorem dX0_twice_107 : decode cX0_twice 107 = .ok (.getfield 31, 3) := by decide +kernel
theorem dX0_twice_110 : decode cX0_twice 110 = .ok (.aload_n 0, 1) := by decide +kernel
theorem dX0_twice_111 : decode cX0_twice 111 = .ok (.getfield 46, 3) := by decide +kernel
theorem dX0_twice_114 : decode cX0_twice 114 = .ok (.invokevirtual 73, 3) := by decide +kernel
theorem dX0_twice_117 : decode cX0_twice 117 = .ok (.aload_n 0, 1) := by decide +kernel
theorem dX0_twice_118 : decode cX0_twice 118 = .ok (.getfield 58, 3) := by decide +kernel
theorem dX0_twice_121 : decode cX0_twice 121 = .ok (.aload_n 0, 1) := by decide +kernel
theorem dX0_twice_122 : decode cX0_twice 122 = .ok (.getfield 46, 3) := by decide +kernel
theorem dX0_twice_125 : decode cX0_twice 125 = .ok (.aload_n 0, 1) := by decide +kernel
theorem dX0_twice_126 : decode cX0_twice 126 = .ok (.getfield 37, 3) := by decide +kernel
theorem dX0_twice_129 : decode cX0_twice 129 = .ok (.aload_n 0, 1) := by decide +kernel
theorem dX0_twice_130 : decode cX0_twice 130 = .ok (.getfield 37, 3) := by decide +kernel
theorem dX0_twice_133 : decode cX0_twice 133 = .ok (.invokevirtual 120, 3) := by decide +kernel
theorem dX0_twice_136 : decode cX0_twice 136 = .ok (.aload_n 0, 1) := by decide +kernel
theorem dX0_twice_137 : decode cX0_twice 137 = .ok (.getfield 58, 3) := by decide +kernel
theorem dX0_twice_140 : decode cX0_twice 140 = .ok (.aload_n 0, 1) := by decide +kernel
theorem dX0_twice_141 : decode cX0_twice 141 = .ok (.getfield 28, 3) := by decide +kernel
theorem dX0_twice_144 : decode cX0_twice 144 = .ok (.aload_n 0, 1) := by decide +kernel
theorem dX0_twice_145 : decode cX0_twice 145 = .ok (.getfield 31, 3) := by decide +kernel
theorem dX0_twice_148 : decode cX0_twice 148 = .ok (.aload_n 0, 1) := by decide +kernel
theorem dX0_twice_149 : decode cX0_twice 149 = .ok (.getfield 43, 3) := by decide +kernel
theorem dX0_twice_152 : decode cX0_twice 152 = .ok (.invokevirtual 120, 3) := by decide +kernel
theorem dX0_twice_155 : decode cX0_twice 155 = .ok (.aload_n 0, 1) := by decide +kernel
theorem dX0_twice_156 : decode cX0_twice 156 = .ok (.getfield 58, 3) := by decide +kernel
theorem dX0_twice_159 : decode cX0_twice 159 = .ok (.aload_n 0, 1) := by decide +kernel
theorem dX0_twice_160 : decode cX0_twice 160 = .ok (.getfield 34, 3) := by decide +kernel
theorem dX0_twice_163 : decode cX0_twice 163 = .ok (.aload_n 0, 1) := by decide +kernel
theorem dX0_twice_164 : decode cX0_twice 164 = .ok (.getfield 43, 3) := by decide +kernel
theorem dX0_twice_167 : decode cX0_twice 167 = .ok (.aload_n 0, 1) := by decide +kernel
theorem dX0_twice_168 : decode cX0_twice 168 = .ok (.getfield 40, 3) := by decide +kernel
theorem dX0_twice_171 : decode cX0_twice 171 = .ok (.invokevirtual 73, 3) := by decide +kernel
theorem dX0_twice_174 : decode cX0_twice 174 = .ok (.aload_n 0, 1) := by decide +kernel
theorem dX0_twice_175 : decode cX0_twice 175 = .ok (.getfield 58, 3) := by decide +kernel
theorem dX0_twice_178 : decode cX0_twice 178 = .ok (.aload_n 0, 1) := by decide +kernel
theorem dX0_twice_179 : decode cX0_twice 179 = .ok (.getfield 37, 3) := by decide +kernel
theorem dX0_twice_182 : decode cX0_twice 182 = .ok (.aload_n 0, 1) := by decide +kernel
theorem dX0_twice_183 : decode cX0_twice 183 = .ok (.getfield 40, 3) := by decide +kernel
theorem dX0_twice_186 : decode cX0_twice 186 = .ok (.aload_n 2, 1) := by decide +kernel
theorem dX0_twice_187 : decode cX0_twice 187 = .ok (.getfield 80, 3) := by decide +kernel
theorem dX0_twice_190 : decode cX0_twice 190 = .ok (.invokevirtual 99, 3) := by decide +kernel
theorem dX0_twice_193 : decode cX0_twice 193 = .ok (.aload_n 0, 1) := by decide +kernel
theorem dX0_twice_194 : decode cX0_twice 194 = .ok (.getfield 58, 3) := by decide +kernel
theorem dX0_twice_197 : decode cX0_twice 197 = .ok (.aload_n 0, 1) := by decide +kernel
theorem dX0_twice_198 : decode cX0_twice 198 = .ok (.getfield 43, 3) := by decide +kernel
theorem dX0_twice_201 : decode cX0_twice 201 = .ok (.aload_n 0, 1) := by decide +kernel
theorem dX0_twice_202 : decode cX0_twice 202 = .ok (.getfield 46, 3) := by decide +kernel
theorem dX0_twice_205 : decode cX0_twice 205 = .ok (.aload_n 2, 1) := by decide +kernel
theorem dX0_twice_206 : decode cX0_twice 206 = .ok (.getfield 86, 3) := by decide +kernel
theorem dX0_twice_209 : decode cX0_twice 209 = .ok (.invokevirtual 99, 3) := by decide +kernel
theorem dX0_twice_212 : decode cX0_twice 212 = .ok (.aload_n 0, 1) := by decide +kernel
theorem dX0_twice_213 : decode cX0_twice 213 = .ok (.getfield 58, 3) := by decide +kernel
theorem dX0_twice_216 : decode cX0_twice 216 = .ok (.aload_n 0, 1) := by decide +kernel
theorem dX0_twice_217 : decode cX0_twice 217 = .ok (.getfield 40, 3) := by decide +kernel
theorem dX0_twice_220 : decode cX0_twice 220 = .ok (.aload_n 0, 1) := by decide +kernel
theorem dX0_twice_221 : decode cX0_twice 221 = .ok (.getfield 43, 3) := by decide +kernel
theorem dX0_twice_224 : decode cX0_twice 224 = .ok (.aload_n 2, 1) := by decide +kernel
theorem dX0_twice_225 : decode cX0_twice 225 = .ok (.getfield 93, 3) := by decide +kernel
theorem dX0_twice_228 : decode cX0_twice 228 = .ok (.invokevirtual 99, 3) := by decide +kernel
theorem dX0_twice_231 : decode cX0_twice 231 = .ok (.aload_n 0, 1) := by decide +kernel
theorem dX0_twice_232 : decode cX0_twice 232 = .ok (.getfield 58, 3) := by decide +kernel
theorem dX0_twice_235 : decode cX0_twice 235 = .ok (.aload_n 0, 1) := by decide +kernel
theorem dX0_twice_236 : decode cX0_twice 236 = .ok (.getfield 37, 3) := by decide +kernel
theorem dX0_twice_239 : decode cX0_twice 239 = .ok (.aload_n 0, 1) := by decide +kernel
theorem dX0_twice_240 : decode cX0_twice 240 = .ok (.getfield 46, 3) := by decide +kernel
theorem dX0_twice_243 : decode cX0_twice 243 = .ok (.aload_n 2, 1) := by decide +kernel
theorem dX0_twice_244 : decode cX0_twice 244 = .ok (.getfield 96, 3) := by decide +kernel
theorem dX0_twice_247 : decode cX0_twice 247 = .ok (.invokevirtual 99, 3) := by decide +kernel
theorem dX0_twice_250 : decode cX0_twice 250 = .ok (.return_, 1) := by decide +kernel
theorem dX0_multiply_0 : decode cX0_multiply 0 = .ok (.aload_n 0, 1) := by decide +kernel
theorem dX0_multiply_1 : decode cX0_multiply 1 = .ok (.aload_n 0, 1) := by decide +kernel
theorem dX0_multiply_2 : decode cX0_multiply 2 = .ok (.getfield 54, 3) := by decide +kernel
theorem dX0_multiply_5 : decode cX0_multiply 5 = .ok (.iconst 0, 1) := by decide +kernel
theorem dX0_multiply_6 : decode cX0_multiply 6 = .ok (.aaload, 1) := by decide +kernel
theorem dX0_multiply_7 : decode cX0_multiply 7 = .ok (.invokevirtual 146, 3) := by decide +kernel
theorem dX0_multiply_10 : decode cX0_multiply 10 = .ok (.iconst 1, 1) := by decide +kernel
theorem dX0_multiply_11 : decode cX0_multiply 11 = .ok (.istore 4, 2) := by decide +kernel
theorem dX0_multiply_13 : decode cX0_multiply 13 = .ok (.iload 4, 2) := by decide +kernel
theorem dX0_multiply_15 : decode cX0_multiply 15 = .ok (.aload_n 0, 1) := by decide +kernel
theorem dX0_multiply_16 : decode cX0_multiply 16 = .ok (.getfield 54, 3) := by decide +kernel
theorem dX0_multiply_19 : decode cX0_multiply 19 = .ok (.arraylength, 1) := by decide +kernel
theorem dX0_multiply_20 : decode cX0_multiply 20 = .ok (.if_icmp .ge 30, 3) := by decide +kernel
theorem dX0_multiply_23 : decode cX0_multiply 23 = .ok (.aload_n 0, 1) := by decide +kernel
theorem dX0_multiply_24 : decode cX0_multiply 24 = .ok (.aload_n 0, 1) := by decide +kernel
theorem dX0_multiply_25 : decode cX0_multiply 25 = .ok (.getfield 54, 3) := by decide +kernel
theorem dX0_multiply_28 : decode cX0_multiply 28 = .ok (.iload 4, 2) := by decide +kernel
theorem dX0_multiply_30 : decode cX0_multiply 30 = .ok (.iconst 1, 1) := by decide +kernel
theorem dX0_multiply_31 : decode cX0_multiply 31 = .ok (.isub, 1) := by decide +kernel
theorem dX0_multiply_32 : decode cX0_multiply 32 = .ok (.aaload, 1) := by decide +kernel
theorem dX0_multiply_33 : decode cX0_multiply 33 = .ok (.aload_n 2, 1) := by decide +kernel
theorem dX0_multiply_34 : decode cX0_multiply 34 = .ok (.aload_n 0, 1) := by decide +kernel
theorem dX0_multiply_35 : decode cX0_multiply 35 = .ok (.getfield 54, 3) := by decide +kernel
theorem dX0_multiply_38 : decode cX0_multiply 38 = .ok (.iload 4, 2) := by decide +kernel
theorem dX0_multiply_40 : decode cX0_multiply 40 = .ok (.aaload, 1) := by decide +kernel
theorem dX0_multiply_41 : decode cX0_multiply 41 = .ok (.invokevirtual 149, 3) := by decide +kernel
theorem dX0_multiply_44 : decode cX0_multiply 44 = .ok (.iinc 4 1, 3) := by decide +kernel
theorem dX0_multiply_47 : decode cX0_multiply 47 = .ok (.goto (-34), 3) := by decide +kernel
theorem dX0_multiply_50 : decode cX0_multiply 50 = .ok (.aload_n 0, 1) := by decide +kernel
theorem dX0_multiply_51 : decode cX0_multiply 51 = .ok (.aload_n 3, 1) := by decide +kernel
theorem dX0_multiply_52 : decode cX0_multiply 52 = .ok (.invokevirtual 146, 3) := by decide +kernel
theorem dX0_multiply_55 : decode cX0_multiply 55 = .ok (.bipush 63, 2) := by decide +kernel
theorem dX0_multiply_57 : decode cX0_multiply 57 = .ok (.istore 4, 2) := by decide +kernel
theorem dX0_multiply_59 : decode cX0_multiply 59 = .ok (.iload 4, 2) := by decide +kernel
theorem dX0_multiply_61 : decode cX0_multiply 61 = .ok (.ifCond .lt 47, 3) := by decide +kernel
theorem dX0_multiply_64 : decode cX0_multiply 64 = .ok (.iconst 0, 1) := by decide +kernel
theorem dX0_multiply_65 : decode cX0_multiply 65 = .ok (.istore 5, 2) := by decide +kernel
theorem dX0_multiply_67 : decode cX0_multiply 67 = .ok (.iload 5, 2) := by decide +kernel
theorem dX0_multiply_69 : decode cX0_multiply 69 = .ok (.iconst 4, 1) := by decide +kernel
theorem dX0_multiply_70 : decode cX0_multiply 70 = .ok (.if_icmp .ge 15, 3) := by decide +kernel
theorem dX0_multiply_73 : decode cX0_multiply 73 = .ok (.aload_n 0, 1) := by decide +kernel
theorem dX0_multiply_74 : decode cX0_multiply 74 = .ok (.aload_n 3, 1) := by decide +kernel
theorem dX0_multiply_75 : decode cX0_multiply 75 = .ok (.aload_n 3, 1) := by decide +kernel
theorem dX0_multiply_76 : decode cX0_multiply 76 = .ok (.invokevirtual 152, 3) := by decide +kernel
theorem dX0_multiply_79 : decode cX0_multiply 79 = .ok (.iinc 5 1, 3) := by decide +kernel
theorem dX0_multiply_82 : decode cX0_multiply 82 = .ok (.goto (-15), 3) := by decide +kernel
theorem dX0_multiply_85 : decode cX0_multiply 85 = .ok (.aload_n 0, 1) := by decide +kernel
theorem dX0_multiply_86 : decode cX0_multiply 86 = .ok (.aload_n 3, 1) := by decide +kernel
theorem dX0_multiply_87 : decode cX0_multiply 87 = .ok (.aload_n 0, 1) := by decide +kernel
theorem dX0_multiply_88 : decode cX0_multiply 88 = .ok (.getfield 54, 3) := by decide +kernel
theorem dX0_multiply_91 : decode cX0_multiply 91 = .ok (.aload_n 1, 1) := by decide +kernel
theorem dX0_multiply_92 : decode cX0_multiply 92 = .ok (.iload 4, 2) := by decide +kernel
theorem dX0_multiply_94 : decode cX0_multiply 94 = .ok (.invokestatic 156, 3) := by decide +kernel
theorem dX0_multiply_97 : decode cX0_multiply 97 = .ok (.aaload, 1) := by decide +kernel
theorem dX0_multiply_98 : decode cX0_multiply 98 = .ok (.aload_n 3, 1) := by decide +kernel
theorem dX0_multiply_99 : decode cX0_multiply 99 = .ok (.invokevirtual 149, 3) := by decide +kernel
theorem dX0_multiply_102 : decode cX0_multiply 102 = .ok (.iinc 4 (-1), 3) := by decide +kernel
theorem dX0_multiply_105 : decode cX0_multiply 105 = .ok (.goto (-46), 3) := by decide +kernel
theorem dX0_multiply_108 : decode cX0_multiply 108 = .ok (.return_, 1) := by decide +kernel
theorem dX0_isNeutral_0 : decode cX0_isNeutral 0 = .ok (.aload_n 0, 1) := by decide +kernel
theorem dX0_isNeutral_1 : decode cX0_isNeutral 1 = .ok (.getfield 58, 3) := by decide +kernel
theorem dX0_isNeutral_4 : decode cX0_isNeutral 4 = .ok (.aload_n 1, 1) := by decide +kernel
theorem dX0_isNeutral_5 : decode cX0_isNeutral 5 = .ok (.getfield 80, 3) := by decide +kernel
theorem dX0_isNeutral_8 : decode cX0_isNeutral 8 = .ok (.invokevirtual 131, 3) := by decide +kernel
theorem dX0_isNeutral_11 : decode cX0_isNeutral 11 = .ok (.ifCond .eq 25, 3) := by decide +kernel
theorem dX0_isNeutral_14 : decode cX0_isNeutral 14 = .ok (.aload_n 0, 1) := by decide +kernel
theorem dX0_isNeutral_15 : decode cX0_isNeutral 15 = .ok (.getfield 58, 3) := by decide +kernel
theorem dX0_isNeutral_18 : decode cX0_isNeutral 18 = .ok (.aload_n 1, 1) := by decide +kernel
theorem dX0_isNeutral_19 : decode cX0_isNeutral 19 = .ok (.getfield 86, 3) := by decide +kernel
theorem dX0_isNeutral_22 : decode cX0_isNeutral 22 = .ok (.aload_n 1, 1) := by decide +kernel
theorem dX0_isNeutral_23 : decode cX0_isNeutral 23 = .ok (.getfield 93, 3) := by decide +kernel
theorem dX0_isNeutral_26 : decode cX0_isNeutral 26 = .ok (.invokevirtual 159, 3) := by decide +kernel
theorem dX0_isNeutral_29 : decode cX0_isNeutral 29 = .ok (.ifCond .eq 7, 3) := by decide +kernel
theorem dX0_isNeutral_32 : decode cX0_isNeutral 32 = .ok (.iconst 1, 1) := by decide +kernel
theorem dX0_isNeutral_33 : decode cX0_isNeutral 33 = .ok (.goto 4, 3) := by decide +kernel
theorem dX0_isNeutral_36 : decode cX0_isNeutral 36 = .ok (.iconst 0, 1) := by decide +kernel
theorem dX0_isNeutral_37 : decode cX0_isNeutral 37 = .ok (.ireturn, 1) := by decide +kernel
theorem dX0_findOtherShape_0 : decode cX0_findOtherShape 0 = .ok (.aload_n 0, 1) := by decide +kernel
theorem dX0_findOtherShape_1 : decode cX0_findOtherShape 1 = .ok (.getfield 58, 3) := by decide +kernel
theorem dX0_findOtherShape_4 : decode cX0_findOtherShape 4 = .ok (.aload_n 0, 1) := by decide +kernel
theorem dX0_findOtherShape_5 : decode cX0_findOtherShape 5 = .ok (.getfield 18, 3) := by decide +kernel
theorem dX0_findOtherShape_8 : decode cX0_findOtherShape 8 = .ok (.aload_n 1, 1) := by decide +kernel
theorem dX0_findOtherShape_9 : decode cX0_findOtherShape 9 = .ok (.getfield 86, 3) := by decide +kernel
theorem dX0_findOtherShape_12 : decode cX0_findOtherShape 12 = .ok (.aload_n 0, 1) := by decide +kernel
theorem dX0_findOtherShape_13 : decode cX0_findOtherShape 13 = .ok (.getfield 28, 3) := by decide +kernel
theorem dX0_findOtherShape_16 : decode cX0_findOtherShape 16 = .ok (.invokevirtual 120, 3) := by decide +kernel
theorem dX0_findOtherShape_19 : decode cX0_findOtherShape 19 = .ok (.aload_n 0, 1) := by decide +kernel
theorem dX0_findOtherShape_20 : decode cX0_findOtherShape 20 = .ok (.getfield 58, 3) := by decide +kernel
theorem dX0_findOtherShape_23 : decode cX0_findOtherShape 23 = .ok (.aload_n 0, 1) := by decide +kernel
theorem dX0_findOtherShape_24 : decode cX0_findOtherShape 24 = .ok (.getfield 28, 3) := by decide +kernel
theorem dX0_findOtherShape_27 : decode cX0_findOtherShape 27 = .ok (.aload_n 0, 1) := by decide +kernel
theorem dX0_findOtherShape_28 : decode cX0_findOtherShape 28 = .ok (.getfield 28, 3) := by decide +kernel
theorem dX0_findOtherShape_31 : decode cX0_findOtherShape 31 = .ok (.invokevirtual 117, 3) := by decide +kernel
theorem dX0_findOtherShape_34 : decode cX0_findOtherShape 34 = .ok (.aload_n 0, 1) := by decide +kernel
theorem dX0_findOtherShape_35 : decode cX0_findOtherShape 35 = .ok (.getfield 58, 3) := by decide +kernel
theorem dX0_findOtherShape_38 : decode cX0_findOtherShape 38 = .ok (.aload_n 0, 1) := by decide +kernel
theorem dX0_findOtherShape_39 : decode cX0_findOtherShape 39 = .ok (.getfield 18, 3) := by decide +kernel
theorem dX0_findOtherShape_42 : decode cX0_findOtherShape 42 = .ok (.aload_n 1, 1) := by decide +kernel
theorem dX0_findOtherShape_43 : decode cX0_findOtherShape 43 = .ok (.getfield 86, 3) := by decide +kernel
theorem dX0_findOtherShape_46 : decode cX0_findOtherShape 46 = .ok (.aload_n 0, 1) := by decide +kernel
theorem dX0_findOtherShape_47 : decode cX0_findOtherShape 47 = .ok (.getfield 31, 3) := by decide +kernel
theorem dX0_findOtherShape_50 : decode cX0_findOtherShape 50 = .ok (.invokevirtual 73, 3) := by decide +kernel
theorem dX0_findOtherShape_53 : decode cX0_findOtherShape 53 = .ok (.aload_n 0, 1) := by decide +kernel
theorem dX0_findOtherShape_54 : decode cX0_findOtherShape 54 = .ok (.getfield 58, 3) := by decide +kernel
theorem dX0_findOtherShape_57 : decode cX0_findOtherShape 57 = .ok (.aload_n 0, 1) := by decide +kernel
theorem dX0_findOtherShape_58 : decode cX0_findOtherShape 58 = .ok (.getfield 28, 3) := by decide +kernel
theorem dX0_findOtherShape_61 : decode cX0_findOtherShape 61 = .ok (.aload_n 0, 1) := by decide +kernel
theorem dX0_findOtherShape_62 : decode cX0_findOtherShape 62 = .ok (.getfield 31, 3) := by decide +kernel
theorem dX0_findOtherShape_65 : decode cX0_findOtherShape 65 = .ok (.aload_n 2, 1) := by decide +kernel
theorem dX0_findOtherShape_66 : decode cX0_findOtherShape 66 = .ok (.invokevirtual 99, 3) := by decide +kernel
theorem dX0_findOtherShape_69 : decode cX0_findOtherShape 69 = .ok (.return_, 1) := by decide +kernel
theorem dX1_init_0 : decode cX1_init 0 = .ok (.aload_n 0, 1) := by decide +kernel
theorem dX1_init_1 : decode cX1_init 1 = .ok (.invokespecial 3, 3) := by decide +kernel
theorem dX1_init_4 : decode cX1_init 4 = .ok (.aload_n 0, 1) := by decide +kernel
theorem dX1_init_5 : decode cX1_init 5 = .ok (.bipush 10, 2) := by decide +kernel
theorem dX1_init_7 : decode cX1_init 7 = .ok (.newarray .long, 2) := by decide +kernel
theorem dX1_init_9 : decode cX1_init 9 = .ok (.putfield 9, 3) := by decide +kernel
theorem dX1_init_12 : decode cX1_init 12 = .ok (.aload_n 0, 1) := by decide +kernel
theorem dX1_init_13 : decode cX1_init 13 = .ok (.bipush 10, 2) := by decide +kernel
theorem dX1_init_15 : decode cX1_init 15 = .ok (.newarray .long, 2) := by decide +kernel
theorem dX1_init_17 : decode cX1_init 17 = .ok (.putfield 13, 3) := by decide +kernel
theorem dX1_init_20 : decode cX1_init 20 = .ok (.aload_n 0, 1) := by decide +kernel
theorem dX1_init_21 : decode cX1_init 21 = .ok (.bipush 20, 2) := by decide +kernel
theorem dX1_init_23 : decode cX1_init 23 = .ok (.newarray .long, 2) := by decide +kernel
theorem dX1_init_25 : decode cX1_init 25 = .ok (.putfield 16, 3) := by decide +kernel
theorem dX1_init_28 : decode cX1_init 28 = .ok (.aload_n 0, 1) := by decide +kernel
theorem dX1_init_29 : decode cX1_init 29 = .ok (.bipush 10, 2) := by decide +kernel
theorem dX1_init_31 : decode cX1_init 31 = .ok (.newarray .long, 2) := by decide +kernel
theorem dX1_init_33 : decode cX1_init 33 = .ok (.putfield 19, 3) := by decide +kernel
theorem dX1_init_36 : decode cX1_init 36 = .ok (.aload_n 0, 1) := by decide +kernel
theorem dX1_init_37 : decode cX1_init 37 = .ok (.bipush 10, 2) := by decide +kernel
theorem dX1_init_39 : decode cX1_init 39 = .ok (.newarray .long, 2) := by decide +kernel
theorem dX1_init_41 : decode cX1_init 41 = .ok (.putfield 22, 3) := by decide +kernel
theorem dX1_init_44 : decode cX1_init 44 = .ok (.aload_n 0, 1) := by decide +kernel
theorem dX1_init_45 : decode cX1_init 45 = .ok (.bipush 10, 2) := by decide +kernel
theorem dX1_init_47 : decode cX1_init 47 = .ok (.newarray .long, 2) := by decide +kernel
theorem dX1_init_49 : decode cX1_init 49 = .ok (.putfield 25, 3) := by decide +kernel
theorem dX1_init_52 : decode cX1_init 52 = .ok (.aload_n 0, 1) := by decide +kernel
theorem dX1_init_53 : decode cX1_init 53 = .ok (.bipush 10, 2) := by decide +kernel
theorem dX1_init_55 : decode cX1_init 55 = .ok (.newarray .long, 2) := by decide +kernel
theorem dX1_init_57 : decode cX1_init 57 = .ok (.putfield 28, 3) := by decide +kernel
theorem dX1_init_60 : decode cX1_init 60 = .ok (.aload_n 0, 1) := by decide +kernel
theorem dX1_init_61 : decode cX1_init 61 = .ok (.bipush 16, 2) := by decide +kernel
theorem dX1_init_63 : decode cX1_init 63 = .ok (.bipush 10, 2) := by decide +kernel
theorem dX1_init_65 : decode cX1_init 65 = .ok (.multianewarray 31 2, 4) := by decide +kernel
theorem dX1_init_69 : decode cX1_init 69 = .ok (.putfield 33, 3) := by decide +kernel
theorem dX1_init_72 : decode cX1_init 72 = .ok (.aload_n 0, 1) := by decide +kernel
theorem dX1_init_73 : decode cX1_init 73 = .ok (.getstatic 36, 3) := by decide +kernel
theorem dX1_init_76 : decode cX1_init 76 = .ok (.aload_n 0, 1) := by decide +kernel
theorem dX1_init_77 : decode cX1_init 77 = .ok (.getfield 13, 3) := by decide +kernel
theorem dX1_init_80 : decode cX1_init 80 = .ok (.invokevirtual 39, 3) := by decide +kernel
theorem dX1_init_83 : decode cX1_init 83 = .ok (.return_, 1) := by decide +kernel
theorem dX1_load_0 : decode cX1_load 0 = .ok (.iconst 0, 1) := by decide +kernel
theorem dX1_load_1 : decode cX1_load 1 = .ok (.istore_n 3, 1) := by decide +kernel
theorem dX1_load_2 : decode cX1_load 2 = .ok (.iload_n 3, 1) := by decide +kernel
theorem dX1_load_3 : decode cX1_load 3 = .ok (.bipush 10, 2) := by decide +kernel
theorem dX1_load_5 : decode cX1_load 5 = .ok (.if_icmp .ge 80, 3) := by decide +kernel
theorem dX1_load_8 : decode cX1_load 8 = .ok (.bipush 26, 2) := by decide +kernel
theorem dX1_load_10 : decode cX1_load 10 = .ok (.iload_n 3, 1) := by decide +kernel
theorem dX1_load_11 : decode cX1_load 11 = .ok (.imul, 1) := by decide +kernel
theorem dX1_load_12 : decode cX1_load 12 = .ok (.bipush 6, 2) := by decide +kernel
theorem dX1_load_14 : decode cX1_load 14 = .ok (.ishr, 1) := by decide +kernel
theorem dX1_load_15 : decode cX1_load 15 = .ok (.istore 4, 2) := by decide +kernel
theorem dX1_load_17 : decode cX1_load 17 = .ok (.bipush 26, 2) := by decide +kernel
theorem dX1_load_19 : decode cX1_load 19 = .ok (.iload_n 3, 1) := by decide +kernel
theorem dX1_load_20 : decode cX1_load 20 = .ok (.imul, 1) := by decide +kernel
theorem dX1_load_21 : decode cX1_load 21 = .ok (.bipush 63, 2) := by decide +kernel
theorem dX1_load_23 : decode cX1_load 23 = .ok (.iand, 1) := by decide +kernel
theorem dX1_load_24 : decode cX1_load 24 = .ok (.istore 5, 2) := by decide +kernel
theorem dX1_load_26 : decode cX1_load 26 = .ok (.aload_n 1, 1) := by decide +kernel
theorem dX1_load_27 : decode cX1_load 27 = .ok (.iload 4, 2) := by decide +kernel
theorem dX1_load_29 : decode cX1_load 29 = .ok (.laload, 1) := by decide +kernel
theorem dX1_load_30 : decode cX1_load 30 = .ok (.iload 5, 2) := by decide +kernel
theorem dX1_load_32 : decode cX1_load 32 = .ok (.lushr, 1) := by decide +kernel
theorem dX1_load_33 : decode cX1_load 33 = .ok (.lstore 6, 2) := by decide +kernel
theorem dX1_load_35 : decode cX1_load 35 = .ok (.iload 5, 2) := by decide +kernel
theorem dX1_load_37 : decode cX1_load 37 = .ok (.bipush 26, 2) := by decide +kernel
theorem dX1_load_39 : decode cX1_load 39 = .ok (.iadd, 1) := by decide +kernel
theorem dX1_load_40 : decode cX1_load 40 = .ok (.bipush 64, 2) := by decide +kernel
theorem dX1_load_42 : decode cX1_load 42 = .ok (.if_icmp .le 28, 3) := by decide +kernel
theorem dX1_load_45 : decode cX1_load 45 = .ok (.iload 4, 2) := by decide +kernel
theorem dX1_load_47 : decode cX1_load 47 = .ok (.iconst 1, 1) := by decide +kernel
theorem dX1_load_48 : decode cX1_load 48 = .ok (.iadd, 1) := by decide +kernel
theorem dX1_load_49 : decode cX1_load 49 = .ok (.iconst 4, 1) := by decide +kernel
theorem dX1_load_50 : decode cX1_load 50 = .ok (.if_icmp .ge 20, 3) := by decide +kernel
theorem dX1_load_53 : decode cX1_load 53 = .ok (.lload 6, 2) := by decide +kernel
theorem dX1_load_55 : decode cX1_load 55 = .ok (.aload_n 1, 1) := by decide +kernel
theorem dX1_load_56 : decode cX1_load 56 = .ok (.iload 4, 2) := by decide +kernel
theorem dX1_load_58 : decode cX1_load 58 = .ok (.iconst 1, 1) := by decide +kernel
theorem dX1_load_59 : decode cX1_load 59 = .ok (.iadd, 1) := by decide +kernel
theorem dX1_load_60 : decode cX1_load 60 = .ok (.laload, 1) := by decide +kernel
theorem dX1_load_61 : decode cX1_load 61 = .ok (.bipush 64, 2) := by decide +kernel
theorem dX1_load_63 : decode cX1_load 63 = .ok (.iload 5, 2) := by decide +kernel
theorem dX1_load_65 : decode cX1_load 65 = .ok (.isub, 1) := by decide +kernel
theorem dX1_load_66 : decode cX1_load 66 = .ok (.lshl, 1) := by decide +kernel
theorem dX1_load_67 : decode cX1_load 67 = .ok (.lor, 1) := by decide +kernel
theorem dX1_load_68 : decode cX1_load 68 = .ok (.lstore 6, 2) := by decide +kernel
theorem dX1_load_70 : decode cX1_load 70 = .ok (.aload_n 2, 1) := by decide +kernel
theorem dX1_load_71 : decode cX1_load 71 = .ok (.iload_n 3, 1) := by decide +kernel
theorem dX1_load_72 : decode cX1_load 72 = .ok (.lload 6, 2) := by decide +kernel
theorem dX1_load_74 : decode cX1_load 74 = .ok (.ldc2_w 45, 3) := by decide +kernel
theorem dX1_load_77 : decode cX1_load 77 = .ok (.land, 1) := by decide +kernel
theorem dX1_load_78 : decode cX1_load 78 = .ok (.lastore, 1) := by decide +kernel
theorem dX1_load_79 : decode cX1_load 79 = .ok (.iinc 3 1, 3) := by decide +kernel
theorem dX1_load_82 : decode cX1_load 82 = .ok (.goto (-80), 3) := by decide +kernel
theorem dX1_load_85 : decode cX1_load 85 = .ok (.aload_n 2, 1) := by decide +kernel
theorem dX1_load_86 : decode cX1_load 86 = .ok (.bipush 9, 2) := by decide +kernel
theorem dX1_load_88 : decode cX1_load 88 = .ok (.dup2, 1) := by decide +kernel
theorem dX1_load_89 : decode cX1_load 89 = .ok (.laload, 1) := by decide +kernel
theorem dX1_load_90 : decode cX1_load 90 = .ok (.ldc2_w 47, 3) := by decide +kernel
theorem dX1_load_93 : decode cX1_load 93 = .ok (.land, 1) := by decide +kernel
theorem dX1_load_94 : decode cX1_load 94 = .ok (.lastore, 1) := by decide +kernel
theorem dX1_load_95 : decode cX1_load 95 = .ok (.return_, 1) := by decide +kernel
theorem dX1_store_0 : decode cX1_store 0 = .ok (.aload_n 0, 1) := by decide +kernel
theorem dX1_store_1 : decode cX1_store 1 = .ok (.aload_n 1, 1) := by decide +kernel
theorem dX1_store_2 : decode cX1_store 2 = .ok (.invokevirtual 49, 3) := by decide +kernel
theorem dX1_store_5 : decode cX1_store 5 = .ok (.aload_n 2, 1) := by decide +kernel
theorem dX1_store_6 : decode cX1_store 6 = .ok (.lconst 0, 1) := by decide +kernel
theorem dX1_store_7 : decode cX1_store 7 = .ok (.invokestatic 53, 3) := by decide +kernel
theorem dX1_store_10 : decode cX1_store 10 = .ok (.iconst 0, 1) := by decide +kernel
theorem dX1_store_11 : decode cX1_store 11 = .ok (.istore_n 3, 1) := by decide +kernel
theorem dX1_store_12 : decode cX1_store 12 = .ok (.iload_n 3, 1) := by decide +kernel
theorem dX1_store_13 : decode cX1_store 13 = .ok (.bipush 10, 2) := by decide +kernel
theorem dX1_store_15 : decode cX1_store 15 = .ok (.if_icmp .ge 82, 3) := by decide +kernel
theorem dX1_store_18 : decode cX1_store 18 = .ok (.bipush 26, 2) := by decide +kernel
theorem dX1_store_20 : decode cX1_store 20 = .ok (.iload_n 3, 1) := by decide +kernel
theorem dX1_store_21 : decode cX1_store 21 = .ok (.imul, 1) := by decide +kernel
theorem dX1_store_22 : decode cX1_store 22 = .ok (.bipush 6, 2) := by decide +kernel
theorem dX1_store_24 : decode cX1_store 24 = .ok (.ishr, 1) := by decide +kernel
theorem dX1_store_25 : decode cX1_store 25 = .ok (.istore 4, 2) := by decide +kernel
theorem dX1_store_27 : decode cX1_store 27 = .ok (.bipush 26, 2) := by decide +kernel
theorem dX1_store_29 : decode cX1_store 29 = .ok (.iload_n 3, 1) := by decide +kernel
theorem dX1_store_30 : decode cX1_store 30 = .ok (.imul, 1) := by decide +kernel
theorem dX1_store_31 : decode cX1_store 31 = .ok (.bipush 63, 2) := by decide +kernel
theorem dX1_store_33 : decode cX1_store 33 = .ok (.iand, 1) := by decide +kernel
theorem dX1_store_34 : decode cX1_store 34 = .ok (.istore 5, 2) := by decide +kernel
theorem dX1_store_36 : decode cX1_store 36 = .ok (.aload_n 2, 1) := by decide +kernel
theorem dX1_store_37 : decode cX1_store 37 = .ok (.iload 4, 2) := by decide +kernel
theorem dX1_store_39 : decode cX1_store 39 = .ok (.dup2, 1) := by decide +kernel
theorem dX1_store_40 : decode cX1_store 40 = .ok (.laload, 1) := by decide +kernel
theorem dX1_store_41 : decode cX1_store 41 = .ok (.aload_n 0, 1) := by decide +kernel
theorem dX1_store_42 : decode cX1_store 42 = .ok (.getfield 19, 3) := by decide +kernel
theorem dX1_store_45 : decode cX1_store 45 = .ok (.iload_n 3, 1) := by decide +kernel
theorem dX1_store_46 : decode cX1_store 46 = .ok (.laload, 1) := by decide +kernel
theorem dX1_store_47 : decode cX1_store 47 = .ok (.iload 5, 2) := by decide +kernel
theorem dX1_store_49 : decode cX1_store 49 = .ok (.lshl, 1) := by decide +kernel
theorem dX1_store_50 : decode cX1_store 50 = .ok (.lor, 1) := by decide +kernel
theorem dX1_store_51 : decode cX1_store 51 = .ok (.lastore, 1) := by decide +kernel
theorem dX1_store_52 : decode cX1_store 52 = .ok (.iload 5, 2) := by decide +kernel
theorem dX1_store_54 : decode cX1_store 54 = .ok (.bipush 26, 2) := by decide +kernel
theorem dX1_store_56 : decode cX1_store 56 = .ok (.iadd, 1) := by decide +kernel
theorem dX1_store_57 : decode cX1_store 57 = .ok (.bipush 64, 2) := by decide +kernel
theorem dX1_store_59 : decode cX1_store 59 = .ok (.if_icmp .le 32, 3) := by decide +kernel
theorem dX1_store_62 : decode cX1_store 62 = .ok (.iload 4, 2) := by decide +kernel
theorem dX1_store_64 : decode cX1_store 64 = .ok (.iconst 1, 1) := by decide +kernel
theorem dX1_store_65 : decode cX1_store 65 = .ok (.iadd, 1) := by decide +kernel
theorem dX1_store_66 : decode cX1_store 66 = .ok (.iconst 4, 1) := by decide +kernel
theorem dX1_store_67 : decode cX1_store 67 = .ok (.if_icmp .ge 24, 3) := by decide +kernel
theorem dX1_store_70 : decode cX1_store 70 = .ok (.aload_n 2, 1) := by decide +kernel
theorem dX1_store_71 : decode cX1_store 71 = .ok (.iload 4, 2) := by decide +kernel
theorem dX1_store_73 : decode cX1_store 73 = .ok (.iconst 1, 1) := by decide +kernel
theorem dX1_store_74 : decode cX1_store 74 = .ok (.iadd, 1) := by decide +kernel
theorem dX1_store_75 : decode cX1_store 75 = .ok (.dup2, 1) := by decide +kernel
theorem dX1_store_76 : decode cX1_store 76 = .ok (.laload, 1) := by decide +kernel
theorem dX1_store_77 : decode cX1_store 77 = .ok (.aload_n 0, 1) := by decide +kernel
theorem dX1_store_78 : decode cX1_store 78 = .ok (.getfield 19, 3) := by decide +kernel
theorem dX1_store_81 : decode cX1_store 81 = .ok (.iload_n 3, 1) := by decide +kernel
theorem dX1_store_82 : decode cX1_store 82 = .ok (.laload, 1) := by decide +kernel
theorem dX1_store_83 : decode cX1_store 83 = .ok (.bipush 64, 2) := by decide +kernel
theorem dX1_store_85 : decode cX1_store 85 = .ok (.iload 5, 2) := by decide +kernel
theorem dX1_store_87 : decode cX1_store 87 = .ok (.isub, 1) := by decide +kernel
theorem dX1_store_88 : decode cX1_store 88 = .ok (.lushr, 1) := by decide +kernel
theorem dX1_store_89 : decode cX1_store 89 = .ok (.lor, 1) := by decide +kernel
theorem dX1_store_90 : decode cX1_store 90 = .ok (.lastore, 1) := by decide +kernel
theorem dX1_store_91 : decode cX1_store 91 = .ok (.iinc 3 1, 3) := by decide +kernel
theorem dX1_store_94 : decode cX1_store 94 = .ok (.goto (-82), 3) := by decide +kernel
theorem dX1_store_97 : decode cX1_store 97 = .ok (.return_, 1) := by decide +kernel
theorem dX1_move_0 : decode cX1_move 0 = .ok (.aload_n 1, 1) := by decide +kernel
theorem dX1_move_1 : decode cX1_move 1 = .ok (.iconst 0, 1) := by decide +kernel
theorem dX1_move_2 : decode cX1_move 2 = .ok (.aload_n 2, 1) := by decide +kernel
theorem dX1_move_3 : decode cX1_move 3 = .ok (.iconst 0, 1) := by decide +kernel
theorem dX1_move_4 : decode cX1_move 4 = .ok (.bipush 10, 2) := by decide +kernel
theorem dX1_move_6 : decode cX1_move 6 = .ok (.invokestatic 59, 3) := by decide +kernel
theorem dX1_move_9 : decode cX1_move 9 = .ok (.return_, 1) := by decide +kernel
theorem dX1_become_0 : decode cX1_become 0 = .ok (.aload_n 1, 1) := by decide +kernel
theorem dX1_become_1 : decode cX1_become 1 = .ok (.lconst 0, 1) := by decide +kernel
theorem dX1_become_2 : decode cX1_become 2 = .ok (.invokestatic 53, 3) := by decide +kernel
theorem dX1_become_5 : decode cX1_become 5 = .ok (.aload_n 1, 1) := by decide +kernel
theorem dX1_become_6 : decode cX1_become 6 = .ok (.iconst 0, 1) := by decide +kernel
theorem dX1_become_7 : decode cX1_become 7 = .ok (.lload_n 2, 1) := by decide +kernel
theorem dX1_become_8 : decode cX1_become 8 = .ok (.lastore, 1) := by decide +kernel
theorem dX1_become_9 : decode cX1_become 9 = .ok (.return_, 1) := by decide +kernel
theorem dX1_add_0 : decode cX1_add 0 = .ok (.iconst 0, 1) := by decide +kernel
theorem dX1_add_1 : decode cX1_add 1 = .ok (.istore 4, 2) := by decide +kernel
theorem dX1_add_3 : decode cX1_add 3 = .ok (.iload 4, 2) := by decide +kernel
theorem dX1_add_5 : decode cX1_add 5 = .ok (.bipush 10, 2) := by decide +kernel
theorem dX1_add_7 : decode cX1_add 7 = .ok (.if_icmp .ge 22, 3) := by decide +kernel
theorem dX1_add_10 : decode cX1_add 10 = .ok (.aload_n 3, 1) := by decide +kernel
theorem dX1_add_11 : decode cX1_add 11 = .ok (.iload 4, 2) := by decide +kernel
theorem dX1_add_13 : decode cX1_add 13 = .ok (.aload_n 1, 1) := by decide +kernel
theorem dX1_add_14 : decode cX1_add 14 = .ok (.iload 4, 2) := by decide +kernel
theorem dX1_add_16 : decode cX1_add 16 = .ok (.laload, 1) := by decide +kernel
theorem dX1_add_17 : decode cX1_add 17 = .ok (.aload_n 2, 1) := by decide +kernel
theorem dX1_add_18 : decode cX1_add 18 = .ok (.iload 4, 2) := by decide +kernel
theorem dX1_add_20 : decode cX1_add 20 = .ok (.laload, 1) := by decide +kernel
theorem dX1_add_21 : decode cX1_add 21 = .ok (.ladd, 1) := by decide +kernel
theorem dX1_add_22 : decode cX1_add 22 = .ok (.lastore, 1) := by decide +kernel
theorem dX1_add_23 : decode cX1_add 23 = .ok (.iinc 4 1, 3) := by decide +kernel
theorem dX1_add_26 : decode cX1_add 26 = .ok (.goto (-23), 3) := by decide +kernel
theorem dX1_add_29 : decode cX1_add 29 = .ok (.return_, 1) := by decide +kernel
theorem dX1_subtract_0 : decode cX1_subtract 0 = .ok (.iconst 0, 1) := by decide +kernel
theorem dX1_subtract_1 : decode cX1_subtract 1 = .ok (.istore 4, 2) := by decide +kernel
theorem dX1_subtract_3 : decode cX1_subtract 3 = .ok (.iload 4, 2) := by decide +kernel
theorem dX1_subtract_5 : decode cX1_subtract 5 = .ok (.bipush 10, 2) := by decide +kernel
theorem dX1_subtract_7 : decode cX1_subtract 7 = .ok (.if_icmp .ge 22, 3) := by decide +kernel
theorem dX1_subtract_10 : decode cX1_subtract 10 = .ok (.aload_n 3, 1) := by decide +kernel
theorem dX1_subtract_11 : decode cX1_subtract 11 = .ok (.iload 4, 2) := by decide +kernel
theorem dX1_subtract_13 : decode cX1_subtract 13 = .ok (.aload_n 1, 1) := by decide +kernel
theorem dX1_subtract_14 : decode cX1_subtract 14 = .ok (.iload 4, 2) := by decide +kernel
theorem dX1_subtract_16 : decode cX1_subtract 16 = .ok (.laload, 1) := by decide +kernel
theorem dX1_subtract_17 : decode cX1_subtract 17 = .ok (.aload_n 2, 1) := by decide +kernel
theorem dX1_subtract_18 : decode cX1_subtract 18 = .ok (.iload 4, 2) := by decide +kernel
theorem dX1_subtract_20 : decode cX1_subtract 20 = .ok (.laload, 1) := by decide +kernel
theorem dX1_subtract_21 : decode cX1_subtract 21 = .ok (.lsub, 1) := by decide +kernel
theorem dX1_subtract_22 : decode cX1_subtract 22 = .ok (.lastore, 1) := by decide +kernel
theorem dX1_subtract_23 : decode cX1_subtract 23 = .ok (.iinc 4 1, 3) := by decide +kernel
theorem dX1_subtract_26 : decode cX1_subtract 26 = .ok (.goto (-23), 3) := by decide +kernel
theorem dX1_subtract_29 : decode cX1_subtract 29 = .ok (.return_, 1) := by decide +kernel
theorem dX1_negate_0 : decode cX1_negate 0 = .ok (.aload_n 0, 1) := by decide +kernel
theorem dX1_negate_1 : decode cX1_negate 1 = .ok (.aload_n 0, 1) := by decide +kernel
theorem dX1_negate_2 : decode cX1_negate 2 = .ok (.getfield 9, 3) := by decide +kernel
theorem dX1_negate_5 : decode cX1_negate 5 = .ok (.aload_n 1, 1) := by decide +kernel
theorem dX1_negate_6 : decode cX1_negate 6 = .ok (.aload_n 2, 1) := by decide +kernel
theorem dX1_negate_7 : decode cX1_negate 7 = .ok (.invokevirtual 65, 3) := by decide +kernel
theorem dX1_negate_10 : decode cX1_negate 10 = .ok (.return_, 1) := by decide +kernel
theorem dX1_scale_0 : decode cX1_scale 0 = .ok (.iconst 0, 1) := by decide +kernel
theorem dX1_scale_1 : decode cX1_scale 1 = .ok (.istore 5, 2) := by decide +kernel
theorem dX1_scale_3 : decode cX1_scale 3 = .ok (.iload 5, 2) := by decide +kernel
theorem dX1_scale_5 : decode cX1_scale 5 = .ok (.bipush 10, 2) := by decide +kernel
theorem dX1_scale_7 : decode cX1_scale 7 = .ok (.if_icmp .ge 20, 3) := by decide +kernel
theorem dX1_scale_10 : decode cX1_scale 10 = .ok (.aload 4, 2) := by decide +kernel
theorem dX1_scale_12 : decode cX1_scale 12 = .ok (.iload 5, 2) := by decide +kernel
theorem dX1_scale_14 : decode cX1_scale 14 = .ok (.aload_n 1, 1) := by decide +kernel
theorem dX1_scale_15 : decode cX1_scale 15 = .ok (.iload 5, 2) := by decide +kernel
theorem dX1_scale_17 : decode cX1_scale 17 = .ok (.laload, 1) := by decide +kernel
theorem dX1_scale_18 : decode cX1_scale 18 = .ok (.lload_n 2, 1) := by decide +kernel
theorem dX1_scale_19 : decode cX1_scale 19 = .ok (.lmul, 1) := by decide +kernel
theorem dX1_scale_20 : decode cX1_scale 20 = .ok (.lastore, 1) := by decide +kernel
theorem dX1_scale_21 : decode cX1_scale 21 = .ok (.iinc 5 1, 3) := by decide +kernel
theorem dX1_scale_24 : decode cX1_scale 24 = .ok (.goto (-21), 3) := by decide +kernel
theorem dX1_scale_27 : decode cX1_scale 27 = .ok (.aload_n 0, 1) := by decide +kernel
theorem dX1_scale_28 : decode cX1_scale 28 = .ok (.aload 4, 2) := by decide +kernel
theorem dX1_scale_30 : decode cX1_scale 30 = .ok (.invokevirtual 69, 3) := by decide +kernel
theorem dX1_scale_33 : decode cX1_scale 33 = .ok (.return_, 1) := by decide +kernel
theorem dX1_multiply_0 : decode cX1_multiply 0 = .ok (.aload_n 0, 1) := by decide +kernel
theorem dX1_multiply_1 : decode cX1_multiply 1 = .ok (.getfield 16, 3) := by decide +kernel
theorem dX1_multiply_4 : decode cX1_multiply 4 = .ok (.lconst 0, 1) := by decide +kernel
theorem dX1_multiply_5 : decode cX1_multiply 5 = .ok (.invokestatic 53, 3) := by decide +kernel
theorem dX1_multiply_8 : decode cX1_multiply 8 = .ok (.iconst 0, 1) := by decide +kernel
theorem dX1_multiply_9 : decode cX1_multiply 9 = .ok (.istore 4, 2) := by decide +kernel
theorem dX1_multiply_11 : decode cX1_multiply 11 = .ok (.iload 4, 2) := by decide +kernel
theorem dX1_multiply_13 : decode cX1_multiply 13 = .ok (.bipush 10, 2) := by decide +kernel
theorem dX1_multiply_15 : decode cX1_multiply 15 = .ok (.if_icmp .ge 51, 3) := by decide +kernel
theorem dX1_multiply_18 : decode cX1_multiply 18 = .ok (.aload_n 1, 1) := by decide +kernel
theorem dX1_multiply_19 : decode cX1_multiply 19 = .ok (.iload 4, 2) := by decide +kernel
theorem dX1_multiply_21 : decode cX1_multiply 21 = .ok (.laload, 1) := by decide +kernel
theorem dX1_multiply_22 : decode cX1_multiply 22 = .ok (.lstore 5, 2) := by decide +kernel
theorem dX1_multiply_24 : decode cX1_multiply 24 = .ok (.iconst 0, 1) := by decide +kernel
theorem dX1_multiply_25 : decode cX1_multiply 25 = .ok (.istore 7, 2) := by decide +kernel
theorem dX1_multiply_27 : decode cX1_multiply 27 = .ok (.iload 7, 2) := by decide +kernel
theorem dX1_multiply_29 : decode cX1_multiply 29 = .ok (.bipush 10, 2) := by decide +kernel
theorem dX1_multiply_31 : decode cX1_multiply 31 = .ok (.if_icmp .ge 29, 3) := by decide +kernel
theorem dX1_multiply_34 : decode cX1_multiply 34 = .ok (.aload_n 0, 1) := by decide +kernel
theorem dX1_multiply_35 : decode cX1_multiply 35 = .ok (.getfield 16, 3) := by decide +kernel
theorem dX1_multiply_38 : decode cX1_multiply 38 = .ok (.iload 4, 2) := by decide +kernel
theorem dX1_multiply_40 : decode cX1_multiply 40 = .ok (.iload 7, 2) := by decide +kernel
theorem dX1_multiply_42 : decode cX1_multiply 42 = .ok (.iadd, 1) := by decide +kernel
theorem dX1_multiply_43 : decode cX1_multiply 43 = .ok (.dup2, 1) := by decide +kernel
theorem dX1_multiply_44 : decode cX1_multiply 44 = .ok (.laload, 1) := by decide +kernel
theorem dX1_multiply_45 : decode cX1_multiply 45 = .ok (.lload 5, 2) := by decide +kernel
theorem dX1_multiply_47 : decode cX1_multiply 47 = .ok (.aload_n 2, 1) := by decide +kernel
theorem dX1_multiply_48 : decode cX1_multiply 48 = .ok (.iload 7, 2) := by decide +kernel
theorem dX1_multiply_50 : decode cX1_multiply 50 = .ok (.laload, 1) := by decide +kernel
theorem dX1_multiply_51 : decode cX1_multiply 51 = .ok (.lmul, 1) := by decide +kernel
theorem dX1_multiply_52 : decode cX1_multiply 52 = .ok (.ladd, 1) := by decide +kernel
theorem dX1_multiply_53 : decode cX1_multiply 53 = .ok (.lastore, 1) := by decide +kernel
theorem dX1_multiply_54 : decode cX1_multiply 54 = .ok (.iinc 7 1, 3) := by decide +kernel
theorem dX1_multiply_57 : decode cX1_multiply 57 = .ok (.goto (-30), 3) := by decide +kernel
theorem dX1_multiply_60 : decode cX1_multiply 60 = .ok (.iinc 4 1, 3) := by decide +kernel
theorem dX1_multiply_63 : decode cX1_multiply 63 = .ok (.goto (-52), 3) := by decide +kernel
theorem dX1_multiply_66 : decode cX1_multiply 66 = .ok (.aload_n 0, 1) := by decide +kernel
theorem dX1_multiply_67 : decode cX1_multiply 67 = .ok (.aload_n 3, 1) := by decide +kernel
theorem dX1_multiply_68 : decode cX1_multiply 68 = .ok (.invokevirtual 72, 3) := by decide +kernel
theorem dX1_multiply_71 : decode cX1_multiply 71 = .ok (.aload_n 0, 1) := by decide +kernel
theorem dX1_multiply_72 : decode cX1_multiply 72 = .ok (.aload_n 3, 1) := by decide +kernel
theorem dX1_multiply_73 : decode cX1_multiply 73 = .ok (.invokevirtual 69, 3) := by decide +kernel
theorem dX1_multiply_76 : decode cX1_multiply 76 = .ok (.return_, 1) := by decide +kernel
theorem dX1_square_0 : decode cX1_square 0 = .ok (.aload_n 0, 1) := by decide +kernel
theorem dX1_square_1 : decode cX1_square 1 = .ok (.getfield 16, 3) := by decide +kernel
theorem dX1_square_4 : decode cX1_square 4 = .ok (.lconst 0, 1) := by decide +kernel
theorem dX1_square_5 : decode cX1_square 5 = .ok (.invokestatic 53, 3) := by decide +kernel
theorem dX1_square_8 : decode cX1_square 8 = .ok (.iconst 0, 1) := by decide +kernel
theorem dX1_square_9 : decode cX1_square 9 = .ok (.istore_n 3, 1) := by decide +kernel
theorem dX1_square_10 : decode cX1_square 10 = .ok (.iload_n 3, 1) := by decide +kernel
theorem dX1_square_11 : decode cX1_square 11 = .ok (.bipush 10, 2) := by decide +kernel
theorem dX1_square_13 : decode cX1_square 13 = .ok (.if_icmp .ge 71, 3) := by decide +kernel
theorem dX1_square_16 : decode cX1_square 16 = .ok (.aload_n 1, 1) := by decide +kernel
theorem dX1_square_17 : decode cX1_square 17 = .ok (.iload_n 3, 1) := by decide +kernel
theorem dX1_square_18 : decode cX1_square 18 = .ok (.laload, 1) := by decide +kernel
theorem dX1_square_19 : decode cX1_square 19 = .ok (.lstore 4, 2) := by decide +kernel
theorem dX1_square_21 : decode cX1_square 21 = .ok (.aload_n 0, 1) := by decide +kernel
theorem dX1_square_22 : decode cX1_square 22 = .ok (.getfield 16, 3) := by decide +kernel
theorem dX1_square_25 : decode cX1_square 25 = .ok (.iconst 2, 1) := by decide +kernel
theorem dX1_square_26 : decode cX1_square 26 = .ok (.iload_n 3, 1) := by decide +kernel
theorem dX1_square_27 : decode cX1_square 27 = .ok (.imul, 1) := by decide +kernel
theorem dX1_square_28 : decode cX1_square 28 = .ok (.dup2, 1) := by decide +kernel
theorem dX1_square_29 : decode cX1_square 29 = .ok (.laload, 1) := by decide +kernel
theorem dX1_square_30 : decode cX1_square 30 = .ok (.lload 4, 2) := by decide +kernel
theorem dX1_square_32 : decode cX1_square 32 = .ok (.lload 4, 2) := by decide +kernel
theorem dX1_square_34 : decode cX1_square 34 = .ok (.lmul, 1) := by decide +kernel
theorem dX1_square_35 : decode cX1_square 35 = .ok (.ladd, 1) := by decide +kernel
theorem dX1_square_36 : decode cX1_square 36 = .ok (.lastore, 1) := by decide +kernel
theorem dX1_square_37 : decode cX1_square 37 = .ok (.iload_n 3, 1) := by decide +kernel
theorem dX1_square_38 : decode cX1_square 38 = .ok (.iconst 1, 1) := by decide +kernel
theorem dX1_square_39 : decode cX1_square 39 = .ok (.iadd, 1) := by decide +kernel
theorem dX1_square_40 : decode cX1_square 40 = .ok (.istore 6, 2) := by decide +kernel
theorem dX1_square_42 : decode cX1_square 42 = .ok (.iload 6, 2) := by decide +kernel
theorem dX1_square_44 : decode cX1_square 44 = .ok (.bipush 10, 2) := by decide +kernel
theorem dX1_square_46 : decode cX1_square 46 = .ok (.if_icmp .ge 32, 3) := by decide +kernel
theorem dX1_square_49 : decode cX1_square 49 = .ok (.aload_n 0, 1) := by decide +kernel
theorem dX1_square_50 : decode cX1_square 50 = .ok (.getfield 16, 3) := by decide +kernel
theorem dX1_square_53 : decode cX1_square 53 = .ok (.iload_n 3, 1) := by decide +kernel
theorem dX1_square_54 : decode cX1_square 54 = .ok (.iload 6, 2) := by decide +kernel
theorem dX1_square_56 : decode cX1_square 56 = .ok (.iadd, 1) := by decide +kernel
theorem dX1_square_57 : decode cX1_square 57 = .ok (.dup2, 1) := by decide +kernel
theorem dX1_square_58 : decode cX1_square 58 = .ok (.laload, 1) := by decide +kernel
theorem dX1_square_59 : decode cX1_square 59 = .ok (.ldc2_w 75, 3) := by decide +kernel
theorem dX1_square_62 : decode cX1_square 62 = .ok (.lload 4, 2) := by decide +kernel
theorem dX1_square_64 : decode cX1_square 64 = .ok (.lmul, 1) := by decide +kernel
theorem dX1_square_65 : decode cX1_square 65 = .ok (.aload_n 1, 1) := by decide +kernel
theorem dX1_square_66 : decode cX1_square 66 = .ok (.iload 6, 2) := by decide +kernel
theorem dX1_square_68 : decode cX1_square 68 = .ok (.laload, 1) := by decide +kernel
theorem dX1_square_69 : decode cX1_square 69 = .ok (.lmul, 1) := by decide +kernel
theorem dX1_square_70 : decode cX1_square 70 = .ok (.ladd, 1) := by decide +kernel
theorem dX1_square_71 : decode cX1_square 71 = .ok (.lastore, 1) := by decide +kernel
theorem dX1_square_72 : decode cX1_square 72 = .ok (.iinc 6 1, 3) := by decide +kernel
theorem dX1_square_75 : decode cX1_square 75 = .ok (.goto (-33), 3) := by decide +kernel
theorem dX1_square_78 : decode cX1_square 78 = .ok (.iinc 3 1, 3) := by decide +kernel
theorem dX1_square_81 : decode cX1_square 81 = .ok (.goto (-71), 3) := by decide +kernel
theorem dX1_square_84 : decode cX1_square 84 = .ok (.aload_n 0, 1) := by decide +kernel
theorem dX1_square_85 : decode cX1_square 85 = .ok (.aload_n 2, 1) := by decide +kernel
theorem dX1_square_86 : decode cX1_square 86 = .ok (.invokevirtual 72, 3) := by decide +kernel
theorem dX1_square_89 : decode cX1_square 89 = .ok (.aload_n 0, 1) := by decide +kernel
theorem dX1_square_90 : decode cX1_square 90 = .ok (.aload_n 2, 1) := by decide +kernel
theorem dX1_square_91 : decode cX1_square 91 = .ok (.invokevirtual 69, 3) := by decide +kernel
theorem dX1_square_94 : decode cX1_square 94 = .ok (.return_, 1) := by decide +kernel
theorem dX1_fold_0 : decode cX1_fold 0 = .ok (.iconst 0, 1) := by decide +kernel
theorem dX1_fold_1 : decode cX1_fold 1 = .ok (.istore_n 2, 1) := by decide +kernel
theorem dX1_fold_2 : decode cX1_fold 2 = .ok (.iload_n 2, 1) := by decide +kernel
theorem dX1_fold_3 : decode cX1_fold 3 = .ok (.bipush 19, 2) := by decide +kernel
theorem dX1_fold_5 : decode cX1_fold 5 = .ok (.if_icmp .ge 41, 3) := by decide +kernel
theorem dX1_fold_8 : decode cX1_fold 8 = .ok (.aload_n 0, 1) := by decide +kernel
theorem dX1_fold_9 : decode cX1_fold 9 = .ok (.getfield 16, 3) := by decide +kernel
theorem dX1_fold_12 : decode cX1_fold 12 = .ok (.iload_n 2, 1) := by decide +kernel
theorem dX1_fold_13 : decode cX1_fold 13 = .ok (.iconst 1, 1) := by decide +kernel
theorem dX1_fold_14 : decode cX1_fold 14 = .ok (.iadd, 1) := by decide +kernel
theorem dX1_fold_15 : decode cX1_fold 15 = .ok (.dup2, 1) := by decide +kernel
theorem dX1_fold_16 : decode cX1_fold 16 = .ok (.laload, 1) := by decide +kernel
theorem dX1_fold_17 : decode cX1_fold 17 = .ok (.aload_n 0, 1) := by decide +kernel
theorem dX1_fold_18 : decode cX1_fold 18 = .ok (.getfield 16, 3) := by decide +kernel
theorem dX1_fold_21 : decode cX1_fold 21 = .ok (.iload_n 2, 1) := by decide +kernel
theorem dX1_fold_22 : decode cX1_fold 22 = .ok (.laload, 1) := by decide +kernel
theorem dX1_fold_23 : decode cX1_fold 23 = .ok (.bipush 26, 2) := by decide +kernel
theorem dX1_fold_25 : decode cX1_fold 25 = .ok (.lshr, 1) := by decide +kernel
theorem dX1_fold_26 : decode cX1_fold 26 = .ok (.ladd, 1) := by decide +kernel
theorem dX1_fold_27 : decode cX1_fold 27 = .ok (.lastore, 1) := by decide +kernel
theorem dX1_fold_28 : decode cX1_fold 28 = .ok (.aload_n 0, 1) := by decide +kernel
theorem dX1_fold_29 : decode cX1_fold 29 = .ok (.getfield 16, 3) := by decide +kernel
theorem dX1_fold_32 : decode cX1_fold 32 = .ok (.iload_n 2, 1) := by decide +kernel
theorem dX1_fold_33 : decode cX1_fold 33 = .ok (.dup2, 1) := by decide +kernel
theorem dX1_fold_34 : decode cX1_fold 34 = .ok (.laload, 1) := by decide +kernel
theorem dX1_fold_35 : decode cX1_fold 35 = .ok (.ldc2_w 45, 3) := by decide +kernel
theorem dX1_fold_38 : decode cX1_fold 38 = .ok (.land, 1) := by decide +kernel
theorem dX1_fold_39 : decode cX1_fold 39 = .ok (.lastore, 1) := by decide +kernel
theorem dX1_fold_40 : decode cX1_fold 40 = .ok (.iinc 2 1, 3) := by decide +kernel
theorem dX1_fold_43 : decode cX1_fold 43 = .ok (.goto (-41), 3) := by decide +kernel
theorem dX1_fold_46 : decode cX1_fold 46 = .ok (.iconst 0, 1) := by decide +kernel
theorem dX1_fold_47 : decode cX1_fold 47 = .ok (.istore_n 2, 1) := by decide +kernel
theorem dX1_fold_48 : decode cX1_fold 48 = .ok (.iload_n 2, 1) := by decide +kernel
theorem dX1_fold_49 : decode cX1_fold 49 = .ok (.bipush 10, 2) := by decide +kernel
theorem dX1_fold_51 : decode cX1_fold 51 = .ok (.if_icmp .ge 32, 3) := by decide +kernel
theorem dX1_fold_54 : decode cX1_fold 54 = .ok (.aload_n 1, 1) := by decide +kernel
theorem dX1_fold_55 : decode cX1_fold 55 = .ok (.iload_n 2, 1) := by decide +kernel
theorem dX1_fold_56 : decode cX1_fold 56 = .ok (.aload_n 0, 1) := by decide +kernel
theorem dX1_fold_57 : decode cX1_fold 57 = .ok (.getfield 16, 3) := by decide +kernel
theorem dX1_fold_60 : decode cX1_fold 60 = .ok (.iload_n 2, 1) := by decide +kernel
theorem dX1_fold_61 : decode cX1_fold 61 = .ok (.laload, 1) := by decide +kernel
theorem dX1_fold_62 : decode cX1_fold 62 = .ok (.ldc2_w 77, 3) := by decide +kernel
theorem dX1_fold_65 : decode cX1_fold 65 = .ok (.aload_n 0, 1) := by decide +kernel
theorem dX1_fold_66 : decode cX1_fold 66 = .ok (.getfield 16, 3) := by decide +kernel
theorem dX1_fold_69 : decode cX1_fold 69 = .ok (.iload_n 2, 1) := by decide +kernel
theorem dX1_fold_70 : decode cX1_fold 70 = .ok (.bipush 10, 2) := by decide +kernel
theorem dX1_fold_72 : decode cX1_fold 72 = .ok (.iadd, 1) := by decide +kernel
theorem dX1_fold_73 : decode cX1_fold 73 = .ok (.laload, 1) := by decide +kernel
theorem dX1_fold_74 : decode cX1_fold 74 = .ok (.lmul, 1) := by decide +kernel
theorem dX1_fold_75 : decode cX1_fold 75 = .ok (.ladd, 1) := by decide +kernel
theorem dX1_fold_76 : decode cX1_fold 76 = .ok (.lastore, 1) := by decide +kernel
theorem dX1_fold_77 : decode cX1_fold 77 = .ok (.iinc 2 1, 3) := by decide +kernel
theorem dX1_fold_80 : decode cX1_fold 80 = .ok (.goto (-32), 3) := by decide +kernel
theorem dX1_fold_83 : decode cX1_fold 83 = .ok (.return_, 1) := by decide +kernel
theorem dX1_carry_0 : decode cX1_carry 0 = .ok (.iconst 0, 1) := by decide +kernel
theorem dX1_carry_1 : decode cX1_carry 1 = .ok (.istore_n 2, 1) := by decide +kernel
theorem dX1_carry_2 : decode cX1_carry 2 = .ok (.iload_n 2, 1) := by decide +kernel
theorem dX1_carry_3 : decode cX1_carry 3 = .ok (.bipush 9, 2) := by decide +kernel
theorem dX1_carry_5 : decode cX1_carry 5 = .ok (.if_icmp .ge 32, 3) := by decide +kernel
theorem dX1_carry_8 : decode cX1_carry 8 = .ok (.aload_n 1, 1) := by decide +kernel
theorem dX1_carry_9 : decode cX1_carry 9 = .ok (.iload_n 2, 1) := by decide +kernel
theorem dX1_carry_10 : decode cX1_carry 10 = .ok (.iconst 1, 1) := by decide +kernel
theorem dX1_carry_11 : decode cX1_carry 11 = .ok (.iadd, 1) := by decide +kernel
theorem dX1_carry_12 : decode cX1_carry 12 = .ok (.dup2, 1) := by decide +kernel
theorem dX1_carry_13 : decode cX1_carry 13 = .ok (.laload, 1) := by decide +kernel
theorem dX1_carry_14 : decode cX1_carry 14 = .ok (.aload_n 1, 1) := by decide +kernel
theorem dX1_carry_15 : decode cX1_carry 15 = .ok (.iload_n 2, 1) := by decide +kernel
theorem dX1_carry_16 : decode cX1_carry 16 = .ok (.laload, 1) := by decide +kernel
theorem dX1_carry_17 : decode cX1_carry 17 = .ok (.bipush 26, 2) := by decide +kernel
theorem dX1_carry_19 : decode cX1_carry 19 = .ok (.lshr, 1) := by decide +kernel
theorem dX1_carry_20 : decode cX1_carry 20 = .ok (.ladd, 1) := by decide +kernel
theorem dX1_carry_21 : decode cX1_carry 21 = .ok (.lastore, 1) := by decide +kernel
theorem dX1_carry_22 : decode cX1_carry 22 = .ok (.aload_n 1, 1) := by decide +kernel
theorem dX1_carry_23 : decode cX1_carry 23 = .ok (.iload_n 2, 1) := by decide +kernel
theorem dX1_carry_24 : decode cX1_carry 24 = .ok (.dup2, 1) := by decide +kernel
theorem dX1_carry_25 : decode cX1_carry 25 = .ok (.laload, 1) := by decide +kernel
theorem dX1_carry_26 : decode cX1_carry 26 = .ok (.ldc2_w 45, 3) := by decide +kernel
theorem dX1_carry_29 : decode cX1_carry 29 = .ok (.land, 1) := by decide +kernel
theorem dX1_carry_30 : decode cX1_carry 30 = .ok (.lastore, 1) := by decide +kernel
theorem dX1_carry_31 : decode cX1_carry 31 = .ok (.iinc 2 1, 3) := by decide +kernel
theorem dX1_carry_34 : decode cX1_carry 34 = .ok (.goto (-32), 3) := by decide +kernel
theorem dX1_carry_37 : decode cX1_carry 37 = .ok (.aload_n 1, 1) := by decide +kernel
theorem dX1_carry_38 : decode cX1_carry 38 = .ok (.bipush 9, 2) := by decide +kernel
theorem dX1_carry_40 : decode cX1_carry 40 = .ok (.laload, 1) := by decide +kernel
theorem dX1_carry_41 : decode cX1_carry 41 = .ok (.bipush 21, 2) := by decide +kernel
theorem dX1_carry_43 : decode cX1_carry 43 = .ok (.lshr, 1) := by decide +kernel
theorem dX1_carry_44 : decode cX1_carry 44 = .ok (.lstore_n 2, 1) := by decide +kernel
theorem dX1_carry_45 : decode cX1_carry 45 = .ok (.aload_n 1, 1) := by decide +kernel
theorem dX1_carry_46 : decode cX1_carry 46 = .ok (.bipush 9, 2) := by decide +kernel
theorem dX1_carry_48 : decode cX1_carry 48 = .ok (.dup2, 1) := by decide +kernel
theorem dX1_carry_49 : decode cX1_carry 49 = .ok (.laload, 1) := by decide +kernel
theorem dX1_carry_50 : decode cX1_carry 50 = .ok (.ldc2_w 47, 3) := by decide +kernel
theorem dX1_carry_53 : decode cX1_carry 53 = .ok (.land, 1) := by decide +kernel
theorem dX1_carry_54 : decode cX1_carry 54 = .ok (.lastore, 1) := by decide +kernel
theorem dX1_carry_55 : decode cX1_carry 55 = .ok (.aload_n 1, 1) := by decide +kernel
theorem dX1_carry_56 : decode cX1_carry 56 = .ok (.iconst 0, 1) := by decide +kernel
theorem dX1_carry_57 : decode cX1_carry 57 = .ok (.dup2, 1) := by decide +kernel
theorem dX1_carry_58 : decode cX1_carry 58 = .ok (.laload, 1) := by decide +kernel
theorem dX1_carry_59 : decode cX1_carry 59 = .ok (.ldc2_w 79, 3) := by decide +kernel
theorem dX1_carry_62 : decode cX1_carry 62 = .ok (.lload_n 2, 1) := by decide +kernel
theorem dX1_carry_63 : decode cX1_carry 63 = .ok (.lmul, 1) := by decide +kernel
theorem dX1_carry_64 : decode cX1_carry 64 = .ok (.ladd, 1) := by decide +kernel
theorem dX1_carry_65 : decode cX1_carry 65 = .ok (.lastore, 1) := by decide +kernel
theorem dX1_carry_66 : decode cX1_carry 66 = .ok (.return_, 1) := by decide +kernel
theorem dX1_makeExact_0 : decode cX1_makeExact 0 = .ok (.aload_n 0, 1) := by decide +kernel
theorem dX1_makeExact_1 : decode cX1_makeExact 1 = .ok (.aload_n 1, 1) := by decide +kernel
theorem dX1_makeExact_2 : decode cX1_makeExact 2 = .ok (.aload_n 0, 1) := by decide +kernel
theorem dX1_makeExact_3 : decode cX1_makeExact 3 = .ok (.getfield 19, 3) := by decide +kernel
theorem dX1_makeExact_6 : decode cX1_makeExact 6 = .ok (.invokevirtual 81, 3) := by decide +kernel
theorem dX1_makeExact_9 : decode cX1_makeExact 9 = .ok (.aload_n 0, 1) := by decide +kernel
theorem dX1_makeExact_10 : decode cX1_makeExact 10 = .ok (.aload_n 0, 1) := by decide +kernel
theorem dX1_makeExact_11 : decode cX1_makeExact 11 = .ok (.getfield 19, 3) := by decide +kernel
theorem dX1_makeExact_14 : decode cX1_makeExact 14 = .ok (.invokevirtual 69, 3) := by decide +kernel
theorem dX1_makeExact_17 : decode cX1_makeExact 17 = .ok (.aload_n 0, 1) := by decide +kernel
theorem dX1_makeExact_18 : decode cX1_makeExact 18 = .ok (.getfield 19, 3) := by decide +kernel
theorem dX1_makeExact_21 : decode cX1_makeExact 21 = .ok (.iconst 0, 1) := by decide +kernel
theorem dX1_makeExact_22 : decode cX1_makeExact 22 = .ok (.dup2, 1) := by decide +kernel
theorem dX1_makeExact_23 : decode cX1_makeExact 23 = .ok (.laload, 1) := by decide +kernel
theorem dX1_makeExact_24 : decode cX1_makeExact 24 = .ok (.ldc2_w 79, 3) := by decide +kernel
theorem dX1_makeExact_27 : decode cX1_makeExact 27 = .ok (.ladd, 1) := by decide +kernel
theorem dX1_makeExact_28 : decode cX1_makeExact 28 = .ok (.lastore, 1) := by decide +kernel
theorem dX1_makeExact_29 : decode cX1_makeExact 29 = .ok (.aload_n 0, 1) := by decide +kernel
theorem dX1_makeExact_30 : decode cX1_makeExact 30 = .ok (.aload_n 0, 1) := by decide +kernel
theorem dX1_makeExact_31 : decode cX1_makeExact 31 = .ok (.getfield 19, 3) := by decide +kernel
theorem dX1_makeExact_34 : decode cX1_makeExact 34 = .ok (.invokevirtual 69, 3) := by decide +kernel
theorem dX1_makeExact_37 : decode cX1_makeExact 37 = .ok (.aload_n 0, 1) := by decide +kernel
theorem dX1_makeExact_38 : decode cX1_makeExact 38 = .ok (.getfield 19, 3) := by decide +kernel
theorem dX1_makeExact_41 : decode cX1_makeExact 41 = .ok (.iconst 0, 1) := by decide +kernel
theorem dX1_makeExact_42 : decode cX1_makeExact 42 = .ok (.dup2, 1) := by decide +kernel
theorem dX1_makeExact_43 : decode cX1_makeExact 43 = .ok (.laload, 1) := by decide +kernel
theorem dX1_makeExact_44 : decode cX1_makeExact 44 = .ok (.ldc2_w 79, 3) := by decide +kernel
theorem dX1_makeExact_47 : decode cX1_makeExact 47 = .ok (.lsub, 1) := by decide +kernel
theorem dX1_makeExact_48 : decode cX1_makeExact 48 = .ok (.lastore, 1) := by decide +kernel
theorem dX1_makeExact_49 : decode cX1_makeExact 49 = .ok (.aload_n 0, 1) := by decide +kernel
theorem dX1_makeExact_50 : decode cX1_makeExact 50 = .ok (.aload_n 0, 1) := by decide +kernel
theorem dX1_makeExact_51 : decode cX1_makeExact 51 = .ok (.getfield 19, 3) := by decide +kernel
theorem dX1_makeExact_54 : decode cX1_makeExact 54 = .ok (.invokevirtual 69, 3) := by decide +kernel
theorem dX1_makeExact_57 : decode cX1_makeExact 57 = .ok (.return_, 1) := by decide +kernel
theorem dX1_isZero_0 : decode cX1_isZero 0 = .ok (.aload_n 0, 1) := by decide +kernel
theorem dX1_isZero_1 : decode cX1_isZero 1 = .ok (.aload_n 1, 1) := by decide +kernel
theorem dX1_isZero_2 : decode cX1_isZero 2 = .ok (.invokevirtual 49, 3) := by decide +kernel
theorem dX1_isZero_5 : decode cX1_isZero 5 = .ok (.aload_n 0, 1) := by decide +kernel
theorem dX1_isZero_6 : decode cX1_isZero 6 = .ok (.getfield 19, 3) := by decide +kernel
theorem dX1_isZero_9 : decode cX1_isZero 9 = .ok (.invokestatic 84, 3) := by decide +kernel
theorem dX1_isZero_12 : decode cX1_isZero 12 = .ok (.ireturn, 1) := by decide +kernel
theorem dX1_areSame_0 : decode cX1_areSame 0 = .ok (.aload_n 0, 1) := by decide +kernel
theorem dX1_areSame_1 : decode cX1_areSame 1 = .ok (.aload_n 1, 1) := by decide +kernel
theorem dX1_areSame_2 : decode cX1_areSame 2 = .ok (.aload_n 2, 1) := by decide +kernel
theorem dX1_areSame_3 : decode cX1_areSame 3 = .ok (.aload_n 0, 1) := by decide +kernel
theorem dX1_areSame_4 : decode cX1_areSame 4 = .ok (.getfield 22, 3) := by decide +kernel
theorem dX1_areSame_7 : decode cX1_areSame 7 = .ok (.invokevirtual 65, 3) := by decide +kernel
theorem dX1_areSame_10 : decode cX1_areSame 10 = .ok (.aload_n 0, 1) := by decide +kernel
theorem dX1_areSame_11 : decode cX1_areSame 11 = .ok (.aload_n 0, 1) := by decide +kernel
theorem dX1_areSame_12 : decode cX1_areSame 12 = .ok (.getfield 22, 3) := by decide +kernel
theorem dX1_areSame_15 : decode cX1_areSame 15 = .ok (.invokevirtual 49, 3) := by decide +kernel
theorem dX1_areSame_18 : decode cX1_areSame 18 = .ok (.aload_n 0, 1) := by decide +kernel
theorem dX1_areSame_19 : decode cX1_areSame 19 = .ok (.getfield 19, 3) := by decide +kernel
theorem dX1_areSame_22 : decode cX1_areSame 22 = .ok (.invokestatic 84, 3) := by decide +kernel
theorem dX1_areSame_25 : decode cX1_areSame 25 = .ok (.ireturn, 1) := by decide +kernel
theorem dX1_isNothing_0 : decode cX1_isNothing 0 = .ok (.lconst 0, 1) := by decide +kernel
theorem dX1_isNothing_1 : decode cX1_isNothing 1 = .ok (.lstore_n 1, 1) := by decide +kernel
theorem dX1_isNothing_2 : decode cX1_isNothing 2 = .ok (.iconst 0, 1) := by decide +kernel
theorem dX1_isNothing_3 : decode cX1_isNothing 3 = .ok (.istore_n 3, 1) := by decide +kernel
theorem dX1_isNothing_4 : decode cX1_isNothing 4 = .ok (.iload_n 3, 1) := by decide +kernel
theorem dX1_isNothing_5 : decode cX1_isNothing 5 = .ok (.bipush 10, 2) := by decide +kernel
theorem dX1_isNothing_7 : decode cX1_isNothing 7 = .ok (.if_icmp .ge 15, 3) := by decide +kernel
theorem dX1_isNothing_10 : decode cX1_isNothing 10 = .ok (.lload_n 1, 1) := by decide +kernel
theorem dX1_isNothing_11 : decode cX1_isNothing 11 = .ok (.aload_n 0, 1) := by decide +kernel
theorem dX1_isNothing_12 : decode cX1_isNothing 12 = .ok (.iload_n 3, 1) := by decide +kernel
theorem dX1_isNothing_13 : decode cX1_isNothing 13 = .ok (.laload, 1) := by decide +kernel
theorem dX1_isNothing_14 : decode cX1_isNothing 14 = .ok (.lor, 1) := by decide +kernel
theorem dX1_isNothing_15 : decode cX1_isNothing 15 = .ok (.lstore_n 1, 1) := by decide +kernel
theorem dX1_isNothing_16 : decode cX1_isNothing 16 = .ok (.iinc 3 1, 3) := by decide +kernel
theorem dX1_isNothing_19 : decode cX1_isNothing 19 = .ok (.goto (-15), 3) := by decide +kernel
theorem dX1_isNothing_22 : decode cX1_isNothing 22 = .ok (.lload_n 1, 1) := by decide +kernel
theorem dX1_isNothing_23 : decode cX1_isNothing 23 = .ok (.lconst 0, 1) := by decide +kernel
theorem dX1_isNothing_24 : decode cX1_isNothing 24 = .ok (.lcmp, 1) := by decide +kernel
theorem dX1_isNothing_25 : decode cX1_isNothing 25 = .ok (.ifCond .ne 7, 3) := by decide +kernel
theorem dX1_isNothing_28 : decode cX1_isNothing 28 = .ok (.iconst 1, 1) := by decide +kernel
theorem dX1_isNothing_29 : decode cX1_isNothing 29 = .ok (.goto 4, 3) := by decide +kernel
theorem dX1_isNothing_32 : decode cX1_isNothing 32 = .ok (.iconst 0, 1) := by decide +kernel
theorem dX1_isNothing_33 : decode cX1_isNothing 33 = .ok (.ireturn, 1) := by decide +kernel
theorem dX1_isOdd_0 : decode cX1_isOdd 0 = .ok (.aload_n 0, 1) := by decide +kernel
theorem dX1_isOdd_1 : decode cX1_isOdd 1 = .ok (.aload_n 1, 1) := by decide +kernel
theorem dX1_isOdd_2 : decode cX1_isOdd 2 = .ok (.invokevirtual 49, 3) := by decide +kernel
theorem dX1_isOdd_5 : decode cX1_isOdd 5 = .ok (.aload_n 0, 1) := by decide +kernel
theorem dX1_isOdd_6 : decode cX1_isOdd 6 = .ok (.getfield 19, 3) := by decide +kernel
theorem dX1_isOdd_9 : decode cX1_isOdd 9 = .ok (.iconst 0, 1) := by decide +kernel
theorem dX1_isOdd_10 : decode cX1_isOdd 10 = .ok (.laload, 1) := by decide +kernel
theorem dX1_isOdd_11 : decode cX1_isOdd 11 = .ok (.lconst 1, 1) := by decide +kernel
theorem dX1_isOdd_12 : decode cX1_isOdd 12 = .ok (.land, 1) := by decide +kernel
theorem dX1_isOdd_13 : decode cX1_isOdd 13 = .ok (.lconst 1, 1) := by decide +kernel
theorem dX1_isOdd_14 : decode cX1_isOdd 14 = .ok (.lcmp, 1) := by decide +kernel
theorem dX1_isOdd_15 : decode cX1_isOdd 15 = .ok (.ifCond .ne 7, 3) := by decide +kernel
theorem dX1_isOdd_18 : decode cX1_isOdd 18 = .ok (.iconst 1, 1) := by decide +kernel
theorem dX1_isOdd_19 : decode cX1_isOdd 19 = .ok (.goto 4, 3) := by decide +kernel
theorem dX1_isOdd_22 : decode cX1_isOdd 22 = .ok (.iconst 0, 1) := by decide +kernel
theorem dX1_isOdd_23 : decode cX1_isOdd 23 = .ok (.ireturn, 1) := by decide +kernel
theorem dX1_raise_0 : decode cX1_raise 0 = .ok (.aload_n 0, 1) := by decide +kernel
theorem dX1_raise_1 : decode cX1_raise 1 = .ok (.aload_n 0, 1) := by decide +kernel
theorem dX1_raise_2 : decode cX1_raise 2 = .ok (.getfield 33, 3) := by decide +kernel
theorem dX1_raise_5 : decode cX1_raise 5 = .ok (.iconst 0, 1) := by decide +kernel
theorem dX1_raise_6 : decode cX1_raise 6 = .ok (.aaload, 1) := by decide +kernel
theorem dX1_raise_7 : decode cX1_raise 7 = .ok (.lconst 1, 1) := by decide +kernel
theorem dX1_raise_8 : decode cX1_raise 8 = .ok (.invokevirtual 88, 3) := by decide +kernel
theorem dX1_raise_11 : decode cX1_raise 11 = .ok (.aload_n 0, 1) := by decide +kernel
theorem dX1_raise_12 : decode cX1_raise 12 = .ok (.aload_n 1, 1) := by decide +kernel
theorem dX1_raise_13 : decode cX1_raise 13 = .ok (.aload_n 0, 1) := by decide +kernel
theorem dX1_raise_14 : decode cX1_raise 14 = .ok (.getfield 33, 3) := by decide +kernel
theorem dX1_raise_17 : decode cX1_raise 17 = .ok (.iconst 1, 1) := by decide +kernel
theorem dX1_raise_18 : decode cX1_raise 18 = .ok (.aaload, 1) := by decide +kernel
theorem dX1_raise_19 : decode cX1_raise 19 = .ok (.invokevirtual 81, 3) := by decide +kernel
theorem dX1_raise_22 : decode cX1_raise 22 = .ok (.iconst 2, 1) := by decide +kernel
theorem dX1_raise_23 : decode cX1_raise 23 = .ok (.istore 4, 2) := by decide +kernel
theorem dX1_raise_25 : decode cX1_raise 25 = .ok (.iload 4, 2) := by decide +kernel
theorem dX1_raise_27 : decode cX1_raise 27 = .ok (.aload_n 0, 1) := by decide +kernel
theorem dX1_raise_28 : decode cX1_raise 28 = .ok (.getfield 33, 3) := by decide +kernel
theorem dX1_raise_31 : decode cX1_raise 31 = .ok (.arraylength, 1) := by decide +kernel
theorem dX1_raise_32 : decode cX1_raise 32 = .ok (.if_icmp .ge 35, 3) := by decide +kernel
theorem dX1_raise_35 : decode cX1_raise 35 = .ok (.aload_n 0, 1) := by decide +kernel
theorem dX1_raise_36 : decode cX1_raise 36 = .ok (.aload_n 0, 1) := by decide +kernel
theorem dX1_raise_37 : decode cX1_raise 37 = .ok (.getfield 33, 3) := by decide +kernel
theorem dX1_raise_40 : decode cX1_raise 40 = .ok (.iload 4, 2) := by decide +kernel
theorem dX1_raise_42 : decode cX1_raise 42 = .ok (.iconst 1, 1) := by decide +kernel
theorem dX1_raise_43 : decode cX1_raise 43 = .ok (.isub, 1) := by decide +kernel
theorem dX1_raise_44 : decode cX1_raise 44 = .ok (.aaload, 1) := by decide +kernel
theorem dX1_raise_45 : decode cX1_raise 45 = .ok (.aload_n 0, 1) := by decide +kernel
theorem dX1_raise_46 : decode cX1_raise 46 = .ok (.getfield 33, 3) := by decide +kernel
theorem dX1_raise_49 : decode cX1_raise 49 = .ok (.iconst 1, 1) := by decide +kernel
theorem dX1_raise_50 : decode cX1_raise 50 = .ok (.aaload, 1) := by decide +kernel
theorem dX1_raise_51 : decode cX1_raise 51 = .ok (.aload_n 0, 1) := by decide +kernel
theorem dX1_raise_52 : decode cX1_raise 52 = .ok (.getfield 33, 3) := by decide +kernel
theorem dX1_raise_55 : decode cX1_raise 55 = .ok (.iload 4, 2) := by decide +kernel
theorem dX1_raise_57 : decode cX1_raise 57 = .ok (.aaload, 1) := by decide +kernel
theorem dX1_raise_58 : decode cX1_raise 58 = .ok (.invokevirtual 91, 3) := by decide +kernel
theorem dX1_raise_61 : decode cX1_raise 61 = .ok (.iinc 4 1, 3) := by decide +kernel
theorem dX1_raise_64 : decode cX1_raise 64 = .ok (.goto (-39), 3) := by decide +kernel
theorem dX1_raise_67 : decode cX1_raise 67 = .ok (.aload_n 0, 1) := by decide +kernel
theorem dX1_raise_68 : decode cX1_raise 68 = .ok (.aload_n 3, 1) := by decide +kernel
theorem dX1_raise_69 : decode cX1_raise 69 = .ok (.lconst 1, 1) := by decide +kernel
theorem dX1_raise_70 : decode cX1_raise 70 = .ok (.invokevirtual 88, 3) := by decide +kernel
theorem dX1_raise_73 : decode cX1_raise 73 = .ok (.bipush 63, 2) := by decide +kernel
theorem dX1_raise_75 : decode cX1_raise 75 = .ok (.istore 4, 2) := by decide +kernel
theorem dX1_raise_77 : decode cX1_raise 77 = .ok (.iload 4, 2) := by decide +kernel
theorem dX1_raise_79 : decode cX1_raise 79 = .ok (.ifCond .lt 47, 3) := by decide +kernel
theorem dX1_raise_82 : decode cX1_raise 82 = .ok (.iconst 0, 1) := by decide +kernel
theorem dX1_raise_83 : decode cX1_raise 83 = .ok (.istore 5, 2) := by decide +kernel
theorem dX1_raise_85 : decode cX1_raise 85 = .ok (.iload 5, 2) := by decide +kernel
theorem dX1_raise_87 : decode cX1_raise 87 = .ok (.iconst 4, 1) := by decide +kernel
theorem dX1_raise_88 : decode cX1_raise 88 = .ok (.if_icmp .ge 15, 3) := by decide +kernel
theorem dX1_raise_91 : decode cX1_raise 91 = .ok (.aload_n 0, 1) := by decide +kernel
theorem dX1_raise_92 : decode cX1_raise 92 = .ok (.aload_n 3, 1) := by decide +kernel
theorem dX1_raise_93 : decode cX1_raise 93 = .ok (.aload_n 3, 1) := by decide +kernel
theorem dX1_raise_94 : decode cX1_raise 94 = .ok (.invokevirtual 94, 3) := by decide +kernel
theorem dX1_raise_97 : decode cX1_raise 97 = .ok (.iinc 5 1, 3) := by decide +kernel
theorem dX1_raise_100 : decode cX1_raise 100 = .ok (.goto (-15), 3) := by decide +kernel
theorem dX1_raise_103 : decode cX1_raise 103 = .ok (.aload_n 0, 1) := by decide +kernel
theorem dX1_raise_104 : decode cX1_raise 104 = .ok (.aload_n 3, 1) := by decide +kernel
theorem dX1_raise_105 : decode cX1_raise 105 = .ok (.aload_n 0, 1) := by decide +kernel
theorem dX1_raise_106 : decode cX1_raise 106 = .ok (.getfield 33, 3) := by decide +kernel
theorem dX1_raise_109 : decode cX1_raise 109 = .ok (.aload_n 2, 1) := by decide +kernel
theorem dX1_raise_110 : decode cX1_raise 110 = .ok (.iload 4, 2) := by decide +kernel
theorem dX1_raise_112 : decode cX1_raise 112 = .ok (.invokestatic 97, 3) := by decide +kernel
theorem dX1_raise_115 : decode cX1_raise 115 = .ok (.aaload, 1) := by decide +kernel
theorem dX1_raise_116 : decode cX1_raise 116 = .ok (.aload_n 3, 1) := by decide +kernel
theorem dX1_raise_117 : decode cX1_raise 117 = .ok (.invokevirtual 91, 3) := by decide +kernel
theorem dX1_raise_120 : decode cX1_raise 120 = .ok (.iinc 4 (-1), 3) := by decide +kernel
theorem dX1_raise_123 : decode cX1_raise 123 = .ok (.goto (-46), 3) := by decide +kernel
theorem dX1_raise_126 : decode cX1_raise 126 = .ok (.return_, 1) := by decide +kernel
theorem dX1_invert_0 : decode cX1_invert 0 = .ok (.aload_n 0, 1) := by decide +kernel
theorem dX1_invert_1 : decode cX1_invert 1 = .ok (.aload_n 1, 1) := by decide +kernel
theorem dX1_invert_2 : decode cX1_invert 2 = .ok (.getstatic 101, 3) := by decide +kernel
theorem dX1_invert_5 : decode cX1_invert 5 = .ok (.aload_n 2, 1) := by decide +kernel
theorem dX1_invert_6 : decode cX1_invert 6 = .ok (.invokevirtual 104, 3) := by decide +kernel
theorem dX1_invert_9 : decode cX1_invert 9 = .ok (.return_, 1) := by decide +kernel
theorem dX1_findRoot_0 : decode cX1_findRoot 0 = .ok (.aload_n 0, 1) := by decide +kernel
theorem dX1_findRoot_1 : decode cX1_findRoot 1 = .ok (.aload_n 1, 1) := by decide +kernel
theorem dX1_findRoot_2 : decode cX1_findRoot 2 = .ok (.getstatic 107, 3) := by decide +kernel
theorem dX1_findRoot_5 : decode cX1_findRoot 5 = .ok (.aload_n 0, 1) := by decide +kernel
theorem dX1_findRoot_6 : decode cX1_findRoot 6 = .ok (.getfield 25, 3) := by decide +kernel
theorem dX1_findRoot_9 : decode cX1_findRoot 9 = .ok (.invokevirtual 104, 3) := by decide +kernel
theorem dX1_findRoot_12 : decode cX1_findRoot 12 = .ok (.aload_n 0, 1) := by decide +kernel
theorem dX1_findRoot_13 : decode cX1_findRoot 13 = .ok (.aload_n 0, 1) := by decide +kernel
theorem dX1_findRoot_14 : decode cX1_findRoot 14 = .ok (.getfield 25, 3) := by decide +kernel
theorem dX1_findRoot_17 : decode cX1_findRoot 17 = .ok (.aload_n 0, 1) := by decide +kernel
theorem dX1_findRoot_18 : decode cX1_findRoot 18 = .ok (.getfield 28, 3) := by decide +kernel
theorem dX1_findRoot_21 : decode cX1_findRoot 21 = .ok (.invokevirtual 94, 3) := by decide +kernel
theorem dX1_findRoot_24 : decode cX1_findRoot 24 = .ok (.aload_n 0, 1) := by decide +kernel
theorem dX1_findRoot_25 : decode cX1_findRoot 25 = .ok (.aload_n 0, 1) := by decide +kernel
theorem dX1_findRoot_26 : decode cX1_findRoot 26 = .ok (.getfield 28, 3) := by decide +kernel
theorem dX1_findRoot_29 : decode cX1_findRoot 29 = .ok (.aload_n 1, 1) := by decide +kernel
theorem dX1_findRoot_30 : decode cX1_findRoot 30 = .ok (.invokevirtual 110, 3) := by decide +kernel
theorem dX1_findRoot_33 : decode cX1_findRoot 33 = .ok (.ifCond .ne 31, 3) := by decide +kernel
theorem dX1_findRoot_36 : decode cX1_findRoot 36 = .ok (.aload_n 0, 1) := by decide +kernel
theorem dX1_findRoot_37 : decode cX1_findRoot 37 = .ok (.aload_n 0, 1) := by decide +kernel
theorem dX1_findRoot_38 : decode cX1_findRoot 38 = .ok (.getfield 25, 3) := by decide +kernel
theorem dX1_findRoot_41 : decode cX1_findRoot 41 = .ok (.aload_n 0, 1) := by decide +kernel
theorem dX1_findRoot_42 : decode cX1_findRoot 42 = .ok (.getfield 13, 3) := by decide +kernel
theorem dX1_findRoot_45 : decode cX1_findRoot 45 = .ok (.aload_n 0, 1) := by decide +kernel
theorem dX1_findRoot_46 : decode cX1_findRoot 46 = .ok (.getfield 25, 3) := by decide +kernel
theorem dX1_findRoot_49 : decode cX1_findRoot 49 = .ok (.invokevirtual 91, 3) := by decide +kernel
theorem dX1_findRoot_52 : decode cX1_findRoot 52 = .ok (.aload_n 0, 1) := by decide +kernel
theorem dX1_findRoot_53 : decode cX1_findRoot 53 = .ok (.aload_n 0, 1) := by decide +kernel
theorem dX1_findRoot_54 : decode cX1_findRoot 54 = .ok (.getfield 25, 3) := by decide +kernel
theorem dX1_findRoot_57 : decode cX1_findRoot 57 = .ok (.aload_n 0, 1) := by decide +kernel
theorem dX1_findRoot_58 : decode cX1_findRoot 58 = .ok (.getfield 28, 3) := by decide +kernel
theorem dX1_findRoot_61 : decode cX1_findRoot 61 = .ok (.invokevirtual 94, 3) := by decide +kernel
theorem dX1_findRoot_64 : decode cX1_findRoot 64 = .ok (.aload_n 0, 1) := by decide +kernel
theorem dX1_findRoot_65 : decode cX1_findRoot 65 = .ok (.aload_n 0, 1) := by decide +kernel
theorem dX1_findRoot_66 : decode cX1_findRoot 66 = .ok (.getfield 28, 3) := by decide +kernel
theorem dX1_findRoot_69 : decode cX1_findRoot 69 = .ok (.aload_n 1, 1) := by decide +kernel
theorem dX1_findRoot_70 : decode cX1_findRoot 70 = .ok (.invokevirtual 110, 3) := by decide +kernel
theorem dX1_findRoot_73 : decode cX1_findRoot 73 = .ok (.ifCond .ne 5, 3) := by decide +kernel
theorem dX1_findRoot_76 : decode cX1_findRoot 76 = .ok (.iconst 0, 1) := by decide +kernel
theorem dX1_findRoot_77 : decode cX1_findRoot 77 = .ok (.ireturn, 1) := by decide +kernel
theorem dX1_findRoot_78 : decode cX1_findRoot 78 = .ok (.aload_n 0, 1) := by decide +kernel
theorem dX1_findRoot_79 : decode cX1_findRoot 79 = .ok (.aload_n 0, 1) := by decide +kernel
theorem dX1_findRoot_80 : decode cX1_findRoot 80 = .ok (.getfield 25, 3) := by decide +kernel
theorem dX1_findRoot_83 : decode cX1_findRoot 83 = .ok (.invokevirtual 114, 3) := by decide +kernel
theorem dX1_findRoot_86 : decode cX1_findRoot 86 = .ok (.ifCond .eq 15, 3) := by decide +kernel
theorem dX1_findRoot_89 : decode cX1_findRoot 89 = .ok (.aload_n 0, 1) := by decide +kernel
theorem dX1_findRoot_90 : decode cX1_findRoot 90 = .ok (.aload_n 0, 1) := by decide +kernel
theorem dX1_findRoot_91 : decode cX1_findRoot 91 = .ok (.getfield 25, 3) := by decide +kernel
theorem dX1_findRoot_94 : decode cX1_findRoot 94 = .ok (.aload_n 0, 1) := by decide +kernel
theorem dX1_findRoot_95 : decode cX1_findRoot 95 = .ok (.getfield 25, 3) := by decide +kernel
theorem dX1_findRoot_98 : decode cX1_findRoot 98 = .ok (.invokevirtual 117, 3) := by decide +kernel
theorem dX1_findRoot_101 : decode cX1_findRoot 101 = .ok (.aload_n 0, 1) := by decide +kernel
theorem dX1_findRoot_102 : decode cX1_findRoot 102 = .ok (.aload_n 0, 1) := by decide +kernel
theorem dX1_findRoot_103 : decode cX1_findRoot 103 = .ok (.getfield 25, 3) := by decide +kernel
theorem dX1_findRoot_106 : decode cX1_findRoot 106 = .ok (.aload_n 2, 1) := by decide +kernel
theorem dX1_findRoot_107 : decode cX1_findRoot 107 = .ok (.invokevirtual 81, 3) := by decide +kernel
theorem dX1_findRoot_110 : decode cX1_findRoot 110 = .ok (.iconst 1, 1) := by decide +kernel
theorem dX1_findRoot_111 : decode cX1_findRoot 111 = .ok (.ireturn, 1) := by decide +kernel
theorem dX2_init_0 : decode cX2_init 0 = .ok (.aload_n 0, 1) := by decide +kernel
theorem dX2_init_1 : decode cX2_init 1 = .ok (.invokespecial 1, 3) := by decide +kernel
theorem dX2_init_4 : decode cX2_init 4 = .ok (.aload_n 0, 1) := by decide +kernel
theorem dX2_init_5 : decode cX2_init 5 = .ok (.iconst 4, 1) := by decide +kernel
theorem dX2_init_6 : decode cX2_init 6 = .ok (.newarray .long, 2) := by decide +kernel
theorem dX2_init_8 : decode cX2_init 8 = .ok (.putfield 9, 3) := by decide +kernel
theorem dX2_init_11 : decode cX2_init 11 = .ok (.aload_n 0, 1) := by decide +kernel
theorem dX2_init_12 : decode cX2_init 12 = .ok (.bipush 10, 2) := by decide +kernel
theorem dX2_init_14 : decode cX2_init 14 = .ok (.newarray .long, 2) := by decide +kernel
theorem dX2_init_16 : decode cX2_init 16 = .ok (.putfield 17, 3) := by decide +kernel
theorem dX2_init_19 : decode cX2_init 19 = .ok (.aload_n 0, 1) := by decide +kernel
theorem dX2_init_20 : decode cX2_init 20 = .ok (.bipush 10, 2) := by decide +kernel
theorem dX2_init_22 : decode cX2_init 22 = .ok (.newarray .long, 2) := by decide +kernel
theorem dX2_init_24 : decode cX2_init 24 = .ok (.putfield 20, 3) := by decide +kernel
theorem dX2_init_27 : decode cX2_init 27 = .ok (.aload_n 0, 1) := by decide +kernel
theorem dX2_init_28 : decode cX2_init 28 = .ok (.bipush 10, 2) := by decide +kernel
theorem dX2_init_30 : decode cX2_init 30 = .ok (.newarray .long, 2) := by decide +kernel
theorem dX2_init_32 : decode cX2_init 32 = .ok (.putfield 23, 3) := by decide +kernel
theorem dX2_init_35 : decode cX2_init 35 = .ok (.aload_n 0, 1) := by decide +kernel
theorem dX2_init_36 : decode cX2_init 36 = .ok (.bipush 10, 2) := by decide +kernel
theorem dX2_init_38 : decode cX2_init 38 = .ok (.newarray .long, 2) := by decide +kernel
theorem dX2_init_40 : decode cX2_init 40 = .ok (.putfield 26, 3) := by decide +kernel
theorem dX2_init_43 : decode cX2_init 43 = .ok (.aload_n 0, 1) := by decide +kernel
theorem dX2_init_44 : decode cX2_init 44 = .ok (.bipush 10, 2) := by decide +kernel
theorem dX2_init_46 : decode cX2_init 46 = .ok (.newarray .long, 2) := by decide +kernel
theorem dX2_init_48 : decode cX2_init 48 = .ok (.putfield 29, 3) := by decide +kernel
theorem dX2_init_51 : decode cX2_init 51 = .ok (.aload_n 0, 1) := by decide +kernel
theorem dX2_init_52 : decode cX2_init 52 = .ok (.bipush 10, 2) := by decide +kernel
theorem dX2_init_54 : decode cX2_init 54 = .ok (.newarray .long, 2) := by decide +kernel
theorem dX2_init_56 : decode cX2_init 56 = .ok (.putfield 32, 3) := by decide +kernel
theorem dX2_init_59 : decode cX2_init 59 = .ok (.aload_n 0, 1) := by decide +kernel
theorem dX2_init_60 : decode cX2_init 60 = .ok (.bipush 10, 2) := by decide +kernel
theorem dX2_init_62 : decode cX2_init 62 = .ok (.newarray .long, 2) := by decide +kernel
theorem dX2_init_64 : decode cX2_init 64 = .ok (.putfield 35, 3) := by decide +kernel
theorem dX2_init_67 : decode cX2_init 67 = .ok (.aload_n 0, 1) := by decide +kernel
theorem dX2_init_68 : decode cX2_init 68 = .ok (.bipush 10, 2) := by decide +kernel
theorem dX2_init_70 : decode cX2_init 70 = .ok (.newarray .long, 2) := by decide +kernel
theorem dX2_init_72 : decode cX2_init 72 = .ok (.putfield 38, 3) := by decide +kernel
theorem dX2_init_75 : decode cX2_init 75 = .ok (.aload_n 0, 1) := by decide +kernel
theorem dX2_init_76 : decode cX2_init 76 = .ok (.bipush 10, 2) := by decide +kernel
theorem dX2_init_78 : decode cX2_init 78 = .ok (.newarray .long, 2) := by decide +kernel
theorem dX2_init_80 : decode cX2_init 80 = .ok (.putfield 41, 3) := by decide +kernel
theorem dX2_init_83 : decode cX2_init 83 = .ok (.aload_n 0, 1) := by decide +kernel
theorem dX2_init_84 : decode cX2_init 84 = .ok (.aload_n 1, 1) := by decide +kernel
theorem dX2_init_85 : decode cX2_init 85 = .ok (.putfield 44, 3) := by decide +kernel
theorem dX2_init_88 : decode cX2_init 88 = .ok (.return_, 1) := by decide +kernel
theorem dX2_climb_0 : decode cX2_climb 0 = .ok (.aload_n 1, 1) := by decide +kernel
theorem dX2_climb_1 : decode cX2_climb 1 = .ok (.aload_n 0, 1) := by decide +kernel
theorem dX2_climb_2 : decode cX2_climb 2 = .ok (.getfield 9, 3) := by decide +kernel
theorem dX2_climb_5 : decode cX2_climb 5 = .ok (.invokestatic 48, 3) := by decide +kernel
theorem dX2_climb_8 : decode cX2_climb 8 = .ok (.aload_n 0, 1) := by decide +kernel
theorem dX2_climb_9 : decode cX2_climb 9 = .ok (.getfield 9, 3) := by decide +kernel
theorem dX2_climb_12 : decode cX2_climb 12 = .ok (.invokestatic 52, 3) := by decide +kernel
theorem dX2_climb_15 : decode cX2_climb 15 = .ok (.aload_n 0, 1) := by decide +kernel
theorem dX2_climb_16 : decode cX2_climb 16 = .ok (.getfield 44, 3) := by decide +kernel
theorem dX2_climb_19 : decode cX2_climb 19 = .ok (.aload_n 0, 1) := by decide +kernel
theorem dX2_climb_20 : decode cX2_climb 20 = .ok (.getfield 17, 3) := by decide +kernel
theorem dX2_climb_23 : decode cX2_climb 23 = .ok (.lconst 1, 1) := by decide +kernel
theorem dX2_climb_24 : decode cX2_climb 24 = .ok (.invokevirtual 56, 3) := by decide +kernel
theorem dX2_climb_27 : decode cX2_climb 27 = .ok (.aload_n 0, 1) := by decide +kernel
theorem dX2_climb_28 : decode cX2_climb 28 = .ok (.getfield 44, 3) := by decide +kernel
theorem dX2_climb_31 : decode cX2_climb 31 = .ok (.aload_n 0, 1) := by decide +kernel
theorem dX2_climb_32 : decode cX2_climb 32 = .ok (.getfield 20, 3) := by decide +kernel
theorem dX2_climb_35 : decode cX2_climb 35 = .ok (.lconst 0, 1) := by decide +kernel
theorem dX2_climb_36 : decode cX2_climb 36 = .ok (.invokevirtual 56, 3) := by decide +kernel
theorem dX2_climb_39 : decode cX2_climb 39 = .ok (.aload_n 0, 1) := by decide +kernel
theorem dX2_climb_40 : decode cX2_climb 40 = .ok (.getfield 44, 3) := by decide +kernel
theorem dX2_climb_43 : decode cX2_climb 43 = .ok (.aload_n 2, 1) := by decide +kernel
theorem dX2_climb_44 : decode cX2_climb 44 = .ok (.aload_n 0, 1) := by decide +kernel
theorem dX2_climb_45 : decode cX2_climb 45 = .ok (.getfield 23, 3) := by decide +kernel
theorem dX2_climb_48 : decode cX2_climb 48 = .ok (.invokevirtual 60, 3) := by decide +kernel
theorem dX2_climb_51 : decode cX2_climb 51 = .ok (.aload_n 0, 1) := by decide +kernel
theorem dX2_climb_52 : decode cX2_climb 52 = .ok (.getfield 44, 3) := by decide +kernel
theorem dX2_climb_55 : decode cX2_climb 55 = .ok (.aload_n 0, 1) := by decide +kernel
theorem dX2_climb_56 : decode cX2_climb 56 = .ok (.getfield 26, 3) := by decide +kernel
theorem dX2_climb_59 : decode cX2_climb 59 = .ok (.lconst 1, 1) := by decide +kernel
theorem dX2_climb_60 : decode cX2_climb 60 = .ok (.invokevirtual 56, 3) := by decide +kernel
theorem dX2_climb_63 : decode cX2_climb 63 = .ok (.sipush 254, 3) := by decide +kernel
theorem dX2_climb_66 : decode cX2_climb 66 = .ok (.istore 4, 2) := by decide +kernel
theorem dX2_climb_68 : decode cX2_climb 68 = .ok (.iload 4, 2) := by decide +kernel
theorem dX2_climb_70 : decode cX2_climb 70 = .ok (.ifCond .lt 67, 3) := by decide +kernel
theorem dX2_climb_73 : decode cX2_climb 73 = .ok (.aload_n 0, 1) := by decide +kernel
theorem dX2_climb_74 : decode cX2_climb 74 = .ok (.getfield 9, 3) := by decide +kernel
theorem dX2_climb_77 : decode cX2_climb 77 = .ok (.iload 4, 2) := by decide +kernel
theorem dX2_climb_79 : decode cX2_climb 79 = .ok (.invokestatic 61, 3) := by decide +kernel
theorem dX2_climb_82 : decode cX2_climb 82 = .ok (.iconst 1, 1) := by decide +kernel
theorem dX2_climb_83 : decode cX2_climb 83 = .ok (.if_icmp .ne 27, 3) := by decide +kernel
theorem dX2_climb_86 : decode cX2_climb 86 = .ok (.aload_n 0, 1) := by decide +kernel
theorem dX2_climb_87 : decode cX2_climb 87 = .ok (.aload_n 0, 1) := by decide +kernel
theorem dX2_climb_88 : decode cX2_climb 88 = .ok (.getfield 23, 3) := by decide +kernel
theorem dX2_climb_91 : decode cX2_climb 91 = .ok (.aload_n 0, 1) := by decide +kernel
theorem dX2_climb_92 : decode cX2_climb 92 = .ok (.getfield 26, 3) := by decide +kernel
theorem dX2_climb_95 : decode cX2_climb 95 = .ok (.aload_n 0, 1) := by decide +kernel
theorem dX2_climb_96 : decode cX2_climb 96 = .ok (.getfield 17, 3) := by decide +kernel
theorem dX2_climb_99 : decode cX2_climb 99 = .ok (.aload_n 0, 1) := by decide +kernel
theorem dX2_climb_100 : decode cX2_climb 100 = .ok (.getfield 20, 3) := by decide +kernel
theorem dX2_climb_103 : decode cX2_climb 103 = .ok (.aload_n 2, 1) := by decide +kernel
theorem dX2_climb_104 : decode cX2_climb 104 = .ok (.invokevirtual 65, 3) := by decide +kernel
theorem dX2_climb_107 : decode cX2_climb 107 = .ok (.goto 24, 3) := by decide +kernel
theorem dX2_climb_110 : decode cX2_climb 110 = .ok (.aload_n 0, 1) := by decide +kernel
theorem dX2_climb_111 : decode cX2_climb 111 = .ok (.aload_n 0, 1) := by decide +kernel
theorem dX2_climb_112 : decode cX2_climb 112 = .ok (.getfield 17, 3) := by decide +kernel
theorem dX2_climb_115 : decode cX2_climb 115 = .ok (.aload_n 0, 1) := by decide +kernel
theorem dX2_climb_116 : decode cX2_climb 116 = .ok (.getfield 20, 3) := by decide +kernel
theorem dX2_climb_119 : decode cX2_climb 119 = .ok (.aload_n 0, 1) := by decide +kernel
theorem dX2_climb_120 : decode cX2_climb 120 = .ok (.getfield 23, 3) := by decide +kernel
theorem dX2_climb_123 : decode cX2_climb 123 = .ok (.aload_n 0, 1) := by decide +kernel
theorem dX2_climb_124 : decode cX2_climb 124 = .ok (.getfield 26, 3) := by decide +kernel
theorem dX2_climb_127 : decode cX2_climb 127 = .ok (.aload_n 2, 1) := by decide +kernel
theorem dX2_climb_128 : decode cX2_climb 128 = .ok (.invokevirtual 65, 3) := by decide +kernel
theorem dX2_climb_131 : decode cX2_climb 131 = .ok (.iinc 4 (-1), 3) := by decide +kernel
theorem dX2_climb_134 : decode cX2_climb 134 = .ok (.goto (-66), 3) := by decide +kernel
theorem dX2_climb_137 : decode cX2_climb 137 = .ok (.aload_n 0, 1) := by decide +kernel
theorem dX2_climb_138 : decode cX2_climb 138 = .ok (.getfield 44, 3) := by decide +kernel
theorem dX2_climb_141 : decode cX2_climb 141 = .ok (.aload_n 0, 1) := by decide +kernel
theorem dX2_climb_142 : decode cX2_climb 142 = .ok (.getfield 20, 3) := by decide +kernel
theorem dX2_climb_145 : decode cX2_climb 145 = .ok (.aload_n 0, 1) := by decide +kernel
theorem dX2_climb_146 : decode cX2_climb 146 = .ok (.getfield 20, 3) := by decide +kernel
theorem dX2_climb_149 : decode cX2_climb 149 = .ok (.invokevirtual 69, 3) := by decide +kernel
theorem dX2_climb_152 : decode cX2_climb 152 = .ok (.aload_n 0, 1) := by decide +kernel
theorem dX2_climb_153 : decode cX2_climb 153 = .ok (.getfield 44, 3) := by decide +kernel
theorem dX2_climb_156 : decode cX2_climb 156 = .ok (.aload_n 0, 1) := by decide +kernel
theorem dX2_climb_157 : decode cX2_climb 157 = .ok (.getfield 17, 3) := by decide +kernel
theorem dX2_climb_160 : decode cX2_climb 160 = .ok (.aload_n 0, 1) := by decide +kernel
theorem dX2_climb_161 : decode cX2_climb 161 = .ok (.getfield 20, 3) := by decide +kernel
theorem dX2_climb_164 : decode cX2_climb 164 = .ok (.aload_n 3, 1) := by decide +kernel
theorem dX2_climb_165 : decode cX2_climb 165 = .ok (.invokevirtual 72, 3) := by decide +kernel
theorem dX2_climb_168 : decode cX2_climb 168 = .ok (.return_, 1) := by decide +kernel
theorem dX2_step_0 : decode cX2_step 0 = .ok (.aload_n 0, 1) := by decide +kernel
theorem dX2_step_1 : decode cX2_step 1 = .ok (.getfield 44, 3) := by decide +kernel
theorem dX2_step_4 : decode cX2_step 4 = .ok (.aload_n 1, 1) := by decide +kernel
theorem dX2_step_5 : decode cX2_step 5 = .ok (.aload_n 2, 1) := by decide +kernel
theorem dX2_step_6 : decode cX2_step 6 = .ok (.aload_n 0, 1) := by decide +kernel
theorem dX2_step_7 : decode cX2_step 7 = .ok (.getfield 29, 3) := by decide +kernel
theorem dX2_step_10 : decode cX2_step 10 = .ok (.invokevirtual 76, 3) := by decide +kernel
theorem dX2_step_13 : decode cX2_step 13 = .ok (.aload_n 0, 1) := by decide +kernel
theorem dX2_step_14 : decode cX2_step 14 = .ok (.getfield 44, 3) := by decide +kernel
theorem dX2_step_17 : decode cX2_step 17 = .ok (.aload_n 1, 1) := by decide +kernel
theorem dX2_step_18 : decode cX2_step 18 = .ok (.aload_n 2, 1) := by decide +kernel
theorem dX2_step_19 : decode cX2_step 19 = .ok (.aload_n 0, 1) := by decide +kernel
theorem dX2_step_20 : decode cX2_step 20 = .ok (.getfield 32, 3) := by decide +kernel
theorem dX2_step_23 : decode cX2_step 23 = .ok (.invokevirtual 79, 3) := by decide +kernel
theorem dX2_step_26 : decode cX2_step 26 = .ok (.aload_n 0, 1) := by decide +kernel
theorem dX2_step_27 : decode cX2_step 27 = .ok (.getfield 44, 3) := by decide +kernel
theorem dX2_step_30 : decode cX2_step 30 = .ok (.aload_n 3, 1) := by decide +kernel
theorem dX2_step_31 : decode cX2_step 31 = .ok (.aload 4, 2) := by decide +kernel
theorem dX2_step_33 : decode cX2_step 33 = .ok (.aload_n 0, 1) := by decide +kernel
theorem dX2_step_34 : decode cX2_step 34 = .ok (.getfield 35, 3) := by decide +kernel
theorem dX2_step_37 : decode cX2_step 37 = .ok (.invokevirtual 76, 3) := by decide +kernel
theorem dX2_step_40 : decode cX2_step 40 = .ok (.aload_n 0, 1) := by decide +kernel
theorem dX2_step_41 : decode cX2_step 41 = .ok (.getfield 44, 3) := by decide +kernel
theorem dX2_step_44 : decode cX2_step 44 = .ok (.aload_n 3, 1) := by decide +kernel
theorem dX2_step_45 : decode cX2_step 45 = .ok (.aload 4, 2) := by decide +kernel
theorem dX2_step_47 : decode cX2_step 47 = .ok (.aload_n 0, 1) := by decide +kernel
theorem dX2_step_48 : decode cX2_step 48 = .ok (.getfield 38, 3) := by decide +kernel
theorem dX2_step_51 : decode cX2_step 51 = .ok (.invokevirtual 79, 3) := by decide +kernel
theorem dX2_step_54 : decode cX2_step 54 = .ok (.aload_n 0, 1) := by decide +kernel
theorem dX2_step_55 : decode cX2_step 55 = .ok (.getfield 44, 3) := by decide +kernel
theorem dX2_step_58 : decode cX2_step 58 = .ok (.aload_n 0, 1) := by decide +kernel
theorem dX2_step_59 : decode cX2_step 59 = .ok (.getfield 38, 3) := by decide +kernel
theorem dX2_step_62 : decode cX2_step 62 = .ok (.aload_n 0, 1) := by decide +kernel
theorem dX2_step_63 : decode cX2_step 63 = .ok (.getfield 29, 3) := by decide +kernel
theorem dX2_step_66 : decode cX2_step 66 = .ok (.aload_n 0, 1) := by decide +kernel
theorem dX2_step_67 : decode cX2_step 67 = .ok (.getfield 38, 3) := by decide +kernel
theorem dX2_step_70 : decode cX2_step 70 = .ok (.invokevirtual 72, 3) := by decide +kernel
theorem dX2_step_73 : decode cX2_step 73 = .ok (.aload_n 0, 1) := by decide +kernel
theorem dX2_step_74 : decode cX2_step 74 = .ok (.getfield 44, 3) := by decide +kernel
theorem dX2_step_77 : decode cX2_step 77 = .ok (.aload_n 0, 1) := by decide +kernel
theorem dX2_step_78 : decode cX2_step 78 = .ok (.getfield 35, 3) := by decide +kernel
theorem dX2_step_81 : decode cX2_step 81 = .ok (.aload_n 0, 1) := by decide +kernel
theorem dX2_step_82 : decode cX2_step 82 = .ok (.getfield 32, 3) := by decide +kernel
theorem dX2_step_85 : decode cX2_step 85 = .ok (.aload_n 0, 1) := by decide +kernel
theorem dX2_step_86 : decode cX2_step 86 = .ok (.getfield 35, 3) := by decide +kernel
theorem dX2_step_89 : decode cX2_step 89 = .ok (.invokevirtual 72, 3) := by decide +kernel
theorem dX2_step_92 : decode cX2_step 92 = .ok (.aload_n 0, 1) := by decide +kernel
theorem dX2_step_93 : decode cX2_step 93 = .ok (.getfield 44, 3) := by decide +kernel
theorem dX2_step_96 : decode cX2_step 96 = .ok (.aload_n 0, 1) := by decide +kernel
theorem dX2_step_97 : decode cX2_step 97 = .ok (.getfield 38, 3) := by decide +kernel
theorem dX2_step_100 : decode cX2_step 100 = .ok (.aload_n 0, 1) := by decide +kernel
theorem dX2_step_101 : decode cX2_step 101 = .ok (.getfield 35, 3) := by decide +kernel
theorem dX2_step_104 : decode cX2_step 104 = .ok (.aload_n 3, 1) := by decide +kernel
theorem dX2_step_105 : decode cX2_step 105 = .ok (.invokevirtual 76, 3) := by decide +kernel
theorem dX2_step_108 : decode cX2_step 108 = .ok (.aload_n 0, 1) := by decide +kernel
theorem dX2_step_109 : decode cX2_step 109 = .ok (.getfield 44, 3) := by decide +kernel
theorem dX2_step_112 : decode cX2_step 112 = .ok (.aload_n 3, 1) := by decide +kernel
theorem dX2_step_113 : decode cX2_step 113 = .ok (.aload_n 3, 1) := by decide +kernel
theorem dX2_step_114 : decode cX2_step 114 = .ok (.invokevirtual 82, 3) := by decide +kernel
theorem dX2_step_117 : decode cX2_step 117 = .ok (.aload_n 0, 1) := by decide +kernel
theorem dX2_step_118 : decode cX2_step 118 = .ok (.getfield 44, 3) := by decide +kernel
theorem dX2_step_121 : decode cX2_step 121 = .ok (.aload_n 0, 1) := by decide +kernel
theorem dX2_step_122 : decode cX2_step 122 = .ok (.getfield 38, 3) := by decide +kernel
theorem dX2_step_125 : decode cX2_step 125 = .ok (.aload_n 0, 1) := by decide +kernel
theorem dX2_step_126 : decode cX2_step 126 = .ok (.getfield 35, 3) := by decide +kernel
theorem dX2_step_129 : decode cX2_step 129 = .ok (.aload 4, 2) := by decide +kernel
theorem dX2_step_131 : decode cX2_step 131 = .ok (.invokevirtual 79, 3) := by decide +kernel
theorem dX2_step_134 : decode cX2_step 134 = .ok (.aload_n 0, 1) := by decide +kernel
theorem dX2_step_135 : decode cX2_step 135 = .ok (.getfield 44, 3) := by decide +kernel
theorem dX2_step_138 : decode cX2_step 138 = .ok (.aload 4, 2) := by decide +kernel
theorem dX2_step_140 : decode cX2_step 140 = .ok (.aload 4, 2) := by decide +kernel
theorem dX2_step_142 : decode cX2_step 142 = .ok (.invokevirtual 82, 3) := by decide +kernel
theorem dX2_step_145 : decode cX2_step 145 = .ok (.aload_n 0, 1) := by decide +kernel
theorem dX2_step_146 : decode cX2_step 146 = .ok (.getfield 44, 3) := by decide +kernel
theorem dX2_step_149 : decode cX2_step 149 = .ok (.aload 4, 2) := by decide +kernel
theorem dX2_step_151 : decode cX2_step 151 = .ok (.aload 5, 2) := by decide +kernel
theorem dX2_step_153 : decode cX2_step 153 = .ok (.aload 4, 2) := by decide +kernel
theorem dX2_step_155 : decode cX2_step 155 = .ok (.invokevirtual 72, 3) := by decide +kernel
theorem dX2_step_158 : decode cX2_step 158 = .ok (.aload_n 0, 1) := by decide +kernel
theorem dX2_step_159 : decode cX2_step 159 = .ok (.getfield 44, 3) := by decide +kernel
theorem dX2_step_162 : decode cX2_step 162 = .ok (.aload_n 0, 1) := by decide +kernel
theorem dX2_step_163 : decode cX2_step 163 = .ok (.getfield 29, 3) := by decide +kernel
theorem dX2_step_166 : decode cX2_step 166 = .ok (.aload_n 0, 1) := by decide +kernel
theorem dX2_step_167 : decode cX2_step 167 = .ok (.getfield 29, 3) := by decide +kernel
theorem dX2_step_170 : decode cX2_step 170 = .ok (.invokevirtual 82, 3) := by decide +kernel
theorem dX2_step_173 : decode cX2_step 173 = .ok (.aload_n 0, 1) := by decide +kernel
theorem dX2_step_174 : decode cX2_step 174 = .ok (.getfield 44, 3) := by decide +kernel
theorem dX2_step_177 : decode cX2_step 177 = .ok (.aload_n 0, 1) := by decide +kernel
theorem dX2_step_178 : decode cX2_step 178 = .ok (.getfield 32, 3) := by decide +kernel
theorem dX2_step_181 : decode cX2_step 181 = .ok (.aload_n 0, 1) := by decide +kernel
theorem dX2_step_182 : decode cX2_step 182 = .ok (.getfield 32, 3) := by decide +kernel
theorem dX2_step_185 : decode cX2_step 185 = .ok (.invokevirtual 82, 3) := by decide +kernel
theorem dX2_step_188 : decode cX2_step 188 = .ok (.aload_n 0, 1) := by decide +kernel
theorem dX2_step_189 : decode cX2_step 189 = .ok (.getfield 44, 3) := by decide +kernel
theorem dX2_step_192 : decode cX2_step 192 = .ok (.aload_n 0, 1) := by decide +kernel
theorem dX2_step_193 : decode cX2_step 193 = .ok (.getfield 29, 3) := by decide +kernel
theorem dX2_step_196 : decode cX2_step 196 = .ok (.aload_n 0, 1) := by decide +kernel
theorem dX2_step_197 : decode cX2_step 197 = .ok (.getfield 32, 3) := by decide +kernel
theorem dX2_step_200 : decode cX2_step 200 = .ok (.aload_n 0, 1) := by decide +kernel
theorem dX2_step_201 : decode cX2_step 201 = .ok (.getfield 41, 3) := by decide +kernel
theorem dX2_step_204 : decode cX2_step 204 = .ok (.invokevirtual 79, 3) := by decide +kernel
theorem dX2_step_207 : decode cX2_step 207 = .ok (.aload_n 0, 1) := by decide +kernel
theorem dX2_step_208 : decode cX2_step 208 = .ok (.getfield 44, 3) := by decide +kernel
theorem dX2_step_211 : decode cX2_step 211 = .ok (.aload_n 0, 1) := by decide +kernel
theorem dX2_step_212 : decode cX2_step 212 = .ok (.getfield 29, 3) := by decide +kernel
theorem dX2_step_215 : decode cX2_step 215 = .ok (.aload_n 0, 1) := by decide +kernel
theorem dX2_step_216 : decode cX2_step 216 = .ok (.getfield 32, 3) := by decide +kernel
theorem dX2_step_219 : decode cX2_step 219 = .ok (.aload_n 1, 1) := by decide +kernel
theorem dX2_step_220 : decode cX2_step 220 = .ok (.invokevirtual 72, 3) := by decide +kernel
theorem dX2_step_223 : decode cX2_step 223 = .ok (.aload_n 0, 1) := by decide +kernel
theorem dX2_step_224 : decode cX2_step 224 = .ok (.getfield 44, 3) := by decide +kernel
theorem dX2_step_227 : decode cX2_step 227 = .ok (.aload_n 0, 1) := by decide +kernel
theorem dX2_step_228 : decode cX2_step 228 = .ok (.getfield 41, 3) := by decide +kernel
theorem dX2_step_231 : decode cX2_step 231 = .ok (.ldc2_w 85, 3) := by decide +kernel
theorem dX2_step_234 : decode cX2_step 234 = .ok (.aload_n 0, 1) := by decide +kernel
theorem dX2_step_235 : decode cX2_step 235 = .ok (.getfield 32, 3) := by decide +kernel
theorem dX2_step_238 : decode cX2_step 238 = .ok (.invokevirtual 87, 3) := by decide +kernel
theorem dX2_step_241 : decode cX2_step 241 = .ok (.aload_n 0, 1) := by decide +kernel
theorem dX2_step_242 : decode cX2_step 242 = .ok (.getfield 44, 3) := by decide +kernel
theorem dX2_step_245 : decode cX2_step 245 = .ok (.aload_n 0, 1) := by decide +kernel
theorem dX2_step_246 : decode cX2_step 246 = .ok (.getfield 29, 3) := by decide +kernel
theorem dX2_step_249 : decode cX2_step 249 = .ok (.aload_n 0, 1) := by decide +kernel
theorem dX2_step_250 : decode cX2_step 250 = .ok (.getfield 32, 3) := by decide +kernel
theorem dX2_step_253 : decode cX2_step 253 = .ok (.aload_n 0, 1) := by decide +kernel
theorem dX2_step_254 : decode cX2_step 254 = .ok (.getfield 32, 3) := by decide +kernel
theorem dX2_step_257 : decode cX2_step 257 = .ok (.invokevirtual 76, 3) := by decide +kernel
theorem dX2_step_260 : decode cX2_step 260 = .ok (.aload_n 0, 1) := by decide +kernel
theorem dX2_step_261 : decode cX2_step 261 = .ok (.getfield 44, 3) := by decide +kernel
theorem dX2_step_264 : decode cX2_step 264 = .ok (.aload_n 0, 1) := by decide +kernel
theorem dX2_step_265 : decode cX2_step 265 = .ok (.getfield 41, 3) := by decide +kernel
theorem dX2_step_268 : decode cX2_step 268 = .ok (.aload_n 0, 1) := by decide +kernel
theorem dX2_step_269 : decode cX2_step 269 = .ok (.getfield 32, 3) := by decide +kernel
theorem dX2_step_272 : decode cX2_step 272 = .ok (.aload_n 2, 1) := by decide +kernel
theorem dX2_step_273 : decode cX2_step 273 = .ok (.invokevirtual 72, 3) := by decide +kernel
theorem dX2_step_276 : decode cX2_step 276 = .ok (.return_, 1) := by decide +kernel
theorem dX3_init_0 : decode cX3_init 0 = .ok (.aload_n 0, 1) := by decide +kernel
theorem dX3_init_1 : decode cX3_init 1 = .ok (.invokespecial 1, 3) := by decide +kernel
theorem dX3_init_4 : decode cX3_init 4 = .ok (.aload_n 0, 1) := by decide +kernel
theorem dX3_init_5 : decode cX3_init 5 = .ok (.bipush 10, 2) := by decide +kernel
theorem dX3_init_7 : decode cX3_init 7 = .ok (.newarray .long, 2) := by decide +kernel
theorem dX3_init_9 : decode cX3_init 9 = .ok (.putfield 9, 3) := by decide +kernel
theorem dX3_init_12 : decode cX3_init 12 = .ok (.aload_n 0, 1) := by decide +kernel
theorem dX3_init_13 : decode cX3_init 13 = .ok (.bipush 10, 2) := by decide +kernel
theorem dX3_init_15 : decode cX3_init 15 = .ok (.newarray .long, 2) := by decide +kernel
theorem dX3_init_17 : decode cX3_init 17 = .ok (.putfield 15, 3) := by decide +kernel
theorem dX3_init_20 : decode cX3_init 20 = .ok (.aload_n 0, 1) := by decide +kernel
theorem dX3_init_21 : decode cX3_init 21 = .ok (.bipush 10, 2) := by decide +kernel
theorem dX3_init_23 : decode cX3_init 23 = .ok (.newarray .long, 2) := by decide +kernel
theorem dX3_init_25 : decode cX3_init 25 = .ok (.putfield 18, 3) := by decide +kernel
theorem dX3_init_28 : decode cX3_init 28 = .ok (.aload_n 0, 1) := by decide +kernel
theorem dX3_init_29 : decode cX3_init 29 = .ok (.bipush 10, 2) := by decide +kernel
theorem dX3_init_31 : decode cX3_init 31 = .ok (.newarray .long, 2) := by decide +kernel
theorem dX3_init_33 : decode cX3_init 33 = .ok (.putfield 21, 3) := by decide +kernel
theorem dX3_init_36 : decode cX3_init 36 = .ok (.return_, 1) := by decide +kernel
theorem dX4_init_0 : decode cX4_init 0 = .ok (.aload_n 0, 1) := by decide +kernel
theorem dX4_init_1 : decode cX4_init 1 = .ok (.invokespecial 1, 3) := by decide +kernel
theorem dX4_init_4 : decode cX4_init 4 = .ok (.aload_n 0, 1) := by decide +kernel
theorem dX4_init_5 : decode cX4_init 5 = .ok (.iconst 4, 1) := by decide +kernel
theorem dX4_init_6 : decode cX4_init 6 = .ok (.newarray .long, 2) := by decide +kernel
theorem dX4_init_8 : decode cX4_init 8 = .ok (.putfield 9, 3) := by decide +kernel
theorem dX4_init_11 : decode cX4_init 11 = .ok (.aload_n 0, 1) := by decide +kernel
theorem dX4_init_12 : decode cX4_init 12 = .ok (.iconst 4, 1) := by decide +kernel
theorem dX4_init_13 : decode cX4_init 13 = .ok (.newarray .long, 2) := by decide +kernel
theorem dX4_init_15 : decode cX4_init 15 = .ok (.putfield 15, 3) := by decide +kernel
theorem dX4_init_18 : decode cX4_init 18 = .ok (.aload_n 0, 1) := by decide +kernel
theorem dX4_init_19 : decode cX4_init 19 = .ok (.iconst 4, 1) := by decide +kernel
theorem dX4_init_20 : decode cX4_init 20 = .ok (.newarray .long, 2) := by decide +kernel
theorem dX4_init_22 : decode cX4_init 22 = .ok (.putfield 18, 3) := by decide +kernel
theorem dX4_init_25 : decode cX4_init 25 = .ok (.return_, 1) := by decide +kernel
theorem dX4_isBelowOrder_0 : decode cX4_isBelowOrder 0 = .ok (.aload_n 0, 1) := by decide +kernel
theorem dX4_isBelowOrder_1 : decode cX4_isBelowOrder 1 = .ok (.getstatic 21, 3) := by decide +kernel
theorem dX4_isBelowOrder_4 : decode cX4_isBelowOrder 4 = .ok (.invokestatic 24, 3) := by decide +kernel
theorem dX4_isBelowOrder_7 : decode cX4_isBelowOrder 7 = .ok (.ifCond .ge 7, 3) := by decide +kernel
theorem dX4_isBelowOrder_10 : decode cX4_isBelowOrder 10 = .ok (.iconst 1, 1) := by decide +kernel
theorem dX4_isBelowOrder_11 : decode cX4_isBelowOrder 11 = .ok (.goto 4, 3) := by decide +kernel
theorem dX4_isBelowOrder_14 : decode cX4_isBelowOrder 14 = .ok (.iconst 0, 1) := by decide +kernel
theorem dX4_isBelowOrder_15 : decode cX4_isBelowOrder 15 = .ok (.ireturn, 1) := by decide +kernel
theorem dX4_increase_0 : decode cX4_increase 0 = .ok (.aload_n 0, 1) := by decide +kernel
theorem dX4_increase_1 : decode cX4_increase 1 = .ok (.aload_n 1, 1) := by decide +kernel
theorem dX4_increase_2 : decode cX4_increase 2 = .ok (.invokestatic 28, 3) := by decide +kernel
theorem dX4_increase_5 : decode cX4_increase 5 = .ok (.aload_n 0, 1) := by decide +kernel
theorem dX4_increase_6 : decode cX4_increase 6 = .ok (.getstatic 21, 3) := by decide +kernel
theorem dX4_increase_9 : decode cX4_increase 9 = .ok (.invokestatic 24, 3) := by decide +kernel
theorem dX4_increase_12 : decode cX4_increase 12 = .ok (.ifCond .lt 10, 3) := by decide +kernel
theorem dX4_increase_15 : decode cX4_increase 15 = .ok (.aload_n 0, 1) := by decide +kernel
theorem dX4_increase_16 : decode cX4_increase 16 = .ok (.getstatic 21, 3) := by decide +kernel
theorem dX4_increase_19 : decode cX4_increase 19 = .ok (.invokestatic 32, 3) := by decide +kernel
theorem dX4_increase_22 : decode cX4_increase 22 = .ok (.return_, 1) := by decide +kernel
theorem dX4_reduce_0 : decode cX4_reduce 0 = .ok (.aload_n 2, 1) := by decide +kernel
theorem dX4_reduce_1 : decode cX4_reduce 1 = .ok (.lconst 0, 1) := by decide +kernel
theorem dX4_reduce_2 : decode cX4_reduce 2 = .ok (.invokestatic 35, 3) := by decide +kernel
theorem dX4_reduce_5 : decode cX4_reduce 5 = .ok (.iload_n 1, 1) := by decide +kernel
theorem dX4_reduce_6 : decode cX4_reduce 6 = .ok (.iconst 1, 1) := by decide +kernel
theorem dX4_reduce_7 : decode cX4_reduce 7 = .ok (.isub, 1) := by decide +kernel
theorem dX4_reduce_8 : decode cX4_reduce 8 = .ok (.istore_n 3, 1) := by decide +kernel
theorem dX4_reduce_9 : decode cX4_reduce 9 = .ok (.iload_n 3, 1) := by decide +kernel
theorem dX4_reduce_10 : decode cX4_reduce 10 = .ok (.ifCond .lt 30, 3) := by decide +kernel
theorem dX4_reduce_13 : decode cX4_reduce 13 = .ok (.aload_n 2, 1) := by decide +kernel
theorem dX4_reduce_14 : decode cX4_reduce 14 = .ok (.aload_n 2, 1) := by decide +kernel
theorem dX4_reduce_15 : decode cX4_reduce 15 = .ok (.invokestatic 41, 3) := by decide +kernel
theorem dX4_reduce_18 : decode cX4_reduce 18 = .ok (.aload_n 0, 1) := by decide +kernel
theorem dX4_reduce_19 : decode cX4_reduce 19 = .ok (.iload_n 3, 1) := by decide +kernel
theorem dX4_reduce_20 : decode cX4_reduce 20 = .ok (.invokestatic 42, 3) := by decide +kernel
theorem dX4_reduce_23 : decode cX4_reduce 23 = .ok (.iconst 1, 1) := by decide +kernel
theorem dX4_reduce_24 : decode cX4_reduce 24 = .ok (.if_icmp .ne 10, 3) := by decide +kernel
theorem dX4_reduce_27 : decode cX4_reduce 27 = .ok (.aload_n 2, 1) := by decide +kernel
theorem dX4_reduce_28 : decode cX4_reduce 28 = .ok (.getstatic 46, 3) := by decide +kernel
theorem dX4_reduce_31 : decode cX4_reduce 31 = .ok (.invokestatic 41, 3) := by decide +kernel
theorem dX4_reduce_34 : decode cX4_reduce 34 = .ok (.iinc 3 (-1), 3) := by decide +kernel
theorem dX4_reduce_37 : decode cX4_reduce 37 = .ok (.goto (-28), 3) := by decide +kernel
theorem dX4_reduce_40 : decode cX4_reduce 40 = .ok (.return_, 1) := by decide +kernel
theorem dX4_multiplyAndAdd_0 : decode cX4_multiplyAndAdd 0 = .ok (.aload_n 1, 1) := by decide +kernel
theorem dX4_multiplyAndAdd_1 : decode cX4_multiplyAndAdd 1 = .ok (.sipush 256, 3) := by decide +kernel
theorem dX4_multiplyAndAdd_4 : decode cX4_multiplyAndAdd 4 = .ok (.aload_n 0, 1) := by decide +kernel
theorem dX4_multiplyAndAdd_5 : decode cX4_multiplyAndAdd 5 = .ok (.getfield 9, 3) := by decide +kernel
theorem dX4_multiplyAndAdd_8 : decode cX4_multiplyAndAdd 8 = .ok (.invokestatic 49, 3) := by decide +kernel
theorem dX4_multiplyAndAdd_11 : decode cX4_multiplyAndAdd 11 = .ok (.aload_n 3, 1) := by decide +kernel
theorem dX4_multiplyAndAdd_12 : decode cX4_multiplyAndAdd 12 = .ok (.sipush 256, 3) := by decide +kernel
theorem dX4_multiplyAndAdd_15 : decode cX4_multiplyAndAdd 15 = .ok (.aload_n 0, 1) := by decide +kernel
theorem dX4_multiplyAndAdd_16 : decode cX4_multiplyAndAdd 16 = .ok (.getfield 18, 3) := by decide +kernel
theorem dX4_multiplyAndAdd_19 : decode cX4_multiplyAndAdd 19 = .ok (.invokestatic 49, 3) := by decide +kernel
theorem dX4_multiplyAndAdd_22 : decode cX4_multiplyAndAdd 22 = .ok (.aload_n 0, 1) := by decide +kernel
theorem dX4_multiplyAndAdd_23 : decode cX4_multiplyAndAdd 23 = .ok (.getfield 15, 3) := by decide +kernel
theorem dX4_multiplyAndAdd_26 : decode cX4_multiplyAndAdd 26 = .ok (.lconst 0, 1) := by decide +kernel
theorem dX4_multiplyAndAdd_27 : decode cX4_multiplyAndAdd 27 = .ok (.invokestatic 35, 3) := by decide +kernel
theorem dX4_multiplyAndAdd_30 : decode cX4_multiplyAndAdd 30 = .ok (.sipush 255, 3) := by decide +kernel
theorem dX4_multiplyAndAdd_33 : decode cX4_multiplyAndAdd 33 = .ok (.istore 5, 2) := by decide +kernel
theorem dX4_multiplyAndAdd_35 : decode cX4_multiplyAndAdd 35 = .ok (.iload 5, 2) := by decide +kernel
theorem dX4_multiplyAndAdd_37 : decode cX4_multiplyAndAdd 37 = .ok (.ifCond .lt 41, 3) := by decide +kernel
theorem dX4_multiplyAndAdd_40 : decode cX4_multiplyAndAdd 40 = .ok (.aload_n 0, 1) := by decide +kernel
theorem dX4_multiplyAndAdd_41 : decode cX4_multiplyAndAdd 41 = .ok (.getfield 15, 3) := by decide +kernel
theorem dX4_multiplyAndAdd_44 : decode cX4_multiplyAndAdd 44 = .ok (.aload_n 0, 1) := by decide +kernel
theorem dX4_multiplyAndAdd_45 : decode cX4_multiplyAndAdd 45 = .ok (.getfield 15, 3) := by decide +kernel
theorem dX4_multiplyAndAdd_48 : decode cX4_multiplyAndAdd 48 = .ok (.invokestatic 41, 3) := by decide +kernel
theorem dX4_multiplyAndAdd_51 : decode cX4_multiplyAndAdd 51 = .ok (.aload_n 2, 1) := by decide +kernel
theorem dX4_multiplyAndAdd_52 : decode cX4_multiplyAndAdd 52 = .ok (.iload 5, 2) := by decide +kernel
theorem dX4_multiplyAndAdd_54 : decode cX4_multiplyAndAdd 54 = .ok (.invokestatic 42, 3) := by decide +kernel
theorem dX4_multiplyAndAdd_57 : decode cX4_multiplyAndAdd 57 = .ok (.iconst 1, 1) := by decide +kernel
theorem dX4_multiplyAndAdd_58 : decode cX4_multiplyAndAdd 58 = .ok (.if_icmp .ne 14, 3) := by decide +kernel
theorem dX4_multiplyAndAdd_61 : decode cX4_multiplyAndAdd 61 = .ok (.aload_n 0, 1) := by decide +kernel
theorem dX4_multiplyAndAdd_62 : decode cX4_multiplyAndAdd 62 = .ok (.getfield 15, 3) := by decide +kernel
theorem dX4_multiplyAndAdd_65 : decode cX4_multiplyAndAdd 65 = .ok (.aload_n 0, 1) := by decide +kernel
theorem dX4_multiplyAndAdd_66 : decode cX4_multiplyAndAdd 66 = .ok (.getfield 9, 3) := by decide +kernel
theorem dX4_multiplyAndAdd_69 : decode cX4_multiplyAndAdd 69 = .ok (.invokestatic 41, 3) := by decide +kernel
theorem dX4_multiplyAndAdd_72 : decode cX4_multiplyAndAdd 72 = .ok (.iinc 5 (-1), 3) := by decide +kernel
theorem dX4_multiplyAndAdd_75 : decode cX4_multiplyAndAdd 75 = .ok (.goto (-40), 3) := by decide +kernel
theorem dX4_multiplyAndAdd_78 : decode cX4_multiplyAndAdd 78 = .ok (.aload_n 0, 1) := by decide +kernel
theorem dX4_multiplyAndAdd_79 : decode cX4_multiplyAndAdd 79 = .ok (.getfield 15, 3) := by decide +kernel
theorem dX4_multiplyAndAdd_82 : decode cX4_multiplyAndAdd 82 = .ok (.aload_n 0, 1) := by decide +kernel
theorem dX4_multiplyAndAdd_83 : decode cX4_multiplyAndAdd 83 = .ok (.getfield 18, 3) := by decide +kernel
theorem dX4_multiplyAndAdd_86 : decode cX4_multiplyAndAdd 86 = .ok (.invokestatic 41, 3) := by decide +kernel
theorem dX4_multiplyAndAdd_89 : decode cX4_multiplyAndAdd 89 = .ok (.aload_n 0, 1) := by decide +kernel
theorem dX4_multiplyAndAdd_90 : decode cX4_multiplyAndAdd 90 = .ok (.getfield 15, 3) := by decide +kernel
theorem dX4_multiplyAndAdd_93 : decode cX4_multiplyAndAdd 93 = .ok (.aload 4, 2) := by decide +kernel
theorem dX4_multiplyAndAdd_95 : decode cX4_multiplyAndAdd 95 = .ok (.invokestatic 53, 3) := by decide +kernel
theorem dX4_multiplyAndAdd_98 : decode cX4_multiplyAndAdd 98 = .ok (.return_, 1) := by decide +kernel
theorem dX5_init_0 : decode cX5_init 0 = .ok (.aload_n 0, 1) := by decide +kernel
theorem dX5_init_1 : decode cX5_init 1 = .ok (.invokespecial 5, 3) := by decide +kernel
theorem dX5_init_4 : decode cX5_init 4 = .ok (.aload_n 0, 1) := by decide +kernel
theorem dX5_init_5 : decode cX5_init 5 = .ok (.sipush 512, 3) := by decide +kernel
theorem dX5_init_8 : decode cX5_init 8 = .ok (.newarray .byte, 2) := by decide +kernel
theorem dX5_init_10 : decode cX5_init 10 = .ok (.putfield 11, 3) := by decide +kernel
theorem dX5_init_13 : decode cX5_init 13 = .ok (.aload_n 0, 1) := by decide +kernel
theorem dX5_init_14 : decode cX5_init 14 = .ok (.iconst 0, 1) := by decide +kernel
theorem dX5_init_15 : decode cX5_init 15 = .ok (.putfield 15, 3) := by decide +kernel
theorem dX5_init_18 : decode cX5_init 18 = .ok (.aload_n 0, 1) := by decide +kernel
theorem dX5_init_19 : decode cX5_init 19 = .ok (.bipush 80, 2) := by decide +kernel
theorem dX5_init_21 : decode cX5_init 21 = .ok (.newarray .long, 2) := by decide +kernel
theorem dX5_init_23 : decode cX5_init 23 = .ok (.putfield 19, 3) := by decide +kernel
theorem dX5_init_26 : decode cX5_init 26 = .ok (.aload_n 0, 1) := by decide +kernel
theorem dX5_init_27 : decode cX5_init 27 = .ok (.bipush 8, 2) := by decide +kernel
theorem dX5_init_29 : decode cX5_init 29 = .ok (.newarray .long, 2) := by decide +kernel
theorem dX5_init_31 : decode cX5_init 31 = .ok (.putfield 23, 3) := by decide +kernel
theorem dX5_init_34 : decode cX5_init 34 = .ok (.return_, 1) := by decide +kernel
theorem dX5_begin_0 : decode cX5_begin 0 = .ok (.aload_n 0, 1) := by decide +kernel
theorem dX5_begin_1 : decode cX5_begin 1 = .ok (.iconst 0, 1) := by decide +kernel
theorem dX5_begin_2 : decode cX5_begin 2 = .ok (.putfield 15, 3) := by decide +kernel
theorem dX5_begin_5 : decode cX5_begin 5 = .ok (.return_, 1) := by decide +kernel
theorem dX5_takeByte_0 : decode cX5_takeByte 0 = .ok (.aload_n 0, 1) := by decide +kernel
theorem dX5_takeByte_1 : decode cX5_takeByte 1 = .ok (.getfield 15, 3) := by decide +kernel
theorem dX5_takeByte_4 : decode cX5_takeByte 4 = .ok (.sipush 464, 3) := by decide +kernel
theorem dX5_takeByte_7 : decode cX5_takeByte 7 = .ok (.if_icmp .ge 24, 3) := by decide +kernel
theorem dX5_takeByte_10 : decode cX5_takeByte 10 = .ok (.aload_n 0, 1) := by decide +kernel
theorem dX5_takeByte_11 : decode cX5_takeByte 11 = .ok (.getfield 11, 3) := by decide +kernel
theorem dX5_takeByte_14 : decode cX5_takeByte 14 = .ok (.aload_n 0, 1) := by decide +kernel
theorem dX5_takeByte_15 : decode cX5_takeByte 15 = .ok (.getfield 15, 3) := by decide +kernel
theorem dX5_takeByte_18 : decode cX5_takeByte 18 = .ok (.iload_n 1, 1) := by decide +kernel
theorem dX5_takeByte_19 : decode cX5_takeByte 19 = .ok (.i2b, 1) := by decide +kernel
theorem dX5_takeByte_20 : decode cX5_takeByte 20 = .ok (.bastore, 1) := by decide +kernel
theorem dX5_takeByte_21 : decode cX5_takeByte 21 = .ok (.aload_n 0, 1) := by decide +kernel
theorem dX5_takeByte_22 : decode cX5_takeByte 22 = .ok (.dup, 1) := by decide +kernel
theorem dX5_takeByte_23 : decode cX5_takeByte 23 = .ok (.getfield 15, 3) := by decide +kernel
theorem dX5_takeByte_26 : decode cX5_takeByte 26 = .ok (.iconst 1, 1) := by decide +kernel
theorem dX5_takeByte_27 : decode cX5_takeByte 27 = .ok (.iadd, 1) := by decide +kernel
theorem dX5_takeByte_28 : decode cX5_takeByte 28 = .ok (.putfield 15, 3) := by decide +kernel
theorem dX5_takeByte_31 : decode cX5_takeByte 31 = .ok (.return_, 1) := by decide +kernel
theorem dX5_takeRow_0 : decode cX5_takeRow 0 = .ok (.iconst 0, 1) := by decide +kernel
theorem dX5_takeRow_1 : decode cX5_takeRow 1 = .ok (.istore_n 2, 1) := by decide +kernel
theorem dX5_takeRow_2 : decode cX5_takeRow 2 = .ok (.iload_n 2, 1) := by decide +kernel
theorem dX5_takeRow_3 : decode cX5_takeRow 3 = .ok (.bipush 32, 2) := by decide +kernel
theorem dX5_takeRow_5 : decode cX5_takeRow 5 = .ok (.if_icmp .ge 27, 3) := by decide +kernel
theorem dX5_takeRow_8 : decode cX5_takeRow 8 = .ok (.aload_n 0, 1) := by decide +kernel
theorem dX5_takeRow_9 : decode cX5_takeRow 9 = .ok (.aload_n 1, 1) := by decide +kernel
theorem dX5_takeRow_10 : decode cX5_takeRow 10 = .ok (.iload_n 2, 1) := by decide +kernel
theorem dX5_takeRow_11 : decode cX5_takeRow 11 = .ok (.iconst 3, 1) := by decide +kernel
theorem dX5_takeRow_12 : decode cX5_takeRow 12 = .ok (.ishr, 1) := by decide +kernel
theorem dX5_takeRow_13 : decode cX5_takeRow 13 = .ok (.laload, 1) := by decide +kernel
theorem dX5_takeRow_14 : decode cX5_takeRow 14 = .ok (.bipush 8, 2) := by decide +kernel
theorem dX5_takeRow_16 : decode cX5_takeRow 16 = .ok (.iload_n 2, 1) := by decide +kernel
theorem dX5_takeRow_17 : decode cX5_takeRow 17 = .ok (.bipush 7, 2) := by decide +kernel
theorem dX5_takeRow_19 : decode cX5_takeRow 19 = .ok (.iand, 1) := by decide +kernel
theorem dX5_takeRow_20 : decode cX5_takeRow 20 = .ok (.imul, 1) := by decide +kernel
theorem dX5_takeRow_21 : decode cX5_takeRow 21 = .ok (.lushr, 1) := by decide +kernel
theorem dX5_takeRow_22 : decode cX5_takeRow 22 = .ok (.l2i, 1) := by decide +kernel
theorem dX5_takeRow_23 : decode cX5_takeRow 23 = .ok (.invokevirtual 28, 3) := by decide +kernel
theorem dX5_takeRow_26 : decode cX5_takeRow 26 = .ok (.iinc 2 1, 3) := by decide +kernel
theorem dX5_takeRow_29 : decode cX5_takeRow 29 = .ok (.goto (-27), 3) := by decide +kernel
theorem dX5_takeRow_32 : decode cX5_takeRow 32 = .ok (.return_, 1) := by decide +kernel
theorem dX5_takeText_0 : decode cX5_takeText 0 = .ok (.iconst 0, 1) := by decide +kernel
theorem dX5_takeText_1 : decode cX5_takeText 1 = .ok (.istore_n 2, 1) := by decide +kernel
theorem dX5_takeText_2 : decode cX5_takeText 2 = .ok (.iload_n 2, 1) := by decide +kernel
theorem dX5_takeText_3 : decode cX5_takeText 3 = .ok (.aload_n 1, 1) := by decide +kernel
theorem dX5_takeText_4 : decode cX5_takeText 4 = .ok (.getfield 32, 3) := by decide +kernel
theorem dX5_takeText_7 : decode cX5_takeText 7 = .ok (.if_icmp .ge 18, 3) := by decide +kernel
theorem dX5_takeText_10 : decode cX5_takeText 10 = .ok (.aload_n 0, 1) := by decide +kernel
theorem dX5_takeText_11 : decode cX5_takeText 11 = .ok (.aload_n 1, 1) := by decide +kernel
theorem dX5_takeText_12 : decode cX5_takeText 12 = .ok (.iload_n 2, 1) := by decide +kernel
theorem dX5_takeText_13 : decode cX5_takeText 13 = .ok (.invokevirtual 33, 3) := by decide +kernel
theorem dX5_takeText_16 : decode cX5_takeText 16 = .ok (.invokevirtual 28, 3) := by decide +kernel
theorem dX5_takeText_19 : decode cX5_takeText 19 = .ok (.iinc 2 1, 3) := by decide +kernel
theorem dX5_takeText_22 : decode cX5_takeText 22 = .ok (.goto (-20), 3) := by decide +kernel
theorem dX5_takeText_25 : decode cX5_takeText 25 = .ok (.return_, 1) := by decide +kernel
theorem dX5_finish_0 : decode cX5_finish 0 = .ok (.aload_n 0, 1) := by decide +kernel
theorem dX5_finish_1 : decode cX5_finish 1 = .ok (.getfield 15, 3) := by decide +kernel
theorem dX5_finish_4 : decode cX5_finish 4 = .ok (.bipush 17, 2) := by decide +kernel
theorem dX5_finish_6 : decode cX5_finish 6 = .ok (.iadd, 1) := by decide +kernel
theorem dX5_finish_7 : decode cX5_finish 7 = .ok (.sipush 128, 3) := by decide +kernel
theorem dX5_finish_10 : decode cX5_finish 10 = .ok (.iadd, 1) := by decide +kernel
theorem dX5_finish_11 : decode cX5_finish 11 = .ok (.iconst 1, 1) := by decide +kernel
theorem dX5_finish_12 : decode cX5_finish 12 = .ok (.isub, 1) := by decide +kernel
theorem dX5_finish_13 : decode cX5_finish 13 = .ok (.sipush 128, 3) := by decide +kernel
theorem dX5_finish_16 : decode cX5_finish 16 = .ok (.idiv, 1) := by decide +kernel
theorem dX5_finish_17 : decode cX5_finish 17 = .ok (.sipush 128, 3) := by decide +kernel
theorem dX5_finish_20 : decode cX5_finish 20 = .ok (.imul, 1) := by decide +kernel
theorem dX5_finish_21 : decode cX5_finish 21 = .ok (.istore_n 2, 1) := by decide +kernel
theorem dX5_finish_22 : decode cX5_finish 22 = .ok (.aload_n 0, 1) := by decide +kernel
theorem dX5_finish_23 : decode cX5_finish 23 = .ok (.iload_n 2, 1) := by decide +kernel
theorem dX5_finish_24 : decode cX5_finish 24 = .ok (.invokevirtual 37, 3) := by decide +kernel
theorem dX5_finish_27 : decode cX5_finish 27 = .ok (.getstatic 40, 3) := by decide +kernel
theorem dX5_finish_30 : decode cX5_finish 30 = .ok (.iconst 0, 1) := by decide +kernel
theorem dX5_finish_31 : decode cX5_finish 31 = .ok (.aload_n 0, 1) := by decide +kernel
theorem dX5_finish_32 : decode cX5_finish 32 = .ok (.getfield 23, 3) := by decide +kernel
theorem dX5_finish_35 : decode cX5_finish 35 = .ok (.iconst 0, 1) := by decide +kernel
theorem dX5_finish_36 : decode cX5_finish 36 = .ok (.bipush 8, 2) := by decide +kernel
theorem dX5_finish_38 : decode cX5_finish 38 = .ok (.invokestatic 43, 3) := by decide +kernel
theorem dX5_finish_41 : decode cX5_finish 41 = .ok (.iconst 0, 1) := by decide +kernel
theorem dX5_finish_42 : decode cX5_finish 42 = .ok (.istore_n 3, 1) := by decide +kernel
theorem dX5_finish_43 : decode cX5_finish 43 = .ok (.iload_n 3, 1) := by decide +kernel
theorem dX5_finish_44 : decode cX5_finish 44 = .ok (.sipush 128, 3) := by decide +kernel
theorem dX5_finish_47 : decode cX5_finish 47 = .ok (.iadd, 1) := by decide +kernel
theorem dX5_finish_48 : decode cX5_finish 48 = .ok (.iload_n 2, 1) := by decide +kernel
theorem dX5_finish_49 : decode cX5_finish 49 = .ok (.if_icmp .gt 21, 3) := by decide +kernel
theorem dX5_finish_52 : decode cX5_finish 52 = .ok (.aload_n 0, 1) := by decide +kernel
theorem dX5_finish_53 : decode cX5_finish 53 = .ok (.iload_n 3, 1) := by decide +kernel
theorem dX5_finish_54 : decode cX5_finish 54 = .ok (.invokevirtual 49, 3) := by decide +kernel
theorem dX5_finish_57 : decode cX5_finish 57 = .ok (.aload_n 0, 1) := by decide +kernel
theorem dX5_finish_58 : decode cX5_finish 58 = .ok (.invokevirtual 52, 3) := by decide +kernel
theorem dX5_finish_61 : decode cX5_finish 61 = .ok (.iinc 3 128, 6) := by decide +kernel
theorem dX5_finish_67 : decode cX5_finish 67 = .ok (.goto (-24), 3) := by decide +kernel
theorem dX5_finish_70 : decode cX5_finish 70 = .ok (.iconst 0, 1) := by decide +kernel
theorem dX5_finish_71 : decode cX5_finish 71 = .ok (.istore_n 3, 1) := by decide +kernel
theorem dX5_finish_72 : decode cX5_finish 72 = .ok (.iload_n 3, 1) := by decide +kernel
theorem dX5_finish_73 : decode cX5_finish 73 = .ok (.bipush 8, 2) := by decide +kernel
theorem dX5_finish_75 : decode cX5_finish 75 = .ok (.if_icmp .ge 21, 3) := by decide +kernel
theorem dX5_finish_78 : decode cX5_finish 78 = .ok (.aload_n 1, 1) := by decide +kernel
theorem dX5_finish_79 : decode cX5_finish 79 = .ok (.iload_n 3, 1) := by decide +kernel
theorem dX5_finish_80 : decode cX5_finish 80 = .ok (.aload_n 0, 1) := by decide +kernel
theorem dX5_finish_81 : decode cX5_finish 81 = .ok (.getfield 23, 3) := by decide +kernel
theorem dX5_finish_84 : decode cX5_finish 84 = .ok (.iload_n 3, 1) := by decide +kernel
theorem dX5_finish_85 : decode cX5_finish 85 = .ok (.laload, 1) := by decide +kernel
theorem dX5_finish_86 : decode cX5_finish 86 = .ok (.invokestatic 55, 3) := by decide +kernel
theorem dX5_finish_89 : decode cX5_finish 89 = .ok (.lastore, 1) := by decide +kernel
theorem dX5_finish_90 : decode cX5_finish 90 = .ok (.iinc 3 1, 3) := by decide +kernel
theorem dX5_finish_93 : decode cX5_finish 93 = .ok (.goto (-21), 3) := by decide +kernel
theorem dX5_finish_96 : decode cX5_finish 96 = .ok (.return_, 1) := by decide +kernel
theorem dX5_pad_0 : decode cX5_pad 0 = .ok (.aload_n 0, 1) := by decide +kernel
theorem dX5_pad_1 : decode cX5_pad 1 = .ok (.getfield 11, 3) := by decide +kernel
theorem dX5_pad_4 : decode cX5_pad 4 = .ok (.aload_n 0, 1) := by decide +kernel
theorem dX5_pad_5 : decode cX5_pad 5 = .ok (.getfield 15, 3) := by decide +kernel
theorem dX5_pad_8 : decode cX5_pad 8 = .ok (.bipush (-128), 2) := by decide +kernel
theorem dX5_pad_10 : decode cX5_pad 10 = .ok (.bastore, 1) := by decide +kernel
theorem dX5_pad_11 : decode cX5_pad 11 = .ok (.aload_n 0, 1) := by decide +kernel
theorem dX5_pad_12 : decode cX5_pad 12 = .ok (.getfield 15, 3) := by decide +kernel
theorem dX5_pad_15 : decode cX5_pad 15 = .ok (.iconst 1, 1) := by decide +kernel
theorem dX5_pad_16 : decode cX5_pad 16 = .ok (.iadd, 1) := by decide +kernel
theorem dX5_pad_17 : decode cX5_pad 17 = .ok (.istore_n 2, 1) := by decide +kernel
theorem dX5_pad_18 : decode cX5_pad 18 = .ok (.iload_n 2, 1) := by decide +kernel
theorem dX5_pad_19 : decode cX5_pad 19 = .ok (.iload_n 1, 1) := by decide +kernel
theorem dX5_pad_20 : decode cX5_pad 20 = .ok (.if_icmp .ge 16, 3) := by decide +kernel
theorem dX5_pad_23 : decode cX5_pad 23 = .ok (.aload_n 0, 1) := by decide +kernel
theorem dX5_pad_24 : decode cX5_pad 24 = .ok (.getfield 11, 3) := by decide +kernel
theorem dX5_pad_27 : decode cX5_pad 27 = .ok (.iload_n 2, 1) := by decide +kernel
theorem dX5_pad_28 : decode cX5_pad 28 = .ok (.iconst 0, 1) := by decide +kernel
theorem dX5_pad_29 : decode cX5_pad 29 = .ok (.bastore, 1) := by decide +kernel
theorem dX5_pad_30 : decode cX5_pad 30 = .ok (.iinc 2 1, 3) := by decide +kernel
theorem dX5_pad_33 : decode cX5_pad 33 = .ok (.goto (-15), 3) := by decide +kernel
theorem dX5_pad_36 : decode cX5_pad 36 = .ok (.bipush 8, 2) := by decide +kernel
theorem dX5_pad_38 : decode cX5_pad 38 = .ok (.aload_n 0, 1) := by decide +kernel
theorem dX5_pad_39 : decode cX5_pad 39 = .ok (.getfield 15, 3) := by decide +kernel
theorem dX5_pad_42 : decode cX5_pad 42 = .ok (.imul, 1) := by decide +kernel
theorem dX5_pad_43 : decode cX5_pad 43 = .ok (.istore_n 2, 1) := by decide +kernel
theorem dX5_pad_44 : decode cX5_pad 44 = .ok (.aload_n 0, 1) := by decide +kernel
theorem dX5_pad_45 : decode cX5_pad 45 = .ok (.getfield 11, 3) := by decide +kernel
theorem dX5_pad_48 : decode cX5_pad 48 = .ok (.iload_n 1, 1) := by decide +kernel
theorem dX5_pad_49 : decode cX5_pad 49 = .ok (.iconst 1, 1) := by decide +kernel
theorem dX5_pad_50 : decode cX5_pad 50 = .ok (.isub, 1) := by decide +kernel
theorem dX5_pad_51 : decode cX5_pad 51 = .ok (.iload_n 2, 1) := by decide +kernel
theorem dX5_pad_52 : decode cX5_pad 52 = .ok (.i2b, 1) := by decide +kernel
theorem dX5_pad_53 : decode cX5_pad 53 = .ok (.bastore, 1) := by decide +kernel
theorem dX5_pad_54 : decode cX5_pad 54 = .ok (.aload_n 0, 1) := by decide +kernel
theorem dX5_pad_55 : decode cX5_pad 55 = .ok (.getfield 11, 3) := by decide +kernel
theorem dX5_pad_58 : decode cX5_pad 58 = .ok (.iload_n 1, 1) := by decide +kernel
theorem dX5_pad_59 : decode cX5_pad 59 = .ok (.iconst 2, 1) := by decide +kernel
theorem dX5_pad_60 : decode cX5_pad 60 = .ok (.isub, 1) := by decide +kernel
theorem dX5_pad_61 : decode cX5_pad 61 = .ok (.iload_n 2, 1) := by decide +kernel
theorem dX5_pad_62 : decode cX5_pad 62 = .ok (.bipush 8, 2) := by decide +kernel
theorem dX5_pad_64 : decode cX5_pad 64 = .ok (.iushr, 1) := by decide +kernel
theorem dX5_pad_65 : decode cX5_pad 65 = .ok (.i2b, 1) := by decide +kernel
theorem dX5_pad_66 : decode cX5_pad 66 = .ok (.bastore, 1) := by decide +kernel
theorem dX5_pad_67 : decode cX5_pad 67 = .ok (.return_, 1) := by decide +kernel
theorem dX5_fillSchedule_0 : decode cX5_fillSchedule 0 = .ok (.iconst 0, 1) := by decide +kernel
theorem dX5_fillSchedule_1 : decode cX5_fillSchedule 1 = .ok (.istore_n 2, 1) := by decide +kernel
theorem dX5_fillSchedule_2 : decode cX5_fillSchedule 2 = .ok (.iload_n 2, 1) := by decide +kernel
theorem dX5_fillSchedule_3 : decode cX5_fillSchedule 3 = .ok (.bipush 16, 2) := by decide +kernel
theorem dX5_fillSchedule_5 : decode cX5_fillSchedule 5 = .ok (.if_icmp .ge 59, 3) := by decide +kernel
theorem dX5_fillSchedule_8 : decode cX5_fillSchedule 8 = .ok (.lconst 0, 1) := by decide +kernel
theorem dX5_fillSchedule_9 : decode cX5_fillSchedule 9 = .ok (.lstore_n 3, 1) := by decide +kernel
theorem dX5_fillSchedule_10 : decode cX5_fillSchedule 10 = .ok (.iconst 0, 1) := by decide +kernel
theorem dX5_fillSchedule_11 : decode cX5_fillSchedule 11 = .ok (.istore 5, 2) := by decide +kernel
theorem dX5_fillSchedule_13 : decode cX5_fillSchedule 13 = .ok (.iload 5, 2) := by decide +kernel
theorem dX5_fillSchedule_15 : decode cX5_fillSchedule 15 = .ok (.bipush 8, 2) := by decide +kernel
theorem dX5_fillSchedule_17 : decode cX5_fillSchedule 17 = .ok (.if_icmp .ge 34, 3) := by decide +kernel
theorem dX5_fillSchedule_20 : decode cX5_fillSchedule 20 = .ok (.lload_n 3, 1) := by decide +kernel
theorem dX5_fillSchedule_21 : decode cX5_fillSchedule 21 = .ok (.bipush 8, 2) := by decide +kernel
theorem dX5_fillSchedule_23 : decode cX5_fillSchedule 23 = .ok (.lshl, 1) := by decide +kernel
theorem dX5_fillSchedule_24 : decode cX5_fillSchedule 24 = .ok (.aload_n 0, 1) := by decide +kernel
theorem dX5_fillSchedule_25 : decode cX5_fillSchedule 25 = .ok (.getfield 11, 3) := by decide +kernel
theorem dX5_fillSchedule_28 : decode cX5_fillSchedule 28 = .ok (.iload_n 1, 1) := by decide +kernel
theorem dX5_fillSchedule_29 : decode cX5_fillSchedule 29 = .ok (.bipush 8, 2) := by decide +kernel
theorem dX5_fillSchedule_31 : decode cX5_fillSchedule 31 = .ok (.iload_n 2, 1) := by decide +kernel
theorem dX5_fillSchedule_32 : decode cX5_fillSchedule 32 = .ok (.imul, 1) := by decide +kernel
theorem dX5_fillSchedule_33 : decode cX5_fillSchedule 33 = .ok (.iadd, 1) := by decide +kernel
theorem dX5_fillSchedule_34 : decode cX5_fillSchedule 34 = .ok (.iload 5, 2) := by decide +kernel
theorem dX5_fillSchedule_36 : decode cX5_fillSchedule 36 = .ok (.iadd, 1) := by decide +kernel
theorem dX5_fillSchedule_37 : decode cX5_fillSchedule 37 = .ok (.baload, 1) := by decide +kernel
theorem dX5_fillSchedule_38 : decode cX5_fillSchedule 38 = .ok (.sipush 255, 3) := by decide +kernel
theorem dX5_fillSchedule_41 : decode cX5_fillSchedule 41 = .ok (.iand, 1) := by decide +kernel
theorem dX5_fillSchedule_42 : decode cX5_fillSchedule 42 = .ok (.i2l, 1) := by decide +kernel
theorem dX5_fillSchedule_43 : decode cX5_fillSchedule 43 = .ok (.lor, 1) := by decide +kernel
theorem dX5_fillSchedule_44 : decode cX5_fillSchedule 44 = .ok (.lstore_n 3, 1) := by decide +kernel
theorem dX5_fillSchedule_45 : decode cX5_fillSchedule 45 = .ok (.iinc 5 1, 3) := by decide +kernel
theorem dX5_fillSchedule_48 : decode cX5_fillSchedule 48 = .ok (.goto (-35), 3) := by decide +kernel
theorem dX5_fillSchedule_51 : decode cX5_fillSchedule 51 = .ok (.aload_n 0, 1) := by decide +kernel
theorem dX5_fillSchedule_52 : decode cX5_fillSchedule 52 = .ok (.getfield 19, 3) := by decide +kernel
theorem dX5_fillSchedule_55 : decode cX5_fillSchedule 55 = .ok (.iload_n 2, 1) := by decide +kernel
theorem dX5_fillSchedule_56 : decode cX5_fillSchedule 56 = .ok (.lload_n 3, 1) := by decide +kernel
theorem dX5_fillSchedule_57 : decode cX5_fillSchedule 57 = .ok (.lastore, 1) := by decide +kernel
theorem dX5_fillSchedule_58 : decode cX5_fillSchedule 58 = .ok (.iinc 2 1, 3) := by decide +kernel
theorem dX5_fillSchedule_61 : decode cX5_fillSchedule 61 = .ok (.goto (-59), 3) := by decide +kernel
theorem dX5_fillSchedule_64 : decode cX5_fillSchedule 64 = .ok (.bipush 16, 2) := by decide +kernel
theorem dX5_fillSchedule_66 : decode cX5_fillSchedule 66 = .ok (.istore_n 2, 1) := by decide +kernel
theorem dX5_fillSchedule_67 : decode cX5_fillSchedule 67 = .ok (.iload_n 2, 1) := by decide +kernel
theorem dX5_fillSchedule_68 : decode cX5_fillSchedule 68 = .ok (.bipush 80, 2) := by decide +kernel
theorem dX5_fillSchedule_70 : decode cX5_fillSchedule 70 = .ok (.if_icmp .ge 102, 3) := by decide +kernel
theorem dX5_fillSchedule_73 : decode cX5_fillSchedule 73 = .ok (.aload_n 0, 1) := by decide +kernel
theorem dX5_fillSchedule_74 : decode cX5_fillSchedule 74 = .ok (.getfield 19, 3) := by decide +kernel
theorem dX5_fillSchedule_77 : decode cX5_fillSchedule 77 = .ok (.iload_n 2, 1) := by decide +kernel
theorem dX5_fillSchedule_78 : decode cX5_fillSchedule 78 = .ok (.bipush 15, 2) := by decide +kernel
theorem dX5_fillSchedule_80 : decode cX5_fillSchedule 80 = .ok (.isub, 1) := by decide +kernel
theorem dX5_fillSchedule_81 : decode cX5_fillSchedule 81 = .ok (.laload, 1) := by decide +kernel
theorem dX5_fillSchedule_82 : decode cX5_fillSchedule 82 = .ok (.lstore_n 3, 1) := by decide +kernel
theorem dX5_fillSchedule_83 : decode cX5_fillSchedule 83 = .ok (.aload_n 0, 1) := by decide +kernel
theorem dX5_fillSchedule_84 : decode cX5_fillSchedule 84 = .ok (.getfield 19, 3) := by decide +kernel
theorem dX5_fillSchedule_87 : decode cX5_fillSchedule 87 = .ok (.iload_n 2, 1) := by decide +kernel
theorem dX5_fillSchedule_88 : decode cX5_fillSchedule 88 = .ok (.iconst 2, 1) := by decide +kernel
theorem dX5_fillSchedule_89 : decode cX5_fillSchedule 89 = .ok (.isub, 1) := by decide +kernel
theorem dX5_fillSchedule_90 : decode cX5_fillSchedule 90 = .ok (.laload, 1) := by decide +kernel
theorem dX5_fillSchedule_91 : decode cX5_fillSchedule 91 = .ok (.lstore 5, 2) := by decide +kernel
theorem dX5_fillSchedule_93 : decode cX5_fillSchedule 93 = .ok (.lload_n 3, 1) := by decide +kernel
theorem dX5_fillSchedule_94 : decode cX5_fillSchedule 94 = .ok (.iconst 1, 1) := by decide +kernel
theorem dX5_fillSchedule_95 : decode cX5_fillSchedule 95 = .ok (.invokestatic 59, 3) := by decide +kernel
theorem dX5_fillSchedule_98 : decode cX5_fillSchedule 98 = .ok (.lload_n 3, 1) := by decide +kernel
theorem dX5_fillSchedule_99 : decode cX5_fillSchedule 99 = .ok (.bipush 8, 2) := by decide +kernel
theorem dX5_fillSchedule_101 : decode cX5_fillSchedule 101 = .ok (.invokestatic 59, 3) := by decide +kernel
theorem dX5_fillSchedule_104 : decode cX5_fillSchedule 104 = .ok (.lxor, 1) := by decide +kernel
theorem dX5_fillSchedule_105 : decode cX5_fillSchedule 105 = .ok (.lload_n 3, 1) := by decide +kernel
theorem dX5_fillSchedule_106 : decode cX5_fillSchedule 106 = .ok (.bipush 7, 2) := by decide +kernel
theorem dX5_fillSchedule_108 : decode cX5_fillSchedule 108 = .ok (.lushr, 1) := by decide +kernel
theorem dX5_fillSchedule_109 : decode cX5_fillSchedule 109 = .ok (.lxor, 1) := by decide +kernel
theorem dX5_fillSchedule_110 : decode cX5_fillSchedule 110 = .ok (.lstore 7, 2) := by decide +kernel
theorem dX5_fillSchedule_112 : decode cX5_fillSchedule 112 = .ok (.lload 5, 2) := by decide +kernel
theorem dX5_fillSchedule_114 : decode cX5_fillSchedule 114 = .ok (.bipush 19, 2) := by decide +kernel
theorem dX5_fillSchedule_116 : decode cX5_fillSchedule 116 = .ok (.invokestatic 59, 3) := by decide +kernel
theorem dX5_fillSchedule_119 : decode cX5_fillSchedule 119 = .ok (.lload 5, 2) := by decide +kernel
theorem dX5_fillSchedule_121 : decode cX5_fillSchedule 121 = .ok (.bipush 61, 2) := by decide +kernel
theorem dX5_fillSchedule_123 : decode cX5_fillSchedule 123 = .ok (.invokestatic 59, 3) := by decide +kernel
theorem dX5_fillSchedule_126 : decode cX5_fillSchedule 126 = .ok (.lxor, 1) := by decide +kernel
theorem dX5_fillSchedule_127 : decode cX5_fillSchedule 127 = .ok (.lload 5, 2) := by decide +kernel
theorem dX5_fillSchedule_129 : decode cX5_fillSchedule 129 = .ok (.bipush 6, 2) := by decide +kernel
theorem dX5_fillSchedule_131 : decode cX5_fillSchedule 131 = .ok (.lushr, 1) := by decide +kernel
theorem dX5_fillSchedule_132 : decode cX5_fillSchedule 132 = .ok (.lxor, 1) := by decide +kernel
theorem dX5_fillSchedule_133 : decode cX5_fillSchedule 133 = .ok (.lstore 9, 2) := by decide +kernel
theorem dX5_fillSchedule_135 : decode cX5_fillSchedule 135 = .ok (.aload_n 0, 1) := by decide +kernel
theorem dX5_fillSchedule_136 : decode cX5_fillSchedule 136 = .ok (.getfield 19, 3) := by decide +kernel
theorem dX5_fillSchedule_139 : decode cX5_fillSchedule 139 = .ok (.iload_n 2, 1) := by decide +kernel
theorem dX5_fillSchedule_140 : decode cX5_fillSchedule 140 = .ok (.aload_n 0, 1) := by decide +kernel
theorem dX5_fillSchedule_141 : decode cX5_fillSchedule 141 = .ok (.getfield 19, 3) := by decide +kernel
theorem dX5_fillSchedule_144 : decode cX5_fillSchedule 144 = .ok (.iload_n 2, 1) := by decide +kernel
theorem dX5_fillSchedule_145 : decode cX5_fillSchedule 145 = .ok (.bipush 16, 2) := by decide +kernel
theorem dX5_fillSchedule_147 : decode cX5_fillSchedule 147 = .ok (.isub, 1) := by decide +kernel
theorem dX5_fillSchedule_148 : decode cX5_fillSchedule 148 = .ok (.laload, 1) := by decide +kernel
theorem dX5_fillSchedule_149 : decode cX5_fillSchedule 149 = .ok (.lload 7, 2) := by decide +kernel
theorem dX5_fillSchedule_151 : decode cX5_fillSchedule 151 = .ok (.ladd, 1) := by decide +kernel
theorem dX5_fillSchedule_152 : decode cX5_fillSchedule 152 = .ok (.aload_n 0, 1) := by decide +kernel
theorem dX5_fillSchedule_153 : decode cX5_fillSchedule 153 = .ok (.getfield 19, 3) := by decide +kernel
theorem dX5_fillSchedule_156 : decode cX5_fillSchedule 156 = .ok (.iload_n 2, 1) := by decide +kernel
theorem dX5_fillSchedule_157 : decode cX5_fillSchedule 157 = .ok (.bipush 7, 2) := by decide +kernel
theorem dX5_fillSchedule_159 : decode cX5_fillSchedule 159 = .ok (.isub, 1) := by decide +kernel
theorem dX5_fillSchedule_160 : decode cX5_fillSchedule 160 = .ok (.laload, 1) := by decide +kernel
theorem dX5_fillSchedule_161 : decode cX5_fillSchedule 161 = .ok (.ladd, 1) := by decide +kernel
theorem dX5_fillSchedule_162 : decode cX5_fillSchedule 162 = .ok (.lload 9, 2) := by decide +kernel
theorem dX5_fillSchedule_164 : decode cX5_fillSchedule 164 = .ok (.ladd, 1) := by decide +kernel
theorem dX5_fillSchedule_165 : decode cX5_fillSchedule 165 = .ok (.lastore, 1) := by decide +kernel
theorem dX5_fillSchedule_166 : decode cX5_fillSchedule 166 = .ok (.iinc 2 1, 3) := by decide +kernel
theorem dX5_fillSchedule_169 : decode cX5_fillSchedule 169 = .ok (.goto (-102), 3) := by decide +kernel
theorem dX5_fillSchedule_172 : decode cX5_fillSchedule 172 = .ok (.return_, 1) := by decide +kernel
theorem dX5_mix_0 : decode cX5_mix 0 = .ok (.aload_n 0, 1) := by decide +kernel
theorem dX5_mix_1 : decode cX5_mix 1 = .ok (.getfield 23, 3) := by decide +kernel
theorem dX5_mix_4 : decode cX5_mix 4 = .ok (.iconst 0, 1) := by decide +kernel
theorem dX5_mix_5 : decode cX5_mix 5 = .ok (.laload, 1) := by decide +kernel
theorem dX5_mix_6 : decode cX5_mix 6 = .ok (.lstore_n 1, 1) := by decide +kernel
theorem dX5_mix_7 : decode cX5_mix 7 = .ok (.aload_n 0, 1) := by decide +kernel
theorem dX5_mix_8 : decode cX5_mix 8 = .ok (.getfield 23, 3) := by decide +kernel
theorem dX5_mix_11 : decode cX5_mix 11 = .ok (.iconst 1, 1) := by decide +kernel
theorem dX5_mix_12 : decode cX5_mix 12 = .ok (.laload, 1) := by decide +kernel
theorem dX5_mix_13 : decode cX5_mix 13 = .ok (.lstore_n 3, 1) := by decide +kernel
theorem dX5_mix_14 : decode cX5_mix 14 = .ok (.aload_n 0, 1) := by decide +kernel
theorem dX5_mix_15 : decode cX5_mix 15 = .ok (.getfield 23, 3) := by decide +kernel
theorem dX5_mix_18 : decode cX5_mix 18 = .ok (.iconst 2, 1) := by decide +kernel
theorem dX5_mix_19 : decode cX5_mix 19 = .ok (.laload, 1) := by decide +kernel
theorem dX5_mix_20 : decode cX5_mix 20 = .ok (.lstore 5, 2) := by decide +kernel
theorem dX5_mix_22 : decode cX5_mix 22 = .ok (.aload_n 0, 1) := by decide +kernel
theorem dX5_mix_23 : decode cX5_mix 23 = .ok (.getfield 23, 3) := by decide +kernel
theorem dX5_mix_26 : decode cX5_mix 26 = .ok (.iconst 3, 1) := by decide +kernel
theorem dX5_mix_27 : decode cX5_mix 27 = .ok (.laload, 1) := by decide +kernel
theorem dX5_mix_28 : decode cX5_mix 28 = .ok (.lstore 7, 2) := by decide +kernel
theorem dX5_mix_30 : decode cX5_mix 30 = .ok (.aload_n 0, 1) := by decide +kernel
theorem dX5_mix_31 : decode cX5_mix 31 = .ok (.getfield 23, 3) := by decide +kernel
theorem dX5_mix_34 : decode cX5_mix 34 = .ok (.iconst 4, 1) := by decide +kernel
theorem dX5_mix_35 : decode cX5_mix 35 = .ok (.laload, 1) := by decide +kernel
theorem dX5_mix_36 : decode cX5_mix 36 = .ok (.lstore 9, 2) := by decide +kernel
theorem dX5_mix_38 : decode cX5_mix 38 = .ok (.aload_n 0, 1) := by decide +kernel
theorem dX5_mix_39 : decode cX5_mix 39 = .ok (.getfield 23, 3) := by decide +kernel
theorem dX5_mix_42 : decode cX5_mix 42 = .ok (.iconst 5, 1) := by decide +kernel
theorem dX5_mix_43 : decode cX5_mix 43 = .ok (.laload, 1) := by decide +kernel
theorem dX5_mix_44 : decode cX5_mix 44 = .ok (.lstore 11, 2) := by decide +kernel
theorem dX5_mix_46 : decode cX5_mix 46 = .ok (.aload_n 0, 1) := by decide +kernel
theorem dX5_mix_47 : decode cX5_mix 47 = .ok (.getfield 23, 3) := by decide +kernel
theorem dX5_mix_50 : decode cX5_mix 50 = .ok (.bipush 6, 2) := by decide +kernel
theorem dX5_mix_52 : decode cX5_mix 52 = .ok (.laload, 1) := by decide +kernel
theorem dX5_mix_53 : decode cX5_mix 53 = .ok (.lstore 13, 2) := by decide +kernel
theorem dX5_mix_55 : decode cX5_mix 55 = .ok (.aload_n 0, 1) := by decide +kernel
theorem dX5_mix_56 : decode cX5_mix 56 = .ok (.getfield 23, 3) := by decide +kernel
theorem dX5_mix_59 : decode cX5_mix 59 = .ok (.bipush 7, 2) := by decide +kernel
theorem dX5_mix_61 : decode cX5_mix 61 = .ok (.laload, 1) := by decide +kernel
theorem dX5_mix_62 : decode cX5_mix 62 = .ok (.lstore 15, 2) := by decide +kernel
theorem dX5_mix_64 : decode cX5_mix 64 = .ok (.iconst 0, 1) := by decide +kernel
theorem dX5_mix_65 : decode cX5_mix 65 = .ok (.istore 17, 2) := by decide +kernel
theorem dX5_mix_67 : decode cX5_mix 67 = .ok (.iload 17, 2) := by decide +kernel
theorem dX5_mix_69 : decode cX5_mix 69 = .ok (.bipush 80, 2) := by decide +kernel
theorem dX5_mix_71 : decode cX5_mix 71 = .ok (.if_icmp .ge 150, 3) := by decide +kernel
theorem dX5_mix_74 : decode cX5_mix 74 = .ok (.lload 9, 2) := by decide +kernel
theorem dX5_mix_76 : decode cX5_mix 76 = .ok (.bipush 14, 2) := by decide +kernel
theorem dX5_mix_78 : decode cX5_mix 78 = .ok (.invokestatic 59, 3) := by decide +kernel
theorem dX5_mix_81 : decode cX5_mix 81 = .ok (.lload 9, 2) := by decide +kernel
theorem dX5_mix_83 : decode cX5_mix 83 = .ok (.bipush 18, 2) := by decide +kernel
theorem dX5_mix_85 : decode cX5_mix 85 = .ok (.invokestatic 59, 3) := by decide +kernel
theorem dX5_mix_88 : decode cX5_mix 88 = .ok (.lxor, 1) := by decide +kernel
theorem dX5_mix_89 : decode cX5_mix 89 = .ok (.lload 9, 2) := by decide +kernel
theorem dX5_mix_91 : decode cX5_mix 91 = .ok (.bipush 41, 2) := by decide +kernel
theorem dX5_mix_93 : decode cX5_mix 93 = .ok (.invokestatic 59, 3) := by decide +kernel
theorem dX5_mix_96 : decode cX5_mix 96 = .ok (.lxor, 1) := by decide +kernel
theorem dX5_mix_97 : decode cX5_mix 97 = .ok (.lstore 18, 2) := by decide +kernel
theorem dX5_mix_99 : decode cX5_mix 99 = .ok (.lload 9, 2) := by decide +kernel
theorem dX5_mix_101 : decode cX5_mix 101 = .ok (.lload 11, 2) := by decide +kernel
theorem dX5_mix_103 : decode cX5_mix 103 = .ok (.land, 1) := by decide +kernel
theorem dX5_mix_104 : decode cX5_mix 104 = .ok (.lload 9, 2) := by decide +kernel
theorem dX5_mix_106 : decode cX5_mix 106 = .ok (.ldc2_w 63, 3) := by decide +kernel
theorem dX5_mix_109 : decode cX5_mix 109 = .ok (.lxor, 1) := by decide +kernel
theorem dX5_mix_110 : decode cX5_mix 110 = .ok (.lload 13, 2) := by decide +kernel
theorem dX5_mix_112 : decode cX5_mix 112 = .ok (.land, 1) := by decide +kernel
theorem dX5_mix_113 : decode cX5_mix 113 = .ok (.lxor, 1) := by decide +kernel
theorem dX5_mix_114 : decode cX5_mix 114 = .ok (.lstore 20, 2) := by decide +kernel
theorem dX5_mix_116 : decode cX5_mix 116 = .ok (.lload 15, 2) := by decide +kernel
theorem dX5_mix_118 : decode cX5_mix 118 = .ok (.lload 18, 2) := by decide +kernel
theorem dX5_mix_120 : decode cX5_mix 120 = .ok (.ladd, 1) := by decide +kernel
theorem dX5_mix_121 : decode cX5_mix 121 = .ok (.lload 20, 2) := by decide +kernel
theorem dX5_mix_123 : decode cX5_mix 123 = .ok (.ladd, 1) := by decide +kernel
theorem dX5_mix_124 : decode cX5_mix 124 = .ok (.getstatic 65, 3) := by decide +kernel
theorem dX5_mix_127 : decode cX5_mix 127 = .ok (.iload 17, 2) := by decide +kernel
theorem dX5_mix_129 : decode cX5_mix 129 = .ok (.laload, 1) := by decide +kernel
theorem dX5_mix_130 : decode cX5_mix 130 = .ok (.ladd, 1) := by decide +kernel
theorem dX5_mix_131 : decode cX5_mix 131 = .ok (.aload_n 0, 1) := by decide +kernel
theorem dX5_mix_132 : decode cX5_mix 132 = .ok (.getfield 19, 3) := by decide +kernel
theorem dX5_mix_135 : decode cX5_mix 135 = .ok (.iload 17, 2) := by decide +kernel
theorem dX5_mix_137 : decode cX5_mix 137 = .ok (.laload, 1) := by decide +kernel
theorem dX5_mix_138 : decode cX5_mix 138 = .ok (.ladd, 1) := by decide +kernel
theorem dX5_mix_139 : decode cX5_mix 139 = .ok (.lstore 22, 2) := by decide +kernel
theorem dX5_mix_141 : decode cX5_mix 141 = .ok (.lload_n 1, 1) := by decide +kernel
theorem dX5_mix_142 : decode cX5_mix 142 = .ok (.bipush 28, 2) := by decide +kernel
theorem dX5_mix_144 : decode cX5_mix 144 = .ok (.invokestatic 59, 3) := by decide +kernel
theorem dX5_mix_147 : decode cX5_mix 147 = .ok (.lload_n 1, 1) := by decide +kernel
theorem dX5_mix_148 : decode cX5_mix 148 = .ok (.bipush 34, 2) := by decide +kernel
theorem dX5_mix_150 : decode cX5_mix 150 = .ok (.invokestatic 59, 3) := by decide +kernel
theorem dX5_mix_153 : decode cX5_mix 153 = .ok (.lxor, 1) := by decide +kernel
theorem dX5_mix_154 : decode cX5_mix 154 = .ok (.lload_n 1, 1) := by decide +kernel
theorem dX5_mix_155 : decode cX5_mix 155 = .ok (.bipush 39, 2) := by decide +kernel
theorem dX5_mix_157 : decode cX5_mix 157 = .ok (.invokestatic 59, 3) := by decide +kernel
theorem dX5_mix_160 : decode cX5_mix 160 = .ok (.lxor, 1) := by decide +kernel
theorem dX5_mix_161 : decode cX5_mix 161 = .ok (.lstore 24, 2) := by decide +kernel
theorem dX5_mix_163 : decode cX5_mix 163 = .ok (.lload_n 1, 1) := by decide +kernel
theorem dX5_mix_164 : decode cX5_mix 164 = .ok (.lload_n 3, 1) := by decide +kernel
theorem dX5_mix_165 : decode cX5_mix 165 = .ok (.land, 1) := by decide +kernel
theorem dX5_mix_166 : decode cX5_mix 166 = .ok (.lload_n 1, 1) := by decide +kernel
theorem dX5_mix_167 : decode cX5_mix 167 = .ok (.lload 5, 2) := by decide +kernel
theorem dX5_mix_169 : decode cX5_mix 169 = .ok (.land, 1) := by decide +kernel
theorem dX5_mix_170 : decode cX5_mix 170 = .ok (.lxor, 1) := by decide +kernel
theorem dX5_mix_171 : decode cX5_mix 171 = .ok (.lload_n 3, 1) := by decide +kernel
theorem dX5_mix_172 : decode cX5_mix 172 = .ok (.lload 5, 2) := by decide +kernel
theorem dX5_mix_174 : decode cX5_mix 174 = .ok (.land, 1) := by decide +kernel
theorem dX5_mix_175 : decode cX5_mix 175 = .ok (.lxor, 1) := by decide +kernel
theorem dX5_mix_176 : decode cX5_mix 176 = .ok (.lstore 26, 2) := by decide +kernel
theorem dX5_mix_178 : decode cX5_mix 178 = .ok (.lload 13, 2) := by decide +kernel
theorem dX5_mix_180 : decode cX5_mix 180 = .ok (.lstore 15, 2) := by decide +kernel
theorem dX5_mix_182 : decode cX5_mix 182 = .ok (.lload 11, 2) := by decide +kernel
theorem dX5_mix_184 : decode cX5_mix 184 = .ok (.lstore 13, 2) := by decide +kernel
theorem dX5_mix_186 : decode cX5_mix 186 = .ok (.lload 9, 2) := by decide +kernel
theorem dX5_mix_188 : decode cX5_mix 188 = .ok (.lstore 11, 2) := by decide +kernel
theorem dX5_mix_190 : decode cX5_mix 190 = .ok (.lload 7, 2) := by decide +kernel
theorem dX5_mix_192 : decode cX5_mix 192 = .ok (.lload 22, 2) := by decide +kernel
theorem dX5_mix_194 : decode cX5_mix 194 = .ok (.ladd, 1) := by decide +kernel
theorem dX5_mix_195 : decode cX5_mix 195 = .ok (.lstore 9, 2) := by decide +kernel
theorem dX5_mix_197 : decode cX5_mix 197 = .ok (.lload 5, 2) := by decide +kernel
theorem dX5_mix_199 : decode cX5_mix 199 = .ok (.lstore 7, 2) := by decide +kernel
theorem dX5_mix_201 : decode cX5_mix 201 = .ok (.lload_n 3, 1) := by decide +kernel
theorem dX5_mix_202 : decode cX5_mix 202 = .ok (.lstore 5, 2) := by decide +kernel
theorem dX5_mix_204 : decode cX5_mix 204 = .ok (.lload_n 1, 1) := by decide +kernel
theorem dX5_mix_205 : decode cX5_mix 205 = .ok (.lstore_n 3, 1) := by decide +kernel
theorem dX5_mix_206 : decode cX5_mix 206 = .ok (.lload 22, 2) := by decide +kernel
theorem dX5_mix_208 : decode cX5_mix 208 = .ok (.lload 24, 2) := by decide +kernel
theorem dX5_mix_210 : decode cX5_mix 210 = .ok (.ladd, 1) := by decide +kernel
theorem dX5_mix_211 : decode cX5_mix 211 = .ok (.lload 26, 2) := by decide +kernel
theorem dX5_mix_213 : decode cX5_mix 213 = .ok (.ladd, 1) := by decide +kernel
theorem dX5_mix_214 : decode cX5_mix 214 = .ok (.lstore_n 1, 1) := by decide +kernel
theorem dX5_mix_215 : decode cX5_mix 215 = .ok (.iinc 17 1, 3) := by decide +kernel
theorem dX5_mix_218 : decode cX5_mix 218 = .ok (.goto (-151), 3) := by decide +kernel
theorem dX5_mix_221 : decode cX5_mix 221 = .ok (.aload_n 0, 1) := by decide +kernel
theorem dX5_mix_222 : decode cX5_mix 222 = .ok (.getfield 23, 3) := by decide +kernel
theorem dX5_mix_225 : decode cX5_mix 225 = .ok (.iconst 0, 1) := by decide +kernel
theorem dX5_mix_226 : decode cX5_mix 226 = .ok (.dup2, 1) := by decide +kernel
theorem dX5_mix_227 : decode cX5_mix 227 = .ok (.laload, 1) := by decide +kernel
theorem dX5_mix_228 : decode cX5_mix 228 = .ok (.lload_n 1, 1) := by decide +kernel
theorem dX5_mix_229 : decode cX5_mix 229 = .ok (.ladd, 1) := by decide +kernel
theorem dX5_mix_230 : decode cX5_mix 230 = .ok (.lastore, 1) := by decide +kernel
theorem dX5_mix_231 : decode cX5_mix 231 = .ok (.aload_n 0, 1) := by decide +kernel
theorem dX5_mix_232 : decode cX5_mix 232 = .ok (.getfield 23, 3) := by decide +kernel
theorem dX5_mix_235 : decode cX5_mix 235 = .ok (.iconst 1, 1) := by decide +kernel
theorem dX5_mix_236 : decode cX5_mix 236 = .ok (.dup2, 1) := by decide +kernel
theorem dX5_mix_237 : decode cX5_mix 237 = .ok (.laload, 1) := by decide +kernel
theorem dX5_mix_238 : decode cX5_mix 238 = .ok (.lload_n 3, 1) := by decide +kernel
theorem dX5_mix_239 : decode cX5_mix 239 = .ok (.ladd, 1) := by decide +kernel
theorem dX5_mix_240 : decode cX5_mix 240 = .ok (.lastore, 1) := by decide +kernel
theorem dX5_mix_241 : decode cX5_mix 241 = .ok (.aload_n 0, 1) := by decide +kernel
theorem dX5_mix_242 : decode cX5_mix 242 = .ok (.getfield 23, 3) := by decide +kernel
theorem dX5_mix_245 : decode cX5_mix 245 = .ok (.iconst 2, 1) := by decide +kernel
theorem dX5_mix_246 : decode cX5_mix 246 = .ok (.dup2, 1) := by decide +kernel
theorem dX5_mix_247 : decode cX5_mix 247 = .ok (.laload, 1) := by decide +kernel
theorem dX5_mix_248 : decode cX5_mix 248 = .ok (.lload 5, 2) := by decide +kernel
theorem dX5_mix_250 : decode cX5_mix 250 = .ok (.ladd, 1) := by decide +kernel
theorem dX5_mix_251 : decode cX5_mix 251 = .ok (.lastore, 1) := by decide +kernel
theorem dX5_mix_252 : decode cX5_mix 252 = .ok (.aload_n 0, 1) := by decide +kernel
theorem dX5_mix_253 : decode cX5_mix 253 = .ok (.getfield 23, 3) := by decide +kernel
theorem dX5_mix_256 : decode cX5_mix 256 = .ok (.iconst 3, 1) := by decide +kernel
theorem dX5_mix_257 : decode cX5_mix 257 = .ok (.dup2, 1) := by decide +kernel
theorem dX5_mix_258 : decode cX5_mix 258 = .ok (.laload, 1) := by decide +kernel
theorem dX5_mix_259 : decode cX5_mix 259 = .ok (.lload 7, 2) := by decide +kernel
theorem dX5_mix_261 : decode cX5_mix 261 = .ok (.ladd, 1) := by decide +kernel
theorem dX5_mix_262 : decode cX5_mix 262 = .ok (.lastore, 1) := by decide +kernel
theorem dX5_mix_263 : decode cX5_mix 263 = .ok (.aload_n 0, 1) := by decide +kernel
theorem dX5_mix_264 : decode cX5_mix 264 = .ok (.getfield 23, 3) := by decide +kernel
theorem dX5_mix_267 : decode cX5_mix 267 = .ok (.iconst 4, 1) := by decide +kernel
theorem dX5_mix_268 : decode cX5_mix 268 = .ok (.dup2, 1) := by decide +kernel
theorem dX5_mix_269 : decode cX5_mix 269 = .ok (.laload, 1) := by decide +kernel
theorem dX5_mix_270 : decode cX5_mix 270 = .ok (.lload 9, 2) := by decide +kernel
theorem dX5_mix_272 : decode cX5_mix 272 = .ok (.ladd, 1) := by decide +kernel
theorem dX5_mix_273 : decode cX5_mix 273 = .ok (.lastore, 1) := by decide +kernel
theorem dX5_mix_274 : decode cX5_mix 274 = .ok (.aload_n 0, 1) := by decide +kernel
theorem dX5_mix_275 : decode cX5_mix 275 = .ok (.getfield 23, 3) := by decide +kernel
theorem dX5_mix_278 : decode cX5_mix 278 = .ok (.iconst 5, 1) := by decide +kernel
theorem dX5_mix_279 : decode cX5_mix 279 = .ok (.dup2, 1) := by decide +kernel
theorem dX5_mix_280 : decode cX5_mix 280 = .ok (.laload, 1) := by decide +kernel
theorem dX5_mix_281 : decode cX5_mix 281 = .ok (.lload 11, 2) := by decide +kernel
theorem dX5_mix_283 : decode cX5_mix 283 = .ok (.ladd, 1) := by decide +kernel
theorem dX5_mix_284 : decode cX5_mix 284 = .ok (.lastore, 1) := by decide +kernel
theorem dX5_mix_285 : decode cX5_mix 285 = .ok (.aload_n 0, 1) := by decide +kernel
theorem dX5_mix_286 : decode cX5_mix 286 = .ok (.getfield 23, 3) := by decide +kernel
theorem dX5_mix_289 : decode cX5_mix 289 = .ok (.bipush 6, 2) := by decide +kernel
theorem dX5_mix_291 : decode cX5_mix 291 = .ok (.dup2, 1) := by decide +kernel
theorem dX5_mix_292 : decode cX5_mix 292 = .ok (.laload, 1) := by decide +kernel
theorem dX5_mix_293 : decode cX5_mix 293 = .ok (.lload 13, 2) := by decide +kernel
theorem dX5_mix_295 : decode cX5_mix 295 = .ok (.ladd, 1) := by decide +kernel
theorem dX5_mix_296 : decode cX5_mix 296 = .ok (.lastore, 1) := by decide +kernel
theorem dX5_mix_297 : decode cX5_mix 297 = .ok (.aload_n 0, 1) := by decide +kernel
theorem dX5_mix_298 : decode cX5_mix 298 = .ok (.getfield 23, 3) := by decide +kernel
theorem dX5_mix_301 : decode cX5_mix 301 = .ok (.bipush 7, 2) := by decide +kernel
theorem dX5_mix_303 : decode cX5_mix 303 = .ok (.dup2, 1) := by decide +kernel
theorem dX5_mix_304 : decode cX5_mix 304 = .ok (.laload, 1) := by decide +kernel
theorem dX5_mix_305 : decode cX5_mix 305 = .ok (.lload 15, 2) := by decide +kernel
theorem dX5_mix_307 : decode cX5_mix 307 = .ok (.ladd, 1) := by decide +kernel
theorem dX5_mix_308 : decode cX5_mix 308 = .ok (.lastore, 1) := by decide +kernel
theorem dX5_mix_309 : decode cX5_mix 309 = .ok (.return_, 1) := by decide +kernel
theorem dX5_rotated_0 : decode cX5_rotated 0 = .ok (.lload_n 0, 1) := by decide +kernel
theorem dX5_rotated_1 : decode cX5_rotated 1 = .ok (.iload_n 2, 1) := by decide +kernel
theorem dX5_rotated_2 : decode cX5_rotated 2 = .ok (.lushr, 1) := by decide +kernel
theorem dX5_rotated_3 : decode cX5_rotated 3 = .ok (.lload_n 0, 1) := by decide +kernel
theorem dX5_rotated_4 : decode cX5_rotated 4 = .ok (.bipush 64, 2) := by decide +kernel
theorem dX5_rotated_6 : decode cX5_rotated 6 = .ok (.iload_n 2, 1) := by decide +kernel
theorem dX5_rotated_7 : decode cX5_rotated 7 = .ok (.isub, 1) := by decide +kernel
theorem dX5_rotated_8 : decode cX5_rotated 8 = .ok (.lshl, 1) := by decide +kernel
theorem dX5_rotated_9 : decode cX5_rotated 9 = .ok (.lor, 1) := by decide +kernel
theorem dX5_rotated_10 : decode cX5_rotated 10 = .ok (.lreturn, 1) := by decide +kernel
theorem dX5_turned_0 : decode cX5_turned 0 = .ok (.lconst 0, 1) := by decide +kernel
theorem dX5_turned_1 : decode cX5_turned 1 = .ok (.lstore_n 2, 1) := by decide +kernel
theorem dX5_turned_2 : decode cX5_turned 2 = .ok (.iconst 0, 1) := by decide +kernel
theorem dX5_turned_3 : decode cX5_turned 3 = .ok (.istore 4, 2) := by decide +kernel
theorem dX5_turned_5 : decode cX5_turned 5 = .ok (.iload 4, 2) := by decide +kernel
theorem dX5_turned_7 : decode cX5_turned 7 = .ok (.bipush 8, 2) := by decide +kernel
theorem dX5_turned_9 : decode cX5_turned 9 = .ok (.if_icmp .ge 26, 3) := by decide +kernel
theorem dX5_turned_12 : decode cX5_turned 12 = .ok (.lload_n 2, 1) := by decide +kernel
theorem dX5_turned_13 : decode cX5_turned 13 = .ok (.bipush 8, 2) := by decide +kernel
theorem dX5_turned_15 : decode cX5_turned 15 = .ok (.lshl, 1) := by decide +kernel
theorem dX5_turned_16 : decode cX5_turned 16 = .ok (.lload_n 0, 1) := by decide +kernel
theorem dX5_turned_17 : decode cX5_turned 17 = .ok (.bipush 8, 2) := by decide +kernel
theorem dX5_turned_19 : decode cX5_turned 19 = .ok (.iload 4, 2) := by decide +kernel
theorem dX5_turned_21 : decode cX5_turned 21 = .ok (.imul, 1) := by decide +kernel
theorem dX5_turned_22 : decode cX5_turned 22 = .ok (.lushr, 1) := by decide +kernel
theorem dX5_turned_23 : decode cX5_turned 23 = .ok (.ldc2_w 68, 3) := by decide +kernel
theorem dX5_turned_26 : decode cX5_turned 26 = .ok (.land, 1) := by decide +kernel
theorem dX5_turned_27 : decode cX5_turned 27 = .ok (.lor, 1) := by decide +kernel
theorem dX5_turned_28 : decode cX5_turned 28 = .ok (.lstore_n 2, 1) := by decide +kernel
theorem dX5_turned_29 : decode cX5_turned 29 = .ok (.iinc 4 1, 3) := by decide +kernel
theorem dX5_turned_32 : decode cX5_turned 32 = .ok (.goto (-27), 3) := by decide +kernel
theorem dX5_turned_35 : decode cX5_turned 35 = .ok (.lload_n 2, 1) := by decide +kernel
theorem dX5_turned_36 : decode cX5_turned 36 = .ok (.lreturn, 1) := by decide +kernel
theorem dX6_init_0 : decode cX6_init 0 = .ok (.aload_n 0, 1) := by decide +kernel
theorem dX6_init_1 : decode cX6_init 1 = .ok (.invokespecial 1, 3) := by decide +kernel
theorem dX6_init_4 : decode cX6_init 4 = .ok (.aload_n 0, 1) := by decide +kernel
theorem dX6_init_5 : decode cX6_init 5 = .ok (.bipush 8, 2) := by decide +kernel
theorem dX6_init_7 : decode cX6_init 7 = .ok (.newarray .long, 2) := by decide +kernel
theorem dX6_init_9 : decode cX6_init 9 = .ok (.putfield 9, 3) := by decide +kernel
theorem dX6_init_12 : decode cX6_init 12 = .ok (.aload_n 0, 1) := by decide +kernel
theorem dX6_init_13 : decode cX6_init 13 = .ok (.iconst 4, 1) := by decide +kernel
theorem dX6_init_14 : decode cX6_init 14 = .ok (.newarray .long, 2) := by decide +kernel
theorem dX6_init_16 : decode cX6_init 16 = .ok (.putfield 17, 3) := by decide +kernel
theorem dX6_init_19 : decode cX6_init 19 = .ok (.aload_n 0, 1) := by decide +kernel
theorem dX6_init_20 : decode cX6_init 20 = .ok (.iconst 4, 1) := by decide +kernel
theorem dX6_init_21 : decode cX6_init 21 = .ok (.newarray .long, 2) := by decide +kernel
theorem dX6_init_23 : decode cX6_init 23 = .ok (.putfield 20, 3) := by decide +kernel
theorem dX6_init_26 : decode cX6_init 26 = .ok (.aload_n 0, 1) := by decide +kernel
theorem dX6_init_27 : decode cX6_init 27 = .ok (.iconst 4, 1) := by decide +kernel
theorem dX6_init_28 : decode cX6_init 28 = .ok (.newarray .long, 2) := by decide +kernel
theorem dX6_init_30 : decode cX6_init 30 = .ok (.putfield 23, 3) := by decide +kernel
theorem dX6_init_33 : decode cX6_init 33 = .ok (.aload_n 0, 1) := by decide +kernel
theorem dX6_init_34 : decode cX6_init 34 = .ok (.iconst 4, 1) := by decide +kernel
theorem dX6_init_35 : decode cX6_init 35 = .ok (.newarray .long, 2) := by decide +kernel
theorem dX6_init_37 : decode cX6_init 37 = .ok (.putfield 26, 3) := by decide +kernel
theorem dX6_init_40 : decode cX6_init 40 = .ok (.aload_n 0, 1) := by decide +kernel
theorem dX6_init_41 : decode cX6_init 41 = .ok (.iconst 4, 1) := by decide +kernel
theorem dX6_init_42 : decode cX6_init 42 = .ok (.newarray .long, 2) := by decide +kernel
theorem dX6_init_44 : decode cX6_init 44 = .ok (.putfield 29, 3) := by decide +kernel
theorem dX6_init_47 : decode cX6_init 47 = .ok (.aload_n 0, 1) := by decide +kernel
theorem dX6_init_48 : decode cX6_init 48 = .ok (.new 32, 3) := by decide +kernel
theorem dX6_init_51 : decode cX6_init 51 = .ok (.dup, 1) := by decide +kernel
theorem dX6_init_52 : decode cX6_init 52 = .ok (.invokespecial 34, 3) := by decide +kernel
theorem dX6_init_55 : decode cX6_init 55 = .ok (.putfield 35, 3) := by decide +kernel
theorem dX6_init_58 : decode cX6_init 58 = .ok (.aload_n 0, 1) := by decide +kernel
theorem dX6_init_59 : decode cX6_init 59 = .ok (.new 32, 3) := by decide +kernel
theorem dX6_init_62 : decode cX6_init 62 = .ok (.dup, 1) := by decide +kernel
theorem dX6_init_63 : decode cX6_init 63 = .ok (.invokespecial 34, 3) := by decide +kernel
theorem dX6_init_66 : decode cX6_init 66 = .ok (.putfield 39, 3) := by decide +kernel
theorem dX6_init_69 : decode cX6_init 69 = .ok (.aload_n 0, 1) := by decide +kernel
theorem dX6_init_70 : decode cX6_init 70 = .ok (.new 32, 3) := by decide +kernel
theorem dX6_init_73 : decode cX6_init 73 = .ok (.dup, 1) := by decide +kernel
theorem dX6_init_74 : decode cX6_init 74 = .ok (.invokespecial 34, 3) := by decide +kernel
theorem dX6_init_77 : decode cX6_init 77 = .ok (.putfield 42, 3) := by decide +kernel
theorem dX6_init_80 : decode cX6_init 80 = .ok (.aload_n 0, 1) := by decide +kernel
theorem dX6_init_81 : decode cX6_init 81 = .ok (.aload_n 1, 1) := by decide +kernel
theorem dX6_init_82 : decode cX6_init 82 = .ok (.putfield 45, 3) := by decide +kernel
theorem dX6_init_85 : decode cX6_init 85 = .ok (.aload_n 0, 1) := by decide +kernel
theorem dX6_init_86 : decode cX6_init 86 = .ok (.aload_n 2, 1) := by decide +kernel
theorem dX6_init_87 : decode cX6_init 87 = .ok (.putfield 49, 3) := by decide +kernel
theorem dX6_init_90 : decode cX6_init 90 = .ok (.aload_n 0, 1) := by decide +kernel
theorem dX6_init_91 : decode cX6_init 91 = .ok (.aload_n 3, 1) := by decide +kernel
theorem dX6_init_92 : decode cX6_init 92 = .ok (.putfield 53, 3) := by decide +kernel
theorem dX6_init_95 : decode cX6_init 95 = .ok (.return_, 1) := by decide +kernel
theorem dX6_makeKey_0 : decode cX6_makeKey 0 = .ok (.aload_n 0, 1) := by decide +kernel
theorem dX6_makeKey_1 : decode cX6_makeKey 1 = .ok (.aload_n 1, 1) := by decide +kernel
theorem dX6_makeKey_2 : decode cX6_makeKey 2 = .ok (.invokevirtual 57, 3) := by decide +kernel
theorem dX6_makeKey_5 : decode cX6_makeKey 5 = .ok (.aload_n 0, 1) := by decide +kernel
theorem dX6_makeKey_6 : decode cX6_makeKey 6 = .ok (.getfield 45, 3) := by decide +kernel
theorem dX6_makeKey_9 : decode cX6_makeKey 9 = .ok (.aload_n 0, 1) := by decide +kernel
theorem dX6_makeKey_10 : decode cX6_makeKey 10 = .ok (.getfield 17, 3) := by decide +kernel
theorem dX6_makeKey_13 : decode cX6_makeKey 13 = .ok (.aload_n 0, 1) := by decide +kernel
theorem dX6_makeKey_14 : decode cX6_makeKey 14 = .ok (.getfield 45, 3) := by decide +kernel
theorem dX6_makeKey_17 : decode cX6_makeKey 17 = .ok (.getfield 61, 3) := by decide +kernel
theorem dX6_makeKey_20 : decode cX6_makeKey 20 = .ok (.aload_n 0, 1) := by decide +kernel
theorem dX6_makeKey_21 : decode cX6_makeKey 21 = .ok (.getfield 42, 3) := by decide +kernel
theorem dX6_makeKey_24 : decode cX6_makeKey 24 = .ok (.invokevirtual 66, 3) := by decide +kernel
theorem dX6_makeKey_27 : decode cX6_makeKey 27 = .ok (.aload_n 0, 1) := by decide +kernel
theorem dX6_makeKey_28 : decode cX6_makeKey 28 = .ok (.getfield 45, 3) := by decide +kernel
theorem dX6_makeKey_31 : decode cX6_makeKey 31 = .ok (.aload_n 0, 1) := by decide +kernel
theorem dX6_makeKey_32 : decode cX6_makeKey 32 = .ok (.getfield 42, 3) := by decide +kernel
theorem dX6_makeKey_35 : decode cX6_makeKey 35 = .ok (.aload_n 2, 1) := by decide +kernel
theorem dX6_makeKey_36 : decode cX6_makeKey 36 = .ok (.invokevirtual 70, 3) := by decide +kernel
theorem dX6_makeKey_39 : decode cX6_makeKey 39 = .ok (.return_, 1) := by decide +kernel
theorem dX6_makeSignature_0 : decode cX6_makeSignature 0 = .ok (.aload_n 0, 1) := by decide +kernel
theorem dX6_makeSignature_1 : decode cX6_makeSignature 1 = .ok (.aload_n 1, 1) := by decide +kernel
theorem dX6_makeSignature_2 : decode cX6_makeSignature 2 = .ok (.invokevirtual 57, 3) := by decide +kernel
theorem dX6_makeSignature_5 : decode cX6_makeSignature 5 = .ok (.aload_n 0, 1) := by decide +kernel
theorem dX6_makeSignature_6 : decode cX6_makeSignature 6 = .ok (.getfield 45, 3) := by decide +kernel
theorem dX6_makeSignature_9 : decode cX6_makeSignature 9 = .ok (.aload_n 0, 1) := by decide +kernel
theorem dX6_makeSignature_10 : decode cX6_makeSignature 10 = .ok (.getfield 17, 3) := by decide +kernel
theorem dX6_makeSignature_13 : decode cX6_makeSignature 13 = .ok (.aload_n 0, 1) := by decide +kernel
theorem dX6_makeSignature_14 : decode cX6_makeSignature 14 = .ok (.getfield 45, 3) := by decide +kernel
theorem dX6_makeSignature_17 : decode cX6_makeSignature 17 = .ok (.getfield 61, 3) := by decide +kernel
theorem dX6_makeSignature_20 : decode cX6_makeSignature 20 = .ok (.aload_n 0, 1) := by decide +kernel
theorem dX6_makeSignature_21 : decode cX6_makeSignature 21 = .ok (.getfield 42, 3) := by decide +kernel
theorem dX6_makeSignature_24 : decode cX6_makeSignature 24 = .ok (.invokevirtual 66, 3) := by decide +kernel
theorem dX6_makeSignature_27 : decode cX6_makeSignature 27 = .ok (.aload_n 0, 1) := by decide +kernel
theorem dX6_makeSignature_28 : decode cX6_makeSignature 28 = .ok (.getfield 45, 3) := by decide +kernel
theorem dX6_makeSignature_31 : decode cX6_makeSignature 31 = .ok (.aload_n 0, 1) := by decide +kernel
theorem dX6_makeSignature_32 : decode cX6_makeSignature 32 = .ok (.getfield 42, 3) := by decide +kernel
theorem dX6_makeSignature_35 : decode cX6_makeSignature 35 = .ok (.aload_n 0, 1) := by decide +kernel
theorem dX6_makeSignature_36 : decode cX6_makeSignature 36 = .ok (.getfield 29, 3) := by decide +kernel
theorem dX6_makeSignature_39 : decode cX6_makeSignature 39 = .ok (.invokevirtual 70, 3) := by decide +kernel
theorem dX6_makeSignature_42 : decode cX6_makeSignature 42 = .ok (.aload_n 0, 1) := by decide +kernel
theorem dX6_makeSignature_43 : decode cX6_makeSignature 43 = .ok (.getfield 53, 3) := by decide +kernel
theorem dX6_makeSignature_46 : decode cX6_makeSignature 46 = .ok (.invokevirtual 74, 3) := by decide +kernel
theorem dX6_makeSignature_49 : decode cX6_makeSignature 49 = .ok (.aload_n 0, 1) := by decide +kernel
theorem dX6_makeSignature_50 : decode cX6_makeSignature 50 = .ok (.getfield 53, 3) := by decide +kernel
theorem dX6_makeSignature_53 : decode cX6_makeSignature 53 = .ok (.aload_n 0, 1) := by decide +kernel
theorem dX6_makeSignature_54 : decode cX6_makeSignature 54 = .ok (.getfield 20, 3) := by decide +kernel
theorem dX6_makeSignature_57 : decode cX6_makeSignature 57 = .ok (.invokevirtual 77, 3) := by decide +kernel
theorem dX6_makeSignature_60 : decode cX6_makeSignature 60 = .ok (.aload_n 0, 1) := by decide +kernel
theorem dX6_makeSignature_61 : decode cX6_makeSignature 61 = .ok (.getfield 53, 3) := by decide +kernel
theorem dX6_makeSignature_64 : decode cX6_makeSignature 64 = .ok (.aload_n 2, 1) := by decide +kernel
theorem dX6_makeSignature_65 : decode cX6_makeSignature 65 = .ok (.invokevirtual 80, 3) := by decide +kernel
theorem dX6_makeSignature_68 : decode cX6_makeSignature 68 = .ok (.aload_n 0, 1) := by decide +kernel
theorem dX6_makeSignature_69 : decode cX6_makeSignature 69 = .ok (.getfield 53, 3) := by decide +kernel
theorem dX6_makeSignature_72 : decode cX6_makeSignature 72 = .ok (.aload_n 0, 1) := by decide +kernel
theorem dX6_makeSignature_73 : decode cX6_makeSignature 73 = .ok (.getfield 9, 3) := by decide +kernel
theorem dX6_makeSignature_76 : decode cX6_makeSignature 76 = .ok (.invokevirtual 84, 3) := by decide +kernel
theorem dX6_makeSignature_79 : decode cX6_makeSignature 79 = .ok (.aload_n 0, 1) := by decide +kernel
theorem dX6_makeSignature_80 : decode cX6_makeSignature 80 = .ok (.getfield 9, 3) := by decide +kernel
theorem dX6_makeSignature_83 : decode cX6_makeSignature 83 = .ok (.sipush 512, 3) := by decide +kernel
theorem dX6_makeSignature_86 : decode cX6_makeSignature 86 = .ok (.aload_n 0, 1) := by decide +kernel
theorem dX6_makeSignature_87 : decode cX6_makeSignature 87 = .ok (.getfield 23, 3) := by decide +kernel
theorem dX6_makeSignature_90 : decode cX6_makeSignature 90 = .ok (.invokestatic 87, 3) := by decide +kernel
theorem dX6_makeSignature_93 : decode cX6_makeSignature 93 = .ok (.aload_n 0, 1) := by decide +kernel
theorem dX6_makeSignature_94 : decode cX6_makeSignature 94 = .ok (.getfield 45, 3) := by decide +kernel
theorem dX6_makeSignature_97 : decode cX6_makeSignature 97 = .ok (.aload_n 0, 1) := by decide +kernel
theorem dX6_makeSignature_98 : decode cX6_makeSignature 98 = .ok (.getfield 23, 3) := by decide +kernel
theorem dX6_makeSignature_101 : decode cX6_makeSignature 101 = .ok (.aload_n 0, 1) := by decide +kernel
theorem dX6_makeSignature_102 : decode cX6_makeSignature 102 = .ok (.getfield 45, 3) := by decide +kernel
theorem dX6_makeSignature_105 : decode cX6_makeSignature 105 = .ok (.getfield 61, 3) := by decide +kernel
theorem dX6_makeSignature_108 : decode cX6_makeSignature 108 = .ok (.aload_n 0, 1) := by decide +kernel
theorem dX6_makeSignature_109 : decode cX6_makeSignature 109 = .ok (.getfield 42, 3) := by decide +kernel
theorem dX6_makeSignature_112 : decode cX6_makeSignature 112 = .ok (.invokevirtual 66, 3) := by decide +kernel
theorem dX6_makeSignature_115 : decode cX6_makeSignature 115 = .ok (.aload_n 0, 1) := by decide +kernel
theorem dX6_makeSignature_116 : decode cX6_makeSignature 116 = .ok (.getfield 45, 3) := by decide +kernel
theorem dX6_makeSignature_119 : decode cX6_makeSignature 119 = .ok (.aload_n 0, 1) := by decide +kernel
theorem dX6_makeSignature_120 : decode cX6_makeSignature 120 = .ok (.getfield 42, 3) := by decide +kernel
theorem dX6_makeSignature_123 : decode cX6_makeSignature 123 = .ok (.aload_n 3, 1) := by decide +kernel
theorem dX6_makeSignature_124 : decode cX6_makeSignature 124 = .ok (.invokevirtual 70, 3) := by decide +kernel
theorem dX6_makeSignature_127 : decode cX6_makeSignature 127 = .ok (.aload_n 0, 1) := by decide +kernel
theorem dX6_makeSignature_128 : decode cX6_makeSignature 128 = .ok (.aload_n 3, 1) := by decide +kernel
theorem dX6_makeSignature_129 : decode cX6_makeSignature 129 = .ok (.aload_n 0, 1) := by decide +kernel
theorem dX6_makeSignature_130 : decode cX6_makeSignature 130 = .ok (.getfield 29, 3) := by decide +kernel
theorem dX6_makeSignature_133 : decode cX6_makeSignature 133 = .ok (.aload_n 2, 1) := by decide +kernel
theorem dX6_makeSignature_134 : decode cX6_makeSignature 134 = .ok (.invokevirtual 93, 3) := by decide +kernel
theorem dX6_makeSignature_137 : decode cX6_makeSignature 137 = .ok (.aload_n 0, 1) := by decide +kernel
theorem dX6_makeSignature_138 : decode cX6_makeSignature 138 = .ok (.getfield 49, 3) := by decide +kernel
theorem dX6_makeSignature_141 : decode cX6_makeSignature 141 = .ok (.aload_n 0, 1) := by decide +kernel
theorem dX6_makeSignature_142 : decode cX6_makeSignature 142 = .ok (.getfield 26, 3) := by decide +kernel
theorem dX6_makeSignature_145 : decode cX6_makeSignature 145 = .ok (.aload_n 0, 1) := by decide +kernel
theorem dX6_makeSignature_146 : decode cX6_makeSignature 146 = .ok (.getfield 17, 3) := by decide +kernel
theorem dX6_makeSignature_149 : decode cX6_makeSignature 149 = .ok (.aload_n 0, 1) := by decide +kernel
theorem dX6_makeSignature_150 : decode cX6_makeSignature 150 = .ok (.getfield 23, 3) := by decide +kernel
theorem dX6_makeSignature_153 : decode cX6_makeSignature 153 = .ok (.aload 4, 2) := by decide +kernel
theorem dX6_makeSignature_155 : decode cX6_makeSignature 155 = .ok (.invokevirtual 97, 3) := by decide +kernel
theorem dX6_makeSignature_158 : decode cX6_makeSignature 158 = .ok (.return_, 1) := by decide +kernel
theorem dX6_isRight_0 : decode cX6_isRight 0 = .ok (.aload_n 3, 1) := by decide +kernel
theorem dX6_isRight_1 : decode cX6_isRight 1 = .ok (.invokestatic 101, 3) := by decide +kernel
theorem dX6_isRight_4 : decode cX6_isRight 4 = .ok (.ifCond .ne 5, 3) := by decide +kernel
theorem dX6_isRight_7 : decode cX6_isRight 7 = .ok (.iconst 0, 1) := by decide +kernel
theorem dX6_isRight_8 : decode cX6_isRight 8 = .ok (.ireturn, 1) := by decide +kernel
theorem dX6_isRight_9 : decode cX6_isRight 9 = .ok (.aload_n 0, 1) := by decide +kernel
theorem dX6_isRight_10 : decode cX6_isRight 10 = .ok (.getfield 45, 3) := by decide +kernel
theorem dX6_isRight_13 : decode cX6_isRight 13 = .ok (.aload_n 1, 1) := by decide +kernel
theorem dX6_isRight_14 : decode cX6_isRight 14 = .ok (.aload_n 0, 1) := by decide +kernel
theorem dX6_isRight_15 : decode cX6_isRight 15 = .ok (.getfield 35, 3) := by decide +kernel
theorem dX6_isRight_18 : decode cX6_isRight 18 = .ok (.invokevirtual 105, 3) := by decide +kernel
theorem dX6_isRight_21 : decode cX6_isRight 21 = .ok (.ifCond .eq 18, 3) := by decide +kernel
theorem dX6_isRight_24 : decode cX6_isRight 24 = .ok (.aload_n 0, 1) := by decide +kernel
theorem dX6_isRight_25 : decode cX6_isRight 25 = .ok (.getfield 45, 3) := by decide +kernel
theorem dX6_isRight_28 : decode cX6_isRight 28 = .ok (.aload_n 2, 1) := by decide +kernel
theorem dX6_isRight_29 : decode cX6_isRight 29 = .ok (.aload_n 0, 1) := by decide +kernel
theorem dX6_isRight_30 : decode cX6_isRight 30 = .ok (.getfield 39, 3) := by decide +kernel
theorem dX6_isRight_33 : decode cX6_isRight 33 = .ok (.invokevirtual 105, 3) := by decide +kernel
theorem dX6_isRight_36 : decode cX6_isRight 36 = .ok (.ifCond .ne 5, 3) := by decide +kernel
theorem dX6_isRight_39 : decode cX6_isRight 39 = .ok (.iconst 0, 1) := by decide +kernel
theorem dX6_isRight_40 : decode cX6_isRight 40 = .ok (.ireturn, 1) := by decide +kernel
theorem dX6_isRight_41 : decode cX6_isRight 41 = .ok (.aload_n 0, 1) := by decide +kernel
theorem dX6_isRight_42 : decode cX6_isRight 42 = .ok (.aload_n 2, 1) := by decide +kernel
theorem dX6_isRight_43 : decode cX6_isRight 43 = .ok (.aload_n 1, 1) := by decide +kernel
theorem dX6_isRight_44 : decode cX6_isRight 44 = .ok (.aload 4, 2) := by decide +kernel
theorem dX6_isRight_46 : decode cX6_isRight 46 = .ok (.invokevirtual 93, 3) := by decide +kernel
theorem dX6_isRight_49 : decode cX6_isRight 49 = .ok (.aload_n 0, 1) := by decide +kernel
theorem dX6_isRight_50 : decode cX6_isRight 50 = .ok (.getfield 45, 3) := by decide +kernel
theorem dX6_isRight_53 : decode cX6_isRight 53 = .ok (.aload_n 0, 1) := by decide +kernel
theorem dX6_isRight_54 : decode cX6_isRight 54 = .ok (.getfield 26, 3) := by decide +kernel
theorem dX6_isRight_57 : decode cX6_isRight 57 = .ok (.aload_n 0, 1) := by decide +kernel
theorem dX6_isRight_58 : decode cX6_isRight 58 = .ok (.getfield 35, 3) := by decide +kernel
theorem dX6_isRight_61 : decode cX6_isRight 61 = .ok (.aload_n 0, 1) := by decide +kernel
theorem dX6_isRight_62 : decode cX6_isRight 62 = .ok (.getfield 35, 3) := by decide +kernel
theorem dX6_isRight_65 : decode cX6_isRight 65 = .ok (.invokevirtual 66, 3) := by decide +kernel
theorem dX6_isRight_68 : decode cX6_isRight 68 = .ok (.aload_n 0, 1) := by decide +kernel
theorem dX6_isRight_69 : decode cX6_isRight 69 = .ok (.getfield 45, 3) := by decide +kernel
theorem dX6_isRight_72 : decode cX6_isRight 72 = .ok (.aload_n 0, 1) := by decide +kernel
theorem dX6_isRight_73 : decode cX6_isRight 73 = .ok (.getfield 35, 3) := by decide +kernel
theorem dX6_isRight_76 : decode cX6_isRight 76 = .ok (.aload_n 0, 1) := by decide +kernel
theorem dX6_isRight_77 : decode cX6_isRight 77 = .ok (.getfield 39, 3) := by decide +kernel
theorem dX6_isRight_80 : decode cX6_isRight 80 = .ok (.aload_n 0, 1) := by decide +kernel
theorem dX6_isRight_81 : decode cX6_isRight 81 = .ok (.getfield 35, 3) := by decide +kernel
theorem dX6_isRight_84 : decode cX6_isRight 84 = .ok (.invokevirtual 109, 3) := by decide +kernel
theorem dX6_isRight_87 : decode cX6_isRight 87 = .ok (.aload_n 0, 1) := by decide +kernel
theorem dX6_isRight_88 : decode cX6_isRight 88 = .ok (.getfield 45, 3) := by decide +kernel
theorem dX6_isRight_91 : decode cX6_isRight 91 = .ok (.aload_n 0, 1) := by decide +kernel
theorem dX6_isRight_92 : decode cX6_isRight 92 = .ok (.getfield 35, 3) := by decide +kernel
theorem dX6_isRight_95 : decode cX6_isRight 95 = .ok (.invokevirtual 113, 3) := by decide +kernel
theorem dX6_isRight_98 : decode cX6_isRight 98 = .ok (.aload_n 0, 1) := by decide +kernel
theorem dX6_isRight_99 : decode cX6_isRight 99 = .ok (.getfield 45, 3) := by decide +kernel
theorem dX6_isRight_102 : decode cX6_isRight 102 = .ok (.aload_n 3, 1) := by decide +kernel
theorem dX6_isRight_103 : decode cX6_isRight 103 = .ok (.aload_n 0, 1) := by decide +kernel
theorem dX6_isRight_104 : decode cX6_isRight 104 = .ok (.getfield 45, 3) := by decide +kernel
theorem dX6_isRight_107 : decode cX6_isRight 107 = .ok (.getfield 61, 3) := by decide +kernel
theorem dX6_isRight_110 : decode cX6_isRight 110 = .ok (.aload_n 0, 1) := by decide +kernel
theorem dX6_isRight_111 : decode cX6_isRight 111 = .ok (.getfield 42, 3) := by decide +kernel
theorem dX6_isRight_114 : decode cX6_isRight 114 = .ok (.invokevirtual 66, 3) := by decide +kernel
theorem dX6_isRight_117 : decode cX6_isRight 117 = .ok (.aload_n 0, 1) := by decide +kernel
theorem dX6_isRight_118 : decode cX6_isRight 118 = .ok (.getfield 45, 3) := by decide +kernel
theorem dX6_isRight_121 : decode cX6_isRight 121 = .ok (.aload_n 0, 1) := by decide +kernel
theorem dX6_isRight_122 : decode cX6_isRight 122 = .ok (.getfield 42, 3) := by decide +kernel
theorem dX6_isRight_125 : decode cX6_isRight 125 = .ok (.aload_n 0, 1) := by decide +kernel
theorem dX6_isRight_126 : decode cX6_isRight 126 = .ok (.getfield 35, 3) := by decide +kernel
theorem dX6_isRight_129 : decode cX6_isRight 129 = .ok (.aload_n 0, 1) := by decide +kernel
theorem dX6_isRight_130 : decode cX6_isRight 130 = .ok (.getfield 42, 3) := by decide +kernel
theorem dX6_isRight_133 : decode cX6_isRight 133 = .ok (.invokevirtual 109, 3) := by decide +kernel
theorem dX6_isRight_136 : decode cX6_isRight 136 = .ok (.iconst 0, 1) := by decide +kernel
theorem dX6_isRight_137 : decode cX6_isRight 137 = .ok (.istore 5, 2) := by decide +kernel
theorem dX6_isRight_139 : decode cX6_isRight 139 = .ok (.iload 5, 2) := by decide +kernel
theorem dX6_isRight_141 : decode cX6_isRight 141 = .ok (.iconst 3, 1) := by decide +kernel
theorem dX6_isRight_142 : decode cX6_isRight 142 = .ok (.if_icmp .ge 24, 3) := by decide +kernel
theorem dX6_isRight_145 : decode cX6_isRight 145 = .ok (.aload_n 0, 1) := by decide +kernel
theorem dX6_isRight_146 : decode cX6_isRight 146 = .ok (.getfield 45, 3) := by decide +kernel
theorem dX6_isRight_149 : decode cX6_isRight 149 = .ok (.aload_n 0, 1) := by decide +kernel
theorem dX6_isRight_150 : decode cX6_isRight 150 = .ok (.getfield 42, 3) := by decide +kernel
theorem dX6_isRight_153 : decode cX6_isRight 153 = .ok (.aload_n 0, 1) := by decide +kernel
theorem dX6_isRight_154 : decode cX6_isRight 154 = .ok (.getfield 42, 3) := by decide +kernel
theorem dX6_isRight_157 : decode cX6_isRight 157 = .ok (.invokevirtual 117, 3) := by decide +kernel
theorem dX6_isRight_160 : decode cX6_isRight 160 = .ok (.iinc 5 1, 3) := by decide +kernel
theorem dX6_isRight_163 : decode cX6_isRight 163 = .ok (.goto (-24), 3) := by decide +kernel
theorem dX6_isRight_166 : decode cX6_isRight 166 = .ok (.aload_n 0, 1) := by decide +kernel
theorem dX6_isRight_167 : decode cX6_isRight 167 = .ok (.getfield 45, 3) := by decide +kernel
theorem dX6_isRight_170 : decode cX6_isRight 170 = .ok (.aload_n 0, 1) := by decide +kernel
theorem dX6_isRight_171 : decode cX6_isRight 171 = .ok (.getfield 42, 3) := by decide +kernel
theorem dX6_isRight_174 : decode cX6_isRight 174 = .ok (.invokevirtual 121, 3) := by decide +kernel
theorem dX6_isRight_177 : decode cX6_isRight 177 = .ok (.ireturn, 1) := by decide +kernel
theorem dX6_unfold_0 : decode cX6_unfold 0 = .ok (.aload_n 0, 1) := by decide +kernel
theorem dX6_unfold_1 : decode cX6_unfold 1 = .ok (.getfield 53, 3) := by decide +kernel
theorem dX6_unfold_4 : decode cX6_unfold 4 = .ok (.invokevirtual 74, 3) := by decide +kernel
theorem dX6_unfold_7 : decode cX6_unfold 7 = .ok (.aload_n 0, 1) := by decide +kernel
theorem dX6_unfold_8 : decode cX6_unfold 8 = .ok (.getfield 53, 3) := by decide +kernel
theorem dX6_unfold_11 : decode cX6_unfold 11 = .ok (.aload_n 1, 1) := by decide +kernel
theorem dX6_unfold_12 : decode cX6_unfold 12 = .ok (.invokevirtual 77, 3) := by decide +kernel
theorem dX6_unfold_15 : decode cX6_unfold 15 = .ok (.aload_n 0, 1) := by decide +kernel
theorem dX6_unfold_16 : decode cX6_unfold 16 = .ok (.getfield 53, 3) := by decide +kernel
theorem dX6_unfold_19 : decode cX6_unfold 19 = .ok (.aload_n 0, 1) := by decide +kernel
theorem dX6_unfold_20 : decode cX6_unfold 20 = .ok (.getfield 9, 3) := by decide +kernel
theorem dX6_unfold_23 : decode cX6_unfold 23 = .ok (.invokevirtual 84, 3) := by decide +kernel
theorem dX6_unfold_26 : decode cX6_unfold 26 = .ok (.aload_n 0, 1) := by decide +kernel
theorem dX6_unfold_27 : decode cX6_unfold 27 = .ok (.getfield 9, 3) := by decide +kernel
theorem dX6_unfold_30 : decode cX6_unfold 30 = .ok (.iconst 0, 1) := by decide +kernel
theorem dX6_unfold_31 : decode cX6_unfold 31 = .ok (.aload_n 0, 1) := by decide +kernel
theorem dX6_unfold_32 : decode cX6_unfold 32 = .ok (.getfield 17, 3) := by decide +kernel
theorem dX6_unfold_35 : decode cX6_unfold 35 = .ok (.iconst 0, 1) := by decide +kernel
theorem dX6_unfold_36 : decode cX6_unfold 36 = .ok (.iconst 4, 1) := by decide +kernel
theorem dX6_unfold_37 : decode cX6_unfold 37 = .ok (.invokestatic 125, 3) := by decide +kernel
theorem dX6_unfold_40 : decode cX6_unfold 40 = .ok (.aload_n 0, 1) := by decide +kernel
theorem dX6_unfold_41 : decode cX6_unfold 41 = .ok (.getfield 9, 3) := by decide +kernel
theorem dX6_unfold_44 : decode cX6_unfold 44 = .ok (.iconst 4, 1) := by decide +kernel
theorem dX6_unfold_45 : decode cX6_unfold 45 = .ok (.aload_n 0, 1) := by decide +kernel
theorem dX6_unfold_46 : decode cX6_unfold 46 = .ok (.getfield 20, 3) := by decide +kernel
theorem dX6_unfold_49 : decode cX6_unfold 49 = .ok (.iconst 0, 1) := by decide +kernel
theorem dX6_unfold_50 : decode cX6_unfold 50 = .ok (.iconst 4, 1) := by decide +kernel
theorem dX6_unfold_51 : decode cX6_unfold 51 = .ok (.invokestatic 125, 3) := by decide +kernel
theorem dX6_unfold_54 : decode cX6_unfold 54 = .ok (.aload_n 0, 1) := by decide +kernel
theorem dX6_unfold_55 : decode cX6_unfold 55 = .ok (.getfield 17, 3) := by decide +kernel
theorem dX6_unfold_58 : decode cX6_unfold 58 = .ok (.invokestatic 131, 3) := by decide +kernel
theorem dX6_unfold_61 : decode cX6_unfold 61 = .ok (.return_, 1) := by decide +kernel
theorem dX6_findChallenge_0 : decode cX6_findChallenge 0 = .ok (.aload_n 0, 1) := by decide +kernel
theorem dX6_findChallenge_1 : decode cX6_findChallenge 1 = .ok (.getfield 53, 3) := by decide +kernel
theorem dX6_findChallenge_4 : decode cX6_findChallenge 4 = .ok (.invokevirtual 74, 3) := by decide +kernel
theorem dX6_findChallenge_7 : decode cX6_findChallenge 7 = .ok (.aload_n 0, 1) := by decide +kernel
theorem dX6_findChallenge_8 : decode cX6_findChallenge 8 = .ok (.getfield 53, 3) := by decide +kernel
theorem dX6_findChallenge_11 : decode cX6_findChallenge 11 = .ok (.aload_n 1, 1) := by decide +kernel
theorem dX6_findChallenge_12 : decode cX6_findChallenge 12 = .ok (.invokevirtual 77, 3) := by decide +kernel
theorem dX6_findChallenge_15 : decode cX6_findChallenge 15 = .ok (.aload_n 0, 1) := by decide +kernel
theorem dX6_findChallenge_16 : decode cX6_findChallenge 16 = .ok (.getfield 53, 3) := by decide +kernel
theorem dX6_findChallenge_19 : decode cX6_findChallenge 19 = .ok (.aload_n 2, 1) := by decide +kernel
theorem dX6_findChallenge_20 : decode cX6_findChallenge 20 = .ok (.invokevirtual 77, 3) := by decide +kernel
theorem dX6_findChallenge_23 : decode cX6_findChallenge 23 = .ok (.aload_n 0, 1) := by decide +kernel
theorem dX6_findChallenge_24 : decode cX6_findChallenge 24 = .ok (.getfield 53, 3) := by decide +kernel
theorem dX6_findChallenge_27 : decode cX6_findChallenge 27 = .ok (.aload_n 3, 1) := by decide +kernel
theorem dX6_findChallenge_28 : decode cX6_findChallenge 28 = .ok (.invokevirtual 80, 3) := by decide +kernel
theorem dX6_findChallenge_31 : decode cX6_findChallenge 31 = .ok (.aload_n 0, 1) := by decide +kernel
theorem dX6_findChallenge_32 : decode cX6_findChallenge 32 = .ok (.getfield 53, 3) := by decide +kernel
theorem dX6_findChallenge_35 : decode cX6_findChallenge 35 = .ok (.aload_n 0, 1) := by decide +kernel
theorem dX6_findChallenge_36 : decode cX6_findChallenge 36 = .ok (.getfield 9, 3) := by decide +kernel
theorem dX6_findChallenge_39 : decode cX6_findChallenge 39 = .ok (.invokevirtual 84, 3) := by decide +kernel
theorem dX6_findChallenge_42 : decode cX6_findChallenge 42 = .ok (.aload_n 0, 1) := by decide +kernel
theorem dX6_findChallenge_43 : decode cX6_findChallenge 43 = .ok (.getfield 9, 3) := by decide +kernel
theorem dX6_findChallenge_46 : decode cX6_findChallenge 46 = .ok (.sipush 512, 3) := by decide +kernel
theorem dX6_findChallenge_49 : decode cX6_findChallenge 49 = .ok (.aload_n 0, 1) := by decide +kernel
theorem dX6_findChallenge_50 : decode cX6_findChallenge 50 = .ok (.getfield 26, 3) := by decide +kernel
theorem dX6_findChallenge_53 : decode cX6_findChallenge 53 = .ok (.invokestatic 87, 3) := by decide +kernel
theorem dX6_findChallenge_56 : decode cX6_findChallenge 56 = .ok (.return_, 1) := by decide +kernel
theorem dX7_init_0 : decode cX7_init 0 = .ok (.aload_n 0, 1) := by decide +kernel
theorem dX7_init_1 : decode cX7_init 1 = .ok (.invokespecial 1, 3) := by decide +kernel
theorem dX7_init_4 : decode cX7_init 4 = .ok (.aload_n 0, 1) := by decide +kernel
theorem dX7_init_5 : decode cX7_init 5 = .ok (.sipush 400, 3) := by decide +kernel
theorem dX7_init_8 : decode cX7_init 8 = .ok (.newarray .byte, 2) := by decide +kernel
theorem dX7_init_10 : decode cX7_init 10 = .ok (.putfield 9, 3) := by decide +kernel
theorem dX7_init_13 : decode cX7_init 13 = .ok (.aload_n 0, 1) := by decide +kernel
theorem dX7_init_14 : decode cX7_init 14 = .ok (.iconst 0, 1) := by decide +kernel
theorem dX7_init_15 : decode cX7_init 15 = .ok (.putfield 13, 3) := by decide +kernel
theorem dX7_init_18 : decode cX7_init 18 = .ok (.return_, 1) := by decide +kernel
theorem dX7_append_0 : decode cX7_append 0 = .ok (.iconst 0, 1) := by decide +kernel
theorem dX7_append_1 : decode cX7_append 1 = .ok (.istore 4, 2) := by decide +kernel
theorem dX7_append_3 : decode cX7_append 3 = .ok (.iload 4, 2) := by decide +kernel
theorem dX7_append_5 : decode cX7_append 5 = .ok (.iload_n 3, 1) := by decide +kernel
theorem dX7_append_6 : decode cX7_append 6 = .ok (.if_icmp .ge 47, 3) := by decide +kernel
theorem dX7_append_9 : decode cX7_append 9 = .ok (.aload_n 0, 1) := by decide +kernel
theorem dX7_append_10 : decode cX7_append 10 = .ok (.getfield 13, 3) := by decide +kernel
theorem dX7_append_13 : decode cX7_append 13 = .ok (.sipush 400, 3) := by decide +kernel
theorem dX7_append_16 : decode cX7_append 16 = .ok (.if_icmp .ge 37, 3) := by decide +kernel
theorem dX7_append_19 : decode cX7_append 19 = .ok (.aload_n 0, 1) := by decide +kernel
theorem dX7_append_20 : decode cX7_append 20 = .ok (.getfield 9, 3) := by decide +kernel
theorem dX7_append_23 : decode cX7_append 23 = .ok (.aload_n 0, 1) := by decide +kernel
theorem dX7_append_24 : decode cX7_append 24 = .ok (.getfield 13, 3) := by decide +kernel
theorem dX7_append_27 : decode cX7_append 27 = .ok (.lload_n 1, 1) := by decide +kernel
theorem dX7_append_28 : decode cX7_append 28 = .ok (.bipush 8, 2) := by decide +kernel
theorem dX7_append_30 : decode cX7_append 30 = .ok (.iload 4, 2) := by decide +kernel
theorem dX7_append_32 : decode cX7_append 32 = .ok (.imul, 1) := by decide +kernel
theorem dX7_append_33 : decode cX7_append 33 = .ok (.lushr, 1) := by decide +kernel
theorem dX7_append_34 : decode cX7_append 34 = .ok (.l2i, 1) := by decide +kernel
theorem dX7_append_35 : decode cX7_append 35 = .ok (.i2b, 1) := by decide +kernel
theorem dX7_append_36 : decode cX7_append 36 = .ok (.bastore, 1) := by decide +kernel
theorem dX7_append_37 : decode cX7_append 37 = .ok (.aload_n 0, 1) := by decide +kernel
theorem dX7_append_38 : decode cX7_append 38 = .ok (.dup, 1) := by decide +kernel
theorem dX7_append_39 : decode cX7_append 39 = .ok (.getfield 13, 3) := by decide +kernel
theorem dX7_append_42 : decode cX7_append 42 = .ok (.iconst 1, 1) := by decide +kernel
theorem dX7_append_43 : decode cX7_append 43 = .ok (.iadd, 1) := by decide +kernel
theorem dX7_append_44 : decode cX7_append 44 = .ok (.putfield 13, 3) := by decide +kernel
theorem dX7_append_47 : decode cX7_append 47 = .ok (.iinc 4 1, 3) := by decide +kernel
theorem dX7_append_50 : decode cX7_append 50 = .ok (.goto (-47), 3) := by decide +kernel
theorem dX7_append_53 : decode cX7_append 53 = .ok (.return_, 1) := by decide +kernel
theorem dX7_byteAt_0 : decode cX7_byteAt 0 = .ok (.aload_n 0, 1) := by decide +kernel
theorem dX7_byteAt_1 : decode cX7_byteAt 1 = .ok (.getfield 9, 3) := by decide +kernel
theorem dX7_byteAt_4 : decode cX7_byteAt 4 = .ok (.iload_n 1, 1) := by decide +kernel
theorem dX7_byteAt_5 : decode cX7_byteAt 5 = .ok (.baload, 1) := by decide +kernel
theorem dX7_byteAt_6 : decode cX7_byteAt 6 = .ok (.sipush 255, 3) := by decide +kernel
theorem dX7_byteAt_9 : decode cX7_byteAt 9 = .ok (.iand, 1) := by decide +kernel
theorem dX7_byteAt_10 : decode cX7_byteAt 10 = .ok (.ireturn, 1) := by decide +kernel
theorem dX8_bit_0 : decode cX8_bit 0 = .ok (.aload_n 0, 1) := by decide +kernel
theorem dX8_bit_1 : decode cX8_bit 1 = .ok (.iload_n 1, 1) := by decide +kernel
theorem dX8_bit_2 : decode cX8_bit 2 = .ok (.bipush 6, 2) := by decide +kernel
theorem dX8_bit_4 : decode cX8_bit 4 = .ok (.ishr, 1) := by decide +kernel
theorem dX8_bit_5 : decode cX8_bit 5 = .ok (.laload, 1) := by decide +kernel
theorem dX8_bit_6 : decode cX8_bit 6 = .ok (.iload_n 1, 1) := by decide +kernel
theorem dX8_bit_7 : decode cX8_bit 7 = .ok (.bipush 63, 2) := by decide +kernel
theorem dX8_bit_9 : decode cX8_bit 9 = .ok (.iand, 1) := by decide +kernel
theorem dX8_bit_10 : decode cX8_bit 10 = .ok (.lushr, 1) := by decide +kernel
theorem dX8_bit_11 : decode cX8_bit 11 = .ok (.l2i, 1) := by decide +kernel
theorem dX8_bit_12 : decode cX8_bit 12 = .ok (.iconst 1, 1) := by decide +kernel
theorem dX8_bit_13 : decode cX8_bit 13 = .ok (.iand, 1) := by decide +kernel
theorem dX8_bit_14 : decode cX8_bit 14 = .ok (.ireturn, 1) := by decide +kernel
theorem dX8_nibble_0 : decode cX8_nibble 0 = .ok (.aload_n 0, 1) := by decide +kernel
theorem dX8_nibble_1 : decode cX8_nibble 1 = .ok (.iload_n 1, 1) := by decide +kernel
theorem dX8_nibble_2 : decode cX8_nibble 2 = .ok (.iconst 4, 1) := by decide +kernel
theorem dX8_nibble_3 : decode cX8_nibble 3 = .ok (.ishr, 1) := by decide +kernel
theorem dX8_nibble_4 : decode cX8_nibble 4 = .ok (.laload, 1) := by decide +kernel
theorem dX8_nibble_5 : decode cX8_nibble 5 = .ok (.iconst 4, 1) := by decide +kernel
theorem dX8_nibble_6 : decode cX8_nibble 6 = .ok (.iload_n 1, 1) := by decide +kernel
theorem dX8_nibble_7 : decode cX8_nibble 7 = .ok (.bipush 15, 2) := by decide +kernel
theorem dX8_nibble_9 : decode cX8_nibble 9 = .ok (.iand, 1) := by decide +kernel
theorem dX8_nibble_10 : decode cX8_nibble 10 = .ok (.imul, 1) := by decide +kernel
theorem dX8_nibble_11 : decode cX8_nibble 11 = .ok (.lushr, 1) := by decide +kernel
theorem dX8_nibble_12 : decode cX8_nibble 12 = .ok (.l2i, 1) := by decide +kernel
theorem dX8_nibble_13 : decode cX8_nibble 13 = .ok (.bipush 15, 2) := by decide +kernel
theorem dX8_nibble_15 : decode cX8_nibble 15 = .ok (.iand, 1) := by decide +kernel
theorem dX8_nibble_16 : decode cX8_nibble 16 = .ok (.ireturn, 1) := by decide +kernel
theorem dX8_move_0 : decode cX8_move 0 = .ok (.aload_n 0, 1) := by decide +kernel
theorem dX8_move_1 : decode cX8_move 1 = .ok (.iconst 0, 1) := by decide +kernel
theorem dX8_move_2 : decode cX8_move 2 = .ok (.aload_n 1, 1) := by decide +kernel
theorem dX8_move_3 : decode cX8_move 3 = .ok (.iconst 0, 1) := by decide +kernel
theorem dX8_move_4 : decode cX8_move 4 = .ok (.iconst 4, 1) := by decide +kernel
theorem dX8_move_5 : decode cX8_move 5 = .ok (.invokestatic 9, 3) := by decide +kernel
theorem dX8_move_8 : decode cX8_move 8 = .ok (.return_, 1) := by decide +kernel
theorem dX8_order_0 : decode cX8_order 0 = .ok (.iconst 3, 1) := by decide +kernel
theorem dX8_order_1 : decode cX8_order 1 = .ok (.istore_n 2, 1) := by decide +kernel
theorem dX8_order_2 : decode cX8_order 2 = .ok (.iload_n 2, 1) := by decide +kernel
theorem dX8_order_3 : decode cX8_order 3 = .ok (.ifCond .lt 43, 3) := by decide +kernel
theorem dX8_order_6 : decode cX8_order 6 = .ok (.aload_n 0, 1) := by decide +kernel
theorem dX8_order_7 : decode cX8_order 7 = .ok (.iload_n 2, 1) := by decide +kernel
theorem dX8_order_8 : decode cX8_order 8 = .ok (.laload, 1) := by decide +kernel
theorem dX8_order_9 : decode cX8_order 9 = .ok (.aload_n 1, 1) := by decide +kernel
theorem dX8_order_10 : decode cX8_order 10 = .ok (.iload_n 2, 1) := by decide +kernel
theorem dX8_order_11 : decode cX8_order 11 = .ok (.laload, 1) := by decide +kernel
theorem dX8_order_12 : decode cX8_order 12 = .ok (.lcmp, 1) := by decide +kernel
theorem dX8_order_13 : decode cX8_order 13 = .ok (.ifCond .eq 27, 3) := by decide +kernel
theorem dX8_order_16 : decode cX8_order 16 = .ok (.aload_n 0, 1) := by decide +kernel
theorem dX8_order_17 : decode cX8_order 17 = .ok (.iload_n 2, 1) := by decide +kernel
theorem dX8_order_18 : decode cX8_order 18 = .ok (.laload, 1) := by decide +kernel
theorem dX8_order_19 : decode cX8_order 19 = .ok (.ldc2_w 15, 3) := by decide +kernel
theorem dX8_order_22 : decode cX8_order 22 = .ok (.lxor, 1) := by decide +kernel
theorem dX8_order_23 : decode cX8_order 23 = .ok (.aload_n 1, 1) := by decide +kernel
theorem dX8_order_24 : decode cX8_order 24 = .ok (.iload_n 2, 1) := by decide +kernel
theorem dX8_order_25 : decode cX8_order 25 = .ok (.laload, 1) := by decide +kernel
theorem dX8_order_26 : decode cX8_order 26 = .ok (.ldc2_w 15, 3) := by decide +kernel
theorem dX8_order_29 : decode cX8_order 29 = .ok (.lxor, 1) := by decide +kernel
theorem dX8_order_30 : decode cX8_order 30 = .ok (.lcmp, 1) := by decide +kernel
theorem dX8_order_31 : decode cX8_order 31 = .ok (.ifCond .ge 7, 3) := by decide +kernel
theorem dX8_order_34 : decode cX8_order 34 = .ok (.iconst (-1), 1) := by decide +kernel
theorem dX8_order_35 : decode cX8_order 35 = .ok (.goto 4, 3) := by decide +kernel
theorem dX8_order_38 : decode cX8_order 38 = .ok (.iconst 1, 1) := by decide +kernel
theorem dX8_order_39 : decode cX8_order 39 = .ok (.ireturn, 1) := by decide +kernel
theorem dX8_order_40 : decode cX8_order 40 = .ok (.iinc 2 (-1), 3) := by decide +kernel
theorem dX8_order_43 : decode cX8_order 43 = .ok (.goto (-41), 3) := by decide +kernel
theorem dX8_order_46 : decode cX8_order 46 = .ok (.iconst 0, 1) := by decide +kernel
theorem dX8_order_47 : decode cX8_order 47 = .ok (.ireturn, 1) := by decide +kernel
theorem dX8_bitLength_0 : decode cX8_bitLength 0 = .ok (.sipush 255, 3) := by decide +kernel
theorem dX8_bitLength_3 : decode cX8_bitLength 3 = .ok (.istore_n 1, 1) := by decide +kernel
theorem dX8_bitLength_4 : decode cX8_bitLength 4 = .ok (.iload_n 1, 1) := by decide +kernel
theorem dX8_bitLength_5 : decode cX8_bitLength 5 = .ok (.ifCond .lt 22, 3) := by decide +kernel
theorem dX8_bitLength_8 : decode cX8_bitLength 8 = .ok (.aload_n 0, 1) := by decide +kernel
theorem dX8_bitLength_9 : decode cX8_bitLength 9 = .ok (.iload_n 1, 1) := by decide +kernel
theorem dX8_bitLength_10 : decode cX8_bitLength 10 = .ok (.invokestatic 17, 3) := by decide +kernel
theorem dX8_bitLength_13 : decode cX8_bitLength 13 = .ok (.iconst 1, 1) := by decide +kernel
theorem dX8_bitLength_14 : decode cX8_bitLength 14 = .ok (.if_icmp .ne 7, 3) := by decide +kernel
theorem dX8_bitLength_17 : decode cX8_bitLength 17 = .ok (.iload_n 1, 1) := by decide +kernel
theorem dX8_bitLength_18 : decode cX8_bitLength 18 = .ok (.iconst 1, 1) := by decide +kernel
theorem dX8_bitLength_19 : decode cX8_bitLength 19 = .ok (.iadd, 1) := by decide +kernel
theorem dX8_bitLength_20 : decode cX8_bitLength 20 = .ok (.ireturn, 1) := by decide +kernel
theorem dX8_bitLength_21 : decode cX8_bitLength 21 = .ok (.iinc 1 (-1), 3) := by decide +kernel
theorem dX8_bitLength_24 : decode cX8_bitLength 24 = .ok (.goto (-20), 3) := by decide +kernel
theorem dX8_bitLength_27 : decode cX8_bitLength 27 = .ok (.iconst 0, 1) := by decide +kernel
theorem dX8_bitLength_28 : decode cX8_bitLength 28 = .ok (.ireturn, 1) := by decide +kernel
theorem dX8_increase_0 : decode cX8_increase 0 = .ok (.lconst 0, 1) := by decide +kernel
theorem dX8_increase_1 : decode cX8_increase 1 = .ok (.lstore_n 2, 1) := by decide +kernel
theorem dX8_increase_2 : decode cX8_increase 2 = .ok (.iconst 0, 1) := by decide +kernel
theorem dX8_increase_3 : decode cX8_increase 3 = .ok (.istore 4, 2) := by decide +kernel
theorem dX8_increase_5 : decode cX8_increase 5 = .ok (.iload 4, 2) := by decide +kernel
theorem dX8_increase_7 : decode cX8_increase 7 = .ok (.iconst 4, 1) := by decide +kernel
theorem dX8_increase_8 : decode cX8_increase 8 = .ok (.if_icmp .ge 58, 3) := by decide +kernel
theorem dX8_increase_11 : decode cX8_increase 11 = .ok (.aload_n 0, 1) := by decide +kernel
theorem dX8_increase_12 : decode cX8_increase 12 = .ok (.iload 4, 2) := by decide +kernel
theorem dX8_increase_14 : decode cX8_increase 14 = .ok (.laload, 1) := by decide +kernel
theorem dX8_increase_15 : decode cX8_increase 15 = .ok (.lstore 5, 2) := by decide +kernel
theorem dX8_increase_17 : decode cX8_increase 17 = .ok (.aload_n 1, 1) := by decide +kernel
theorem dX8_increase_18 : decode cX8_increase 18 = .ok (.iload 4, 2) := by decide +kernel
theorem dX8_increase_20 : decode cX8_increase 20 = .ok (.laload, 1) := by decide +kernel
theorem dX8_increase_21 : decode cX8_increase 21 = .ok (.lstore 7, 2) := by decide +kernel
theorem dX8_increase_23 : decode cX8_increase 23 = .ok (.lload 5, 2) := by decide +kernel
theorem dX8_increase_25 : decode cX8_increase 25 = .ok (.lload 7, 2) := by decide +kernel
theorem dX8_increase_27 : decode cX8_increase 27 = .ok (.ladd, 1) := by decide +kernel
theorem dX8_increase_28 : decode cX8_increase 28 = .ok (.lload_n 2, 1) := by decide +kernel
theorem dX8_increase_29 : decode cX8_increase 29 = .ok (.ladd, 1) := by decide +kernel
theorem dX8_increase_30 : decode cX8_increase 30 = .ok (.lstore 9, 2) := by decide +kernel
theorem dX8_increase_32 : decode cX8_increase 32 = .ok (.lload 5, 2) := by decide +kernel
theorem dX8_increase_34 : decode cX8_increase 34 = .ok (.lload 7, 2) := by decide +kernel
theorem dX8_increase_36 : decode cX8_increase 36 = .ok (.land, 1) := by decide +kernel
theorem dX8_increase_37 : decode cX8_increase 37 = .ok (.lload 5, 2) := by decide +kernel
theorem dX8_increase_39 : decode cX8_increase 39 = .ok (.lload 7, 2) := by decide +kernel
theorem dX8_increase_41 : decode cX8_increase 41 = .ok (.lor, 1) := by decide +kernel
theorem dX8_increase_42 : decode cX8_increase 42 = .ok (.lload 9, 2) := by decide +kernel
theorem dX8_increase_44 : decode cX8_increase 44 = .ok (.ldc2_w 21, 3) := by decide +kernel
theorem dX8_increase_47 : decode cX8_increase 47 = .ok (.lxor, 1) := by decide +kernel
theorem dX8_increase_48 : decode cX8_increase 48 = .ok (.land, 1) := by decide +kernel
theorem dX8_increase_49 : decode cX8_increase 49 = .ok (.lor, 1) := by decide +kernel
theorem dX8_increase_50 : decode cX8_increase 50 = .ok (.bipush 63, 2) := by decide +kernel
theorem dX8_increase_52 : decode cX8_increase 52 = .ok (.lushr, 1) := by decide +kernel
theorem dX8_increase_53 : decode cX8_increase 53 = .ok (.lstore_n 2, 1) := by decide +kernel
theorem dX8_increase_54 : decode cX8_increase 54 = .ok (.aload_n 0, 1) := by decide +kernel
theorem dX8_increase_55 : decode cX8_increase 55 = .ok (.iload 4, 2) := by decide +kernel
theorem dX8_increase_57 : decode cX8_increase 57 = .ok (.lload 9, 2) := by decide +kernel
theorem dX8_increase_59 : decode cX8_increase 59 = .ok (.lastore, 1) := by decide +kernel
theorem dX8_increase_60 : decode cX8_increase 60 = .ok (.iinc 4 1, 3) := by decide +kernel
theorem dX8_increase_63 : decode cX8_increase 63 = .ok (.goto (-58), 3) := by decide +kernel
theorem dX8_increase_66 : decode cX8_increase 66 = .ok (.return_, 1) := by decide +kernel
theorem dX8_decrease_0 : decode cX8_decrease 0 = .ok (.lconst 0, 1) := by decide +kernel
theorem dX8_decrease_1 : decode cX8_decrease 1 = .ok (.lstore_n 2, 1) := by decide +kernel
theorem dX8_decrease_2 : decode cX8_decrease 2 = .ok (.iconst 0, 1) := by decide +kernel
theorem dX8_decrease_3 : decode cX8_decrease 3 = .ok (.istore 4, 2) := by decide +kernel
theorem dX8_decrease_5 : decode cX8_decrease 5 = .ok (.iload 4, 2) := by decide +kernel
theorem dX8_decrease_7 : decode cX8_decrease 7 = .ok (.iconst 4, 1) := by decide +kernel
theorem dX8_decrease_8 : decode cX8_decrease 8 = .ok (.if_icmp .ge 62, 3) := by decide +kernel
theorem dX8_decrease_11 : decode cX8_decrease 11 = .ok (.aload_n 0, 1) := by decide +kernel
theorem dX8_decrease_12 : decode cX8_decrease 12 = .ok (.iload 4, 2) := by decide +kernel
theorem dX8_decrease_14 : decode cX8_decrease 14 = .ok (.laload, 1) := by decide +kernel
theorem dX8_decrease_15 : decode cX8_decrease 15 = .ok (.lstore 5, 2) := by decide +kernel
theorem dX8_decrease_17 : decode cX8_decrease 17 = .ok (.aload_n 1, 1) := by decide +kernel
theorem dX8_decrease_18 : decode cX8_decrease 18 = .ok (.iload 4, 2) := by decide +kernel
theorem dX8_decrease_20 : decode cX8_decrease 20 = .ok (.laload, 1) := by decide +kernel
theorem dX8_decrease_21 : decode cX8_decrease 21 = .ok (.lstore 7, 2) := by decide +kernel
theorem dX8_decrease_23 : decode cX8_decrease 23 = .ok (.lload 5, 2) := by decide +kernel
theorem dX8_decrease_25 : decode cX8_decrease 25 = .ok (.lload 7, 2) := by decide +kernel
theorem dX8_decrease_27 : decode cX8_decrease 27 = .ok (.lsub, 1) := by decide +kernel
theorem dX8_decrease_28 : decode cX8_decrease 28 = .ok (.lload_n 2, 1) := by decide +kernel
theorem dX8_decrease_29 : decode cX8_decrease 29 = .ok (.lsub, 1) := by decide +kernel
theorem dX8_decrease_30 : decode cX8_decrease 30 = .ok (.lstore 9, 2) := by decide +kernel
theorem dX8_decrease_32 : decode cX8_decrease 32 = .ok (.lload 5, 2) := by decide +kernel
theorem dX8_decrease_34 : decode cX8_decrease 34 = .ok (.ldc2_w 21, 3) := by decide +kernel
theorem dX8_decrease_37 : decode cX8_decrease 37 = .ok (.lxor, 1) := by decide +kernel
theorem dX8_decrease_38 : decode cX8_decrease 38 = .ok (.lload 7, 2) := by decide +kernel
theorem dX8_decrease_40 : decode cX8_decrease 40 = .ok (.land, 1) := by decide +kernel
theorem dX8_decrease_41 : decode cX8_decrease 41 = .ok (.lload 5, 2) := by decide +kernel
theorem dX8_decrease_43 : decode cX8_decrease 43 = .ok (.ldc2_w 21, 3) := by decide +kernel
theorem dX8_decrease_46 : decode cX8_decrease 46 = .ok (.lxor, 1) := by decide +kernel
theorem dX8_decrease_47 : decode cX8_decrease 47 = .ok (.lload 7, 2) := by decide +kernel
theorem dX8_decrease_49 : decode cX8_decrease 49 = .ok (.lor, 1) := by decide +kernel
theorem dX8_decrease_50 : decode cX8_decrease 50 = .ok (.lload 9, 2) := by decide +kernel
theorem dX8_decrease_52 : decode cX8_decrease 52 = .ok (.land, 1) := by decide +kernel
theorem dX8_decrease_53 : decode cX8_decrease 53 = .ok (.lor, 1) := by decide +kernel
theorem dX8_decrease_54 : decode cX8_decrease 54 = .ok (.bipush 63, 2) := by decide +kernel
theorem dX8_decrease_56 : decode cX8_decrease 56 = .ok (.lushr, 1) := by decide +kernel
theorem dX8_decrease_57 : decode cX8_decrease 57 = .ok (.lstore_n 2, 1) := by decide +kernel
theorem dX8_decrease_58 : decode cX8_decrease 58 = .ok (.aload_n 0, 1) := by decide +kernel
theorem dX8_decrease_59 : decode cX8_decrease 59 = .ok (.iload 4, 2) := by decide +kernel
theorem dX8_decrease_61 : decode cX8_decrease 61 = .ok (.lload 9, 2) := by decide +kernel
theorem dX8_decrease_63 : decode cX8_decrease 63 = .ok (.lastore, 1) := by decide +kernel
theorem dX8_decrease_64 : decode cX8_decrease 64 = .ok (.iinc 4 1, 3) := by decide +kernel
theorem dX8_decrease_67 : decode cX8_decrease 67 = .ok (.goto (-62), 3) := by decide +kernel
theorem dX8_decrease_70 : decode cX8_decrease 70 = .ok (.return_, 1) := by decide +kernel
theorem dX8_clamp_0 : decode cX8_clamp 0 = .ok (.aload_n 0, 1) := by decide +kernel
theorem dX8_clamp_1 : decode cX8_clamp 1 = .ok (.iconst 0, 1) := by decide +kernel
theorem dX8_clamp_2 : decode cX8_clamp 2 = .ok (.dup2, 1) := by decide +kernel
theorem dX8_clamp_3 : decode cX8_clamp 3 = .ok (.laload, 1) := by decide +kernel
theorem dX8_clamp_4 : decode cX8_clamp 4 = .ok (.ldc2_w 23, 3) := by decide +kernel
theorem dX8_clamp_7 : decode cX8_clamp 7 = .ok (.land, 1) := by decide +kernel
theorem dX8_clamp_8 : decode cX8_clamp 8 = .ok (.lastore, 1) := by decide +kernel
theorem dX8_clamp_9 : decode cX8_clamp 9 = .ok (.aload_n 0, 1) := by decide +kernel
theorem dX8_clamp_10 : decode cX8_clamp 10 = .ok (.iconst 3, 1) := by decide +kernel
theorem dX8_clamp_11 : decode cX8_clamp 11 = .ok (.aload_n 0, 1) := by decide +kernel
theorem dX8_clamp_12 : decode cX8_clamp 12 = .ok (.iconst 3, 1) := by decide +kernel
theorem dX8_clamp_13 : decode cX8_clamp 13 = .ok (.laload, 1) := by decide +kernel
theorem dX8_clamp_14 : decode cX8_clamp 14 = .ok (.ldc2_w 25, 3) := by decide +kernel
theorem dX8_clamp_17 : decode cX8_clamp 17 = .ok (.land, 1) := by decide +kernel
theorem dX8_clamp_18 : decode cX8_clamp 18 = .ok (.ldc2_w 27, 3) := by decide +kernel
theorem dX8_clamp_21 : decode cX8_clamp 21 = .ok (.lor, 1) := by decide +kernel
theorem dX8_clamp_22 : decode cX8_clamp 22 = .ok (.lastore, 1) := by decide +kernel
theorem dX8_clamp_23 : decode cX8_clamp 23 = .ok (.return_, 1) := by decide +kernel
theorem dX9_init_0 : decode cX9_init 0 = .ok (.aload_n 0, 1) := by decide +kernel
theorem dX9_init_1 : decode cX9_init 1 = .ok (.invokespecial 1, 3) := by decide +kernel
theorem dX9_init_4 : decode cX9_init 4 = .ok (.aload_n 0, 1) := by decide +kernel
theorem dX9_init_5 : decode cX9_init 5 = .ok (.bipush 24, 2) := by decide +kernel
theorem dX9_init_7 : decode cX9_init 7 = .ok (.iconst 4, 1) := by decide +kernel
theorem dX9_init_8 : decode cX9_init 8 = .ok (.multianewarray 11 2, 4) := by decide +kernel
theorem dX9_init_12 : decode cX9_init 12 = .ok (.putfield 13, 3) := by decide +kernel
theorem dX9_init_15 : decode cX9_init 15 = .ok (.aload_n 0, 1) := by decide +kernel
theorem dX9_init_16 : decode cX9_init 16 = .ok (.new 16, 3) := by decide +kernel
theorem dX9_init_19 : decode cX9_init 19 = .ok (.dup, 1) := by decide +kernel
theorem dX9_init_20 : decode cX9_init 20 = .ok (.invokespecial 18, 3) := by decide +kernel
theorem dX9_init_23 : decode cX9_init 23 = .ok (.putfield 19, 3) := by decide +kernel
theorem dX9_init_26 : decode cX9_init 26 = .ok (.aload_n 0, 1) := by decide +kernel
theorem dX9_init_27 : decode cX9_init 27 = .ok (.sipush 400, 3) := by decide +kernel
theorem dX9_init_30 : decode cX9_init 30 = .ok (.putfield 23, 3) := by decide +kernel
theorem dX9_init_33 : decode cX9_init 33 = .ok (.aload_n 0, 1) := by decide +kernel
theorem dX9_init_34 : decode cX9_init 34 = .ok (.iconst 0, 1) := by decide +kernel
theorem dX9_init_35 : decode cX9_init 35 = .ok (.putfield 27, 3) := by decide +kernel
theorem dX9_init_38 : decode cX9_init 38 = .ok (.aload_n 0, 1) := by decide +kernel
theorem dX9_init_39 : decode cX9_init 39 = .ok (.iconst 0, 1) := by decide +kernel
theorem dX9_init_40 : decode cX9_init 40 = .ok (.putfield 30, 3) := by decide +kernel
theorem dX9_init_43 : decode cX9_init 43 = .ok (.aload_n 0, 1) := by decide +kernel
theorem dX9_init_44 : decode cX9_init 44 = .ok (.iconst 0, 1) := by decide +kernel
theorem dX9_init_45 : decode cX9_init 45 = .ok (.putfield 33, 3) := by decide +kernel
theorem dX9_init_48 : decode cX9_init 48 = .ok (.aload_n 0, 1) := by decide +kernel
theorem dX9_init_49 : decode cX9_init 49 = .ok (.new 36, 3) := by decide +kernel
theorem dX9_init_52 : decode cX9_init 52 = .ok (.dup, 1) := by decide +kernel
theorem dX9_init_53 : decode cX9_init 53 = .ok (.invokespecial 38, 3) := by decide +kernel
theorem dX9_init_56 : decode cX9_init 56 = .ok (.putfield 39, 3) := by decide +kernel
theorem dX9_init_59 : decode cX9_init 59 = .ok (.aload_n 0, 1) := by decide +kernel
theorem dX9_init_60 : decode cX9_init 60 = .ok (.new 43, 3) := by decide +kernel
theorem dX9_init_63 : decode cX9_init 63 = .ok (.dup, 1) := by decide +kernel
theorem dX9_init_64 : decode cX9_init 64 = .ok (.invokespecial 45, 3) := by decide +kernel
theorem dX9_init_67 : decode cX9_init 67 = .ok (.putfield 46, 3) := by decide +kernel
theorem dX9_init_70 : decode cX9_init 70 = .ok (.aload_n 0, 1) := by decide +kernel
theorem dX9_init_71 : decode cX9_init 71 = .ok (.new 50, 3) := by decide +kernel
theorem dX9_init_74 : decode cX9_init 74 = .ok (.dup, 1) := by decide +kernel
theorem dX9_init_75 : decode cX9_init 75 = .ok (.aload_n 0, 1) := by decide +kernel
theorem dX9_init_76 : decode cX9_init 76 = .ok (.getfield 39, 3) := by decide +kernel
theorem dX9_init_79 : decode cX9_init 79 = .ok (.invokespecial 52, 3) := by decide +kernel
theorem dX9_init_82 : decode cX9_init 82 = .ok (.putfield 55, 3) := by decide +kernel
theorem dX9_init_85 : decode cX9_init 85 = .ok (.aload_n 0, 1) := by decide +kernel
theorem dX9_init_86 : decode cX9_init 86 = .ok (.new 59, 3) := by decide +kernel
theorem dX9_init_89 : decode cX9_init 89 = .ok (.dup, 1) := by decide +kernel
theorem dX9_init_90 : decode cX9_init 90 = .ok (.aload_n 0, 1) := by decide +kernel
theorem dX9_init_91 : decode cX9_init 91 = .ok (.getfield 39, 3) := by decide +kernel
theorem dX9_init_94 : decode cX9_init 94 = .ok (.invokespecial 61, 3) := by decide +kernel
theorem dX9_init_97 : decode cX9_init 97 = .ok (.putfield 62, 3) := by decide +kernel
theorem dX9_init_100 : decode cX9_init 100 = .ok (.aload_n 0, 1) := by decide +kernel
theorem dX9_init_101 : decode cX9_init 101 = .ok (.new 66, 3) := by decide +kernel
theorem dX9_init_104 : decode cX9_init 104 = .ok (.dup, 1) := by decide +kernel
theorem dX9_init_105 : decode cX9_init 105 = .ok (.invokespecial 68, 3) := by decide +kernel
theorem dX9_init_108 : decode cX9_init 108 = .ok (.putfield 69, 3) := by decide +kernel
theorem dX9_init_111 : decode cX9_init 111 = .ok (.aload_n 0, 1) := by decide +kernel
theorem dX9_init_112 : decode cX9_init 112 = .ok (.new 73, 3) := by decide +kernel
theorem dX9_init_115 : decode cX9_init 115 = .ok (.dup, 1) := by decide +kernel
theorem dX9_init_116 : decode cX9_init 116 = .ok (.aload_n 0, 1) := by decide +kernel
theorem dX9_init_117 : decode cX9_init 117 = .ok (.getfield 55, 3) := by decide +kernel
theorem dX9_init_120 : decode cX9_init 120 = .ok (.aload_n 0, 1) := by decide +kernel
theorem dX9_init_121 : decode cX9_init 121 = .ok (.getfield 46, 3) := by decide +kernel
theorem dX9_init_124 : decode cX9_init 124 = .ok (.aload_n 0, 1) := by decide +kernel
theorem dX9_init_125 : decode cX9_init 125 = .ok (.getfield 69, 3) := by decide +kernel
theorem dX9_init_128 : decode cX9_init 128 = .ok (.invokespecial 75, 3) := by decide +kernel
theorem dX9_init_131 : decode cX9_init 131 = .ok (.putfield 78, 3) := by decide +kernel
theorem dX9_init_134 : decode cX9_init 134 = .ok (.aload_n 0, 1) := by decide +kernel
theorem dX9_init_135 : decode cX9_init 135 = .ok (.bipush 10, 2) := by decide +kernel
theorem dX9_init_137 : decode cX9_init 137 = .ok (.newarray .long, 2) := by decide +kernel
theorem dX9_init_139 : decode cX9_init 139 = .ok (.putfield 82, 3) := by decide +kernel
theorem dX9_init_142 : decode cX9_init 142 = .ok (.aload_n 0, 1) := by decide +kernel
theorem dX9_init_143 : decode cX9_init 143 = .ok (.bipush 10, 2) := by decide +kernel
theorem dX9_init_145 : decode cX9_init 145 = .ok (.newarray .long, 2) := by decide +kernel
theorem dX9_init_147 : decode cX9_init 147 = .ok (.putfield 86, 3) := by decide +kernel
theorem dX9_init_150 : decode cX9_init 150 = .ok (.aload_n 0, 1) := by decide +kernel
theorem dX9_init_151 : decode cX9_init 151 = .ok (.bipush 8, 2) := by decide +kernel
theorem dX9_init_153 : decode cX9_init 153 = .ok (.newarray .long, 2) := by decide +kernel
theorem dX9_init_155 : decode cX9_init 155 = .ok (.putfield 89, 3) := by decide +kernel
theorem dX9_init_158 : decode cX9_init 158 = .ok (.aload_n 0, 1) := by decide +kernel
theorem dX9_init_159 : decode cX9_init 159 = .ok (.new 92, 3) := by decide +kernel
theorem dX9_init_162 : decode cX9_init 162 = .ok (.dup, 1) := by decide +kernel
theorem dX9_init_163 : decode cX9_init 163 = .ok (.invokespecial 94, 3) := by decide +kernel
theorem dX9_init_166 : decode cX9_init 166 = .ok (.putfield 95, 3) := by decide +kernel
theorem dX9_init_169 : decode cX9_init 169 = .ok (.aload_n 0, 1) := by decide +kernel
theorem dX9_init_170 : decode cX9_init 170 = .ok (.new 92, 3) := by decide +kernel
theorem dX9_init_173 : decode cX9_init 173 = .ok (.dup, 1) := by decide +kernel
theorem dX9_init_174 : decode cX9_init 174 = .ok (.invokespecial 94, 3) := by decide +kernel
theorem dX9_init_177 : decode cX9_init 177 = .ok (.putfield 99, 3) := by decide +kernel
theorem dX9_init_180 : decode cX9_init 180 = .ok (.return_, 1) := by decide +kernel
theorem dX9_set_0 : decode cX9_set 0 = .ok (.iload_n 1, 1) := by decide +kernel
theorem dX9_set_1 : decode cX9_set 1 = .ok (.invokestatic 102, 3) := by decide +kernel
theorem dX9_set_4 : decode cX9_set 4 = .ok (.ifCond .ne 6, 3) := by decide +kernel
theorem dX9_set_7 : decode cX9_set 7 = .ok (.bipush (-101), 2) := by decide +kernel
theorem dX9_set_9 : decode cX9_set 9 = .ok (.ireturn, 1) := by decide +kernel
theorem dX9_set_10 : decode cX9_set 10 = .ok (.iload_n 2, 1) := by decide +kernel
theorem dX9_set_11 : decode cX9_set 11 = .ok (.iconst 4, 1) := by decide +kernel
theorem dX9_set_12 : decode cX9_set 12 = .ok (.invokestatic 106, 3) := by decide +kernel
theorem dX9_set_15 : decode cX9_set 15 = .ok (.ifCond .ne 6, 3) := by decide +kernel
theorem dX9_set_18 : decode cX9_set 18 = .ok (.bipush (-102), 2) := by decide +kernel
theorem dX9_set_20 : decode cX9_set 20 = .ok (.ireturn, 1) := by decide +kernel
theorem dX9_set_21 : decode cX9_set 21 = .ok (.aload_n 0, 1) := by decide +kernel
theorem dX9_set_22 : decode cX9_set 22 = .ok (.getfield 13, 3) := by decide +kernel
theorem dX9_set_25 : decode cX9_set 25 = .ok (.iload_n 1, 1) := by decide +kernel
theorem dX9_set_26 : decode cX9_set 26 = .ok (.aaload, 1) := by decide +kernel
theorem dX9_set_27 : decode cX9_set 27 = .ok (.iload_n 2, 1) := by decide +kernel
theorem dX9_set_28 : decode cX9_set 28 = .ok (.lload_n 3, 1) := by decide +kernel
theorem dX9_set_29 : decode cX9_set 29 = .ok (.lastore, 1) := by decide +kernel
theorem dX9_set_30 : decode cX9_set 30 = .ok (.iconst 1, 1) := by decide +kernel
theorem dX9_set_31 : decode cX9_set 31 = .ok (.ireturn, 1) := by decide +kernel
theorem dX9_word_0 : decode cX9_word 0 = .ok (.iload_n 1, 1) := by decide +kernel
theorem dX9_word_1 : decode cX9_word 1 = .ok (.invokestatic 102, 3) := by decide +kernel
theorem dX9_word_4 : decode cX9_word 4 = .ok (.ifCond .eq 11, 3) := by decide +kernel
theorem dX9_word_7 : decode cX9_word 7 = .ok (.iload_n 2, 1) := by decide +kernel
theorem dX9_word_8 : decode cX9_word 8 = .ok (.iconst 4, 1) := by decide +kernel
theorem dX9_word_9 : decode cX9_word 9 = .ok (.invokestatic 106, 3) := by decide +kernel
theorem dX9_word_12 : decode cX9_word 12 = .ok (.ifCond .ne 5, 3) := by decide +kernel
theorem dX9_word_15 : decode cX9_word 15 = .ok (.lconst 0, 1) := by decide +kernel
theorem dX9_word_16 : decode cX9_word 16 = .ok (.lreturn, 1) := by decide +kernel
theorem dX9_word_17 : decode cX9_word 17 = .ok (.aload_n 0, 1) := by decide +kernel
theorem dX9_word_18 : decode cX9_word 18 = .ok (.getfield 13, 3) := by decide +kernel
theorem dX9_word_21 : decode cX9_word 21 = .ok (.iload_n 1, 1) := by decide +kernel
theorem dX9_word_22 : decode cX9_word 22 = .ok (.aaload, 1) := by decide +kernel
theorem dX9_word_23 : decode cX9_word 23 = .ok (.iload_n 2, 1) := by decide +kernel
theorem dX9_word_24 : decode cX9_word 24 = .ok (.laload, 1) := by decide +kernel
theorem dX9_word_25 : decode cX9_word 25 = .ok (.lreturn, 1) := by decide +kernel
theorem dX9_copy_0 : decode cX9_copy 0 = .ok (.iload_n 1, 1) := by decide +kernel
theorem dX9_copy_1 : decode cX9_copy 1 = .ok (.invokestatic 102, 3) := by decide +kernel
theorem dX9_copy_4 : decode cX9_copy 4 = .ok (.ifCond .eq 10, 3) := by decide +kernel
theorem dX9_copy_7 : decode cX9_copy 7 = .ok (.iload_n 2, 1) := by decide +kernel
theorem dX9_copy_8 : decode cX9_copy 8 = .ok (.invokestatic 102, 3) := by decide +kernel
theorem dX9_copy_11 : decode cX9_copy 11 = .ok (.ifCond .ne 6, 3) := by decide +kernel
theorem dX9_copy_14 : decode cX9_copy 14 = .ok (.bipush (-101), 2) := by decide +kernel
theorem dX9_copy_16 : decode cX9_copy 16 = .ok (.ireturn, 1) := by decide +kernel
theorem dX9_copy_17 : decode cX9_copy 17 = .ok (.aload_n 0, 1) := by decide +kernel
theorem dX9_copy_18 : decode cX9_copy 18 = .ok (.getfield 13, 3) := by decide +kernel
theorem dX9_copy_21 : decode cX9_copy 21 = .ok (.iload_n 1, 1) := by decide +kernel
theorem dX9_copy_22 : decode cX9_copy 22 = .ok (.aaload, 1) := by decide +kernel
theorem dX9_copy_23 : decode cX9_copy 23 = .ok (.aload_n 0, 1) := by decide +kernel
theorem dX9_copy_24 : decode cX9_copy 24 = .ok (.getfield 13, 3) := by decide +kernel
theorem dX9_copy_27 : decode cX9_copy 27 = .ok (.iload_n 2, 1) := by decide +kernel
theorem dX9_copy_28 : decode cX9_copy 28 = .ok (.aaload, 1) := by decide +kernel
theorem dX9_copy_29 : decode cX9_copy 29 = .ok (.invokestatic 110, 3) := by decide +kernel
theorem dX9_copy_32 : decode cX9_copy 32 = .ok (.iconst 1, 1) := by decide +kernel
theorem dX9_copy_33 : decode cX9_copy 33 = .ok (.ireturn, 1) := by decide +kernel
theorem dX9_type_0 : decode cX9_type 0 = .ok (.iload_n 3, 1) := by decide +kernel
theorem dX9_type_1 : decode cX9_type 1 = .ok (.iconst 1, 1) := by decide +kernel
theorem dX9_type_2 : decode cX9_type 2 = .ok (.if_icmp .lt 9, 3) := by decide +kernel
theorem dX9_type_5 : decode cX9_type 5 = .ok (.iload_n 3, 1) := by decide +kernel
theorem dX9_type_6 : decode cX9_type 6 = .ok (.bipush 8, 2) := by decide +kernel
theorem dX9_type_8 : decode cX9_type 8 = .ok (.if_icmp .le 6, 3) := by decide +kernel
theorem dX9_type_11 : decode cX9_type 11 = .ok (.bipush (-102), 2) := by decide +kernel
theorem dX9_type_13 : decode cX9_type 13 = .ok (.ireturn, 1) := by decide +kernel
theorem dX9_type_14 : decode cX9_type 14 = .ok (.iload_n 3, 1) := by decide +kernel
theorem dX9_type_15 : decode cX9_type 15 = .ok (.sipush 400, 3) := by decide +kernel
theorem dX9_type_18 : decode cX9_type 18 = .ok (.aload_n 0, 1) := by decide +kernel
theorem dX9_type_19 : decode cX9_type 19 = .ok (.getfield 19, 3) := by decide +kernel
theorem dX9_type_22 : decode cX9_type 22 = .ok (.getfield 114, 3) := by decide +kernel
theorem dX9_type_25 : decode cX9_type 25 = .ok (.isub, 1) := by decide +kernel
theorem dX9_type_26 : decode cX9_type 26 = .ok (.if_icmp .le 6, 3) := by decide +kernel
theorem dX9_type_29 : decode cX9_type 29 = .ok (.bipush (-104), 2) := by decide +kernel
theorem dX9_type_31 : decode cX9_type 31 = .ok (.ireturn, 1) := by decide +kernel
theorem dX9_type_32 : decode cX9_type 32 = .ok (.aload_n 0, 1) := by decide +kernel
theorem dX9_type_33 : decode cX9_type 33 = .ok (.getfield 19, 3) := by decide +kernel
theorem dX9_type_36 : decode cX9_type 36 = .ok (.lload_n 1, 1) := by decide +kernel
theorem dX9_type_37 : decode cX9_type 37 = .ok (.iload_n 3, 1) := by decide +kernel
theorem dX9_type_38 : decode cX9_type 38 = .ok (.invokevirtual 117, 3) := by decide +kernel
theorem dX9_type_41 : decode cX9_type 41 = .ok (.aload_n 0, 1) := by decide +kernel
theorem dX9_type_42 : decode cX9_type 42 = .ok (.getfield 19, 3) := by decide +kernel
theorem dX9_type_45 : decode cX9_type 45 = .ok (.getfield 114, 3) := by decide +kernel
theorem dX9_type_48 : decode cX9_type 48 = .ok (.ireturn, 1) := by decide +kernel
theorem dX9_clear_0 : decode cX9_clear 0 = .ok (.aload_n 0, 1) := by decide +kernel
theorem dX9_clear_1 : decode cX9_clear 1 = .ok (.getfield 19, 3) := by decide +kernel
theorem dX9_clear_4 : decode cX9_clear 4 = .ok (.getfield 114, 3) := by decide +kernel
theorem dX9_clear_7 : decode cX9_clear 7 = .ok (.istore_n 1, 1) := by decide +kernel
theorem dX9_clear_8 : decode cX9_clear 8 = .ok (.aload_n 0, 1) := by decide +kernel
theorem dX9_clear_9 : decode cX9_clear 9 = .ok (.getfield 19, 3) := by decide +kernel
theorem dX9_clear_12 : decode cX9_clear 12 = .ok (.iconst 0, 1) := by decide +kernel
theorem dX9_clear_13 : decode cX9_clear 13 = .ok (.putfield 114, 3) := by decide +kernel
theorem dX9_clear_16 : decode cX9_clear 16 = .ok (.iload_n 1, 1) := by decide +kernel
theorem dX9_clear_17 : decode cX9_clear 17 = .ok (.ireturn, 1) := by decide +kernel
theorem dX9_at_0 : decode cX9_at 0 = .ok (.iload_n 1, 1) := by decide +kernel
theorem dX9_at_1 : decode cX9_at 1 = .ok (.aload_n 0, 1) := by decide +kernel
theorem dX9_at_2 : decode cX9_at 2 = .ok (.getfield 19, 3) := by decide +kernel
theorem dX9_at_5 : decode cX9_at 5 = .ok (.getfield 114, 3) := by decide +kernel
theorem dX9_at_8 : decode cX9_at 8 = .ok (.invokestatic 106, 3) := by decide +kernel
theorem dX9_at_11 : decode cX9_at 11 = .ok (.ifCond .eq 14, 3) := by decide +kernel
theorem dX9_at_14 : decode cX9_at 14 = .ok (.aload_n 0, 1) := by decide +kernel
theorem dX9_at_15 : decode cX9_at 15 = .ok (.getfield 19, 3) := by decide +kernel
theorem dX9_at_18 : decode cX9_at 18 = .ok (.iload_n 1, 1) := by decide +kernel
theorem dX9_at_19 : decode cX9_at 19 = .ok (.invokevirtual 121, 3) := by decide +kernel
theorem dX9_at_22 : decode cX9_at 22 = .ok (.goto 4, 3) := by decide +kernel
theorem dX9_at_25 : decode cX9_at 25 = .ok (.iconst (-1), 1) := by decide +kernel
theorem dX9_at_26 : decode cX9_at 26 = .ok (.ireturn, 1) := by decide +kernel
theorem dX9_flip_0 : decode cX9_flip 0 = .ok (.iload_n 1, 1) := by decide +kernel
theorem dX9_flip_1 : decode cX9_flip 1 = .ok (.invokestatic 102, 3) := by decide +kernel
theorem dX9_flip_4 : decode cX9_flip 4 = .ok (.ifCond .ne 6, 3) := by decide +kernel
theorem dX9_flip_7 : decode cX9_flip 7 = .ok (.bipush (-101), 2) := by decide +kernel
theorem dX9_flip_9 : decode cX9_flip 9 = .ok (.ireturn, 1) := by decide +kernel
theorem dX9_flip_10 : decode cX9_flip 10 = .ok (.iload_n 2, 1) := by decide +kernel
theorem dX9_flip_11 : decode cX9_flip 11 = .ok (.bipush 32, 2) := by decide +kernel
theorem dX9_flip_13 : decode cX9_flip 13 = .ok (.invokestatic 106, 3) := by decide +kernel
theorem dX9_flip_16 : decode cX9_flip 16 = .ok (.ifCond .eq 12, 3) := by decide +kernel
theorem dX9_flip_19 : decode cX9_flip 19 = .ok (.iload_n 3, 1) := by decide +kernel
theorem dX9_flip_20 : decode cX9_flip 20 = .ok (.bipush 8, 2) := by decide +kernel
theorem dX9_flip_22 : decode cX9_flip 22 = .ok (.invokestatic 106, 3) := by decide +kernel
theorem dX9_flip_25 : decode cX9_flip 25 = .ok (.ifCond .ne 6, 3) := by decide +kernel
theorem dX9_flip_28 : decode cX9_flip 28 = .ok (.bipush (-102), 2) := by decide +kernel
theorem dX9_flip_30 : decode cX9_flip 30 = .ok (.ireturn, 1) := by decide +kernel
theorem dX9_flip_31 : decode cX9_flip 31 = .ok (.bipush 8, 2) := by decide +kernel
theorem dX9_flip_33 : decode cX9_flip 33 = .ok (.iload_n 2, 1) := by decide +kernel
theorem dX9_flip_34 : decode cX9_flip 34 = .ok (.imul, 1) := by decide +kernel
theorem dX9_flip_35 : decode cX9_flip 35 = .ok (.iload_n 3, 1) := by decide +kernel
theorem dX9_flip_36 : decode cX9_flip 36 = .ok (.iadd, 1) := by decide +kernel
theorem dX9_flip_37 : decode cX9_flip 37 = .ok (.istore 4, 2) := by decide +kernel
theorem dX9_flip_39 : decode cX9_flip 39 = .ok (.aload_n 0, 1) := by decide +kernel
theorem dX9_flip_40 : decode cX9_flip 40 = .ok (.getfield 13, 3) := by decide +kernel
theorem dX9_flip_43 : decode cX9_flip 43 = .ok (.iload_n 1, 1) := by decide +kernel
theorem dX9_flip_44 : decode cX9_flip 44 = .ok (.aaload, 1) := by decide +kernel
theorem dX9_flip_45 : decode cX9_flip 45 = .ok (.iload 4, 2) := by decide +kernel
theorem dX9_flip_47 : decode cX9_flip 47 = .ok (.bipush 6, 2) := by decide +kernel
theorem dX9_flip_49 : decode cX9_flip 49 = .ok (.ishr, 1) := by decide +kernel
theorem dX9_flip_50 : decode cX9_flip 50 = .ok (.dup2, 1) := by decide +kernel
theorem dX9_flip_51 : decode cX9_flip 51 = .ok (.laload, 1) := by decide +kernel
theorem dX9_flip_52 : decode cX9_flip 52 = .ok (.lconst 1, 1) := by decide +kernel
theorem dX9_flip_53 : decode cX9_flip 53 = .ok (.iload 4, 2) := by decide +kernel
theorem dX9_flip_55 : decode cX9_flip 55 = .ok (.bipush 63, 2) := by decide +kernel
theorem dX9_flip_57 : decode cX9_flip 57 = .ok (.iand, 1) := by decide +kernel
theorem dX9_flip_58 : decode cX9_flip 58 = .ok (.lshl, 1) := by decide +kernel
theorem dX9_flip_59 : decode cX9_flip 59 = .ok (.lxor, 1) := by decide +kernel
theorem dX9_flip_60 : decode cX9_flip 60 = .ok (.lastore, 1) := by decide +kernel
theorem dX9_flip_61 : decode cX9_flip 61 = .ok (.aload_n 0, 1) := by decide +kernel
theorem dX9_flip_62 : decode cX9_flip 62 = .ok (.getfield 13, 3) := by decide +kernel
theorem dX9_flip_65 : decode cX9_flip 65 = .ok (.iload_n 1, 1) := by decide +kernel
theorem dX9_flip_66 : decode cX9_flip 66 = .ok (.aaload, 1) := by decide +kernel
theorem dX9_flip_67 : decode cX9_flip 67 = .ok (.iload 4, 2) := by decide +kernel
theorem dX9_flip_69 : decode cX9_flip 69 = .ok (.invokestatic 125, 3) := by decide +kernel
theorem dX9_flip_72 : decode cX9_flip 72 = .ok (.ireturn, 1) := by decide +kernel
theorem dX9_field_0 : decode cX9_field 0 = .ok (.iload_n 2, 1) := by decide +kernel
theorem dX9_field_1 : decode cX9_field 1 = .ok (.invokestatic 102, 3) := by decide +kernel
theorem dX9_field_4 : decode cX9_field 4 = .ok (.ifCond .eq 18, 3) := by decide +kernel
theorem dX9_field_7 : decode cX9_field 7 = .ok (.iload_n 3, 1) := by decide +kernel
theorem dX9_field_8 : decode cX9_field 8 = .ok (.invokestatic 102, 3) := by decide +kernel
theorem dX9_field_11 : decode cX9_field 11 = .ok (.ifCond .eq 11, 3) := by decide +kernel
theorem dX9_field_14 : decode cX9_field 14 = .ok (.iload 4, 2) := by decide +kernel
theorem dX9_field_16 : decode cX9_field 16 = .ok (.invokestatic 102, 3) := by decide +kernel
theorem dX9_field_19 : decode cX9_field 19 = .ok (.ifCond .ne 6, 3) := by decide +kernel
theorem dX9_field_22 : decode cX9_field 22 = .ok (.bipush (-101), 2) := by decide +kernel
theorem dX9_field_24 : decode cX9_field 24 = .ok (.ireturn, 1) := by decide +kernel
theorem dX9_field_25 : decode cX9_field 25 = .ok (.iload_n 1, 1) := by decide +kernel
theorem dX9_field_26 : decode cX9_field 26 = .ok (.iconst 4, 1) := by decide +kernel
theorem dX9_field_27 : decode cX9_field 27 = .ok (.invokestatic 106, 3) := by decide +kernel
theorem dX9_field_30 : decode cX9_field 30 = .ok (.ifCond .ne 6, 3) := by decide +kernel
theorem dX9_field_33 : decode cX9_field 33 = .ok (.bipush (-102), 2) := by decide +kernel
theorem dX9_field_35 : decode cX9_field 35 = .ok (.ireturn, 1) := by decide +kernel
theorem dX9_field_36 : decode cX9_field 36 = .ok (.aload_n 0, 1) := by decide +kernel
theorem dX9_field_37 : decode cX9_field 37 = .ok (.getfield 39, 3) := by decide +kernel
theorem dX9_field_40 : decode cX9_field 40 = .ok (.aload_n 0, 1) := by decide +kernel
theorem dX9_field_41 : decode cX9_field 41 = .ok (.getfield 13, 3) := by decide +kernel
theorem dX9_field_44 : decode cX9_field 44 = .ok (.iload_n 2, 1) := by decide +kernel
theorem dX9_field_45 : decode cX9_field 45 = .ok (.aaload, 1) := by decide +kernel
theorem dX9_field_46 : decode cX9_field 46 = .ok (.aload_n 0, 1) := by decide +kernel
theorem dX9_field_47 : decode cX9_field 47 = .ok (.getfield 82, 3) := by decide +kernel
theorem dX9_field_50 : decode cX9_field 50 = .ok (.invokevirtual 129, 3) := by decide +kernel
theorem dX9_field_53 : decode cX9_field 53 = .ok (.aload_n 0, 1) := by decide +kernel
theorem dX9_field_54 : decode cX9_field 54 = .ok (.getfield 39, 3) := by decide +kernel
theorem dX9_field_57 : decode cX9_field 57 = .ok (.aload_n 0, 1) := by decide +kernel
theorem dX9_field_58 : decode cX9_field 58 = .ok (.getfield 13, 3) := by decide +kernel
theorem dX9_field_61 : decode cX9_field 61 = .ok (.iload_n 3, 1) := by decide +kernel
theorem dX9_field_62 : decode cX9_field 62 = .ok (.aaload, 1) := by decide +kernel
theorem dX9_field_63 : decode cX9_field 63 = .ok (.aload_n 0, 1) := by decide +kernel
theorem dX9_field_64 : decode cX9_field 64 = .ok (.getfield 86, 3) := by decide +kernel
theorem dX9_field_67 : decode cX9_field 67 = .ok (.invokevirtual 129, 3) := by decide +kernel
theorem dX9_field_70 : decode cX9_field 70 = .ok (.iload_n 1, 1) := by decide +kernel
theorem dX9_field_71 : decode cX9_field 71 = .ok (.iconst 3, 1) := by decide +kernel
theorem dX9_field_72 : decode cX9_field 72 = .ok (.if_icmp .ne 20, 3) := by decide +kernel
theorem dX9_field_75 : decode cX9_field 75 = .ok (.aload_n 0, 1) := by decide +kernel
theorem dX9_field_76 : decode cX9_field 76 = .ok (.getfield 39, 3) := by decide +kernel
theorem dX9_field_79 : decode cX9_field 79 = .ok (.aload_n 0, 1) := by decide +kernel
theorem dX9_field_80 : decode cX9_field 80 = .ok (.getfield 86, 3) := by decide +kernel
theorem dX9_field_83 : decode cX9_field 83 = .ok (.invokevirtual 132, 3) := by decide +kernel
theorem dX9_field_86 : decode cX9_field 86 = .ok (.ifCond .eq 6, 3) := by decide +kernel
theorem dX9_field_89 : decode cX9_field 89 = .ok (.bipush (-103), 2) := by decide +kernel
theorem dX9_field_91 : decode cX9_field 91 = .ok (.ireturn, 1) := by decide +kernel
theorem dX9_field_92 : decode cX9_field 92 = .ok (.aload_n 0, 1) := by decide +kernel
theorem dX9_field_93 : decode cX9_field 93 = .ok (.iload_n 1, 1) := by decide +kernel
theorem dX9_field_94 : decode cX9_field 94 = .ok (.invokevirtual 136, 3) := by decide +kernel
theorem dX9_field_97 : decode cX9_field 97 = .ok (.aload_n 0, 1) := by decide +kernel
theorem dX9_field_98 : decode cX9_field 98 = .ok (.getfield 39, 3) := by decide +kernel
theorem dX9_field_101 : decode cX9_field 101 = .ok (.aload_n 0, 1) := by decide +kernel
theorem dX9_field_102 : decode cX9_field 102 = .ok (.getfield 82, 3) := by decide +kernel
theorem dX9_field_105 : decode cX9_field 105 = .ok (.aload_n 0, 1) := by decide +kernel
theorem dX9_field_106 : decode cX9_field 106 = .ok (.getfield 13, 3) := by decide +kernel
theorem dX9_field_109 : decode cX9_field 109 = .ok (.iload 4, 2) := by decide +kernel
theorem dX9_field_111 : decode cX9_field 111 = .ok (.aaload, 1) := by decide +kernel
theorem dX9_field_112 : decode cX9_field 112 = .ok (.invokevirtual 140, 3) := by decide +kernel
theorem dX9_field_115 : decode cX9_field 115 = .ok (.iconst 1, 1) := by decide +kernel
theorem dX9_field_116 : decode cX9_field 116 = .ok (.ireturn, 1) := by decide +kernel
theorem dX9_power_0 : decode cX9_power 0 = .ok (.iload_n 1, 1) := by decide +kernel
theorem dX9_power_1 : decode cX9_power 1 = .ok (.invokestatic 102, 3) := by decide +kernel
theorem dX9_power_4 : decode cX9_power 4 = .ok (.ifCond .eq 17, 3) := by decide +kernel
theorem dX9_power_7 : decode cX9_power 7 = .ok (.iload_n 2, 1) := by decide +kernel
theorem dX9_power_8 : decode cX9_power 8 = .ok (.invokestatic 102, 3) := by decide +kernel
theorem dX9_power_11 : decode cX9_power 11 = .ok (.ifCond .eq 10, 3) := by decide +kernel
theorem dX9_power_14 : decode cX9_power 14 = .ok (.iload_n 3, 1) := by decide +kernel
theorem dX9_power_15 : decode cX9_power 15 = .ok (.invokestatic 102, 3) := by decide +kernel
theorem dX9_power_18 : decode cX9_power 18 = .ok (.ifCond .ne 6, 3) := by decide +kernel
theorem dX9_power_21 : decode cX9_power 21 = .ok (.bipush (-101), 2) := by decide +kernel
theorem dX9_power_23 : decode cX9_power 23 = .ok (.ireturn, 1) := by decide +kernel
theorem dX9_power_24 : decode cX9_power 24 = .ok (.aload_n 0, 1) := by decide +kernel
theorem dX9_power_25 : decode cX9_power 25 = .ok (.getfield 39, 3) := by decide +kernel
theorem dX9_power_28 : decode cX9_power 28 = .ok (.aload_n 0, 1) := by decide +kernel
theorem dX9_power_29 : decode cX9_power 29 = .ok (.getfield 13, 3) := by decide +kernel
theorem dX9_power_32 : decode cX9_power 32 = .ok (.iload_n 1, 1) := by decide +kernel
theorem dX9_power_33 : decode cX9_power 33 = .ok (.aaload, 1) := by decide +kernel
theorem dX9_power_34 : decode cX9_power 34 = .ok (.aload_n 0, 1) := by decide +kernel
theorem dX9_power_35 : decode cX9_power 35 = .ok (.getfield 82, 3) := by decide +kernel
theorem dX9_power_38 : decode cX9_power 38 = .ok (.invokevirtual 129, 3) := by decide +kernel
theorem dX9_power_41 : decode cX9_power 41 = .ok (.aload_n 0, 1) := by decide +kernel
theorem dX9_power_42 : decode cX9_power 42 = .ok (.getfield 39, 3) := by decide +kernel
theorem dX9_power_45 : decode cX9_power 45 = .ok (.aload_n 0, 1) := by decide +kernel
theorem dX9_power_46 : decode cX9_power 46 = .ok (.getfield 82, 3) := by decide +kernel
theorem dX9_power_49 : decode cX9_power 49 = .ok (.aload_n 0, 1) := by decide +kernel
theorem dX9_power_50 : decode cX9_power 50 = .ok (.getfield 13, 3) := by decide +kernel
theorem dX9_power_53 : decode cX9_power 53 = .ok (.iload_n 2, 1) := by decide +kernel
theorem dX9_power_54 : decode cX9_power 54 = .ok (.aaload, 1) := by decide +kernel
theorem dX9_power_55 : decode cX9_power 55 = .ok (.aload_n 0, 1) := by decide +kernel
theorem dX9_power_56 : decode cX9_power 56 = .ok (.getfield 82, 3) := by decide +kernel
theorem dX9_power_59 : decode cX9_power 59 = .ok (.invokevirtual 143, 3) := by decide +kernel
theorem dX9_power_62 : decode cX9_power 62 = .ok (.aload_n 0, 1) := by decide +kernel
theorem dX9_power_63 : decode cX9_power 63 = .ok (.getfield 39, 3) := by decide +kernel
theorem dX9_power_66 : decode cX9_power 66 = .ok (.aload_n 0, 1) := by decide +kernel
theorem dX9_power_67 : decode cX9_power 67 = .ok (.getfield 82, 3) := by decide +kernel
theorem dX9_power_70 : decode cX9_power 70 = .ok (.aload_n 0, 1) := by decide +kernel
theorem dX9_power_71 : decode cX9_power 71 = .ok (.getfield 13, 3) := by decide +kernel
theorem dX9_power_74 : decode cX9_power 74 = .ok (.iload_n 3, 1) := by decide +kernel
theorem dX9_power_75 : decode cX9_power 75 = .ok (.aaload, 1) := by decide +kernel
theorem dX9_power_76 : decode cX9_power 76 = .ok (.invokevirtual 140, 3) := by decide +kernel
theorem dX9_power_79 : decode cX9_power 79 = .ok (.iconst 1, 1) := by decide +kernel
theorem dX9_power_80 : decode cX9_power 80 = .ok (.ireturn, 1) := by decide +kernel
theorem dX9_root_0 : decode cX9_root 0 = .ok (.iload_n 1, 1) := by decide +kernel
theorem dX9_root_1 : decode cX9_root 1 = .ok (.invokestatic 102, 3) := by decide +kernel
theorem dX9_root_4 : decode cX9_root 4 = .ok (.ifCond .eq 10, 3) := by decide +kernel
theorem dX9_root_7 : decode cX9_root 7 = .ok (.iload_n 2, 1) := by decide +kernel
theorem dX9_root_8 : decode cX9_root 8 = .ok (.invokestatic 102, 3) := by decide +kernel
theorem dX9_root_11 : decode cX9_root 11 = .ok (.ifCond .ne 6, 3) := by decide +kernel
theorem dX9_root_14 : decode cX9_root 14 = .ok (.bipush (-101), 2) := by decide +kernel
theorem dX9_root_16 : decode cX9_root 16 = .ok (.ireturn, 1) := by decide +kernel
theorem dX9_root_17 : decode cX9_root 17 = .ok (.aload_n 0, 1) := by decide +kernel
theorem dX9_root_18 : decode cX9_root 18 = .ok (.getfield 39, 3) := by decide +kernel
theorem dX9_root_21 : decode cX9_root 21 = .ok (.aload_n 0, 1) := by decide +kernel
theorem dX9_root_22 : decode cX9_root 22 = .ok (.getfield 13, 3) := by decide +kernel
theorem dX9_root_25 : decode cX9_root 25 = .ok (.iload_n 1, 1) := by decide +kernel
theorem dX9_root_26 : decode cX9_root 26 = .ok (.aaload, 1) := by decide +kernel
theorem dX9_root_27 : decode cX9_root 27 = .ok (.aload_n 0, 1) := by decide +kernel
theorem dX9_root_28 : decode cX9_root 28 = .ok (.getfield 82, 3) := by decide +kernel
theorem dX9_root_31 : decode cX9_root 31 = .ok (.invokevirtual 129, 3) := by decide +kernel
theorem dX9_root_34 : decode cX9_root 34 = .ok (.aload_n 0, 1) := by decide +kernel
theorem dX9_root_35 : decode cX9_root 35 = .ok (.getfield 39, 3) := by decide +kernel
theorem dX9_root_38 : decode cX9_root 38 = .ok (.aload_n 0, 1) := by decide +kernel
theorem dX9_root_39 : decode cX9_root 39 = .ok (.getfield 82, 3) := by decide +kernel
theorem dX9_root_42 : decode cX9_root 42 = .ok (.aload_n 0, 1) := by decide +kernel
theorem dX9_root_43 : decode cX9_root 43 = .ok (.getfield 86, 3) := by decide +kernel
theorem dX9_root_46 : decode cX9_root 46 = .ok (.invokevirtual 147, 3) := by decide +kernel
theorem dX9_root_49 : decode cX9_root 49 = .ok (.ifCond .ne 5, 3) := by decide +kernel
theorem dX9_root_52 : decode cX9_root 52 = .ok (.iconst 0, 1) := by decide +kernel
theorem dX9_root_53 : decode cX9_root 53 = .ok (.ireturn, 1) := by decide +kernel
theorem dX9_root_54 : decode cX9_root 54 = .ok (.aload_n 0, 1) := by decide +kernel
theorem dX9_root_55 : decode cX9_root 55 = .ok (.getfield 39, 3) := by decide +kernel
theorem dX9_root_58 : decode cX9_root 58 = .ok (.aload_n 0, 1) := by decide +kernel
theorem dX9_root_59 : decode cX9_root 59 = .ok (.getfield 86, 3) := by decide +kernel
theorem dX9_root_62 : decode cX9_root 62 = .ok (.aload_n 0, 1) := by decide +kernel
theorem dX9_root_63 : decode cX9_root 63 = .ok (.getfield 13, 3) := by decide +kernel
theorem dX9_root_66 : decode cX9_root 66 = .ok (.iload_n 2, 1) := by decide +kernel
theorem dX9_root_67 : decode cX9_root 67 = .ok (.aaload, 1) := by decide +kernel
theorem dX9_root_68 : decode cX9_root 68 = .ok (.invokevirtual 140, 3) := by decide +kernel
theorem dX9_root_71 : decode cX9_root 71 = .ok (.iconst 1, 1) := by decide +kernel
theorem dX9_root_72 : decode cX9_root 72 = .ok (.ireturn, 1) := by decide +kernel
theorem dX9_about_0 : decode cX9_about 0 = .ok (.iload_n 1, 1) := by decide +kernel
theorem dX9_about_1 : decode cX9_about 1 = .ok (.invokestatic 102, 3) := by decide +kernel
theorem dX9_about_4 : decode cX9_about 4 = .ok (.ifCond .ne 6, 3) := by decide +kernel
theorem dX9_about_7 : decode cX9_about 7 = .ok (.bipush (-101), 2) := by decide +kernel
theorem dX9_about_9 : decode cX9_about 9 = .ok (.ireturn, 1) := by decide +kernel
theorem dX9_about_10 : decode cX9_about 10 = .ok (.iload_n 2, 1) := by decide +kernel
theorem dX9_about_11 : decode cX9_about 11 = .ok (.iconst 5, 1) := by decide +kernel
theorem dX9_about_12 : decode cX9_about 12 = .ok (.invokestatic 106, 3) := by decide +kernel
theorem dX9_about_15 : decode cX9_about 15 = .ok (.ifCond .ne 6, 3) := by decide +kernel
theorem dX9_about_18 : decode cX9_about 18 = .ok (.bipush (-102), 2) := by decide +kernel
theorem dX9_about_20 : decode cX9_about 20 = .ok (.ireturn, 1) := by decide +kernel
theorem dX9_about_21 : decode cX9_about 21 = .ok (.aload_n 0, 1) := by decide +kernel
theorem dX9_about_22 : decode cX9_about 22 = .ok (.getfield 13, 3) := by decide +kernel
theorem dX9_about_25 : decode cX9_about 25 = .ok (.iload_n 1, 1) := by decide +kernel
theorem dX9_about_26 : decode cX9_about 26 = .ok (.aaload, 1) := by decide +kernel
theorem dX9_about_27 : decode cX9_about 27 = .ok (.astore_n 3, 1) := by decide +kernel
theorem dX9_about_28 : decode cX9_about 28 = .ok (.aload_n 0, 1) := by decide +kernel
theorem dX9_about_29 : decode cX9_about 29 = .ok (.getfield 39, 3) := by decide +kernel
theorem dX9_about_32 : decode cX9_about 32 = .ok (.aload_n 3, 1) := by decide +kernel
theorem dX9_about_33 : decode cX9_about 33 = .ok (.aload_n 0, 1) := by decide +kernel
theorem dX9_about_34 : decode cX9_about 34 = .ok (.getfield 82, 3) := by decide +kernel
theorem dX9_about_37 : decode cX9_about 37 = .ok (.invokevirtual 129, 3) := by decide +kernel
theorem dX9_about_40 : decode cX9_about 40 = .ok (.iload_n 2, 1) := by decide +kernel
theorem dX9_about_41 : decode cX9_about 41 = .ok (.tableswitch 88 0 3 #[31, 50, 58, 73], 31) := by decide +kernel
theorem dX9_about_72 : decode cX9_about 72 = .ok (.aload_n 3, 1) := by decide +kernel
theorem dX9_about_73 : decode cX9_about 73 = .ok (.getstatic 151, 3) := by decide +kernel
theorem dX9_about_76 : decode cX9_about 76 = .ok (.invokestatic 154, 3) := by decide +kernel
theorem dX9_about_79 : decode cX9_about 79 = .ok (.ifCond .ge 7, 3) := by decide +kernel
theorem dX9_about_82 : decode cX9_about 82 = .ok (.iconst 1, 1) := by decide +kernel
theorem dX9_about_83 : decode cX9_about 83 = .ok (.goto 4, 3) := by decide +kernel
theorem dX9_about_86 : decode cX9_about 86 = .ok (.iconst 0, 1) := by decide +kernel
theorem dX9_about_87 : decode cX9_about 87 = .ok (.invokestatic 158, 3) := by decide +kernel
theorem dX9_about_90 : decode cX9_about 90 = .ok (.ireturn, 1) := by decide +kernel
theorem dX9_about_91 : decode cX9_about 91 = .ok (.aload_n 3, 1) := by decide +kernel
theorem dX9_about_92 : decode cX9_about 92 = .ok (.invokestatic 162, 3) := by decide +kernel
theorem dX9_about_95 : decode cX9_about 95 = .ok (.invokestatic 158, 3) := by decide +kernel
theorem dX9_about_98 : decode cX9_about 98 = .ok (.ireturn, 1) := by decide +kernel
theorem dX9_about_99 : decode cX9_about 99 = .ok (.aload_n 0, 1) := by decide +kernel
theorem dX9_about_100 : decode cX9_about 100 = .ok (.getfield 39, 3) := by decide +kernel
theorem dX9_about_103 : decode cX9_about 103 = .ok (.aload_n 0, 1) := by decide +kernel
theorem dX9_about_104 : decode cX9_about 104 = .ok (.getfield 82, 3) := by decide +kernel
theorem dX9_about_107 : decode cX9_about 107 = .ok (.invokevirtual 132, 3) := by decide +kernel
theorem dX9_about_110 : decode cX9_about 110 = .ok (.invokestatic 158, 3) := by decide +kernel
theorem dX9_about_113 : decode cX9_about 113 = .ok (.ireturn, 1) := by decide +kernel
theorem dX9_about_114 : decode cX9_about 114 = .ok (.aload_n 0, 1) := by decide +kernel
theorem dX9_about_115 : decode cX9_about 115 = .ok (.getfield 39, 3) := by decide +kernel
theorem dX9_about_118 : decode cX9_about 118 = .ok (.aload_n 0, 1) := by decide +kernel
theorem dX9_about_119 : decode cX9_about 119 = .ok (.getfield 82, 3) := by decide +kernel
theorem dX9_about_122 : decode cX9_about 122 = .ok (.invokevirtual 165, 3) := by decide +kernel
theorem dX9_about_125 : decode cX9_about 125 = .ok (.invokestatic 158, 3) := by decide +kernel
theorem dX9_about_128 : decode cX9_about 128 = .ok (.ireturn, 1) := by decide +kernel
theorem dX9_about_129 : decode cX9_about 129 = .ok (.aload_n 3, 1) := by decide +kernel
theorem dX9_about_130 : decode cX9_about 130 = .ok (.invokestatic 168, 3) := by decide +kernel
theorem dX9_about_133 : decode cX9_about 133 = .ok (.ireturn, 1) := by decide +kernel
theorem dX9_compare_0 : decode cX9_compare 0 = .ok (.iload_n 1, 1) := by decide +kernel
theorem dX9_compare_1 : decode cX9_compare 1 = .ok (.invokestatic 102, 3) := by decide +kernel
theorem dX9_compare_4 : decode cX9_compare 4 = .ok (.ifCond .eq 10, 3) := by decide +kernel
theorem dX9_compare_7 : decode cX9_compare 7 = .ok (.iload_n 2, 1) := by decide +kernel
theorem dX9_compare_8 : decode cX9_compare 8 = .ok (.invokestatic 102, 3) := by decide +kernel
theorem dX9_compare_11 : decode cX9_compare 11 = .ok (.ifCond .ne 6, 3) := by decide +kernel
theorem dX9_compare_14 : decode cX9_compare 14 = .ok (.bipush (-101), 2) := by decide +kernel
theorem dX9_compare_16 : decode cX9_compare 16 = .ok (.ireturn, 1) := by decide +kernel
theorem dX9_compare_17 : decode cX9_compare 17 = .ok (.aload_n 0, 1) := by decide +kernel
theorem dX9_compare_18 : decode cX9_compare 18 = .ok (.getfield 13, 3) := by decide +kernel
theorem dX9_compare_21 : decode cX9_compare 21 = .ok (.iload_n 1, 1) := by decide +kernel
theorem dX9_compare_22 : decode cX9_compare 22 = .ok (.aaload, 1) := by decide +kernel
theorem dX9_compare_23 : decode cX9_compare 23 = .ok (.aload_n 0, 1) := by decide +kernel
theorem dX9_compare_24 : decode cX9_compare 24 = .ok (.getfield 13, 3) := by decide +kernel
theorem dX9_compare_27 : decode cX9_compare 27 = .ok (.iload_n 2, 1) := by decide +kernel
theorem dX9_compare_28 : decode cX9_compare 28 = .ok (.aaload, 1) := by decide +kernel
theorem dX9_compare_29 : decode cX9_compare 29 = .ok (.invokestatic 154, 3) := by decide +kernel
theorem dX9_compare_32 : decode cX9_compare 32 = .ok (.ireturn, 1) := by decide +kernel
theorem dX9_scalar_0 : decode cX9_scalar 0 = .ok (.iload_n 1, 1) := by decide +kernel
theorem dX9_scalar_1 : decode cX9_scalar 1 = .ok (.invokestatic 102, 3) := by decide +kernel
theorem dX9_scalar_4 : decode cX9_scalar 4 = .ok (.ifCond .eq 25, 3) := by decide +kernel
theorem dX9_scalar_7 : decode cX9_scalar 7 = .ok (.iload_n 2, 1) := by decide +kernel
theorem dX9_scalar_8 : decode cX9_scalar 8 = .ok (.invokestatic 102, 3) := by decide +kernel
theorem dX9_scalar_11 : decode cX9_scalar 11 = .ok (.ifCond .eq 18, 3) := by decide +kernel
theorem dX9_scalar_14 : decode cX9_scalar 14 = .ok (.iload_n 3, 1) := by decide +kernel
theorem dX9_scalar_15 : decode cX9_scalar 15 = .ok (.invokestatic 102, 3) := by decide +kernel
theorem dX9_scalar_18 : decode cX9_scalar 18 = .ok (.ifCond .eq 11, 3) := by decide +kernel
theorem dX9_scalar_21 : decode cX9_scalar 21 = .ok (.iload 4, 2) := by decide +kernel
theorem dX9_scalar_23 : decode cX9_scalar 23 = .ok (.invokestatic 102, 3) := by decide +kernel
theorem dX9_scalar_26 : decode cX9_scalar 26 = .ok (.ifCond .ne 6, 3) := by decide +kernel
theorem dX9_scalar_29 : decode cX9_scalar 29 = .ok (.bipush (-101), 2) := by decide +kernel
theorem dX9_scalar_31 : decode cX9_scalar 31 = .ok (.ireturn, 1) := by decide +kernel
theorem dX9_scalar_32 : decode cX9_scalar 32 = .ok (.aload_n 0, 1) := by decide +kernel
theorem dX9_scalar_33 : decode cX9_scalar 33 = .ok (.getfield 46, 3) := by decide +kernel
theorem dX9_scalar_36 : decode cX9_scalar 36 = .ok (.aload_n 0, 1) := by decide +kernel
theorem dX9_scalar_37 : decode cX9_scalar 37 = .ok (.getfield 13, 3) := by decide +kernel
theorem dX9_scalar_40 : decode cX9_scalar 40 = .ok (.iload_n 1, 1) := by decide +kernel
theorem dX9_scalar_41 : decode cX9_scalar 41 = .ok (.aaload, 1) := by decide +kernel
theorem dX9_scalar_42 : decode cX9_scalar 42 = .ok (.aload_n 0, 1) := by decide +kernel
theorem dX9_scalar_43 : decode cX9_scalar 43 = .ok (.getfield 13, 3) := by decide +kernel
theorem dX9_scalar_46 : decode cX9_scalar 46 = .ok (.iload_n 2, 1) := by decide +kernel
theorem dX9_scalar_47 : decode cX9_scalar 47 = .ok (.aaload, 1) := by decide +kernel
theorem dX9_scalar_48 : decode cX9_scalar 48 = .ok (.aload_n 0, 1) := by decide +kernel
theorem dX9_scalar_49 : decode cX9_scalar 49 = .ok (.getfield 13, 3) := by decide +kernel
theorem dX9_scalar_52 : decode cX9_scalar 52 = .ok (.iload_n 3, 1) := by decide +kernel
theorem dX9_scalar_53 : decode cX9_scalar 53 = .ok (.aaload, 1) := by decide +kernel
theorem dX9_scalar_54 : decode cX9_scalar 54 = .ok (.aload_n 0, 1) := by decide +kernel
theorem dX9_scalar_55 : decode cX9_scalar 55 = .ok (.getfield 13, 3) := by decide +kernel
theorem dX9_scalar_58 : decode cX9_scalar 58 = .ok (.iload 4, 2) := by decide +kernel
theorem dX9_scalar_60 : decode cX9_scalar 60 = .ok (.aaload, 1) := by decide +kernel
theorem dX9_scalar_61 : decode cX9_scalar 61 = .ok (.invokevirtual 172, 3) := by decide +kernel
theorem dX9_scalar_64 : decode cX9_scalar 64 = .ok (.iconst 1, 1) := by decide +kernel
theorem dX9_scalar_65 : decode cX9_scalar 65 = .ok (.ireturn, 1) := by decide +kernel
theorem dX9_isPoint_0 : decode cX9_isPoint 0 = .ok (.iload_n 1, 1) := by decide +kernel
theorem dX9_isPoint_1 : decode cX9_isPoint 1 = .ok (.invokestatic 102, 3) := by decide +kernel
theorem dX9_isPoint_4 : decode cX9_isPoint 4 = .ok (.ifCond .ne 6, 3) := by decide +kernel
theorem dX9_isPoint_7 : decode cX9_isPoint 7 = .ok (.bipush (-101), 2) := by decide +kernel
theorem dX9_isPoint_9 : decode cX9_isPoint 9 = .ok (.ireturn, 1) := by decide +kernel
theorem dX9_isPoint_10 : decode cX9_isPoint 10 = .ok (.aload_n 0, 1) := by decide +kernel
theorem dX9_isPoint_11 : decode cX9_isPoint 11 = .ok (.getfield 55, 3) := by decide +kernel
theorem dX9_isPoint_14 : decode cX9_isPoint 14 = .ok (.aload_n 0, 1) := by decide +kernel
theorem dX9_isPoint_15 : decode cX9_isPoint 15 = .ok (.getfield 13, 3) := by decide +kernel
theorem dX9_isPoint_18 : decode cX9_isPoint 18 = .ok (.iload_n 1, 1) := by decide +kernel
theorem dX9_isPoint_19 : decode cX9_isPoint 19 = .ok (.aaload, 1) := by decide +kernel
theorem dX9_isPoint_20 : decode cX9_isPoint 20 = .ok (.aload_n 0, 1) := by decide +kernel
theorem dX9_isPoint_21 : decode cX9_isPoint 21 = .ok (.getfield 95, 3) := by decide +kernel
theorem dX9_isPoint_24 : decode cX9_isPoint 24 = .ok (.invokevirtual 176, 3) := by decide +kernel
theorem dX9_isPoint_27 : decode cX9_isPoint 27 = .ok (.invokestatic 158, 3) := by decide +kernel
theorem dX9_isPoint_30 : decode cX9_isPoint 30 = .ok (.ireturn, 1) := by decide +kernel
theorem dX9_across_0 : decode cX9_across 0 = .ok (.iload_n 1, 1) := by decide +kernel
theorem dX9_across_1 : decode cX9_across 1 = .ok (.invokestatic 102, 3) := by decide +kernel
theorem dX9_across_4 : decode cX9_across 4 = .ok (.ifCond .eq 10, 3) := by decide +kernel
theorem dX9_across_7 : decode cX9_across 7 = .ok (.iload_n 2, 1) := by decide +kernel
theorem dX9_across_8 : decode cX9_across 8 = .ok (.invokestatic 102, 3) := by decide +kernel
theorem dX9_across_11 : decode cX9_across 11 = .ok (.ifCond .ne 6, 3) := by decide +kernel
theorem dX9_across_14 : decode cX9_across 14 = .ok (.bipush (-101), 2) := by decide +kernel
theorem dX9_across_16 : decode cX9_across 16 = .ok (.ireturn, 1) := by decide +kernel
theorem dX9_across_17 : decode cX9_across 17 = .ok (.aload_n 0, 1) := by decide +kernel
theorem dX9_across_18 : decode cX9_across 18 = .ok (.getfield 55, 3) := by decide +kernel
theorem dX9_across_21 : decode cX9_across 21 = .ok (.aload_n 0, 1) := by decide +kernel
theorem dX9_across_22 : decode cX9_across 22 = .ok (.getfield 13, 3) := by decide +kernel
theorem dX9_across_25 : decode cX9_across 25 = .ok (.iload_n 1, 1) := by decide +kernel
theorem dX9_across_26 : decode cX9_across 26 = .ok (.aaload, 1) := by decide +kernel
theorem dX9_across_27 : decode cX9_across 27 = .ok (.aload_n 0, 1) := by decide +kernel
theorem dX9_across_28 : decode cX9_across 28 = .ok (.getfield 95, 3) := by decide +kernel
theorem dX9_across_31 : decode cX9_across 31 = .ok (.invokevirtual 176, 3) := by decide +kernel
theorem dX9_across_34 : decode cX9_across 34 = .ok (.ifCond .ne 5, 3) := by decide +kernel
theorem dX9_across_37 : decode cX9_across 37 = .ok (.iconst (-1), 1) := by decide +kernel
theorem dX9_across_38 : decode cX9_across 38 = .ok (.ireturn, 1) := by decide +kernel
theorem dX9_across_39 : decode cX9_across 39 = .ok (.aload_n 0, 1) := by decide +kernel
theorem dX9_across_40 : decode cX9_across 40 = .ok (.getfield 39, 3) := by decide +kernel
theorem dX9_across_43 : decode cX9_across 43 = .ok (.aload_n 0, 1) := by decide +kernel
theorem dX9_across_44 : decode cX9_across 44 = .ok (.getfield 95, 3) := by decide +kernel
theorem dX9_across_47 : decode cX9_across 47 = .ok (.getfield 180, 3) := by decide +kernel
theorem dX9_across_50 : decode cX9_across 50 = .ok (.aload_n 0, 1) := by decide +kernel
theorem dX9_across_51 : decode cX9_across 51 = .ok (.getfield 13, 3) := by decide +kernel
theorem dX9_across_54 : decode cX9_across 54 = .ok (.iload_n 2, 1) := by decide +kernel
theorem dX9_across_55 : decode cX9_across 55 = .ok (.aaload, 1) := by decide +kernel
theorem dX9_across_56 : decode cX9_across 56 = .ok (.invokevirtual 140, 3) := by decide +kernel
theorem dX9_across_59 : decode cX9_across 59 = .ok (.iconst 1, 1) := by decide +kernel
theorem dX9_across_60 : decode cX9_across 60 = .ok (.ireturn, 1) := by decide +kernel
theorem dX9_sum_0 : decode cX9_sum 0 = .ok (.iload_n 2, 1) := by decide +kernel
theorem dX9_sum_1 : decode cX9_sum 1 = .ok (.invokestatic 102, 3) := by decide +kernel
theorem dX9_sum_4 : decode cX9_sum 4 = .ok (.ifCond .eq 18, 3) := by decide +kernel
theorem dX9_sum_7 : decode cX9_sum 7 = .ok (.iload_n 3, 1) := by decide +kernel
theorem dX9_sum_8 : decode cX9_sum 8 = .ok (.invokestatic 102, 3) := by decide +kernel
theorem dX9_sum_11 : decode cX9_sum 11 = .ok (.ifCond .eq 11, 3) := by decide +kernel
theorem dX9_sum_14 : decode cX9_sum 14 = .ok (.iload 4, 2) := by decide +kernel
theorem dX9_sum_16 : decode cX9_sum 16 = .ok (.invokestatic 102, 3) := by decide +kernel
theorem dX9_sum_19 : decode cX9_sum 19 = .ok (.ifCond .ne 6, 3) := by decide +kernel
theorem dX9_sum_22 : decode cX9_sum 22 = .ok (.bipush (-101), 2) := by decide +kernel
theorem dX9_sum_24 : decode cX9_sum 24 = .ok (.ireturn, 1) := by decide +kernel
theorem dX9_sum_25 : decode cX9_sum 25 = .ok (.iload_n 1, 1) := by decide +kernel
theorem dX9_sum_26 : decode cX9_sum 26 = .ok (.iconst 2, 1) := by decide +kernel
theorem dX9_sum_27 : decode cX9_sum 27 = .ok (.invokestatic 106, 3) := by decide +kernel
theorem dX9_sum_30 : decode cX9_sum 30 = .ok (.ifCond .ne 6, 3) := by decide +kernel
theorem dX9_sum_33 : decode cX9_sum 33 = .ok (.bipush (-102), 2) := by decide +kernel
theorem dX9_sum_35 : decode cX9_sum 35 = .ok (.ireturn, 1) := by decide +kernel
theorem dX9_sum_36 : decode cX9_sum 36 = .ok (.aload_n 0, 1) := by decide +kernel
theorem dX9_sum_37 : decode cX9_sum 37 = .ok (.getfield 55, 3) := by decide +kernel
theorem dX9_sum_40 : decode cX9_sum 40 = .ok (.aload_n 0, 1) := by decide +kernel
theorem dX9_sum_41 : decode cX9_sum 41 = .ok (.getfield 13, 3) := by decide +kernel
theorem dX9_sum_44 : decode cX9_sum 44 = .ok (.iload_n 2, 1) := by decide +kernel
theorem dX9_sum_45 : decode cX9_sum 45 = .ok (.aaload, 1) := by decide +kernel
theorem dX9_sum_46 : decode cX9_sum 46 = .ok (.aload_n 0, 1) := by decide +kernel
theorem dX9_sum_47 : decode cX9_sum 47 = .ok (.getfield 95, 3) := by decide +kernel
theorem dX9_sum_50 : decode cX9_sum 50 = .ok (.invokevirtual 176, 3) := by decide +kernel
theorem dX9_sum_53 : decode cX9_sum 53 = .ok (.ifCond .eq 23, 3) := by decide +kernel
theorem dX9_sum_56 : decode cX9_sum 56 = .ok (.aload_n 0, 1) := by decide +kernel
theorem dX9_sum_57 : decode cX9_sum 57 = .ok (.getfield 55, 3) := by decide +kernel
theorem dX9_sum_60 : decode cX9_sum 60 = .ok (.aload_n 0, 1) := by decide +kernel
theorem dX9_sum_61 : decode cX9_sum 61 = .ok (.getfield 13, 3) := by decide +kernel
theorem dX9_sum_64 : decode cX9_sum 64 = .ok (.iload_n 3, 1) := by decide +kernel
theorem dX9_sum_65 : decode cX9_sum 65 = .ok (.aaload, 1) := by decide +kernel
theorem dX9_sum_66 : decode cX9_sum 66 = .ok (.aload_n 0, 1) := by decide +kernel
theorem dX9_sum_67 : decode cX9_sum 67 = .ok (.getfield 99, 3) := by decide +kernel
theorem dX9_sum_70 : decode cX9_sum 70 = .ok (.invokevirtual 176, 3) := by decide +kernel
theorem dX9_sum_73 : decode cX9_sum 73 = .ok (.ifCond .ne 5, 3) := by decide +kernel
theorem dX9_sum_76 : decode cX9_sum 76 = .ok (.iconst (-1), 1) := by decide +kernel
theorem dX9_sum_77 : decode cX9_sum 77 = .ok (.ireturn, 1) := by decide +kernel
theorem dX9_sum_78 : decode cX9_sum 78 = .ok (.iload_n 1, 1) := by decide +kernel
theorem dX9_sum_79 : decode cX9_sum 79 = .ok (.iconst 1, 1) := by decide +kernel
theorem dX9_sum_80 : decode cX9_sum 80 = .ok (.if_icmp .ne 14, 3) := by decide +kernel
theorem dX9_sum_83 : decode cX9_sum 83 = .ok (.aload_n 0, 1) := by decide +kernel
theorem dX9_sum_84 : decode cX9_sum 84 = .ok (.getfield 55, 3) := by decide +kernel
theorem dX9_sum_87 : decode cX9_sum 87 = .ok (.aload_n 0, 1) := by decide +kernel
theorem dX9_sum_88 : decode cX9_sum 88 = .ok (.getfield 99, 3) := by decide +kernel
theorem dX9_sum_91 : decode cX9_sum 91 = .ok (.invokevirtual 183, 3) := by decide +kernel
theorem dX9_sum_94 : decode cX9_sum 94 = .ok (.aload_n 0, 1) := by decide +kernel
theorem dX9_sum_95 : decode cX9_sum 95 = .ok (.getfield 55, 3) := by decide +kernel
theorem dX9_sum_98 : decode cX9_sum 98 = .ok (.aload_n 0, 1) := by decide +kernel
theorem dX9_sum_99 : decode cX9_sum 99 = .ok (.getfield 95, 3) := by decide +kernel
theorem dX9_sum_102 : decode cX9_sum 102 = .ok (.aload_n 0, 1) := by decide +kernel
theorem dX9_sum_103 : decode cX9_sum 103 = .ok (.getfield 99, 3) := by decide +kernel
theorem dX9_sum_106 : decode cX9_sum 106 = .ok (.aload_n 0, 1) := by decide +kernel
theorem dX9_sum_107 : decode cX9_sum 107 = .ok (.getfield 95, 3) := by decide +kernel
theorem dX9_sum_110 : decode cX9_sum 110 = .ok (.invokevirtual 187, 3) := by decide +kernel
theorem dX9_sum_113 : decode cX9_sum 113 = .ok (.aload_n 0, 1) := by decide +kernel
theorem dX9_sum_114 : decode cX9_sum 114 = .ok (.getfield 55, 3) := by decide +kernel
theorem dX9_sum_117 : decode cX9_sum 117 = .ok (.aload_n 0, 1) := by decide +kernel
theorem dX9_sum_118 : decode cX9_sum 118 = .ok (.getfield 95, 3) := by decide +kernel
theorem dX9_sum_121 : decode cX9_sum 121 = .ok (.aload_n 0, 1) := by decide +kernel
theorem dX9_sum_122 : decode cX9_sum 122 = .ok (.getfield 13, 3) := by decide +kernel
theorem dX9_sum_125 : decode cX9_sum 125 = .ok (.iload 4, 2) := by decide +kernel
theorem dX9_sum_127 : decode cX9_sum 127 = .ok (.aaload, 1) := by decide +kernel
theorem dX9_sum_128 : decode cX9_sum 128 = .ok (.invokevirtual 191, 3) := by decide +kernel
theorem dX9_sum_131 : decode cX9_sum 131 = .ok (.iconst 1, 1) := by decide +kernel
theorem dX9_sum_132 : decode cX9_sum 132 = .ok (.ireturn, 1) := by decide +kernel
theorem dX9_times_0 : decode cX9_times 0 = .ok (.iload_n 1, 1) := by decide +kernel
theorem dX9_times_1 : decode cX9_times 1 = .ok (.invokestatic 102, 3) := by decide +kernel
theorem dX9_times_4 : decode cX9_times 4 = .ok (.ifCond .eq 17, 3) := by decide +kernel
theorem dX9_times_7 : decode cX9_times 7 = .ok (.iload_n 2, 1) := by decide +kernel
theorem dX9_times_8 : decode cX9_times 8 = .ok (.invokestatic 102, 3) := by decide +kernel
theorem dX9_times_11 : decode cX9_times 11 = .ok (.ifCond .eq 10, 3) := by decide +kernel
theorem dX9_times_14 : decode cX9_times 14 = .ok (.iload_n 3, 1) := by decide +kernel
theorem dX9_times_15 : decode cX9_times 15 = .ok (.invokestatic 102, 3) := by decide +kernel
theorem dX9_times_18 : decode cX9_times 18 = .ok (.ifCond .ne 6, 3) := by decide +kernel
theorem dX9_times_21 : decode cX9_times 21 = .ok (.bipush (-101), 2) := by decide +kernel
theorem dX9_times_23 : decode cX9_times 23 = .ok (.ireturn, 1) := by decide +kernel
theorem dX9_times_24 : decode cX9_times 24 = .ok (.aload_n 0, 1) := by decide +kernel
theorem dX9_times_25 : decode cX9_times 25 = .ok (.getfield 23, 3) := by decide +kernel
theorem dX9_times_28 : decode cX9_times 28 = .ok (.iconst 1, 1) := by decide +kernel
theorem dX9_times_29 : decode cX9_times 29 = .ok (.if_icmp .ge 6, 3) := by decide +kernel
theorem dX9_times_32 : decode cX9_times 32 = .ok (.bipush (-103), 2) := by decide +kernel
theorem dX9_times_34 : decode cX9_times 34 = .ok (.ireturn, 1) := by decide +kernel
theorem dX9_times_35 : decode cX9_times 35 = .ok (.aload_n 0, 1) := by decide +kernel
theorem dX9_times_36 : decode cX9_times 36 = .ok (.getfield 55, 3) := by decide +kernel
theorem dX9_times_39 : decode cX9_times 39 = .ok (.aload_n 0, 1) := by decide +kernel
theorem dX9_times_40 : decode cX9_times 40 = .ok (.getfield 13, 3) := by decide +kernel
theorem dX9_times_43 : decode cX9_times 43 = .ok (.iload_n 2, 1) := by decide +kernel
theorem dX9_times_44 : decode cX9_times 44 = .ok (.aaload, 1) := by decide +kernel
theorem dX9_times_45 : decode cX9_times 45 = .ok (.aload_n 0, 1) := by decide +kernel
theorem dX9_times_46 : decode cX9_times 46 = .ok (.getfield 95, 3) := by decide +kernel
theorem dX9_times_49 : decode cX9_times 49 = .ok (.invokevirtual 176, 3) := by decide +kernel
theorem dX9_times_52 : decode cX9_times 52 = .ok (.ifCond .ne 5, 3) := by decide +kernel
theorem dX9_times_55 : decode cX9_times 55 = .ok (.iconst (-1), 1) := by decide +kernel
theorem dX9_times_56 : decode cX9_times 56 = .ok (.ireturn, 1) := by decide +kernel
theorem dX9_times_57 : decode cX9_times 57 = .ok (.aload_n 0, 1) := by decide +kernel
theorem dX9_times_58 : decode cX9_times 58 = .ok (.dup, 1) := by decide +kernel
theorem dX9_times_59 : decode cX9_times 59 = .ok (.getfield 23, 3) := by decide +kernel
theorem dX9_times_62 : decode cX9_times 62 = .ok (.iconst 1, 1) := by decide +kernel
theorem dX9_times_63 : decode cX9_times 63 = .ok (.isub, 1) := by decide +kernel
theorem dX9_times_64 : decode cX9_times 64 = .ok (.putfield 23, 3) := by decide +kernel
theorem dX9_times_67 : decode cX9_times 67 = .ok (.aload_n 0, 1) := by decide +kernel
theorem dX9_times_68 : decode cX9_times 68 = .ok (.getfield 55, 3) := by decide +kernel
theorem dX9_times_71 : decode cX9_times 71 = .ok (.aload_n 0, 1) := by decide +kernel
theorem dX9_times_72 : decode cX9_times 72 = .ok (.getfield 13, 3) := by decide +kernel
theorem dX9_times_75 : decode cX9_times 75 = .ok (.iload_n 1, 1) := by decide +kernel
theorem dX9_times_76 : decode cX9_times 76 = .ok (.aaload, 1) := by decide +kernel
theorem dX9_times_77 : decode cX9_times 77 = .ok (.aload_n 0, 1) := by decide +kernel
theorem dX9_times_78 : decode cX9_times 78 = .ok (.getfield 95, 3) := by decide +kernel
theorem dX9_times_81 : decode cX9_times 81 = .ok (.aload_n 0, 1) := by decide +kernel
theorem dX9_times_82 : decode cX9_times 82 = .ok (.getfield 99, 3) := by decide +kernel
theorem dX9_times_85 : decode cX9_times 85 = .ok (.invokevirtual 195, 3) := by decide +kernel
theorem dX9_times_88 : decode cX9_times 88 = .ok (.aload_n 0, 1) := by decide +kernel
theorem dX9_times_89 : decode cX9_times 89 = .ok (.getfield 55, 3) := by decide +kernel
theorem dX9_times_92 : decode cX9_times 92 = .ok (.aload_n 0, 1) := by decide +kernel
theorem dX9_times_93 : decode cX9_times 93 = .ok (.getfield 99, 3) := by decide +kernel
theorem dX9_times_96 : decode cX9_times 96 = .ok (.aload_n 0, 1) := by decide +kernel
theorem dX9_times_97 : decode cX9_times 97 = .ok (.getfield 13, 3) := by decide +kernel
theorem dX9_times_100 : decode cX9_times 100 = .ok (.iload_n 3, 1) := by decide +kernel
theorem dX9_times_101 : decode cX9_times 101 = .ok (.aaload, 1) := by decide +kernel
theorem dX9_times_102 : decode cX9_times 102 = .ok (.invokevirtual 191, 3) := by decide +kernel
theorem dX9_times_105 : decode cX9_times 105 = .ok (.iconst 1, 1) := by decide +kernel
theorem dX9_times_106 : decode cX9_times 106 = .ok (.ireturn, 1) := by decide +kernel
theorem dX9_base_0 : decode cX9_base 0 = .ok (.iload_n 1, 1) := by decide +kernel
theorem dX9_base_1 : decode cX9_base 1 = .ok (.invokestatic 102, 3) := by decide +kernel
theorem dX9_base_4 : decode cX9_base 4 = .ok (.ifCond .eq 10, 3) := by decide +kernel
theorem dX9_base_7 : decode cX9_base 7 = .ok (.iload_n 2, 1) := by decide +kernel
theorem dX9_base_8 : decode cX9_base 8 = .ok (.invokestatic 102, 3) := by decide +kernel
theorem dX9_base_11 : decode cX9_base 11 = .ok (.ifCond .ne 6, 3) := by decide +kernel
theorem dX9_base_14 : decode cX9_base 14 = .ok (.bipush (-101), 2) := by decide +kernel
theorem dX9_base_16 : decode cX9_base 16 = .ok (.ireturn, 1) := by decide +kernel
theorem dX9_base_17 : decode cX9_base 17 = .ok (.aload_n 0, 1) := by decide +kernel
theorem dX9_base_18 : decode cX9_base 18 = .ok (.getfield 23, 3) := by decide +kernel
theorem dX9_base_21 : decode cX9_base 21 = .ok (.iconst 1, 1) := by decide +kernel
theorem dX9_base_22 : decode cX9_base 22 = .ok (.if_icmp .ge 6, 3) := by decide +kernel
theorem dX9_base_25 : decode cX9_base 25 = .ok (.bipush (-103), 2) := by decide +kernel
theorem dX9_base_27 : decode cX9_base 27 = .ok (.ireturn, 1) := by decide +kernel
theorem dX9_base_28 : decode cX9_base 28 = .ok (.aload_n 0, 1) := by decide +kernel
theorem dX9_base_29 : decode cX9_base 29 = .ok (.dup, 1) := by decide +kernel
theorem dX9_base_30 : decode cX9_base 30 = .ok (.getfield 23, 3) := by decide +kernel
theorem dX9_base_33 : decode cX9_base 33 = .ok (.iconst 1, 1) := by decide +kernel
theorem dX9_base_34 : decode cX9_base 34 = .ok (.isub, 1) := by decide +kernel
theorem dX9_base_35 : decode cX9_base 35 = .ok (.putfield 23, 3) := by decide +kernel
theorem dX9_base_38 : decode cX9_base 38 = .ok (.aload_n 0, 1) := by decide +kernel
theorem dX9_base_39 : decode cX9_base 39 = .ok (.getfield 55, 3) := by decide +kernel
theorem dX9_base_42 : decode cX9_base 42 = .ok (.aload_n 0, 1) := by decide +kernel
theorem dX9_base_43 : decode cX9_base 43 = .ok (.getfield 13, 3) := by decide +kernel
theorem dX9_base_46 : decode cX9_base 46 = .ok (.iload_n 1, 1) := by decide +kernel
theorem dX9_base_47 : decode cX9_base 47 = .ok (.aaload, 1) := by decide +kernel
theorem dX9_base_48 : decode cX9_base 48 = .ok (.aload_n 0, 1) := by decide +kernel
theorem dX9_base_49 : decode cX9_base 49 = .ok (.getfield 55, 3) := by decide +kernel
theorem dX9_base_52 : decode cX9_base 52 = .ok (.getfield 199, 3) := by decide +kernel
theorem dX9_base_55 : decode cX9_base 55 = .ok (.aload_n 0, 1) := by decide +kernel
theorem dX9_base_56 : decode cX9_base 56 = .ok (.getfield 99, 3) := by decide +kernel
theorem dX9_base_59 : decode cX9_base 59 = .ok (.invokevirtual 195, 3) := by decide +kernel
theorem dX9_base_62 : decode cX9_base 62 = .ok (.aload_n 0, 1) := by decide +kernel
theorem dX9_base_63 : decode cX9_base 63 = .ok (.getfield 55, 3) := by decide +kernel
theorem dX9_base_66 : decode cX9_base 66 = .ok (.aload_n 0, 1) := by decide +kernel
theorem dX9_base_67 : decode cX9_base 67 = .ok (.getfield 99, 3) := by decide +kernel
theorem dX9_base_70 : decode cX9_base 70 = .ok (.aload_n 0, 1) := by decide +kernel
theorem dX9_base_71 : decode cX9_base 71 = .ok (.getfield 13, 3) := by decide +kernel
theorem dX9_base_74 : decode cX9_base 74 = .ok (.iload_n 2, 1) := by decide +kernel
theorem dX9_base_75 : decode cX9_base 75 = .ok (.aaload, 1) := by decide +kernel
theorem dX9_base_76 : decode cX9_base 76 = .ok (.invokevirtual 191, 3) := by decide +kernel
theorem dX9_base_79 : decode cX9_base 79 = .ok (.iconst 1, 1) := by decide +kernel
theorem dX9_base_80 : decode cX9_base 80 = .ok (.ireturn, 1) := by decide +kernel
theorem dX9_small_0 : decode cX9_small 0 = .ok (.iload_n 1, 1) := by decide +kernel
theorem dX9_small_1 : decode cX9_small 1 = .ok (.invokestatic 102, 3) := by decide +kernel
theorem dX9_small_4 : decode cX9_small 4 = .ok (.ifCond .ne 6, 3) := by decide +kernel
theorem dX9_small_7 : decode cX9_small 7 = .ok (.bipush (-101), 2) := by decide +kernel
theorem dX9_small_9 : decode cX9_small 9 = .ok (.ireturn, 1) := by decide +kernel
theorem dX9_small_10 : decode cX9_small 10 = .ok (.aload_n 0, 1) := by decide +kernel
theorem dX9_small_11 : decode cX9_small 11 = .ok (.getfield 55, 3) := by decide +kernel
theorem dX9_small_14 : decode cX9_small 14 = .ok (.aload_n 0, 1) := by decide +kernel
theorem dX9_small_15 : decode cX9_small 15 = .ok (.getfield 13, 3) := by decide +kernel
theorem dX9_small_18 : decode cX9_small 18 = .ok (.iload_n 1, 1) := by decide +kernel
theorem dX9_small_19 : decode cX9_small 19 = .ok (.aaload, 1) := by decide +kernel
theorem dX9_small_20 : decode cX9_small 20 = .ok (.aload_n 0, 1) := by decide +kernel
theorem dX9_small_21 : decode cX9_small 21 = .ok (.getfield 95, 3) := by decide +kernel
theorem dX9_small_24 : decode cX9_small 24 = .ok (.invokevirtual 176, 3) := by decide +kernel
theorem dX9_small_27 : decode cX9_small 27 = .ok (.ifCond .ne 5, 3) := by decide +kernel
theorem dX9_small_30 : decode cX9_small 30 = .ok (.iconst (-1), 1) := by decide +kernel
theorem dX9_small_31 : decode cX9_small 31 = .ok (.ireturn, 1) := by decide +kernel
theorem dX9_small_32 : decode cX9_small 32 = .ok (.iconst 0, 1) := by decide +kernel
theorem dX9_small_33 : decode cX9_small 33 = .ok (.istore_n 2, 1) := by decide +kernel
theorem dX9_small_34 : decode cX9_small 34 = .ok (.iload_n 2, 1) := by decide +kernel
theorem dX9_small_35 : decode cX9_small 35 = .ok (.iconst 4, 1) := by decide +kernel
theorem dX9_small_36 : decode cX9_small 36 = .ok (.if_icmp .ge 40, 3) := by decide +kernel
theorem dX9_small_39 : decode cX9_small 39 = .ok (.aload_n 0, 1) := by decide +kernel
theorem dX9_small_40 : decode cX9_small 40 = .ok (.getfield 55, 3) := by decide +kernel
theorem dX9_small_43 : decode cX9_small 43 = .ok (.aload_n 0, 1) := by decide +kernel
theorem dX9_small_44 : decode cX9_small 44 = .ok (.getfield 95, 3) := by decide +kernel
theorem dX9_small_47 : decode cX9_small 47 = .ok (.invokevirtual 202, 3) := by decide +kernel
theorem dX9_small_50 : decode cX9_small 50 = .ok (.ifCond .eq 5, 3) := by decide +kernel
theorem dX9_small_53 : decode cX9_small 53 = .ok (.iload_n 2, 1) := by decide +kernel
theorem dX9_small_54 : decode cX9_small 54 = .ok (.ireturn, 1) := by decide +kernel
theorem dX9_small_55 : decode cX9_small 55 = .ok (.aload_n 0, 1) := by decide +kernel
theorem dX9_small_56 : decode cX9_small 56 = .ok (.getfield 55, 3) := by decide +kernel
theorem dX9_small_59 : decode cX9_small 59 = .ok (.aload_n 0, 1) := by decide +kernel
theorem dX9_small_60 : decode cX9_small 60 = .ok (.getfield 95, 3) := by decide +kernel
theorem dX9_small_63 : decode cX9_small 63 = .ok (.aload_n 0, 1) := by decide +kernel
theorem dX9_small_64 : decode cX9_small 64 = .ok (.getfield 95, 3) := by decide +kernel
theorem dX9_small_67 : decode cX9_small 67 = .ok (.invokevirtual 206, 3) := by decide +kernel
theorem dX9_small_70 : decode cX9_small 70 = .ok (.iinc 2 1, 3) := by decide +kernel
theorem dX9_small_73 : decode cX9_small 73 = .ok (.goto (-39), 3) := by decide +kernel
theorem dX9_small_76 : decode cX9_small 76 = .ok (.iconst 4, 1) := by decide +kernel
theorem dX9_small_77 : decode cX9_small 77 = .ok (.ireturn, 1) := by decide +kernel
theorem dX9_other_0 : decode cX9_other 0 = .ok (.iload_n 1, 1) := by decide +kernel
theorem dX9_other_1 : decode cX9_other 1 = .ok (.invokestatic 102, 3) := by decide +kernel
theorem dX9_other_4 : decode cX9_other 4 = .ok (.ifCond .eq 10, 3) := by decide +kernel
theorem dX9_other_7 : decode cX9_other 7 = .ok (.iload_n 2, 1) := by decide +kernel
theorem dX9_other_8 : decode cX9_other 8 = .ok (.invokestatic 102, 3) := by decide +kernel
theorem dX9_other_11 : decode cX9_other 11 = .ok (.ifCond .ne 6, 3) := by decide +kernel
theorem dX9_other_14 : decode cX9_other 14 = .ok (.bipush (-101), 2) := by decide +kernel
theorem dX9_other_16 : decode cX9_other 16 = .ok (.ireturn, 1) := by decide +kernel
theorem dX9_other_17 : decode cX9_other 17 = .ok (.aload_n 0, 1) := by decide +kernel
theorem dX9_other_18 : decode cX9_other 18 = .ok (.getfield 55, 3) := by decide +kernel
theorem dX9_other_21 : decode cX9_other 21 = .ok (.aload_n 0, 1) := by decide +kernel
theorem dX9_other_22 : decode cX9_other 22 = .ok (.getfield 13, 3) := by decide +kernel
theorem dX9_other_25 : decode cX9_other 25 = .ok (.iload_n 1, 1) := by decide +kernel
theorem dX9_other_26 : decode cX9_other 26 = .ok (.aaload, 1) := by decide +kernel
theorem dX9_other_27 : decode cX9_other 27 = .ok (.aload_n 0, 1) := by decide +kernel
theorem dX9_other_28 : decode cX9_other 28 = .ok (.getfield 95, 3) := by decide +kernel
theorem dX9_other_31 : decode cX9_other 31 = .ok (.invokevirtual 176, 3) := by decide +kernel
theorem dX9_other_34 : decode cX9_other 34 = .ok (.ifCond .ne 5, 3) := by decide +kernel
theorem dX9_other_37 : decode cX9_other 37 = .ok (.iconst (-1), 1) := by decide +kernel
theorem dX9_other_38 : decode cX9_other 38 = .ok (.ireturn, 1) := by decide +kernel
theorem dX9_other_39 : decode cX9_other 39 = .ok (.aload_n 0, 1) := by decide +kernel
theorem dX9_other_40 : decode cX9_other 40 = .ok (.getfield 55, 3) := by decide +kernel
theorem dX9_other_43 : decode cX9_other 43 = .ok (.aload_n 0, 1) := by decide +kernel
theorem dX9_other_44 : decode cX9_other 44 = .ok (.getfield 95, 3) := by decide +kernel
theorem dX9_other_47 : decode cX9_other 47 = .ok (.aload_n 0, 1) := by decide +kernel
theorem dX9_other_48 : decode cX9_other 48 = .ok (.getfield 82, 3) := by decide +kernel
theorem dX9_other_51 : decode cX9_other 51 = .ok (.invokevirtual 210, 3) := by decide +kernel
theorem dX9_other_54 : decode cX9_other 54 = .ok (.aload_n 0, 1) := by decide +kernel
theorem dX9_other_55 : decode cX9_other 55 = .ok (.getfield 39, 3) := by decide +kernel
theorem dX9_other_58 : decode cX9_other 58 = .ok (.aload_n 0, 1) := by decide +kernel
theorem dX9_other_59 : decode cX9_other 59 = .ok (.getfield 82, 3) := by decide +kernel
theorem dX9_other_62 : decode cX9_other 62 = .ok (.aload_n 0, 1) := by decide +kernel
theorem dX9_other_63 : decode cX9_other 63 = .ok (.getfield 13, 3) := by decide +kernel
theorem dX9_other_66 : decode cX9_other 66 = .ok (.iload_n 2, 1) := by decide +kernel
theorem dX9_other_67 : decode cX9_other 67 = .ok (.aaload, 1) := by decide +kernel
theorem dX9_other_68 : decode cX9_other 68 = .ok (.invokevirtual 140, 3) := by decide +kernel
theorem dX9_other_71 : decode cX9_other 71 = .ok (.iconst 1, 1) := by decide +kernel
theorem dX9_other_72 : decode cX9_other 72 = .ok (.ireturn, 1) := by decide +kernel
theorem dX9_share_0 : decode cX9_share 0 = .ok (.iload_n 1, 1) := by decide +kernel
theorem dX9_share_1 : decode cX9_share 1 = .ok (.invokestatic 102, 3) := by decide +kernel
theorem dX9_share_4 : decode cX9_share 4 = .ok (.ifCond .eq 17, 3) := by decide +kernel
theorem dX9_share_7 : decode cX9_share 7 = .ok (.iload_n 2, 1) := by decide +kernel
theorem dX9_share_8 : decode cX9_share 8 = .ok (.invokestatic 102, 3) := by decide +kernel
theorem dX9_share_11 : decode cX9_share 11 = .ok (.ifCond .eq 10, 3) := by decide +kernel
theorem dX9_share_14 : decode cX9_share 14 = .ok (.iload_n 3, 1) := by decide +kernel
theorem dX9_share_15 : decode cX9_share 15 = .ok (.invokestatic 102, 3) := by decide +kernel
theorem dX9_share_18 : decode cX9_share 18 = .ok (.ifCond .ne 6, 3) := by decide +kernel
theorem dX9_share_21 : decode cX9_share 21 = .ok (.bipush (-101), 2) := by decide +kernel
theorem dX9_share_23 : decode cX9_share 23 = .ok (.ireturn, 1) := by decide +kernel
theorem dX9_share_24 : decode cX9_share 24 = .ok (.aload_n 0, 1) := by decide +kernel
theorem dX9_share_25 : decode cX9_share 25 = .ok (.getfield 23, 3) := by decide +kernel
theorem dX9_share_28 : decode cX9_share 28 = .ok (.iconst 1, 1) := by decide +kernel
theorem dX9_share_29 : decode cX9_share 29 = .ok (.if_icmp .ge 6, 3) := by decide +kernel
theorem dX9_share_32 : decode cX9_share 32 = .ok (.bipush (-103), 2) := by decide +kernel
theorem dX9_share_34 : decode cX9_share 34 = .ok (.ireturn, 1) := by decide +kernel
theorem dX9_share_35 : decode cX9_share 35 = .ok (.aload_n 0, 1) := by decide +kernel
theorem dX9_share_36 : decode cX9_share 36 = .ok (.dup, 1) := by decide +kernel
theorem dX9_share_37 : decode cX9_share 37 = .ok (.getfield 23, 3) := by decide +kernel
theorem dX9_share_40 : decode cX9_share 40 = .ok (.iconst 1, 1) := by decide +kernel
theorem dX9_share_41 : decode cX9_share 41 = .ok (.isub, 1) := by decide +kernel
theorem dX9_share_42 : decode cX9_share 42 = .ok (.putfield 23, 3) := by decide +kernel
theorem dX9_share_45 : decode cX9_share 45 = .ok (.aload_n 0, 1) := by decide +kernel
theorem dX9_share_46 : decode cX9_share 46 = .ok (.getfield 39, 3) := by decide +kernel
theorem dX9_share_49 : decode cX9_share 49 = .ok (.aload_n 0, 1) := by decide +kernel
theorem dX9_share_50 : decode cX9_share 50 = .ok (.getfield 13, 3) := by decide +kernel
theorem dX9_share_53 : decode cX9_share 53 = .ok (.iload_n 2, 1) := by decide +kernel
theorem dX9_share_54 : decode cX9_share 54 = .ok (.aaload, 1) := by decide +kernel
theorem dX9_share_55 : decode cX9_share 55 = .ok (.aload_n 0, 1) := by decide +kernel
theorem dX9_share_56 : decode cX9_share 56 = .ok (.getfield 82, 3) := by decide +kernel
theorem dX9_share_59 : decode cX9_share 59 = .ok (.invokevirtual 129, 3) := by decide +kernel
theorem dX9_share_62 : decode cX9_share 62 = .ok (.aload_n 0, 1) := by decide +kernel
theorem dX9_share_63 : decode cX9_share 63 = .ok (.getfield 62, 3) := by decide +kernel
theorem dX9_share_66 : decode cX9_share 66 = .ok (.aload_n 0, 1) := by decide +kernel
theorem dX9_share_67 : decode cX9_share 67 = .ok (.getfield 13, 3) := by decide +kernel
theorem dX9_share_70 : decode cX9_share 70 = .ok (.iload_n 1, 1) := by decide +kernel
theorem dX9_share_71 : decode cX9_share 71 = .ok (.aaload, 1) := by decide +kernel
theorem dX9_share_72 : decode cX9_share 72 = .ok (.aload_n 0, 1) := by decide +kernel
theorem dX9_share_73 : decode cX9_share 73 = .ok (.getfield 82, 3) := by decide +kernel
theorem dX9_share_76 : decode cX9_share 76 = .ok (.aload_n 0, 1) := by decide +kernel
theorem dX9_share_77 : decode cX9_share 77 = .ok (.getfield 86, 3) := by decide +kernel
theorem dX9_share_80 : decode cX9_share 80 = .ok (.invokevirtual 213, 3) := by decide +kernel
theorem dX9_share_83 : decode cX9_share 83 = .ok (.aload_n 0, 1) := by decide +kernel
theorem dX9_share_84 : decode cX9_share 84 = .ok (.getfield 39, 3) := by decide +kernel
theorem dX9_share_87 : decode cX9_share 87 = .ok (.aload_n 0, 1) := by decide +kernel
theorem dX9_share_88 : decode cX9_share 88 = .ok (.getfield 86, 3) := by decide +kernel
theorem dX9_share_91 : decode cX9_share 91 = .ok (.aload_n 0, 1) := by decide +kernel
theorem dX9_share_92 : decode cX9_share 92 = .ok (.getfield 13, 3) := by decide +kernel
theorem dX9_share_95 : decode cX9_share 95 = .ok (.iload_n 3, 1) := by decide +kernel
theorem dX9_share_96 : decode cX9_share 96 = .ok (.aaload, 1) := by decide +kernel
theorem dX9_share_97 : decode cX9_share 97 = .ok (.invokevirtual 140, 3) := by decide +kernel
theorem dX9_share_100 : decode cX9_share 100 = .ok (.aload_n 0, 1) := by decide +kernel
theorem dX9_share_101 : decode cX9_share 101 = .ok (.getfield 39, 3) := by decide +kernel
theorem dX9_share_104 : decode cX9_share 104 = .ok (.aload_n 0, 1) := by decide +kernel
theorem dX9_share_105 : decode cX9_share 105 = .ok (.getfield 86, 3) := by decide +kernel
theorem dX9_share_108 : decode cX9_share 108 = .ok (.invokevirtual 132, 3) := by decide +kernel
theorem dX9_share_111 : decode cX9_share 111 = .ok (.ifCond .ne 7, 3) := by decide +kernel
theorem dX9_share_114 : decode cX9_share 114 = .ok (.iconst 1, 1) := by decide +kernel
theorem dX9_share_115 : decode cX9_share 115 = .ok (.goto 4, 3) := by decide +kernel
theorem dX9_share_118 : decode cX9_share 118 = .ok (.iconst 0, 1) := by decide +kernel
theorem dX9_share_119 : decode cX9_share 119 = .ok (.invokestatic 158, 3) := by decide +kernel
theorem dX9_share_122 : decode cX9_share 122 = .ok (.ireturn, 1) := by decide +kernel
theorem dX9_digest_0 : decode cX9_digest 0 = .ok (.iload_n 1, 1) := by decide +kernel
theorem dX9_digest_1 : decode cX9_digest 1 = .ok (.invokestatic 216, 3) := by decide +kernel
theorem dX9_digest_4 : decode cX9_digest 4 = .ok (.ifCond .ne 6, 3) := by decide +kernel
theorem dX9_digest_7 : decode cX9_digest 7 = .ok (.bipush (-101), 2) := by decide +kernel
theorem dX9_digest_9 : decode cX9_digest 9 = .ok (.ireturn, 1) := by decide +kernel
theorem dX9_digest_10 : decode cX9_digest 10 = .ok (.aload_n 0, 1) := by decide +kernel
theorem dX9_digest_11 : decode cX9_digest 11 = .ok (.getfield 69, 3) := by decide +kernel
theorem dX9_digest_14 : decode cX9_digest 14 = .ok (.invokevirtual 219, 3) := by decide +kernel
theorem dX9_digest_17 : decode cX9_digest 17 = .ok (.aload_n 0, 1) := by decide +kernel
theorem dX9_digest_18 : decode cX9_digest 18 = .ok (.getfield 69, 3) := by decide +kernel
theorem dX9_digest_21 : decode cX9_digest 21 = .ok (.aload_n 0, 1) := by decide +kernel
theorem dX9_digest_22 : decode cX9_digest 22 = .ok (.getfield 19, 3) := by decide +kernel
theorem dX9_digest_25 : decode cX9_digest 25 = .ok (.invokevirtual 222, 3) := by decide +kernel
theorem dX9_digest_28 : decode cX9_digest 28 = .ok (.aload_n 0, 1) := by decide +kernel
theorem dX9_digest_29 : decode cX9_digest 29 = .ok (.getfield 69, 3) := by decide +kernel
theorem dX9_digest_32 : decode cX9_digest 32 = .ok (.aload_n 0, 1) := by decide +kernel
theorem dX9_digest_33 : decode cX9_digest 33 = .ok (.getfield 89, 3) := by decide +kernel
theorem dX9_digest_36 : decode cX9_digest 36 = .ok (.invokevirtual 226, 3) := by decide +kernel
theorem dX9_digest_39 : decode cX9_digest 39 = .ok (.aload_n 0, 1) := by decide +kernel
theorem dX9_digest_40 : decode cX9_digest 40 = .ok (.getfield 89, 3) := by decide +kernel
theorem dX9_digest_43 : decode cX9_digest 43 = .ok (.iconst 0, 1) := by decide +kernel
theorem dX9_digest_44 : decode cX9_digest 44 = .ok (.aload_n 0, 1) := by decide +kernel
theorem dX9_digest_45 : decode cX9_digest 45 = .ok (.getfield 13, 3) := by decide +kernel
theorem dX9_digest_48 : decode cX9_digest 48 = .ok (.iload_n 1, 1) := by decide +kernel
theorem dX9_digest_49 : decode cX9_digest 49 = .ok (.aaload, 1) := by decide +kernel
theorem dX9_digest_50 : decode cX9_digest 50 = .ok (.iconst 0, 1) := by decide +kernel
theorem dX9_digest_51 : decode cX9_digest 51 = .ok (.iconst 4, 1) := by decide +kernel
theorem dX9_digest_52 : decode cX9_digest 52 = .ok (.invokestatic 230, 3) := by decide +kernel
theorem dX9_digest_55 : decode cX9_digest 55 = .ok (.aload_n 0, 1) := by decide +kernel
theorem dX9_digest_56 : decode cX9_digest 56 = .ok (.getfield 89, 3) := by decide +kernel
theorem dX9_digest_59 : decode cX9_digest 59 = .ok (.iconst 4, 1) := by decide +kernel
theorem dX9_digest_60 : decode cX9_digest 60 = .ok (.aload_n 0, 1) := by decide +kernel
theorem dX9_digest_61 : decode cX9_digest 61 = .ok (.getfield 13, 3) := by decide +kernel
theorem dX9_digest_64 : decode cX9_digest 64 = .ok (.iload_n 1, 1) := by decide +kernel
theorem dX9_digest_65 : decode cX9_digest 65 = .ok (.iconst 1, 1) := by decide +kernel
theorem dX9_digest_66 : decode cX9_digest 66 = .ok (.iadd, 1) := by decide +kernel
theorem dX9_digest_67 : decode cX9_digest 67 = .ok (.aaload, 1) := by decide +kernel
theorem dX9_digest_68 : decode cX9_digest 68 = .ok (.iconst 0, 1) := by decide +kernel
theorem dX9_digest_69 : decode cX9_digest 69 = .ok (.iconst 4, 1) := by decide +kernel
theorem dX9_digest_70 : decode cX9_digest 70 = .ok (.invokestatic 230, 3) := by decide +kernel
theorem dX9_digest_73 : decode cX9_digest 73 = .ok (.iconst 1, 1) := by decide +kernel
theorem dX9_digest_74 : decode cX9_digest 74 = .ok (.ireturn, 1) := by decide +kernel
theorem dX9_key_0 : decode cX9_key 0 = .ok (.iload_n 1, 1) := by decide +kernel
theorem dX9_key_1 : decode cX9_key 1 = .ok (.invokestatic 102, 3) := by decide +kernel
theorem dX9_key_4 : decode cX9_key 4 = .ok (.ifCond .eq 10, 3) := by decide +kernel
theorem dX9_key_7 : decode cX9_key 7 = .ok (.iload_n 2, 1) := by decide +kernel
theorem dX9_key_8 : decode cX9_key 8 = .ok (.invokestatic 102, 3) := by decide +kernel
theorem dX9_key_11 : decode cX9_key 11 = .ok (.ifCond .ne 6, 3) := by decide +kernel
theorem dX9_key_14 : decode cX9_key 14 = .ok (.bipush (-101), 2) := by decide +kernel
theorem dX9_key_16 : decode cX9_key 16 = .ok (.ireturn, 1) := by decide +kernel
theorem dX9_key_17 : decode cX9_key 17 = .ok (.aload_n 0, 1) := by decide +kernel
theorem dX9_key_18 : decode cX9_key 18 = .ok (.getfield 23, 3) := by decide +kernel
theorem dX9_key_21 : decode cX9_key 21 = .ok (.iconst 1, 1) := by decide +kernel
theorem dX9_key_22 : decode cX9_key 22 = .ok (.if_icmp .ge 6, 3) := by decide +kernel
theorem dX9_key_25 : decode cX9_key 25 = .ok (.bipush (-103), 2) := by decide +kernel
theorem dX9_key_27 : decode cX9_key 27 = .ok (.ireturn, 1) := by decide +kernel
theorem dX9_key_28 : decode cX9_key 28 = .ok (.aload_n 0, 1) := by decide +kernel
theorem dX9_key_29 : decode cX9_key 29 = .ok (.dup, 1) := by decide +kernel
theorem dX9_key_30 : decode cX9_key 30 = .ok (.getfield 23, 3) := by decide +kernel
theorem dX9_key_33 : decode cX9_key 33 = .ok (.iconst 1, 1) := by decide +kernel
theorem dX9_key_34 : decode cX9_key 34 = .ok (.isub, 1) := by decide +kernel
theorem dX9_key_35 : decode cX9_key 35 = .ok (.putfield 23, 3) := by decide +kernel
theorem dX9_key_38 : decode cX9_key 38 = .ok (.aload_n 0, 1) := by decide +kernel
theorem dX9_key_39 : decode cX9_key 39 = .ok (.getfield 78, 3) := by decide +kernel
theorem dX9_key_42 : decode cX9_key 42 = .ok (.aload_n 0, 1) := by decide +kernel
theorem dX9_key_43 : decode cX9_key 43 = .ok (.getfield 13, 3) := by decide +kernel
theorem dX9_key_46 : decode cX9_key 46 = .ok (.iload_n 1, 1) := by decide +kernel
theorem dX9_key_47 : decode cX9_key 47 = .ok (.aaload, 1) := by decide +kernel
theorem dX9_key_48 : decode cX9_key 48 = .ok (.aload_n 0, 1) := by decide +kernel
theorem dX9_key_49 : decode cX9_key 49 = .ok (.getfield 13, 3) := by decide +kernel
theorem dX9_key_52 : decode cX9_key 52 = .ok (.iload_n 2, 1) := by decide +kernel
theorem dX9_key_53 : decode cX9_key 53 = .ok (.aaload, 1) := by decide +kernel
theorem dX9_key_54 : decode cX9_key 54 = .ok (.invokevirtual 236, 3) := by decide +kernel
theorem dX9_key_57 : decode cX9_key 57 = .ok (.iconst 1, 1) := by decide +kernel
theorem dX9_key_58 : decode cX9_key 58 = .ok (.ireturn, 1) := by decide +kernel
theorem dX9_sign_0 : decode cX9_sign 0 = .ok (.iload_n 1, 1) := by decide +kernel
theorem dX9_sign_1 : decode cX9_sign 1 = .ok (.invokestatic 102, 3) := by decide +kernel
theorem dX9_sign_4 : decode cX9_sign 4 = .ok (.ifCond .eq 10, 3) := by decide +kernel
theorem dX9_sign_7 : decode cX9_sign 7 = .ok (.iload_n 2, 1) := by decide +kernel
theorem dX9_sign_8 : decode cX9_sign 8 = .ok (.invokestatic 216, 3) := by decide +kernel
theorem dX9_sign_11 : decode cX9_sign 11 = .ok (.ifCond .ne 6, 3) := by decide +kernel
theorem dX9_sign_14 : decode cX9_sign 14 = .ok (.bipush (-101), 2) := by decide +kernel
theorem dX9_sign_16 : decode cX9_sign 16 = .ok (.ireturn, 1) := by decide +kernel
theorem dX9_sign_17 : decode cX9_sign 17 = .ok (.aload_n 0, 1) := by decide +kernel
theorem dX9_sign_18 : decode cX9_sign 18 = .ok (.getfield 23, 3) := by decide +kernel
theorem dX9_sign_21 : decode cX9_sign 21 = .ok (.iconst 2, 1) := by decide +kernel
theorem dX9_sign_22 : decode cX9_sign 22 = .ok (.if_icmp .ge 6, 3) := by decide +kernel
theorem dX9_sign_25 : decode cX9_sign 25 = .ok (.bipush (-103), 2) := by decide +kernel
theorem dX9_sign_27 : decode cX9_sign 27 = .ok (.ireturn, 1) := by decide +kernel
theorem dX9_sign_28 : decode cX9_sign 28 = .ok (.aload_n 0, 1) := by decide +kernel
theorem dX9_sign_29 : decode cX9_sign 29 = .ok (.dup, 1) := by decide +kernel
theorem dX9_sign_30 : decode cX9_sign 30 = .ok (.getfield 23, 3) := by decide +kernel
theorem dX9_sign_33 : decode cX9_sign 33 = .ok (.iconst 2, 1) := by decide +kernel
theorem dX9_sign_34 : decode cX9_sign 34 = .ok (.isub, 1) := by decide +kernel
theorem dX9_sign_35 : decode cX9_sign 35 = .ok (.putfield 23, 3) := by decide +kernel
theorem dX9_sign_38 : decode cX9_sign 38 = .ok (.aload_n 0, 1) := by decide +kernel
theorem dX9_sign_39 : decode cX9_sign 39 = .ok (.getfield 78, 3) := by decide +kernel
theorem dX9_sign_42 : decode cX9_sign 42 = .ok (.aload_n 0, 1) := by decide +kernel
theorem dX9_sign_43 : decode cX9_sign 43 = .ok (.getfield 13, 3) := by decide +kernel
theorem dX9_sign_46 : decode cX9_sign 46 = .ok (.iload_n 1, 1) := by decide +kernel
theorem dX9_sign_47 : decode cX9_sign 47 = .ok (.aaload, 1) := by decide +kernel
theorem dX9_sign_48 : decode cX9_sign 48 = .ok (.aload_n 0, 1) := by decide +kernel
theorem dX9_sign_49 : decode cX9_sign 49 = .ok (.getfield 19, 3) := by decide +kernel
theorem dX9_sign_52 : decode cX9_sign 52 = .ok (.aload_n 0, 1) := by decide +kernel
theorem dX9_sign_53 : decode cX9_sign 53 = .ok (.getfield 13, 3) := by decide +kernel
theorem dX9_sign_56 : decode cX9_sign 56 = .ok (.iload_n 2, 1) := by decide +kernel
theorem dX9_sign_57 : decode cX9_sign 57 = .ok (.aaload, 1) := by decide +kernel
theorem dX9_sign_58 : decode cX9_sign 58 = .ok (.aload_n 0, 1) := by decide +kernel
theorem dX9_sign_59 : decode cX9_sign 59 = .ok (.getfield 13, 3) := by decide +kernel
theorem dX9_sign_62 : decode cX9_sign 62 = .ok (.iload_n 2, 1) := by decide +kernel
theorem dX9_sign_63 : decode cX9_sign 63 = .ok (.iconst 1, 1) := by decide +kernel
theorem dX9_sign_64 : decode cX9_sign 64 = .ok (.iadd, 1) := by decide +kernel
theorem dX9_sign_65 : decode cX9_sign 65 = .ok (.aaload, 1) := by decide +kernel
theorem dX9_sign_66 : decode cX9_sign 66 = .ok (.invokevirtual 239, 3) := by decide +kernel
theorem dX9_sign_69 : decode cX9_sign 69 = .ok (.aload_n 0, 1) := by decide +kernel
theorem dX9_sign_70 : decode cX9_sign 70 = .ok (.dup, 1) := by decide +kernel
theorem dX9_sign_71 : decode cX9_sign 71 = .ok (.getfield 27, 3) := by decide +kernel
theorem dX9_sign_74 : decode cX9_sign 74 = .ok (.iconst 1, 1) := by decide +kernel
theorem dX9_sign_75 : decode cX9_sign 75 = .ok (.iadd, 1) := by decide +kernel
theorem dX9_sign_76 : decode cX9_sign 76 = .ok (.putfield 27, 3) := by decide +kernel
theorem dX9_sign_79 : decode cX9_sign 79 = .ok (.iconst 1, 1) := by decide +kernel
theorem dX9_sign_80 : decode cX9_sign 80 = .ok (.ireturn, 1) := by decide +kernel
theorem dX9_judge_0 : decode cX9_judge 0 = .ok (.iload_n 1, 1) := by decide +kernel
theorem dX9_judge_1 : decode cX9_judge 1 = .ok (.invokestatic 102, 3) := by decide +kernel
theorem dX9_judge_4 : decode cX9_judge 4 = .ok (.ifCond .eq 10, 3) := by decide +kernel
theorem dX9_judge_7 : decode cX9_judge 7 = .ok (.iload_n 2, 1) := by decide +kernel
theorem dX9_judge_8 : decode cX9_judge 8 = .ok (.invokestatic 216, 3) := by decide +kernel
theorem dX9_judge_11 : decode cX9_judge 11 = .ok (.ifCond .ne 6, 3) := by decide +kernel
theorem dX9_judge_14 : decode cX9_judge 14 = .ok (.bipush (-101), 2) := by decide +kernel
theorem dX9_judge_16 : decode cX9_judge 16 = .ok (.ireturn, 1) := by decide +kernel
theorem dX9_judge_17 : decode cX9_judge 17 = .ok (.aload_n 0, 1) := by decide +kernel
theorem dX9_judge_18 : decode cX9_judge 18 = .ok (.getfield 23, 3) := by decide +kernel
theorem dX9_judge_21 : decode cX9_judge 21 = .ok (.iconst 2, 1) := by decide +kernel
theorem dX9_judge_22 : decode cX9_judge 22 = .ok (.if_icmp .ge 6, 3) := by decide +kernel
theorem dX9_judge_25 : decode cX9_judge 25 = .ok (.bipush (-103), 2) := by decide +kernel
theorem dX9_judge_27 : decode cX9_judge 27 = .ok (.ireturn, 1) := by decide +kernel
theorem dX9_judge_28 : decode cX9_judge 28 = .ok (.aload_n 0, 1) := by decide +kernel
theorem dX9_judge_29 : decode cX9_judge 29 = .ok (.dup, 1) := by decide +kernel
theorem dX9_judge_30 : decode cX9_judge 30 = .ok (.getfield 23, 3) := by decide +kernel
theorem dX9_judge_33 : decode cX9_judge 33 = .ok (.iconst 2, 1) := by decide +kernel
theorem dX9_judge_34 : decode cX9_judge 34 = .ok (.isub, 1) := by decide +kernel
theorem dX9_judge_35 : decode cX9_judge 35 = .ok (.putfield 23, 3) := by decide +kernel
theorem dX9_judge_38 : decode cX9_judge 38 = .ok (.aload_n 0, 1) := by decide +kernel
theorem dX9_judge_39 : decode cX9_judge 39 = .ok (.dup, 1) := by decide +kernel
theorem dX9_judge_40 : decode cX9_judge 40 = .ok (.getfield 30, 3) := by decide +kernel
theorem dX9_judge_43 : decode cX9_judge 43 = .ok (.iconst 1, 1) := by decide +kernel
theorem dX9_judge_44 : decode cX9_judge 44 = .ok (.iadd, 1) := by decide +kernel
theorem dX9_judge_45 : decode cX9_judge 45 = .ok (.putfield 30, 3) := by decide +kernel
theorem dX9_judge_48 : decode cX9_judge 48 = .ok (.aload_n 0, 1) := by decide +kernel
theorem dX9_judge_49 : decode cX9_judge 49 = .ok (.getfield 78, 3) := by decide +kernel
theorem dX9_judge_52 : decode cX9_judge 52 = .ok (.aload_n 0, 1) := by decide +kernel
theorem dX9_judge_53 : decode cX9_judge 53 = .ok (.getfield 13, 3) := by decide +kernel
theorem dX9_judge_56 : decode cX9_judge 56 = .ok (.iload_n 1, 1) := by decide +kernel
theorem dX9_judge_57 : decode cX9_judge 57 = .ok (.aaload, 1) := by decide +kernel
theorem dX9_judge_58 : decode cX9_judge 58 = .ok (.aload_n 0, 1) := by decide +kernel
theorem dX9_judge_59 : decode cX9_judge 59 = .ok (.getfield 13, 3) := by decide +kernel
theorem dX9_judge_62 : decode cX9_judge 62 = .ok (.iload_n 2, 1) := by decide +kernel
theorem dX9_judge_63 : decode cX9_judge 63 = .ok (.aaload, 1) := by decide +kernel
theorem dX9_judge_64 : decode cX9_judge 64 = .ok (.aload_n 0, 1) := by decide +kernel
theorem dX9_judge_65 : decode cX9_judge 65 = .ok (.getfield 13, 3) := by decide +kernel
theorem dX9_judge_68 : decode cX9_judge 68 = .ok (.iload_n 2, 1) := by decide +kernel
theorem dX9_judge_69 : decode cX9_judge 69 = .ok (.iconst 1, 1) := by decide +kernel
theorem dX9_judge_70 : decode cX9_judge 70 = .ok (.iadd, 1) := by decide +kernel
theorem dX9_judge_71 : decode cX9_judge 71 = .ok (.aaload, 1) := by decide +kernel
theorem dX9_judge_72 : decode cX9_judge 72 = .ok (.aload_n 0, 1) := by decide +kernel
theorem dX9_judge_73 : decode cX9_judge 73 = .ok (.getfield 19, 3) := by decide +kernel
theorem dX9_judge_76 : decode cX9_judge 76 = .ok (.invokevirtual 243, 3) := by decide +kernel
theorem dX9_judge_79 : decode cX9_judge 79 = .ok (.ifCond .ne 5, 3) := by decide +kernel
theorem dX9_judge_82 : decode cX9_judge 82 = .ok (.iconst 0, 1) := by decide +kernel
theorem dX9_judge_83 : decode cX9_judge 83 = .ok (.ireturn, 1) := by decide +kernel
theorem dX9_judge_84 : decode cX9_judge 84 = .ok (.aload_n 0, 1) := by decide +kernel
theorem dX9_judge_85 : decode cX9_judge 85 = .ok (.dup, 1) := by decide +kernel
theorem dX9_judge_86 : decode cX9_judge 86 = .ok (.getfield 33, 3) := by decide +kernel
theorem dX9_judge_89 : decode cX9_judge 89 = .ok (.iconst 1, 1) := by decide +kernel
theorem dX9_judge_90 : decode cX9_judge 90 = .ok (.iadd, 1) := by decide +kernel
theorem dX9_judge_91 : decode cX9_judge 91 = .ok (.putfield 33, 3) := by decide +kernel
theorem dX9_judge_94 : decode cX9_judge 94 = .ok (.iconst 1, 1) := by decide +kernel
theorem dX9_judge_95 : decode cX9_judge 95 = .ok (.ireturn, 1) := by decide +kernel
theorem dX9_count_0 : decode cX9_count 0 = .ok (.iload_n 1, 1) := by decide +kernel
theorem dX9_count_1 : decode cX9_count 1 = .ok (.tableswitch 63 0 4 #[35, 43, 48, 53, 58], 35) := by decide +kernel
theorem dX9_count_36 : decode cX9_count 36 = .ok (.aload_n 0, 1) := by decide +kernel
theorem dX9_count_37 : decode cX9_count 37 = .ok (.getfield 19, 3) := by decide +kernel
theorem dX9_count_40 : decode cX9_count 40 = .ok (.getfield 114, 3) := by decide +kernel
theorem dX9_count_43 : decode cX9_count 43 = .ok (.ireturn, 1) := by decide +kernel
theorem dX9_count_44 : decode cX9_count 44 = .ok (.aload_n 0, 1) := by decide +kernel
theorem dX9_count_45 : decode cX9_count 45 = .ok (.getfield 23, 3) := by decide +kernel
theorem dX9_count_48 : decode cX9_count 48 = .ok (.ireturn, 1) := by decide +kernel
theorem dX9_count_49 : decode cX9_count 49 = .ok (.aload_n 0, 1) := by decide +kernel
theorem dX9_count_50 : decode cX9_count 50 = .ok (.getfield 27, 3) := by decide +kernel
theorem dX9_count_53 : decode cX9_count 53 = .ok (.ireturn, 1) := by decide +kernel
theorem dX9_count_54 : decode cX9_count 54 = .ok (.aload_n 0, 1) := by decide +kernel
theorem dX9_count_55 : decode cX9_count 55 = .ok (.getfield 30, 3) := by decide +kernel
theorem dX9_count_58 : decode cX9_count 58 = .ok (.ireturn, 1) := by decide +kernel
theorem dX9_count_59 : decode cX9_count 59 = .ok (.aload_n 0, 1) := by decide +kernel
theorem dX9_count_60 : decode cX9_count 60 = .ok (.getfield 33, 3) := by decide +kernel
theorem dX9_count_63 : decode cX9_count 63 = .ok (.ireturn, 1) := by decide +kernel
theorem dX9_count_64 : decode cX9_count 64 = .ok (.bipush (-102), 2) := by decide +kernel
theorem dX9_count_66 : decode cX9_count 66 = .ok (.ireturn, 1) := by decide +kernel
theorem dX9_isSlot_0 : decode cX9_isSlot 0 = .ok (.iload_n 0, 1) := by decide +kernel
theorem dX9_isSlot_1 : decode cX9_isSlot 1 = .ok (.bipush 24, 2) := by decide +kernel
theorem dX9_isSlot_3 : decode cX9_isSlot 3 = .ok (.invokestatic 106, 3) := by decide +kernel
theorem dX9_isSlot_6 : decode cX9_isSlot 6 = .ok (.ireturn, 1) := by decide +kernel
theorem dX9_isPair_0 : decode cX9_isPair 0 = .ok (.iload_n 0, 1) := by decide +kernel
theorem dX9_isPair_1 : decode cX9_isPair 1 = .ok (.bipush 23, 2) := by decide +kernel
theorem dX9_isPair_3 : decode cX9_isPair 3 = .ok (.invokestatic 106, 3) := by decide +kernel
theorem dX9_isPair_6 : decode cX9_isPair 6 = .ok (.ireturn, 1) := by decide +kernel
theorem dX9_isWithin_0 : decode cX9_isWithin 0 = .ok (.iload_n 0, 1) := by decide +kernel
theorem dX9_isWithin_1 : decode cX9_isWithin 1 = .ok (.ifCond .lt 12, 3) := by decide +kernel
theorem dX9_isWithin_4 : decode cX9_isWithin 4 = .ok (.iload_n 0, 1) := by decide +kernel
theorem dX9_isWithin_5 : decode cX9_isWithin 5 = .ok (.iload_n 1, 1) := by decide +kernel
theorem dX9_isWithin_6 : decode cX9_isWithin 6 = .ok (.if_icmp .ge 7, 3) := by decide +kernel
theorem dX9_isWithin_9 : decode cX9_isWithin 9 = .ok (.iconst 1, 1) := by decide +kernel
theorem dX9_isWithin_10 : decode cX9_isWithin 10 = .ok (.goto 4, 3) := by decide +kernel
theorem dX9_isWithin_13 : decode cX9_isWithin 13 = .ok (.iconst 0, 1) := by decide +kernel
theorem dX9_isWithin_14 : decode cX9_isWithin 14 = .ok (.ireturn, 1) := by decide +kernel
theorem dX9_told_0 : decode cX9_told 0 = .ok (.iload_n 0, 1) := by decide +kernel
theorem dX9_told_1 : decode cX9_told 1 = .ok (.ifCond .eq 7, 3) := by decide +kernel
theorem dX9_told_4 : decode cX9_told 4 = .ok (.iconst 1, 1) := by decide +kernel
theorem dX9_told_5 : decode cX9_told 5 = .ok (.goto 4, 3) := by decide +kernel
theorem dX9_told_8 : decode cX9_told 8 = .ok (.iconst 0, 1) := by decide +kernel
theorem dX9_told_9 : decode cX9_told 9 = .ok (.ireturn, 1) := by decide +kernel
theorem dX9_combine_0 : decode cX9_combine 0 = .ok (.iload_n 1, 1) := by decide +kernel
theorem dX9_combine_1 : decode cX9_combine 1 = .ok (.tableswitch 93 0 2 #[27, 49, 71], 27) := by decide +kernel
theorem dX9_combine_28 : decode cX9_combine 28 = .ok (.aload_n 0, 1) := by decide +kernel
theorem dX9_combine_29 : decode cX9_combine 29 = .ok (.getfield 39, 3) := by decide +kernel
theorem dX9_combine_32 : decode cX9_combine 32 = .ok (.aload_n 0, 1) := by decide +kernel
theorem dX9_combine_33 : decode cX9_combine 33 = .ok (.getfield 82, 3) := by decide +kernel
theorem dX9_combine_36 : decode cX9_combine 36 = .ok (.aload_n 0, 1) := by decide +kernel
theorem dX9_combine_37 : decode cX9_combine 37 = .ok (.getfield 86, 3) := by decide +kernel
theorem dX9_combine_40 : decode cX9_combine 40 = .ok (.aload_n 0, 1) := by decide +kernel
theorem dX9_combine_41 : decode cX9_combine 41 = .ok (.getfield 82, 3) := by decide +kernel
theorem dX9_combine_44 : decode cX9_combine 44 = .ok (.invokevirtual 247, 3) := by decide +kernel
theorem dX9_combine_47 : decode cX9_combine 47 = .ok (.goto 81, 3) := by decide +kernel
theorem dX9_combine_50 : decode cX9_combine 50 = .ok (.aload_n 0, 1) := by decide +kernel
theorem dX9_combine_51 : decode cX9_combine 51 = .ok (.getfield 39, 3) := by decide +kernel
theorem dX9_combine_54 : decode cX9_combine 54 = .ok (.aload_n 0, 1) := by decide +kernel
theorem dX9_combine_55 : decode cX9_combine 55 = .ok (.getfield 82, 3) := by decide +kernel
theorem dX9_combine_58 : decode cX9_combine 58 = .ok (.aload_n 0, 1) := by decide +kernel
theorem dX9_combine_59 : decode cX9_combine 59 = .ok (.getfield 86, 3) := by decide +kernel
theorem dX9_combine_62 : decode cX9_combine 62 = .ok (.aload_n 0, 1) := by decide +kernel
theorem dX9_combine_63 : decode cX9_combine 63 = .ok (.getfield 82, 3) := by decide +kernel
theorem dX9_combine_66 : decode cX9_combine 66 = .ok (.invokevirtual 249, 3) := by decide +kernel
theorem dX9_combine_69 : decode cX9_combine 69 = .ok (.goto 59, 3) := by decide +kernel
theorem dX9_combine_72 : decode cX9_combine 72 = .ok (.aload_n 0, 1) := by decide +kernel
theorem dX9_combine_73 : decode cX9_combine 73 = .ok (.getfield 39, 3) := by decide +kernel
theorem dX9_combine_76 : decode cX9_combine 76 = .ok (.aload_n 0, 1) := by decide +kernel
theorem dX9_combine_77 : decode cX9_combine 77 = .ok (.getfield 82, 3) := by decide +kernel
theorem dX9_combine_80 : decode cX9_combine 80 = .ok (.aload_n 0, 1) := by decide +kernel
theorem dX9_combine_81 : decode cX9_combine 81 = .ok (.getfield 86, 3) := by decide +kernel
theorem dX9_combine_84 : decode cX9_combine 84 = .ok (.aload_n 0, 1) := by decide +kernel
theorem dX9_combine_85 : decode cX9_combine 85 = .ok (.getfield 82, 3) := by decide +kernel
theorem dX9_combine_88 : decode cX9_combine 88 = .ok (.invokevirtual 252, 3) := by decide +kernel
theorem dX9_combine_91 : decode cX9_combine 91 = .ok (.goto 37, 3) := by decide +kernel
theorem dX9_combine_94 : decode cX9_combine 94 = .ok (.aload_n 0, 1) := by decide +kernel
theorem dX9_combine_95 : decode cX9_combine 95 = .ok (.getfield 39, 3) := by decide +kernel
theorem dX9_combine_98 : decode cX9_combine 98 = .ok (.aload_n 0, 1) := by decide +kernel
theorem dX9_combine_99 : decode cX9_combine 99 = .ok (.getfield 86, 3) := by decide +kernel
theorem dX9_combine_102 : decode cX9_combine 102 = .ok (.aload_n 0, 1) := by decide +kernel
theorem dX9_combine_103 : decode cX9_combine 103 = .ok (.getfield 86, 3) := by decide +kernel
theorem dX9_combine_106 : decode cX9_combine 106 = .ok (.invokevirtual 254, 3) := by decide +kernel
theorem dX9_combine_109 : decode cX9_combine 109 = .ok (.aload_n 0, 1) := by decide +kernel
theorem dX9_combine_110 : decode cX9_combine 110 = .ok (.getfield 39, 3) := by decide +kernel
theorem dX9_combine_113 : decode cX9_combine 113 = .ok (.aload_n 0, 1) := by decide +kernel
theorem dX9_combine_114 : decode cX9_combine 114 = .ok (.getfield 82, 3) := by decide +kernel
theorem dX9_combine_117 : decode cX9_combine 117 = .ok (.aload_n 0, 1) := by decide +kernel
theorem dX9_combine_118 : decode cX9_combine 118 = .ok (.getfield 86, 3) := by decide +kernel
theorem dX9_combine_121 : decode cX9_combine 121 = .ok (.aload_n 0, 1) := by decide +kernel
theorem dX9_combine_122 : decode cX9_combine 122 = .ok (.getfield 82, 3) := by decide +kernel
theorem dX9_combine_125 : decode cX9_combine 125 = .ok (.invokevirtual 252, 3) := by decide +kernel
theorem dX9_combine_128 : decode cX9_combine 128 = .ok (.return_, 1) := by decide +kernel
theorem dX10_init_0 : decode cX10_init 0 = .ok (.aload_n 0, 1) := by decide +kernel
theorem dX10_init_1 : decode cX10_init 1 = .ok (.invokespecial 1, 3) := by decide +kernel
theorem dX10_init_4 : decode cX10_init 4 = .ok (.aload_n 0, 1) := by decide +kernel
theorem dX10_init_5 : decode cX10_init 5 = .ok (.bipush 96, 2) := by decide +kernel
theorem dX10_init_7 : decode cX10_init 7 = .ok (.newarray .long, 2) := by decide +kernel
theorem dX10_init_9 : decode cX10_init 9 = .ok (.putfield 7, 3) := by decide +kernel
theorem dX10_init_12 : decode cX10_init 12 = .ok (.aload_n 0, 1) := by decide +kernel
theorem dX10_init_13 : decode cX10_init 13 = .ok (.sipush 400, 3) := by decide +kernel
theorem dX10_init_16 : decode cX10_init 16 = .ok (.newarray .int, 2) := by decide +kernel
theorem dX10_init_18 : decode cX10_init 18 = .ok (.putfield 13, 3) := by decide +kernel
theorem dX10_init_21 : decode cX10_init 21 = .ok (.aload_n 0, 1) := by decide +kernel
theorem dX10_init_22 : decode cX10_init 22 = .ok (.sipush 400, 3) := by decide +kernel
theorem dX10_init_25 : decode cX10_init 25 = .ok (.putfield 17, 3) := by decide +kernel
theorem dX10_init_28 : decode cX10_init 28 = .ok (.aload_n 0, 1) := by decide +kernel
theorem dX10_init_29 : decode cX10_init 29 = .ok (.sipush 768, 3) := by decide +kernel
theorem dX10_init_32 : decode cX10_init 32 = .ok (.newarray .long, 2) := by decide +kernel
theorem dX10_init_34 : decode cX10_init 34 = .ok (.putfield 21, 3) := by decide +kernel
theorem dX10_init_37 : decode cX10_init 37 = .ok (.aload_n 0, 1) := by decide +kernel
theorem dX10_init_38 : decode cX10_init 38 = .ok (.bipush 32, 2) := by decide +kernel
theorem dX10_init_40 : decode cX10_init 40 = .ok (.newarray .long, 2) := by decide +kernel
theorem dX10_init_42 : decode cX10_init 42 = .ok (.putfield 24, 3) := by decide +kernel
theorem dX10_init_45 : decode cX10_init 45 = .ok (.aload_n 0, 1) := by decide +kernel
theorem dX10_init_46 : decode cX10_init 46 = .ok (.bipush 64, 2) := by decide +kernel
theorem dX10_init_48 : decode cX10_init 48 = .ok (.newarray .long, 2) := by decide +kernel
theorem dX10_init_50 : decode cX10_init 50 = .ok (.putfield 27, 3) := by decide +kernel
theorem dX10_init_53 : decode cX10_init 53 = .ok (.aload_n 0, 1) := by decide +kernel
theorem dX10_init_54 : decode cX10_init 54 = .ok (.bipush 8, 2) := by decide +kernel
theorem dX10_init_56 : decode cX10_init 56 = .ok (.newarray .long, 2) := by decide +kernel
theorem dX10_init_58 : decode cX10_init 58 = .ok (.putfield 30, 3) := by decide +kernel
theorem dX10_init_61 : decode cX10_init 61 = .ok (.aload_n 0, 1) := by decide +kernel
theorem dX10_init_62 : decode cX10_init 62 = .ok (.bipush 80, 2) := by decide +kernel
theorem dX10_init_64 : decode cX10_init 64 = .ok (.newarray .long, 2) := by decide +kernel
theorem dX10_init_66 : decode cX10_init 66 = .ok (.putfield 33, 3) := by decide +kernel
theorem dX10_init_69 : decode cX10_init 69 = .ok (.aload_n 0, 1) := by decide +kernel
theorem dX10_init_70 : decode cX10_init 70 = .ok (.bipush 6, 2) := by decide +kernel
theorem dX10_init_72 : decode cX10_init 72 = .ok (.newarray .long, 2) := by decide +kernel
theorem dX10_init_74 : decode cX10_init 74 = .ok (.putfield 36, 3) := by decide +kernel
theorem dX10_init_77 : decode cX10_init 77 = .ok (.aload_n 0, 1) := by decide +kernel
theorem dX10_init_78 : decode cX10_init 78 = .ok (.bipush 12, 2) := by decide +kernel
theorem dX10_init_80 : decode cX10_init 80 = .ok (.newarray .long, 2) := by decide +kernel
theorem dX10_init_82 : decode cX10_init 82 = .ok (.putfield 39, 3) := by decide +kernel
theorem dX10_init_85 : decode cX10_init 85 = .ok (.aload_n 0, 1) := by decide +kernel
theorem dX10_init_86 : decode cX10_init 86 = .ok (.bipush 18, 2) := by decide +kernel
theorem dX10_init_88 : decode cX10_init 88 = .ok (.newarray .long, 2) := by decide +kernel
theorem dX10_init_90 : decode cX10_init 90 = .ok (.putfield 42, 3) := by decide +kernel
theorem dX10_init_93 : decode cX10_init 93 = .ok (.aload_n 0, 1) := by decide +kernel
theorem dX10_init_94 : decode cX10_init 94 = .ok (.sipush 768, 3) := by decide +kernel
theorem dX10_init_97 : decode cX10_init 97 = .ok (.newarray .int, 2) := by decide +kernel
theorem dX10_init_99 : decode cX10_init 99 = .ok (.putfield 45, 3) := by decide +kernel
theorem dX10_init_102 : decode cX10_init 102 = .ok (.aload_n 0, 1) := by decide +kernel
theorem dX10_init_103 : decode cX10_init 103 = .ok (.bipush 80, 2) := by decide +kernel
theorem dX10_init_105 : decode cX10_init 105 = .ok (.newarray .long, 2) := by decide +kernel
theorem dX10_init_107 : decode cX10_init 107 = .ok (.putfield 48, 3) := by decide +kernel
theorem dX10_init_110 : decode cX10_init 110 = .ok (.aload_n 0, 1) := by decide +kernel
theorem dX10_init_111 : decode cX10_init 111 = .ok (.bipush 8, 2) := by decide +kernel
theorem dX10_init_113 : decode cX10_init 113 = .ok (.newarray .long, 2) := by decide +kernel
theorem dX10_init_115 : decode cX10_init 115 = .ok (.putfield 51, 3) := by decide +kernel
theorem dX10_init_118 : decode cX10_init 118 = .ok (.aload_n 0, 1) := by decide +kernel
theorem dX10_init_119 : decode cX10_init 119 = .ok (.bipush 8, 2) := by decide +kernel
theorem dX10_init_121 : decode cX10_init 121 = .ok (.newarray .long, 2) := by decide +kernel
theorem dX10_init_123 : decode cX10_init 123 = .ok (.putfield 54, 3) := by decide +kernel
theorem dX10_init_126 : decode cX10_init 126 = .ok (.aload_n 0, 1) := by decide +kernel
theorem dX10_init_127 : decode cX10_init 127 = .ok (.bipush 64, 2) := by decide +kernel
theorem dX10_init_129 : decode cX10_init 129 = .ok (.newarray .int, 2) := by decide +kernel
theorem dX10_init_131 : decode cX10_init 131 = .ok (.putfield 57, 3) := by decide +kernel
theorem dX10_init_134 : decode cX10_init 134 = .ok (.aload_n 0, 1) := by decide +kernel
theorem dX10_init_135 : decode cX10_init 135 = .ok (.bipush 40, 2) := by decide +kernel
theorem dX10_init_137 : decode cX10_init 137 = .ok (.newarray .long, 2) := by decide +kernel
theorem dX10_init_139 : decode cX10_init 139 = .ok (.putfield 60, 3) := by decide +kernel
theorem dX10_init_142 : decode cX10_init 142 = .ok (.aload_n 0, 1) := by decide +kernel
theorem dX10_init_143 : decode cX10_init 143 = .ok (.bipush 18, 2) := by decide +kernel
theorem dX10_init_145 : decode cX10_init 145 = .ok (.newarray .long, 2) := by decide +kernel
theorem dX10_init_147 : decode cX10_init 147 = .ok (.putfield 63, 3) := by decide +kernel
theorem dX10_init_150 : decode cX10_init 150 = .ok (.aload_n 0, 1) := by decide +kernel
theorem dX10_init_151 : decode cX10_init 151 = .ok (.bipush 36, 2) := by decide +kernel
theorem dX10_init_153 : decode cX10_init 153 = .ok (.ldc2_w 66, 3) := by decide +kernel
theorem dX10_init_156 : decode cX10_init 156 = .ok (.ldc2_w 68, 3) := by decide +kernel
theorem dX10_init_159 : decode cX10_init 159 = .ok (.ldc2_w 68, 3) := by decide +kernel
theorem dX10_init_162 : decode cX10_init 162 = .ok (.ldc2_w 70, 3) := by decide +kernel
theorem dX10_init_165 : decode cX10_init 165 = .ok (.invokevirtual 72, 3) := by decide +kernel
theorem dX10_init_168 : decode cX10_init 168 = .ok (.aload_n 0, 1) := by decide +kernel
theorem dX10_init_169 : decode cX10_init 169 = .ok (.bipush 32, 2) := by decide +kernel
theorem dX10_init_171 : decode cX10_init 171 = .ok (.ldc2_w 76, 3) := by decide +kernel
theorem dX10_init_174 : decode cX10_init 174 = .ok (.ldc2_w 78, 3) := by decide +kernel
theorem dX10_init_177 : decode cX10_init 177 = .ok (.lconst 0, 1) := by decide +kernel
theorem dX10_init_178 : decode cX10_init 178 = .ok (.ldc2_w 80, 3) := by decide +kernel
theorem dX10_init_181 : decode cX10_init 181 = .ok (.invokevirtual 72, 3) := by decide +kernel
theorem dX10_init_184 : decode cX10_init 184 = .ok (.aload_n 0, 1) := by decide +kernel
theorem dX10_init_185 : decode cX10_init 185 = .ok (.iconst 1, 1) := by decide +kernel
theorem dX10_init_186 : decode cX10_init 186 = .ok (.lconst 1, 1) := by decide +kernel
theorem dX10_init_187 : decode cX10_init 187 = .ok (.invokevirtual 82, 3) := by decide +kernel
theorem dX10_init_190 : decode cX10_init 190 = .ok (.aload_n 0, 1) := by decide +kernel
theorem dX10_init_191 : decode cX10_init 191 = .ok (.bipush 26, 2) := by decide +kernel
theorem dX10_init_193 : decode cX10_init 193 = .ok (.ldc2_w 86, 3) := by decide +kernel
theorem dX10_init_196 : decode cX10_init 196 = .ok (.invokevirtual 82, 3) := by decide +kernel
theorem dX10_init_199 : decode cX10_init 199 = .ok (.aload_n 0, 1) := by decide +kernel
theorem dX10_init_200 : decode cX10_init 200 = .ok (.iconst 0, 1) := by decide +kernel
theorem dX10_init_201 : decode cX10_init 201 = .ok (.ldc2_w 88, 3) := by decide +kernel
theorem dX10_init_204 : decode cX10_init 204 = .ok (.ldc2_w 68, 3) := by decide +kernel
theorem dX10_init_207 : decode cX10_init 207 = .ok (.ldc2_w 68, 3) := by decide +kernel
theorem dX10_init_210 : decode cX10_init 210 = .ok (.ldc2_w 90, 3) := by decide +kernel
theorem dX10_init_213 : decode cX10_init 213 = .ok (.invokevirtual 72, 3) := by decide +kernel
theorem dX10_init_216 : decode cX10_init 216 = .ok (.aload_n 0, 1) := by decide +kernel
theorem dX10_init_217 : decode cX10_init 217 = .ok (.iconst 4, 1) := by decide +kernel
theorem dX10_init_218 : decode cX10_init 218 = .ok (.bipush 26, 2) := by decide +kernel
theorem dX10_init_220 : decode cX10_init 220 = .ok (.iconst 0, 1) := by decide +kernel
theorem dX10_init_221 : decode cX10_init 221 = .ok (.invokevirtual 92, 3) := by decide +kernel
theorem dX10_init_224 : decode cX10_init 224 = .ok (.aload_n 0, 1) := by decide +kernel
theorem dX10_init_225 : decode cX10_init 225 = .ok (.bipush 26, 2) := by decide +kernel
theorem dX10_init_227 : decode cX10_init 227 = .ok (.ldc2_w 96, 3) := by decide +kernel
theorem dX10_init_230 : decode cX10_init 230 = .ok (.invokevirtual 82, 3) := by decide +kernel
theorem dX10_init_233 : decode cX10_init 233 = .ok (.aload_n 0, 1) := by decide +kernel
theorem dX10_init_234 : decode cX10_init 234 = .ok (.bipush 26, 2) := by decide +kernel
theorem dX10_init_236 : decode cX10_init 236 = .ok (.iconst 0, 1) := by decide +kernel
theorem dX10_init_237 : decode cX10_init 237 = .ok (.bipush 26, 2) := by decide +kernel
theorem dX10_init_239 : decode cX10_init 239 = .ok (.invokevirtual 98, 3) := by decide +kernel
theorem dX10_init_242 : decode cX10_init 242 = .ok (.aload_n 0, 1) := by decide +kernel
theorem dX10_init_243 : decode cX10_init 243 = .ok (.bipush 41, 2) := by decide +kernel
theorem dX10_init_245 : decode cX10_init 245 = .ok (.ldc2_w 101, 3) := by decide +kernel
theorem dX10_init_248 : decode cX10_init 248 = .ok (.invokevirtual 82, 3) := by decide +kernel
theorem dX10_init_251 : decode cX10_init 251 = .ok (.aload_n 0, 1) := by decide +kernel
theorem dX10_init_252 : decode cX10_init 252 = .ok (.bipush 41, 2) := by decide +kernel
theorem dX10_init_254 : decode cX10_init 254 = .ok (.bipush 41, 2) := by decide +kernel
theorem dX10_init_256 : decode cX10_init 256 = .ok (.invokevirtual 103, 3) := by decide +kernel
theorem dX10_init_259 : decode cX10_init 259 = .ok (.aload_n 0, 1) := by decide +kernel
theorem dX10_init_260 : decode cX10_init 260 = .ok (.iconst 2, 1) := by decide +kernel
theorem dX10_init_261 : decode cX10_init 261 = .ok (.bipush 26, 2) := by decide +kernel
theorem dX10_init_263 : decode cX10_init 263 = .ok (.bipush 41, 2) := by decide +kernel
theorem dX10_init_265 : decode cX10_init 265 = .ok (.invokevirtual 107, 3) := by decide +kernel
theorem dX10_init_268 : decode cX10_init 268 = .ok (.aload_n 0, 1) := by decide +kernel
theorem dX10_init_269 : decode cX10_init 269 = .ok (.iconst 3, 1) := by decide +kernel
theorem dX10_init_270 : decode cX10_init 270 = .ok (.iconst 2, 1) := by decide +kernel
theorem dX10_init_271 : decode cX10_init 271 = .ok (.iconst 2, 1) := by decide +kernel
theorem dX10_init_272 : decode cX10_init 272 = .ok (.invokevirtual 110, 3) := by decide +kernel
theorem dX10_init_275 : decode cX10_init 275 = .ok (.aload_n 0, 1) := by decide +kernel
theorem dX10_init_276 : decode cX10_init 276 = .ok (.iconst 3, 1) := by decide +kernel
theorem dX10_init_277 : decode cX10_init 277 = .ok (.invokevirtual 113, 3) := by decide +kernel
theorem dX10_init_280 : decode cX10_init 280 = .ok (.aload_n 0, 1) := by decide +kernel
theorem dX10_init_281 : decode cX10_init 281 = .ok (.bipush 26, 2) := by decide +kernel
theorem dX10_init_283 : decode cX10_init 283 = .ok (.ldc2_w 117, 3) := by decide +kernel
theorem dX10_init_286 : decode cX10_init 286 = .ok (.invokevirtual 82, 3) := by decide +kernel
theorem dX10_init_289 : decode cX10_init 289 = .ok (.aload_n 0, 1) := by decide +kernel
theorem dX10_init_290 : decode cX10_init 290 = .ok (.bipush 41, 2) := by decide +kernel
theorem dX10_init_292 : decode cX10_init 292 = .ok (.ldc2_w 119, 3) := by decide +kernel
theorem dX10_init_295 : decode cX10_init 295 = .ok (.invokevirtual 82, 3) := by decide +kernel
theorem dX10_init_298 : decode cX10_init 298 = .ok (.aload_n 0, 1) := by decide +kernel
theorem dX10_init_299 : decode cX10_init 299 = .ok (.bipush 41, 2) := by decide +kernel
theorem dX10_init_301 : decode cX10_init 301 = .ok (.bipush 41, 2) := by decide +kernel
theorem dX10_init_303 : decode cX10_init 303 = .ok (.invokevirtual 103, 3) := by decide +kernel
theorem dX10_init_306 : decode cX10_init 306 = .ok (.aload_n 0, 1) := by decide +kernel
theorem dX10_init_307 : decode cX10_init 307 = .ok (.bipush 42, 2) := by decide +kernel
theorem dX10_init_309 : decode cX10_init 309 = .ok (.bipush 26, 2) := by decide +kernel
theorem dX10_init_311 : decode cX10_init 311 = .ok (.bipush 41, 2) := by decide +kernel
theorem dX10_init_313 : decode cX10_init 313 = .ok (.invokevirtual 107, 3) := by decide +kernel
theorem dX10_init_316 : decode cX10_init 316 = .ok (.aload_n 0, 1) := by decide +kernel
theorem dX10_init_317 : decode cX10_init 317 = .ok (.bipush 24, 2) := by decide +kernel
theorem dX10_init_319 : decode cX10_init 319 = .ok (.bipush 42, 2) := by decide +kernel
theorem dX10_init_321 : decode cX10_init 321 = .ok (.invokevirtual 121, 3) := by decide +kernel
theorem dX10_init_324 : decode cX10_init 324 = .ok (.aload_n 0, 1) := by decide +kernel
theorem dX10_init_325 : decode cX10_init 325 = .ok (.iconst 5, 1) := by decide +kernel
theorem dX10_init_326 : decode cX10_init 326 = .ok (.bipush 24, 2) := by decide +kernel
theorem dX10_init_328 : decode cX10_init 328 = .ok (.invokevirtual 124, 3) := by decide +kernel
theorem dX10_init_331 : decode cX10_init 331 = .ok (.ifCond .ne 8, 3) := by decide +kernel
theorem dX10_init_334 : decode cX10_init 334 = .ok (.aload_n 0, 1) := by decide +kernel
theorem dX10_init_335 : decode cX10_init 335 = .ok (.iconst 0, 1) := by decide +kernel
theorem dX10_init_336 : decode cX10_init 336 = .ok (.putfield 17, 3) := by decide +kernel
theorem dX10_init_339 : decode cX10_init 339 = .ok (.aload_n 0, 1) := by decide +kernel
theorem dX10_init_340 : decode cX10_init 340 = .ok (.invokevirtual 128, 3) := by decide +kernel
theorem dX10_init_343 : decode cX10_init 343 = .ok (.return_, 1) := by decide +kernel
theorem dX10_in_0 : decode cX10_in 0 = .ok (.iload_n 0, 1) := by decide +kernel
theorem dX10_in_1 : decode cX10_in 1 = .ok (.iload_n 1, 1) := by decide +kernel
theorem dX10_in_2 : decode cX10_in 2 = .ok (.if_icmp .lt 12, 3) := by decide +kernel
theorem dX10_in_5 : decode cX10_in 5 = .ok (.iload_n 0, 1) := by decide +kernel
theorem dX10_in_6 : decode cX10_in 6 = .ok (.iload_n 2, 1) := by decide +kernel
theorem dX10_in_7 : decode cX10_in 7 = .ok (.if_icmp .gt 7, 3) := by decide +kernel
theorem dX10_in_10 : decode cX10_in 10 = .ok (.iconst 1, 1) := by decide +kernel
theorem dX10_in_11 : decode cX10_in 11 = .ok (.goto 4, 3) := by decide +kernel
theorem dX10_in_14 : decode cX10_in 14 = .ok (.iconst 0, 1) := by decide +kernel
theorem dX10_in_15 : decode cX10_in 15 = .ok (.ireturn, 1) := by decide +kernel
theorem dX10_isSlot_0 : decode cX10_isSlot 0 = .ok (.iload_n 0, 1) := by decide +kernel
theorem dX10_isSlot_1 : decode cX10_isSlot 1 = .ok (.iconst 0, 1) := by decide +kernel
theorem dX10_isSlot_2 : decode cX10_isSlot 2 = .ok (.bipush 23, 2) := by decide +kernel
theorem dX10_isSlot_4 : decode cX10_isSlot 4 = .ok (.invokestatic 131, 3) := by decide +kernel
theorem dX10_isSlot_7 : decode cX10_isSlot 7 = .ok (.ireturn, 1) := by decide +kernel
theorem dX10_words_0 : decode cX10_words 0 = .ok (.aload_n 0, 1) := by decide +kernel
theorem dX10_words_1 : decode cX10_words 1 = .ok (.getfield 27, 3) := by decide +kernel
theorem dX10_words_4 : decode cX10_words 4 = .ok (.iload_n 1, 1) := by decide +kernel
theorem dX10_words_5 : decode cX10_words 5 = .ok (.lload_n 2, 1) := by decide +kernel
theorem dX10_words_6 : decode cX10_words 6 = .ok (.lastore, 1) := by decide +kernel
theorem dX10_words_7 : decode cX10_words 7 = .ok (.aload_n 0, 1) := by decide +kernel
theorem dX10_words_8 : decode cX10_words 8 = .ok (.getfield 27, 3) := by decide +kernel
theorem dX10_words_11 : decode cX10_words 11 = .ok (.iload_n 1, 1) := by decide +kernel
theorem dX10_words_12 : decode cX10_words 12 = .ok (.iconst 1, 1) := by decide +kernel
theorem dX10_words_13 : decode cX10_words 13 = .ok (.iadd, 1) := by decide +kernel
theorem dX10_words_14 : decode cX10_words 14 = .ok (.lload 4, 2) := by decide +kernel
theorem dX10_words_16 : decode cX10_words 16 = .ok (.lastore, 1) := by decide +kernel
theorem dX10_words_17 : decode cX10_words 17 = .ok (.aload_n 0, 1) := by decide +kernel
theorem dX10_words_18 : decode cX10_words 18 = .ok (.getfield 27, 3) := by decide +kernel
theorem dX10_words_21 : decode cX10_words 21 = .ok (.iload_n 1, 1) := by decide +kernel
theorem dX10_words_22 : decode cX10_words 22 = .ok (.iconst 2, 1) := by decide +kernel
theorem dX10_words_23 : decode cX10_words 23 = .ok (.iadd, 1) := by decide +kernel
theorem dX10_words_24 : decode cX10_words 24 = .ok (.lload 6, 2) := by decide +kernel
theorem dX10_words_26 : decode cX10_words 26 = .ok (.lastore, 1) := by decide +kernel
theorem dX10_words_27 : decode cX10_words 27 = .ok (.aload_n 0, 1) := by decide +kernel
theorem dX10_words_28 : decode cX10_words 28 = .ok (.getfield 27, 3) := by decide +kernel
theorem dX10_words_31 : decode cX10_words 31 = .ok (.iload_n 1, 1) := by decide +kernel
theorem dX10_words_32 : decode cX10_words 32 = .ok (.iconst 3, 1) := by decide +kernel
theorem dX10_words_33 : decode cX10_words 33 = .ok (.iadd, 1) := by decide +kernel
theorem dX10_words_34 : decode cX10_words 34 = .ok (.lload 8, 2) := by decide +kernel
theorem dX10_words_36 : decode cX10_words 36 = .ok (.lastore, 1) := by decide +kernel
theorem dX10_words_37 : decode cX10_words 37 = .ok (.return_, 1) := by decide +kernel
theorem dX10_fromSlot_0 : decode cX10_fromSlot 0 = .ok (.aload_n 0, 1) := by decide +kernel
theorem dX10_fromSlot_1 : decode cX10_fromSlot 1 = .ok (.iload_n 1, 1) := by decide +kernel
theorem dX10_fromSlot_2 : decode cX10_fromSlot 2 = .ok (.aload_n 0, 1) := by decide +kernel
theorem dX10_fromSlot_3 : decode cX10_fromSlot 3 = .ok (.getfield 7, 3) := by decide +kernel
theorem dX10_fromSlot_6 : decode cX10_fromSlot 6 = .ok (.iconst 4, 1) := by decide +kernel
theorem dX10_fromSlot_7 : decode cX10_fromSlot 7 = .ok (.iload_n 2, 1) := by decide +kernel
theorem dX10_fromSlot_8 : decode cX10_fromSlot 8 = .ok (.imul, 1) := by decide +kernel
theorem dX10_fromSlot_9 : decode cX10_fromSlot 9 = .ok (.laload, 1) := by decide +kernel
theorem dX10_fromSlot_10 : decode cX10_fromSlot 10 = .ok (.aload_n 0, 1) := by decide +kernel
theorem dX10_fromSlot_11 : decode cX10_fromSlot 11 = .ok (.getfield 7, 3) := by decide +kernel
theorem dX10_fromSlot_14 : decode cX10_fromSlot 14 = .ok (.iconst 4, 1) := by decide +kernel
theorem dX10_fromSlot_15 : decode cX10_fromSlot 15 = .ok (.iload_n 2, 1) := by decide +kernel
theorem dX10_fromSlot_16 : decode cX10_fromSlot 16 = .ok (.imul, 1) := by decide +kernel
theorem dX10_fromSlot_17 : decode cX10_fromSlot 17 = .ok (.iconst 1, 1) := by decide +kernel
theorem dX10_fromSlot_18 : decode cX10_fromSlot 18 = .ok (.iadd, 1) := by decide +kernel
theorem dX10_fromSlot_19 : decode cX10_fromSlot 19 = .ok (.laload, 1) := by decide +kernel
theorem dX10_fromSlot_20 : decode cX10_fromSlot 20 = .ok (.aload_n 0, 1) := by decide +kernel
theorem dX10_fromSlot_21 : decode cX10_fromSlot 21 = .ok (.getfield 7, 3) := by decide +kernel
theorem dX10_fromSlot_24 : decode cX10_fromSlot 24 = .ok (.iconst 4, 1) := by decide +kernel
theorem dX10_fromSlot_25 : decode cX10_fromSlot 25 = .ok (.iload_n 2, 1) := by decide +kernel
theorem dX10_fromSlot_26 : decode cX10_fromSlot 26 = .ok (.imul, 1) := by decide +kernel
theorem dX10_fromSlot_27 : decode cX10_fromSlot 27 = .ok (.iconst 2, 1) := by decide +kernel
theorem dX10_fromSlot_28 : decode cX10_fromSlot 28 = .ok (.iadd, 1) := by decide +kernel
theorem dX10_fromSlot_29 : decode cX10_fromSlot 29 = .ok (.laload, 1) := by decide +kernel
theorem dX10_fromSlot_30 : decode cX10_fromSlot 30 = .ok (.aload_n 0, 1) := by decide +kernel
theorem dX10_fromSlot_31 : decode cX10_fromSlot 31 = .ok (.getfield 7, 3) := by decide +kernel
theorem dX10_fromSlot_34 : decode cX10_fromSlot 34 = .ok (.iconst 4, 1) := by decide +kernel
theorem dX10_fromSlot_35 : decode cX10_fromSlot 35 = .ok (.iload_n 2, 1) := by decide +kernel
theorem dX10_fromSlot_36 : decode cX10_fromSlot 36 = .ok (.imul, 1) := by decide +kernel
theorem dX10_fromSlot_37 : decode cX10_fromSlot 37 = .ok (.iconst 3, 1) := by decide +kernel
theorem dX10_fromSlot_38 : decode cX10_fromSlot 38 = .ok (.iadd, 1) := by decide +kernel
theorem dX10_fromSlot_39 : decode cX10_fromSlot 39 = .ok (.laload, 1) := by decide +kernel
theorem dX10_fromSlot_40 : decode cX10_fromSlot 40 = .ok (.invokevirtual 72, 3) := by decide +kernel
theorem dX10_fromSlot_43 : decode cX10_fromSlot 43 = .ok (.return_, 1) := by decide +kernel
theorem dX10_toSlot_0 : decode cX10_toSlot 0 = .ok (.iconst 0, 1) := by decide +kernel
theorem dX10_toSlot_1 : decode cX10_toSlot 1 = .ok (.istore_n 3, 1) := by decide +kernel
theorem dX10_toSlot_2 : decode cX10_toSlot 2 = .ok (.iload_n 3, 1) := by decide +kernel
theorem dX10_toSlot_3 : decode cX10_toSlot 3 = .ok (.iconst 4, 1) := by decide +kernel
theorem dX10_toSlot_4 : decode cX10_toSlot 4 = .ok (.if_icmp .ge 27, 3) := by decide +kernel
theorem dX10_toSlot_7 : decode cX10_toSlot 7 = .ok (.aload_n 0, 1) := by decide +kernel
theorem dX10_toSlot_8 : decode cX10_toSlot 8 = .ok (.getfield 7, 3) := by decide +kernel
theorem dX10_toSlot_11 : decode cX10_toSlot 11 = .ok (.iconst 4, 1) := by decide +kernel
theorem dX10_toSlot_12 : decode cX10_toSlot 12 = .ok (.iload_n 1, 1) := by decide +kernel
theorem dX10_toSlot_13 : decode cX10_toSlot 13 = .ok (.imul, 1) := by decide +kernel
theorem dX10_toSlot_14 : decode cX10_toSlot 14 = .ok (.iload_n 3, 1) := by decide +kernel
theorem dX10_toSlot_15 : decode cX10_toSlot 15 = .ok (.iadd, 1) := by decide +kernel
theorem dX10_toSlot_16 : decode cX10_toSlot 16 = .ok (.aload_n 0, 1) := by decide +kernel
theorem dX10_toSlot_17 : decode cX10_toSlot 17 = .ok (.getfield 27, 3) := by decide +kernel
theorem dX10_toSlot_20 : decode cX10_toSlot 20 = .ok (.iload_n 2, 1) := by decide +kernel
theorem dX10_toSlot_21 : decode cX10_toSlot 21 = .ok (.iload_n 3, 1) := by decide +kernel
theorem dX10_toSlot_22 : decode cX10_toSlot 22 = .ok (.iadd, 1) := by decide +kernel
theorem dX10_toSlot_23 : decode cX10_toSlot 23 = .ok (.laload, 1) := by decide +kernel
theorem dX10_toSlot_24 : decode cX10_toSlot 24 = .ok (.lastore, 1) := by decide +kernel
theorem dX10_toSlot_25 : decode cX10_toSlot 25 = .ok (.iinc 3 1, 3) := by decide +kernel
theorem dX10_toSlot_28 : decode cX10_toSlot 28 = .ok (.goto (-26), 3) := by decide +kernel
theorem dX10_toSlot_31 : decode cX10_toSlot 31 = .ok (.return_, 1) := by decide +kernel
theorem dX10_bit_0 : decode cX10_bit 0 = .ok (.aload_n 0, 1) := by decide +kernel
theorem dX10_bit_1 : decode cX10_bit 1 = .ok (.getfield 27, 3) := by decide +kernel
theorem dX10_bit_4 : decode cX10_bit 4 = .ok (.iload_n 1, 1) := by decide +kernel
theorem dX10_bit_5 : decode cX10_bit 5 = .ok (.iload_n 2, 1) := by decide +kernel
theorem dX10_bit_6 : decode cX10_bit 6 = .ok (.bipush 6, 2) := by decide +kernel
theorem dX10_bit_8 : decode cX10_bit 8 = .ok (.ishr, 1) := by decide +kernel
theorem dX10_bit_9 : decode cX10_bit 9 = .ok (.iadd, 1) := by decide +kernel
theorem dX10_bit_10 : decode cX10_bit 10 = .ok (.laload, 1) := by decide +kernel
theorem dX10_bit_11 : decode cX10_bit 11 = .ok (.iload_n 2, 1) := by decide +kernel
theorem dX10_bit_12 : decode cX10_bit 12 = .ok (.bipush 63, 2) := by decide +kernel
theorem dX10_bit_14 : decode cX10_bit 14 = .ok (.iand, 1) := by decide +kernel
theorem dX10_bit_15 : decode cX10_bit 15 = .ok (.lushr, 1) := by decide +kernel
theorem dX10_bit_16 : decode cX10_bit 16 = .ok (.l2i, 1) := by decide +kernel
theorem dX10_bit_17 : decode cX10_bit 17 = .ok (.iconst 1, 1) := by decide +kernel
theorem dX10_bit_18 : decode cX10_bit 18 = .ok (.iand, 1) := by decide +kernel
theorem dX10_bit_19 : decode cX10_bit 19 = .ok (.ireturn, 1) := by decide +kernel
theorem dX10_isBelow_0 : decode cX10_isBelow 0 = .ok (.lload_n 0, 1) := by decide +kernel
theorem dX10_isBelow_1 : decode cX10_isBelow 1 = .ok (.ldc2_w 135, 3) := by decide +kernel
theorem dX10_isBelow_4 : decode cX10_isBelow 4 = .ok (.lxor, 1) := by decide +kernel
theorem dX10_isBelow_5 : decode cX10_isBelow 5 = .ok (.lload_n 2, 1) := by decide +kernel
theorem dX10_isBelow_6 : decode cX10_isBelow 6 = .ok (.ldc2_w 135, 3) := by decide +kernel
theorem dX10_isBelow_9 : decode cX10_isBelow 9 = .ok (.lxor, 1) := by decide +kernel
theorem dX10_isBelow_10 : decode cX10_isBelow 10 = .ok (.lcmp, 1) := by decide +kernel
theorem dX10_isBelow_11 : decode cX10_isBelow 11 = .ok (.ifCond .ge 7, 3) := by decide +kernel
theorem dX10_isBelow_14 : decode cX10_isBelow 14 = .ok (.iconst 1, 1) := by decide +kernel
theorem dX10_isBelow_15 : decode cX10_isBelow 15 = .ok (.goto 4, 3) := by decide +kernel
theorem dX10_isBelow_18 : decode cX10_isBelow 18 = .ok (.iconst 0, 1) := by decide +kernel
theorem dX10_isBelow_19 : decode cX10_isBelow 19 = .ok (.ireturn, 1) := by decide +kernel
theorem dX10_against_0 : decode cX10_against 0 = .ok (.iconst 3, 1) := by decide +kernel
theorem dX10_against_1 : decode cX10_against 1 = .ok (.istore_n 3, 1) := by decide +kernel
theorem dX10_against_2 : decode cX10_against 2 = .ok (.iload_n 3, 1) := by decide +kernel
theorem dX10_against_3 : decode cX10_against 3 = .ok (.ifCond .lt 57, 3) := by decide +kernel
theorem dX10_against_6 : decode cX10_against 6 = .ok (.aload_n 0, 1) := by decide +kernel
theorem dX10_against_7 : decode cX10_against 7 = .ok (.getfield 27, 3) := by decide +kernel
theorem dX10_against_10 : decode cX10_against 10 = .ok (.iload_n 1, 1) := by decide +kernel
theorem dX10_against_11 : decode cX10_against 11 = .ok (.iload_n 3, 1) := by decide +kernel
theorem dX10_against_12 : decode cX10_against 12 = .ok (.iadd, 1) := by decide +kernel
theorem dX10_against_13 : decode cX10_against 13 = .ok (.laload, 1) := by decide +kernel
theorem dX10_against_14 : decode cX10_against 14 = .ok (.aload_n 0, 1) := by decide +kernel
theorem dX10_against_15 : decode cX10_against 15 = .ok (.getfield 27, 3) := by decide +kernel
theorem dX10_against_18 : decode cX10_against 18 = .ok (.iload_n 2, 1) := by decide +kernel
theorem dX10_against_19 : decode cX10_against 19 = .ok (.iload_n 3, 1) := by decide +kernel
theorem dX10_against_20 : decode cX10_against 20 = .ok (.iadd, 1) := by decide +kernel
theorem dX10_against_21 : decode cX10_against 21 = .ok (.laload, 1) := by decide +kernel
theorem dX10_against_22 : decode cX10_against 22 = .ok (.lcmp, 1) := by decide +kernel
theorem dX10_against_23 : decode cX10_against 23 = .ok (.ifCond .eq 31, 3) := by decide +kernel
theorem dX10_against_26 : decode cX10_against 26 = .ok (.aload_n 0, 1) := by decide +kernel
theorem dX10_against_27 : decode cX10_against 27 = .ok (.getfield 27, 3) := by decide +kernel
theorem dX10_against_30 : decode cX10_against 30 = .ok (.iload_n 1, 1) := by decide +kernel
theorem dX10_against_31 : decode cX10_against 31 = .ok (.iload_n 3, 1) := by decide +kernel
theorem dX10_against_32 : decode cX10_against 32 = .ok (.iadd, 1) := by decide +kernel
theorem dX10_against_33 : decode cX10_against 33 = .ok (.laload, 1) := by decide +kernel
theorem dX10_against_34 : decode cX10_against 34 = .ok (.aload_n 0, 1) := by decide +kernel
theorem dX10_against_35 : decode cX10_against 35 = .ok (.getfield 27, 3) := by decide +kernel
theorem dX10_against_38 : decode cX10_against 38 = .ok (.iload_n 2, 1) := by decide +kernel
theorem dX10_against_39 : decode cX10_against 39 = .ok (.iload_n 3, 1) := by decide +kernel
theorem dX10_against_40 : decode cX10_against 40 = .ok (.iadd, 1) := by decide +kernel
theorem dX10_against_41 : decode cX10_against 41 = .ok (.laload, 1) := by decide +kernel
theorem dX10_against_42 : decode cX10_against 42 = .ok (.invokestatic 137, 3) := by decide +kernel
theorem dX10_against_45 : decode cX10_against 45 = .ok (.ifCond .eq 7, 3) := by decide +kernel
theorem dX10_against_48 : decode cX10_against 48 = .ok (.iconst (-1), 1) := by decide +kernel
theorem dX10_against_49 : decode cX10_against 49 = .ok (.goto 4, 3) := by decide +kernel
theorem dX10_against_52 : decode cX10_against 52 = .ok (.iconst 1, 1) := by decide +kernel
theorem dX10_against_53 : decode cX10_against 53 = .ok (.ireturn, 1) := by decide +kernel
theorem dX10_against_54 : decode cX10_against 54 = .ok (.iinc 3 (-1), 3) := by decide +kernel
theorem dX10_against_57 : decode cX10_against 57 = .ok (.goto (-55), 3) := by decide +kernel
theorem dX10_against_60 : decode cX10_against 60 = .ok (.iconst 0, 1) := by decide +kernel
theorem dX10_against_61 : decode cX10_against 61 = .ok (.ireturn, 1) := by decide +kernel
theorem dX10_put_0 : decode cX10_put 0 = .ok (.iconst 0, 1) := by decide +kernel
theorem dX10_put_1 : decode cX10_put 1 = .ok (.istore 4, 2) := by decide +kernel
theorem dX10_put_3 : decode cX10_put 3 = .ok (.iload 4, 2) := by decide +kernel
theorem dX10_put_5 : decode cX10_put 5 = .ok (.bipush 16, 2) := by decide +kernel
theorem dX10_put_7 : decode cX10_put 7 = .ok (.if_icmp .ge 22, 3) := by decide +kernel
theorem dX10_put_10 : decode cX10_put 10 = .ok (.aload_n 0, 1) := by decide +kernel
theorem dX10_put_11 : decode cX10_put 11 = .ok (.getfield 21, 3) := by decide +kernel
theorem dX10_put_14 : decode cX10_put 14 = .ok (.bipush 16, 2) := by decide +kernel
theorem dX10_put_16 : decode cX10_put 16 = .ok (.iload_n 1, 1) := by decide +kernel
theorem dX10_put_17 : decode cX10_put 17 = .ok (.imul, 1) := by decide +kernel
theorem dX10_put_18 : decode cX10_put 18 = .ok (.iload 4, 2) := by decide +kernel
theorem dX10_put_20 : decode cX10_put 20 = .ok (.iadd, 1) := by decide +kernel
theorem dX10_put_21 : decode cX10_put 21 = .ok (.lconst 0, 1) := by decide +kernel
theorem dX10_put_22 : decode cX10_put 22 = .ok (.lastore, 1) := by decide +kernel
theorem dX10_put_23 : decode cX10_put 23 = .ok (.iinc 4 1, 3) := by decide +kernel
theorem dX10_put_26 : decode cX10_put 26 = .ok (.goto (-23), 3) := by decide +kernel
theorem dX10_put_29 : decode cX10_put 29 = .ok (.aload_n 0, 1) := by decide +kernel
theorem dX10_put_30 : decode cX10_put 30 = .ok (.getfield 21, 3) := by decide +kernel
theorem dX10_put_33 : decode cX10_put 33 = .ok (.bipush 16, 2) := by decide +kernel
theorem dX10_put_35 : decode cX10_put 35 = .ok (.iload_n 1, 1) := by decide +kernel
theorem dX10_put_36 : decode cX10_put 36 = .ok (.imul, 1) := by decide +kernel
theorem dX10_put_37 : decode cX10_put 37 = .ok (.lload_n 2, 1) := by decide +kernel
theorem dX10_put_38 : decode cX10_put 38 = .ok (.ldc2_w 141, 3) := by decide +kernel
theorem dX10_put_41 : decode cX10_put 41 = .ok (.land, 1) := by decide +kernel
theorem dX10_put_42 : decode cX10_put 42 = .ok (.lastore, 1) := by decide +kernel
theorem dX10_put_43 : decode cX10_put 43 = .ok (.aload_n 0, 1) := by decide +kernel
theorem dX10_put_44 : decode cX10_put 44 = .ok (.getfield 21, 3) := by decide +kernel
theorem dX10_put_47 : decode cX10_put 47 = .ok (.bipush 16, 2) := by decide +kernel
theorem dX10_put_49 : decode cX10_put 49 = .ok (.iload_n 1, 1) := by decide +kernel
theorem dX10_put_50 : decode cX10_put 50 = .ok (.imul, 1) := by decide +kernel
theorem dX10_put_51 : decode cX10_put 51 = .ok (.iconst 1, 1) := by decide +kernel
theorem dX10_put_52 : decode cX10_put 52 = .ok (.iadd, 1) := by decide +kernel
theorem dX10_put_53 : decode cX10_put 53 = .ok (.lload_n 2, 1) := by decide +kernel
theorem dX10_put_54 : decode cX10_put 54 = .ok (.bipush 16, 2) := by decide +kernel
theorem dX10_put_56 : decode cX10_put 56 = .ok (.lshr, 1) := by decide +kernel
theorem dX10_put_57 : decode cX10_put 57 = .ok (.lastore, 1) := by decide +kernel
theorem dX10_put_58 : decode cX10_put 58 = .ok (.return_, 1) := by decide +kernel
theorem dX10_copyOf_0 : decode cX10_copyOf 0 = .ok (.iconst 0, 1) := by decide +kernel
theorem dX10_copyOf_1 : decode cX10_copyOf 1 = .ok (.istore_n 3, 1) := by decide +kernel
theorem dX10_copyOf_2 : decode cX10_copyOf 2 = .ok (.iload_n 3, 1) := by decide +kernel
theorem dX10_copyOf_3 : decode cX10_copyOf 3 = .ok (.bipush 16, 2) := by decide +kernel
theorem dX10_copyOf_5 : decode cX10_copyOf 5 = .ok (.if_icmp .ge 31, 3) := by decide +kernel
theorem dX10_copyOf_8 : decode cX10_copyOf 8 = .ok (.aload_n 0, 1) := by decide +kernel
theorem dX10_copyOf_9 : decode cX10_copyOf 9 = .ok (.getfield 21, 3) := by decide +kernel
theorem dX10_copyOf_12 : decode cX10_copyOf 12 = .ok (.bipush 16, 2) := by decide +kernel
theorem dX10_copyOf_14 : decode cX10_copyOf 14 = .ok (.iload_n 1, 1) := by decide +kernel
theorem dX10_copyOf_15 : decode cX10_copyOf 15 = .ok (.imul, 1) := by decide +kernel
theorem dX10_copyOf_16 : decode cX10_copyOf 16 = .ok (.iload_n 3, 1) := by decide +kernel
theorem dX10_copyOf_17 : decode cX10_copyOf 17 = .ok (.iadd, 1) := by decide +kernel
theorem dX10_copyOf_18 : decode cX10_copyOf 18 = .ok (.aload_n 0, 1) := by decide +kernel
theorem dX10_copyOf_19 : decode cX10_copyOf 19 = .ok (.getfield 21, 3) := by decide +kernel
theorem dX10_copyOf_22 : decode cX10_copyOf 22 = .ok (.bipush 16, 2) := by decide +kernel
theorem dX10_copyOf_24 : decode cX10_copyOf 24 = .ok (.iload_n 2, 1) := by decide +kernel
theorem dX10_copyOf_25 : decode cX10_copyOf 25 = .ok (.imul, 1) := by decide +kernel
theorem dX10_copyOf_26 : decode cX10_copyOf 26 = .ok (.iload_n 3, 1) := by decide +kernel
theorem dX10_copyOf_27 : decode cX10_copyOf 27 = .ok (.iadd, 1) := by decide +kernel
theorem dX10_copyOf_28 : decode cX10_copyOf 28 = .ok (.laload, 1) := by decide +kernel
theorem dX10_copyOf_29 : decode cX10_copyOf 29 = .ok (.lastore, 1) := by decide +kernel
theorem dX10_copyOf_30 : decode cX10_copyOf 30 = .ok (.iinc 3 1, 3) := by decide +kernel
theorem dX10_copyOf_33 : decode cX10_copyOf 33 = .ok (.goto (-31), 3) := by decide +kernel
theorem dX10_copyOf_36 : decode cX10_copyOf 36 = .ok (.return_, 1) := by decide +kernel
theorem dX10_reduce_0 : decode cX10_reduce 0 = .ok (.iconst 0, 1) := by decide +kernel
theorem dX10_reduce_1 : decode cX10_reduce 1 = .ok (.istore_n 2, 1) := by decide +kernel
theorem dX10_reduce_2 : decode cX10_reduce 2 = .ok (.iload_n 2, 1) := by decide +kernel
theorem dX10_reduce_3 : decode cX10_reduce 3 = .ok (.bipush 16, 2) := by decide +kernel
theorem dX10_reduce_5 : decode cX10_reduce 5 = .ok (.if_icmp .ge 85, 3) := by decide +kernel
theorem dX10_reduce_8 : decode cX10_reduce 8 = .ok (.aload_n 0, 1) := by decide +kernel
theorem dX10_reduce_9 : decode cX10_reduce 9 = .ok (.getfield 21, 3) := by decide +kernel
theorem dX10_reduce_12 : decode cX10_reduce 12 = .ok (.bipush 16, 2) := by decide +kernel
theorem dX10_reduce_14 : decode cX10_reduce 14 = .ok (.iload_n 1, 1) := by decide +kernel
theorem dX10_reduce_15 : decode cX10_reduce 15 = .ok (.imul, 1) := by decide +kernel
theorem dX10_reduce_16 : decode cX10_reduce 16 = .ok (.iload_n 2, 1) := by decide +kernel
theorem dX10_reduce_17 : decode cX10_reduce 17 = .ok (.iadd, 1) := by decide +kernel
theorem dX10_reduce_18 : decode cX10_reduce 18 = .ok (.laload, 1) := by decide +kernel
theorem dX10_reduce_19 : decode cX10_reduce 19 = .ok (.bipush 16, 2) := by decide +kernel
theorem dX10_reduce_21 : decode cX10_reduce 21 = .ok (.lshr, 1) := by decide +kernel
theorem dX10_reduce_22 : decode cX10_reduce 22 = .ok (.lstore_n 3, 1) := by decide +kernel
theorem dX10_reduce_23 : decode cX10_reduce 23 = .ok (.aload_n 0, 1) := by decide +kernel
theorem dX10_reduce_24 : decode cX10_reduce 24 = .ok (.getfield 21, 3) := by decide +kernel
theorem dX10_reduce_27 : decode cX10_reduce 27 = .ok (.bipush 16, 2) := by decide +kernel
theorem dX10_reduce_29 : decode cX10_reduce 29 = .ok (.iload_n 1, 1) := by decide +kernel
theorem dX10_reduce_30 : decode cX10_reduce 30 = .ok (.imul, 1) := by decide +kernel
theorem dX10_reduce_31 : decode cX10_reduce 31 = .ok (.iload_n 2, 1) := by decide +kernel
theorem dX10_reduce_32 : decode cX10_reduce 32 = .ok (.iadd, 1) := by decide +kernel
theorem dX10_reduce_33 : decode cX10_reduce 33 = .ok (.dup2, 1) := by decide +kernel
theorem dX10_reduce_34 : decode cX10_reduce 34 = .ok (.laload, 1) := by decide +kernel
theorem dX10_reduce_35 : decode cX10_reduce 35 = .ok (.lload_n 3, 1) := by decide +kernel
theorem dX10_reduce_36 : decode cX10_reduce 36 = .ok (.bipush 16, 2) := by decide +kernel
theorem dX10_reduce_38 : decode cX10_reduce 38 = .ok (.lshl, 1) := by decide +kernel
theorem dX10_reduce_39 : decode cX10_reduce 39 = .ok (.lsub, 1) := by decide +kernel
theorem dX10_reduce_40 : decode cX10_reduce 40 = .ok (.lastore, 1) := by decide +kernel
theorem dX10_reduce_41 : decode cX10_reduce 41 = .ok (.iload_n 2, 1) := by decide +kernel
theorem dX10_reduce_42 : decode cX10_reduce 42 = .ok (.bipush 15, 2) := by decide +kernel
theorem dX10_reduce_44 : decode cX10_reduce 44 = .ok (.if_icmp .ge 23, 3) := by decide +kernel
theorem dX10_reduce_47 : decode cX10_reduce 47 = .ok (.aload_n 0, 1) := by decide +kernel
theorem dX10_reduce_48 : decode cX10_reduce 48 = .ok (.getfield 21, 3) := by decide +kernel
theorem dX10_reduce_51 : decode cX10_reduce 51 = .ok (.bipush 16, 2) := by decide +kernel
theorem dX10_reduce_53 : decode cX10_reduce 53 = .ok (.iload_n 1, 1) := by decide +kernel
theorem dX10_reduce_54 : decode cX10_reduce 54 = .ok (.imul, 1) := by decide +kernel
theorem dX10_reduce_55 : decode cX10_reduce 55 = .ok (.iload_n 2, 1) := by decide +kernel
theorem dX10_reduce_56 : decode cX10_reduce 56 = .ok (.iadd, 1) := by decide +kernel
theorem dX10_reduce_57 : decode cX10_reduce 57 = .ok (.iconst 1, 1) := by decide +kernel
theorem dX10_reduce_58 : decode cX10_reduce 58 = .ok (.iadd, 1) := by decide +kernel
theorem dX10_reduce_59 : decode cX10_reduce 59 = .ok (.dup2, 1) := by decide +kernel
theorem dX10_reduce_60 : decode cX10_reduce 60 = .ok (.laload, 1) := by decide +kernel
theorem dX10_reduce_61 : decode cX10_reduce 61 = .ok (.lload_n 3, 1) := by decide +kernel
theorem dX10_reduce_62 : decode cX10_reduce 62 = .ok (.ladd, 1) := by decide +kernel
theorem dX10_reduce_63 : decode cX10_reduce 63 = .ok (.lastore, 1) := by decide +kernel
theorem dX10_reduce_64 : decode cX10_reduce 64 = .ok (.goto 20, 3) := by decide +kernel
theorem dX10_reduce_67 : decode cX10_reduce 67 = .ok (.aload_n 0, 1) := by decide +kernel
theorem dX10_reduce_68 : decode cX10_reduce 68 = .ok (.getfield 21, 3) := by decide +kernel
theorem dX10_reduce_71 : decode cX10_reduce 71 = .ok (.bipush 16, 2) := by decide +kernel
theorem dX10_reduce_73 : decode cX10_reduce 73 = .ok (.iload_n 1, 1) := by decide +kernel
theorem dX10_reduce_74 : decode cX10_reduce 74 = .ok (.imul, 1) := by decide +kernel
theorem dX10_reduce_75 : decode cX10_reduce 75 = .ok (.dup2, 1) := by decide +kernel
theorem dX10_reduce_76 : decode cX10_reduce 76 = .ok (.laload, 1) := by decide +kernel
theorem dX10_reduce_77 : decode cX10_reduce 77 = .ok (.ldc2_w 143, 3) := by decide +kernel
theorem dX10_reduce_80 : decode cX10_reduce 80 = .ok (.lload_n 3, 1) := by decide +kernel
theorem dX10_reduce_81 : decode cX10_reduce 81 = .ok (.lmul, 1) := by decide +kernel
theorem dX10_reduce_82 : decode cX10_reduce 82 = .ok (.ladd, 1) := by decide +kernel
theorem dX10_reduce_83 : decode cX10_reduce 83 = .ok (.lastore, 1) := by decide +kernel
theorem dX10_reduce_84 : decode cX10_reduce 84 = .ok (.iinc 2 1, 3) := by decide +kernel
theorem dX10_reduce_87 : decode cX10_reduce 87 = .ok (.goto (-85), 3) := by decide +kernel
theorem dX10_reduce_90 : decode cX10_reduce 90 = .ok (.return_, 1) := by decide +kernel
theorem dX10_add_0 : decode cX10_add 0 = .ok (.iconst 0, 1) := by decide +kernel
theorem dX10_add_1 : decode cX10_add 1 = .ok (.istore 4, 2) := by decide +kernel
theorem dX10_add_3 : decode cX10_add 3 = .ok (.iload 4, 2) := by decide +kernel
theorem dX10_add_5 : decode cX10_add 5 = .ok (.bipush 16, 2) := by decide +kernel
theorem dX10_add_7 : decode cX10_add 7 = .ok (.if_icmp .ge 46, 3) := by decide +kernel
theorem dX10_add_10 : decode cX10_add 10 = .ok (.aload_n 0, 1) := by decide +kernel
theorem dX10_add_11 : decode cX10_add 11 = .ok (.getfield 21, 3) := by decide +kernel
theorem dX10_add_14 : decode cX10_add 14 = .ok (.bipush 16, 2) := by decide +kernel
theorem dX10_add_16 : decode cX10_add 16 = .ok (.iload_n 1, 1) := by decide +kernel
theorem dX10_add_17 : decode cX10_add 17 = .ok (.imul, 1) := by decide +kernel
theorem dX10_add_18 : decode cX10_add 18 = .ok (.iload 4, 2) := by decide +kernel
theorem dX10_add_20 : decode cX10_add 20 = .ok (.iadd, 1) := by decide +kernel
theorem dX10_add_21 : decode cX10_add 21 = .ok (.aload_n 0, 1) := by decide +kernel
theorem dX10_add_22 : decode cX10_add 22 = .ok (.getfield 21, 3) := by decide +kernel
theorem dX10_add_25 : decode cX10_add 25 = .ok (.bipush 16, 2) := by decide +kernel
theorem dX10_add_27 : decode cX10_add 27 = .ok (.iload_n 2, 1) := by decide +kernel
theorem dX10_add_28 : decode cX10_add 28 = .ok (.imul, 1) := by decide +kernel
theorem dX10_add_29 : decode cX10_add 29 = .ok (.iload 4, 2) := by decide +kernel
theorem dX10_add_31 : decode cX10_add 31 = .ok (.iadd, 1) := by decide +kernel
theorem dX10_add_32 : decode cX10_add 32 = .ok (.laload, 1) := by decide +kernel
theorem dX10_add_33 : decode cX10_add 33 = .ok (.aload_n 0, 1) := by decide +kernel
theorem dX10_add_34 : decode cX10_add 34 = .ok (.getfield 21, 3) := by decide +kernel
theorem dX10_add_37 : decode cX10_add 37 = .ok (.bipush 16, 2) := by decide +kernel
theorem dX10_add_39 : decode cX10_add 39 = .ok (.iload_n 3, 1) := by decide +kernel
theorem dX10_add_40 : decode cX10_add 40 = .ok (.imul, 1) := by decide +kernel
theorem dX10_add_41 : decode cX10_add 41 = .ok (.iload 4, 2) := by decide +kernel
theorem dX10_add_43 : decode cX10_add 43 = .ok (.iadd, 1) := by decide +kernel
theorem dX10_add_44 : decode cX10_add 44 = .ok (.laload, 1) := by decide +kernel
theorem dX10_add_45 : decode cX10_add 45 = .ok (.ladd, 1) := by decide +kernel
theorem dX10_add_46 : decode cX10_add 46 = .ok (.lastore, 1) := by decide +kernel
theorem dX10_add_47 : decode cX10_add 47 = .ok (.iinc 4 1, 3) := by decide +kernel
theorem dX10_add_50 : decode cX10_add 50 = .ok (.goto (-47), 3) := by decide +kernel
theorem dX10_add_53 : decode cX10_add 53 = .ok (.return_, 1) := by decide +kernel
theorem dX10_subtract_0 : decode cX10_subtract 0 = .ok (.iconst 0, 1) := by decide +kernel
theorem dX10_subtract_1 : decode cX10_subtract 1 = .ok (.istore 4, 2) := by decide +kernel
theorem dX10_subtract_3 : decode cX10_subtract 3 = .ok (.iload 4, 2) := by decide +kernel
theorem dX10_subtract_5 : decode cX10_subtract 5 = .ok (.bipush 16, 2) := by decide +kernel
theorem dX10_subtract_7 : decode cX10_subtract 7 = .ok (.if_icmp .ge 46, 3) := by decide +kernel
theorem dX10_subtract_10 : decode cX10_subtract 10 = .ok (.aload_n 0, 1) := by decide +kernel
theorem dX10_subtract_11 : decode cX10_subtract 11 = .ok (.getfield 21, 3) := by decide +kernel
theorem dX10_subtract_14 : decode cX10_subtract 14 = .ok (.bipush 16, 2) := by decide +kernel
theorem dX10_subtract_16 : decode cX10_subtract 16 = .ok (.iload_n 1, 1) := by decide +kernel
theorem dX10_subtract_17 : decode cX10_subtract 17 = .ok (.imul, 1) := by decide +kernel
theorem dX10_subtract_18 : decode cX10_subtract 18 = .ok (.iload 4, 2) := by decide +kernel
theorem dX10_subtract_20 : decode cX10_subtract 20 = .ok (.iadd, 1) := by decide +kernel
theorem dX10_subtract_21 : decode cX10_subtract 21 = .ok (.aload_n 0, 1) := by decide +kernel
theorem dX10_subtract_22 : decode cX10_subtract 22 = .ok (.getfield 21, 3) := by decide +kernel
theorem dX10_subtract_25 : decode cX10_subtract 25 = .ok (.bipush 16, 2) := by decide +kernel
theorem dX10_subtract_27 : decode cX10_subtract 27 = .ok (.iload_n 2, 1) := by decide +kernel
theorem dX10_subtract_28 : decode cX10_subtract 28 = .ok (.imul, 1) := by decide +kernel
theorem dX10_subtract_29 : decode cX10_subtract 29 = .ok (.iload 4, 2) := by decide +kernel
theorem dX10_subtract_31 : decode cX10_subtract 31 = .ok (.iadd, 1) := by decide +kernel
theorem dX10_subtract_32 : decode cX10_subtract 32 = .ok (.laload, 1) := by decide +kernel
theorem dX10_subtract_33 : decode cX10_subtract 33 = .ok (.aload_n 0, 1) := by decide +kernel
theorem dX10_subtract_34 : decode cX10_subtract 34 = .ok (.getfield 21, 3) := by decide +kernel
theorem dX10_subtract_37 : decode cX10_subtract 37 = .ok (.bipush 16, 2) := by decide +kernel
theorem dX10_subtract_39 : decode cX10_subtract 39 = .ok (.iload_n 3, 1) := by decide +kernel
theorem dX10_subtract_40 : decode cX10_subtract 40 = .ok (.imul, 1) := by decide +kernel
theorem dX10_subtract_41 : decode cX10_subtract 41 = .ok (.iload 4, 2) := by decide +kernel
theorem dX10_subtract_43 : decode cX10_subtract 43 = .ok (.iadd, 1) := by decide +kernel
theorem dX10_subtract_44 : decode cX10_subtract 44 = .ok (.laload, 1) := by decide +kernel
theorem dX10_subtract_45 : decode cX10_subtract 45 = .ok (.lsub, 1) := by decide +kernel
theorem dX10_subtract_46 : decode cX10_subtract 46 = .ok (.lastore, 1) := by decide +kernel
theorem dX10_subtract_47 : decode cX10_subtract 47 = .ok (.iinc 4 1, 3) := by decide +kernel
theorem dX10_subtract_50 : decode cX10_subtract 50 = .ok (.goto (-47), 3) := by decide +kernel
theorem dX10_subtract_53 : decode cX10_subtract 53 = .ok (.return_, 1) := by decide +kernel
theorem dX10_multiply_0 : decode cX10_multiply 0 = .ok (.iconst 0, 1) := by decide +kernel
theorem dX10_multiply_1 : decode cX10_multiply 1 = .ok (.istore 4, 2) := by decide +kernel
theorem dX10_multiply_3 : decode cX10_multiply 3 = .ok (.iload 4, 2) := by decide +kernel
theorem dX10_multiply_5 : decode cX10_multiply 5 = .ok (.bipush 32, 2) := by decide +kernel
theorem dX10_multiply_7 : decode cX10_multiply 7 = .ok (.if_icmp .ge 17, 3) := by decide +kernel
theorem dX10_multiply_10 : decode cX10_multiply 10 = .ok (.aload_n 0, 1) := by decide +kernel
theorem dX10_multiply_11 : decode cX10_multiply 11 = .ok (.getfield 24, 3) := by decide +kernel
theorem dX10_multiply_14 : decode cX10_multiply 14 = .ok (.iload 4, 2) := by decide +kernel
theorem dX10_multiply_16 : decode cX10_multiply 16 = .ok (.lconst 0, 1) := by decide +kernel
theorem dX10_multiply_17 : decode cX10_multiply 17 = .ok (.lastore, 1) := by decide +kernel
theorem dX10_multiply_18 : decode cX10_multiply 18 = .ok (.iinc 4 1, 3) := by decide +kernel
theorem dX10_multiply_21 : decode cX10_multiply 21 = .ok (.goto (-18), 3) := by decide +kernel
theorem dX10_multiply_24 : decode cX10_multiply 24 = .ok (.iconst 0, 1) := by decide +kernel
theorem dX10_multiply_25 : decode cX10_multiply 25 = .ok (.istore 4, 2) := by decide +kernel
theorem dX10_multiply_27 : decode cX10_multiply 27 = .ok (.iload 4, 2) := by decide +kernel
theorem dX10_multiply_29 : decode cX10_multiply 29 = .ok (.bipush 16, 2) := by decide +kernel
theorem dX10_multiply_31 : decode cX10_multiply 31 = .ok (.if_icmp .ge 63, 3) := by decide +kernel
theorem dX10_multiply_34 : decode cX10_multiply 34 = .ok (.iconst 0, 1) := by decide +kernel
theorem dX10_multiply_35 : decode cX10_multiply 35 = .ok (.istore 5, 2) := by decide +kernel
theorem dX10_multiply_37 : decode cX10_multiply 37 = .ok (.iload 5, 2) := by decide +kernel
theorem dX10_multiply_39 : decode cX10_multiply 39 = .ok (.bipush 16, 2) := by decide +kernel
theorem dX10_multiply_41 : decode cX10_multiply 41 = .ok (.if_icmp .ge 47, 3) := by decide +kernel
theorem dX10_multiply_44 : decode cX10_multiply 44 = .ok (.aload_n 0, 1) := by decide +kernel
theorem dX10_multiply_45 : decode cX10_multiply 45 = .ok (.getfield 24, 3) := by decide +kernel
theorem dX10_multiply_48 : decode cX10_multiply 48 = .ok (.iload 4, 2) := by decide +kernel
theorem dX10_multiply_50 : decode cX10_multiply 50 = .ok (.iload 5, 2) := by decide +kernel
theorem dX10_multiply_52 : decode cX10_multiply 52 = .ok (.iadd, 1) := by decide +kernel
theorem dX10_multiply_53 : decode cX10_multiply 53 = .ok (.dup2, 1) := by decide +kernel
theorem dX10_multiply_54 : decode cX10_multiply 54 = .ok (.laload, 1) := by decide +kernel
theorem dX10_multiply_55 : decode cX10_multiply 55 = .ok (.aload_n 0, 1) := by decide +kernel
theorem dX10_multiply_56 : decode cX10_multiply 56 = .ok (.getfield 21, 3) := by decide +kernel
theorem dX10_multiply_59 : decode cX10_multiply 59 = .ok (.bipush 16, 2) := by decide +kernel
theorem dX10_multiply_61 : decode cX10_multiply 61 = .ok (.iload_n 2, 1) := by decide +kernel
theorem dX10_multiply_62 : decode cX10_multiply 62 = .ok (.imul, 1) := by decide +kernel
theorem dX10_multiply_63 : decode cX10_multiply 63 = .ok (.iload 4, 2) := by decide +kernel
theorem dX10_multiply_65 : decode cX10_multiply 65 = .ok (.iadd, 1) := by decide +kernel
theorem dX10_multiply_66 : decode cX10_multiply 66 = .ok (.laload, 1) := by decide +kernel
theorem dX10_multiply_67 : decode cX10_multiply 67 = .ok (.aload_n 0, 1) := by decide +kernel
theorem dX10_multiply_68 : decode cX10_multiply 68 = .ok (.getfield 21, 3) := by decide +kernel
theorem dX10_multiply_71 : decode cX10_multiply 71 = .ok (.bipush 16, 2) := by decide +kernel
theorem dX10_multiply_73 : decode cX10_multiply 73 = .ok (.iload_n 3, 1) := by decide +kernel
theorem dX10_multiply_74 : decode cX10_multiply 74 = .ok (.imul, 1) := by decide +kernel
theorem dX10_multiply_75 : decode cX10_multiply 75 = .ok (.iload 5, 2) := by decide +kernel
theorem dX10_multiply_77 : decode cX10_multiply 77 = .ok (.iadd, 1) := by decide +kernel
theorem dX10_multiply_78 : decode cX10_multiply 78 = .ok (.laload, 1) := by decide +kernel
theorem dX10_multiply_79 : decode cX10_multiply 79 = .ok (.lmul, 1) := by decide +kernel
theorem dX10_multiply_80 : decode cX10_multiply 80 = .ok (.ladd, 1) := by decide +kernel
theorem dX10_multiply_81 : decode cX10_multiply 81 = .ok (.lastore, 1) := by decide +kernel
theorem dX10_multiply_82 : decode cX10_multiply 82 = .ok (.iinc 5 1, 3) := by decide +kernel
theorem dX10_multiply_85 : decode cX10_multiply 85 = .ok (.goto (-48), 3) := by decide +kernel
theorem dX10_multiply_88 : decode cX10_multiply 88 = .ok (.iinc 4 1, 3) := by decide +kernel
theorem dX10_multiply_91 : decode cX10_multiply 91 = .ok (.goto (-64), 3) := by decide +kernel
theorem dX10_multiply_94 : decode cX10_multiply 94 = .ok (.iconst 0, 1) := by decide +kernel
theorem dX10_multiply_95 : decode cX10_multiply 95 = .ok (.istore 4, 2) := by decide +kernel
theorem dX10_multiply_97 : decode cX10_multiply 97 = .ok (.iload 4, 2) := by decide +kernel
theorem dX10_multiply_99 : decode cX10_multiply 99 = .ok (.bipush 16, 2) := by decide +kernel
theorem dX10_multiply_101 : decode cX10_multiply 101 = .ok (.if_icmp .ge 43, 3) := by decide +kernel
theorem dX10_multiply_104 : decode cX10_multiply 104 = .ok (.aload_n 0, 1) := by decide +kernel
theorem dX10_multiply_105 : decode cX10_multiply 105 = .ok (.getfield 21, 3) := by decide +kernel
theorem dX10_multiply_108 : decode cX10_multiply 108 = .ok (.bipush 16, 2) := by decide +kernel
theorem dX10_multiply_110 : decode cX10_multiply 110 = .ok (.iload_n 1, 1) := by decide +kernel
theorem dX10_multiply_111 : decode cX10_multiply 111 = .ok (.imul, 1) := by decide +kernel
theorem dX10_multiply_112 : decode cX10_multiply 112 = .ok (.iload 4, 2) := by decide +kernel
theorem dX10_multiply_114 : decode cX10_multiply 114 = .ok (.iadd, 1) := by decide +kernel
theorem dX10_multiply_115 : decode cX10_multiply 115 = .ok (.aload_n 0, 1) := by decide +kernel
theorem dX10_multiply_116 : decode cX10_multiply 116 = .ok (.getfield 24, 3) := by decide +kernel
theorem dX10_multiply_119 : decode cX10_multiply 119 = .ok (.iload 4, 2) := by decide +kernel
theorem dX10_multiply_121 : decode cX10_multiply 121 = .ok (.laload, 1) := by decide +kernel
theorem dX10_multiply_122 : decode cX10_multiply 122 = .ok (.ldc2_w 143, 3) := by decide +kernel
theorem dX10_multiply_125 : decode cX10_multiply 125 = .ok (.aload_n 0, 1) := by decide +kernel
theorem dX10_multiply_126 : decode cX10_multiply 126 = .ok (.getfield 24, 3) := by decide +kernel
theorem dX10_multiply_129 : decode cX10_multiply 129 = .ok (.iload 4, 2) := by decide +kernel
theorem dX10_multiply_131 : decode cX10_multiply 131 = .ok (.bipush 16, 2) := by decide +kernel
theorem dX10_multiply_133 : decode cX10_multiply 133 = .ok (.iadd, 1) := by decide +kernel
theorem dX10_multiply_134 : decode cX10_multiply 134 = .ok (.laload, 1) := by decide +kernel
theorem dX10_multiply_135 : decode cX10_multiply 135 = .ok (.lmul, 1) := by decide +kernel
theorem dX10_multiply_136 : decode cX10_multiply 136 = .ok (.ladd, 1) := by decide +kernel
theorem dX10_multiply_137 : decode cX10_multiply 137 = .ok (.lastore, 1) := by decide +kernel
theorem dX10_multiply_138 : decode cX10_multiply 138 = .ok (.iinc 4 1, 3) := by decide +kernel
theorem dX10_multiply_141 : decode cX10_multiply 141 = .ok (.goto (-44), 3) := by decide +kernel
theorem dX10_multiply_144 : decode cX10_multiply 144 = .ok (.aload_n 0, 1) := by decide +kernel
theorem dX10_multiply_145 : decode cX10_multiply 145 = .ok (.iload_n 1, 1) := by decide +kernel
theorem dX10_multiply_146 : decode cX10_multiply 146 = .ok (.invokevirtual 113, 3) := by decide +kernel
theorem dX10_multiply_149 : decode cX10_multiply 149 = .ok (.aload_n 0, 1) := by decide +kernel
theorem dX10_multiply_150 : decode cX10_multiply 150 = .ok (.iload_n 1, 1) := by decide +kernel
theorem dX10_multiply_151 : decode cX10_multiply 151 = .ok (.invokevirtual 113, 3) := by decide +kernel
theorem dX10_multiply_154 : decode cX10_multiply 154 = .ok (.aload_n 0, 1) := by decide +kernel
theorem dX10_multiply_155 : decode cX10_multiply 155 = .ok (.iload_n 1, 1) := by decide +kernel
theorem dX10_multiply_156 : decode cX10_multiply 156 = .ok (.invokevirtual 113, 3) := by decide +kernel
theorem dX10_multiply_159 : decode cX10_multiply 159 = .ok (.return_, 1) := by decide +kernel
theorem dX10_raise_0 : decode cX10_raise 0 = .ok (.aload_n 0, 1) := by decide +kernel
theorem dX10_raise_1 : decode cX10_raise 1 = .ok (.bipush 35, 2) := by decide +kernel
theorem dX10_raise_3 : decode cX10_raise 3 = .ok (.iload_n 2, 1) := by decide +kernel
theorem dX10_raise_4 : decode cX10_raise 4 = .ok (.invokevirtual 145, 3) := by decide +kernel
theorem dX10_raise_7 : decode cX10_raise 7 = .ok (.aload_n 0, 1) := by decide +kernel
theorem dX10_raise_8 : decode cX10_raise 8 = .ok (.iload_n 1, 1) := by decide +kernel
theorem dX10_raise_9 : decode cX10_raise 9 = .ok (.lconst 1, 1) := by decide +kernel
theorem dX10_raise_10 : decode cX10_raise 10 = .ok (.invokevirtual 82, 3) := by decide +kernel
theorem dX10_raise_13 : decode cX10_raise 13 = .ok (.sipush 255, 3) := by decide +kernel
theorem dX10_raise_16 : decode cX10_raise 16 = .ok (.istore 4, 2) := by decide +kernel
theorem dX10_raise_18 : decode cX10_raise 18 = .ok (.iload 4, 2) := by decide +kernel
theorem dX10_raise_20 : decode cX10_raise 20 = .ok (.ifCond .lt 35, 3) := by decide +kernel
theorem dX10_raise_23 : decode cX10_raise 23 = .ok (.aload_n 0, 1) := by decide +kernel
theorem dX10_raise_24 : decode cX10_raise 24 = .ok (.iload_n 1, 1) := by decide +kernel
theorem dX10_raise_25 : decode cX10_raise 25 = .ok (.iload_n 1, 1) := by decide +kernel
theorem dX10_raise_26 : decode cX10_raise 26 = .ok (.iload_n 1, 1) := by decide +kernel
theorem dX10_raise_27 : decode cX10_raise 27 = .ok (.invokevirtual 107, 3) := by decide +kernel
theorem dX10_raise_30 : decode cX10_raise 30 = .ok (.aload_n 0, 1) := by decide +kernel
theorem dX10_raise_31 : decode cX10_raise 31 = .ok (.iload_n 3, 1) := by decide +kernel
theorem dX10_raise_32 : decode cX10_raise 32 = .ok (.iload 4, 2) := by decide +kernel
theorem dX10_raise_34 : decode cX10_raise 34 = .ok (.invokevirtual 148, 3) := by decide +kernel
theorem dX10_raise_37 : decode cX10_raise 37 = .ok (.iconst 1, 1) := by decide +kernel
theorem dX10_raise_38 : decode cX10_raise 38 = .ok (.if_icmp .ne 11, 3) := by decide +kernel
theorem dX10_raise_41 : decode cX10_raise 41 = .ok (.aload_n 0, 1) := by decide +kernel
theorem dX10_raise_42 : decode cX10_raise 42 = .ok (.iload_n 1, 1) := by decide +kernel
theorem dX10_raise_43 : decode cX10_raise 43 = .ok (.iload_n 1, 1) := by decide +kernel
theorem dX10_raise_44 : decode cX10_raise 44 = .ok (.bipush 35, 2) := by decide +kernel
theorem dX10_raise_46 : decode cX10_raise 46 = .ok (.invokevirtual 107, 3) := by decide +kernel
theorem dX10_raise_49 : decode cX10_raise 49 = .ok (.iinc 4 (-1), 3) := by decide +kernel
theorem dX10_raise_52 : decode cX10_raise 52 = .ok (.goto (-34), 3) := by decide +kernel
theorem dX10_raise_55 : decode cX10_raise 55 = .ok (.return_, 1) := by decide +kernel
theorem dX10_invert_0 : decode cX10_invert 0 = .ok (.aload_n 0, 1) := by decide +kernel
theorem dX10_invert_1 : decode cX10_invert 1 = .ok (.iconst 0, 1) := by decide +kernel
theorem dX10_invert_2 : decode cX10_invert 2 = .ok (.ldc2_w 152, 3) := by decide +kernel
theorem dX10_invert_5 : decode cX10_invert 5 = .ok (.ldc2_w 68, 3) := by decide +kernel
theorem dX10_invert_8 : decode cX10_invert 8 = .ok (.ldc2_w 68, 3) := by decide +kernel
theorem dX10_invert_11 : decode cX10_invert 11 = .ok (.ldc2_w 70, 3) := by decide +kernel
theorem dX10_invert_14 : decode cX10_invert 14 = .ok (.invokevirtual 72, 3) := by decide +kernel
theorem dX10_invert_17 : decode cX10_invert 17 = .ok (.aload_n 0, 1) := by decide +kernel
theorem dX10_invert_18 : decode cX10_invert 18 = .ok (.bipush 45, 2) := by decide +kernel
theorem dX10_invert_20 : decode cX10_invert 20 = .ok (.iload_n 2, 1) := by decide +kernel
theorem dX10_invert_21 : decode cX10_invert 21 = .ok (.invokevirtual 145, 3) := by decide +kernel
theorem dX10_invert_24 : decode cX10_invert 24 = .ok (.aload_n 0, 1) := by decide +kernel
theorem dX10_invert_25 : decode cX10_invert 25 = .ok (.iload_n 1, 1) := by decide +kernel
theorem dX10_invert_26 : decode cX10_invert 26 = .ok (.bipush 45, 2) := by decide +kernel
theorem dX10_invert_28 : decode cX10_invert 28 = .ok (.iconst 0, 1) := by decide +kernel
theorem dX10_invert_29 : decode cX10_invert 29 = .ok (.invokevirtual 92, 3) := by decide +kernel
theorem dX10_invert_32 : decode cX10_invert 32 = .ok (.return_, 1) := by decide +kernel
theorem dX10_pack_0 : decode cX10_pack 0 = .ok (.aload_n 0, 1) := by decide +kernel
theorem dX10_pack_1 : decode cX10_pack 1 = .ok (.bipush 34, 2) := by decide +kernel
theorem dX10_pack_3 : decode cX10_pack 3 = .ok (.iload_n 2, 1) := by decide +kernel
theorem dX10_pack_4 : decode cX10_pack 4 = .ok (.invokevirtual 145, 3) := by decide +kernel
theorem dX10_pack_7 : decode cX10_pack 7 = .ok (.iconst 0, 1) := by decide +kernel
theorem dX10_pack_8 : decode cX10_pack 8 = .ok (.istore_n 3, 1) := by decide +kernel
theorem dX10_pack_9 : decode cX10_pack 9 = .ok (.iload_n 3, 1) := by decide +kernel
theorem dX10_pack_10 : decode cX10_pack 10 = .ok (.iconst 4, 1) := by decide +kernel
theorem dX10_pack_11 : decode cX10_pack 11 = .ok (.if_icmp .ge 15, 3) := by decide +kernel
theorem dX10_pack_14 : decode cX10_pack 14 = .ok (.aload_n 0, 1) := by decide +kernel
theorem dX10_pack_15 : decode cX10_pack 15 = .ok (.bipush 34, 2) := by decide +kernel
theorem dX10_pack_17 : decode cX10_pack 17 = .ok (.invokevirtual 113, 3) := by decide +kernel
theorem dX10_pack_20 : decode cX10_pack 20 = .ok (.iinc 3 1, 3) := by decide +kernel
theorem dX10_pack_23 : decode cX10_pack 23 = .ok (.goto (-14), 3) := by decide +kernel
theorem dX10_pack_26 : decode cX10_pack 26 = .ok (.iconst 0, 1) := by decide +kernel
theorem dX10_pack_27 : decode cX10_pack 27 = .ok (.istore_n 3, 1) := by decide +kernel
theorem dX10_pack_28 : decode cX10_pack 28 = .ok (.iload_n 3, 1) := by decide +kernel
theorem dX10_pack_29 : decode cX10_pack 29 = .ok (.iconst 3, 1) := by decide +kernel
theorem dX10_pack_30 : decode cX10_pack 30 = .ok (.if_icmp .ge 13, 3) := by decide +kernel
theorem dX10_pack_33 : decode cX10_pack 33 = .ok (.aload_n 0, 1) := by decide +kernel
theorem dX10_pack_34 : decode cX10_pack 34 = .ok (.invokevirtual 154, 3) := by decide +kernel
theorem dX10_pack_37 : decode cX10_pack 37 = .ok (.iinc 3 1, 3) := by decide +kernel
theorem dX10_pack_40 : decode cX10_pack 40 = .ok (.goto (-12), 3) := by decide +kernel
theorem dX10_pack_43 : decode cX10_pack 43 = .ok (.iconst 0, 1) := by decide +kernel
theorem dX10_pack_44 : decode cX10_pack 44 = .ok (.istore_n 3, 1) := by decide +kernel
theorem dX10_pack_45 : decode cX10_pack 45 = .ok (.iload_n 3, 1) := by decide +kernel
theorem dX10_pack_46 : decode cX10_pack 46 = .ok (.iconst 4, 1) := by decide +kernel
theorem dX10_pack_47 : decode cX10_pack 47 = .ok (.if_icmp .ge 72, 3) := by decide +kernel
theorem dX10_pack_50 : decode cX10_pack 50 = .ok (.sipush 544, 3) := by decide +kernel
theorem dX10_pack_53 : decode cX10_pack 53 = .ok (.iconst 4, 1) := by decide +kernel
theorem dX10_pack_54 : decode cX10_pack 54 = .ok (.iload_n 3, 1) := by decide +kernel
theorem dX10_pack_55 : decode cX10_pack 55 = .ok (.imul, 1) := by decide +kernel
theorem dX10_pack_56 : decode cX10_pack 56 = .ok (.iadd, 1) := by decide +kernel
theorem dX10_pack_57 : decode cX10_pack 57 = .ok (.istore 4, 2) := by decide +kernel
theorem dX10_pack_59 : decode cX10_pack 59 = .ok (.aload_n 0, 1) := by decide +kernel
theorem dX10_pack_60 : decode cX10_pack 60 = .ok (.getfield 27, 3) := by decide +kernel
theorem dX10_pack_63 : decode cX10_pack 63 = .ok (.iload_n 1, 1) := by decide +kernel
theorem dX10_pack_64 : decode cX10_pack 64 = .ok (.iload_n 3, 1) := by decide +kernel
theorem dX10_pack_65 : decode cX10_pack 65 = .ok (.iadd, 1) := by decide +kernel
theorem dX10_pack_66 : decode cX10_pack 66 = .ok (.aload_n 0, 1) := by decide +kernel
theorem dX10_pack_67 : decode cX10_pack 67 = .ok (.getfield 21, 3) := by decide +kernel
theorem dX10_pack_70 : decode cX10_pack 70 = .ok (.iload 4, 2) := by decide +kernel
theorem dX10_pack_72 : decode cX10_pack 72 = .ok (.laload, 1) := by decide +kernel
theorem dX10_pack_73 : decode cX10_pack 73 = .ok (.aload_n 0, 1) := by decide +kernel
theorem dX10_pack_74 : decode cX10_pack 74 = .ok (.getfield 21, 3) := by decide +kernel
theorem dX10_pack_77 : decode cX10_pack 77 = .ok (.iload 4, 2) := by decide +kernel
theorem dX10_pack_79 : decode cX10_pack 79 = .ok (.iconst 1, 1) := by decide +kernel
theorem dX10_pack_80 : decode cX10_pack 80 = .ok (.iadd, 1) := by decide +kernel
theorem dX10_pack_81 : decode cX10_pack 81 = .ok (.laload, 1) := by decide +kernel
theorem dX10_pack_82 : decode cX10_pack 82 = .ok (.bipush 16, 2) := by decide +kernel
theorem dX10_pack_84 : decode cX10_pack 84 = .ok (.lshl, 1) := by decide +kernel
theorem dX10_pack_85 : decode cX10_pack 85 = .ok (.lor, 1) := by decide +kernel
theorem dX10_pack_86 : decode cX10_pack 86 = .ok (.aload_n 0, 1) := by decide +kernel
theorem dX10_pack_87 : decode cX10_pack 87 = .ok (.getfield 21, 3) := by decide +kernel
theorem dX10_pack_90 : decode cX10_pack 90 = .ok (.iload 4, 2) := by decide +kernel
theorem dX10_pack_92 : decode cX10_pack 92 = .ok (.iconst 2, 1) := by decide +kernel
theorem dX10_pack_93 : decode cX10_pack 93 = .ok (.iadd, 1) := by decide +kernel
theorem dX10_pack_94 : decode cX10_pack 94 = .ok (.laload, 1) := by decide +kernel
theorem dX10_pack_95 : decode cX10_pack 95 = .ok (.bipush 32, 2) := by decide +kernel
theorem dX10_pack_97 : decode cX10_pack 97 = .ok (.lshl, 1) := by decide +kernel
theorem dX10_pack_98 : decode cX10_pack 98 = .ok (.lor, 1) := by decide +kernel
theorem dX10_pack_99 : decode cX10_pack 99 = .ok (.aload_n 0, 1) := by decide +kernel
theorem dX10_pack_100 : decode cX10_pack 100 = .ok (.getfield 21, 3) := by decide +kernel
theorem dX10_pack_103 : decode cX10_pack 103 = .ok (.iload 4, 2) := by decide +kernel
theorem dX10_pack_105 : decode cX10_pack 105 = .ok (.iconst 3, 1) := by decide +kernel
theorem dX10_pack_106 : decode cX10_pack 106 = .ok (.iadd, 1) := by decide +kernel
theorem dX10_pack_107 : decode cX10_pack 107 = .ok (.laload, 1) := by decide +kernel
theorem dX10_pack_108 : decode cX10_pack 108 = .ok (.bipush 48, 2) := by decide +kernel
theorem dX10_pack_110 : decode cX10_pack 110 = .ok (.lshl, 1) := by decide +kernel
theorem dX10_pack_111 : decode cX10_pack 111 = .ok (.lor, 1) := by decide +kernel
theorem dX10_pack_112 : decode cX10_pack 112 = .ok (.lastore, 1) := by decide +kernel
theorem dX10_pack_113 : decode cX10_pack 113 = .ok (.iinc 3 1, 3) := by decide +kernel
theorem dX10_pack_116 : decode cX10_pack 116 = .ok (.goto (-71), 3) := by decide +kernel
theorem dX10_pack_119 : decode cX10_pack 119 = .ok (.return_, 1) := by decide +kernel
theorem dX10_lessPrime_0 : decode cX10_lessPrime 0 = .ok (.lconst 0, 1) := by decide +kernel
theorem dX10_lessPrime_1 : decode cX10_lessPrime 1 = .ok (.lstore_n 1, 1) := by decide +kernel
theorem dX10_lessPrime_2 : decode cX10_lessPrime 2 = .ok (.iconst 0, 1) := by decide +kernel
theorem dX10_lessPrime_3 : decode cX10_lessPrime 3 = .ok (.istore_n 3, 1) := by decide +kernel
theorem dX10_lessPrime_4 : decode cX10_lessPrime 4 = .ok (.iload_n 3, 1) := by decide +kernel
theorem dX10_lessPrime_5 : decode cX10_lessPrime 5 = .ok (.bipush 16, 2) := by decide +kernel
theorem dX10_lessPrime_7 : decode cX10_lessPrime 7 = .ok (.if_icmp .ge 67, 3) := by decide +kernel
theorem dX10_lessPrime_10 : decode cX10_lessPrime 10 = .ok (.aload_n 0, 1) := by decide +kernel
theorem dX10_lessPrime_11 : decode cX10_lessPrime 11 = .ok (.getfield 21, 3) := by decide +kernel
theorem dX10_lessPrime_14 : decode cX10_lessPrime 14 = .ok (.sipush 544, 3) := by decide +kernel
theorem dX10_lessPrime_17 : decode cX10_lessPrime 17 = .ok (.iload_n 3, 1) := by decide +kernel
theorem dX10_lessPrime_18 : decode cX10_lessPrime 18 = .ok (.iadd, 1) := by decide +kernel
theorem dX10_lessPrime_19 : decode cX10_lessPrime 19 = .ok (.laload, 1) := by decide +kernel
theorem dX10_lessPrime_20 : decode cX10_lessPrime 20 = .ok (.iload_n 3, 1) := by decide +kernel
theorem dX10_lessPrime_21 : decode cX10_lessPrime 21 = .ok (.ifCond .ne 9, 3) := by decide +kernel
theorem dX10_lessPrime_24 : decode cX10_lessPrime 24 = .ok (.ldc2_w 157, 3) := by decide +kernel
theorem dX10_lessPrime_27 : decode cX10_lessPrime 27 = .ok (.goto 18, 3) := by decide +kernel
theorem dX10_lessPrime_30 : decode cX10_lessPrime 30 = .ok (.iload_n 3, 1) := by decide +kernel
theorem dX10_lessPrime_31 : decode cX10_lessPrime 31 = .ok (.bipush 15, 2) := by decide +kernel
theorem dX10_lessPrime_33 : decode cX10_lessPrime 33 = .ok (.if_icmp .ne 9, 3) := by decide +kernel
theorem dX10_lessPrime_36 : decode cX10_lessPrime 36 = .ok (.ldc2_w 159, 3) := by decide +kernel
theorem dX10_lessPrime_39 : decode cX10_lessPrime 39 = .ok (.goto 6, 3) := by decide +kernel
theorem dX10_lessPrime_42 : decode cX10_lessPrime 42 = .ok (.ldc2_w 141, 3) := by decide +kernel
theorem dX10_lessPrime_45 : decode cX10_lessPrime 45 = .ok (.lsub, 1) := by decide +kernel
theorem dX10_lessPrime_46 : decode cX10_lessPrime 46 = .ok (.lload_n 1, 1) := by decide +kernel
theorem dX10_lessPrime_47 : decode cX10_lessPrime 47 = .ok (.ladd, 1) := by decide +kernel
theorem dX10_lessPrime_48 : decode cX10_lessPrime 48 = .ok (.lstore 4, 2) := by decide +kernel
theorem dX10_lessPrime_50 : decode cX10_lessPrime 50 = .ok (.aload_n 0, 1) := by decide +kernel
theorem dX10_lessPrime_51 : decode cX10_lessPrime 51 = .ok (.getfield 24, 3) := by decide +kernel
theorem dX10_lessPrime_54 : decode cX10_lessPrime 54 = .ok (.iload_n 3, 1) := by decide +kernel
theorem dX10_lessPrime_55 : decode cX10_lessPrime 55 = .ok (.lload 4, 2) := by decide +kernel
theorem dX10_lessPrime_57 : decode cX10_lessPrime 57 = .ok (.ldc2_w 141, 3) := by decide +kernel
theorem dX10_lessPrime_60 : decode cX10_lessPrime 60 = .ok (.land, 1) := by decide +kernel
theorem dX10_lessPrime_61 : decode cX10_lessPrime 61 = .ok (.lastore, 1) := by decide +kernel
theorem dX10_lessPrime_62 : decode cX10_lessPrime 62 = .ok (.lload 4, 2) := by decide +kernel
theorem dX10_lessPrime_64 : decode cX10_lessPrime 64 = .ok (.bipush 16, 2) := by decide +kernel
theorem dX10_lessPrime_66 : decode cX10_lessPrime 66 = .ok (.lshr, 1) := by decide +kernel
theorem dX10_lessPrime_67 : decode cX10_lessPrime 67 = .ok (.lstore_n 1, 1) := by decide +kernel
theorem dX10_lessPrime_68 : decode cX10_lessPrime 68 = .ok (.iinc 3 1, 3) := by decide +kernel
theorem dX10_lessPrime_71 : decode cX10_lessPrime 71 = .ok (.goto (-67), 3) := by decide +kernel
theorem dX10_lessPrime_74 : decode cX10_lessPrime 74 = .ok (.lload_n 1, 1) := by decide +kernel
theorem dX10_lessPrime_75 : decode cX10_lessPrime 75 = .ok (.lconst 0, 1) := by decide +kernel
theorem dX10_lessPrime_76 : decode cX10_lessPrime 76 = .ok (.lcmp, 1) := by decide +kernel
theorem dX10_lessPrime_77 : decode cX10_lessPrime 77 = .ok (.ifCond .ne 33, 3) := by decide +kernel
theorem dX10_lessPrime_80 : decode cX10_lessPrime 80 = .ok (.iconst 0, 1) := by decide +kernel
theorem dX10_lessPrime_81 : decode cX10_lessPrime 81 = .ok (.istore_n 3, 1) := by decide +kernel
theorem dX10_lessPrime_82 : decode cX10_lessPrime 82 = .ok (.iload_n 3, 1) := by decide +kernel
theorem dX10_lessPrime_83 : decode cX10_lessPrime 83 = .ok (.bipush 16, 2) := by decide +kernel
theorem dX10_lessPrime_85 : decode cX10_lessPrime 85 = .ok (.if_icmp .ge 25, 3) := by decide +kernel
theorem dX10_lessPrime_88 : decode cX10_lessPrime 88 = .ok (.aload_n 0, 1) := by decide +kernel
theorem dX10_lessPrime_89 : decode cX10_lessPrime 89 = .ok (.getfield 21, 3) := by decide +kernel
theorem dX10_lessPrime_92 : decode cX10_lessPrime 92 = .ok (.sipush 544, 3) := by decide +kernel
theorem dX10_lessPrime_95 : decode cX10_lessPrime 95 = .ok (.iload_n 3, 1) := by decide +kernel
theorem dX10_lessPrime_96 : decode cX10_lessPrime 96 = .ok (.iadd, 1) := by decide +kernel
theorem dX10_lessPrime_97 : decode cX10_lessPrime 97 = .ok (.aload_n 0, 1) := by decide +kernel
theorem dX10_lessPrime_98 : decode cX10_lessPrime 98 = .ok (.getfield 24, 3) := by decide +kernel
theorem dX10_lessPrime_101 : decode cX10_lessPrime 101 = .ok (.iload_n 3, 1) := by decide +kernel
theorem dX10_lessPrime_102 : decode cX10_lessPrime 102 = .ok (.laload, 1) := by decide +kernel
theorem dX10_lessPrime_103 : decode cX10_lessPrime 103 = .ok (.lastore, 1) := by decide +kernel
theorem dX10_lessPrime_104 : decode cX10_lessPrime 104 = .ok (.iinc 3 1, 3) := by decide +kernel
theorem dX10_lessPrime_107 : decode cX10_lessPrime 107 = .ok (.goto (-25), 3) := by decide +kernel
theorem dX10_lessPrime_110 : decode cX10_lessPrime 110 = .ok (.return_, 1) := by decide +kernel
theorem dX10_unpack_0 : decode cX10_unpack 0 = .ok (.iconst 0, 1) := by decide +kernel
theorem dX10_unpack_1 : decode cX10_unpack 1 = .ok (.istore_n 3, 1) := by decide +kernel
theorem dX10_unpack_2 : decode cX10_unpack 2 = .ok (.iload_n 3, 1) := by decide +kernel
theorem dX10_unpack_3 : decode cX10_unpack 3 = .ok (.bipush 16, 2) := by decide +kernel
theorem dX10_unpack_5 : decode cX10_unpack 5 = .ok (.if_icmp .ge 41, 3) := by decide +kernel
theorem dX10_unpack_8 : decode cX10_unpack 8 = .ok (.aload_n 0, 1) := by decide +kernel
theorem dX10_unpack_9 : decode cX10_unpack 9 = .ok (.getfield 21, 3) := by decide +kernel
theorem dX10_unpack_12 : decode cX10_unpack 12 = .ok (.bipush 16, 2) := by decide +kernel
theorem dX10_unpack_14 : decode cX10_unpack 14 = .ok (.iload_n 1, 1) := by decide +kernel
theorem dX10_unpack_15 : decode cX10_unpack 15 = .ok (.imul, 1) := by decide +kernel
theorem dX10_unpack_16 : decode cX10_unpack 16 = .ok (.iload_n 3, 1) := by decide +kernel
theorem dX10_unpack_17 : decode cX10_unpack 17 = .ok (.iadd, 1) := by decide +kernel
theorem dX10_unpack_18 : decode cX10_unpack 18 = .ok (.aload_n 0, 1) := by decide +kernel
theorem dX10_unpack_19 : decode cX10_unpack 19 = .ok (.getfield 27, 3) := by decide +kernel
theorem dX10_unpack_22 : decode cX10_unpack 22 = .ok (.iload_n 2, 1) := by decide +kernel
theorem dX10_unpack_23 : decode cX10_unpack 23 = .ok (.iload_n 3, 1) := by decide +kernel
theorem dX10_unpack_24 : decode cX10_unpack 24 = .ok (.iconst 4, 1) := by decide +kernel
theorem dX10_unpack_25 : decode cX10_unpack 25 = .ok (.idiv, 1) := by decide +kernel
theorem dX10_unpack_26 : decode cX10_unpack 26 = .ok (.iadd, 1) := by decide +kernel
theorem dX10_unpack_27 : decode cX10_unpack 27 = .ok (.laload, 1) := by decide +kernel
theorem dX10_unpack_28 : decode cX10_unpack 28 = .ok (.bipush 16, 2) := by decide +kernel
theorem dX10_unpack_30 : decode cX10_unpack 30 = .ok (.iload_n 3, 1) := by decide +kernel
theorem dX10_unpack_31 : decode cX10_unpack 31 = .ok (.iconst 4, 1) := by decide +kernel
theorem dX10_unpack_32 : decode cX10_unpack 32 = .ok (.irem, 1) := by decide +kernel
theorem dX10_unpack_33 : decode cX10_unpack 33 = .ok (.imul, 1) := by decide +kernel
theorem dX10_unpack_34 : decode cX10_unpack 34 = .ok (.lushr, 1) := by decide +kernel
theorem dX10_unpack_35 : decode cX10_unpack 35 = .ok (.ldc2_w 141, 3) := by decide +kernel
theorem dX10_unpack_38 : decode cX10_unpack 38 = .ok (.land, 1) := by decide +kernel
theorem dX10_unpack_39 : decode cX10_unpack 39 = .ok (.lastore, 1) := by decide +kernel
theorem dX10_unpack_40 : decode cX10_unpack 40 = .ok (.iinc 3 1, 3) := by decide +kernel
theorem dX10_unpack_43 : decode cX10_unpack 43 = .ok (.goto (-41), 3) := by decide +kernel
theorem dX10_unpack_46 : decode cX10_unpack 46 = .ok (.aload_n 0, 1) := by decide +kernel
theorem dX10_unpack_47 : decode cX10_unpack 47 = .ok (.getfield 21, 3) := by decide +kernel
theorem dX10_unpack_50 : decode cX10_unpack 50 = .ok (.bipush 16, 2) := by decide +kernel
theorem dX10_unpack_52 : decode cX10_unpack 52 = .ok (.iload_n 1, 1) := by decide +kernel
theorem dX10_unpack_53 : decode cX10_unpack 53 = .ok (.imul, 1) := by decide +kernel
theorem dX10_unpack_54 : decode cX10_unpack 54 = .ok (.bipush 15, 2) := by decide +kernel
theorem dX10_unpack_56 : decode cX10_unpack 56 = .ok (.iadd, 1) := by decide +kernel
theorem dX10_unpack_57 : decode cX10_unpack 57 = .ok (.dup2, 1) := by decide +kernel
theorem dX10_unpack_58 : decode cX10_unpack 58 = .ok (.laload, 1) := by decide +kernel
theorem dX10_unpack_59 : decode cX10_unpack 59 = .ok (.ldc2_w 159, 3) := by decide +kernel
theorem dX10_unpack_62 : decode cX10_unpack 62 = .ok (.land, 1) := by decide +kernel
theorem dX10_unpack_63 : decode cX10_unpack 63 = .ok (.lastore, 1) := by decide +kernel
theorem dX10_unpack_64 : decode cX10_unpack 64 = .ok (.return_, 1) := by decide +kernel
theorem dX10_isSame_0 : decode cX10_isSame 0 = .ok (.aload_n 0, 1) := by decide +kernel
theorem dX10_isSame_1 : decode cX10_isSame 1 = .ok (.bipush 24, 2) := by decide +kernel
theorem dX10_isSame_3 : decode cX10_isSame 3 = .ok (.iload_n 1, 1) := by decide +kernel
theorem dX10_isSame_4 : decode cX10_isSame 4 = .ok (.invokevirtual 121, 3) := by decide +kernel
theorem dX10_isSame_7 : decode cX10_isSame 7 = .ok (.aload_n 0, 1) := by decide +kernel
theorem dX10_isSame_8 : decode cX10_isSame 8 = .ok (.bipush 16, 2) := by decide +kernel
theorem dX10_isSame_10 : decode cX10_isSame 10 = .ok (.aload_n 0, 1) := by decide +kernel
theorem dX10_isSame_11 : decode cX10_isSame 11 = .ok (.getfield 27, 3) := by decide +kernel
theorem dX10_isSame_14 : decode cX10_isSame 14 = .ok (.bipush 24, 2) := by decide +kernel
theorem dX10_isSame_16 : decode cX10_isSame 16 = .ok (.laload, 1) := by decide +kernel
theorem dX10_isSame_17 : decode cX10_isSame 17 = .ok (.aload_n 0, 1) := by decide +kernel
theorem dX10_isSame_18 : decode cX10_isSame 18 = .ok (.getfield 27, 3) := by decide +kernel
theorem dX10_isSame_21 : decode cX10_isSame 21 = .ok (.bipush 25, 2) := by decide +kernel
theorem dX10_isSame_23 : decode cX10_isSame 23 = .ok (.laload, 1) := by decide +kernel
theorem dX10_isSame_24 : decode cX10_isSame 24 = .ok (.aload_n 0, 1) := by decide +kernel
theorem dX10_isSame_25 : decode cX10_isSame 25 = .ok (.getfield 27, 3) := by decide +kernel
theorem dX10_isSame_28 : decode cX10_isSame 28 = .ok (.bipush 26, 2) := by decide +kernel
theorem dX10_isSame_30 : decode cX10_isSame 30 = .ok (.laload, 1) := by decide +kernel
theorem dX10_isSame_31 : decode cX10_isSame 31 = .ok (.aload_n 0, 1) := by decide +kernel
theorem dX10_isSame_32 : decode cX10_isSame 32 = .ok (.getfield 27, 3) := by decide +kernel
theorem dX10_isSame_35 : decode cX10_isSame 35 = .ok (.bipush 27, 2) := by decide +kernel
theorem dX10_isSame_37 : decode cX10_isSame 37 = .ok (.laload, 1) := by decide +kernel
theorem dX10_isSame_38 : decode cX10_isSame 38 = .ok (.invokevirtual 72, 3) := by decide +kernel
theorem dX10_isSame_41 : decode cX10_isSame 41 = .ok (.aload_n 0, 1) := by decide +kernel
theorem dX10_isSame_42 : decode cX10_isSame 42 = .ok (.bipush 24, 2) := by decide +kernel
theorem dX10_isSame_44 : decode cX10_isSame 44 = .ok (.iload_n 2, 1) := by decide +kernel
theorem dX10_isSame_45 : decode cX10_isSame 45 = .ok (.invokevirtual 121, 3) := by decide +kernel
theorem dX10_isSame_48 : decode cX10_isSame 48 = .ok (.aload_n 0, 1) := by decide +kernel
theorem dX10_isSame_49 : decode cX10_isSame 49 = .ok (.bipush 24, 2) := by decide +kernel
theorem dX10_isSame_51 : decode cX10_isSame 51 = .ok (.bipush 16, 2) := by decide +kernel
theorem dX10_isSame_53 : decode cX10_isSame 53 = .ok (.invokevirtual 161, 3) := by decide +kernel
theorem dX10_isSame_56 : decode cX10_isSame 56 = .ok (.ifCond .ne 7, 3) := by decide +kernel
theorem dX10_isSame_59 : decode cX10_isSame 59 = .ok (.iconst 1, 1) := by decide +kernel
theorem dX10_isSame_60 : decode cX10_isSame 60 = .ok (.goto 4, 3) := by decide +kernel
theorem dX10_isSame_63 : decode cX10_isSame 63 = .ok (.iconst 0, 1) := by decide +kernel
theorem dX10_isSame_64 : decode cX10_isSame 64 = .ok (.ireturn, 1) := by decide +kernel
theorem dX10_lowest_0 : decode cX10_lowest 0 = .ok (.aload_n 0, 1) := by decide +kernel
theorem dX10_lowest_1 : decode cX10_lowest 1 = .ok (.bipush 24, 2) := by decide +kernel
theorem dX10_lowest_3 : decode cX10_lowest 3 = .ok (.iload_n 1, 1) := by decide +kernel
theorem dX10_lowest_4 : decode cX10_lowest 4 = .ok (.invokevirtual 121, 3) := by decide +kernel
theorem dX10_lowest_7 : decode cX10_lowest 7 = .ok (.aload_n 0, 1) := by decide +kernel
theorem dX10_lowest_8 : decode cX10_lowest 8 = .ok (.getfield 27, 3) := by decide +kernel
theorem dX10_lowest_11 : decode cX10_lowest 11 = .ok (.bipush 24, 2) := by decide +kernel
theorem dX10_lowest_13 : decode cX10_lowest 13 = .ok (.laload, 1) := by decide +kernel
theorem dX10_lowest_14 : decode cX10_lowest 14 = .ok (.lconst 1, 1) := by decide +kernel
theorem dX10_lowest_15 : decode cX10_lowest 15 = .ok (.land, 1) := by decide +kernel
theorem dX10_lowest_16 : decode cX10_lowest 16 = .ok (.l2i, 1) := by decide +kernel
theorem dX10_lowest_17 : decode cX10_lowest 17 = .ok (.ireturn, 1) := by decide +kernel
theorem dX10_roots_0 : decode cX10_roots 0 = .ok (.aload_n 0, 1) := by decide +kernel
theorem dX10_roots_1 : decode cX10_roots 1 = .ok (.iconst 0, 1) := by decide +kernel
theorem dX10_roots_2 : decode cX10_roots 2 = .ok (.ldc2_w 164, 3) := by decide +kernel
theorem dX10_roots_5 : decode cX10_roots 5 = .ok (.ldc2_w 68, 3) := by decide +kernel
theorem dX10_roots_8 : decode cX10_roots 8 = .ok (.ldc2_w 68, 3) := by decide +kernel
theorem dX10_roots_11 : decode cX10_roots 11 = .ok (.ldc2_w 166, 3) := by decide +kernel
theorem dX10_roots_14 : decode cX10_roots 14 = .ok (.invokevirtual 72, 3) := by decide +kernel
theorem dX10_roots_17 : decode cX10_roots 17 = .ok (.aload_n 0, 1) := by decide +kernel
theorem dX10_roots_18 : decode cX10_roots 18 = .ok (.bipush 44, 2) := by decide +kernel
theorem dX10_roots_20 : decode cX10_roots 20 = .ok (.iload_n 2, 1) := by decide +kernel
theorem dX10_roots_21 : decode cX10_roots 21 = .ok (.invokevirtual 145, 3) := by decide +kernel
theorem dX10_roots_24 : decode cX10_roots 24 = .ok (.aload_n 0, 1) := by decide +kernel
theorem dX10_roots_25 : decode cX10_roots 25 = .ok (.iload_n 1, 1) := by decide +kernel
theorem dX10_roots_26 : decode cX10_roots 26 = .ok (.bipush 44, 2) := by decide +kernel
theorem dX10_roots_28 : decode cX10_roots 28 = .ok (.iconst 0, 1) := by decide +kernel
theorem dX10_roots_29 : decode cX10_roots 29 = .ok (.invokevirtual 92, 3) := by decide +kernel
theorem dX10_roots_32 : decode cX10_roots 32 = .ok (.aload_n 0, 1) := by decide +kernel
theorem dX10_roots_33 : decode cX10_roots 33 = .ok (.bipush 33, 2) := by decide +kernel
theorem dX10_roots_35 : decode cX10_roots 35 = .ok (.iload_n 1, 1) := by decide +kernel
theorem dX10_roots_36 : decode cX10_roots 36 = .ok (.iload_n 1, 1) := by decide +kernel
theorem dX10_roots_37 : decode cX10_roots 37 = .ok (.invokevirtual 107, 3) := by decide +kernel
theorem dX10_roots_40 : decode cX10_roots 40 = .ok (.aload_n 0, 1) := by decide +kernel
theorem dX10_roots_41 : decode cX10_roots 41 = .ok (.bipush 33, 2) := by decide +kernel
theorem dX10_roots_43 : decode cX10_roots 43 = .ok (.bipush 44, 2) := by decide +kernel
theorem dX10_roots_45 : decode cX10_roots 45 = .ok (.invokevirtual 168, 3) := by decide +kernel
theorem dX10_roots_48 : decode cX10_roots 48 = .ok (.ifCond .eq 5, 3) := by decide +kernel
theorem dX10_roots_51 : decode cX10_roots 51 = .ok (.iconst 1, 1) := by decide +kernel
theorem dX10_roots_52 : decode cX10_roots 52 = .ok (.ireturn, 1) := by decide +kernel
theorem dX10_roots_53 : decode cX10_roots 53 = .ok (.aload_n 0, 1) := by decide +kernel
theorem dX10_roots_54 : decode cX10_roots 54 = .ok (.iload_n 1, 1) := by decide +kernel
theorem dX10_roots_55 : decode cX10_roots 55 = .ok (.iload_n 1, 1) := by decide +kernel
theorem dX10_roots_56 : decode cX10_roots 56 = .ok (.iconst 4, 1) := by decide +kernel
theorem dX10_roots_57 : decode cX10_roots 57 = .ok (.invokevirtual 107, 3) := by decide +kernel
theorem dX10_roots_60 : decode cX10_roots 60 = .ok (.aload_n 0, 1) := by decide +kernel
theorem dX10_roots_61 : decode cX10_roots 61 = .ok (.bipush 33, 2) := by decide +kernel
theorem dX10_roots_63 : decode cX10_roots 63 = .ok (.iload_n 1, 1) := by decide +kernel
theorem dX10_roots_64 : decode cX10_roots 64 = .ok (.iload_n 1, 1) := by decide +kernel
theorem dX10_roots_65 : decode cX10_roots 65 = .ok (.invokevirtual 107, 3) := by decide +kernel
theorem dX10_roots_68 : decode cX10_roots 68 = .ok (.aload_n 0, 1) := by decide +kernel
theorem dX10_roots_69 : decode cX10_roots 69 = .ok (.bipush 33, 2) := by decide +kernel
theorem dX10_roots_71 : decode cX10_roots 71 = .ok (.bipush 44, 2) := by decide +kernel
theorem dX10_roots_73 : decode cX10_roots 73 = .ok (.invokevirtual 168, 3) := by decide +kernel
theorem dX10_roots_76 : decode cX10_roots 76 = .ok (.ireturn, 1) := by decide +kernel
theorem dX10_neutral_0 : decode cX10_neutral 0 = .ok (.aload_n 0, 1) := by decide +kernel
theorem dX10_neutral_1 : decode cX10_neutral 1 = .ok (.iload_n 1, 1) := by decide +kernel
theorem dX10_neutral_2 : decode cX10_neutral 2 = .ok (.lconst 0, 1) := by decide +kernel
theorem dX10_neutral_3 : decode cX10_neutral 3 = .ok (.invokevirtual 82, 3) := by decide +kernel
theorem dX10_neutral_6 : decode cX10_neutral 6 = .ok (.aload_n 0, 1) := by decide +kernel
theorem dX10_neutral_7 : decode cX10_neutral 7 = .ok (.iload_n 1, 1) := by decide +kernel
theorem dX10_neutral_8 : decode cX10_neutral 8 = .ok (.iconst 1, 1) := by decide +kernel
theorem dX10_neutral_9 : decode cX10_neutral 9 = .ok (.iadd, 1) := by decide +kernel
theorem dX10_neutral_10 : decode cX10_neutral 10 = .ok (.lconst 1, 1) := by decide +kernel
theorem dX10_neutral_11 : decode cX10_neutral 11 = .ok (.invokevirtual 82, 3) := by decide +kernel
theorem dX10_neutral_14 : decode cX10_neutral 14 = .ok (.aload_n 0, 1) := by decide +kernel
theorem dX10_neutral_15 : decode cX10_neutral 15 = .ok (.iload_n 1, 1) := by decide +kernel
theorem dX10_neutral_16 : decode cX10_neutral 16 = .ok (.iconst 2, 1) := by decide +kernel
theorem dX10_neutral_17 : decode cX10_neutral 17 = .ok (.iadd, 1) := by decide +kernel
theorem dX10_neutral_18 : decode cX10_neutral 18 = .ok (.lconst 1, 1) := by decide +kernel
theorem dX10_neutral_19 : decode cX10_neutral 19 = .ok (.invokevirtual 82, 3) := by decide +kernel
theorem dX10_neutral_22 : decode cX10_neutral 22 = .ok (.aload_n 0, 1) := by decide +kernel
theorem dX10_neutral_23 : decode cX10_neutral 23 = .ok (.iload_n 1, 1) := by decide +kernel
theorem dX10_neutral_24 : decode cX10_neutral 24 = .ok (.iconst 3, 1) := by decide +kernel
theorem dX10_neutral_25 : decode cX10_neutral 25 = .ok (.iadd, 1) := by decide +kernel
theorem dX10_neutral_26 : decode cX10_neutral 26 = .ok (.lconst 0, 1) := by decide +kernel
theorem dX10_neutral_27 : decode cX10_neutral 27 = .ok (.invokevirtual 82, 3) := by decide +kernel
theorem dX10_neutral_30 : decode cX10_neutral 30 = .ok (.return_, 1) := by decide +kernel
theorem dX10_addPoint_0 : decode cX10_addPoint 0 = .ok (.aload_n 0, 1) := by decide +kernel
theorem dX10_addPoint_1 : decode cX10_addPoint 1 = .ok (.bipush 26, 2) := by decide +kernel
theorem dX10_addPoint_3 : decode cX10_addPoint 3 = .ok (.iload_n 1, 1) := by decide +kernel
theorem dX10_addPoint_4 : decode cX10_addPoint 4 = .ok (.iconst 1, 1) := by decide +kernel
theorem dX10_addPoint_5 : decode cX10_addPoint 5 = .ok (.iadd, 1) := by decide +kernel
theorem dX10_addPoint_6 : decode cX10_addPoint 6 = .ok (.iload_n 1, 1) := by decide +kernel
theorem dX10_addPoint_7 : decode cX10_addPoint 7 = .ok (.invokevirtual 98, 3) := by decide +kernel
theorem dX10_addPoint_10 : decode cX10_addPoint 10 = .ok (.aload_n 0, 1) := by decide +kernel
theorem dX10_addPoint_11 : decode cX10_addPoint 11 = .ok (.bipush 27, 2) := by decide +kernel
theorem dX10_addPoint_13 : decode cX10_addPoint 13 = .ok (.iload_n 2, 1) := by decide +kernel
theorem dX10_addPoint_14 : decode cX10_addPoint 14 = .ok (.iconst 1, 1) := by decide +kernel
theorem dX10_addPoint_15 : decode cX10_addPoint 15 = .ok (.iadd, 1) := by decide +kernel
theorem dX10_addPoint_16 : decode cX10_addPoint 16 = .ok (.iload_n 2, 1) := by decide +kernel
theorem dX10_addPoint_17 : decode cX10_addPoint 17 = .ok (.invokevirtual 98, 3) := by decide +kernel
theorem dX10_addPoint_20 : decode cX10_addPoint 20 = .ok (.aload_n 0, 1) := by decide +kernel
theorem dX10_addPoint_21 : decode cX10_addPoint 21 = .ok (.bipush 26, 2) := by decide +kernel
theorem dX10_addPoint_23 : decode cX10_addPoint 23 = .ok (.bipush 26, 2) := by decide +kernel
theorem dX10_addPoint_25 : decode cX10_addPoint 25 = .ok (.bipush 27, 2) := by decide +kernel
theorem dX10_addPoint_27 : decode cX10_addPoint 27 = .ok (.invokevirtual 107, 3) := by decide +kernel
theorem dX10_addPoint_30 : decode cX10_addPoint 30 = .ok (.aload_n 0, 1) := by decide +kernel
theorem dX10_addPoint_31 : decode cX10_addPoint 31 = .ok (.bipush 27, 2) := by decide +kernel
theorem dX10_addPoint_33 : decode cX10_addPoint 33 = .ok (.iload_n 1, 1) := by decide +kernel
theorem dX10_addPoint_34 : decode cX10_addPoint 34 = .ok (.iload_n 1, 1) := by decide +kernel
theorem dX10_addPoint_35 : decode cX10_addPoint 35 = .ok (.iconst 1, 1) := by decide +kernel
theorem dX10_addPoint_36 : decode cX10_addPoint 36 = .ok (.iadd, 1) := by decide +kernel
theorem dX10_addPoint_37 : decode cX10_addPoint 37 = .ok (.invokevirtual 110, 3) := by decide +kernel
theorem dX10_addPoint_40 : decode cX10_addPoint 40 = .ok (.aload_n 0, 1) := by decide +kernel
theorem dX10_addPoint_41 : decode cX10_addPoint 41 = .ok (.bipush 28, 2) := by decide +kernel
theorem dX10_addPoint_43 : decode cX10_addPoint 43 = .ok (.iload_n 2, 1) := by decide +kernel
theorem dX10_addPoint_44 : decode cX10_addPoint 44 = .ok (.iload_n 2, 1) := by decide +kernel
theorem dX10_addPoint_45 : decode cX10_addPoint 45 = .ok (.iconst 1, 1) := by decide +kernel
theorem dX10_addPoint_46 : decode cX10_addPoint 46 = .ok (.iadd, 1) := by decide +kernel
theorem dX10_addPoint_47 : decode cX10_addPoint 47 = .ok (.invokevirtual 110, 3) := by decide +kernel
theorem dX10_addPoint_50 : decode cX10_addPoint 50 = .ok (.aload_n 0, 1) := by decide +kernel
theorem dX10_addPoint_51 : decode cX10_addPoint 51 = .ok (.bipush 27, 2) := by decide +kernel
theorem dX10_addPoint_53 : decode cX10_addPoint 53 = .ok (.bipush 27, 2) := by decide +kernel
theorem dX10_addPoint_55 : decode cX10_addPoint 55 = .ok (.bipush 28, 2) := by decide +kernel
theorem dX10_addPoint_57 : decode cX10_addPoint 57 = .ok (.invokevirtual 107, 3) := by decide +kernel
theorem dX10_addPoint_60 : decode cX10_addPoint 60 = .ok (.aload_n 0, 1) := by decide +kernel
theorem dX10_addPoint_61 : decode cX10_addPoint 61 = .ok (.bipush 28, 2) := by decide +kernel
theorem dX10_addPoint_63 : decode cX10_addPoint 63 = .ok (.iload_n 1, 1) := by decide +kernel
theorem dX10_addPoint_64 : decode cX10_addPoint 64 = .ok (.iconst 3, 1) := by decide +kernel
theorem dX10_addPoint_65 : decode cX10_addPoint 65 = .ok (.iadd, 1) := by decide +kernel
theorem dX10_addPoint_66 : decode cX10_addPoint 66 = .ok (.iload_n 2, 1) := by decide +kernel
theorem dX10_addPoint_67 : decode cX10_addPoint 67 = .ok (.iconst 3, 1) := by decide +kernel
theorem dX10_addPoint_68 : decode cX10_addPoint 68 = .ok (.iadd, 1) := by decide +kernel
theorem dX10_addPoint_69 : decode cX10_addPoint 69 = .ok (.invokevirtual 107, 3) := by decide +kernel
theorem dX10_addPoint_72 : decode cX10_addPoint 72 = .ok (.aload_n 0, 1) := by decide +kernel
theorem dX10_addPoint_73 : decode cX10_addPoint 73 = .ok (.bipush 28, 2) := by decide +kernel
theorem dX10_addPoint_75 : decode cX10_addPoint 75 = .ok (.bipush 28, 2) := by decide +kernel
theorem dX10_addPoint_77 : decode cX10_addPoint 77 = .ok (.iconst 3, 1) := by decide +kernel
theorem dX10_addPoint_78 : decode cX10_addPoint 78 = .ok (.invokevirtual 107, 3) := by decide +kernel
theorem dX10_addPoint_81 : decode cX10_addPoint 81 = .ok (.aload_n 0, 1) := by decide +kernel
theorem dX10_addPoint_82 : decode cX10_addPoint 82 = .ok (.bipush 29, 2) := by decide +kernel
theorem dX10_addPoint_84 : decode cX10_addPoint 84 = .ok (.iload_n 1, 1) := by decide +kernel
theorem dX10_addPoint_85 : decode cX10_addPoint 85 = .ok (.iconst 2, 1) := by decide +kernel
theorem dX10_addPoint_86 : decode cX10_addPoint 86 = .ok (.iadd, 1) := by decide +kernel
theorem dX10_addPoint_87 : decode cX10_addPoint 87 = .ok (.iload_n 2, 1) := by decide +kernel
theorem dX10_addPoint_88 : decode cX10_addPoint 88 = .ok (.iconst 2, 1) := by decide +kernel
theorem dX10_addPoint_89 : decode cX10_addPoint 89 = .ok (.iadd, 1) := by decide +kernel
theorem dX10_addPoint_90 : decode cX10_addPoint 90 = .ok (.invokevirtual 107, 3) := by decide +kernel
theorem dX10_addPoint_93 : decode cX10_addPoint 93 = .ok (.aload_n 0, 1) := by decide +kernel
theorem dX10_addPoint_94 : decode cX10_addPoint 94 = .ok (.bipush 29, 2) := by decide +kernel
theorem dX10_addPoint_96 : decode cX10_addPoint 96 = .ok (.bipush 29, 2) := by decide +kernel
theorem dX10_addPoint_98 : decode cX10_addPoint 98 = .ok (.bipush 29, 2) := by decide +kernel
theorem dX10_addPoint_100 : decode cX10_addPoint 100 = .ok (.invokevirtual 110, 3) := by decide +kernel
theorem dX10_addPoint_103 : decode cX10_addPoint 103 = .ok (.aload_n 0, 1) := by decide +kernel
theorem dX10_addPoint_104 : decode cX10_addPoint 104 = .ok (.bipush 30, 2) := by decide +kernel
theorem dX10_addPoint_106 : decode cX10_addPoint 106 = .ok (.bipush 27, 2) := by decide +kernel
theorem dX10_addPoint_108 : decode cX10_addPoint 108 = .ok (.bipush 26, 2) := by decide +kernel
theorem dX10_addPoint_110 : decode cX10_addPoint 110 = .ok (.invokevirtual 98, 3) := by decide +kernel
theorem dX10_addPoint_113 : decode cX10_addPoint 113 = .ok (.aload_n 0, 1) := by decide +kernel
theorem dX10_addPoint_114 : decode cX10_addPoint 114 = .ok (.bipush 31, 2) := by decide +kernel
theorem dX10_addPoint_116 : decode cX10_addPoint 116 = .ok (.bipush 29, 2) := by decide +kernel
theorem dX10_addPoint_118 : decode cX10_addPoint 118 = .ok (.bipush 28, 2) := by decide +kernel
theorem dX10_addPoint_120 : decode cX10_addPoint 120 = .ok (.invokevirtual 98, 3) := by decide +kernel
theorem dX10_addPoint_123 : decode cX10_addPoint 123 = .ok (.aload_n 0, 1) := by decide +kernel
theorem dX10_addPoint_124 : decode cX10_addPoint 124 = .ok (.bipush 32, 2) := by decide +kernel
theorem dX10_addPoint_126 : decode cX10_addPoint 126 = .ok (.bipush 29, 2) := by decide +kernel
theorem dX10_addPoint_128 : decode cX10_addPoint 128 = .ok (.bipush 28, 2) := by decide +kernel
theorem dX10_addPoint_130 : decode cX10_addPoint 130 = .ok (.invokevirtual 110, 3) := by decide +kernel
theorem dX10_addPoint_133 : decode cX10_addPoint 133 = .ok (.aload_n 0, 1) := by decide +kernel
theorem dX10_addPoint_134 : decode cX10_addPoint 134 = .ok (.bipush 33, 2) := by decide +kernel
theorem dX10_addPoint_136 : decode cX10_addPoint 136 = .ok (.bipush 27, 2) := by decide +kernel
theorem dX10_addPoint_138 : decode cX10_addPoint 138 = .ok (.bipush 26, 2) := by decide +kernel
theorem dX10_addPoint_140 : decode cX10_addPoint 140 = .ok (.invokevirtual 110, 3) := by decide +kernel
theorem dX10_addPoint_143 : decode cX10_addPoint 143 = .ok (.aload_n 0, 1) := by decide +kernel
theorem dX10_addPoint_144 : decode cX10_addPoint 144 = .ok (.iload_n 1, 1) := by decide +kernel
theorem dX10_addPoint_145 : decode cX10_addPoint 145 = .ok (.bipush 30, 2) := by decide +kernel
theorem dX10_addPoint_147 : decode cX10_addPoint 147 = .ok (.bipush 31, 2) := by decide +kernel
theorem dX10_addPoint_149 : decode cX10_addPoint 149 = .ok (.invokevirtual 107, 3) := by decide +kernel
theorem dX10_addPoint_152 : decode cX10_addPoint 152 = .ok (.aload_n 0, 1) := by decide +kernel
theorem dX10_addPoint_153 : decode cX10_addPoint 153 = .ok (.iload_n 1, 1) := by decide +kernel
theorem dX10_addPoint_154 : decode cX10_addPoint 154 = .ok (.iconst 1, 1) := by decide +kernel
theorem dX10_addPoint_155 : decode cX10_addPoint 155 = .ok (.iadd, 1) := by decide +kernel
theorem dX10_addPoint_156 : decode cX10_addPoint 156 = .ok (.bipush 33, 2) := by decide +kernel
theorem dX10_addPoint_158 : decode cX10_addPoint 158 = .ok (.bipush 32, 2) := by decide +kernel
theorem dX10_addPoint_160 : decode cX10_addPoint 160 = .ok (.invokevirtual 107, 3) := by decide +kernel
theorem dX10_addPoint_163 : decode cX10_addPoint 163 = .ok (.aload_n 0, 1) := by decide +kernel
theorem dX10_addPoint_164 : decode cX10_addPoint 164 = .ok (.iload_n 1, 1) := by decide +kernel
theorem dX10_addPoint_165 : decode cX10_addPoint 165 = .ok (.iconst 2, 1) := by decide +kernel
theorem dX10_addPoint_166 : decode cX10_addPoint 166 = .ok (.iadd, 1) := by decide +kernel
theorem dX10_addPoint_167 : decode cX10_addPoint 167 = .ok (.bipush 32, 2) := by decide +kernel
theorem dX10_addPoint_169 : decode cX10_addPoint 169 = .ok (.bipush 31, 2) := by decide +kernel
theorem dX10_addPoint_171 : decode cX10_addPoint 171 = .ok (.invokevirtual 107, 3) := by decide +kernel
theorem dX10_addPoint_174 : decode cX10_addPoint 174 = .ok (.aload_n 0, 1) := by decide +kernel
theorem dX10_addPoint_175 : decode cX10_addPoint 175 = .ok (.iload_n 1, 1) := by decide +kernel
theorem dX10_addPoint_176 : decode cX10_addPoint 176 = .ok (.iconst 3, 1) := by decide +kernel
theorem dX10_addPoint_177 : decode cX10_addPoint 177 = .ok (.iadd, 1) := by decide +kernel
theorem dX10_addPoint_178 : decode cX10_addPoint 178 = .ok (.bipush 30, 2) := by decide +kernel
theorem dX10_addPoint_180 : decode cX10_addPoint 180 = .ok (.bipush 33, 2) := by decide +kernel
theorem dX10_addPoint_182 : decode cX10_addPoint 182 = .ok (.invokevirtual 107, 3) := by decide +kernel
theorem dX10_addPoint_185 : decode cX10_addPoint 185 = .ok (.return_, 1) := by decide +kernel
theorem dX10_many_0 : decode cX10_many 0 = .ok (.aload_n 0, 1) := by decide +kernel
theorem dX10_many_1 : decode cX10_many 1 = .ok (.iload_n 1, 1) := by decide +kernel
theorem dX10_many_2 : decode cX10_many 2 = .ok (.invokevirtual 171, 3) := by decide +kernel
theorem dX10_many_5 : decode cX10_many 5 = .ok (.sipush 255, 3) := by decide +kernel
theorem dX10_many_8 : decode cX10_many 8 = .ok (.istore 4, 2) := by decide +kernel
theorem dX10_many_10 : decode cX10_many 10 = .ok (.iload 4, 2) := by decide +kernel
theorem dX10_many_12 : decode cX10_many 12 = .ok (.ifCond .lt 32, 3) := by decide +kernel
theorem dX10_many_15 : decode cX10_many 15 = .ok (.aload_n 0, 1) := by decide +kernel
theorem dX10_many_16 : decode cX10_many 16 = .ok (.iload_n 1, 1) := by decide +kernel
theorem dX10_many_17 : decode cX10_many 17 = .ok (.iload_n 1, 1) := by decide +kernel
theorem dX10_many_18 : decode cX10_many 18 = .ok (.invokevirtual 174, 3) := by decide +kernel
theorem dX10_many_21 : decode cX10_many 21 = .ok (.aload_n 0, 1) := by decide +kernel
theorem dX10_many_22 : decode cX10_many 22 = .ok (.iload_n 3, 1) := by decide +kernel
theorem dX10_many_23 : decode cX10_many 23 = .ok (.iload 4, 2) := by decide +kernel
theorem dX10_many_25 : decode cX10_many 25 = .ok (.invokevirtual 148, 3) := by decide +kernel
theorem dX10_many_28 : decode cX10_many 28 = .ok (.iconst 1, 1) := by decide +kernel
theorem dX10_many_29 : decode cX10_many 29 = .ok (.if_icmp .ne 9, 3) := by decide +kernel
theorem dX10_many_32 : decode cX10_many 32 = .ok (.aload_n 0, 1) := by decide +kernel
theorem dX10_many_33 : decode cX10_many 33 = .ok (.iload_n 1, 1) := by decide +kernel
theorem dX10_many_34 : decode cX10_many 34 = .ok (.iload_n 2, 1) := by decide +kernel
theorem dX10_many_35 : decode cX10_many 35 = .ok (.invokevirtual 174, 3) := by decide +kernel
theorem dX10_many_38 : decode cX10_many 38 = .ok (.iinc 4 (-1), 3) := by decide +kernel
theorem dX10_many_41 : decode cX10_many 41 = .ok (.goto (-31), 3) := by decide +kernel
theorem dX10_many_44 : decode cX10_many 44 = .ok (.return_, 1) := by decide +kernel
theorem dX10_bytes_0 : decode cX10_bytes 0 = .ok (.aload_n 0, 1) := by decide +kernel
theorem dX10_bytes_1 : decode cX10_bytes 1 = .ok (.bipush 41, 2) := by decide +kernel
theorem dX10_bytes_3 : decode cX10_bytes 3 = .ok (.iload_n 2, 1) := by decide +kernel
theorem dX10_bytes_4 : decode cX10_bytes 4 = .ok (.iconst 2, 1) := by decide +kernel
theorem dX10_bytes_5 : decode cX10_bytes 5 = .ok (.iadd, 1) := by decide +kernel
theorem dX10_bytes_6 : decode cX10_bytes 6 = .ok (.invokevirtual 103, 3) := by decide +kernel
theorem dX10_bytes_9 : decode cX10_bytes 9 = .ok (.aload_n 0, 1) := by decide +kernel
theorem dX10_bytes_10 : decode cX10_bytes 10 = .ok (.bipush 42, 2) := by decide +kernel
theorem dX10_bytes_12 : decode cX10_bytes 12 = .ok (.iload_n 2, 1) := by decide +kernel
theorem dX10_bytes_13 : decode cX10_bytes 13 = .ok (.bipush 41, 2) := by decide +kernel
theorem dX10_bytes_15 : decode cX10_bytes 15 = .ok (.invokevirtual 107, 3) := by decide +kernel
theorem dX10_bytes_18 : decode cX10_bytes 18 = .ok (.aload_n 0, 1) := by decide +kernel
theorem dX10_bytes_19 : decode cX10_bytes 19 = .ok (.bipush 43, 2) := by decide +kernel
theorem dX10_bytes_21 : decode cX10_bytes 21 = .ok (.iload_n 2, 1) := by decide +kernel
theorem dX10_bytes_22 : decode cX10_bytes 22 = .ok (.iconst 1, 1) := by decide +kernel
theorem dX10_bytes_23 : decode cX10_bytes 23 = .ok (.iadd, 1) := by decide +kernel
theorem dX10_bytes_24 : decode cX10_bytes 24 = .ok (.bipush 41, 2) := by decide +kernel
theorem dX10_bytes_26 : decode cX10_bytes 26 = .ok (.invokevirtual 107, 3) := by decide +kernel
theorem dX10_bytes_29 : decode cX10_bytes 29 = .ok (.aload_n 0, 1) := by decide +kernel
theorem dX10_bytes_30 : decode cX10_bytes 30 = .ok (.bipush 42, 2) := by decide +kernel
theorem dX10_bytes_32 : decode cX10_bytes 32 = .ok (.invokevirtual 177, 3) := by decide +kernel
theorem dX10_bytes_35 : decode cX10_bytes 35 = .ok (.i2l, 1) := by decide +kernel
theorem dX10_bytes_36 : decode cX10_bytes 36 = .ok (.lstore_n 3, 1) := by decide +kernel
theorem dX10_bytes_37 : decode cX10_bytes 37 = .ok (.aload_n 0, 1) := by decide +kernel
theorem dX10_bytes_38 : decode cX10_bytes 38 = .ok (.iload_n 1, 1) := by decide +kernel
theorem dX10_bytes_39 : decode cX10_bytes 39 = .ok (.bipush 43, 2) := by decide +kernel
theorem dX10_bytes_41 : decode cX10_bytes 41 = .ok (.invokevirtual 121, 3) := by decide +kernel
theorem dX10_bytes_44 : decode cX10_bytes 44 = .ok (.aload_n 0, 1) := by decide +kernel
theorem dX10_bytes_45 : decode cX10_bytes 45 = .ok (.getfield 27, 3) := by decide +kernel
theorem dX10_bytes_48 : decode cX10_bytes 48 = .ok (.iload_n 1, 1) := by decide +kernel
theorem dX10_bytes_49 : decode cX10_bytes 49 = .ok (.iconst 3, 1) := by decide +kernel
theorem dX10_bytes_50 : decode cX10_bytes 50 = .ok (.iadd, 1) := by decide +kernel
theorem dX10_bytes_51 : decode cX10_bytes 51 = .ok (.dup2, 1) := by decide +kernel
theorem dX10_bytes_52 : decode cX10_bytes 52 = .ok (.laload, 1) := by decide +kernel
theorem dX10_bytes_53 : decode cX10_bytes 53 = .ok (.lload_n 3, 1) := by decide +kernel
theorem dX10_bytes_54 : decode cX10_bytes 54 = .ok (.bipush 63, 2) := by decide +kernel
theorem dX10_bytes_56 : decode cX10_bytes 56 = .ok (.lshl, 1) := by decide +kernel
theorem dX10_bytes_57 : decode cX10_bytes 57 = .ok (.lor, 1) := by decide +kernel
theorem dX10_bytes_58 : decode cX10_bytes 58 = .ok (.lastore, 1) := by decide +kernel
theorem dX10_bytes_59 : decode cX10_bytes 59 = .ok (.return_, 1) := by decide +kernel
theorem dX10_open_0 : decode cX10_open 0 = .ok (.aload_n 0, 1) := by decide +kernel
theorem dX10_open_1 : decode cX10_open 1 = .ok (.bipush 12, 2) := by decide +kernel
theorem dX10_open_3 : decode cX10_open 3 = .ok (.aload_n 0, 1) := by decide +kernel
theorem dX10_open_4 : decode cX10_open 4 = .ok (.getfield 27, 3) := by decide +kernel
theorem dX10_open_7 : decode cX10_open 7 = .ok (.iload_n 2, 1) := by decide +kernel
theorem dX10_open_8 : decode cX10_open 8 = .ok (.laload, 1) := by decide +kernel
theorem dX10_open_9 : decode cX10_open 9 = .ok (.aload_n 0, 1) := by decide +kernel
theorem dX10_open_10 : decode cX10_open 10 = .ok (.getfield 27, 3) := by decide +kernel
theorem dX10_open_13 : decode cX10_open 13 = .ok (.iload_n 2, 1) := by decide +kernel
theorem dX10_open_14 : decode cX10_open 14 = .ok (.iconst 1, 1) := by decide +kernel
theorem dX10_open_15 : decode cX10_open 15 = .ok (.iadd, 1) := by decide +kernel
theorem dX10_open_16 : decode cX10_open 16 = .ok (.laload, 1) := by decide +kernel
theorem dX10_open_17 : decode cX10_open 17 = .ok (.aload_n 0, 1) := by decide +kernel
theorem dX10_open_18 : decode cX10_open 18 = .ok (.getfield 27, 3) := by decide +kernel
theorem dX10_open_21 : decode cX10_open 21 = .ok (.iload_n 2, 1) := by decide +kernel
theorem dX10_open_22 : decode cX10_open 22 = .ok (.iconst 2, 1) := by decide +kernel
theorem dX10_open_23 : decode cX10_open 23 = .ok (.iadd, 1) := by decide +kernel
theorem dX10_open_24 : decode cX10_open 24 = .ok (.laload, 1) := by decide +kernel
theorem dX10_open_25 : decode cX10_open 25 = .ok (.aload_n 0, 1) := by decide +kernel
theorem dX10_open_26 : decode cX10_open 26 = .ok (.getfield 27, 3) := by decide +kernel
theorem dX10_open_29 : decode cX10_open 29 = .ok (.iload_n 2, 1) := by decide +kernel
theorem dX10_open_30 : decode cX10_open 30 = .ok (.iconst 3, 1) := by decide +kernel
theorem dX10_open_31 : decode cX10_open 31 = .ok (.iadd, 1) := by decide +kernel
theorem dX10_open_32 : decode cX10_open 32 = .ok (.laload, 1) := by decide +kernel
theorem dX10_open_33 : decode cX10_open 33 = .ok (.invokevirtual 72, 3) := by decide +kernel
theorem dX10_open_36 : decode cX10_open 36 = .ok (.aload_n 0, 1) := by decide +kernel
theorem dX10_open_37 : decode cX10_open 37 = .ok (.getfield 27, 3) := by decide +kernel
theorem dX10_open_40 : decode cX10_open 40 = .ok (.bipush 15, 2) := by decide +kernel
theorem dX10_open_42 : decode cX10_open 42 = .ok (.laload, 1) := by decide +kernel
theorem dX10_open_43 : decode cX10_open 43 = .ok (.bipush 63, 2) := by decide +kernel
theorem dX10_open_45 : decode cX10_open 45 = .ok (.lushr, 1) := by decide +kernel
theorem dX10_open_46 : decode cX10_open 46 = .ok (.lstore_n 3, 1) := by decide +kernel
theorem dX10_open_47 : decode cX10_open 47 = .ok (.aload_n 0, 1) := by decide +kernel
theorem dX10_open_48 : decode cX10_open 48 = .ok (.getfield 27, 3) := by decide +kernel
theorem dX10_open_51 : decode cX10_open 51 = .ok (.bipush 15, 2) := by decide +kernel
theorem dX10_open_53 : decode cX10_open 53 = .ok (.dup2, 1) := by decide +kernel
theorem dX10_open_54 : decode cX10_open 54 = .ok (.laload, 1) := by decide +kernel
theorem dX10_open_55 : decode cX10_open 55 = .ok (.ldc2_w 70, 3) := by decide +kernel
theorem dX10_open_58 : decode cX10_open 58 = .ok (.land, 1) := by decide +kernel
theorem dX10_open_59 : decode cX10_open 59 = .ok (.lastore, 1) := by decide +kernel
theorem dX10_open_60 : decode cX10_open 60 = .ok (.aload_n 0, 1) := by decide +kernel
theorem dX10_open_61 : decode cX10_open 61 = .ok (.bipush 12, 2) := by decide +kernel
theorem dX10_open_63 : decode cX10_open 63 = .ok (.bipush 36, 2) := by decide +kernel
theorem dX10_open_65 : decode cX10_open 65 = .ok (.invokevirtual 161, 3) := by decide +kernel
theorem dX10_open_68 : decode cX10_open 68 = .ok (.ifCond .lt 5, 3) := by decide +kernel
theorem dX10_open_71 : decode cX10_open 71 = .ok (.iconst 0, 1) := by decide +kernel
theorem dX10_open_72 : decode cX10_open 72 = .ok (.ireturn, 1) := by decide +kernel
theorem dX10_open_73 : decode cX10_open 73 = .ok (.aload_n 0, 1) := by decide +kernel
theorem dX10_open_74 : decode cX10_open 74 = .ok (.iload_n 1, 1) := by decide +kernel
theorem dX10_open_75 : decode cX10_open 75 = .ok (.iconst 1, 1) := by decide +kernel
theorem dX10_open_76 : decode cX10_open 76 = .ok (.iadd, 1) := by decide +kernel
theorem dX10_open_77 : decode cX10_open 77 = .ok (.bipush 12, 2) := by decide +kernel
theorem dX10_open_79 : decode cX10_open 79 = .ok (.invokevirtual 181, 3) := by decide +kernel
theorem dX10_open_82 : decode cX10_open 82 = .ok (.aload_n 0, 1) := by decide +kernel
theorem dX10_open_83 : decode cX10_open 83 = .ok (.bipush 41, 2) := by decide +kernel
theorem dX10_open_85 : decode cX10_open 85 = .ok (.iload_n 1, 1) := by decide +kernel
theorem dX10_open_86 : decode cX10_open 86 = .ok (.iconst 1, 1) := by decide +kernel
theorem dX10_open_87 : decode cX10_open 87 = .ok (.iadd, 1) := by decide +kernel
theorem dX10_open_88 : decode cX10_open 88 = .ok (.iload_n 1, 1) := by decide +kernel
theorem dX10_open_89 : decode cX10_open 89 = .ok (.iconst 1, 1) := by decide +kernel
theorem dX10_open_90 : decode cX10_open 90 = .ok (.iadd, 1) := by decide +kernel
theorem dX10_open_91 : decode cX10_open 91 = .ok (.invokevirtual 107, 3) := by decide +kernel
theorem dX10_open_94 : decode cX10_open 94 = .ok (.aload_n 0, 1) := by decide +kernel
theorem dX10_open_95 : decode cX10_open 95 = .ok (.bipush 42, 2) := by decide +kernel
theorem dX10_open_97 : decode cX10_open 97 = .ok (.bipush 41, 2) := by decide +kernel
theorem dX10_open_99 : decode cX10_open 99 = .ok (.iconst 2, 1) := by decide +kernel
theorem dX10_open_100 : decode cX10_open 100 = .ok (.invokevirtual 107, 3) := by decide +kernel
theorem dX10_open_103 : decode cX10_open 103 = .ok (.aload_n 0, 1) := by decide +kernel
theorem dX10_open_104 : decode cX10_open 104 = .ok (.bipush 42, 2) := by decide +kernel
theorem dX10_open_106 : decode cX10_open 106 = .ok (.bipush 42, 2) := by decide +kernel
theorem dX10_open_108 : decode cX10_open 108 = .ok (.iconst 1, 1) := by decide +kernel
theorem dX10_open_109 : decode cX10_open 109 = .ok (.invokevirtual 110, 3) := by decide +kernel
theorem dX10_open_112 : decode cX10_open 112 = .ok (.aload_n 0, 1) := by decide +kernel
theorem dX10_open_113 : decode cX10_open 113 = .ok (.bipush 43, 2) := by decide +kernel
theorem dX10_open_115 : decode cX10_open 115 = .ok (.bipush 41, 2) := by decide +kernel
theorem dX10_open_117 : decode cX10_open 117 = .ok (.iconst 1, 1) := by decide +kernel
theorem dX10_open_118 : decode cX10_open 118 = .ok (.invokevirtual 98, 3) := by decide +kernel
theorem dX10_open_121 : decode cX10_open 121 = .ok (.aload_n 0, 1) := by decide +kernel
theorem dX10_open_122 : decode cX10_open 122 = .ok (.bipush 41, 2) := by decide +kernel
theorem dX10_open_124 : decode cX10_open 124 = .ok (.bipush 42, 2) := by decide +kernel
theorem dX10_open_126 : decode cX10_open 126 = .ok (.invokevirtual 103, 3) := by decide +kernel
theorem dX10_open_129 : decode cX10_open 129 = .ok (.aload_n 0, 1) := by decide +kernel
theorem dX10_open_130 : decode cX10_open 130 = .ok (.bipush 43, 2) := by decide +kernel
theorem dX10_open_132 : decode cX10_open 132 = .ok (.bipush 43, 2) := by decide +kernel
theorem dX10_open_134 : decode cX10_open 134 = .ok (.bipush 41, 2) := by decide +kernel
theorem dX10_open_136 : decode cX10_open 136 = .ok (.invokevirtual 107, 3) := by decide +kernel
theorem dX10_open_139 : decode cX10_open 139 = .ok (.aload_n 0, 1) := by decide +kernel
theorem dX10_open_140 : decode cX10_open 140 = .ok (.iload_n 1, 1) := by decide +kernel
theorem dX10_open_141 : decode cX10_open 141 = .ok (.bipush 43, 2) := by decide +kernel
theorem dX10_open_143 : decode cX10_open 143 = .ok (.invokevirtual 184, 3) := by decide +kernel
theorem dX10_open_146 : decode cX10_open 146 = .ok (.ifCond .ne 5, 3) := by decide +kernel
theorem dX10_open_149 : decode cX10_open 149 = .ok (.iconst 0, 1) := by decide +kernel
theorem dX10_open_150 : decode cX10_open 150 = .ok (.ireturn, 1) := by decide +kernel
theorem dX10_open_151 : decode cX10_open 151 = .ok (.aload_n 0, 1) := by decide +kernel
theorem dX10_open_152 : decode cX10_open 152 = .ok (.iload_n 1, 1) := by decide +kernel
theorem dX10_open_153 : decode cX10_open 153 = .ok (.iconst 0, 1) := by decide +kernel
theorem dX10_open_154 : decode cX10_open 154 = .ok (.invokevirtual 168, 3) := by decide +kernel
theorem dX10_open_157 : decode cX10_open 157 = .ok (.ifCond .eq 11, 3) := by decide +kernel
theorem dX10_open_160 : decode cX10_open 160 = .ok (.lload_n 3, 1) := by decide +kernel
theorem dX10_open_161 : decode cX10_open 161 = .ok (.lconst 1, 1) := by decide +kernel
theorem dX10_open_162 : decode cX10_open 162 = .ok (.lcmp, 1) := by decide +kernel
theorem dX10_open_163 : decode cX10_open 163 = .ok (.ifCond .ne 5, 3) := by decide +kernel
theorem dX10_open_166 : decode cX10_open 166 = .ok (.iconst 0, 1) := by decide +kernel
theorem dX10_open_167 : decode cX10_open 167 = .ok (.ireturn, 1) := by decide +kernel
theorem dX10_open_168 : decode cX10_open 168 = .ok (.aload_n 0, 1) := by decide +kernel
theorem dX10_open_169 : decode cX10_open 169 = .ok (.iload_n 1, 1) := by decide +kernel
theorem dX10_open_170 : decode cX10_open 170 = .ok (.invokevirtual 177, 3) := by decide +kernel
theorem dX10_open_173 : decode cX10_open 173 = .ok (.i2l, 1) := by decide +kernel
theorem dX10_open_174 : decode cX10_open 174 = .ok (.lload_n 3, 1) := by decide +kernel
theorem dX10_open_175 : decode cX10_open 175 = .ok (.lcmp, 1) := by decide +kernel
theorem dX10_open_176 : decode cX10_open 176 = .ok (.ifCond .eq 15, 3) := by decide +kernel
theorem dX10_open_179 : decode cX10_open 179 = .ok (.aload_n 0, 1) := by decide +kernel
theorem dX10_open_180 : decode cX10_open 180 = .ok (.iload_n 1, 1) := by decide +kernel
theorem dX10_open_181 : decode cX10_open 181 = .ok (.iconst 0, 1) := by decide +kernel
theorem dX10_open_182 : decode cX10_open 182 = .ok (.iload_n 1, 1) := by decide +kernel
theorem dX10_open_183 : decode cX10_open 183 = .ok (.invokevirtual 98, 3) := by decide +kernel
theorem dX10_open_186 : decode cX10_open 186 = .ok (.aload_n 0, 1) := by decide +kernel
theorem dX10_open_187 : decode cX10_open 187 = .ok (.iload_n 1, 1) := by decide +kernel
theorem dX10_open_188 : decode cX10_open 188 = .ok (.invokevirtual 113, 3) := by decide +kernel
theorem dX10_open_191 : decode cX10_open 191 = .ok (.aload_n 0, 1) := by decide +kernel
theorem dX10_open_192 : decode cX10_open 192 = .ok (.iload_n 1, 1) := by decide +kernel
theorem dX10_open_193 : decode cX10_open 193 = .ok (.iconst 2, 1) := by decide +kernel
theorem dX10_open_194 : decode cX10_open 194 = .ok (.iadd, 1) := by decide +kernel
theorem dX10_open_195 : decode cX10_open 195 = .ok (.lconst 1, 1) := by decide +kernel
theorem dX10_open_196 : decode cX10_open 196 = .ok (.invokevirtual 82, 3) := by decide +kernel
theorem dX10_open_199 : decode cX10_open 199 = .ok (.aload_n 0, 1) := by decide +kernel
theorem dX10_open_200 : decode cX10_open 200 = .ok (.iload_n 1, 1) := by decide +kernel
theorem dX10_open_201 : decode cX10_open 201 = .ok (.iconst 3, 1) := by decide +kernel
theorem dX10_open_202 : decode cX10_open 202 = .ok (.iadd, 1) := by decide +kernel
theorem dX10_open_203 : decode cX10_open 203 = .ok (.iload_n 1, 1) := by decide +kernel
theorem dX10_open_204 : decode cX10_open 204 = .ok (.iload_n 1, 1) := by decide +kernel
theorem dX10_open_205 : decode cX10_open 205 = .ok (.iconst 1, 1) := by decide +kernel
theorem dX10_open_206 : decode cX10_open 206 = .ok (.iadd, 1) := by decide +kernel
theorem dX10_open_207 : decode cX10_open 207 = .ok (.invokevirtual 107, 3) := by decide +kernel
theorem dX10_open_210 : decode cX10_open 210 = .ok (.iconst 1, 1) := by decide +kernel
theorem dX10_open_211 : decode cX10_open 211 = .ok (.ireturn, 1) := by decide +kernel
theorem dX10_isNeutral_0 : decode cX10_isNeutral 0 = .ok (.aload_n 0, 1) := by decide +kernel
theorem dX10_isNeutral_1 : decode cX10_isNeutral 1 = .ok (.iload_n 1, 1) := by decide +kernel
theorem dX10_isNeutral_2 : decode cX10_isNeutral 2 = .ok (.iconst 0, 1) := by decide +kernel
theorem dX10_isNeutral_3 : decode cX10_isNeutral 3 = .ok (.invokevirtual 168, 3) := by decide +kernel
theorem dX10_isNeutral_6 : decode cX10_isNeutral 6 = .ok (.ifCond .eq 20, 3) := by decide +kernel
theorem dX10_isNeutral_9 : decode cX10_isNeutral 9 = .ok (.aload_n 0, 1) := by decide +kernel
theorem dX10_isNeutral_10 : decode cX10_isNeutral 10 = .ok (.iload_n 1, 1) := by decide +kernel
theorem dX10_isNeutral_11 : decode cX10_isNeutral 11 = .ok (.iconst 1, 1) := by decide +kernel
theorem dX10_isNeutral_12 : decode cX10_isNeutral 12 = .ok (.iadd, 1) := by decide +kernel
theorem dX10_isNeutral_13 : decode cX10_isNeutral 13 = .ok (.iload_n 1, 1) := by decide +kernel
theorem dX10_isNeutral_14 : decode cX10_isNeutral 14 = .ok (.iconst 2, 1) := by decide +kernel
theorem dX10_isNeutral_15 : decode cX10_isNeutral 15 = .ok (.iadd, 1) := by decide +kernel
theorem dX10_isNeutral_16 : decode cX10_isNeutral 16 = .ok (.invokevirtual 168, 3) := by decide +kernel
theorem dX10_isNeutral_19 : decode cX10_isNeutral 19 = .ok (.ifCond .eq 7, 3) := by decide +kernel
theorem dX10_isNeutral_22 : decode cX10_isNeutral 22 = .ok (.iconst 1, 1) := by decide +kernel
theorem dX10_isNeutral_23 : decode cX10_isNeutral 23 = .ok (.goto 4, 3) := by decide +kernel
theorem dX10_isNeutral_26 : decode cX10_isNeutral 26 = .ok (.iconst 0, 1) := by decide +kernel
theorem dX10_isNeutral_27 : decode cX10_isNeutral 27 = .ok (.ireturn, 1) := by decide +kernel
theorem dX10_isPrime_0 : decode cX10_isPrime 0 = .ok (.iconst 1, 1) := by decide +kernel
theorem dX10_isPrime_1 : decode cX10_isPrime 1 = .ok (.istore_n 1, 1) := by decide +kernel
theorem dX10_isPrime_2 : decode cX10_isPrime 2 = .ok (.iconst 2, 1) := by decide +kernel
theorem dX10_isPrime_3 : decode cX10_isPrime 3 = .ok (.istore_n 2, 1) := by decide +kernel
theorem dX10_isPrime_4 : decode cX10_isPrime 4 = .ok (.iload_n 2, 1) := by decide +kernel
theorem dX10_isPrime_5 : decode cX10_isPrime 5 = .ok (.iload_n 2, 1) := by decide +kernel
theorem dX10_isPrime_6 : decode cX10_isPrime 6 = .ok (.imul, 1) := by decide +kernel
theorem dX10_isPrime_7 : decode cX10_isPrime 7 = .ok (.iload_n 0, 1) := by decide +kernel
theorem dX10_isPrime_8 : decode cX10_isPrime 8 = .ok (.if_icmp .gt 25, 3) := by decide +kernel
theorem dX10_isPrime_11 : decode cX10_isPrime 11 = .ok (.iload_n 1, 1) := by decide +kernel
theorem dX10_isPrime_12 : decode cX10_isPrime 12 = .ok (.ifCond .eq 13, 3) := by decide +kernel
theorem dX10_isPrime_15 : decode cX10_isPrime 15 = .ok (.iload_n 0, 1) := by decide +kernel
theorem dX10_isPrime_16 : decode cX10_isPrime 16 = .ok (.iload_n 2, 1) := by decide +kernel
theorem dX10_isPrime_17 : decode cX10_isPrime 17 = .ok (.irem, 1) := by decide +kernel
theorem dX10_isPrime_18 : decode cX10_isPrime 18 = .ok (.ifCond .eq 7, 3) := by decide +kernel
theorem dX10_isPrime_21 : decode cX10_isPrime 21 = .ok (.iconst 1, 1) := by decide +kernel
theorem dX10_isPrime_22 : decode cX10_isPrime 22 = .ok (.goto 4, 3) := by decide +kernel
theorem dX10_isPrime_25 : decode cX10_isPrime 25 = .ok (.iconst 0, 1) := by decide +kernel
theorem dX10_isPrime_26 : decode cX10_isPrime 26 = .ok (.istore_n 1, 1) := by decide +kernel
theorem dX10_isPrime_27 : decode cX10_isPrime 27 = .ok (.iinc 2 1, 3) := by decide +kernel
theorem dX10_isPrime_30 : decode cX10_isPrime 30 = .ok (.goto (-26), 3) := by decide +kernel
theorem dX10_isPrime_33 : decode cX10_isPrime 33 = .ok (.iload_n 1, 1) := by decide +kernel
theorem dX10_isPrime_34 : decode cX10_isPrime 34 = .ok (.ireturn, 1) := by decide +kernel
theorem dX10_powers_0 : decode cX10_powers 0 = .ok (.iconst 0, 1) := by decide +kernel
theorem dX10_powers_1 : decode cX10_powers 1 = .ok (.istore_n 1, 1) := by decide +kernel
theorem dX10_powers_2 : decode cX10_powers 2 = .ok (.iload_n 1, 1) := by decide +kernel
theorem dX10_powers_3 : decode cX10_powers 3 = .ok (.bipush 18, 2) := by decide +kernel
theorem dX10_powers_5 : decode cX10_powers 5 = .ok (.if_icmp .ge 16, 3) := by decide +kernel
theorem dX10_powers_8 : decode cX10_powers 8 = .ok (.aload_n 0, 1) := by decide +kernel
theorem dX10_powers_9 : decode cX10_powers 9 = .ok (.getfield 42, 3) := by decide +kernel
theorem dX10_powers_12 : decode cX10_powers 12 = .ok (.iload_n 1, 1) := by decide +kernel
theorem dX10_powers_13 : decode cX10_powers 13 = .ok (.lconst 0, 1) := by decide +kernel
theorem dX10_powers_14 : decode cX10_powers 14 = .ok (.lastore, 1) := by decide +kernel
theorem dX10_powers_15 : decode cX10_powers 15 = .ok (.iinc 1 1, 3) := by decide +kernel
theorem dX10_powers_18 : decode cX10_powers 18 = .ok (.goto (-16), 3) := by decide +kernel
theorem dX10_powers_21 : decode cX10_powers 21 = .ok (.iconst 0, 1) := by decide +kernel
theorem dX10_powers_22 : decode cX10_powers 22 = .ok (.istore_n 1, 1) := by decide +kernel
theorem dX10_powers_23 : decode cX10_powers 23 = .ok (.iload_n 1, 1) := by decide +kernel
theorem dX10_powers_24 : decode cX10_powers 24 = .ok (.bipush 12, 2) := by decide +kernel
theorem dX10_powers_26 : decode cX10_powers 26 = .ok (.if_icmp .ge 16, 3) := by decide +kernel
theorem dX10_powers_29 : decode cX10_powers 29 = .ok (.aload_n 0, 1) := by decide +kernel
theorem dX10_powers_30 : decode cX10_powers 30 = .ok (.getfield 39, 3) := by decide +kernel
theorem dX10_powers_33 : decode cX10_powers 33 = .ok (.iload_n 1, 1) := by decide +kernel
theorem dX10_powers_34 : decode cX10_powers 34 = .ok (.lconst 0, 1) := by decide +kernel
theorem dX10_powers_35 : decode cX10_powers 35 = .ok (.lastore, 1) := by decide +kernel
theorem dX10_powers_36 : decode cX10_powers 36 = .ok (.iinc 1 1, 3) := by decide +kernel
theorem dX10_powers_39 : decode cX10_powers 39 = .ok (.goto (-16), 3) := by decide +kernel
theorem dX10_powers_42 : decode cX10_powers 42 = .ok (.iconst 0, 1) := by decide +kernel
theorem dX10_powers_43 : decode cX10_powers 43 = .ok (.istore_n 1, 1) := by decide +kernel
theorem dX10_powers_44 : decode cX10_powers 44 = .ok (.iload_n 1, 1) := by decide +kernel
theorem dX10_powers_45 : decode cX10_powers 45 = .ok (.iconst 5, 1) := by decide +kernel
theorem dX10_powers_46 : decode cX10_powers 46 = .ok (.if_icmp .ge 46, 3) := by decide +kernel
theorem dX10_powers_49 : decode cX10_powers 49 = .ok (.iconst 0, 1) := by decide +kernel
theorem dX10_powers_50 : decode cX10_powers 50 = .ok (.istore_n 2, 1) := by decide +kernel
theorem dX10_powers_51 : decode cX10_powers 51 = .ok (.iload_n 2, 1) := by decide +kernel
theorem dX10_powers_52 : decode cX10_powers 52 = .ok (.iconst 5, 1) := by decide +kernel
theorem dX10_powers_53 : decode cX10_powers 53 = .ok (.if_icmp .ge 33, 3) := by decide +kernel
theorem dX10_powers_56 : decode cX10_powers 56 = .ok (.aload_n 0, 1) := by decide +kernel
theorem dX10_powers_57 : decode cX10_powers 57 = .ok (.getfield 39, 3) := by decide +kernel
theorem dX10_powers_60 : decode cX10_powers 60 = .ok (.iload_n 1, 1) := by decide +kernel
theorem dX10_powers_61 : decode cX10_powers 61 = .ok (.iload_n 2, 1) := by decide +kernel
theorem dX10_powers_62 : decode cX10_powers 62 = .ok (.iadd, 1) := by decide +kernel
theorem dX10_powers_63 : decode cX10_powers 63 = .ok (.dup2, 1) := by decide +kernel
theorem dX10_powers_64 : decode cX10_powers 64 = .ok (.laload, 1) := by decide +kernel
theorem dX10_powers_65 : decode cX10_powers 65 = .ok (.aload_n 0, 1) := by decide +kernel
theorem dX10_powers_66 : decode cX10_powers 66 = .ok (.getfield 36, 3) := by decide +kernel
theorem dX10_powers_69 : decode cX10_powers 69 = .ok (.iload_n 1, 1) := by decide +kernel
theorem dX10_powers_70 : decode cX10_powers 70 = .ok (.laload, 1) := by decide +kernel
theorem dX10_powers_71 : decode cX10_powers 71 = .ok (.aload_n 0, 1) := by decide +kernel
theorem dX10_powers_72 : decode cX10_powers 72 = .ok (.getfield 36, 3) := by decide +kernel
theorem dX10_powers_75 : decode cX10_powers 75 = .ok (.iload_n 2, 1) := by decide +kernel
theorem dX10_powers_76 : decode cX10_powers 76 = .ok (.laload, 1) := by decide +kernel
theorem dX10_powers_77 : decode cX10_powers 77 = .ok (.lmul, 1) := by decide +kernel
theorem dX10_powers_78 : decode cX10_powers 78 = .ok (.ladd, 1) := by decide +kernel
theorem dX10_powers_79 : decode cX10_powers 79 = .ok (.lastore, 1) := by decide +kernel
theorem dX10_powers_80 : decode cX10_powers 80 = .ok (.iinc 2 1, 3) := by decide +kernel
theorem dX10_powers_83 : decode cX10_powers 83 = .ok (.goto (-32), 3) := by decide +kernel
theorem dX10_powers_86 : decode cX10_powers 86 = .ok (.iinc 1 1, 3) := by decide +kernel
theorem dX10_powers_89 : decode cX10_powers 89 = .ok (.goto (-45), 3) := by decide +kernel
theorem dX10_powers_92 : decode cX10_powers 92 = .ok (.iconst 0, 1) := by decide +kernel
theorem dX10_powers_93 : decode cX10_powers 93 = .ok (.istore_n 1, 1) := by decide +kernel
theorem dX10_powers_94 : decode cX10_powers 94 = .ok (.iload_n 1, 1) := by decide +kernel
theorem dX10_powers_95 : decode cX10_powers 95 = .ok (.bipush 11, 2) := by decide +kernel
theorem dX10_powers_97 : decode cX10_powers 97 = .ok (.if_icmp .ge 41, 3) := by decide +kernel
theorem dX10_powers_100 : decode cX10_powers 100 = .ok (.aload_n 0, 1) := by decide +kernel
theorem dX10_powers_101 : decode cX10_powers 101 = .ok (.getfield 39, 3) := by decide +kernel
theorem dX10_powers_104 : decode cX10_powers 104 = .ok (.iload_n 1, 1) := by decide +kernel
theorem dX10_powers_105 : decode cX10_powers 105 = .ok (.iconst 1, 1) := by decide +kernel
theorem dX10_powers_106 : decode cX10_powers 106 = .ok (.iadd, 1) := by decide +kernel
theorem dX10_powers_107 : decode cX10_powers 107 = .ok (.dup2, 1) := by decide +kernel
theorem dX10_powers_108 : decode cX10_powers 108 = .ok (.laload, 1) := by decide +kernel
theorem dX10_powers_109 : decode cX10_powers 109 = .ok (.aload_n 0, 1) := by decide +kernel
theorem dX10_powers_110 : decode cX10_powers 110 = .ok (.getfield 39, 3) := by decide +kernel
theorem dX10_powers_113 : decode cX10_powers 113 = .ok (.iload_n 1, 1) := by decide +kernel
theorem dX10_powers_114 : decode cX10_powers 114 = .ok (.laload, 1) := by decide +kernel
theorem dX10_powers_115 : decode cX10_powers 115 = .ok (.bipush 16, 2) := by decide +kernel
theorem dX10_powers_117 : decode cX10_powers 117 = .ok (.lshr, 1) := by decide +kernel
theorem dX10_powers_118 : decode cX10_powers 118 = .ok (.ladd, 1) := by decide +kernel
theorem dX10_powers_119 : decode cX10_powers 119 = .ok (.lastore, 1) := by decide +kernel
theorem dX10_powers_120 : decode cX10_powers 120 = .ok (.aload_n 0, 1) := by decide +kernel
theorem dX10_powers_121 : decode cX10_powers 121 = .ok (.getfield 39, 3) := by decide +kernel
theorem dX10_powers_124 : decode cX10_powers 124 = .ok (.iload_n 1, 1) := by decide +kernel
theorem dX10_powers_125 : decode cX10_powers 125 = .ok (.dup2, 1) := by decide +kernel
theorem dX10_powers_126 : decode cX10_powers 126 = .ok (.laload, 1) := by decide +kernel
theorem dX10_powers_127 : decode cX10_powers 127 = .ok (.ldc2_w 141, 3) := by decide +kernel
theorem dX10_powers_130 : decode cX10_powers 130 = .ok (.land, 1) := by decide +kernel
theorem dX10_powers_131 : decode cX10_powers 131 = .ok (.lastore, 1) := by decide +kernel
theorem dX10_powers_132 : decode cX10_powers 132 = .ok (.iinc 1 1, 3) := by decide +kernel
theorem dX10_powers_135 : decode cX10_powers 135 = .ok (.goto (-41), 3) := by decide +kernel
theorem dX10_powers_138 : decode cX10_powers 138 = .ok (.iconst 0, 1) := by decide +kernel
theorem dX10_powers_139 : decode cX10_powers 139 = .ok (.istore_n 1, 1) := by decide +kernel
theorem dX10_powers_140 : decode cX10_powers 140 = .ok (.iload_n 1, 1) := by decide +kernel
theorem dX10_powers_141 : decode cX10_powers 141 = .ok (.bipush 11, 2) := by decide +kernel
theorem dX10_powers_143 : decode cX10_powers 143 = .ok (.if_icmp .ge 46, 3) := by decide +kernel
theorem dX10_powers_146 : decode cX10_powers 146 = .ok (.iconst 0, 1) := by decide +kernel
theorem dX10_powers_147 : decode cX10_powers 147 = .ok (.istore_n 2, 1) := by decide +kernel
theorem dX10_powers_148 : decode cX10_powers 148 = .ok (.iload_n 2, 1) := by decide +kernel
theorem dX10_powers_149 : decode cX10_powers 149 = .ok (.iconst 5, 1) := by decide +kernel
theorem dX10_powers_150 : decode cX10_powers 150 = .ok (.if_icmp .ge 33, 3) := by decide +kernel
theorem dX10_powers_153 : decode cX10_powers 153 = .ok (.aload_n 0, 1) := by decide +kernel
theorem dX10_powers_154 : decode cX10_powers 154 = .ok (.getfield 42, 3) := by decide +kernel
theorem dX10_powers_157 : decode cX10_powers 157 = .ok (.iload_n 1, 1) := by decide +kernel
theorem dX10_powers_158 : decode cX10_powers 158 = .ok (.iload_n 2, 1) := by decide +kernel
theorem dX10_powers_159 : decode cX10_powers 159 = .ok (.iadd, 1) := by decide +kernel
theorem dX10_powers_160 : decode cX10_powers 160 = .ok (.dup2, 1) := by decide +kernel
theorem dX10_powers_161 : decode cX10_powers 161 = .ok (.laload, 1) := by decide +kernel
theorem dX10_powers_162 : decode cX10_powers 162 = .ok (.aload_n 0, 1) := by decide +kernel
theorem dX10_powers_163 : decode cX10_powers 163 = .ok (.getfield 39, 3) := by decide +kernel
theorem dX10_powers_166 : decode cX10_powers 166 = .ok (.iload_n 1, 1) := by decide +kernel
theorem dX10_powers_167 : decode cX10_powers 167 = .ok (.laload, 1) := by decide +kernel
theorem dX10_powers_168 : decode cX10_powers 168 = .ok (.aload_n 0, 1) := by decide +kernel
theorem dX10_powers_169 : decode cX10_powers 169 = .ok (.getfield 36, 3) := by decide +kernel
theorem dX10_powers_172 : decode cX10_powers 172 = .ok (.iload_n 2, 1) := by decide +kernel
theorem dX10_powers_173 : decode cX10_powers 173 = .ok (.laload, 1) := by decide +kernel
theorem dX10_powers_174 : decode cX10_powers 174 = .ok (.lmul, 1) := by decide +kernel
theorem dX10_powers_175 : decode cX10_powers 175 = .ok (.ladd, 1) := by decide +kernel
theorem dX10_powers_176 : decode cX10_powers 176 = .ok (.lastore, 1) := by decide +kernel
theorem dX10_powers_177 : decode cX10_powers 177 = .ok (.iinc 2 1, 3) := by decide +kernel
theorem dX10_powers_180 : decode cX10_powers 180 = .ok (.goto (-32), 3) := by decide +kernel
theorem dX10_powers_183 : decode cX10_powers 183 = .ok (.iinc 1 1, 3) := by decide +kernel
theorem dX10_powers_186 : decode cX10_powers 186 = .ok (.goto (-46), 3) := by decide +kernel
theorem dX10_powers_189 : decode cX10_powers 189 = .ok (.iconst 0, 1) := by decide +kernel
theorem dX10_powers_190 : decode cX10_powers 190 = .ok (.istore_n 1, 1) := by decide +kernel
theorem dX10_powers_191 : decode cX10_powers 191 = .ok (.iload_n 1, 1) := by decide +kernel
theorem dX10_powers_192 : decode cX10_powers 192 = .ok (.bipush 17, 2) := by decide +kernel
theorem dX10_powers_194 : decode cX10_powers 194 = .ok (.if_icmp .ge 41, 3) := by decide +kernel
theorem dX10_powers_197 : decode cX10_powers 197 = .ok (.aload_n 0, 1) := by decide +kernel
theorem dX10_powers_198 : decode cX10_powers 198 = .ok (.getfield 42, 3) := by decide +kernel
theorem dX10_powers_201 : decode cX10_powers 201 = .ok (.iload_n 1, 1) := by decide +kernel
theorem dX10_powers_202 : decode cX10_powers 202 = .ok (.iconst 1, 1) := by decide +kernel
theorem dX10_powers_203 : decode cX10_powers 203 = .ok (.iadd, 1) := by decide +kernel
theorem dX10_powers_204 : decode cX10_powers 204 = .ok (.dup2, 1) := by decide +kernel
theorem dX10_powers_205 : decode cX10_powers 205 = .ok (.laload, 1) := by decide +kernel
theorem dX10_powers_206 : decode cX10_powers 206 = .ok (.aload_n 0, 1) := by decide +kernel
theorem dX10_powers_207 : decode cX10_powers 207 = .ok (.getfield 42, 3) := by decide +kernel
theorem dX10_powers_210 : decode cX10_powers 210 = .ok (.iload_n 1, 1) := by decide +kernel
theorem dX10_powers_211 : decode cX10_powers 211 = .ok (.laload, 1) := by decide +kernel
theorem dX10_powers_212 : decode cX10_powers 212 = .ok (.bipush 16, 2) := by decide +kernel
theorem dX10_powers_214 : decode cX10_powers 214 = .ok (.lshr, 1) := by decide +kernel
theorem dX10_powers_215 : decode cX10_powers 215 = .ok (.ladd, 1) := by decide +kernel
theorem dX10_powers_216 : decode cX10_powers 216 = .ok (.lastore, 1) := by decide +kernel
theorem dX10_powers_217 : decode cX10_powers 217 = .ok (.aload_n 0, 1) := by decide +kernel
theorem dX10_powers_218 : decode cX10_powers 218 = .ok (.getfield 42, 3) := by decide +kernel
theorem dX10_powers_221 : decode cX10_powers 221 = .ok (.iload_n 1, 1) := by decide +kernel
theorem dX10_powers_222 : decode cX10_powers 222 = .ok (.dup2, 1) := by decide +kernel
theorem dX10_powers_223 : decode cX10_powers 223 = .ok (.laload, 1) := by decide +kernel
theorem dX10_powers_224 : decode cX10_powers 224 = .ok (.ldc2_w 141, 3) := by decide +kernel
theorem dX10_powers_227 : decode cX10_powers 227 = .ok (.land, 1) := by decide +kernel
theorem dX10_powers_228 : decode cX10_powers 228 = .ok (.lastore, 1) := by decide +kernel
theorem dX10_powers_229 : decode cX10_powers 229 = .ok (.iinc 1 1, 3) := by decide +kernel
theorem dX10_powers_232 : decode cX10_powers 232 = .ok (.goto (-41), 3) := by decide +kernel
theorem dX10_powers_235 : decode cX10_powers 235 = .ok (.return_, 1) := by decide +kernel
theorem dX10_behindPoint_0 : decode cX10_behindPoint 0 = .ok (.iconst 0, 1) := by decide +kernel
theorem dX10_behindPoint_1 : decode cX10_behindPoint 1 = .ok (.istore_n 3, 1) := by decide +kernel
theorem dX10_behindPoint_2 : decode cX10_behindPoint 2 = .ok (.iload_n 3, 1) := by decide +kernel
theorem dX10_behindPoint_3 : decode cX10_behindPoint 3 = .ok (.bipush 6, 2) := by decide +kernel
theorem dX10_behindPoint_5 : decode cX10_behindPoint 5 = .ok (.if_icmp .ge 16, 3) := by decide +kernel
theorem dX10_behindPoint_8 : decode cX10_behindPoint 8 = .ok (.aload_n 0, 1) := by decide +kernel
theorem dX10_behindPoint_9 : decode cX10_behindPoint 9 = .ok (.getfield 36, 3) := by decide +kernel
theorem dX10_behindPoint_12 : decode cX10_behindPoint 12 = .ok (.iload_n 3, 1) := by decide +kernel
theorem dX10_behindPoint_13 : decode cX10_behindPoint 13 = .ok (.lconst 0, 1) := by decide +kernel
theorem dX10_behindPoint_14 : decode cX10_behindPoint 14 = .ok (.lastore, 1) := by decide +kernel
theorem dX10_behindPoint_15 : decode cX10_behindPoint 15 = .ok (.iinc 3 1, 3) := by decide +kernel
theorem dX10_behindPoint_18 : decode cX10_behindPoint 18 = .ok (.goto (-16), 3) := by decide +kernel
theorem dX10_behindPoint_21 : decode cX10_behindPoint 21 = .ok (.bipush 68, 2) := by decide +kernel
theorem dX10_behindPoint_23 : decode cX10_behindPoint 23 = .ok (.istore_n 3, 1) := by decide +kernel
theorem dX10_behindPoint_24 : decode cX10_behindPoint 24 = .ok (.iload_n 3, 1) := by decide +kernel
theorem dX10_behindPoint_25 : decode cX10_behindPoint 25 = .ok (.ifCond .lt 137, 3) := by decide +kernel
theorem dX10_behindPoint_28 : decode cX10_behindPoint 28 = .ok (.aload_n 0, 1) := by decide +kernel
theorem dX10_behindPoint_29 : decode cX10_behindPoint 29 = .ok (.getfield 36, 3) := by decide +kernel
theorem dX10_behindPoint_32 : decode cX10_behindPoint 32 = .ok (.iload_n 3, 1) := by decide +kernel
theorem dX10_behindPoint_33 : decode cX10_behindPoint 33 = .ok (.iconst 4, 1) := by decide +kernel
theorem dX10_behindPoint_34 : decode cX10_behindPoint 34 = .ok (.ishr, 1) := by decide +kernel
theorem dX10_behindPoint_35 : decode cX10_behindPoint 35 = .ok (.dup2, 1) := by decide +kernel
theorem dX10_behindPoint_36 : decode cX10_behindPoint 36 = .ok (.laload, 1) := by decide +kernel
theorem dX10_behindPoint_37 : decode cX10_behindPoint 37 = .ok (.lconst 1, 1) := by decide +kernel
theorem dX10_behindPoint_38 : decode cX10_behindPoint 38 = .ok (.iload_n 3, 1) := by decide +kernel
theorem dX10_behindPoint_39 : decode cX10_behindPoint 39 = .ok (.bipush 15, 2) := by decide +kernel
theorem dX10_behindPoint_41 : decode cX10_behindPoint 41 = .ok (.iand, 1) := by decide +kernel
theorem dX10_behindPoint_42 : decode cX10_behindPoint 42 = .ok (.lshl, 1) := by decide +kernel
theorem dX10_behindPoint_43 : decode cX10_behindPoint 43 = .ok (.lor, 1) := by decide +kernel
theorem dX10_behindPoint_44 : decode cX10_behindPoint 44 = .ok (.lastore, 1) := by decide +kernel
theorem dX10_behindPoint_45 : decode cX10_behindPoint 45 = .ok (.aload_n 0, 1) := by decide +kernel
theorem dX10_behindPoint_46 : decode cX10_behindPoint 46 = .ok (.invokevirtual 186, 3) := by decide +kernel
theorem dX10_behindPoint_49 : decode cX10_behindPoint 49 = .ok (.iload_n 2, 1) := by decide +kernel
theorem dX10_behindPoint_50 : decode cX10_behindPoint 50 = .ok (.ifCond .eq 46, 3) := by decide +kernel
theorem dX10_behindPoint_53 : decode cX10_behindPoint 53 = .ok (.aload_n 0, 1) := by decide +kernel
theorem dX10_behindPoint_54 : decode cX10_behindPoint 54 = .ok (.getfield 42, 3) := by decide +kernel
theorem dX10_behindPoint_57 : decode cX10_behindPoint 57 = .ok (.bipush 12, 2) := by decide +kernel
theorem dX10_behindPoint_59 : decode cX10_behindPoint 59 = .ok (.laload, 1) := by decide +kernel
theorem dX10_behindPoint_60 : decode cX10_behindPoint 60 = .ok (.aload_n 0, 1) := by decide +kernel
theorem dX10_behindPoint_61 : decode cX10_behindPoint 61 = .ok (.getfield 42, 3) := by decide +kernel
theorem dX10_behindPoint_64 : decode cX10_behindPoint 64 = .ok (.bipush 13, 2) := by decide +kernel
theorem dX10_behindPoint_66 : decode cX10_behindPoint 66 = .ok (.laload, 1) := by decide +kernel
theorem dX10_behindPoint_67 : decode cX10_behindPoint 67 = .ok (.bipush 16, 2) := by decide +kernel
theorem dX10_behindPoint_69 : decode cX10_behindPoint 69 = .ok (.lshl, 1) := by decide +kernel
theorem dX10_behindPoint_70 : decode cX10_behindPoint 70 = .ok (.ladd, 1) := by decide +kernel
theorem dX10_behindPoint_71 : decode cX10_behindPoint 71 = .ok (.aload_n 0, 1) := by decide +kernel
theorem dX10_behindPoint_72 : decode cX10_behindPoint 72 = .ok (.getfield 42, 3) := by decide +kernel
theorem dX10_behindPoint_75 : decode cX10_behindPoint 75 = .ok (.bipush 14, 2) := by decide +kernel
theorem dX10_behindPoint_77 : decode cX10_behindPoint 77 = .ok (.laload, 1) := by decide +kernel
theorem dX10_behindPoint_78 : decode cX10_behindPoint 78 = .ok (.bipush 32, 2) := by decide +kernel
theorem dX10_behindPoint_80 : decode cX10_behindPoint 80 = .ok (.lshl, 1) := by decide +kernel
theorem dX10_behindPoint_81 : decode cX10_behindPoint 81 = .ok (.ladd, 1) := by decide +kernel
theorem dX10_behindPoint_82 : decode cX10_behindPoint 82 = .ok (.aload_n 0, 1) := by decide +kernel
theorem dX10_behindPoint_83 : decode cX10_behindPoint 83 = .ok (.getfield 42, 3) := by decide +kernel
theorem dX10_behindPoint_86 : decode cX10_behindPoint 86 = .ok (.bipush 15, 2) := by decide +kernel
theorem dX10_behindPoint_88 : decode cX10_behindPoint 88 = .ok (.laload, 1) := by decide +kernel
theorem dX10_behindPoint_89 : decode cX10_behindPoint 89 = .ok (.bipush 48, 2) := by decide +kernel
theorem dX10_behindPoint_91 : decode cX10_behindPoint 91 = .ok (.lshl, 1) := by decide +kernel
theorem dX10_behindPoint_92 : decode cX10_behindPoint 92 = .ok (.ladd, 1) := by decide +kernel
theorem dX10_behindPoint_93 : decode cX10_behindPoint 93 = .ok (.goto 32, 3) := by decide +kernel
theorem dX10_behindPoint_96 : decode cX10_behindPoint 96 = .ok (.aload_n 0, 1) := by decide +kernel
theorem dX10_behindPoint_97 : decode cX10_behindPoint 97 = .ok (.getfield 39, 3) := by decide +kernel
theorem dX10_behindPoint_100 : decode cX10_behindPoint 100 = .ok (.bipush 8, 2) := by decide +kernel
theorem dX10_behindPoint_102 : decode cX10_behindPoint 102 = .ok (.laload, 1) := by decide +kernel
theorem dX10_behindPoint_103 : decode cX10_behindPoint 103 = .ok (.aload_n 0, 1) := by decide +kernel
theorem dX10_behindPoint_104 : decode cX10_behindPoint 104 = .ok (.getfield 39, 3) := by decide +kernel
theorem dX10_behindPoint_107 : decode cX10_behindPoint 107 = .ok (.bipush 9, 2) := by decide +kernel
theorem dX10_behindPoint_109 : decode cX10_behindPoint 109 = .ok (.laload, 1) := by decide +kernel
theorem dX10_behindPoint_110 : decode cX10_behindPoint 110 = .ok (.bipush 16, 2) := by decide +kernel
theorem dX10_behindPoint_112 : decode cX10_behindPoint 112 = .ok (.lshl, 1) := by decide +kernel
theorem dX10_behindPoint_113 : decode cX10_behindPoint 113 = .ok (.ladd, 1) := by decide +kernel
theorem dX10_behindPoint_114 : decode cX10_behindPoint 114 = .ok (.aload_n 0, 1) := by decide +kernel
theorem dX10_behindPoint_115 : decode cX10_behindPoint 115 = .ok (.getfield 39, 3) := by decide +kernel
theorem dX10_behindPoint_118 : decode cX10_behindPoint 118 = .ok (.bipush 10, 2) := by decide +kernel
theorem dX10_behindPoint_120 : decode cX10_behindPoint 120 = .ok (.laload, 1) := by decide +kernel
theorem dX10_behindPoint_121 : decode cX10_behindPoint 121 = .ok (.bipush 32, 2) := by decide +kernel
theorem dX10_behindPoint_123 : decode cX10_behindPoint 123 = .ok (.lshl, 1) := by decide +kernel
theorem dX10_behindPoint_124 : decode cX10_behindPoint 124 = .ok (.ladd, 1) := by decide +kernel
theorem dX10_behindPoint_125 : decode cX10_behindPoint 125 = .ok (.lstore 4, 2) := by decide +kernel
theorem dX10_behindPoint_127 : decode cX10_behindPoint 127 = .ok (.lload 4, 2) := by decide +kernel
theorem dX10_behindPoint_129 : decode cX10_behindPoint 129 = .ok (.iload_n 1, 1) := by decide +kernel
theorem dX10_behindPoint_130 : decode cX10_behindPoint 130 = .ok (.i2l, 1) := by decide +kernel
theorem dX10_behindPoint_131 : decode cX10_behindPoint 131 = .ok (.lcmp, 1) := by decide +kernel
theorem dX10_behindPoint_132 : decode cX10_behindPoint 132 = .ok (.ifCond .lt 24, 3) := by decide +kernel
theorem dX10_behindPoint_135 : decode cX10_behindPoint 135 = .ok (.aload_n 0, 1) := by decide +kernel
theorem dX10_behindPoint_136 : decode cX10_behindPoint 136 = .ok (.getfield 36, 3) := by decide +kernel
theorem dX10_behindPoint_139 : decode cX10_behindPoint 139 = .ok (.iload_n 3, 1) := by decide +kernel
theorem dX10_behindPoint_140 : decode cX10_behindPoint 140 = .ok (.iconst 4, 1) := by decide +kernel
theorem dX10_behindPoint_141 : decode cX10_behindPoint 141 = .ok (.ishr, 1) := by decide +kernel
theorem dX10_behindPoint_142 : decode cX10_behindPoint 142 = .ok (.dup2, 1) := by decide +kernel
theorem dX10_behindPoint_143 : decode cX10_behindPoint 143 = .ok (.laload, 1) := by decide +kernel
theorem dX10_behindPoint_144 : decode cX10_behindPoint 144 = .ok (.lconst 1, 1) := by decide +kernel
theorem dX10_behindPoint_145 : decode cX10_behindPoint 145 = .ok (.iload_n 3, 1) := by decide +kernel
theorem dX10_behindPoint_146 : decode cX10_behindPoint 146 = .ok (.bipush 15, 2) := by decide +kernel
theorem dX10_behindPoint_148 : decode cX10_behindPoint 148 = .ok (.iand, 1) := by decide +kernel
theorem dX10_behindPoint_149 : decode cX10_behindPoint 149 = .ok (.lshl, 1) := by decide +kernel
theorem dX10_behindPoint_150 : decode cX10_behindPoint 150 = .ok (.ldc2_w 68, 3) := by decide +kernel
theorem dX10_behindPoint_153 : decode cX10_behindPoint 153 = .ok (.lxor, 1) := by decide +kernel
theorem dX10_behindPoint_154 : decode cX10_behindPoint 154 = .ok (.land, 1) := by decide +kernel
theorem dX10_behindPoint_155 : decode cX10_behindPoint 155 = .ok (.lastore, 1) := by decide +kernel
theorem dX10_behindPoint_156 : decode cX10_behindPoint 156 = .ok (.iinc 3 (-1), 3) := by decide +kernel
theorem dX10_behindPoint_159 : decode cX10_behindPoint 159 = .ok (.goto (-135), 3) := by decide +kernel
theorem dX10_behindPoint_162 : decode cX10_behindPoint 162 = .ok (.aload_n 0, 1) := by decide +kernel
theorem dX10_behindPoint_163 : decode cX10_behindPoint 163 = .ok (.getfield 36, 3) := by decide +kernel
theorem dX10_behindPoint_166 : decode cX10_behindPoint 166 = .ok (.iconst 0, 1) := by decide +kernel
theorem dX10_behindPoint_167 : decode cX10_behindPoint 167 = .ok (.laload, 1) := by decide +kernel
theorem dX10_behindPoint_168 : decode cX10_behindPoint 168 = .ok (.aload_n 0, 1) := by decide +kernel
theorem dX10_behindPoint_169 : decode cX10_behindPoint 169 = .ok (.getfield 36, 3) := by decide +kernel
theorem dX10_behindPoint_172 : decode cX10_behindPoint 172 = .ok (.iconst 1, 1) := by decide +kernel
theorem dX10_behindPoint_173 : decode cX10_behindPoint 173 = .ok (.laload, 1) := by decide +kernel
theorem dX10_behindPoint_174 : decode cX10_behindPoint 174 = .ok (.bipush 16, 2) := by decide +kernel
theorem dX10_behindPoint_176 : decode cX10_behindPoint 176 = .ok (.lshl, 1) := by decide +kernel
theorem dX10_behindPoint_177 : decode cX10_behindPoint 177 = .ok (.lor, 1) := by decide +kernel
theorem dX10_behindPoint_178 : decode cX10_behindPoint 178 = .ok (.aload_n 0, 1) := by decide +kernel
theorem dX10_behindPoint_179 : decode cX10_behindPoint 179 = .ok (.getfield 36, 3) := by decide +kernel
theorem dX10_behindPoint_182 : decode cX10_behindPoint 182 = .ok (.iconst 2, 1) := by decide +kernel
theorem dX10_behindPoint_183 : decode cX10_behindPoint 183 = .ok (.laload, 1) := by decide +kernel
theorem dX10_behindPoint_184 : decode cX10_behindPoint 184 = .ok (.bipush 32, 2) := by decide +kernel
theorem dX10_behindPoint_186 : decode cX10_behindPoint 186 = .ok (.lshl, 1) := by decide +kernel
theorem dX10_behindPoint_187 : decode cX10_behindPoint 187 = .ok (.lor, 1) := by decide +kernel
theorem dX10_behindPoint_188 : decode cX10_behindPoint 188 = .ok (.aload_n 0, 1) := by decide +kernel
theorem dX10_behindPoint_189 : decode cX10_behindPoint 189 = .ok (.getfield 36, 3) := by decide +kernel
theorem dX10_behindPoint_192 : decode cX10_behindPoint 192 = .ok (.iconst 3, 1) := by decide +kernel
theorem dX10_behindPoint_193 : decode cX10_behindPoint 193 = .ok (.laload, 1) := by decide +kernel
theorem dX10_behindPoint_194 : decode cX10_behindPoint 194 = .ok (.bipush 48, 2) := by decide +kernel
theorem dX10_behindPoint_196 : decode cX10_behindPoint 196 = .ok (.lshl, 1) := by decide +kernel
theorem dX10_behindPoint_197 : decode cX10_behindPoint 197 = .ok (.lor, 1) := by decide +kernel
theorem dX10_behindPoint_198 : decode cX10_behindPoint 198 = .ok (.lreturn, 1) := by decide +kernel
theorem dX10_roots__0 : decode cX10_roots_ 0 = .ok (.iconst 0, 1) := by decide +kernel
theorem dX10_roots__1 : decode cX10_roots_ 1 = .ok (.istore_n 1, 1) := by decide +kernel
theorem dX10_roots__2 : decode cX10_roots_ 2 = .ok (.iconst 2, 1) := by decide +kernel
theorem dX10_roots__3 : decode cX10_roots_ 3 = .ok (.istore_n 2, 1) := by decide +kernel
theorem dX10_roots__4 : decode cX10_roots_ 4 = .ok (.iload_n 1, 1) := by decide +kernel
theorem dX10_roots__5 : decode cX10_roots_ 5 = .ok (.bipush 80, 2) := by decide +kernel
theorem dX10_roots__7 : decode cX10_roots_ 7 = .ok (.if_icmp .ge 49, 3) := by decide +kernel
theorem dX10_roots__10 : decode cX10_roots_ 10 = .ok (.iload_n 2, 1) := by decide +kernel
theorem dX10_roots__11 : decode cX10_roots_ 11 = .ok (.invokestatic 189, 3) := by decide +kernel
theorem dX10_roots__14 : decode cX10_roots_ 14 = .ok (.ifCond .eq 36, 3) := by decide +kernel
theorem dX10_roots__17 : decode cX10_roots_ 17 = .ok (.aload_n 0, 1) := by decide +kernel
theorem dX10_roots__18 : decode cX10_roots_ 18 = .ok (.getfield 33, 3) := by decide +kernel
theorem dX10_roots__21 : decode cX10_roots_ 21 = .ok (.iload_n 1, 1) := by decide +kernel
theorem dX10_roots__22 : decode cX10_roots_ 22 = .ok (.aload_n 0, 1) := by decide +kernel
theorem dX10_roots__23 : decode cX10_roots_ 23 = .ok (.iload_n 2, 1) := by decide +kernel
theorem dX10_roots__24 : decode cX10_roots_ 24 = .ok (.iconst 1, 1) := by decide +kernel
theorem dX10_roots__25 : decode cX10_roots_ 25 = .ok (.invokevirtual 193, 3) := by decide +kernel
theorem dX10_roots__28 : decode cX10_roots_ 28 = .ok (.lastore, 1) := by decide +kernel
theorem dX10_roots__29 : decode cX10_roots_ 29 = .ok (.iload_n 1, 1) := by decide +kernel
theorem dX10_roots__30 : decode cX10_roots_ 30 = .ok (.bipush 8, 2) := by decide +kernel
theorem dX10_roots__32 : decode cX10_roots_ 32 = .ok (.if_icmp .ge 15, 3) := by decide +kernel
theorem dX10_roots__35 : decode cX10_roots_ 35 = .ok (.aload_n 0, 1) := by decide +kernel
theorem dX10_roots__36 : decode cX10_roots_ 36 = .ok (.getfield 30, 3) := by decide +kernel
theorem dX10_roots__39 : decode cX10_roots_ 39 = .ok (.iload_n 1, 1) := by decide +kernel
theorem dX10_roots__40 : decode cX10_roots_ 40 = .ok (.aload_n 0, 1) := by decide +kernel
theorem dX10_roots__41 : decode cX10_roots_ 41 = .ok (.iload_n 2, 1) := by decide +kernel
theorem dX10_roots__42 : decode cX10_roots_ 42 = .ok (.iconst 0, 1) := by decide +kernel
theorem dX10_roots__43 : decode cX10_roots_ 43 = .ok (.invokevirtual 193, 3) := by decide +kernel
theorem dX10_roots__46 : decode cX10_roots_ 46 = .ok (.lastore, 1) := by decide +kernel
theorem dX10_roots__47 : decode cX10_roots_ 47 = .ok (.iinc 1 1, 3) := by decide +kernel
theorem dX10_roots__50 : decode cX10_roots_ 50 = .ok (.iinc 2 1, 3) := by decide +kernel
theorem dX10_roots__53 : decode cX10_roots_ 53 = .ok (.goto (-49), 3) := by decide +kernel
theorem dX10_roots__56 : decode cX10_roots_ 56 = .ok (.return_, 1) := by decide +kernel
theorem dX10_tell_0 : decode cX10_tell 0 = .ok (.aload_n 0, 1) := by decide +kernel
theorem dX10_tell_1 : decode cX10_tell 1 = .ok (.getfield 45, 3) := by decide +kernel
theorem dX10_tell_4 : decode cX10_tell 4 = .ok (.aload_n 0, 1) := by decide +kernel
theorem dX10_tell_5 : decode cX10_tell 5 = .ok (.getfield 197, 3) := by decide +kernel
theorem dX10_tell_8 : decode cX10_tell 8 = .ok (.iload_n 1, 1) := by decide +kernel
theorem dX10_tell_9 : decode cX10_tell 9 = .ok (.iastore, 1) := by decide +kernel
theorem dX10_tell_10 : decode cX10_tell 10 = .ok (.aload_n 0, 1) := by decide +kernel
theorem dX10_tell_11 : decode cX10_tell 11 = .ok (.dup, 1) := by decide +kernel
theorem dX10_tell_12 : decode cX10_tell 12 = .ok (.getfield 197, 3) := by decide +kernel
theorem dX10_tell_15 : decode cX10_tell 15 = .ok (.iconst 1, 1) := by decide +kernel
theorem dX10_tell_16 : decode cX10_tell 16 = .ok (.iadd, 1) := by decide +kernel
theorem dX10_tell_17 : decode cX10_tell 17 = .ok (.putfield 197, 3) := by decide +kernel
theorem dX10_tell_20 : decode cX10_tell 20 = .ok (.return_, 1) := by decide +kernel
theorem dX10_tellWords_0 : decode cX10_tellWords 0 = .ok (.iconst 0, 1) := by decide +kernel
theorem dX10_tellWords_1 : decode cX10_tellWords 1 = .ok (.istore_n 2, 1) := by decide +kernel
theorem dX10_tellWords_2 : decode cX10_tellWords 2 = .ok (.iload_n 2, 1) := by decide +kernel
theorem dX10_tellWords_3 : decode cX10_tellWords 3 = .ok (.bipush 32, 2) := by decide +kernel
theorem dX10_tellWords_5 : decode cX10_tellWords 5 = .ok (.if_icmp .ge 36, 3) := by decide +kernel
theorem dX10_tellWords_8 : decode cX10_tellWords 8 = .ok (.aload_n 0, 1) := by decide +kernel
theorem dX10_tellWords_9 : decode cX10_tellWords 9 = .ok (.aload_n 0, 1) := by decide +kernel
theorem dX10_tellWords_10 : decode cX10_tellWords 10 = .ok (.getfield 27, 3) := by decide +kernel
theorem dX10_tellWords_13 : decode cX10_tellWords 13 = .ok (.iload_n 1, 1) := by decide +kernel
theorem dX10_tellWords_14 : decode cX10_tellWords 14 = .ok (.iload_n 2, 1) := by decide +kernel
theorem dX10_tellWords_15 : decode cX10_tellWords 15 = .ok (.iconst 3, 1) := by decide +kernel
theorem dX10_tellWords_16 : decode cX10_tellWords 16 = .ok (.ishr, 1) := by decide +kernel
theorem dX10_tellWords_17 : decode cX10_tellWords 17 = .ok (.iadd, 1) := by decide +kernel
theorem dX10_tellWords_18 : decode cX10_tellWords 18 = .ok (.laload, 1) := by decide +kernel
theorem dX10_tellWords_19 : decode cX10_tellWords 19 = .ok (.bipush 8, 2) := by decide +kernel
theorem dX10_tellWords_21 : decode cX10_tellWords 21 = .ok (.iload_n 2, 1) := by decide +kernel
theorem dX10_tellWords_22 : decode cX10_tellWords 22 = .ok (.bipush 7, 2) := by decide +kernel
theorem dX10_tellWords_24 : decode cX10_tellWords 24 = .ok (.iand, 1) := by decide +kernel
theorem dX10_tellWords_25 : decode cX10_tellWords 25 = .ok (.imul, 1) := by decide +kernel
theorem dX10_tellWords_26 : decode cX10_tellWords 26 = .ok (.lushr, 1) := by decide +kernel
theorem dX10_tellWords_27 : decode cX10_tellWords 27 = .ok (.l2i, 1) := by decide +kernel
theorem dX10_tellWords_28 : decode cX10_tellWords 28 = .ok (.sipush 255, 3) := by decide +kernel
theorem dX10_tellWords_31 : decode cX10_tellWords 31 = .ok (.iand, 1) := by decide +kernel
theorem dX10_tellWords_32 : decode cX10_tellWords 32 = .ok (.invokevirtual 200, 3) := by decide +kernel
theorem dX10_tellWords_35 : decode cX10_tellWords 35 = .ok (.iinc 2 1, 3) := by decide +kernel
theorem dX10_tellWords_38 : decode cX10_tellWords 38 = .ok (.goto (-36), 3) := by decide +kernel
theorem dX10_tellWords_41 : decode cX10_tellWords 41 = .ok (.return_, 1) := by decide +kernel
theorem dX10_tellText_0 : decode cX10_tellText 0 = .ok (.iconst 0, 1) := by decide +kernel
theorem dX10_tellText_1 : decode cX10_tellText 1 = .ok (.istore_n 1, 1) := by decide +kernel
theorem dX10_tellText_2 : decode cX10_tellText 2 = .ok (.iload_n 1, 1) := by decide +kernel
theorem dX10_tellText_3 : decode cX10_tellText 3 = .ok (.aload_n 0, 1) := by decide +kernel
theorem dX10_tellText_4 : decode cX10_tellText 4 = .ok (.getfield 203, 3) := by decide +kernel
theorem dX10_tellText_7 : decode cX10_tellText 7 = .ok (.if_icmp .ge 19, 3) := by decide +kernel
theorem dX10_tellText_10 : decode cX10_tellText 10 = .ok (.aload_n 0, 1) := by decide +kernel
theorem dX10_tellText_11 : decode cX10_tellText 11 = .ok (.aload_n 0, 1) := by decide +kernel
theorem dX10_tellText_12 : decode cX10_tellText 12 = .ok (.getfield 13, 3) := by decide +kernel
theorem dX10_tellText_15 : decode cX10_tellText 15 = .ok (.iload_n 1, 1) := by decide +kernel
theorem dX10_tellText_16 : decode cX10_tellText 16 = .ok (.iaload, 1) := by decide +kernel
theorem dX10_tellText_17 : decode cX10_tellText 17 = .ok (.invokevirtual 200, 3) := by decide +kernel
theorem dX10_tellText_20 : decode cX10_tellText 20 = .ok (.iinc 1 1, 3) := by decide +kernel
theorem dX10_tellText_23 : decode cX10_tellText 23 = .ok (.goto (-21), 3) := by decide +kernel
theorem dX10_tellText_26 : decode cX10_tellText 26 = .ok (.return_, 1) := by decide +kernel
theorem dX10_turned_0 : decode cX10_turned 0 = .ok (.lload_n 0, 1) := by decide +kernel
theorem dX10_turned_1 : decode cX10_turned 1 = .ok (.iload_n 2, 1) := by decide +kernel
theorem dX10_turned_2 : decode cX10_turned 2 = .ok (.lushr, 1) := by decide +kernel
theorem dX10_turned_3 : decode cX10_turned 3 = .ok (.lload_n 0, 1) := by decide +kernel
theorem dX10_turned_4 : decode cX10_turned 4 = .ok (.bipush 64, 2) := by decide +kernel
theorem dX10_turned_6 : decode cX10_turned 6 = .ok (.iload_n 2, 1) := by decide +kernel
theorem dX10_turned_7 : decode cX10_turned 7 = .ok (.isub, 1) := by decide +kernel
theorem dX10_turned_8 : decode cX10_turned 8 = .ok (.lshl, 1) := by decide +kernel
theorem dX10_turned_9 : decode cX10_turned 9 = .ok (.lor, 1) := by decide +kernel
theorem dX10_turned_10 : decode cX10_turned 10 = .ok (.lreturn, 1) := by decide +kernel
theorem dX10_block_0 : decode cX10_block 0 = .ok (.iconst 0, 1) := by decide +kernel
theorem dX10_block_1 : decode cX10_block 1 = .ok (.istore_n 2, 1) := by decide +kernel
theorem dX10_block_2 : decode cX10_block 2 = .ok (.iload_n 2, 1) := by decide +kernel
theorem dX10_block_3 : decode cX10_block 3 = .ok (.bipush 16, 2) := by decide +kernel
theorem dX10_block_5 : decode cX10_block 5 = .ok (.if_icmp .ge 55, 3) := by decide +kernel
theorem dX10_block_8 : decode cX10_block 8 = .ok (.lconst 0, 1) := by decide +kernel
theorem dX10_block_9 : decode cX10_block 9 = .ok (.lstore_n 3, 1) := by decide +kernel
theorem dX10_block_10 : decode cX10_block 10 = .ok (.iconst 0, 1) := by decide +kernel
theorem dX10_block_11 : decode cX10_block 11 = .ok (.istore 5, 2) := by decide +kernel
theorem dX10_block_13 : decode cX10_block 13 = .ok (.iload 5, 2) := by decide +kernel
theorem dX10_block_15 : decode cX10_block 15 = .ok (.bipush 8, 2) := by decide +kernel
theorem dX10_block_17 : decode cX10_block 17 = .ok (.if_icmp .ge 30, 3) := by decide +kernel
theorem dX10_block_20 : decode cX10_block 20 = .ok (.lload_n 3, 1) := by decide +kernel
theorem dX10_block_21 : decode cX10_block 21 = .ok (.bipush 8, 2) := by decide +kernel
theorem dX10_block_23 : decode cX10_block 23 = .ok (.lshl, 1) := by decide +kernel
theorem dX10_block_24 : decode cX10_block 24 = .ok (.aload_n 0, 1) := by decide +kernel
theorem dX10_block_25 : decode cX10_block 25 = .ok (.getfield 45, 3) := by decide +kernel
theorem dX10_block_28 : decode cX10_block 28 = .ok (.iload_n 1, 1) := by decide +kernel
theorem dX10_block_29 : decode cX10_block 29 = .ok (.bipush 8, 2) := by decide +kernel
theorem dX10_block_31 : decode cX10_block 31 = .ok (.iload_n 2, 1) := by decide +kernel
theorem dX10_block_32 : decode cX10_block 32 = .ok (.imul, 1) := by decide +kernel
theorem dX10_block_33 : decode cX10_block 33 = .ok (.iadd, 1) := by decide +kernel
theorem dX10_block_34 : decode cX10_block 34 = .ok (.iload 5, 2) := by decide +kernel
theorem dX10_block_36 : decode cX10_block 36 = .ok (.iadd, 1) := by decide +kernel
theorem dX10_block_37 : decode cX10_block 37 = .ok (.iaload, 1) := by decide +kernel
theorem dX10_block_38 : decode cX10_block 38 = .ok (.i2l, 1) := by decide +kernel
theorem dX10_block_39 : decode cX10_block 39 = .ok (.lor, 1) := by decide +kernel
theorem dX10_block_40 : decode cX10_block 40 = .ok (.lstore_n 3, 1) := by decide +kernel
theorem dX10_block_41 : decode cX10_block 41 = .ok (.iinc 5 1, 3) := by decide +kernel
theorem dX10_block_44 : decode cX10_block 44 = .ok (.goto (-31), 3) := by decide +kernel
theorem dX10_block_47 : decode cX10_block 47 = .ok (.aload_n 0, 1) := by decide +kernel
theorem dX10_block_48 : decode cX10_block 48 = .ok (.getfield 48, 3) := by decide +kernel
theorem dX10_block_51 : decode cX10_block 51 = .ok (.iload_n 2, 1) := by decide +kernel
theorem dX10_block_52 : decode cX10_block 52 = .ok (.lload_n 3, 1) := by decide +kernel
theorem dX10_block_53 : decode cX10_block 53 = .ok (.lastore, 1) := by decide +kernel
theorem dX10_block_54 : decode cX10_block 54 = .ok (.iinc 2 1, 3) := by decide +kernel
theorem dX10_block_57 : decode cX10_block 57 = .ok (.goto (-55), 3) := by decide +kernel
theorem dX10_block_60 : decode cX10_block 60 = .ok (.bipush 16, 2) := by decide +kernel
theorem dX10_block_62 : decode cX10_block 62 = .ok (.istore_n 2, 1) := by decide +kernel
theorem dX10_block_63 : decode cX10_block 63 = .ok (.iload_n 2, 1) := by decide +kernel
theorem dX10_block_64 : decode cX10_block 64 = .ok (.bipush 80, 2) := by decide +kernel
theorem dX10_block_66 : decode cX10_block 66 = .ok (.if_icmp .ge 94, 3) := by decide +kernel
theorem dX10_block_69 : decode cX10_block 69 = .ok (.aload_n 0, 1) := by decide +kernel
theorem dX10_block_70 : decode cX10_block 70 = .ok (.getfield 48, 3) := by decide +kernel
theorem dX10_block_73 : decode cX10_block 73 = .ok (.iload_n 2, 1) := by decide +kernel
theorem dX10_block_74 : decode cX10_block 74 = .ok (.bipush 15, 2) := by decide +kernel
theorem dX10_block_76 : decode cX10_block 76 = .ok (.isub, 1) := by decide +kernel
theorem dX10_block_77 : decode cX10_block 77 = .ok (.laload, 1) := by decide +kernel
theorem dX10_block_78 : decode cX10_block 78 = .ok (.lstore_n 3, 1) := by decide +kernel
theorem dX10_block_79 : decode cX10_block 79 = .ok (.aload_n 0, 1) := by decide +kernel
theorem dX10_block_80 : decode cX10_block 80 = .ok (.getfield 48, 3) := by decide +kernel
theorem dX10_block_83 : decode cX10_block 83 = .ok (.iload_n 2, 1) := by decide +kernel
theorem dX10_block_84 : decode cX10_block 84 = .ok (.iconst 2, 1) := by decide +kernel
theorem dX10_block_85 : decode cX10_block 85 = .ok (.isub, 1) := by decide +kernel
theorem dX10_block_86 : decode cX10_block 86 = .ok (.laload, 1) := by decide +kernel
theorem dX10_block_87 : decode cX10_block 87 = .ok (.lstore 5, 2) := by decide +kernel
theorem dX10_block_89 : decode cX10_block 89 = .ok (.aload_n 0, 1) := by decide +kernel
theorem dX10_block_90 : decode cX10_block 90 = .ok (.getfield 48, 3) := by decide +kernel
theorem dX10_block_93 : decode cX10_block 93 = .ok (.iload_n 2, 1) := by decide +kernel
theorem dX10_block_94 : decode cX10_block 94 = .ok (.aload_n 0, 1) := by decide +kernel
theorem dX10_block_95 : decode cX10_block 95 = .ok (.getfield 48, 3) := by decide +kernel
theorem dX10_block_98 : decode cX10_block 98 = .ok (.iload_n 2, 1) := by decide +kernel
theorem dX10_block_99 : decode cX10_block 99 = .ok (.bipush 16, 2) := by decide +kernel
theorem dX10_block_101 : decode cX10_block 101 = .ok (.isub, 1) := by decide +kernel
theorem dX10_block_102 : decode cX10_block 102 = .ok (.laload, 1) := by decide +kernel
theorem dX10_block_103 : decode cX10_block 103 = .ok (.lload_n 3, 1) := by decide +kernel
theorem dX10_block_104 : decode cX10_block 104 = .ok (.iconst 1, 1) := by decide +kernel
theorem dX10_block_105 : decode cX10_block 105 = .ok (.invokestatic 206, 3) := by decide +kernel
theorem dX10_block_108 : decode cX10_block 108 = .ok (.lload_n 3, 1) := by decide +kernel
theorem dX10_block_109 : decode cX10_block 109 = .ok (.bipush 8, 2) := by decide +kernel
theorem dX10_block_111 : decode cX10_block 111 = .ok (.invokestatic 206, 3) := by decide +kernel
theorem dX10_block_114 : decode cX10_block 114 = .ok (.lxor, 1) := by decide +kernel
theorem dX10_block_115 : decode cX10_block 115 = .ok (.lload_n 3, 1) := by decide +kernel
theorem dX10_block_116 : decode cX10_block 116 = .ok (.bipush 7, 2) := by decide +kernel
theorem dX10_block_118 : decode cX10_block 118 = .ok (.lushr, 1) := by decide +kernel
theorem dX10_block_119 : decode cX10_block 119 = .ok (.lxor, 1) := by decide +kernel
theorem dX10_block_120 : decode cX10_block 120 = .ok (.ladd, 1) := by decide +kernel
theorem dX10_block_121 : decode cX10_block 121 = .ok (.aload_n 0, 1) := by decide +kernel
theorem dX10_block_122 : decode cX10_block 122 = .ok (.getfield 48, 3) := by decide +kernel
theorem dX10_block_125 : decode cX10_block 125 = .ok (.iload_n 2, 1) := by decide +kernel
theorem dX10_block_126 : decode cX10_block 126 = .ok (.bipush 7, 2) := by decide +kernel
theorem dX10_block_128 : decode cX10_block 128 = .ok (.isub, 1) := by decide +kernel
theorem dX10_block_129 : decode cX10_block 129 = .ok (.laload, 1) := by decide +kernel
theorem dX10_block_130 : decode cX10_block 130 = .ok (.ladd, 1) := by decide +kernel
theorem dX10_block_131 : decode cX10_block 131 = .ok (.lload 5, 2) := by decide +kernel
theorem dX10_block_133 : decode cX10_block 133 = .ok (.bipush 19, 2) := by decide +kernel
theorem dX10_block_135 : decode cX10_block 135 = .ok (.invokestatic 206, 3) := by decide +kernel
theorem dX10_block_138 : decode cX10_block 138 = .ok (.lload 5, 2) := by decide +kernel
theorem dX10_block_140 : decode cX10_block 140 = .ok (.bipush 61, 2) := by decide +kernel
theorem dX10_block_142 : decode cX10_block 142 = .ok (.invokestatic 206, 3) := by decide +kernel
theorem dX10_block_145 : decode cX10_block 145 = .ok (.lxor, 1) := by decide +kernel
theorem dX10_block_146 : decode cX10_block 146 = .ok (.lload 5, 2) := by decide +kernel
theorem dX10_block_148 : decode cX10_block 148 = .ok (.bipush 6, 2) := by decide +kernel
theorem dX10_block_150 : decode cX10_block 150 = .ok (.lushr, 1) := by decide +kernel
theorem dX10_block_151 : decode cX10_block 151 = .ok (.lxor, 1) := by decide +kernel
theorem dX10_block_152 : decode cX10_block 152 = .ok (.ladd, 1) := by decide +kernel
theorem dX10_block_153 : decode cX10_block 153 = .ok (.lastore, 1) := by decide +kernel
theorem dX10_block_154 : decode cX10_block 154 = .ok (.iinc 2 1, 3) := by decide +kernel
theorem dX10_block_157 : decode cX10_block 157 = .ok (.goto (-94), 3) := by decide +kernel
theorem dX10_block_160 : decode cX10_block 160 = .ok (.iconst 0, 1) := by decide +kernel
theorem dX10_block_161 : decode cX10_block 161 = .ok (.istore_n 2, 1) := by decide +kernel
theorem dX10_block_162 : decode cX10_block 162 = .ok (.iload_n 2, 1) := by decide +kernel
theorem dX10_block_163 : decode cX10_block 163 = .ok (.bipush 8, 2) := by decide +kernel
theorem dX10_block_165 : decode cX10_block 165 = .ok (.if_icmp .ge 21, 3) := by decide +kernel
theorem dX10_block_168 : decode cX10_block 168 = .ok (.aload_n 0, 1) := by decide +kernel
theorem dX10_block_169 : decode cX10_block 169 = .ok (.getfield 54, 3) := by decide +kernel
theorem dX10_block_172 : decode cX10_block 172 = .ok (.iload_n 2, 1) := by decide +kernel
theorem dX10_block_173 : decode cX10_block 173 = .ok (.aload_n 0, 1) := by decide +kernel
theorem dX10_block_174 : decode cX10_block 174 = .ok (.getfield 51, 3) := by decide +kernel
theorem dX10_block_177 : decode cX10_block 177 = .ok (.iload_n 2, 1) := by decide +kernel
theorem dX10_block_178 : decode cX10_block 178 = .ok (.laload, 1) := by decide +kernel
theorem dX10_block_179 : decode cX10_block 179 = .ok (.lastore, 1) := by decide +kernel
theorem dX10_block_180 : decode cX10_block 180 = .ok (.iinc 2 1, 3) := by decide +kernel
theorem dX10_block_183 : decode cX10_block 183 = .ok (.goto (-21), 3) := by decide +kernel
theorem dX10_block_186 : decode cX10_block 186 = .ok (.iconst 0, 1) := by decide +kernel
theorem dX10_block_187 : decode cX10_block 187 = .ok (.istore_n 2, 1) := by decide +kernel
theorem dX10_block_188 : decode cX10_block 188 = .ok (.iload_n 2, 1) := by decide +kernel
theorem dX10_block_189 : decode cX10_block 189 = .ok (.bipush 80, 2) := by decide +kernel
theorem dX10_block_191 : decode cX10_block 191 = .ok (.if_icmp .ge 230, 3) := by decide +kernel
theorem dX10_block_194 : decode cX10_block 194 = .ok (.aload_n 0, 1) := by decide +kernel
theorem dX10_block_195 : decode cX10_block 195 = .ok (.getfield 54, 3) := by decide +kernel
theorem dX10_block_198 : decode cX10_block 198 = .ok (.bipush 7, 2) := by decide +kernel
theorem dX10_block_200 : decode cX10_block 200 = .ok (.laload, 1) := by decide +kernel
theorem dX10_block_201 : decode cX10_block 201 = .ok (.aload_n 0, 1) := by decide +kernel
theorem dX10_block_202 : decode cX10_block 202 = .ok (.getfield 54, 3) := by decide +kernel
theorem dX10_block_205 : decode cX10_block 205 = .ok (.iconst 4, 1) := by decide +kernel
theorem dX10_block_206 : decode cX10_block 206 = .ok (.laload, 1) := by decide +kernel
theorem dX10_block_207 : decode cX10_block 207 = .ok (.bipush 14, 2) := by decide +kernel
theorem dX10_block_209 : decode cX10_block 209 = .ok (.invokestatic 206, 3) := by decide +kernel
theorem dX10_block_212 : decode cX10_block 212 = .ok (.aload_n 0, 1) := by decide +kernel
theorem dX10_block_213 : decode cX10_block 213 = .ok (.getfield 54, 3) := by decide +kernel
theorem dX10_block_216 : decode cX10_block 216 = .ok (.iconst 4, 1) := by decide +kernel
theorem dX10_block_217 : decode cX10_block 217 = .ok (.laload, 1) := by decide +kernel
theorem dX10_block_218 : decode cX10_block 218 = .ok (.bipush 18, 2) := by decide +kernel
theorem dX10_block_220 : decode cX10_block 220 = .ok (.invokestatic 206, 3) := by decide +kernel
theorem dX10_block_223 : decode cX10_block 223 = .ok (.lxor, 1) := by decide +kernel
theorem dX10_block_224 : decode cX10_block 224 = .ok (.aload_n 0, 1) := by decide +kernel
theorem dX10_block_225 : decode cX10_block 225 = .ok (.getfield 54, 3) := by decide +kernel
theorem dX10_block_228 : decode cX10_block 228 = .ok (.iconst 4, 1) := by decide +kernel
theorem dX10_block_229 : decode cX10_block 229 = .ok (.laload, 1) := by decide +kernel
theorem dX10_block_230 : decode cX10_block 230 = .ok (.bipush 41, 2) := by decide +kernel
theorem dX10_block_232 : decode cX10_block 232 = .ok (.invokestatic 206, 3) := by decide +kernel
theorem dX10_block_235 : decode cX10_block 235 = .ok (.lxor, 1) := by decide +kernel
theorem dX10_block_236 : decode cX10_block 236 = .ok (.ladd, 1) := by decide +kernel
theorem dX10_block_237 : decode cX10_block 237 = .ok (.aload_n 0, 1) := by decide +kernel
theorem dX10_block_238 : decode cX10_block 238 = .ok (.getfield 54, 3) := by decide +kernel
theorem dX10_block_241 : decode cX10_block 241 = .ok (.iconst 4, 1) := by decide +kernel
theorem dX10_block_242 : decode cX10_block 242 = .ok (.laload, 1) := by decide +kernel
theorem dX10_block_243 : decode cX10_block 243 = .ok (.aload_n 0, 1) := by decide +kernel
theorem dX10_block_244 : decode cX10_block 244 = .ok (.getfield 54, 3) := by decide +kernel
theorem dX10_block_247 : decode cX10_block 247 = .ok (.iconst 5, 1) := by decide +kernel
theorem dX10_block_248 : decode cX10_block 248 = .ok (.laload, 1) := by decide +kernel
theorem dX10_block_249 : decode cX10_block 249 = .ok (.land, 1) := by decide +kernel
theorem dX10_block_250 : decode cX10_block 250 = .ok (.aload_n 0, 1) := by decide +kernel
theorem dX10_block_251 : decode cX10_block 251 = .ok (.getfield 54, 3) := by decide +kernel
theorem dX10_block_254 : decode cX10_block 254 = .ok (.iconst 4, 1) := by decide +kernel
theorem dX10_block_255 : decode cX10_block 255 = .ok (.laload, 1) := by decide +kernel
theorem dX10_block_256 : decode cX10_block 256 = .ok (.ldc2_w 68, 3) := by decide +kernel
theorem dX10_block_259 : decode cX10_block 259 = .ok (.lxor, 1) := by decide +kernel
theorem dX10_block_260 : decode cX10_block 260 = .ok (.aload_n 0, 1) := by decide +kernel
theorem dX10_block_261 : decode cX10_block 261 = .ok (.getfield 54, 3) := by decide +kernel
theorem dX10_block_264 : decode cX10_block 264 = .ok (.bipush 6, 2) := by decide +kernel
theorem dX10_block_266 : decode cX10_block 266 = .ok (.laload, 1) := by decide +kernel
theorem dX10_block_267 : decode cX10_block 267 = .ok (.land, 1) := by decide +kernel
theorem dX10_block_268 : decode cX10_block 268 = .ok (.lxor, 1) := by decide +kernel
theorem dX10_block_269 : decode cX10_block 269 = .ok (.ladd, 1) := by decide +kernel
theorem dX10_block_270 : decode cX10_block 270 = .ok (.aload_n 0, 1) := by decide +kernel
theorem dX10_block_271 : decode cX10_block 271 = .ok (.getfield 33, 3) := by decide +kernel
theorem dX10_block_274 : decode cX10_block 274 = .ok (.iload_n 2, 1) := by decide +kernel
theorem dX10_block_275 : decode cX10_block 275 = .ok (.laload, 1) := by decide +kernel
theorem dX10_block_276 : decode cX10_block 276 = .ok (.ladd, 1) := by decide +kernel
theorem dX10_block_277 : decode cX10_block 277 = .ok (.aload_n 0, 1) := by decide +kernel
theorem dX10_block_278 : decode cX10_block 278 = .ok (.getfield 48, 3) := by decide +kernel
theorem dX10_block_281 : decode cX10_block 281 = .ok (.iload_n 2, 1) := by decide +kernel
theorem dX10_block_282 : decode cX10_block 282 = .ok (.laload, 1) := by decide +kernel
theorem dX10_block_283 : decode cX10_block 283 = .ok (.ladd, 1) := by decide +kernel
theorem dX10_block_284 : decode cX10_block 284 = .ok (.lstore_n 3, 1) := by decide +kernel
theorem dX10_block_285 : decode cX10_block 285 = .ok (.aload_n 0, 1) := by decide +kernel
theorem dX10_block_286 : decode cX10_block 286 = .ok (.getfield 54, 3) := by decide +kernel
theorem dX10_block_289 : decode cX10_block 289 = .ok (.iconst 0, 1) := by decide +kernel
theorem dX10_block_290 : decode cX10_block 290 = .ok (.laload, 1) := by decide +kernel
theorem dX10_block_291 : decode cX10_block 291 = .ok (.bipush 28, 2) := by decide +kernel
theorem dX10_block_293 : decode cX10_block 293 = .ok (.invokestatic 206, 3) := by decide +kernel
theorem dX10_block_296 : decode cX10_block 296 = .ok (.aload_n 0, 1) := by decide +kernel
theorem dX10_block_297 : decode cX10_block 297 = .ok (.getfield 54, 3) := by decide +kernel
theorem dX10_block_300 : decode cX10_block 300 = .ok (.iconst 0, 1) := by decide +kernel
theorem dX10_block_301 : decode cX10_block 301 = .ok (.laload, 1) := by decide +kernel
theorem dX10_block_302 : decode cX10_block 302 = .ok (.bipush 34, 2) := by decide +kernel
theorem dX10_block_304 : decode cX10_block 304 = .ok (.invokestatic 206, 3) := by decide +kernel
theorem dX10_block_307 : decode cX10_block 307 = .ok (.lxor, 1) := by decide +kernel
theorem dX10_block_308 : decode cX10_block 308 = .ok (.aload_n 0, 1) := by decide +kernel
theorem dX10_block_309 : decode cX10_block 309 = .ok (.getfield 54, 3) := by decide +kernel
theorem dX10_block_312 : decode cX10_block 312 = .ok (.iconst 0, 1) := by decide +kernel
theorem dX10_block_313 : decode cX10_block 313 = .ok (.laload, 1) := by decide +kernel
theorem dX10_block_314 : decode cX10_block 314 = .ok (.bipush 39, 2) := by decide +kernel
theorem dX10_block_316 : decode cX10_block 316 = .ok (.invokestatic 206, 3) := by decide +kernel
theorem dX10_block_319 : decode cX10_block 319 = .ok (.lxor, 1) := by decide +kernel
theorem dX10_block_320 : decode cX10_block 320 = .ok (.aload_n 0, 1) := by decide +kernel
theorem dX10_block_321 : decode cX10_block 321 = .ok (.getfield 54, 3) := by decide +kernel
theorem dX10_block_324 : decode cX10_block 324 = .ok (.iconst 0, 1) := by decide +kernel
theorem dX10_block_325 : decode cX10_block 325 = .ok (.laload, 1) := by decide +kernel
theorem dX10_block_326 : decode cX10_block 326 = .ok (.aload_n 0, 1) := by decide +kernel
theorem dX10_block_327 : decode cX10_block 327 = .ok (.getfield 54, 3) := by decide +kernel
theorem dX10_block_330 : decode cX10_block 330 = .ok (.iconst 1, 1) := by decide +kernel
theorem dX10_block_331 : decode cX10_block 331 = .ok (.laload, 1) := by decide +kernel
theorem dX10_block_332 : decode cX10_block 332 = .ok (.land, 1) := by decide +kernel
theorem dX10_block_333 : decode cX10_block 333 = .ok (.aload_n 0, 1) := by decide +kernel
theorem dX10_block_334 : decode cX10_block 334 = .ok (.getfield 54, 3) := by decide +kernel
theorem dX10_block_337 : decode cX10_block 337 = .ok (.iconst 0, 1) := by decide +kernel
theorem dX10_block_338 : decode cX10_block 338 = .ok (.laload, 1) := by decide +kernel
theorem dX10_block_339 : decode cX10_block 339 = .ok (.aload_n 0, 1) := by decide +kernel
theorem dX10_block_340 : decode cX10_block 340 = .ok (.getfield 54, 3) := by decide +kernel
theorem dX10_block_343 : decode cX10_block 343 = .ok (.iconst 2, 1) := by decide +kernel
theorem dX10_block_344 : decode cX10_block 344 = .ok (.laload, 1) := by decide +kernel
theorem dX10_block_345 : decode cX10_block 345 = .ok (.land, 1) := by decide +kernel
theorem dX10_block_346 : decode cX10_block 346 = .ok (.lxor, 1) := by decide +kernel
theorem dX10_block_347 : decode cX10_block 347 = .ok (.aload_n 0, 1) := by decide +kernel
theorem dX10_block_348 : decode cX10_block 348 = .ok (.getfield 54, 3) := by decide +kernel
theorem dX10_block_351 : decode cX10_block 351 = .ok (.iconst 1, 1) := by decide +kernel
theorem dX10_block_352 : decode cX10_block 352 = .ok (.laload, 1) := by decide +kernel
theorem dX10_block_353 : decode cX10_block 353 = .ok (.aload_n 0, 1) := by decide +kernel
theorem dX10_block_354 : decode cX10_block 354 = .ok (.getfield 54, 3) := by decide +kernel
theorem dX10_block_357 : decode cX10_block 357 = .ok (.iconst 2, 1) := by decide +kernel
theorem dX10_block_358 : decode cX10_block 358 = .ok (.laload, 1) := by decide +kernel
theorem dX10_block_359 : decode cX10_block 359 = .ok (.land, 1) := by decide +kernel
theorem dX10_block_360 : decode cX10_block 360 = .ok (.lxor, 1) := by decide +kernel
theorem dX10_block_361 : decode cX10_block 361 = .ok (.ladd, 1) := by decide +kernel
theorem dX10_block_362 : decode cX10_block 362 = .ok (.lstore 5, 2) := by decide +kernel
theorem dX10_block_364 : decode cX10_block 364 = .ok (.bipush 7, 2) := by decide +kernel
theorem dX10_block_366 : decode cX10_block 366 = .ok (.istore 7, 2) := by decide +kernel
theorem dX10_block_368 : decode cX10_block 368 = .ok (.iload 7, 2) := by decide +kernel
theorem dX10_block_370 : decode cX10_block 370 = .ok (.ifCond .le 25, 3) := by decide +kernel
theorem dX10_block_373 : decode cX10_block 373 = .ok (.aload_n 0, 1) := by decide +kernel
theorem dX10_block_374 : decode cX10_block 374 = .ok (.getfield 54, 3) := by decide +kernel
theorem dX10_block_377 : decode cX10_block 377 = .ok (.iload 7, 2) := by decide +kernel
theorem dX10_block_379 : decode cX10_block 379 = .ok (.aload_n 0, 1) := by decide +kernel
theorem dX10_block_380 : decode cX10_block 380 = .ok (.getfield 54, 3) := by decide +kernel
theorem dX10_block_383 : decode cX10_block 383 = .ok (.iload 7, 2) := by decide +kernel
theorem dX10_block_385 : decode cX10_block 385 = .ok (.iconst 1, 1) := by decide +kernel
theorem dX10_block_386 : decode cX10_block 386 = .ok (.isub, 1) := by decide +kernel
theorem dX10_block_387 : decode cX10_block 387 = .ok (.laload, 1) := by decide +kernel
theorem dX10_block_388 : decode cX10_block 388 = .ok (.lastore, 1) := by decide +kernel
theorem dX10_block_389 : decode cX10_block 389 = .ok (.iinc 7 (-1), 3) := by decide +kernel
theorem dX10_block_392 : decode cX10_block 392 = .ok (.goto (-24), 3) := by decide +kernel
theorem dX10_block_395 : decode cX10_block 395 = .ok (.aload_n 0, 1) := by decide +kernel
theorem dX10_block_396 : decode cX10_block 396 = .ok (.getfield 54, 3) := by decide +kernel
theorem dX10_block_399 : decode cX10_block 399 = .ok (.iconst 4, 1) := by decide +kernel
theorem dX10_block_400 : decode cX10_block 400 = .ok (.dup2, 1) := by decide +kernel
theorem dX10_block_401 : decode cX10_block 401 = .ok (.laload, 1) := by decide +kernel
theorem dX10_block_402 : decode cX10_block 402 = .ok (.lload_n 3, 1) := by decide +kernel
theorem dX10_block_403 : decode cX10_block 403 = .ok (.ladd, 1) := by decide +kernel
theorem dX10_block_404 : decode cX10_block 404 = .ok (.lastore, 1) := by decide +kernel
theorem dX10_block_405 : decode cX10_block 405 = .ok (.aload_n 0, 1) := by decide +kernel
theorem dX10_block_406 : decode cX10_block 406 = .ok (.getfield 54, 3) := by decide +kernel
theorem dX10_block_409 : decode cX10_block 409 = .ok (.iconst 0, 1) := by decide +kernel
theorem dX10_block_410 : decode cX10_block 410 = .ok (.lload_n 3, 1) := by decide +kernel
theorem dX10_block_411 : decode cX10_block 411 = .ok (.lload 5, 2) := by decide +kernel
theorem dX10_block_413 : decode cX10_block 413 = .ok (.ladd, 1) := by decide +kernel
theorem dX10_block_414 : decode cX10_block 414 = .ok (.lastore, 1) := by decide +kernel
theorem dX10_block_415 : decode cX10_block 415 = .ok (.iinc 2 1, 3) := by decide +kernel
theorem dX10_block_418 : decode cX10_block 418 = .ok (.goto (-230), 3) := by decide +kernel
theorem dX10_block_421 : decode cX10_block 421 = .ok (.iconst 0, 1) := by decide +kernel
theorem dX10_block_422 : decode cX10_block 422 = .ok (.istore_n 2, 1) := by decide +kernel
theorem dX10_block_423 : decode cX10_block 423 = .ok (.iload_n 2, 1) := by decide +kernel
theorem dX10_block_424 : decode cX10_block 424 = .ok (.bipush 8, 2) := by decide +kernel
theorem dX10_block_426 : decode cX10_block 426 = .ok (.if_icmp .ge 24, 3) := by decide +kernel
theorem dX10_block_429 : decode cX10_block 429 = .ok (.aload_n 0, 1) := by decide +kernel
theorem dX10_block_430 : decode cX10_block 430 = .ok (.getfield 51, 3) := by decide +kernel
theorem dX10_block_433 : decode cX10_block 433 = .ok (.iload_n 2, 1) := by decide +kernel
theorem dX10_block_434 : decode cX10_block 434 = .ok (.dup2, 1) := by decide +kernel
theorem dX10_block_435 : decode cX10_block 435 = .ok (.laload, 1) := by decide +kernel
theorem dX10_block_436 : decode cX10_block 436 = .ok (.aload_n 0, 1) := by decide +kernel
theorem dX10_block_437 : decode cX10_block 437 = .ok (.getfield 54, 3) := by decide +kernel
theorem dX10_block_440 : decode cX10_block 440 = .ok (.iload_n 2, 1) := by decide +kernel
theorem dX10_block_441 : decode cX10_block 441 = .ok (.laload, 1) := by decide +kernel
theorem dX10_block_442 : decode cX10_block 442 = .ok (.ladd, 1) := by decide +kernel
theorem dX10_block_443 : decode cX10_block 443 = .ok (.lastore, 1) := by decide +kernel
theorem dX10_block_444 : decode cX10_block 444 = .ok (.iinc 2 1, 3) := by decide +kernel
theorem dX10_block_447 : decode cX10_block 447 = .ok (.goto (-24), 3) := by decide +kernel
theorem dX10_block_450 : decode cX10_block 450 = .ok (.return_, 1) := by decide +kernel
theorem dX10_digests_0 : decode cX10_digests 0 = .ok (.aload_n 0, 1) := by decide +kernel
theorem dX10_digests_1 : decode cX10_digests 1 = .ok (.getfield 197, 3) := by decide +kernel
theorem dX10_digests_4 : decode cX10_digests 4 = .ok (.istore_n 1, 1) := by decide +kernel
theorem dX10_digests_5 : decode cX10_digests 5 = .ok (.aload_n 0, 1) := by decide +kernel
theorem dX10_digests_6 : decode cX10_digests 6 = .ok (.sipush 128, 3) := by decide +kernel
theorem dX10_digests_9 : decode cX10_digests 9 = .ok (.invokevirtual 200, 3) := by decide +kernel
theorem dX10_digests_12 : decode cX10_digests 12 = .ok (.aload_n 0, 1) := by decide +kernel
theorem dX10_digests_13 : decode cX10_digests 13 = .ok (.getfield 197, 3) := by decide +kernel
theorem dX10_digests_16 : decode cX10_digests 16 = .ok (.sipush 128, 3) := by decide +kernel
theorem dX10_digests_19 : decode cX10_digests 19 = .ok (.irem, 1) := by decide +kernel
theorem dX10_digests_20 : decode cX10_digests 20 = .ok (.bipush 112, 2) := by decide +kernel
theorem dX10_digests_22 : decode cX10_digests 22 = .ok (.if_icmp .eq 11, 3) := by decide +kernel
theorem dX10_digests_25 : decode cX10_digests 25 = .ok (.aload_n 0, 1) := by decide +kernel
theorem dX10_digests_26 : decode cX10_digests 26 = .ok (.iconst 0, 1) := by decide +kernel
theorem dX10_digests_27 : decode cX10_digests 27 = .ok (.invokevirtual 200, 3) := by decide +kernel
theorem dX10_digests_30 : decode cX10_digests 30 = .ok (.goto (-18), 3) := by decide +kernel
theorem dX10_digests_33 : decode cX10_digests 33 = .ok (.bipush 15, 2) := by decide +kernel
theorem dX10_digests_35 : decode cX10_digests 35 = .ok (.istore_n 2, 1) := by decide +kernel
theorem dX10_digests_36 : decode cX10_digests 36 = .ok (.iload_n 2, 1) := by decide +kernel
theorem dX10_digests_37 : decode cX10_digests 37 = .ok (.ifCond .lt 35, 3) := by decide +kernel
theorem dX10_digests_40 : decode cX10_digests 40 = .ok (.aload_n 0, 1) := by decide +kernel
theorem dX10_digests_41 : decode cX10_digests 41 = .ok (.iload_n 2, 1) := by decide +kernel
theorem dX10_digests_42 : decode cX10_digests 42 = .ok (.iconst 3, 1) := by decide +kernel
theorem dX10_digests_43 : decode cX10_digests 43 = .ok (.if_icmp .le 7, 3) := by decide +kernel
theorem dX10_digests_46 : decode cX10_digests 46 = .ok (.iconst 0, 1) := by decide +kernel
theorem dX10_digests_47 : decode cX10_digests 47 = .ok (.goto 16, 3) := by decide +kernel
theorem dX10_digests_50 : decode cX10_digests 50 = .ok (.bipush 8, 2) := by decide +kernel
theorem dX10_digests_52 : decode cX10_digests 52 = .ok (.iload_n 1, 1) := by decide +kernel
theorem dX10_digests_53 : decode cX10_digests 53 = .ok (.imul, 1) := by decide +kernel
theorem dX10_digests_54 : decode cX10_digests 54 = .ok (.bipush 8, 2) := by decide +kernel
theorem dX10_digests_56 : decode cX10_digests 56 = .ok (.iload_n 2, 1) := by decide +kernel
theorem dX10_digests_57 : decode cX10_digests 57 = .ok (.imul, 1) := by decide +kernel
theorem dX10_digests_58 : decode cX10_digests 58 = .ok (.iushr, 1) := by decide +kernel
theorem dX10_digests_59 : decode cX10_digests 59 = .ok (.sipush 255, 3) := by decide +kernel
theorem dX10_digests_62 : decode cX10_digests 62 = .ok (.iand, 1) := by decide +kernel
theorem dX10_digests_63 : decode cX10_digests 63 = .ok (.invokevirtual 200, 3) := by decide +kernel
theorem dX10_digests_66 : decode cX10_digests 66 = .ok (.iinc 2 (-1), 3) := by decide +kernel
theorem dX10_digests_69 : decode cX10_digests 69 = .ok (.goto (-33), 3) := by decide +kernel
theorem dX10_digests_72 : decode cX10_digests 72 = .ok (.iconst 0, 1) := by decide +kernel
theorem dX10_digests_73 : decode cX10_digests 73 = .ok (.istore_n 2, 1) := by decide +kernel
theorem dX10_digests_74 : decode cX10_digests 74 = .ok (.iload_n 2, 1) := by decide +kernel
theorem dX10_digests_75 : decode cX10_digests 75 = .ok (.bipush 8, 2) := by decide +kernel
theorem dX10_digests_77 : decode cX10_digests 77 = .ok (.if_icmp .ge 21, 3) := by decide +kernel
theorem dX10_digests_80 : decode cX10_digests 80 = .ok (.aload_n 0, 1) := by decide +kernel
theorem dX10_digests_81 : decode cX10_digests 81 = .ok (.getfield 51, 3) := by decide +kernel
theorem dX10_digests_84 : decode cX10_digests 84 = .ok (.iload_n 2, 1) := by decide +kernel
theorem dX10_digests_85 : decode cX10_digests 85 = .ok (.aload_n 0, 1) := by decide +kernel
theorem dX10_digests_86 : decode cX10_digests 86 = .ok (.getfield 30, 3) := by decide +kernel
theorem dX10_digests_89 : decode cX10_digests 89 = .ok (.iload_n 2, 1) := by decide +kernel
theorem dX10_digests_90 : decode cX10_digests 90 = .ok (.laload, 1) := by decide +kernel
theorem dX10_digests_91 : decode cX10_digests 91 = .ok (.lastore, 1) := by decide +kernel
theorem dX10_digests_92 : decode cX10_digests 92 = .ok (.iinc 2 1, 3) := by decide +kernel
theorem dX10_digests_95 : decode cX10_digests 95 = .ok (.goto (-21), 3) := by decide +kernel
theorem dX10_digests_98 : decode cX10_digests 98 = .ok (.iconst 0, 1) := by decide +kernel
theorem dX10_digests_99 : decode cX10_digests 99 = .ok (.istore_n 2, 1) := by decide +kernel
theorem dX10_digests_100 : decode cX10_digests 100 = .ok (.iload_n 2, 1) := by decide +kernel
theorem dX10_digests_101 : decode cX10_digests 101 = .ok (.aload_n 0, 1) := by decide +kernel
theorem dX10_digests_102 : decode cX10_digests 102 = .ok (.getfield 197, 3) := by decide +kernel
theorem dX10_digests_105 : decode cX10_digests 105 = .ok (.if_icmp .ge 17, 3) := by decide +kernel
theorem dX10_digests_108 : decode cX10_digests 108 = .ok (.aload_n 0, 1) := by decide +kernel
theorem dX10_digests_109 : decode cX10_digests 109 = .ok (.iload_n 2, 1) := by decide +kernel
theorem dX10_digests_110 : decode cX10_digests 110 = .ok (.invokevirtual 210, 3) := by decide +kernel
theorem dX10_digests_113 : decode cX10_digests 113 = .ok (.iinc 2 128, 6) := by decide +kernel
theorem dX10_digests_119 : decode cX10_digests 119 = .ok (.goto (-19), 3) := by decide +kernel
theorem dX10_digests_122 : decode cX10_digests 122 = .ok (.iconst 0, 1) := by decide +kernel
theorem dX10_digests_123 : decode cX10_digests 123 = .ok (.istore_n 2, 1) := by decide +kernel
theorem dX10_digests_124 : decode cX10_digests 124 = .ok (.iload_n 2, 1) := by decide +kernel
theorem dX10_digests_125 : decode cX10_digests 125 = .ok (.bipush 64, 2) := by decide +kernel
theorem dX10_digests_127 : decode cX10_digests 127 = .ok (.if_icmp .ge 39, 3) := by decide +kernel
theorem dX10_digests_130 : decode cX10_digests 130 = .ok (.aload_n 0, 1) := by decide +kernel
theorem dX10_digests_131 : decode cX10_digests 131 = .ok (.getfield 57, 3) := by decide +kernel
theorem dX10_digests_134 : decode cX10_digests 134 = .ok (.iload_n 2, 1) := by decide +kernel
theorem dX10_digests_135 : decode cX10_digests 135 = .ok (.aload_n 0, 1) := by decide +kernel
theorem dX10_digests_136 : decode cX10_digests 136 = .ok (.getfield 51, 3) := by decide +kernel
theorem dX10_digests_139 : decode cX10_digests 139 = .ok (.iload_n 2, 1) := by decide +kernel
theorem dX10_digests_140 : decode cX10_digests 140 = .ok (.iconst 3, 1) := by decide +kernel
theorem dX10_digests_141 : decode cX10_digests 141 = .ok (.ishr, 1) := by decide +kernel
theorem dX10_digests_142 : decode cX10_digests 142 = .ok (.laload, 1) := by decide +kernel
theorem dX10_digests_143 : decode cX10_digests 143 = .ok (.bipush 8, 2) := by decide +kernel
theorem dX10_digests_145 : decode cX10_digests 145 = .ok (.bipush 7, 2) := by decide +kernel
theorem dX10_digests_147 : decode cX10_digests 147 = .ok (.iload_n 2, 1) := by decide +kernel
theorem dX10_digests_148 : decode cX10_digests 148 = .ok (.bipush 7, 2) := by decide +kernel
theorem dX10_digests_150 : decode cX10_digests 150 = .ok (.iand, 1) := by decide +kernel
theorem dX10_digests_151 : decode cX10_digests 151 = .ok (.isub, 1) := by decide +kernel
theorem dX10_digests_152 : decode cX10_digests 152 = .ok (.imul, 1) := by decide +kernel
theorem dX10_digests_153 : decode cX10_digests 153 = .ok (.lushr, 1) := by decide +kernel
theorem dX10_digests_154 : decode cX10_digests 154 = .ok (.l2i, 1) := by decide +kernel
theorem dX10_digests_155 : decode cX10_digests 155 = .ok (.sipush 255, 3) := by decide +kernel
theorem dX10_digests_158 : decode cX10_digests 158 = .ok (.iand, 1) := by decide +kernel
theorem dX10_digests_159 : decode cX10_digests 159 = .ok (.iastore, 1) := by decide +kernel
theorem dX10_digests_160 : decode cX10_digests 160 = .ok (.iinc 2 1, 3) := by decide +kernel
theorem dX10_digests_163 : decode cX10_digests 163 = .ok (.goto (-39), 3) := by decide +kernel
theorem dX10_digests_166 : decode cX10_digests 166 = .ok (.aload_n 0, 1) := by decide +kernel
theorem dX10_digests_167 : decode cX10_digests 167 = .ok (.iconst 0, 1) := by decide +kernel
theorem dX10_digests_168 : decode cX10_digests 168 = .ok (.putfield 197, 3) := by decide +kernel
theorem dX10_digests_171 : decode cX10_digests 171 = .ok (.return_, 1) := by decide +kernel
theorem dX10_digestWords_0 : decode cX10_digestWords 0 = .ok (.iconst 0, 1) := by decide +kernel
theorem dX10_digestWords_1 : decode cX10_digestWords 1 = .ok (.istore_n 3, 1) := by decide +kernel
theorem dX10_digestWords_2 : decode cX10_digestWords 2 = .ok (.iload_n 3, 1) := by decide +kernel
theorem dX10_digestWords_3 : decode cX10_digestWords 3 = .ok (.iconst 4, 1) := by decide +kernel
theorem dX10_digestWords_4 : decode cX10_digestWords 4 = .ok (.if_icmp .ge 60, 3) := by decide +kernel
theorem dX10_digestWords_7 : decode cX10_digestWords 7 = .ok (.lconst 0, 1) := by decide +kernel
theorem dX10_digestWords_8 : decode cX10_digestWords 8 = .ok (.lstore 4, 2) := by decide +kernel
theorem dX10_digestWords_10 : decode cX10_digestWords 10 = .ok (.bipush 7, 2) := by decide +kernel
theorem dX10_digestWords_12 : decode cX10_digestWords 12 = .ok (.istore 6, 2) := by decide +kernel
theorem dX10_digestWords_14 : decode cX10_digestWords 14 = .ok (.iload 6, 2) := by decide +kernel
theorem dX10_digestWords_16 : decode cX10_digestWords 16 = .ok (.ifCond .lt 32, 3) := by decide +kernel
theorem dX10_digestWords_19 : decode cX10_digestWords 19 = .ok (.lload 4, 2) := by decide +kernel
theorem dX10_digestWords_21 : decode cX10_digestWords 21 = .ok (.bipush 8, 2) := by decide +kernel
theorem dX10_digestWords_23 : decode cX10_digestWords 23 = .ok (.lshl, 1) := by decide +kernel
theorem dX10_digestWords_24 : decode cX10_digestWords 24 = .ok (.aload_n 0, 1) := by decide +kernel
theorem dX10_digestWords_25 : decode cX10_digestWords 25 = .ok (.getfield 57, 3) := by decide +kernel
theorem dX10_digestWords_28 : decode cX10_digestWords 28 = .ok (.iload_n 2, 1) := by decide +kernel
theorem dX10_digestWords_29 : decode cX10_digestWords 29 = .ok (.bipush 8, 2) := by decide +kernel
theorem dX10_digestWords_31 : decode cX10_digestWords 31 = .ok (.iload_n 3, 1) := by decide +kernel
theorem dX10_digestWords_32 : decode cX10_digestWords 32 = .ok (.imul, 1) := by decide +kernel
theorem dX10_digestWords_33 : decode cX10_digestWords 33 = .ok (.iadd, 1) := by decide +kernel
theorem dX10_digestWords_34 : decode cX10_digestWords 34 = .ok (.iload 6, 2) := by decide +kernel
theorem dX10_digestWords_36 : decode cX10_digestWords 36 = .ok (.iadd, 1) := by decide +kernel
theorem dX10_digestWords_37 : decode cX10_digestWords 37 = .ok (.iaload, 1) := by decide +kernel
theorem dX10_digestWords_38 : decode cX10_digestWords 38 = .ok (.i2l, 1) := by decide +kernel
theorem dX10_digestWords_39 : decode cX10_digestWords 39 = .ok (.lor, 1) := by decide +kernel
theorem dX10_digestWords_40 : decode cX10_digestWords 40 = .ok (.lstore 4, 2) := by decide +kernel
theorem dX10_digestWords_42 : decode cX10_digestWords 42 = .ok (.iinc 6 (-1), 3) := by decide +kernel
theorem dX10_digestWords_45 : decode cX10_digestWords 45 = .ok (.goto (-31), 3) := by decide +kernel
theorem dX10_digestWords_48 : decode cX10_digestWords 48 = .ok (.aload_n 0, 1) := by decide +kernel
theorem dX10_digestWords_49 : decode cX10_digestWords 49 = .ok (.getfield 27, 3) := by decide +kernel
theorem dX10_digestWords_52 : decode cX10_digestWords 52 = .ok (.iload_n 1, 1) := by decide +kernel
theorem dX10_digestWords_53 : decode cX10_digestWords 53 = .ok (.iload_n 3, 1) := by decide +kernel
theorem dX10_digestWords_54 : decode cX10_digestWords 54 = .ok (.iadd, 1) := by decide +kernel
theorem dX10_digestWords_55 : decode cX10_digestWords 55 = .ok (.lload 4, 2) := by decide +kernel
theorem dX10_digestWords_57 : decode cX10_digestWords 57 = .ok (.lastore, 1) := by decide +kernel
theorem dX10_digestWords_58 : decode cX10_digestWords 58 = .ok (.iinc 3 1, 3) := by decide +kernel
theorem dX10_digestWords_61 : decode cX10_digestWords 61 = .ok (.goto (-59), 3) := by decide +kernel
theorem dX10_digestWords_64 : decode cX10_digestWords 64 = .ok (.return_, 1) := by decide +kernel
theorem dX10_limb_0 : decode cX10_limb 0 = .ok (.lload_n 0, 1) := by decide +kernel
theorem dX10_limb_1 : decode cX10_limb 1 = .ok (.bipush 16, 2) := by decide +kernel
theorem dX10_limb_3 : decode cX10_limb 3 = .ok (.iload_n 2, 1) := by decide +kernel
theorem dX10_limb_4 : decode cX10_limb 4 = .ok (.imul, 1) := by decide +kernel
theorem dX10_limb_5 : decode cX10_limb 5 = .ok (.lushr, 1) := by decide +kernel
theorem dX10_limb_6 : decode cX10_limb 6 = .ok (.ldc2_w 141, 3) := by decide +kernel
theorem dX10_limb_9 : decode cX10_limb 9 = .ok (.land, 1) := by decide +kernel
theorem dX10_limb_10 : decode cX10_limb 10 = .ok (.lreturn, 1) := by decide +kernel
theorem dX10_modulo_0 : decode cX10_modulo 0 = .ok (.iconst 0, 1) := by decide +kernel
theorem dX10_modulo_1 : decode cX10_modulo 1 = .ok (.istore_n 2, 1) := by decide +kernel
theorem dX10_modulo_2 : decode cX10_modulo 2 = .ok (.iload_n 2, 1) := by decide +kernel
theorem dX10_modulo_3 : decode cX10_modulo 3 = .ok (.bipush 18, 2) := by decide +kernel
theorem dX10_modulo_5 : decode cX10_modulo 5 = .ok (.if_icmp .ge 16, 3) := by decide +kernel
theorem dX10_modulo_8 : decode cX10_modulo 8 = .ok (.aload_n 0, 1) := by decide +kernel
theorem dX10_modulo_9 : decode cX10_modulo 9 = .ok (.getfield 63, 3) := by decide +kernel
theorem dX10_modulo_12 : decode cX10_modulo 12 = .ok (.iload_n 2, 1) := by decide +kernel
theorem dX10_modulo_13 : decode cX10_modulo 13 = .ok (.lconst 0, 1) := by decide +kernel
theorem dX10_modulo_14 : decode cX10_modulo 14 = .ok (.lastore, 1) := by decide +kernel
theorem dX10_modulo_15 : decode cX10_modulo 15 = .ok (.iinc 2 1, 3) := by decide +kernel
theorem dX10_modulo_18 : decode cX10_modulo 18 = .ok (.goto (-16), 3) := by decide +kernel
theorem dX10_modulo_21 : decode cX10_modulo 21 = .ok (.sipush 543, 3) := by decide +kernel
theorem dX10_modulo_24 : decode cX10_modulo 24 = .ok (.istore_n 2, 1) := by decide +kernel
theorem dX10_modulo_25 : decode cX10_modulo 25 = .ok (.iload_n 2, 1) := by decide +kernel
theorem dX10_modulo_26 : decode cX10_modulo 26 = .ok (.ifCond .lt 89, 3) := by decide +kernel
theorem dX10_modulo_29 : decode cX10_modulo 29 = .ok (.aload_n 0, 1) := by decide +kernel
theorem dX10_modulo_30 : decode cX10_modulo 30 = .ok (.getfield 60, 3) := by decide +kernel
theorem dX10_modulo_33 : decode cX10_modulo 33 = .ok (.iload_n 2, 1) := by decide +kernel
theorem dX10_modulo_34 : decode cX10_modulo 34 = .ok (.iconst 4, 1) := by decide +kernel
theorem dX10_modulo_35 : decode cX10_modulo 35 = .ok (.ishr, 1) := by decide +kernel
theorem dX10_modulo_36 : decode cX10_modulo 36 = .ok (.laload, 1) := by decide +kernel
theorem dX10_modulo_37 : decode cX10_modulo 37 = .ok (.iload_n 2, 1) := by decide +kernel
theorem dX10_modulo_38 : decode cX10_modulo 38 = .ok (.bipush 15, 2) := by decide +kernel
theorem dX10_modulo_40 : decode cX10_modulo 40 = .ok (.iand, 1) := by decide +kernel
theorem dX10_modulo_41 : decode cX10_modulo 41 = .ok (.lshr, 1) := by decide +kernel
theorem dX10_modulo_42 : decode cX10_modulo 42 = .ok (.lconst 1, 1) := by decide +kernel
theorem dX10_modulo_43 : decode cX10_modulo 43 = .ok (.land, 1) := by decide +kernel
theorem dX10_modulo_44 : decode cX10_modulo 44 = .ok (.lstore_n 3, 1) := by decide +kernel
theorem dX10_modulo_45 : decode cX10_modulo 45 = .ok (.iconst 0, 1) := by decide +kernel
theorem dX10_modulo_46 : decode cX10_modulo 46 = .ok (.istore 5, 2) := by decide +kernel
theorem dX10_modulo_48 : decode cX10_modulo 48 = .ok (.iload 5, 2) := by decide +kernel
theorem dX10_modulo_50 : decode cX10_modulo 50 = .ok (.bipush 17, 2) := by decide +kernel
theorem dX10_modulo_52 : decode cX10_modulo 52 = .ok (.if_icmp .ge 53, 3) := by decide +kernel
theorem dX10_modulo_55 : decode cX10_modulo 55 = .ok (.aload_n 0, 1) := by decide +kernel
theorem dX10_modulo_56 : decode cX10_modulo 56 = .ok (.getfield 63, 3) := by decide +kernel
theorem dX10_modulo_59 : decode cX10_modulo 59 = .ok (.iload 5, 2) := by decide +kernel
theorem dX10_modulo_61 : decode cX10_modulo 61 = .ok (.ldc2_w 86, 3) := by decide +kernel
theorem dX10_modulo_64 : decode cX10_modulo 64 = .ok (.aload_n 0, 1) := by decide +kernel
theorem dX10_modulo_65 : decode cX10_modulo 65 = .ok (.getfield 63, 3) := by decide +kernel
theorem dX10_modulo_68 : decode cX10_modulo 68 = .ok (.iload 5, 2) := by decide +kernel
theorem dX10_modulo_70 : decode cX10_modulo 70 = .ok (.laload, 1) := by decide +kernel
theorem dX10_modulo_71 : decode cX10_modulo 71 = .ok (.lmul, 1) := by decide +kernel
theorem dX10_modulo_72 : decode cX10_modulo 72 = .ok (.lload_n 3, 1) := by decide +kernel
theorem dX10_modulo_73 : decode cX10_modulo 73 = .ok (.ladd, 1) := by decide +kernel
theorem dX10_modulo_74 : decode cX10_modulo 74 = .ok (.lastore, 1) := by decide +kernel
theorem dX10_modulo_75 : decode cX10_modulo 75 = .ok (.aload_n 0, 1) := by decide +kernel
theorem dX10_modulo_76 : decode cX10_modulo 76 = .ok (.getfield 63, 3) := by decide +kernel
theorem dX10_modulo_79 : decode cX10_modulo 79 = .ok (.iload 5, 2) := by decide +kernel
theorem dX10_modulo_81 : decode cX10_modulo 81 = .ok (.laload, 1) := by decide +kernel
theorem dX10_modulo_82 : decode cX10_modulo 82 = .ok (.bipush 16, 2) := by decide +kernel
theorem dX10_modulo_84 : decode cX10_modulo 84 = .ok (.lshr, 1) := by decide +kernel
theorem dX10_modulo_85 : decode cX10_modulo 85 = .ok (.lstore_n 3, 1) := by decide +kernel
theorem dX10_modulo_86 : decode cX10_modulo 86 = .ok (.aload_n 0, 1) := by decide +kernel
theorem dX10_modulo_87 : decode cX10_modulo 87 = .ok (.getfield 63, 3) := by decide +kernel
theorem dX10_modulo_90 : decode cX10_modulo 90 = .ok (.iload 5, 2) := by decide +kernel
theorem dX10_modulo_92 : decode cX10_modulo 92 = .ok (.dup2, 1) := by decide +kernel
theorem dX10_modulo_93 : decode cX10_modulo 93 = .ok (.laload, 1) := by decide +kernel
theorem dX10_modulo_94 : decode cX10_modulo 94 = .ok (.ldc2_w 141, 3) := by decide +kernel
theorem dX10_modulo_97 : decode cX10_modulo 97 = .ok (.land, 1) := by decide +kernel
theorem dX10_modulo_98 : decode cX10_modulo 98 = .ok (.lastore, 1) := by decide +kernel
theorem dX10_modulo_99 : decode cX10_modulo 99 = .ok (.iinc 5 1, 3) := by decide +kernel
theorem dX10_modulo_102 : decode cX10_modulo 102 = .ok (.goto (-54), 3) := by decide +kernel
theorem dX10_modulo_105 : decode cX10_modulo 105 = .ok (.aload_n 0, 1) := by decide +kernel
theorem dX10_modulo_106 : decode cX10_modulo 106 = .ok (.invokevirtual 213, 3) := by decide +kernel
theorem dX10_modulo_109 : decode cX10_modulo 109 = .ok (.iinc 2 (-1), 3) := by decide +kernel
theorem dX10_modulo_112 : decode cX10_modulo 112 = .ok (.goto (-87), 3) := by decide +kernel
theorem dX10_modulo_115 : decode cX10_modulo 115 = .ok (.iconst 0, 1) := by decide +kernel
theorem dX10_modulo_116 : decode cX10_modulo 116 = .ok (.istore_n 2, 1) := by decide +kernel
theorem dX10_modulo_117 : decode cX10_modulo 117 = .ok (.iload_n 2, 1) := by decide +kernel
theorem dX10_modulo_118 : decode cX10_modulo 118 = .ok (.iconst 4, 1) := by decide +kernel
theorem dX10_modulo_119 : decode cX10_modulo 119 = .ok (.if_icmp .ge 67, 3) := by decide +kernel
theorem dX10_modulo_122 : decode cX10_modulo 122 = .ok (.aload_n 0, 1) := by decide +kernel
theorem dX10_modulo_123 : decode cX10_modulo 123 = .ok (.getfield 27, 3) := by decide +kernel
theorem dX10_modulo_126 : decode cX10_modulo 126 = .ok (.iload_n 1, 1) := by decide +kernel
theorem dX10_modulo_127 : decode cX10_modulo 127 = .ok (.iload_n 2, 1) := by decide +kernel
theorem dX10_modulo_128 : decode cX10_modulo 128 = .ok (.iadd, 1) := by decide +kernel
theorem dX10_modulo_129 : decode cX10_modulo 129 = .ok (.aload_n 0, 1) := by decide +kernel
theorem dX10_modulo_130 : decode cX10_modulo 130 = .ok (.getfield 63, 3) := by decide +kernel
theorem dX10_modulo_133 : decode cX10_modulo 133 = .ok (.iconst 4, 1) := by decide +kernel
theorem dX10_modulo_134 : decode cX10_modulo 134 = .ok (.iload_n 2, 1) := by decide +kernel
theorem dX10_modulo_135 : decode cX10_modulo 135 = .ok (.imul, 1) := by decide +kernel
theorem dX10_modulo_136 : decode cX10_modulo 136 = .ok (.laload, 1) := by decide +kernel
theorem dX10_modulo_137 : decode cX10_modulo 137 = .ok (.aload_n 0, 1) := by decide +kernel
theorem dX10_modulo_138 : decode cX10_modulo 138 = .ok (.getfield 63, 3) := by decide +kernel
theorem dX10_modulo_141 : decode cX10_modulo 141 = .ok (.iconst 4, 1) := by decide +kernel
theorem dX10_modulo_142 : decode cX10_modulo 142 = .ok (.iload_n 2, 1) := by decide +kernel
theorem dX10_modulo_143 : decode cX10_modulo 143 = .ok (.imul, 1) := by decide +kernel
theorem dX10_modulo_144 : decode cX10_modulo 144 = .ok (.iconst 1, 1) := by decide +kernel
theorem dX10_modulo_145 : decode cX10_modulo 145 = .ok (.iadd, 1) := by decide +kernel
theorem dX10_modulo_146 : decode cX10_modulo 146 = .ok (.laload, 1) := by decide +kernel
theorem dX10_modulo_147 : decode cX10_modulo 147 = .ok (.bipush 16, 2) := by decide +kernel
theorem dX10_modulo_149 : decode cX10_modulo 149 = .ok (.lshl, 1) := by decide +kernel
theorem dX10_modulo_150 : decode cX10_modulo 150 = .ok (.lor, 1) := by decide +kernel
theorem dX10_modulo_151 : decode cX10_modulo 151 = .ok (.aload_n 0, 1) := by decide +kernel
theorem dX10_modulo_152 : decode cX10_modulo 152 = .ok (.getfield 63, 3) := by decide +kernel
theorem dX10_modulo_155 : decode cX10_modulo 155 = .ok (.iconst 4, 1) := by decide +kernel
theorem dX10_modulo_156 : decode cX10_modulo 156 = .ok (.iload_n 2, 1) := by decide +kernel
theorem dX10_modulo_157 : decode cX10_modulo 157 = .ok (.imul, 1) := by decide +kernel
theorem dX10_modulo_158 : decode cX10_modulo 158 = .ok (.iconst 2, 1) := by decide +kernel
theorem dX10_modulo_159 : decode cX10_modulo 159 = .ok (.iadd, 1) := by decide +kernel
theorem dX10_modulo_160 : decode cX10_modulo 160 = .ok (.laload, 1) := by decide +kernel
theorem dX10_modulo_161 : decode cX10_modulo 161 = .ok (.bipush 32, 2) := by decide +kernel
theorem dX10_modulo_163 : decode cX10_modulo 163 = .ok (.lshl, 1) := by decide +kernel
theorem dX10_modulo_164 : decode cX10_modulo 164 = .ok (.lor, 1) := by decide +kernel
theorem dX10_modulo_165 : decode cX10_modulo 165 = .ok (.aload_n 0, 1) := by decide +kernel
theorem dX10_modulo_166 : decode cX10_modulo 166 = .ok (.getfield 63, 3) := by decide +kernel
theorem dX10_modulo_169 : decode cX10_modulo 169 = .ok (.iconst 4, 1) := by decide +kernel
theorem dX10_modulo_170 : decode cX10_modulo 170 = .ok (.iload_n 2, 1) := by decide +kernel
theorem dX10_modulo_171 : decode cX10_modulo 171 = .ok (.imul, 1) := by decide +kernel
theorem dX10_modulo_172 : decode cX10_modulo 172 = .ok (.iconst 3, 1) := by decide +kernel
theorem dX10_modulo_173 : decode cX10_modulo 173 = .ok (.iadd, 1) := by decide +kernel
theorem dX10_modulo_174 : decode cX10_modulo 174 = .ok (.laload, 1) := by decide +kernel
theorem dX10_modulo_175 : decode cX10_modulo 175 = .ok (.bipush 48, 2) := by decide +kernel
theorem dX10_modulo_177 : decode cX10_modulo 177 = .ok (.lshl, 1) := by decide +kernel
theorem dX10_modulo_178 : decode cX10_modulo 178 = .ok (.lor, 1) := by decide +kernel
theorem dX10_modulo_179 : decode cX10_modulo 179 = .ok (.lastore, 1) := by decide +kernel
theorem dX10_modulo_180 : decode cX10_modulo 180 = .ok (.iinc 2 1, 3) := by decide +kernel
theorem dX10_modulo_183 : decode cX10_modulo 183 = .ok (.goto (-66), 3) := by decide +kernel
theorem dX10_modulo_186 : decode cX10_modulo 186 = .ok (.return_, 1) := by decide +kernel
theorem dX10_lessOrder_0 : decode cX10_lessOrder 0 = .ok (.iconst 1, 1) := by decide +kernel
theorem dX10_lessOrder_1 : decode cX10_lessOrder 1 = .ok (.istore_n 1, 1) := by decide +kernel
theorem dX10_lessOrder_2 : decode cX10_lessOrder 2 = .ok (.aload_n 0, 1) := by decide +kernel
theorem dX10_lessOrder_3 : decode cX10_lessOrder 3 = .ok (.getfield 63, 3) := by decide +kernel
theorem dX10_lessOrder_6 : decode cX10_lessOrder 6 = .ok (.bipush 16, 2) := by decide +kernel
theorem dX10_lessOrder_8 : decode cX10_lessOrder 8 = .ok (.laload, 1) := by decide +kernel
theorem dX10_lessOrder_9 : decode cX10_lessOrder 9 = .ok (.lconst 0, 1) := by decide +kernel
theorem dX10_lessOrder_10 : decode cX10_lessOrder 10 = .ok (.lcmp, 1) := by decide +kernel
theorem dX10_lessOrder_11 : decode cX10_lessOrder 11 = .ok (.ifCond .eq 7, 3) := by decide +kernel
theorem dX10_lessOrder_14 : decode cX10_lessOrder 14 = .ok (.iconst 1, 1) := by decide +kernel
theorem dX10_lessOrder_15 : decode cX10_lessOrder 15 = .ok (.goto 4, 3) := by decide +kernel
theorem dX10_lessOrder_18 : decode cX10_lessOrder 18 = .ok (.iconst 0, 1) := by decide +kernel
theorem dX10_lessOrder_19 : decode cX10_lessOrder 19 = .ok (.istore_n 2, 1) := by decide +kernel
theorem dX10_lessOrder_20 : decode cX10_lessOrder 20 = .ok (.bipush 15, 2) := by decide +kernel
theorem dX10_lessOrder_22 : decode cX10_lessOrder 22 = .ok (.istore_n 3, 1) := by decide +kernel
theorem dX10_lessOrder_23 : decode cX10_lessOrder 23 = .ok (.iload_n 3, 1) := by decide +kernel
theorem dX10_lessOrder_24 : decode cX10_lessOrder 24 = .ok (.ifCond .lt 68, 3) := by decide +kernel
theorem dX10_lessOrder_27 : decode cX10_lessOrder 27 = .ok (.iload_n 2, 1) := by decide +kernel
theorem dX10_lessOrder_28 : decode cX10_lessOrder 28 = .ok (.ifCond .ne 64, 3) := by decide +kernel
theorem dX10_lessOrder_31 : decode cX10_lessOrder 31 = .ok (.aload_n 0, 1) := by decide +kernel
theorem dX10_lessOrder_32 : decode cX10_lessOrder 32 = .ok (.getfield 27, 3) := by decide +kernel
theorem dX10_lessOrder_35 : decode cX10_lessOrder 35 = .ok (.bipush 32, 2) := by decide +kernel
theorem dX10_lessOrder_37 : decode cX10_lessOrder 37 = .ok (.iload_n 3, 1) := by decide +kernel
theorem dX10_lessOrder_38 : decode cX10_lessOrder 38 = .ok (.iconst 4, 1) := by decide +kernel
theorem dX10_lessOrder_39 : decode cX10_lessOrder 39 = .ok (.idiv, 1) := by decide +kernel
theorem dX10_lessOrder_40 : decode cX10_lessOrder 40 = .ok (.iadd, 1) := by decide +kernel
theorem dX10_lessOrder_41 : decode cX10_lessOrder 41 = .ok (.laload, 1) := by decide +kernel
theorem dX10_lessOrder_42 : decode cX10_lessOrder 42 = .ok (.iload_n 3, 1) := by decide +kernel
theorem dX10_lessOrder_43 : decode cX10_lessOrder 43 = .ok (.iconst 4, 1) := by decide +kernel
theorem dX10_lessOrder_44 : decode cX10_lessOrder 44 = .ok (.irem, 1) := by decide +kernel
theorem dX10_lessOrder_45 : decode cX10_lessOrder 45 = .ok (.invokestatic 216, 3) := by decide +kernel
theorem dX10_lessOrder_48 : decode cX10_lessOrder 48 = .ok (.lstore 4, 2) := by decide +kernel
theorem dX10_lessOrder_50 : decode cX10_lessOrder 50 = .ok (.aload_n 0, 1) := by decide +kernel
theorem dX10_lessOrder_51 : decode cX10_lessOrder 51 = .ok (.getfield 63, 3) := by decide +kernel
theorem dX10_lessOrder_54 : decode cX10_lessOrder 54 = .ok (.iload_n 3, 1) := by decide +kernel
theorem dX10_lessOrder_55 : decode cX10_lessOrder 55 = .ok (.laload, 1) := by decide +kernel
theorem dX10_lessOrder_56 : decode cX10_lessOrder 56 = .ok (.lload 4, 2) := by decide +kernel
theorem dX10_lessOrder_58 : decode cX10_lessOrder 58 = .ok (.lcmp, 1) := by decide +kernel
theorem dX10_lessOrder_59 : decode cX10_lessOrder 59 = .ok (.ifCond .eq 7, 3) := by decide +kernel
theorem dX10_lessOrder_62 : decode cX10_lessOrder 62 = .ok (.iconst 1, 1) := by decide +kernel
theorem dX10_lessOrder_63 : decode cX10_lessOrder 63 = .ok (.goto 4, 3) := by decide +kernel
theorem dX10_lessOrder_66 : decode cX10_lessOrder 66 = .ok (.iconst 0, 1) := by decide +kernel
theorem dX10_lessOrder_67 : decode cX10_lessOrder 67 = .ok (.istore_n 2, 1) := by decide +kernel
theorem dX10_lessOrder_68 : decode cX10_lessOrder 68 = .ok (.aload_n 0, 1) := by decide +kernel
theorem dX10_lessOrder_69 : decode cX10_lessOrder 69 = .ok (.getfield 63, 3) := by decide +kernel
theorem dX10_lessOrder_72 : decode cX10_lessOrder 72 = .ok (.iload_n 3, 1) := by decide +kernel
theorem dX10_lessOrder_73 : decode cX10_lessOrder 73 = .ok (.laload, 1) := by decide +kernel
theorem dX10_lessOrder_74 : decode cX10_lessOrder 74 = .ok (.lload 4, 2) := by decide +kernel
theorem dX10_lessOrder_76 : decode cX10_lessOrder 76 = .ok (.lcmp, 1) := by decide +kernel
theorem dX10_lessOrder_77 : decode cX10_lessOrder 77 = .ok (.ifCond .lt 7, 3) := by decide +kernel
theorem dX10_lessOrder_80 : decode cX10_lessOrder 80 = .ok (.iconst 1, 1) := by decide +kernel
theorem dX10_lessOrder_81 : decode cX10_lessOrder 81 = .ok (.goto 4, 3) := by decide +kernel
theorem dX10_lessOrder_84 : decode cX10_lessOrder 84 = .ok (.iconst 0, 1) := by decide +kernel
theorem dX10_lessOrder_85 : decode cX10_lessOrder 85 = .ok (.istore_n 1, 1) := by decide +kernel
theorem dX10_lessOrder_86 : decode cX10_lessOrder 86 = .ok (.iinc 3 (-1), 3) := by decide +kernel
theorem dX10_lessOrder_89 : decode cX10_lessOrder 89 = .ok (.goto (-66), 3) := by decide +kernel
theorem dX10_lessOrder_92 : decode cX10_lessOrder 92 = .ok (.iload_n 1, 1) := by decide +kernel
theorem dX10_lessOrder_93 : decode cX10_lessOrder 93 = .ok (.ifCond .eq 87, 3) := by decide +kernel
theorem dX10_lessOrder_96 : decode cX10_lessOrder 96 = .ok (.lconst 0, 1) := by decide +kernel
theorem dX10_lessOrder_97 : decode cX10_lessOrder 97 = .ok (.lstore_n 3, 1) := by decide +kernel
theorem dX10_lessOrder_98 : decode cX10_lessOrder 98 = .ok (.iconst 0, 1) := by decide +kernel
theorem dX10_lessOrder_99 : decode cX10_lessOrder 99 = .ok (.istore 5, 2) := by decide +kernel
theorem dX10_lessOrder_101 : decode cX10_lessOrder 101 = .ok (.iload 5, 2) := by decide +kernel
theorem dX10_lessOrder_103 : decode cX10_lessOrder 103 = .ok (.bipush 17, 2) := by decide +kernel
theorem dX10_lessOrder_105 : decode cX10_lessOrder 105 = .ok (.if_icmp .ge 75, 3) := by decide +kernel
theorem dX10_lessOrder_108 : decode cX10_lessOrder 108 = .ok (.aload_n 0, 1) := by decide +kernel
theorem dX10_lessOrder_109 : decode cX10_lessOrder 109 = .ok (.getfield 63, 3) := by decide +kernel
theorem dX10_lessOrder_112 : decode cX10_lessOrder 112 = .ok (.iload 5, 2) := by decide +kernel
theorem dX10_lessOrder_114 : decode cX10_lessOrder 114 = .ok (.dup2, 1) := by decide +kernel
theorem dX10_lessOrder_115 : decode cX10_lessOrder 115 = .ok (.laload, 1) := by decide +kernel
theorem dX10_lessOrder_116 : decode cX10_lessOrder 116 = .ok (.lload_n 3, 1) := by decide +kernel
theorem dX10_lessOrder_117 : decode cX10_lessOrder 117 = .ok (.iload 5, 2) := by decide +kernel
theorem dX10_lessOrder_119 : decode cX10_lessOrder 119 = .ok (.bipush 16, 2) := by decide +kernel
theorem dX10_lessOrder_121 : decode cX10_lessOrder 121 = .ok (.if_icmp .ge 25, 3) := by decide +kernel
theorem dX10_lessOrder_124 : decode cX10_lessOrder 124 = .ok (.aload_n 0, 1) := by decide +kernel
theorem dX10_lessOrder_125 : decode cX10_lessOrder 125 = .ok (.getfield 27, 3) := by decide +kernel
theorem dX10_lessOrder_128 : decode cX10_lessOrder 128 = .ok (.bipush 32, 2) := by decide +kernel
theorem dX10_lessOrder_130 : decode cX10_lessOrder 130 = .ok (.iload 5, 2) := by decide +kernel
theorem dX10_lessOrder_132 : decode cX10_lessOrder 132 = .ok (.iconst 4, 1) := by decide +kernel
theorem dX10_lessOrder_133 : decode cX10_lessOrder 133 = .ok (.idiv, 1) := by decide +kernel
theorem dX10_lessOrder_134 : decode cX10_lessOrder 134 = .ok (.iadd, 1) := by decide +kernel
theorem dX10_lessOrder_135 : decode cX10_lessOrder 135 = .ok (.laload, 1) := by decide +kernel
theorem dX10_lessOrder_136 : decode cX10_lessOrder 136 = .ok (.iload 5, 2) := by decide +kernel
theorem dX10_lessOrder_138 : decode cX10_lessOrder 138 = .ok (.iconst 4, 1) := by decide +kernel
theorem dX10_lessOrder_139 : decode cX10_lessOrder 139 = .ok (.irem, 1) := by decide +kernel
theorem dX10_lessOrder_140 : decode cX10_lessOrder 140 = .ok (.invokestatic 216, 3) := by decide +kernel
theorem dX10_lessOrder_143 : decode cX10_lessOrder 143 = .ok (.goto 4, 3) := by decide +kernel
theorem dX10_lessOrder_146 : decode cX10_lessOrder 146 = .ok (.lconst 0, 1) := by decide +kernel
theorem dX10_lessOrder_147 : decode cX10_lessOrder 147 = .ok (.lsub, 1) := by decide +kernel
theorem dX10_lessOrder_148 : decode cX10_lessOrder 148 = .ok (.ladd, 1) := by decide +kernel
theorem dX10_lessOrder_149 : decode cX10_lessOrder 149 = .ok (.lastore, 1) := by decide +kernel
theorem dX10_lessOrder_150 : decode cX10_lessOrder 150 = .ok (.aload_n 0, 1) := by decide +kernel
theorem dX10_lessOrder_151 : decode cX10_lessOrder 151 = .ok (.getfield 63, 3) := by decide +kernel
theorem dX10_lessOrder_154 : decode cX10_lessOrder 154 = .ok (.iload 5, 2) := by decide +kernel
theorem dX10_lessOrder_156 : decode cX10_lessOrder 156 = .ok (.laload, 1) := by decide +kernel
theorem dX10_lessOrder_157 : decode cX10_lessOrder 157 = .ok (.bipush 16, 2) := by decide +kernel
theorem dX10_lessOrder_159 : decode cX10_lessOrder 159 = .ok (.lshr, 1) := by decide +kernel
theorem dX10_lessOrder_160 : decode cX10_lessOrder 160 = .ok (.lstore_n 3, 1) := by decide +kernel
theorem dX10_lessOrder_161 : decode cX10_lessOrder 161 = .ok (.aload_n 0, 1) := by decide +kernel
theorem dX10_lessOrder_162 : decode cX10_lessOrder 162 = .ok (.getfield 63, 3) := by decide +kernel
theorem dX10_lessOrder_165 : decode cX10_lessOrder 165 = .ok (.iload 5, 2) := by decide +kernel
theorem dX10_lessOrder_167 : decode cX10_lessOrder 167 = .ok (.dup2, 1) := by decide +kernel
theorem dX10_lessOrder_168 : decode cX10_lessOrder 168 = .ok (.laload, 1) := by decide +kernel
theorem dX10_lessOrder_169 : decode cX10_lessOrder 169 = .ok (.ldc2_w 141, 3) := by decide +kernel
theorem dX10_lessOrder_172 : decode cX10_lessOrder 172 = .ok (.land, 1) := by decide +kernel
theorem dX10_lessOrder_173 : decode cX10_lessOrder 173 = .ok (.lastore, 1) := by decide +kernel
theorem dX10_lessOrder_174 : decode cX10_lessOrder 174 = .ok (.iinc 5 1, 3) := by decide +kernel
theorem dX10_lessOrder_177 : decode cX10_lessOrder 177 = .ok (.goto (-76), 3) := by decide +kernel
theorem dX10_lessOrder_180 : decode cX10_lessOrder 180 = .ok (.return_, 1) := by decide +kernel
theorem dX10_scalarOf_0 : decode cX10_scalarOf 0 = .ok (.iconst 0, 1) := by decide +kernel
theorem dX10_scalarOf_1 : decode cX10_scalarOf 1 = .ok (.istore 5, 2) := by decide +kernel
theorem dX10_scalarOf_3 : decode cX10_scalarOf 3 = .ok (.iload 5, 2) := by decide +kernel
theorem dX10_scalarOf_5 : decode cX10_scalarOf 5 = .ok (.bipush 40, 2) := by decide +kernel
theorem dX10_scalarOf_7 : decode cX10_scalarOf 7 = .ok (.if_icmp .ge 17, 3) := by decide +kernel
theorem dX10_scalarOf_10 : decode cX10_scalarOf 10 = .ok (.aload_n 0, 1) := by decide +kernel
theorem dX10_scalarOf_11 : decode cX10_scalarOf 11 = .ok (.getfield 60, 3) := by decide +kernel
theorem dX10_scalarOf_14 : decode cX10_scalarOf 14 = .ok (.iload 5, 2) := by decide +kernel
theorem dX10_scalarOf_16 : decode cX10_scalarOf 16 = .ok (.lconst 0, 1) := by decide +kernel
theorem dX10_scalarOf_17 : decode cX10_scalarOf 17 = .ok (.lastore, 1) := by decide +kernel
theorem dX10_scalarOf_18 : decode cX10_scalarOf 18 = .ok (.iinc 5 1, 3) := by decide +kernel
theorem dX10_scalarOf_21 : decode cX10_scalarOf 21 = .ok (.goto (-18), 3) := by decide +kernel
theorem dX10_scalarOf_24 : decode cX10_scalarOf 24 = .ok (.iconst 0, 1) := by decide +kernel
theorem dX10_scalarOf_25 : decode cX10_scalarOf 25 = .ok (.istore 5, 2) := by decide +kernel
theorem dX10_scalarOf_27 : decode cX10_scalarOf 27 = .ok (.iload 5, 2) := by decide +kernel
theorem dX10_scalarOf_29 : decode cX10_scalarOf 29 = .ok (.bipush 16, 2) := by decide +kernel
theorem dX10_scalarOf_31 : decode cX10_scalarOf 31 = .ok (.if_icmp .ge 75, 3) := by decide +kernel
theorem dX10_scalarOf_34 : decode cX10_scalarOf 34 = .ok (.iconst 0, 1) := by decide +kernel
theorem dX10_scalarOf_35 : decode cX10_scalarOf 35 = .ok (.istore 6, 2) := by decide +kernel
theorem dX10_scalarOf_37 : decode cX10_scalarOf 37 = .ok (.iload 6, 2) := by decide +kernel
theorem dX10_scalarOf_39 : decode cX10_scalarOf 39 = .ok (.bipush 16, 2) := by decide +kernel
theorem dX10_scalarOf_41 : decode cX10_scalarOf 41 = .ok (.if_icmp .ge 59, 3) := by decide +kernel
theorem dX10_scalarOf_44 : decode cX10_scalarOf 44 = .ok (.aload_n 0, 1) := by decide +kernel
theorem dX10_scalarOf_45 : decode cX10_scalarOf 45 = .ok (.getfield 60, 3) := by decide +kernel
theorem dX10_scalarOf_48 : decode cX10_scalarOf 48 = .ok (.iload 5, 2) := by decide +kernel
theorem dX10_scalarOf_50 : decode cX10_scalarOf 50 = .ok (.iload 6, 2) := by decide +kernel
theorem dX10_scalarOf_52 : decode cX10_scalarOf 52 = .ok (.iadd, 1) := by decide +kernel
theorem dX10_scalarOf_53 : decode cX10_scalarOf 53 = .ok (.dup2, 1) := by decide +kernel
theorem dX10_scalarOf_54 : decode cX10_scalarOf 54 = .ok (.laload, 1) := by decide +kernel
theorem dX10_scalarOf_55 : decode cX10_scalarOf 55 = .ok (.aload_n 0, 1) := by decide +kernel
theorem dX10_scalarOf_56 : decode cX10_scalarOf 56 = .ok (.getfield 27, 3) := by decide +kernel
theorem dX10_scalarOf_59 : decode cX10_scalarOf 59 = .ok (.iload_n 2, 1) := by decide +kernel
theorem dX10_scalarOf_60 : decode cX10_scalarOf 60 = .ok (.iload 5, 2) := by decide +kernel
theorem dX10_scalarOf_62 : decode cX10_scalarOf 62 = .ok (.iconst 4, 1) := by decide +kernel
theorem dX10_scalarOf_63 : decode cX10_scalarOf 63 = .ok (.idiv, 1) := by decide +kernel
theorem dX10_scalarOf_64 : decode cX10_scalarOf 64 = .ok (.iadd, 1) := by decide +kernel
theorem dX10_scalarOf_65 : decode cX10_scalarOf 65 = .ok (.laload, 1) := by decide +kernel
theorem dX10_scalarOf_66 : decode cX10_scalarOf 66 = .ok (.iload 5, 2) := by decide +kernel
theorem dX10_scalarOf_68 : decode cX10_scalarOf 68 = .ok (.iconst 4, 1) := by decide +kernel
theorem dX10_scalarOf_69 : decode cX10_scalarOf 69 = .ok (.irem, 1) := by decide +kernel
theorem dX10_scalarOf_70 : decode cX10_scalarOf 70 = .ok (.invokestatic 216, 3) := by decide +kernel
theorem dX10_scalarOf_73 : decode cX10_scalarOf 73 = .ok (.aload_n 0, 1) := by decide +kernel
theorem dX10_scalarOf_74 : decode cX10_scalarOf 74 = .ok (.getfield 27, 3) := by decide +kernel
theorem dX10_scalarOf_77 : decode cX10_scalarOf 77 = .ok (.iload_n 3, 1) := by decide +kernel
theorem dX10_scalarOf_78 : decode cX10_scalarOf 78 = .ok (.iload 6, 2) := by decide +kernel
theorem dX10_scalarOf_80 : decode cX10_scalarOf 80 = .ok (.iconst 4, 1) := by decide +kernel
theorem dX10_scalarOf_81 : decode cX10_scalarOf 81 = .ok (.idiv, 1) := by decide +kernel
theorem dX10_scalarOf_82 : decode cX10_scalarOf 82 = .ok (.iadd, 1) := by decide +kernel
theorem dX10_scalarOf_83 : decode cX10_scalarOf 83 = .ok (.laload, 1) := by decide +kernel
theorem dX10_scalarOf_84 : decode cX10_scalarOf 84 = .ok (.iload 6, 2) := by decide +kernel
theorem dX10_scalarOf_86 : decode cX10_scalarOf 86 = .ok (.iconst 4, 1) := by decide +kernel
theorem dX10_scalarOf_87 : decode cX10_scalarOf 87 = .ok (.irem, 1) := by decide +kernel
theorem dX10_scalarOf_88 : decode cX10_scalarOf 88 = .ok (.invokestatic 216, 3) := by decide +kernel
theorem dX10_scalarOf_91 : decode cX10_scalarOf 91 = .ok (.lmul, 1) := by decide +kernel
theorem dX10_scalarOf_92 : decode cX10_scalarOf 92 = .ok (.ladd, 1) := by decide +kernel
theorem dX10_scalarOf_93 : decode cX10_scalarOf 93 = .ok (.lastore, 1) := by decide +kernel
theorem dX10_scalarOf_94 : decode cX10_scalarOf 94 = .ok (.iinc 6 1, 3) := by decide +kernel
theorem dX10_scalarOf_97 : decode cX10_scalarOf 97 = .ok (.goto (-60), 3) := by decide +kernel
theorem dX10_scalarOf_100 : decode cX10_scalarOf 100 = .ok (.iinc 5 1, 3) := by decide +kernel
theorem dX10_scalarOf_103 : decode cX10_scalarOf 103 = .ok (.goto (-76), 3) := by decide +kernel
theorem dX10_scalarOf_106 : decode cX10_scalarOf 106 = .ok (.iconst 0, 1) := by decide +kernel
theorem dX10_scalarOf_107 : decode cX10_scalarOf 107 = .ok (.istore 5, 2) := by decide +kernel
theorem dX10_scalarOf_109 : decode cX10_scalarOf 109 = .ok (.iload 5, 2) := by decide +kernel
theorem dX10_scalarOf_111 : decode cX10_scalarOf 111 = .ok (.bipush 16, 2) := by decide +kernel
theorem dX10_scalarOf_113 : decode cX10_scalarOf 113 = .ok (.if_icmp .ge 38, 3) := by decide +kernel
theorem dX10_scalarOf_116 : decode cX10_scalarOf 116 = .ok (.aload_n 0, 1) := by decide +kernel
theorem dX10_scalarOf_117 : decode cX10_scalarOf 117 = .ok (.getfield 60, 3) := by decide +kernel
theorem dX10_scalarOf_120 : decode cX10_scalarOf 120 = .ok (.iload 5, 2) := by decide +kernel
theorem dX10_scalarOf_122 : decode cX10_scalarOf 122 = .ok (.dup2, 1) := by decide +kernel
theorem dX10_scalarOf_123 : decode cX10_scalarOf 123 = .ok (.laload, 1) := by decide +kernel
theorem dX10_scalarOf_124 : decode cX10_scalarOf 124 = .ok (.aload_n 0, 1) := by decide +kernel
theorem dX10_scalarOf_125 : decode cX10_scalarOf 125 = .ok (.getfield 27, 3) := by decide +kernel
theorem dX10_scalarOf_128 : decode cX10_scalarOf 128 = .ok (.iload 4, 2) := by decide +kernel
theorem dX10_scalarOf_130 : decode cX10_scalarOf 130 = .ok (.iload 5, 2) := by decide +kernel
theorem dX10_scalarOf_132 : decode cX10_scalarOf 132 = .ok (.iconst 4, 1) := by decide +kernel
theorem dX10_scalarOf_133 : decode cX10_scalarOf 133 = .ok (.idiv, 1) := by decide +kernel
theorem dX10_scalarOf_134 : decode cX10_scalarOf 134 = .ok (.iadd, 1) := by decide +kernel
theorem dX10_scalarOf_135 : decode cX10_scalarOf 135 = .ok (.laload, 1) := by decide +kernel
theorem dX10_scalarOf_136 : decode cX10_scalarOf 136 = .ok (.iload 5, 2) := by decide +kernel
theorem dX10_scalarOf_138 : decode cX10_scalarOf 138 = .ok (.iconst 4, 1) := by decide +kernel
theorem dX10_scalarOf_139 : decode cX10_scalarOf 139 = .ok (.irem, 1) := by decide +kernel
theorem dX10_scalarOf_140 : decode cX10_scalarOf 140 = .ok (.invokestatic 216, 3) := by decide +kernel
theorem dX10_scalarOf_143 : decode cX10_scalarOf 143 = .ok (.ladd, 1) := by decide +kernel
theorem dX10_scalarOf_144 : decode cX10_scalarOf 144 = .ok (.lastore, 1) := by decide +kernel
theorem dX10_scalarOf_145 : decode cX10_scalarOf 145 = .ok (.iinc 5 1, 3) := by decide +kernel
theorem dX10_scalarOf_148 : decode cX10_scalarOf 148 = .ok (.goto (-39), 3) := by decide +kernel
theorem dX10_scalarOf_151 : decode cX10_scalarOf 151 = .ok (.iconst 0, 1) := by decide +kernel
theorem dX10_scalarOf_152 : decode cX10_scalarOf 152 = .ok (.istore 5, 2) := by decide +kernel
theorem dX10_scalarOf_154 : decode cX10_scalarOf 154 = .ok (.iload 5, 2) := by decide +kernel
theorem dX10_scalarOf_156 : decode cX10_scalarOf 156 = .ok (.bipush 39, 2) := by decide +kernel
theorem dX10_scalarOf_158 : decode cX10_scalarOf 158 = .ok (.if_icmp .ge 44, 3) := by decide +kernel
theorem dX10_scalarOf_161 : decode cX10_scalarOf 161 = .ok (.aload_n 0, 1) := by decide +kernel
theorem dX10_scalarOf_162 : decode cX10_scalarOf 162 = .ok (.getfield 60, 3) := by decide +kernel
theorem dX10_scalarOf_165 : decode cX10_scalarOf 165 = .ok (.iload 5, 2) := by decide +kernel
theorem dX10_scalarOf_167 : decode cX10_scalarOf 167 = .ok (.iconst 1, 1) := by decide +kernel
theorem dX10_scalarOf_168 : decode cX10_scalarOf 168 = .ok (.iadd, 1) := by decide +kernel
theorem dX10_scalarOf_169 : decode cX10_scalarOf 169 = .ok (.dup2, 1) := by decide +kernel
theorem dX10_scalarOf_170 : decode cX10_scalarOf 170 = .ok (.laload, 1) := by decide +kernel
theorem dX10_scalarOf_171 : decode cX10_scalarOf 171 = .ok (.aload_n 0, 1) := by decide +kernel
theorem dX10_scalarOf_172 : decode cX10_scalarOf 172 = .ok (.getfield 60, 3) := by decide +kernel
theorem dX10_scalarOf_175 : decode cX10_scalarOf 175 = .ok (.iload 5, 2) := by decide +kernel
theorem dX10_scalarOf_177 : decode cX10_scalarOf 177 = .ok (.laload, 1) := by decide +kernel
theorem dX10_scalarOf_178 : decode cX10_scalarOf 178 = .ok (.bipush 16, 2) := by decide +kernel
theorem dX10_scalarOf_180 : decode cX10_scalarOf 180 = .ok (.lshr, 1) := by decide +kernel
theorem dX10_scalarOf_181 : decode cX10_scalarOf 181 = .ok (.ladd, 1) := by decide +kernel
theorem dX10_scalarOf_182 : decode cX10_scalarOf 182 = .ok (.lastore, 1) := by decide +kernel
theorem dX10_scalarOf_183 : decode cX10_scalarOf 183 = .ok (.aload_n 0, 1) := by decide +kernel
theorem dX10_scalarOf_184 : decode cX10_scalarOf 184 = .ok (.getfield 60, 3) := by decide +kernel
theorem dX10_scalarOf_187 : decode cX10_scalarOf 187 = .ok (.iload 5, 2) := by decide +kernel
theorem dX10_scalarOf_189 : decode cX10_scalarOf 189 = .ok (.dup2, 1) := by decide +kernel
theorem dX10_scalarOf_190 : decode cX10_scalarOf 190 = .ok (.laload, 1) := by decide +kernel
theorem dX10_scalarOf_191 : decode cX10_scalarOf 191 = .ok (.ldc2_w 141, 3) := by decide +kernel
theorem dX10_scalarOf_194 : decode cX10_scalarOf 194 = .ok (.land, 1) := by decide +kernel
theorem dX10_scalarOf_195 : decode cX10_scalarOf 195 = .ok (.lastore, 1) := by decide +kernel
theorem dX10_scalarOf_196 : decode cX10_scalarOf 196 = .ok (.iinc 5 1, 3) := by decide +kernel
theorem dX10_scalarOf_199 : decode cX10_scalarOf 199 = .ok (.goto (-45), 3) := by decide +kernel
theorem dX10_scalarOf_202 : decode cX10_scalarOf 202 = .ok (.aload_n 0, 1) := by decide +kernel
theorem dX10_scalarOf_203 : decode cX10_scalarOf 203 = .ok (.iload_n 1, 1) := by decide +kernel
theorem dX10_scalarOf_204 : decode cX10_scalarOf 204 = .ok (.invokevirtual 219, 3) := by decide +kernel
theorem dX10_scalarOf_207 : decode cX10_scalarOf 207 = .ok (.return_, 1) := by decide +kernel
theorem dX10_digestScalar_0 : decode cX10_digestScalar 0 = .ok (.iconst 0, 1) := by decide +kernel
theorem dX10_digestScalar_1 : decode cX10_digestScalar 1 = .ok (.istore_n 2, 1) := by decide +kernel
theorem dX10_digestScalar_2 : decode cX10_digestScalar 2 = .ok (.iload_n 2, 1) := by decide +kernel
theorem dX10_digestScalar_3 : decode cX10_digestScalar 3 = .ok (.bipush 40, 2) := by decide +kernel
theorem dX10_digestScalar_5 : decode cX10_digestScalar 5 = .ok (.if_icmp .ge 48, 3) := by decide +kernel
theorem dX10_digestScalar_8 : decode cX10_digestScalar 8 = .ok (.aload_n 0, 1) := by decide +kernel
theorem dX10_digestScalar_9 : decode cX10_digestScalar 9 = .ok (.getfield 60, 3) := by decide +kernel
theorem dX10_digestScalar_12 : decode cX10_digestScalar 12 = .ok (.iload_n 2, 1) := by decide +kernel
theorem dX10_digestScalar_13 : decode cX10_digestScalar 13 = .ok (.iload_n 2, 1) := by decide +kernel
theorem dX10_digestScalar_14 : decode cX10_digestScalar 14 = .ok (.bipush 32, 2) := by decide +kernel
theorem dX10_digestScalar_16 : decode cX10_digestScalar 16 = .ok (.if_icmp .ge 29, 3) := by decide +kernel
theorem dX10_digestScalar_19 : decode cX10_digestScalar 19 = .ok (.aload_n 0, 1) := by decide +kernel
theorem dX10_digestScalar_20 : decode cX10_digestScalar 20 = .ok (.getfield 57, 3) := by decide +kernel
theorem dX10_digestScalar_23 : decode cX10_digestScalar 23 = .ok (.iconst 2, 1) := by decide +kernel
theorem dX10_digestScalar_24 : decode cX10_digestScalar 24 = .ok (.iload_n 2, 1) := by decide +kernel
theorem dX10_digestScalar_25 : decode cX10_digestScalar 25 = .ok (.imul, 1) := by decide +kernel
theorem dX10_digestScalar_26 : decode cX10_digestScalar 26 = .ok (.iaload, 1) := by decide +kernel
theorem dX10_digestScalar_27 : decode cX10_digestScalar 27 = .ok (.aload_n 0, 1) := by decide +kernel
theorem dX10_digestScalar_28 : decode cX10_digestScalar 28 = .ok (.getfield 57, 3) := by decide +kernel
theorem dX10_digestScalar_31 : decode cX10_digestScalar 31 = .ok (.iconst 2, 1) := by decide +kernel
theorem dX10_digestScalar_32 : decode cX10_digestScalar 32 = .ok (.iload_n 2, 1) := by decide +kernel
theorem dX10_digestScalar_33 : decode cX10_digestScalar 33 = .ok (.imul, 1) := by decide +kernel
theorem dX10_digestScalar_34 : decode cX10_digestScalar 34 = .ok (.iconst 1, 1) := by decide +kernel
theorem dX10_digestScalar_35 : decode cX10_digestScalar 35 = .ok (.iadd, 1) := by decide +kernel
theorem dX10_digestScalar_36 : decode cX10_digestScalar 36 = .ok (.iaload, 1) := by decide +kernel
theorem dX10_digestScalar_37 : decode cX10_digestScalar 37 = .ok (.bipush 8, 2) := by decide +kernel
theorem dX10_digestScalar_39 : decode cX10_digestScalar 39 = .ok (.ishl, 1) := by decide +kernel
theorem dX10_digestScalar_40 : decode cX10_digestScalar 40 = .ok (.ior, 1) := by decide +kernel
theorem dX10_digestScalar_41 : decode cX10_digestScalar 41 = .ok (.i2l, 1) := by decide +kernel
theorem dX10_digestScalar_42 : decode cX10_digestScalar 42 = .ok (.goto 4, 3) := by decide +kernel
theorem dX10_digestScalar_45 : decode cX10_digestScalar 45 = .ok (.lconst 0, 1) := by decide +kernel
theorem dX10_digestScalar_46 : decode cX10_digestScalar 46 = .ok (.lastore, 1) := by decide +kernel
theorem dX10_digestScalar_47 : decode cX10_digestScalar 47 = .ok (.iinc 2 1, 3) := by decide +kernel
theorem dX10_digestScalar_50 : decode cX10_digestScalar 50 = .ok (.goto (-48), 3) := by decide +kernel
theorem dX10_digestScalar_53 : decode cX10_digestScalar 53 = .ok (.aload_n 0, 1) := by decide +kernel
theorem dX10_digestScalar_54 : decode cX10_digestScalar 54 = .ok (.iload_n 1, 1) := by decide +kernel
theorem dX10_digestScalar_55 : decode cX10_digestScalar 55 = .ok (.invokevirtual 219, 3) := by decide +kernel
theorem dX10_digestScalar_58 : decode cX10_digestScalar 58 = .ok (.return_, 1) := by decide +kernel
theorem dX10_set_0 : decode cX10_set 0 = .ok (.iload_n 1, 1) := by decide +kernel
theorem dX10_set_1 : decode cX10_set 1 = .ok (.invokestatic 222, 3) := by decide +kernel
theorem dX10_set_4 : decode cX10_set 4 = .ok (.ifCond .ne 6, 3) := by decide +kernel
theorem dX10_set_7 : decode cX10_set 7 = .ok (.bipush (-101), 2) := by decide +kernel
theorem dX10_set_9 : decode cX10_set 9 = .ok (.ireturn, 1) := by decide +kernel
theorem dX10_set_10 : decode cX10_set 10 = .ok (.iload_n 2, 1) := by decide +kernel
theorem dX10_set_11 : decode cX10_set 11 = .ok (.iconst 0, 1) := by decide +kernel
theorem dX10_set_12 : decode cX10_set 12 = .ok (.iconst 3, 1) := by decide +kernel
theorem dX10_set_13 : decode cX10_set 13 = .ok (.invokestatic 131, 3) := by decide +kernel
theorem dX10_set_16 : decode cX10_set 16 = .ok (.ifCond .ne 6, 3) := by decide +kernel
theorem dX10_set_19 : decode cX10_set 19 = .ok (.bipush (-102), 2) := by decide +kernel
theorem dX10_set_21 : decode cX10_set 21 = .ok (.ireturn, 1) := by decide +kernel
theorem dX10_set_22 : decode cX10_set 22 = .ok (.aload_n 0, 1) := by decide +kernel
theorem dX10_set_23 : decode cX10_set 23 = .ok (.getfield 7, 3) := by decide +kernel
theorem dX10_set_26 : decode cX10_set 26 = .ok (.iconst 4, 1) := by decide +kernel
theorem dX10_set_27 : decode cX10_set 27 = .ok (.iload_n 1, 1) := by decide +kernel
theorem dX10_set_28 : decode cX10_set 28 = .ok (.imul, 1) := by decide +kernel
theorem dX10_set_29 : decode cX10_set 29 = .ok (.iload_n 2, 1) := by decide +kernel
theorem dX10_set_30 : decode cX10_set 30 = .ok (.iadd, 1) := by decide +kernel
theorem dX10_set_31 : decode cX10_set 31 = .ok (.lload_n 3, 1) := by decide +kernel
theorem dX10_set_32 : decode cX10_set 32 = .ok (.lastore, 1) := by decide +kernel
theorem dX10_set_33 : decode cX10_set 33 = .ok (.iconst 1, 1) := by decide +kernel
theorem dX10_set_34 : decode cX10_set 34 = .ok (.ireturn, 1) := by decide +kernel
theorem dX10_word_0 : decode cX10_word 0 = .ok (.iload_n 1, 1) := by decide +kernel
theorem dX10_word_1 : decode cX10_word 1 = .ok (.invokestatic 222, 3) := by decide +kernel
theorem dX10_word_4 : decode cX10_word 4 = .ok (.ifCond .eq 25, 3) := by decide +kernel
theorem dX10_word_7 : decode cX10_word 7 = .ok (.iload_n 2, 1) := by decide +kernel
theorem dX10_word_8 : decode cX10_word 8 = .ok (.iconst 0, 1) := by decide +kernel
theorem dX10_word_9 : decode cX10_word 9 = .ok (.iconst 3, 1) := by decide +kernel
theorem dX10_word_10 : decode cX10_word 10 = .ok (.invokestatic 131, 3) := by decide +kernel
theorem dX10_word_13 : decode cX10_word 13 = .ok (.ifCond .eq 16, 3) := by decide +kernel
theorem dX10_word_16 : decode cX10_word 16 = .ok (.aload_n 0, 1) := by decide +kernel
theorem dX10_word_17 : decode cX10_word 17 = .ok (.getfield 7, 3) := by decide +kernel
theorem dX10_word_20 : decode cX10_word 20 = .ok (.iconst 4, 1) := by decide +kernel
theorem dX10_word_21 : decode cX10_word 21 = .ok (.iload_n 1, 1) := by decide +kernel
theorem dX10_word_22 : decode cX10_word 22 = .ok (.imul, 1) := by decide +kernel
theorem dX10_word_23 : decode cX10_word 23 = .ok (.iload_n 2, 1) := by decide +kernel
theorem dX10_word_24 : decode cX10_word 24 = .ok (.iadd, 1) := by decide +kernel
theorem dX10_word_25 : decode cX10_word 25 = .ok (.laload, 1) := by decide +kernel
theorem dX10_word_26 : decode cX10_word 26 = .ok (.goto 4, 3) := by decide +kernel
theorem dX10_word_29 : decode cX10_word 29 = .ok (.lconst 0, 1) := by decide +kernel
theorem dX10_word_30 : decode cX10_word 30 = .ok (.lreturn, 1) := by decide +kernel
theorem dX10_copy_0 : decode cX10_copy 0 = .ok (.iload_n 1, 1) := by decide +kernel
theorem dX10_copy_1 : decode cX10_copy 1 = .ok (.invokestatic 222, 3) := by decide +kernel
theorem dX10_copy_4 : decode cX10_copy 4 = .ok (.ifCond .eq 10, 3) := by decide +kernel
theorem dX10_copy_7 : decode cX10_copy 7 = .ok (.iload_n 2, 1) := by decide +kernel
theorem dX10_copy_8 : decode cX10_copy 8 = .ok (.invokestatic 222, 3) := by decide +kernel
theorem dX10_copy_11 : decode cX10_copy 11 = .ok (.ifCond .ne 6, 3) := by decide +kernel
theorem dX10_copy_14 : decode cX10_copy 14 = .ok (.bipush (-101), 2) := by decide +kernel
theorem dX10_copy_16 : decode cX10_copy 16 = .ok (.ireturn, 1) := by decide +kernel
theorem dX10_copy_17 : decode cX10_copy 17 = .ok (.aload_n 0, 1) := by decide +kernel
theorem dX10_copy_18 : decode cX10_copy 18 = .ok (.iconst 4, 1) := by decide +kernel
theorem dX10_copy_19 : decode cX10_copy 19 = .ok (.iload_n 1, 1) := by decide +kernel
theorem dX10_copy_20 : decode cX10_copy 20 = .ok (.invokevirtual 225, 3) := by decide +kernel
theorem dX10_copy_23 : decode cX10_copy 23 = .ok (.aload_n 0, 1) := by decide +kernel
theorem dX10_copy_24 : decode cX10_copy 24 = .ok (.iload_n 2, 1) := by decide +kernel
theorem dX10_copy_25 : decode cX10_copy 25 = .ok (.iconst 4, 1) := by decide +kernel
theorem dX10_copy_26 : decode cX10_copy 26 = .ok (.invokevirtual 228, 3) := by decide +kernel
theorem dX10_copy_29 : decode cX10_copy 29 = .ok (.iconst 1, 1) := by decide +kernel
theorem dX10_copy_30 : decode cX10_copy 30 = .ok (.ireturn, 1) := by decide +kernel
theorem dX10_type_0 : decode cX10_type 0 = .ok (.iload_n 3, 1) := by decide +kernel
theorem dX10_type_1 : decode cX10_type 1 = .ok (.iconst 1, 1) := by decide +kernel
theorem dX10_type_2 : decode cX10_type 2 = .ok (.bipush 8, 2) := by decide +kernel
theorem dX10_type_4 : decode cX10_type 4 = .ok (.invokestatic 131, 3) := by decide +kernel
theorem dX10_type_7 : decode cX10_type 7 = .ok (.ifCond .ne 6, 3) := by decide +kernel
theorem dX10_type_10 : decode cX10_type 10 = .ok (.bipush (-102), 2) := by decide +kernel
theorem dX10_type_12 : decode cX10_type 12 = .ok (.ireturn, 1) := by decide +kernel
theorem dX10_type_13 : decode cX10_type 13 = .ok (.aload_n 0, 1) := by decide +kernel
theorem dX10_type_14 : decode cX10_type 14 = .ok (.getfield 203, 3) := by decide +kernel
theorem dX10_type_17 : decode cX10_type 17 = .ok (.iload_n 3, 1) := by decide +kernel
theorem dX10_type_18 : decode cX10_type 18 = .ok (.iadd, 1) := by decide +kernel
theorem dX10_type_19 : decode cX10_type 19 = .ok (.sipush 400, 3) := by decide +kernel
theorem dX10_type_22 : decode cX10_type 22 = .ok (.if_icmp .le 6, 3) := by decide +kernel
theorem dX10_type_25 : decode cX10_type 25 = .ok (.bipush (-104), 2) := by decide +kernel
theorem dX10_type_27 : decode cX10_type 27 = .ok (.ireturn, 1) := by decide +kernel
theorem dX10_type_28 : decode cX10_type 28 = .ok (.iconst 0, 1) := by decide +kernel
theorem dX10_type_29 : decode cX10_type 29 = .ok (.istore 4, 2) := by decide +kernel
theorem dX10_type_31 : decode cX10_type 31 = .ok (.iload 4, 2) := by decide +kernel
theorem dX10_type_33 : decode cX10_type 33 = .ok (.iload_n 3, 1) := by decide +kernel
theorem dX10_type_34 : decode cX10_type 34 = .ok (.if_icmp .ge 40, 3) := by decide +kernel
theorem dX10_type_37 : decode cX10_type 37 = .ok (.aload_n 0, 1) := by decide +kernel
theorem dX10_type_38 : decode cX10_type 38 = .ok (.getfield 13, 3) := by decide +kernel
theorem dX10_type_41 : decode cX10_type 41 = .ok (.aload_n 0, 1) := by decide +kernel
theorem dX10_type_42 : decode cX10_type 42 = .ok (.getfield 203, 3) := by decide +kernel
theorem dX10_type_45 : decode cX10_type 45 = .ok (.lload_n 1, 1) := by decide +kernel
theorem dX10_type_46 : decode cX10_type 46 = .ok (.bipush 8, 2) := by decide +kernel
theorem dX10_type_48 : decode cX10_type 48 = .ok (.iload 4, 2) := by decide +kernel
theorem dX10_type_50 : decode cX10_type 50 = .ok (.imul, 1) := by decide +kernel
theorem dX10_type_51 : decode cX10_type 51 = .ok (.lushr, 1) := by decide +kernel
theorem dX10_type_52 : decode cX10_type 52 = .ok (.l2i, 1) := by decide +kernel
theorem dX10_type_53 : decode cX10_type 53 = .ok (.sipush 255, 3) := by decide +kernel
theorem dX10_type_56 : decode cX10_type 56 = .ok (.iand, 1) := by decide +kernel
theorem dX10_type_57 : decode cX10_type 57 = .ok (.iastore, 1) := by decide +kernel
theorem dX10_type_58 : decode cX10_type 58 = .ok (.aload_n 0, 1) := by decide +kernel
theorem dX10_type_59 : decode cX10_type 59 = .ok (.dup, 1) := by decide +kernel
theorem dX10_type_60 : decode cX10_type 60 = .ok (.getfield 203, 3) := by decide +kernel
theorem dX10_type_63 : decode cX10_type 63 = .ok (.iconst 1, 1) := by decide +kernel
theorem dX10_type_64 : decode cX10_type 64 = .ok (.iadd, 1) := by decide +kernel
theorem dX10_type_65 : decode cX10_type 65 = .ok (.putfield 203, 3) := by decide +kernel
theorem dX10_type_68 : decode cX10_type 68 = .ok (.iinc 4 1, 3) := by decide +kernel
theorem dX10_type_71 : decode cX10_type 71 = .ok (.goto (-40), 3) := by decide +kernel
theorem dX10_type_74 : decode cX10_type 74 = .ok (.aload_n 0, 1) := by decide +kernel
theorem dX10_type_75 : decode cX10_type 75 = .ok (.getfield 203, 3) := by decide +kernel
theorem dX10_type_78 : decode cX10_type 78 = .ok (.ireturn, 1) := by decide +kernel
theorem dX10_clear_0 : decode cX10_clear 0 = .ok (.aload_n 0, 1) := by decide +kernel
theorem dX10_clear_1 : decode cX10_clear 1 = .ok (.getfield 203, 3) := by decide +kernel
theorem dX10_clear_4 : decode cX10_clear 4 = .ok (.istore_n 1, 1) := by decide +kernel
theorem dX10_clear_5 : decode cX10_clear 5 = .ok (.aload_n 0, 1) := by decide +kernel
theorem dX10_clear_6 : decode cX10_clear 6 = .ok (.iconst 0, 1) := by decide +kernel
theorem dX10_clear_7 : decode cX10_clear 7 = .ok (.putfield 203, 3) := by decide +kernel
theorem dX10_clear_10 : decode cX10_clear 10 = .ok (.iload_n 1, 1) := by decide +kernel
theorem dX10_clear_11 : decode cX10_clear 11 = .ok (.ireturn, 1) := by decide +kernel
theorem dX10_at_0 : decode cX10_at 0 = .ok (.iload_n 1, 1) := by decide +kernel
theorem dX10_at_1 : decode cX10_at 1 = .ok (.iconst 0, 1) := by decide +kernel
theorem dX10_at_2 : decode cX10_at 2 = .ok (.aload_n 0, 1) := by decide +kernel
theorem dX10_at_3 : decode cX10_at 3 = .ok (.getfield 203, 3) := by decide +kernel
theorem dX10_at_6 : decode cX10_at 6 = .ok (.iconst 1, 1) := by decide +kernel
theorem dX10_at_7 : decode cX10_at 7 = .ok (.isub, 1) := by decide +kernel
theorem dX10_at_8 : decode cX10_at 8 = .ok (.invokestatic 131, 3) := by decide +kernel
theorem dX10_at_11 : decode cX10_at 11 = .ok (.ifCond .eq 12, 3) := by decide +kernel
theorem dX10_at_14 : decode cX10_at 14 = .ok (.aload_n 0, 1) := by decide +kernel
theorem dX10_at_15 : decode cX10_at 15 = .ok (.getfield 13, 3) := by decide +kernel
theorem dX10_at_18 : decode cX10_at 18 = .ok (.iload_n 1, 1) := by decide +kernel
theorem dX10_at_19 : decode cX10_at 19 = .ok (.iaload, 1) := by decide +kernel
theorem dX10_at_20 : decode cX10_at 20 = .ok (.goto 4, 3) := by decide +kernel
theorem dX10_at_23 : decode cX10_at 23 = .ok (.iconst (-1), 1) := by decide +kernel
theorem dX10_at_24 : decode cX10_at 24 = .ok (.ireturn, 1) := by decide +kernel
theorem dX10_flip_0 : decode cX10_flip 0 = .ok (.iload_n 1, 1) := by decide +kernel
theorem dX10_flip_1 : decode cX10_flip 1 = .ok (.invokestatic 222, 3) := by decide +kernel
theorem dX10_flip_4 : decode cX10_flip 4 = .ok (.ifCond .ne 6, 3) := by decide +kernel
theorem dX10_flip_7 : decode cX10_flip 7 = .ok (.bipush (-101), 2) := by decide +kernel
theorem dX10_flip_9 : decode cX10_flip 9 = .ok (.ireturn, 1) := by decide +kernel
theorem dX10_flip_10 : decode cX10_flip 10 = .ok (.iload_n 2, 1) := by decide +kernel
theorem dX10_flip_11 : decode cX10_flip 11 = .ok (.iconst 0, 1) := by decide +kernel
theorem dX10_flip_12 : decode cX10_flip 12 = .ok (.bipush 31, 2) := by decide +kernel
theorem dX10_flip_14 : decode cX10_flip 14 = .ok (.invokestatic 131, 3) := by decide +kernel
theorem dX10_flip_17 : decode cX10_flip 17 = .ok (.ifCond .eq 13, 3) := by decide +kernel
theorem dX10_flip_20 : decode cX10_flip 20 = .ok (.iload_n 3, 1) := by decide +kernel
theorem dX10_flip_21 : decode cX10_flip 21 = .ok (.iconst 0, 1) := by decide +kernel
theorem dX10_flip_22 : decode cX10_flip 22 = .ok (.bipush 7, 2) := by decide +kernel
theorem dX10_flip_24 : decode cX10_flip 24 = .ok (.invokestatic 131, 3) := by decide +kernel
theorem dX10_flip_27 : decode cX10_flip 27 = .ok (.ifCond .ne 6, 3) := by decide +kernel
theorem dX10_flip_30 : decode cX10_flip 30 = .ok (.bipush (-102), 2) := by decide +kernel
theorem dX10_flip_32 : decode cX10_flip 32 = .ok (.ireturn, 1) := by decide +kernel
theorem dX10_flip_33 : decode cX10_flip 33 = .ok (.bipush 8, 2) := by decide +kernel
theorem dX10_flip_35 : decode cX10_flip 35 = .ok (.iload_n 2, 1) := by decide +kernel
theorem dX10_flip_36 : decode cX10_flip 36 = .ok (.bipush 7, 2) := by decide +kernel
theorem dX10_flip_38 : decode cX10_flip 38 = .ok (.iand, 1) := by decide +kernel
theorem dX10_flip_39 : decode cX10_flip 39 = .ok (.imul, 1) := by decide +kernel
theorem dX10_flip_40 : decode cX10_flip 40 = .ok (.iload_n 3, 1) := by decide +kernel
theorem dX10_flip_41 : decode cX10_flip 41 = .ok (.iadd, 1) := by decide +kernel
theorem dX10_flip_42 : decode cX10_flip 42 = .ok (.istore 4, 2) := by decide +kernel
theorem dX10_flip_44 : decode cX10_flip 44 = .ok (.aload_n 0, 1) := by decide +kernel
theorem dX10_flip_45 : decode cX10_flip 45 = .ok (.getfield 7, 3) := by decide +kernel
theorem dX10_flip_48 : decode cX10_flip 48 = .ok (.iconst 4, 1) := by decide +kernel
theorem dX10_flip_49 : decode cX10_flip 49 = .ok (.iload_n 1, 1) := by decide +kernel
theorem dX10_flip_50 : decode cX10_flip 50 = .ok (.imul, 1) := by decide +kernel
theorem dX10_flip_51 : decode cX10_flip 51 = .ok (.iload_n 2, 1) := by decide +kernel
theorem dX10_flip_52 : decode cX10_flip 52 = .ok (.iconst 3, 1) := by decide +kernel
theorem dX10_flip_53 : decode cX10_flip 53 = .ok (.ishr, 1) := by decide +kernel
theorem dX10_flip_54 : decode cX10_flip 54 = .ok (.iadd, 1) := by decide +kernel
theorem dX10_flip_55 : decode cX10_flip 55 = .ok (.dup2, 1) := by decide +kernel
theorem dX10_flip_56 : decode cX10_flip 56 = .ok (.laload, 1) := by decide +kernel
theorem dX10_flip_57 : decode cX10_flip 57 = .ok (.lconst 1, 1) := by decide +kernel
theorem dX10_flip_58 : decode cX10_flip 58 = .ok (.iload 4, 2) := by decide +kernel
theorem dX10_flip_60 : decode cX10_flip 60 = .ok (.lshl, 1) := by decide +kernel
theorem dX10_flip_61 : decode cX10_flip 61 = .ok (.lxor, 1) := by decide +kernel
theorem dX10_flip_62 : decode cX10_flip 62 = .ok (.lastore, 1) := by decide +kernel
theorem dX10_flip_63 : decode cX10_flip 63 = .ok (.aload_n 0, 1) := by decide +kernel
theorem dX10_flip_64 : decode cX10_flip 64 = .ok (.getfield 7, 3) := by decide +kernel
theorem dX10_flip_67 : decode cX10_flip 67 = .ok (.iconst 4, 1) := by decide +kernel
theorem dX10_flip_68 : decode cX10_flip 68 = .ok (.iload_n 1, 1) := by decide +kernel
theorem dX10_flip_69 : decode cX10_flip 69 = .ok (.imul, 1) := by decide +kernel
theorem dX10_flip_70 : decode cX10_flip 70 = .ok (.iload_n 2, 1) := by decide +kernel
theorem dX10_flip_71 : decode cX10_flip 71 = .ok (.iconst 3, 1) := by decide +kernel
theorem dX10_flip_72 : decode cX10_flip 72 = .ok (.ishr, 1) := by decide +kernel
theorem dX10_flip_73 : decode cX10_flip 73 = .ok (.iadd, 1) := by decide +kernel
theorem dX10_flip_74 : decode cX10_flip 74 = .ok (.laload, 1) := by decide +kernel
theorem dX10_flip_75 : decode cX10_flip 75 = .ok (.iload 4, 2) := by decide +kernel
theorem dX10_flip_77 : decode cX10_flip 77 = .ok (.lushr, 1) := by decide +kernel
theorem dX10_flip_78 : decode cX10_flip 78 = .ok (.l2i, 1) := by decide +kernel
theorem dX10_flip_79 : decode cX10_flip 79 = .ok (.iconst 1, 1) := by decide +kernel
theorem dX10_flip_80 : decode cX10_flip 80 = .ok (.iand, 1) := by decide +kernel
theorem dX10_flip_81 : decode cX10_flip 81 = .ok (.ireturn, 1) := by decide +kernel
theorem dX10_load_0 : decode cX10_load 0 = .ok (.aload_n 0, 1) := by decide +kernel
theorem dX10_load_1 : decode cX10_load 1 = .ok (.iconst 4, 1) := by decide +kernel
theorem dX10_load_2 : decode cX10_load 2 = .ok (.iload_n 2, 1) := by decide +kernel
theorem dX10_load_3 : decode cX10_load 3 = .ok (.invokevirtual 225, 3) := by decide +kernel
theorem dX10_load_6 : decode cX10_load 6 = .ok (.aload_n 0, 1) := by decide +kernel
theorem dX10_load_7 : decode cX10_load 7 = .ok (.iload_n 1, 1) := by decide +kernel
theorem dX10_load_8 : decode cX10_load 8 = .ok (.iconst 4, 1) := by decide +kernel
theorem dX10_load_9 : decode cX10_load 9 = .ok (.invokevirtual 181, 3) := by decide +kernel
theorem dX10_load_12 : decode cX10_load 12 = .ok (.return_, 1) := by decide +kernel
theorem dX10_store_0 : decode cX10_store 0 = .ok (.aload_n 0, 1) := by decide +kernel
theorem dX10_store_1 : decode cX10_store 1 = .ok (.iconst 4, 1) := by decide +kernel
theorem dX10_store_2 : decode cX10_store 2 = .ok (.iload_n 2, 1) := by decide +kernel
theorem dX10_store_3 : decode cX10_store 3 = .ok (.invokevirtual 121, 3) := by decide +kernel
theorem dX10_store_6 : decode cX10_store 6 = .ok (.aload_n 0, 1) := by decide +kernel
theorem dX10_store_7 : decode cX10_store 7 = .ok (.iload_n 1, 1) := by decide +kernel
theorem dX10_store_8 : decode cX10_store 8 = .ok (.iconst 4, 1) := by decide +kernel
theorem dX10_store_9 : decode cX10_store 9 = .ok (.invokevirtual 228, 3) := by decide +kernel
theorem dX10_store_12 : decode cX10_store 12 = .ok (.return_, 1) := by decide +kernel
theorem dX10_field_0 : decode cX10_field 0 = .ok (.iload_n 2, 1) := by decide +kernel
theorem dX10_field_1 : decode cX10_field 1 = .ok (.invokestatic 222, 3) := by decide +kernel
theorem dX10_field_4 : decode cX10_field 4 = .ok (.ifCond .eq 18, 3) := by decide +kernel
theorem dX10_field_7 : decode cX10_field 7 = .ok (.iload_n 3, 1) := by decide +kernel
theorem dX10_field_8 : decode cX10_field 8 = .ok (.invokestatic 222, 3) := by decide +kernel
theorem dX10_field_11 : decode cX10_field 11 = .ok (.ifCond .eq 11, 3) := by decide +kernel
theorem dX10_field_14 : decode cX10_field 14 = .ok (.iload 4, 2) := by decide +kernel
theorem dX10_field_16 : decode cX10_field 16 = .ok (.invokestatic 222, 3) := by decide +kernel
theorem dX10_field_19 : decode cX10_field 19 = .ok (.ifCond .ne 6, 3) := by decide +kernel
theorem dX10_field_22 : decode cX10_field 22 = .ok (.bipush (-101), 2) := by decide +kernel
theorem dX10_field_24 : decode cX10_field 24 = .ok (.ireturn, 1) := by decide +kernel
theorem dX10_field_25 : decode cX10_field 25 = .ok (.iload_n 1, 1) := by decide +kernel
theorem dX10_field_26 : decode cX10_field 26 = .ok (.iconst 0, 1) := by decide +kernel
theorem dX10_field_27 : decode cX10_field 27 = .ok (.iconst 3, 1) := by decide +kernel
theorem dX10_field_28 : decode cX10_field 28 = .ok (.invokestatic 131, 3) := by decide +kernel
theorem dX10_field_31 : decode cX10_field 31 = .ok (.ifCond .ne 6, 3) := by decide +kernel
theorem dX10_field_34 : decode cX10_field 34 = .ok (.bipush (-102), 2) := by decide +kernel
theorem dX10_field_36 : decode cX10_field 36 = .ok (.ireturn, 1) := by decide +kernel
theorem dX10_field_37 : decode cX10_field 37 = .ok (.aload_n 0, 1) := by decide +kernel
theorem dX10_field_38 : decode cX10_field 38 = .ok (.bipush 40, 2) := by decide +kernel
theorem dX10_field_40 : decode cX10_field 40 = .ok (.iload_n 2, 1) := by decide +kernel
theorem dX10_field_41 : decode cX10_field 41 = .ok (.invokevirtual 231, 3) := by decide +kernel
theorem dX10_field_44 : decode cX10_field 44 = .ok (.aload_n 0, 1) := by decide +kernel
theorem dX10_field_45 : decode cX10_field 45 = .ok (.bipush 36, 2) := by decide +kernel
theorem dX10_field_47 : decode cX10_field 47 = .ok (.iload_n 3, 1) := by decide +kernel
theorem dX10_field_48 : decode cX10_field 48 = .ok (.invokevirtual 231, 3) := by decide +kernel
theorem dX10_field_51 : decode cX10_field 51 = .ok (.iload_n 1, 1) := by decide +kernel
theorem dX10_field_52 : decode cX10_field 52 = .ok (.iconst 3, 1) := by decide +kernel
theorem dX10_field_53 : decode cX10_field 53 = .ok (.if_icmp .ne 16, 3) := by decide +kernel
theorem dX10_field_56 : decode cX10_field 56 = .ok (.aload_n 0, 1) := by decide +kernel
theorem dX10_field_57 : decode cX10_field 57 = .ok (.bipush 36, 2) := by decide +kernel
theorem dX10_field_59 : decode cX10_field 59 = .ok (.iconst 0, 1) := by decide +kernel
theorem dX10_field_60 : decode cX10_field 60 = .ok (.invokevirtual 168, 3) := by decide +kernel
theorem dX10_field_63 : decode cX10_field 63 = .ok (.ifCond .eq 6, 3) := by decide +kernel
theorem dX10_field_66 : decode cX10_field 66 = .ok (.bipush (-103), 2) := by decide +kernel
theorem dX10_field_68 : decode cX10_field 68 = .ok (.ireturn, 1) := by decide +kernel
theorem dX10_field_69 : decode cX10_field 69 = .ok (.iload_n 1, 1) := by decide +kernel
theorem dX10_field_70 : decode cX10_field 70 = .ok (.ifCond .ne 16, 3) := by decide +kernel
theorem dX10_field_73 : decode cX10_field 73 = .ok (.aload_n 0, 1) := by decide +kernel
theorem dX10_field_74 : decode cX10_field 74 = .ok (.bipush 38, 2) := by decide +kernel
theorem dX10_field_76 : decode cX10_field 76 = .ok (.bipush 40, 2) := by decide +kernel
theorem dX10_field_78 : decode cX10_field 78 = .ok (.bipush 36, 2) := by decide +kernel
theorem dX10_field_80 : decode cX10_field 80 = .ok (.invokevirtual 110, 3) := by decide +kernel
theorem dX10_field_83 : decode cX10_field 83 = .ok (.goto 57, 3) := by decide +kernel
theorem dX10_field_86 : decode cX10_field 86 = .ok (.iload_n 1, 1) := by decide +kernel
theorem dX10_field_87 : decode cX10_field 87 = .ok (.iconst 1, 1) := by decide +kernel
theorem dX10_field_88 : decode cX10_field 88 = .ok (.if_icmp .ne 16, 3) := by decide +kernel
theorem dX10_field_91 : decode cX10_field 91 = .ok (.aload_n 0, 1) := by decide +kernel
theorem dX10_field_92 : decode cX10_field 92 = .ok (.bipush 38, 2) := by decide +kernel
theorem dX10_field_94 : decode cX10_field 94 = .ok (.bipush 40, 2) := by decide +kernel
theorem dX10_field_96 : decode cX10_field 96 = .ok (.bipush 36, 2) := by decide +kernel
theorem dX10_field_98 : decode cX10_field 98 = .ok (.invokevirtual 98, 3) := by decide +kernel
theorem dX10_field_101 : decode cX10_field 101 = .ok (.goto 39, 3) := by decide +kernel
theorem dX10_field_104 : decode cX10_field 104 = .ok (.iload_n 1, 1) := by decide +kernel
theorem dX10_field_105 : decode cX10_field 105 = .ok (.iconst 2, 1) := by decide +kernel
theorem dX10_field_106 : decode cX10_field 106 = .ok (.if_icmp .ne 16, 3) := by decide +kernel
theorem dX10_field_109 : decode cX10_field 109 = .ok (.aload_n 0, 1) := by decide +kernel
theorem dX10_field_110 : decode cX10_field 110 = .ok (.bipush 38, 2) := by decide +kernel
theorem dX10_field_112 : decode cX10_field 112 = .ok (.bipush 40, 2) := by decide +kernel
theorem dX10_field_114 : decode cX10_field 114 = .ok (.bipush 36, 2) := by decide +kernel
theorem dX10_field_116 : decode cX10_field 116 = .ok (.invokevirtual 107, 3) := by decide +kernel
theorem dX10_field_119 : decode cX10_field 119 = .ok (.goto 21, 3) := by decide +kernel
theorem dX10_field_122 : decode cX10_field 122 = .ok (.aload_n 0, 1) := by decide +kernel
theorem dX10_field_123 : decode cX10_field 123 = .ok (.bipush 37, 2) := by decide +kernel
theorem dX10_field_125 : decode cX10_field 125 = .ok (.bipush 36, 2) := by decide +kernel
theorem dX10_field_127 : decode cX10_field 127 = .ok (.invokevirtual 103, 3) := by decide +kernel
theorem dX10_field_130 : decode cX10_field 130 = .ok (.aload_n 0, 1) := by decide +kernel
theorem dX10_field_131 : decode cX10_field 131 = .ok (.bipush 38, 2) := by decide +kernel
theorem dX10_field_133 : decode cX10_field 133 = .ok (.bipush 40, 2) := by decide +kernel
theorem dX10_field_135 : decode cX10_field 135 = .ok (.bipush 37, 2) := by decide +kernel
theorem dX10_field_137 : decode cX10_field 137 = .ok (.invokevirtual 107, 3) := by decide +kernel
theorem dX10_field_140 : decode cX10_field 140 = .ok (.aload_n 0, 1) := by decide +kernel
theorem dX10_field_141 : decode cX10_field 141 = .ok (.iload 4, 2) := by decide +kernel
theorem dX10_field_143 : decode cX10_field 143 = .ok (.bipush 38, 2) := by decide +kernel
theorem dX10_field_145 : decode cX10_field 145 = .ok (.invokevirtual 234, 3) := by decide +kernel
theorem dX10_field_148 : decode cX10_field 148 = .ok (.iconst 1, 1) := by decide +kernel
theorem dX10_field_149 : decode cX10_field 149 = .ok (.ireturn, 1) := by decide +kernel
theorem dX10_power_0 : decode cX10_power 0 = .ok (.iload_n 1, 1) := by decide +kernel
theorem dX10_power_1 : decode cX10_power 1 = .ok (.invokestatic 222, 3) := by decide +kernel
theorem dX10_power_4 : decode cX10_power 4 = .ok (.ifCond .eq 17, 3) := by decide +kernel
theorem dX10_power_7 : decode cX10_power 7 = .ok (.iload_n 2, 1) := by decide +kernel
theorem dX10_power_8 : decode cX10_power 8 = .ok (.invokestatic 222, 3) := by decide +kernel
theorem dX10_power_11 : decode cX10_power 11 = .ok (.ifCond .eq 10, 3) := by decide +kernel
theorem dX10_power_14 : decode cX10_power 14 = .ok (.iload_n 3, 1) := by decide +kernel
theorem dX10_power_15 : decode cX10_power 15 = .ok (.invokestatic 222, 3) := by decide +kernel
theorem dX10_power_18 : decode cX10_power 18 = .ok (.ifCond .ne 6, 3) := by decide +kernel
theorem dX10_power_21 : decode cX10_power 21 = .ok (.bipush (-101), 2) := by decide +kernel
theorem dX10_power_23 : decode cX10_power 23 = .ok (.ireturn, 1) := by decide +kernel
theorem dX10_power_24 : decode cX10_power 24 = .ok (.aload_n 0, 1) := by decide +kernel
theorem dX10_power_25 : decode cX10_power 25 = .ok (.bipush 40, 2) := by decide +kernel
theorem dX10_power_27 : decode cX10_power 27 = .ok (.iload_n 1, 1) := by decide +kernel
theorem dX10_power_28 : decode cX10_power 28 = .ok (.invokevirtual 231, 3) := by decide +kernel
theorem dX10_power_31 : decode cX10_power 31 = .ok (.aload_n 0, 1) := by decide +kernel
theorem dX10_power_32 : decode cX10_power 32 = .ok (.bipush 8, 2) := by decide +kernel
theorem dX10_power_34 : decode cX10_power 34 = .ok (.iload_n 2, 1) := by decide +kernel
theorem dX10_power_35 : decode cX10_power 35 = .ok (.invokevirtual 225, 3) := by decide +kernel
theorem dX10_power_38 : decode cX10_power 38 = .ok (.aload_n 0, 1) := by decide +kernel
theorem dX10_power_39 : decode cX10_power 39 = .ok (.bipush 36, 2) := by decide +kernel
theorem dX10_power_41 : decode cX10_power 41 = .ok (.bipush 40, 2) := by decide +kernel
theorem dX10_power_43 : decode cX10_power 43 = .ok (.bipush 8, 2) := by decide +kernel
theorem dX10_power_45 : decode cX10_power 45 = .ok (.invokevirtual 92, 3) := by decide +kernel
theorem dX10_power_48 : decode cX10_power 48 = .ok (.aload_n 0, 1) := by decide +kernel
theorem dX10_power_49 : decode cX10_power 49 = .ok (.iload_n 3, 1) := by decide +kernel
theorem dX10_power_50 : decode cX10_power 50 = .ok (.bipush 36, 2) := by decide +kernel
theorem dX10_power_52 : decode cX10_power 52 = .ok (.invokevirtual 234, 3) := by decide +kernel
theorem dX10_power_55 : decode cX10_power 55 = .ok (.iconst 1, 1) := by decide +kernel
theorem dX10_power_56 : decode cX10_power 56 = .ok (.ireturn, 1) := by decide +kernel
theorem dX10_root_0 : decode cX10_root 0 = .ok (.iload_n 1, 1) := by decide +kernel
theorem dX10_root_1 : decode cX10_root 1 = .ok (.invokestatic 222, 3) := by decide +kernel
theorem dX10_root_4 : decode cX10_root 4 = .ok (.ifCond .eq 10, 3) := by decide +kernel
theorem dX10_root_7 : decode cX10_root 7 = .ok (.iload_n 2, 1) := by decide +kernel
theorem dX10_root_8 : decode cX10_root 8 = .ok (.invokestatic 222, 3) := by decide +kernel
theorem dX10_root_11 : decode cX10_root 11 = .ok (.ifCond .ne 6, 3) := by decide +kernel
theorem dX10_root_14 : decode cX10_root 14 = .ok (.bipush (-101), 2) := by decide +kernel
theorem dX10_root_16 : decode cX10_root 16 = .ok (.ireturn, 1) := by decide +kernel
theorem dX10_root_17 : decode cX10_root 17 = .ok (.aload_n 0, 1) := by decide +kernel
theorem dX10_root_18 : decode cX10_root 18 = .ok (.bipush 40, 2) := by decide +kernel
theorem dX10_root_20 : decode cX10_root 20 = .ok (.iload_n 1, 1) := by decide +kernel
theorem dX10_root_21 : decode cX10_root 21 = .ok (.invokevirtual 231, 3) := by decide +kernel
theorem dX10_root_24 : decode cX10_root 24 = .ok (.aload_n 0, 1) := by decide +kernel
theorem dX10_root_25 : decode cX10_root 25 = .ok (.bipush 36, 2) := by decide +kernel
theorem dX10_root_27 : decode cX10_root 27 = .ok (.bipush 40, 2) := by decide +kernel
theorem dX10_root_29 : decode cX10_root 29 = .ok (.invokevirtual 184, 3) := by decide +kernel
theorem dX10_root_32 : decode cX10_root 32 = .ok (.ifCond .ne 5, 3) := by decide +kernel
theorem dX10_root_35 : decode cX10_root 35 = .ok (.iconst 0, 1) := by decide +kernel
theorem dX10_root_36 : decode cX10_root 36 = .ok (.ireturn, 1) := by decide +kernel
theorem dX10_root_37 : decode cX10_root 37 = .ok (.aload_n 0, 1) := by decide +kernel
theorem dX10_root_38 : decode cX10_root 38 = .ok (.bipush 36, 2) := by decide +kernel
theorem dX10_root_40 : decode cX10_root 40 = .ok (.invokevirtual 177, 3) := by decide +kernel
theorem dX10_root_43 : decode cX10_root 43 = .ok (.iconst 1, 1) := by decide +kernel
theorem dX10_root_44 : decode cX10_root 44 = .ok (.if_icmp .ne 12, 3) := by decide +kernel
theorem dX10_root_47 : decode cX10_root 47 = .ok (.aload_n 0, 1) := by decide +kernel
theorem dX10_root_48 : decode cX10_root 48 = .ok (.bipush 36, 2) := by decide +kernel
theorem dX10_root_50 : decode cX10_root 50 = .ok (.iconst 0, 1) := by decide +kernel
theorem dX10_root_51 : decode cX10_root 51 = .ok (.bipush 36, 2) := by decide +kernel
theorem dX10_root_53 : decode cX10_root 53 = .ok (.invokevirtual 98, 3) := by decide +kernel
theorem dX10_root_56 : decode cX10_root 56 = .ok (.aload_n 0, 1) := by decide +kernel
theorem dX10_root_57 : decode cX10_root 57 = .ok (.iload_n 2, 1) := by decide +kernel
theorem dX10_root_58 : decode cX10_root 58 = .ok (.bipush 36, 2) := by decide +kernel
theorem dX10_root_60 : decode cX10_root 60 = .ok (.invokevirtual 234, 3) := by decide +kernel
theorem dX10_root_63 : decode cX10_root 63 = .ok (.iconst 1, 1) := by decide +kernel
theorem dX10_root_64 : decode cX10_root 64 = .ok (.ireturn, 1) := by decide +kernel
theorem dX10_about_0 : decode cX10_about 0 = .ok (.iload_n 1, 1) := by decide +kernel
theorem dX10_about_1 : decode cX10_about 1 = .ok (.invokestatic 222, 3) := by decide +kernel
theorem dX10_about_4 : decode cX10_about 4 = .ok (.ifCond .ne 6, 3) := by decide +kernel
theorem dX10_about_7 : decode cX10_about 7 = .ok (.bipush (-101), 2) := by decide +kernel
theorem dX10_about_9 : decode cX10_about 9 = .ok (.ireturn, 1) := by decide +kernel
theorem dX10_about_10 : decode cX10_about 10 = .ok (.aload_n 0, 1) := by decide +kernel
theorem dX10_about_11 : decode cX10_about 11 = .ok (.iconst 4, 1) := by decide +kernel
theorem dX10_about_12 : decode cX10_about 12 = .ok (.iload_n 1, 1) := by decide +kernel
theorem dX10_about_13 : decode cX10_about 13 = .ok (.invokevirtual 225, 3) := by decide +kernel
theorem dX10_about_16 : decode cX10_about 16 = .ok (.iload_n 2, 1) := by decide +kernel
theorem dX10_about_17 : decode cX10_about 17 = .ok (.tableswitch 131 0 4 #[35, 51, 67, 90, 104], 35) := by decide +kernel
theorem dX10_about_52 : decode cX10_about 52 = .ok (.aload_n 0, 1) := by decide +kernel
theorem dX10_about_53 : decode cX10_about 53 = .ok (.iconst 4, 1) := by decide +kernel
theorem dX10_about_54 : decode cX10_about 54 = .ok (.bipush 36, 2) := by decide +kernel
theorem dX10_about_56 : decode cX10_about 56 = .ok (.invokevirtual 161, 3) := by decide +kernel
theorem dX10_about_59 : decode cX10_about 59 = .ok (.ifCond .ge 7, 3) := by decide +kernel
theorem dX10_about_62 : decode cX10_about 62 = .ok (.iconst 1, 1) := by decide +kernel
theorem dX10_about_63 : decode cX10_about 63 = .ok (.goto 4, 3) := by decide +kernel
theorem dX10_about_66 : decode cX10_about 66 = .ok (.iconst 0, 1) := by decide +kernel
theorem dX10_about_67 : decode cX10_about 67 = .ok (.ireturn, 1) := by decide +kernel
theorem dX10_about_68 : decode cX10_about 68 = .ok (.aload_n 0, 1) := by decide +kernel
theorem dX10_about_69 : decode cX10_about 69 = .ok (.iconst 4, 1) := by decide +kernel
theorem dX10_about_70 : decode cX10_about 70 = .ok (.bipush 32, 2) := by decide +kernel
theorem dX10_about_72 : decode cX10_about 72 = .ok (.invokevirtual 161, 3) := by decide +kernel
theorem dX10_about_75 : decode cX10_about 75 = .ok (.ifCond .ge 7, 3) := by decide +kernel
theorem dX10_about_78 : decode cX10_about 78 = .ok (.iconst 1, 1) := by decide +kernel
theorem dX10_about_79 : decode cX10_about 79 = .ok (.goto 4, 3) := by decide +kernel
theorem dX10_about_82 : decode cX10_about 82 = .ok (.iconst 0, 1) := by decide +kernel
theorem dX10_about_83 : decode cX10_about 83 = .ok (.ireturn, 1) := by decide +kernel
theorem dX10_about_84 : decode cX10_about 84 = .ok (.aload_n 0, 1) := by decide +kernel
theorem dX10_about_85 : decode cX10_about 85 = .ok (.bipush 40, 2) := by decide +kernel
theorem dX10_about_87 : decode cX10_about 87 = .ok (.iconst 4, 1) := by decide +kernel
theorem dX10_about_88 : decode cX10_about 88 = .ok (.invokevirtual 181, 3) := by decide +kernel
theorem dX10_about_91 : decode cX10_about 91 = .ok (.aload_n 0, 1) := by decide +kernel
theorem dX10_about_92 : decode cX10_about 92 = .ok (.bipush 40, 2) := by decide +kernel
theorem dX10_about_94 : decode cX10_about 94 = .ok (.iconst 0, 1) := by decide +kernel
theorem dX10_about_95 : decode cX10_about 95 = .ok (.invokevirtual 168, 3) := by decide +kernel
theorem dX10_about_98 : decode cX10_about 98 = .ok (.ifCond .eq 7, 3) := by decide +kernel
theorem dX10_about_101 : decode cX10_about 101 = .ok (.iconst 1, 1) := by decide +kernel
theorem dX10_about_102 : decode cX10_about 102 = .ok (.goto 4, 3) := by decide +kernel
theorem dX10_about_105 : decode cX10_about 105 = .ok (.iconst 0, 1) := by decide +kernel
theorem dX10_about_106 : decode cX10_about 106 = .ok (.ireturn, 1) := by decide +kernel
theorem dX10_about_107 : decode cX10_about 107 = .ok (.aload_n 0, 1) := by decide +kernel
theorem dX10_about_108 : decode cX10_about 108 = .ok (.bipush 40, 2) := by decide +kernel
theorem dX10_about_110 : decode cX10_about 110 = .ok (.iconst 4, 1) := by decide +kernel
theorem dX10_about_111 : decode cX10_about 111 = .ok (.invokevirtual 181, 3) := by decide +kernel
theorem dX10_about_114 : decode cX10_about 114 = .ok (.aload_n 0, 1) := by decide +kernel
theorem dX10_about_115 : decode cX10_about 115 = .ok (.bipush 40, 2) := by decide +kernel
theorem dX10_about_117 : decode cX10_about 117 = .ok (.invokevirtual 177, 3) := by decide +kernel
theorem dX10_about_120 : decode cX10_about 120 = .ok (.ireturn, 1) := by decide +kernel
theorem dX10_about_121 : decode cX10_about 121 = .ok (.sipush 256, 3) := by decide +kernel
theorem dX10_about_124 : decode cX10_about 124 = .ok (.istore_n 3, 1) := by decide +kernel
theorem dX10_about_125 : decode cX10_about 125 = .ok (.iload_n 3, 1) := by decide +kernel
theorem dX10_about_126 : decode cX10_about 126 = .ok (.ifCond .le 20, 3) := by decide +kernel
theorem dX10_about_129 : decode cX10_about 129 = .ok (.aload_n 0, 1) := by decide +kernel
theorem dX10_about_130 : decode cX10_about 130 = .ok (.iconst 4, 1) := by decide +kernel
theorem dX10_about_131 : decode cX10_about 131 = .ok (.iload_n 3, 1) := by decide +kernel
theorem dX10_about_132 : decode cX10_about 132 = .ok (.iconst 1, 1) := by decide +kernel
theorem dX10_about_133 : decode cX10_about 133 = .ok (.isub, 1) := by decide +kernel
theorem dX10_about_134 : decode cX10_about 134 = .ok (.invokevirtual 148, 3) := by decide +kernel
theorem dX10_about_137 : decode cX10_about 137 = .ok (.ifCond .ne 9, 3) := by decide +kernel
theorem dX10_about_140 : decode cX10_about 140 = .ok (.iinc 3 (-1), 3) := by decide +kernel
theorem dX10_about_143 : decode cX10_about 143 = .ok (.goto (-18), 3) := by decide +kernel
theorem dX10_about_146 : decode cX10_about 146 = .ok (.iload_n 3, 1) := by decide +kernel
theorem dX10_about_147 : decode cX10_about 147 = .ok (.ireturn, 1) := by decide +kernel
theorem dX10_about_148 : decode cX10_about 148 = .ok (.bipush (-102), 2) := by decide +kernel
theorem dX10_about_150 : decode cX10_about 150 = .ok (.ireturn, 1) := by decide +kernel
theorem dX10_compare_0 : decode cX10_compare 0 = .ok (.iload_n 1, 1) := by decide +kernel
theorem dX10_compare_1 : decode cX10_compare 1 = .ok (.invokestatic 222, 3) := by decide +kernel
theorem dX10_compare_4 : decode cX10_compare 4 = .ok (.ifCond .eq 10, 3) := by decide +kernel
theorem dX10_compare_7 : decode cX10_compare 7 = .ok (.iload_n 2, 1) := by decide +kernel
theorem dX10_compare_8 : decode cX10_compare 8 = .ok (.invokestatic 222, 3) := by decide +kernel
theorem dX10_compare_11 : decode cX10_compare 11 = .ok (.ifCond .ne 6, 3) := by decide +kernel
theorem dX10_compare_14 : decode cX10_compare 14 = .ok (.bipush (-101), 2) := by decide +kernel
theorem dX10_compare_16 : decode cX10_compare 16 = .ok (.ireturn, 1) := by decide +kernel
theorem dX10_compare_17 : decode cX10_compare 17 = .ok (.aload_n 0, 1) := by decide +kernel
theorem dX10_compare_18 : decode cX10_compare 18 = .ok (.iconst 4, 1) := by decide +kernel
theorem dX10_compare_19 : decode cX10_compare 19 = .ok (.iload_n 1, 1) := by decide +kernel
theorem dX10_compare_20 : decode cX10_compare 20 = .ok (.invokevirtual 225, 3) := by decide +kernel
theorem dX10_compare_23 : decode cX10_compare 23 = .ok (.aload_n 0, 1) := by decide +kernel
theorem dX10_compare_24 : decode cX10_compare 24 = .ok (.bipush 8, 2) := by decide +kernel
theorem dX10_compare_26 : decode cX10_compare 26 = .ok (.iload_n 2, 1) := by decide +kernel
theorem dX10_compare_27 : decode cX10_compare 27 = .ok (.invokevirtual 225, 3) := by decide +kernel
theorem dX10_compare_30 : decode cX10_compare 30 = .ok (.aload_n 0, 1) := by decide +kernel
theorem dX10_compare_31 : decode cX10_compare 31 = .ok (.iconst 4, 1) := by decide +kernel
theorem dX10_compare_32 : decode cX10_compare 32 = .ok (.bipush 8, 2) := by decide +kernel
theorem dX10_compare_34 : decode cX10_compare 34 = .ok (.invokevirtual 161, 3) := by decide +kernel
theorem dX10_compare_37 : decode cX10_compare 37 = .ok (.ireturn, 1) := by decide +kernel
theorem dX10_scalar_0 : decode cX10_scalar 0 = .ok (.iload_n 1, 1) := by decide +kernel
theorem dX10_scalar_1 : decode cX10_scalar 1 = .ok (.invokestatic 222, 3) := by decide +kernel
theorem dX10_scalar_4 : decode cX10_scalar 4 = .ok (.ifCond .eq 25, 3) := by decide +kernel
theorem dX10_scalar_7 : decode cX10_scalar 7 = .ok (.iload_n 2, 1) := by decide +kernel
theorem dX10_scalar_8 : decode cX10_scalar 8 = .ok (.invokestatic 222, 3) := by decide +kernel
theorem dX10_scalar_11 : decode cX10_scalar 11 = .ok (.ifCond .eq 18, 3) := by decide +kernel
theorem dX10_scalar_14 : decode cX10_scalar 14 = .ok (.iload_n 3, 1) := by decide +kernel
theorem dX10_scalar_15 : decode cX10_scalar 15 = .ok (.invokestatic 222, 3) := by decide +kernel
theorem dX10_scalar_18 : decode cX10_scalar 18 = .ok (.ifCond .eq 11, 3) := by decide +kernel
theorem dX10_scalar_21 : decode cX10_scalar 21 = .ok (.iload 4, 2) := by decide +kernel
theorem dX10_scalar_23 : decode cX10_scalar 23 = .ok (.invokestatic 222, 3) := by decide +kernel
theorem dX10_scalar_26 : decode cX10_scalar 26 = .ok (.ifCond .ne 6, 3) := by decide +kernel
theorem dX10_scalar_29 : decode cX10_scalar 29 = .ok (.bipush (-101), 2) := by decide +kernel
theorem dX10_scalar_31 : decode cX10_scalar 31 = .ok (.ireturn, 1) := by decide +kernel
theorem dX10_scalar_32 : decode cX10_scalar 32 = .ok (.aload_n 0, 1) := by decide +kernel
theorem dX10_scalar_33 : decode cX10_scalar 33 = .ok (.iconst 4, 1) := by decide +kernel
theorem dX10_scalar_34 : decode cX10_scalar 34 = .ok (.iload_n 1, 1) := by decide +kernel
theorem dX10_scalar_35 : decode cX10_scalar 35 = .ok (.invokevirtual 225, 3) := by decide +kernel
theorem dX10_scalar_38 : decode cX10_scalar 38 = .ok (.aload_n 0, 1) := by decide +kernel
theorem dX10_scalar_39 : decode cX10_scalar 39 = .ok (.bipush 8, 2) := by decide +kernel
theorem dX10_scalar_41 : decode cX10_scalar 41 = .ok (.iload_n 2, 1) := by decide +kernel
theorem dX10_scalar_42 : decode cX10_scalar 42 = .ok (.invokevirtual 225, 3) := by decide +kernel
theorem dX10_scalar_45 : decode cX10_scalar 45 = .ok (.aload_n 0, 1) := by decide +kernel
theorem dX10_scalar_46 : decode cX10_scalar 46 = .ok (.bipush 12, 2) := by decide +kernel
theorem dX10_scalar_48 : decode cX10_scalar 48 = .ok (.iload_n 3, 1) := by decide +kernel
theorem dX10_scalar_49 : decode cX10_scalar 49 = .ok (.invokevirtual 225, 3) := by decide +kernel
theorem dX10_scalar_52 : decode cX10_scalar 52 = .ok (.aload_n 0, 1) := by decide +kernel
theorem dX10_scalar_53 : decode cX10_scalar 53 = .ok (.bipush 16, 2) := by decide +kernel
theorem dX10_scalar_55 : decode cX10_scalar 55 = .ok (.iconst 4, 1) := by decide +kernel
theorem dX10_scalar_56 : decode cX10_scalar 56 = .ok (.bipush 8, 2) := by decide +kernel
theorem dX10_scalar_58 : decode cX10_scalar 58 = .ok (.bipush 12, 2) := by decide +kernel
theorem dX10_scalar_60 : decode cX10_scalar 60 = .ok (.invokevirtual 237, 3) := by decide +kernel
theorem dX10_scalar_63 : decode cX10_scalar 63 = .ok (.aload_n 0, 1) := by decide +kernel
theorem dX10_scalar_64 : decode cX10_scalar 64 = .ok (.iload 4, 2) := by decide +kernel
theorem dX10_scalar_66 : decode cX10_scalar 66 = .ok (.bipush 16, 2) := by decide +kernel
theorem dX10_scalar_68 : decode cX10_scalar 68 = .ok (.invokevirtual 228, 3) := by decide +kernel
theorem dX10_scalar_71 : decode cX10_scalar 71 = .ok (.iconst 1, 1) := by decide +kernel
theorem dX10_scalar_72 : decode cX10_scalar 72 = .ok (.ireturn, 1) := by decide +kernel
theorem dX10_opens_0 : decode cX10_opens 0 = .ok (.aload_n 0, 1) := by decide +kernel
theorem dX10_opens_1 : decode cX10_opens 1 = .ok (.iconst 4, 1) := by decide +kernel
theorem dX10_opens_2 : decode cX10_opens 2 = .ok (.iload_n 2, 1) := by decide +kernel
theorem dX10_opens_3 : decode cX10_opens 3 = .ok (.invokevirtual 225, 3) := by decide +kernel
theorem dX10_opens_6 : decode cX10_opens 6 = .ok (.aload_n 0, 1) := by decide +kernel
theorem dX10_opens_7 : decode cX10_opens 7 = .ok (.iload_n 1, 1) := by decide +kernel
theorem dX10_opens_8 : decode cX10_opens 8 = .ok (.iconst 4, 1) := by decide +kernel
theorem dX10_opens_9 : decode cX10_opens 9 = .ok (.invokevirtual 124, 3) := by decide +kernel
theorem dX10_opens_12 : decode cX10_opens 12 = .ok (.ireturn, 1) := by decide +kernel
theorem dX10_storePoint_0 : decode cX10_storePoint 0 = .ok (.aload_n 0, 1) := by decide +kernel
theorem dX10_storePoint_1 : decode cX10_storePoint 1 = .ok (.iconst 4, 1) := by decide +kernel
theorem dX10_storePoint_2 : decode cX10_storePoint 2 = .ok (.iload_n 2, 1) := by decide +kernel
theorem dX10_storePoint_3 : decode cX10_storePoint 3 = .ok (.invokevirtual 241, 3) := by decide +kernel
theorem dX10_storePoint_6 : decode cX10_storePoint 6 = .ok (.aload_n 0, 1) := by decide +kernel
theorem dX10_storePoint_7 : decode cX10_storePoint 7 = .ok (.iload_n 1, 1) := by decide +kernel
theorem dX10_storePoint_8 : decode cX10_storePoint 8 = .ok (.iconst 4, 1) := by decide +kernel
theorem dX10_storePoint_9 : decode cX10_storePoint 9 = .ok (.invokevirtual 228, 3) := by decide +kernel
theorem dX10_storePoint_12 : decode cX10_storePoint 12 = .ok (.return_, 1) := by decide +kernel
theorem dX10_isPoint_0 : decode cX10_isPoint 0 = .ok (.iload_n 1, 1) := by decide +kernel
theorem dX10_isPoint_1 : decode cX10_isPoint 1 = .ok (.invokestatic 222, 3) := by decide +kernel
theorem dX10_isPoint_4 : decode cX10_isPoint 4 = .ok (.ifCond .ne 6, 3) := by decide +kernel
theorem dX10_isPoint_7 : decode cX10_isPoint 7 = .ok (.bipush (-101), 2) := by decide +kernel
theorem dX10_isPoint_9 : decode cX10_isPoint 9 = .ok (.ireturn, 1) := by decide +kernel
theorem dX10_isPoint_10 : decode cX10_isPoint 10 = .ok (.aload_n 0, 1) := by decide +kernel
theorem dX10_isPoint_11 : decode cX10_isPoint 11 = .ok (.bipush 10, 2) := by decide +kernel
theorem dX10_isPoint_13 : decode cX10_isPoint 13 = .ok (.iload_n 1, 1) := by decide +kernel
theorem dX10_isPoint_14 : decode cX10_isPoint 14 = .ok (.invokevirtual 244, 3) := by decide +kernel
theorem dX10_isPoint_17 : decode cX10_isPoint 17 = .ok (.ifCond .eq 7, 3) := by decide +kernel
theorem dX10_isPoint_20 : decode cX10_isPoint 20 = .ok (.iconst 1, 1) := by decide +kernel
theorem dX10_isPoint_21 : decode cX10_isPoint 21 = .ok (.goto 4, 3) := by decide +kernel
theorem dX10_isPoint_24 : decode cX10_isPoint 24 = .ok (.iconst 0, 1) := by decide +kernel
theorem dX10_isPoint_25 : decode cX10_isPoint 25 = .ok (.ireturn, 1) := by decide +kernel
theorem dX10_across_0 : decode cX10_across 0 = .ok (.iload_n 1, 1) := by decide +kernel
theorem dX10_across_1 : decode cX10_across 1 = .ok (.invokestatic 222, 3) := by decide +kernel
theorem dX10_across_4 : decode cX10_across 4 = .ok (.ifCond .eq 10, 3) := by decide +kernel
theorem dX10_across_7 : decode cX10_across 7 = .ok (.iload_n 2, 1) := by decide +kernel
theorem dX10_across_8 : decode cX10_across 8 = .ok (.invokestatic 222, 3) := by decide +kernel
theorem dX10_across_11 : decode cX10_across 11 = .ok (.ifCond .ne 6, 3) := by decide +kernel
theorem dX10_across_14 : decode cX10_across 14 = .ok (.bipush (-101), 2) := by decide +kernel
theorem dX10_across_16 : decode cX10_across 16 = .ok (.ireturn, 1) := by decide +kernel
theorem dX10_across_17 : decode cX10_across 17 = .ok (.aload_n 0, 1) := by decide +kernel
theorem dX10_across_18 : decode cX10_across 18 = .ok (.bipush 10, 2) := by decide +kernel
theorem dX10_across_20 : decode cX10_across 20 = .ok (.iload_n 1, 1) := by decide +kernel
theorem dX10_across_21 : decode cX10_across 21 = .ok (.invokevirtual 244, 3) := by decide +kernel
theorem dX10_across_24 : decode cX10_across 24 = .ok (.ifCond .ne 5, 3) := by decide +kernel
theorem dX10_across_27 : decode cX10_across 27 = .ok (.iconst (-1), 1) := by decide +kernel
theorem dX10_across_28 : decode cX10_across 28 = .ok (.ireturn, 1) := by decide +kernel
theorem dX10_across_29 : decode cX10_across 29 = .ok (.aload_n 0, 1) := by decide +kernel
theorem dX10_across_30 : decode cX10_across 30 = .ok (.iload_n 2, 1) := by decide +kernel
theorem dX10_across_31 : decode cX10_across 31 = .ok (.bipush 10, 2) := by decide +kernel
theorem dX10_across_33 : decode cX10_across 33 = .ok (.invokevirtual 234, 3) := by decide +kernel
theorem dX10_across_36 : decode cX10_across 36 = .ok (.iconst 1, 1) := by decide +kernel
theorem dX10_across_37 : decode cX10_across 37 = .ok (.ireturn, 1) := by decide +kernel
theorem dX10_negate_0 : decode cX10_negate 0 = .ok (.aload_n 0, 1) := by decide +kernel
theorem dX10_negate_1 : decode cX10_negate 1 = .ok (.iload_n 1, 1) := by decide +kernel
theorem dX10_negate_2 : decode cX10_negate 2 = .ok (.iconst 0, 1) := by decide +kernel
theorem dX10_negate_3 : decode cX10_negate 3 = .ok (.iload_n 1, 1) := by decide +kernel
theorem dX10_negate_4 : decode cX10_negate 4 = .ok (.invokevirtual 98, 3) := by decide +kernel
theorem dX10_negate_7 : decode cX10_negate 7 = .ok (.aload_n 0, 1) := by decide +kernel
theorem dX10_negate_8 : decode cX10_negate 8 = .ok (.iload_n 1, 1) := by decide +kernel
theorem dX10_negate_9 : decode cX10_negate 9 = .ok (.invokevirtual 113, 3) := by decide +kernel
theorem dX10_negate_12 : decode cX10_negate 12 = .ok (.aload_n 0, 1) := by decide +kernel
theorem dX10_negate_13 : decode cX10_negate 13 = .ok (.iload_n 1, 1) := by decide +kernel
theorem dX10_negate_14 : decode cX10_negate 14 = .ok (.iconst 3, 1) := by decide +kernel
theorem dX10_negate_15 : decode cX10_negate 15 = .ok (.iadd, 1) := by decide +kernel
theorem dX10_negate_16 : decode cX10_negate 16 = .ok (.iconst 0, 1) := by decide +kernel
theorem dX10_negate_17 : decode cX10_negate 17 = .ok (.iload_n 1, 1) := by decide +kernel
theorem dX10_negate_18 : decode cX10_negate 18 = .ok (.iconst 3, 1) := by decide +kernel
theorem dX10_negate_19 : decode cX10_negate 19 = .ok (.iadd, 1) := by decide +kernel
theorem dX10_negate_20 : decode cX10_negate 20 = .ok (.invokevirtual 98, 3) := by decide +kernel
theorem dX10_negate_23 : decode cX10_negate 23 = .ok (.aload_n 0, 1) := by decide +kernel
theorem dX10_negate_24 : decode cX10_negate 24 = .ok (.iload_n 1, 1) := by decide +kernel
theorem dX10_negate_25 : decode cX10_negate 25 = .ok (.iconst 3, 1) := by decide +kernel
theorem dX10_negate_26 : decode cX10_negate 26 = .ok (.iadd, 1) := by decide +kernel
theorem dX10_negate_27 : decode cX10_negate 27 = .ok (.invokevirtual 113, 3) := by decide +kernel
theorem dX10_negate_30 : decode cX10_negate 30 = .ok (.return_, 1) := by decide +kernel
theorem dX10_sum_0 : decode cX10_sum 0 = .ok (.iload_n 2, 1) := by decide +kernel
theorem dX10_sum_1 : decode cX10_sum 1 = .ok (.invokestatic 222, 3) := by decide +kernel
theorem dX10_sum_4 : decode cX10_sum 4 = .ok (.ifCond .eq 18, 3) := by decide +kernel
theorem dX10_sum_7 : decode cX10_sum 7 = .ok (.iload_n 3, 1) := by decide +kernel
theorem dX10_sum_8 : decode cX10_sum 8 = .ok (.invokestatic 222, 3) := by decide +kernel
theorem dX10_sum_11 : decode cX10_sum 11 = .ok (.ifCond .eq 11, 3) := by decide +kernel
theorem dX10_sum_14 : decode cX10_sum 14 = .ok (.iload 4, 2) := by decide +kernel
theorem dX10_sum_16 : decode cX10_sum 16 = .ok (.invokestatic 222, 3) := by decide +kernel
theorem dX10_sum_19 : decode cX10_sum 19 = .ok (.ifCond .ne 6, 3) := by decide +kernel
theorem dX10_sum_22 : decode cX10_sum 22 = .ok (.bipush (-101), 2) := by decide +kernel
theorem dX10_sum_24 : decode cX10_sum 24 = .ok (.ireturn, 1) := by decide +kernel
theorem dX10_sum_25 : decode cX10_sum 25 = .ok (.iload_n 1, 1) := by decide +kernel
theorem dX10_sum_26 : decode cX10_sum 26 = .ok (.iconst 0, 1) := by decide +kernel
theorem dX10_sum_27 : decode cX10_sum 27 = .ok (.iconst 1, 1) := by decide +kernel
theorem dX10_sum_28 : decode cX10_sum 28 = .ok (.invokestatic 131, 3) := by decide +kernel
theorem dX10_sum_31 : decode cX10_sum 31 = .ok (.ifCond .ne 6, 3) := by decide +kernel
theorem dX10_sum_34 : decode cX10_sum 34 = .ok (.bipush (-102), 2) := by decide +kernel
theorem dX10_sum_36 : decode cX10_sum 36 = .ok (.ireturn, 1) := by decide +kernel
theorem dX10_sum_37 : decode cX10_sum 37 = .ok (.aload_n 0, 1) := by decide +kernel
theorem dX10_sum_38 : decode cX10_sum 38 = .ok (.bipush 10, 2) := by decide +kernel
theorem dX10_sum_40 : decode cX10_sum 40 = .ok (.iload_n 2, 1) := by decide +kernel
theorem dX10_sum_41 : decode cX10_sum 41 = .ok (.invokevirtual 244, 3) := by decide +kernel
theorem dX10_sum_44 : decode cX10_sum 44 = .ok (.ifCond .eq 13, 3) := by decide +kernel
theorem dX10_sum_47 : decode cX10_sum 47 = .ok (.aload_n 0, 1) := by decide +kernel
theorem dX10_sum_48 : decode cX10_sum 48 = .ok (.bipush 14, 2) := by decide +kernel
theorem dX10_sum_50 : decode cX10_sum 50 = .ok (.iload_n 3, 1) := by decide +kernel
theorem dX10_sum_51 : decode cX10_sum 51 = .ok (.invokevirtual 244, 3) := by decide +kernel
theorem dX10_sum_54 : decode cX10_sum 54 = .ok (.ifCond .ne 5, 3) := by decide +kernel
theorem dX10_sum_57 : decode cX10_sum 57 = .ok (.iconst (-1), 1) := by decide +kernel
theorem dX10_sum_58 : decode cX10_sum 58 = .ok (.ireturn, 1) := by decide +kernel
theorem dX10_sum_59 : decode cX10_sum 59 = .ok (.iload_n 1, 1) := by decide +kernel
theorem dX10_sum_60 : decode cX10_sum 60 = .ok (.iconst 1, 1) := by decide +kernel
theorem dX10_sum_61 : decode cX10_sum 61 = .ok (.if_icmp .ne 9, 3) := by decide +kernel
theorem dX10_sum_64 : decode cX10_sum 64 = .ok (.aload_n 0, 1) := by decide +kernel
theorem dX10_sum_65 : decode cX10_sum 65 = .ok (.bipush 14, 2) := by decide +kernel
theorem dX10_sum_67 : decode cX10_sum 67 = .ok (.invokevirtual 247, 3) := by decide +kernel
theorem dX10_sum_70 : decode cX10_sum 70 = .ok (.aload_n 0, 1) := by decide +kernel
theorem dX10_sum_71 : decode cX10_sum 71 = .ok (.bipush 10, 2) := by decide +kernel
theorem dX10_sum_73 : decode cX10_sum 73 = .ok (.bipush 14, 2) := by decide +kernel
theorem dX10_sum_75 : decode cX10_sum 75 = .ok (.invokevirtual 174, 3) := by decide +kernel
theorem dX10_sum_78 : decode cX10_sum 78 = .ok (.aload_n 0, 1) := by decide +kernel
theorem dX10_sum_79 : decode cX10_sum 79 = .ok (.iload 4, 2) := by decide +kernel
theorem dX10_sum_81 : decode cX10_sum 81 = .ok (.bipush 10, 2) := by decide +kernel
theorem dX10_sum_83 : decode cX10_sum 83 = .ok (.invokevirtual 250, 3) := by decide +kernel
theorem dX10_sum_86 : decode cX10_sum 86 = .ok (.iconst 1, 1) := by decide +kernel
theorem dX10_sum_87 : decode cX10_sum 87 = .ok (.ireturn, 1) := by decide +kernel
theorem dX10_times_0 : decode cX10_times 0 = .ok (.iload_n 1, 1) := by decide +kernel
theorem dX10_times_1 : decode cX10_times 1 = .ok (.invokestatic 222, 3) := by decide +kernel
theorem dX10_times_4 : decode cX10_times 4 = .ok (.ifCond .eq 17, 3) := by decide +kernel
theorem dX10_times_7 : decode cX10_times 7 = .ok (.iload_n 2, 1) := by decide +kernel
theorem dX10_times_8 : decode cX10_times 8 = .ok (.invokestatic 222, 3) := by decide +kernel
theorem dX10_times_11 : decode cX10_times 11 = .ok (.ifCond .eq 10, 3) := by decide +kernel
theorem dX10_times_14 : decode cX10_times 14 = .ok (.iload_n 3, 1) := by decide +kernel
theorem dX10_times_15 : decode cX10_times 15 = .ok (.invokestatic 222, 3) := by decide +kernel
theorem dX10_times_18 : decode cX10_times 18 = .ok (.ifCond .ne 6, 3) := by decide +kernel
theorem dX10_times_21 : decode cX10_times 21 = .ok (.bipush (-101), 2) := by decide +kernel
theorem dX10_times_23 : decode cX10_times 23 = .ok (.ireturn, 1) := by decide +kernel
theorem dX10_times_24 : decode cX10_times 24 = .ok (.aload_n 0, 1) := by decide +kernel
theorem dX10_times_25 : decode cX10_times 25 = .ok (.getfield 17, 3) := by decide +kernel
theorem dX10_times_28 : decode cX10_times 28 = .ok (.iconst 1, 1) := by decide +kernel
theorem dX10_times_29 : decode cX10_times 29 = .ok (.if_icmp .ge 6, 3) := by decide +kernel
theorem dX10_times_32 : decode cX10_times 32 = .ok (.bipush (-103), 2) := by decide +kernel
theorem dX10_times_34 : decode cX10_times 34 = .ok (.ireturn, 1) := by decide +kernel
theorem dX10_times_35 : decode cX10_times 35 = .ok (.aload_n 0, 1) := by decide +kernel
theorem dX10_times_36 : decode cX10_times 36 = .ok (.bipush 10, 2) := by decide +kernel
theorem dX10_times_38 : decode cX10_times 38 = .ok (.iload_n 2, 1) := by decide +kernel
theorem dX10_times_39 : decode cX10_times 39 = .ok (.invokevirtual 244, 3) := by decide +kernel
theorem dX10_times_42 : decode cX10_times 42 = .ok (.ifCond .ne 5, 3) := by decide +kernel
theorem dX10_times_45 : decode cX10_times 45 = .ok (.iconst (-1), 1) := by decide +kernel
theorem dX10_times_46 : decode cX10_times 46 = .ok (.ireturn, 1) := by decide +kernel
theorem dX10_times_47 : decode cX10_times 47 = .ok (.aload_n 0, 1) := by decide +kernel
theorem dX10_times_48 : decode cX10_times 48 = .ok (.dup, 1) := by decide +kernel
theorem dX10_times_49 : decode cX10_times 49 = .ok (.getfield 17, 3) := by decide +kernel
theorem dX10_times_52 : decode cX10_times 52 = .ok (.iconst 1, 1) := by decide +kernel
theorem dX10_times_53 : decode cX10_times 53 = .ok (.isub, 1) := by decide +kernel
theorem dX10_times_54 : decode cX10_times 54 = .ok (.putfield 17, 3) := by decide +kernel
theorem dX10_times_57 : decode cX10_times 57 = .ok (.aload_n 0, 1) := by decide +kernel
theorem dX10_times_58 : decode cX10_times 58 = .ok (.bipush 20, 2) := by decide +kernel
theorem dX10_times_60 : decode cX10_times 60 = .ok (.iload_n 1, 1) := by decide +kernel
theorem dX10_times_61 : decode cX10_times 61 = .ok (.invokevirtual 225, 3) := by decide +kernel
theorem dX10_times_64 : decode cX10_times 64 = .ok (.aload_n 0, 1) := by decide +kernel
theorem dX10_times_65 : decode cX10_times 65 = .ok (.bipush 18, 2) := by decide +kernel
theorem dX10_times_67 : decode cX10_times 67 = .ok (.bipush 10, 2) := by decide +kernel
theorem dX10_times_69 : decode cX10_times 69 = .ok (.bipush 20, 2) := by decide +kernel
theorem dX10_times_71 : decode cX10_times 71 = .ok (.invokevirtual 253, 3) := by decide +kernel
theorem dX10_times_74 : decode cX10_times 74 = .ok (.aload_n 0, 1) := by decide +kernel
theorem dX10_times_75 : decode cX10_times 75 = .ok (.iload_n 3, 1) := by decide +kernel
theorem dX10_times_76 : decode cX10_times 76 = .ok (.bipush 18, 2) := by decide +kernel
theorem dX10_times_78 : decode cX10_times 78 = .ok (.invokevirtual 250, 3) := by decide +kernel
theorem dX10_times_81 : decode cX10_times 81 = .ok (.iconst 1, 1) := by decide +kernel
theorem dX10_times_82 : decode cX10_times 82 = .ok (.ireturn, 1) := by decide +kernel
theorem dX10_base_0 : decode cX10_base 0 = .ok (.iload_n 1, 1) := by decide +kernel
theorem dX10_base_1 : decode cX10_base 1 = .ok (.invokestatic 222, 3) := by decide +kernel
theorem dX10_base_4 : decode cX10_base 4 = .ok (.ifCond .eq 10, 3) := by decide +kernel
theorem dX10_base_7 : decode cX10_base 7 = .ok (.iload_n 2, 1) := by decide +kernel
theorem dX10_base_8 : decode cX10_base 8 = .ok (.invokestatic 222, 3) := by decide +kernel
theorem dX10_base_11 : decode cX10_base 11 = .ok (.ifCond .ne 6, 3) := by decide +kernel
theorem dX10_base_14 : decode cX10_base 14 = .ok (.bipush (-101), 2) := by decide +kernel
theorem dX10_base_16 : decode cX10_base 16 = .ok (.ireturn, 1) := by decide +kernel
theorem dX10_base_17 : decode cX10_base 17 = .ok (.aload_n 0, 1) := by decide +kernel
theorem dX10_base_18 : decode cX10_base 18 = .ok (.getfield 17, 3) := by decide +kernel
theorem dX10_base_21 : decode cX10_base 21 = .ok (.iconst 1, 1) := by decide +kernel
theorem dX10_base_22 : decode cX10_base 22 = .ok (.if_icmp .ge 6, 3) := by decide +kernel
theorem dX10_base_25 : decode cX10_base 25 = .ok (.bipush (-103), 2) := by decide +kernel
theorem dX10_base_27 : decode cX10_base 27 = .ok (.ireturn, 1) := by decide +kernel
theorem dX10_base_28 : decode cX10_base 28 = .ok (.aload_n 0, 1) := by decide +kernel
theorem dX10_base_29 : decode cX10_base 29 = .ok (.dup, 1) := by decide +kernel
theorem dX10_base_30 : decode cX10_base 30 = .ok (.getfield 17, 3) := by decide +kernel
theorem dX10_base_33 : decode cX10_base 33 = .ok (.iconst 1, 1) := by decide +kernel
theorem dX10_base_34 : decode cX10_base 34 = .ok (.isub, 1) := by decide +kernel
theorem dX10_base_35 : decode cX10_base 35 = .ok (.putfield 17, 3) := by decide +kernel
theorem dX10_base_38 : decode cX10_base 38 = .ok (.aload_n 0, 1) := by decide +kernel
theorem dX10_base_39 : decode cX10_base 39 = .ok (.bipush 20, 2) := by decide +kernel
theorem dX10_base_41 : decode cX10_base 41 = .ok (.iload_n 1, 1) := by decide +kernel
theorem dX10_base_42 : decode cX10_base 42 = .ok (.invokevirtual 225, 3) := by decide +kernel
theorem dX10_base_45 : decode cX10_base 45 = .ok (.aload_n 0, 1) := by decide +kernel
theorem dX10_base_46 : decode cX10_base 46 = .ok (.bipush 18, 2) := by decide +kernel
theorem dX10_base_48 : decode cX10_base 48 = .ok (.iconst 5, 1) := by decide +kernel
theorem dX10_base_49 : decode cX10_base 49 = .ok (.bipush 20, 2) := by decide +kernel
theorem dX10_base_51 : decode cX10_base 51 = .ok (.invokevirtual 253, 3) := by decide +kernel
theorem dX10_base_54 : decode cX10_base 54 = .ok (.aload_n 0, 1) := by decide +kernel
theorem dX10_base_55 : decode cX10_base 55 = .ok (.iload_n 2, 1) := by decide +kernel
theorem dX10_base_56 : decode cX10_base 56 = .ok (.bipush 18, 2) := by decide +kernel
theorem dX10_base_58 : decode cX10_base 58 = .ok (.invokevirtual 250, 3) := by decide +kernel
theorem dX10_base_61 : decode cX10_base 61 = .ok (.iconst 1, 1) := by decide +kernel
theorem dX10_base_62 : decode cX10_base 62 = .ok (.ireturn, 1) := by decide +kernel
theorem dX10_small_0 : decode cX10_small 0 = .ok (.iload_n 1, 1) := by decide +kernel
theorem dX10_small_1 : decode cX10_small 1 = .ok (.invokestatic 222, 3) := by decide +kernel
theorem dX10_small_4 : decode cX10_small 4 = .ok (.ifCond .ne 6, 3) := by decide +kernel
theorem dX10_small_7 : decode cX10_small 7 = .ok (.bipush (-101), 2) := by decide +kernel
theorem dX10_small_9 : decode cX10_small 9 = .ok (.ireturn, 1) := by decide +kernel
theorem dX10_small_10 : decode cX10_small 10 = .ok (.aload_n 0, 1) := by decide +kernel
theorem dX10_small_11 : decode cX10_small 11 = .ok (.bipush 10, 2) := by decide +kernel
theorem dX10_small_13 : decode cX10_small 13 = .ok (.iload_n 1, 1) := by decide +kernel
theorem dX10_small_14 : decode cX10_small 14 = .ok (.invokevirtual 244, 3) := by decide +kernel
theorem dX10_small_17 : decode cX10_small 17 = .ok (.ifCond .ne 5, 3) := by decide +kernel
theorem dX10_small_20 : decode cX10_small 20 = .ok (.iconst (-1), 1) := by decide +kernel
theorem dX10_small_21 : decode cX10_small 21 = .ok (.ireturn, 1) := by decide +kernel
theorem dX10_small_22 : decode cX10_small 22 = .ok (.iconst 0, 1) := by decide +kernel
theorem dX10_small_23 : decode cX10_small 23 = .ok (.istore_n 2, 1) := by decide +kernel
theorem dX10_small_24 : decode cX10_small 24 = .ok (.iload_n 2, 1) := by decide +kernel
theorem dX10_small_25 : decode cX10_small 25 = .ok (.iconst 4, 1) := by decide +kernel
theorem dX10_small_26 : decode cX10_small 26 = .ok (.if_icmp .ge 26, 3) := by decide +kernel
theorem dX10_small_29 : decode cX10_small 29 = .ok (.aload_n 0, 1) := by decide +kernel
theorem dX10_small_30 : decode cX10_small 30 = .ok (.bipush 10, 2) := by decide +kernel
theorem dX10_small_32 : decode cX10_small 32 = .ok (.invokevirtual 256, 3) := by decide +kernel
theorem dX10_small_35 : decode cX10_small 35 = .ok (.ifCond .ne 17, 3) := by decide +kernel
theorem dX10_small_38 : decode cX10_small 38 = .ok (.aload_n 0, 1) := by decide +kernel
theorem dX10_small_39 : decode cX10_small 39 = .ok (.bipush 10, 2) := by decide +kernel
theorem dX10_small_41 : decode cX10_small 41 = .ok (.bipush 10, 2) := by decide +kernel
theorem dX10_small_43 : decode cX10_small 43 = .ok (.invokevirtual 174, 3) := by decide +kernel
theorem dX10_small_46 : decode cX10_small 46 = .ok (.iinc 2 1, 3) := by decide +kernel
theorem dX10_small_49 : decode cX10_small 49 = .ok (.goto (-25), 3) := by decide +kernel
theorem dX10_small_52 : decode cX10_small 52 = .ok (.iload_n 2, 1) := by decide +kernel
theorem dX10_small_53 : decode cX10_small 53 = .ok (.ireturn, 1) := by decide +kernel
theorem dX10_other_0 : decode cX10_other 0 = .ok (.iload_n 1, 1) := by decide +kernel
theorem dX10_other_1 : decode cX10_other 1 = .ok (.invokestatic 222, 3) := by decide +kernel
theorem dX10_other_4 : decode cX10_other 4 = .ok (.ifCond .eq 10, 3) := by decide +kernel
theorem dX10_other_7 : decode cX10_other 7 = .ok (.iload_n 2, 1) := by decide +kernel
theorem dX10_other_8 : decode cX10_other 8 = .ok (.invokestatic 222, 3) := by decide +kernel
theorem dX10_other_11 : decode cX10_other 11 = .ok (.ifCond .ne 6, 3) := by decide +kernel
theorem dX10_other_14 : decode cX10_other 14 = .ok (.bipush (-101), 2) := by decide +kernel
theorem dX10_other_16 : decode cX10_other 16 = .ok (.ireturn, 1) := by decide +kernel
theorem dX10_other_17 : decode cX10_other 17 = .ok (.aload_n 0, 1) := by decide +kernel
theorem dX10_other_18 : decode cX10_other 18 = .ok (.bipush 10, 2) := by decide +kernel
theorem dX10_other_20 : decode cX10_other 20 = .ok (.iload_n 1, 1) := by decide +kernel
theorem dX10_other_21 : decode cX10_other 21 = .ok (.invokevirtual 244, 3) := by decide +kernel
theorem dX10_other_24 : decode cX10_other 24 = .ok (.ifCond .ne 5, 3) := by decide +kernel
theorem dX10_other_27 : decode cX10_other 27 = .ok (.iconst (-1), 1) := by decide +kernel
theorem dX10_other_28 : decode cX10_other 28 = .ok (.ireturn, 1) := by decide +kernel
theorem dX10_other_29 : decode cX10_other 29 = .ok (.aload_n 0, 1) := by decide +kernel
theorem dX10_other_30 : decode cX10_other 30 = .ok (.bipush 40, 2) := by decide +kernel
theorem dX10_other_32 : decode cX10_other 32 = .ok (.iconst 1, 1) := by decide +kernel
theorem dX10_other_33 : decode cX10_other 33 = .ok (.bipush 11, 2) := by decide +kernel
theorem dX10_other_35 : decode cX10_other 35 = .ok (.invokevirtual 98, 3) := by decide +kernel
theorem dX10_other_38 : decode cX10_other 38 = .ok (.aload_n 0, 1) := by decide +kernel
theorem dX10_other_39 : decode cX10_other 39 = .ok (.bipush 36, 2) := by decide +kernel
theorem dX10_other_41 : decode cX10_other 41 = .ok (.iconst 1, 1) := by decide +kernel
theorem dX10_other_42 : decode cX10_other 42 = .ok (.bipush 11, 2) := by decide +kernel
theorem dX10_other_44 : decode cX10_other 44 = .ok (.invokevirtual 110, 3) := by decide +kernel
theorem dX10_other_47 : decode cX10_other 47 = .ok (.aload_n 0, 1) := by decide +kernel
theorem dX10_other_48 : decode cX10_other 48 = .ok (.bipush 37, 2) := by decide +kernel
theorem dX10_other_50 : decode cX10_other 50 = .ok (.bipush 40, 2) := by decide +kernel
theorem dX10_other_52 : decode cX10_other 52 = .ok (.invokevirtual 103, 3) := by decide +kernel
theorem dX10_other_55 : decode cX10_other 55 = .ok (.aload_n 0, 1) := by decide +kernel
theorem dX10_other_56 : decode cX10_other 56 = .ok (.bipush 38, 2) := by decide +kernel
theorem dX10_other_58 : decode cX10_other 58 = .ok (.bipush 36, 2) := by decide +kernel
theorem dX10_other_60 : decode cX10_other 60 = .ok (.bipush 37, 2) := by decide +kernel
theorem dX10_other_62 : decode cX10_other 62 = .ok (.invokevirtual 107, 3) := by decide +kernel
theorem dX10_other_65 : decode cX10_other 65 = .ok (.aload_n 0, 1) := by decide +kernel
theorem dX10_other_66 : decode cX10_other 66 = .ok (.iload_n 2, 1) := by decide +kernel
theorem dX10_other_67 : decode cX10_other 67 = .ok (.bipush 38, 2) := by decide +kernel
theorem dX10_other_69 : decode cX10_other 69 = .ok (.invokevirtual 234, 3) := by decide +kernel
theorem dX10_other_72 : decode cX10_other 72 = .ok (.iconst 1, 1) := by decide +kernel
theorem dX10_other_73 : decode cX10_other 73 = .ok (.ireturn, 1) := by decide +kernel
theorem dX10_clamp_0 : decode cX10_clamp 0 = .ok (.aload_n 0, 1) := by decide +kernel
theorem dX10_clamp_1 : decode cX10_clamp 1 = .ok (.getfield 27, 3) := by decide +kernel
theorem dX10_clamp_4 : decode cX10_clamp 4 = .ok (.iload_n 1, 1) := by decide +kernel
theorem dX10_clamp_5 : decode cX10_clamp 5 = .ok (.dup2, 1) := by decide +kernel
theorem dX10_clamp_6 : decode cX10_clamp 6 = .ok (.laload, 1) := by decide +kernel
theorem dX10_clamp_7 : decode cX10_clamp 7 = .ok (.ldc2_w 259, 3) := by decide +kernel
theorem dX10_clamp_10 : decode cX10_clamp 10 = .ok (.land, 1) := by decide +kernel
theorem dX10_clamp_11 : decode cX10_clamp 11 = .ok (.lastore, 1) := by decide +kernel
theorem dX10_clamp_12 : decode cX10_clamp 12 = .ok (.aload_n 0, 1) := by decide +kernel
theorem dX10_clamp_13 : decode cX10_clamp 13 = .ok (.getfield 27, 3) := by decide +kernel
theorem dX10_clamp_16 : decode cX10_clamp 16 = .ok (.iload_n 1, 1) := by decide +kernel
theorem dX10_clamp_17 : decode cX10_clamp 17 = .ok (.iconst 3, 1) := by decide +kernel
theorem dX10_clamp_18 : decode cX10_clamp 18 = .ok (.iadd, 1) := by decide +kernel
theorem dX10_clamp_19 : decode cX10_clamp 19 = .ok (.aload_n 0, 1) := by decide +kernel
theorem dX10_clamp_20 : decode cX10_clamp 20 = .ok (.getfield 27, 3) := by decide +kernel
theorem dX10_clamp_23 : decode cX10_clamp 23 = .ok (.iload_n 1, 1) := by decide +kernel
theorem dX10_clamp_24 : decode cX10_clamp 24 = .ok (.iconst 3, 1) := by decide +kernel
theorem dX10_clamp_25 : decode cX10_clamp 25 = .ok (.iadd, 1) := by decide +kernel
theorem dX10_clamp_26 : decode cX10_clamp 26 = .ok (.laload, 1) := by decide +kernel
theorem dX10_clamp_27 : decode cX10_clamp 27 = .ok (.ldc2_w 70, 3) := by decide +kernel
theorem dX10_clamp_30 : decode cX10_clamp 30 = .ok (.land, 1) := by decide +kernel
theorem dX10_clamp_31 : decode cX10_clamp 31 = .ok (.ldc2_w 261, 3) := by decide +kernel
theorem dX10_clamp_34 : decode cX10_clamp 34 = .ok (.lor, 1) := by decide +kernel
theorem dX10_clamp_35 : decode cX10_clamp 35 = .ok (.lastore, 1) := by decide +kernel
theorem dX10_clamp_36 : decode cX10_clamp 36 = .ok (.return_, 1) := by decide +kernel
theorem dX10_swap_0 : decode cX10_swap 0 = .ok (.iconst 0, 1) := by decide +kernel
theorem dX10_swap_1 : decode cX10_swap 1 = .ok (.istore_n 3, 1) := by decide +kernel
theorem dX10_swap_2 : decode cX10_swap 2 = .ok (.iload_n 3, 1) := by decide +kernel
theorem dX10_swap_3 : decode cX10_swap 3 = .ok (.bipush 16, 2) := by decide +kernel
theorem dX10_swap_5 : decode cX10_swap 5 = .ok (.if_icmp .ge 57, 3) := by decide +kernel
theorem dX10_swap_8 : decode cX10_swap 8 = .ok (.aload_n 0, 1) := by decide +kernel
theorem dX10_swap_9 : decode cX10_swap 9 = .ok (.getfield 21, 3) := by decide +kernel
theorem dX10_swap_12 : decode cX10_swap 12 = .ok (.bipush 16, 2) := by decide +kernel
theorem dX10_swap_14 : decode cX10_swap 14 = .ok (.iload_n 1, 1) := by decide +kernel
theorem dX10_swap_15 : decode cX10_swap 15 = .ok (.imul, 1) := by decide +kernel
theorem dX10_swap_16 : decode cX10_swap 16 = .ok (.iload_n 3, 1) := by decide +kernel
theorem dX10_swap_17 : decode cX10_swap 17 = .ok (.iadd, 1) := by decide +kernel
theorem dX10_swap_18 : decode cX10_swap 18 = .ok (.laload, 1) := by decide +kernel
theorem dX10_swap_19 : decode cX10_swap 19 = .ok (.lstore 4, 2) := by decide +kernel
theorem dX10_swap_21 : decode cX10_swap 21 = .ok (.aload_n 0, 1) := by decide +kernel
theorem dX10_swap_22 : decode cX10_swap 22 = .ok (.getfield 21, 3) := by decide +kernel
theorem dX10_swap_25 : decode cX10_swap 25 = .ok (.bipush 16, 2) := by decide +kernel
theorem dX10_swap_27 : decode cX10_swap 27 = .ok (.iload_n 1, 1) := by decide +kernel
theorem dX10_swap_28 : decode cX10_swap 28 = .ok (.imul, 1) := by decide +kernel
theorem dX10_swap_29 : decode cX10_swap 29 = .ok (.iload_n 3, 1) := by decide +kernel
theorem dX10_swap_30 : decode cX10_swap 30 = .ok (.iadd, 1) := by decide +kernel
theorem dX10_swap_31 : decode cX10_swap 31 = .ok (.aload_n 0, 1) := by decide +kernel
theorem dX10_swap_32 : decode cX10_swap 32 = .ok (.getfield 21, 3) := by decide +kernel
theorem dX10_swap_35 : decode cX10_swap 35 = .ok (.bipush 16, 2) := by decide +kernel
theorem dX10_swap_37 : decode cX10_swap 37 = .ok (.iload_n 2, 1) := by decide +kernel
theorem dX10_swap_38 : decode cX10_swap 38 = .ok (.imul, 1) := by decide +kernel
theorem dX10_swap_39 : decode cX10_swap 39 = .ok (.iload_n 3, 1) := by decide +kernel
theorem dX10_swap_40 : decode cX10_swap 40 = .ok (.iadd, 1) := by decide +kernel
theorem dX10_swap_41 : decode cX10_swap 41 = .ok (.laload, 1) := by decide +kernel
theorem dX10_swap_42 : decode cX10_swap 42 = .ok (.lastore, 1) := by decide +kernel
theorem dX10_swap_43 : decode cX10_swap 43 = .ok (.aload_n 0, 1) := by decide +kernel
theorem dX10_swap_44 : decode cX10_swap 44 = .ok (.getfield 21, 3) := by decide +kernel
theorem dX10_swap_47 : decode cX10_swap 47 = .ok (.bipush 16, 2) := by decide +kernel
theorem dX10_swap_49 : decode cX10_swap 49 = .ok (.iload_n 2, 1) := by decide +kernel
theorem dX10_swap_50 : decode cX10_swap 50 = .ok (.imul, 1) := by decide +kernel
theorem dX10_swap_51 : decode cX10_swap 51 = .ok (.iload_n 3, 1) := by decide +kernel
theorem dX10_swap_52 : decode cX10_swap 52 = .ok (.iadd, 1) := by decide +kernel
theorem dX10_swap_53 : decode cX10_swap 53 = .ok (.lload 4, 2) := by decide +kernel
theorem dX10_swap_55 : decode cX10_swap 55 = .ok (.lastore, 1) := by decide +kernel
theorem dX10_swap_56 : decode cX10_swap 56 = .ok (.iinc 3 1, 3) := by decide +kernel
theorem dX10_swap_59 : decode cX10_swap 59 = .ok (.goto (-57), 3) := by decide +kernel
theorem dX10_swap_62 : decode cX10_swap 62 = .ok (.return_, 1) := by decide +kernel
theorem dX10_share_0 : decode cX10_share 0 = .ok (.iload_n 1, 1) := by decide +kernel
theorem dX10_share_1 : decode cX10_share 1 = .ok (.invokestatic 222, 3) := by decide +kernel
theorem dX10_share_4 : decode cX10_share 4 = .ok (.ifCond .eq 17, 3) := by decide +kernel
theorem dX10_share_7 : decode cX10_share 7 = .ok (.iload_n 2, 1) := by decide +kernel
theorem dX10_share_8 : decode cX10_share 8 = .ok (.invokestatic 222, 3) := by decide +kernel
theorem dX10_share_11 : decode cX10_share 11 = .ok (.ifCond .eq 10, 3) := by decide +kernel
theorem dX10_share_14 : decode cX10_share 14 = .ok (.iload_n 3, 1) := by decide +kernel
theorem dX10_share_15 : decode cX10_share 15 = .ok (.invokestatic 222, 3) := by decide +kernel
theorem dX10_share_18 : decode cX10_share 18 = .ok (.ifCond .ne 6, 3) := by decide +kernel
theorem dX10_share_21 : decode cX10_share 21 = .ok (.bipush (-101), 2) := by decide +kernel
theorem dX10_share_23 : decode cX10_share 23 = .ok (.ireturn, 1) := by decide +kernel
theorem dX10_share_24 : decode cX10_share 24 = .ok (.aload_n 0, 1) := by decide +kernel
theorem dX10_share_25 : decode cX10_share 25 = .ok (.getfield 17, 3) := by decide +kernel
theorem dX10_share_28 : decode cX10_share 28 = .ok (.iconst 1, 1) := by decide +kernel
theorem dX10_share_29 : decode cX10_share 29 = .ok (.if_icmp .ge 6, 3) := by decide +kernel
theorem dX10_share_32 : decode cX10_share 32 = .ok (.bipush (-103), 2) := by decide +kernel
theorem dX10_share_34 : decode cX10_share 34 = .ok (.ireturn, 1) := by decide +kernel
theorem dX10_share_35 : decode cX10_share 35 = .ok (.aload_n 0, 1) := by decide +kernel
theorem dX10_share_36 : decode cX10_share 36 = .ok (.dup, 1) := by decide +kernel
theorem dX10_share_37 : decode cX10_share 37 = .ok (.getfield 17, 3) := by decide +kernel
theorem dX10_share_40 : decode cX10_share 40 = .ok (.iconst 1, 1) := by decide +kernel
theorem dX10_share_41 : decode cX10_share 41 = .ok (.isub, 1) := by decide +kernel
theorem dX10_share_42 : decode cX10_share 42 = .ok (.putfield 17, 3) := by decide +kernel
theorem dX10_share_45 : decode cX10_share 45 = .ok (.aload_n 0, 1) := by decide +kernel
theorem dX10_share_46 : decode cX10_share 46 = .ok (.bipush 20, 2) := by decide +kernel
theorem dX10_share_48 : decode cX10_share 48 = .ok (.iload_n 1, 1) := by decide +kernel
theorem dX10_share_49 : decode cX10_share 49 = .ok (.invokevirtual 225, 3) := by decide +kernel
theorem dX10_share_52 : decode cX10_share 52 = .ok (.aload_n 0, 1) := by decide +kernel
theorem dX10_share_53 : decode cX10_share 53 = .ok (.bipush 20, 2) := by decide +kernel
theorem dX10_share_55 : decode cX10_share 55 = .ok (.invokevirtual 263, 3) := by decide +kernel
theorem dX10_share_58 : decode cX10_share 58 = .ok (.aload_n 0, 1) := by decide +kernel
theorem dX10_share_59 : decode cX10_share 59 = .ok (.bipush 40, 2) := by decide +kernel
theorem dX10_share_61 : decode cX10_share 61 = .ok (.iload_n 2, 1) := by decide +kernel
theorem dX10_share_62 : decode cX10_share 62 = .ok (.invokevirtual 231, 3) := by decide +kernel
theorem dX10_share_65 : decode cX10_share 65 = .ok (.aload_n 0, 1) := by decide +kernel
theorem dX10_share_66 : decode cX10_share 66 = .ok (.bipush 36, 2) := by decide +kernel
theorem dX10_share_68 : decode cX10_share 68 = .ok (.lconst 1, 1) := by decide +kernel
theorem dX10_share_69 : decode cX10_share 69 = .ok (.invokevirtual 82, 3) := by decide +kernel
theorem dX10_share_72 : decode cX10_share 72 = .ok (.aload_n 0, 1) := by decide +kernel
theorem dX10_share_73 : decode cX10_share 73 = .ok (.bipush 37, 2) := by decide +kernel
theorem dX10_share_75 : decode cX10_share 75 = .ok (.lconst 0, 1) := by decide +kernel
theorem dX10_share_76 : decode cX10_share 76 = .ok (.invokevirtual 82, 3) := by decide +kernel
theorem dX10_share_79 : decode cX10_share 79 = .ok (.aload_n 0, 1) := by decide +kernel
theorem dX10_share_80 : decode cX10_share 80 = .ok (.bipush 38, 2) := by decide +kernel
theorem dX10_share_82 : decode cX10_share 82 = .ok (.bipush 40, 2) := by decide +kernel
theorem dX10_share_84 : decode cX10_share 84 = .ok (.invokevirtual 145, 3) := by decide +kernel
theorem dX10_share_87 : decode cX10_share 87 = .ok (.aload_n 0, 1) := by decide +kernel
theorem dX10_share_88 : decode cX10_share 88 = .ok (.bipush 39, 2) := by decide +kernel
theorem dX10_share_90 : decode cX10_share 90 = .ok (.lconst 1, 1) := by decide +kernel
theorem dX10_share_91 : decode cX10_share 91 = .ok (.invokevirtual 82, 3) := by decide +kernel
theorem dX10_share_94 : decode cX10_share 94 = .ok (.aload_n 0, 1) := by decide +kernel
theorem dX10_share_95 : decode cX10_share 95 = .ok (.bipush 44, 2) := by decide +kernel
theorem dX10_share_97 : decode cX10_share 97 = .ok (.ldc2_w 96, 3) := by decide +kernel
theorem dX10_share_100 : decode cX10_share 100 = .ok (.invokevirtual 82, 3) := by decide +kernel
theorem dX10_share_103 : decode cX10_share 103 = .ok (.sipush 254, 3) := by decide +kernel
theorem dX10_share_106 : decode cX10_share 106 = .ok (.istore 4, 2) := by decide +kernel
theorem dX10_share_108 : decode cX10_share 108 = .ok (.iload 4, 2) := by decide +kernel
theorem dX10_share_110 : decode cX10_share 110 = .ok (.ifCond .lt 250, 3) := by decide +kernel
theorem dX10_share_113 : decode cX10_share 113 = .ok (.aload_n 0, 1) := by decide +kernel
theorem dX10_share_114 : decode cX10_share 114 = .ok (.bipush 20, 2) := by decide +kernel
theorem dX10_share_116 : decode cX10_share 116 = .ok (.iload 4, 2) := by decide +kernel
theorem dX10_share_118 : decode cX10_share 118 = .ok (.invokevirtual 148, 3) := by decide +kernel
theorem dX10_share_121 : decode cX10_share 121 = .ok (.iconst 1, 1) := by decide +kernel
theorem dX10_share_122 : decode cX10_share 122 = .ok (.if_icmp .ne 7, 3) := by decide +kernel
theorem dX10_share_125 : decode cX10_share 125 = .ok (.iconst 1, 1) := by decide +kernel
theorem dX10_share_126 : decode cX10_share 126 = .ok (.goto 4, 3) := by decide +kernel
theorem dX10_share_129 : decode cX10_share 129 = .ok (.iconst 0, 1) := by decide +kernel
theorem dX10_share_130 : decode cX10_share 130 = .ok (.istore 5, 2) := by decide +kernel
theorem dX10_share_132 : decode cX10_share 132 = .ok (.iload 5, 2) := by decide +kernel
theorem dX10_share_134 : decode cX10_share 134 = .ok (.ifCond .eq 19, 3) := by decide +kernel
theorem dX10_share_137 : decode cX10_share 137 = .ok (.aload_n 0, 1) := by decide +kernel
theorem dX10_share_138 : decode cX10_share 138 = .ok (.bipush 36, 2) := by decide +kernel
theorem dX10_share_140 : decode cX10_share 140 = .ok (.bipush 38, 2) := by decide +kernel
theorem dX10_share_142 : decode cX10_share 142 = .ok (.invokevirtual 266, 3) := by decide +kernel
theorem dX10_share_145 : decode cX10_share 145 = .ok (.aload_n 0, 1) := by decide +kernel
theorem dX10_share_146 : decode cX10_share 146 = .ok (.bipush 37, 2) := by decide +kernel
theorem dX10_share_148 : decode cX10_share 148 = .ok (.bipush 39, 2) := by decide +kernel
theorem dX10_share_150 : decode cX10_share 150 = .ok (.invokevirtual 266, 3) := by decide +kernel
theorem dX10_share_153 : decode cX10_share 153 = .ok (.aload_n 0, 1) := by decide +kernel
theorem dX10_share_154 : decode cX10_share 154 = .ok (.bipush 26, 2) := by decide +kernel
theorem dX10_share_156 : decode cX10_share 156 = .ok (.bipush 36, 2) := by decide +kernel
theorem dX10_share_158 : decode cX10_share 158 = .ok (.bipush 37, 2) := by decide +kernel
theorem dX10_share_160 : decode cX10_share 160 = .ok (.invokevirtual 110, 3) := by decide +kernel
theorem dX10_share_163 : decode cX10_share 163 = .ok (.aload_n 0, 1) := by decide +kernel
theorem dX10_share_164 : decode cX10_share 164 = .ok (.bipush 27, 2) := by decide +kernel
theorem dX10_share_166 : decode cX10_share 166 = .ok (.bipush 36, 2) := by decide +kernel
theorem dX10_share_168 : decode cX10_share 168 = .ok (.bipush 37, 2) := by decide +kernel
theorem dX10_share_170 : decode cX10_share 170 = .ok (.invokevirtual 98, 3) := by decide +kernel
theorem dX10_share_173 : decode cX10_share 173 = .ok (.aload_n 0, 1) := by decide +kernel
theorem dX10_share_174 : decode cX10_share 174 = .ok (.bipush 28, 2) := by decide +kernel
theorem dX10_share_176 : decode cX10_share 176 = .ok (.bipush 26, 2) := by decide +kernel
theorem dX10_share_178 : decode cX10_share 178 = .ok (.bipush 26, 2) := by decide +kernel
theorem dX10_share_180 : decode cX10_share 180 = .ok (.invokevirtual 107, 3) := by decide +kernel
theorem dX10_share_183 : decode cX10_share 183 = .ok (.aload_n 0, 1) := by decide +kernel
theorem dX10_share_184 : decode cX10_share 184 = .ok (.bipush 29, 2) := by decide +kernel
theorem dX10_share_186 : decode cX10_share 186 = .ok (.bipush 27, 2) := by decide +kernel
theorem dX10_share_188 : decode cX10_share 188 = .ok (.bipush 27, 2) := by decide +kernel
theorem dX10_share_190 : decode cX10_share 190 = .ok (.invokevirtual 107, 3) := by decide +kernel
theorem dX10_share_193 : decode cX10_share 193 = .ok (.aload_n 0, 1) := by decide +kernel
theorem dX10_share_194 : decode cX10_share 194 = .ok (.bipush 30, 2) := by decide +kernel
theorem dX10_share_196 : decode cX10_share 196 = .ok (.bipush 28, 2) := by decide +kernel
theorem dX10_share_198 : decode cX10_share 198 = .ok (.bipush 29, 2) := by decide +kernel
theorem dX10_share_200 : decode cX10_share 200 = .ok (.invokevirtual 98, 3) := by decide +kernel
theorem dX10_share_203 : decode cX10_share 203 = .ok (.aload_n 0, 1) := by decide +kernel
theorem dX10_share_204 : decode cX10_share 204 = .ok (.bipush 31, 2) := by decide +kernel
theorem dX10_share_206 : decode cX10_share 206 = .ok (.bipush 38, 2) := by decide +kernel
theorem dX10_share_208 : decode cX10_share 208 = .ok (.bipush 39, 2) := by decide +kernel
theorem dX10_share_210 : decode cX10_share 210 = .ok (.invokevirtual 110, 3) := by decide +kernel
theorem dX10_share_213 : decode cX10_share 213 = .ok (.aload_n 0, 1) := by decide +kernel
theorem dX10_share_214 : decode cX10_share 214 = .ok (.bipush 32, 2) := by decide +kernel
theorem dX10_share_216 : decode cX10_share 216 = .ok (.bipush 38, 2) := by decide +kernel
theorem dX10_share_218 : decode cX10_share 218 = .ok (.bipush 39, 2) := by decide +kernel
theorem dX10_share_220 : decode cX10_share 220 = .ok (.invokevirtual 98, 3) := by decide +kernel
theorem dX10_share_223 : decode cX10_share 223 = .ok (.aload_n 0, 1) := by decide +kernel
theorem dX10_share_224 : decode cX10_share 224 = .ok (.bipush 32, 2) := by decide +kernel
theorem dX10_share_226 : decode cX10_share 226 = .ok (.bipush 32, 2) := by decide +kernel
theorem dX10_share_228 : decode cX10_share 228 = .ok (.bipush 26, 2) := by decide +kernel
theorem dX10_share_230 : decode cX10_share 230 = .ok (.invokevirtual 107, 3) := by decide +kernel
theorem dX10_share_233 : decode cX10_share 233 = .ok (.aload_n 0, 1) := by decide +kernel
theorem dX10_share_234 : decode cX10_share 234 = .ok (.bipush 31, 2) := by decide +kernel
theorem dX10_share_236 : decode cX10_share 236 = .ok (.bipush 31, 2) := by decide +kernel
theorem dX10_share_238 : decode cX10_share 238 = .ok (.bipush 27, 2) := by decide +kernel
theorem dX10_share_240 : decode cX10_share 240 = .ok (.invokevirtual 107, 3) := by decide +kernel
theorem dX10_share_243 : decode cX10_share 243 = .ok (.aload_n 0, 1) := by decide +kernel
theorem dX10_share_244 : decode cX10_share 244 = .ok (.bipush 33, 2) := by decide +kernel
theorem dX10_share_246 : decode cX10_share 246 = .ok (.bipush 32, 2) := by decide +kernel
theorem dX10_share_248 : decode cX10_share 248 = .ok (.bipush 31, 2) := by decide +kernel
theorem dX10_share_250 : decode cX10_share 250 = .ok (.invokevirtual 110, 3) := by decide +kernel
theorem dX10_share_253 : decode cX10_share 253 = .ok (.aload_n 0, 1) := by decide +kernel
theorem dX10_share_254 : decode cX10_share 254 = .ok (.bipush 38, 2) := by decide +kernel
theorem dX10_share_256 : decode cX10_share 256 = .ok (.bipush 33, 2) := by decide +kernel
theorem dX10_share_258 : decode cX10_share 258 = .ok (.bipush 33, 2) := by decide +kernel
theorem dX10_share_260 : decode cX10_share 260 = .ok (.invokevirtual 107, 3) := by decide +kernel
theorem dX10_share_263 : decode cX10_share 263 = .ok (.aload_n 0, 1) := by decide +kernel
theorem dX10_share_264 : decode cX10_share 264 = .ok (.bipush 33, 2) := by decide +kernel
theorem dX10_share_266 : decode cX10_share 266 = .ok (.bipush 32, 2) := by decide +kernel
theorem dX10_share_268 : decode cX10_share 268 = .ok (.bipush 31, 2) := by decide +kernel
theorem dX10_share_270 : decode cX10_share 270 = .ok (.invokevirtual 98, 3) := by decide +kernel
theorem dX10_share_273 : decode cX10_share 273 = .ok (.aload_n 0, 1) := by decide +kernel
theorem dX10_share_274 : decode cX10_share 274 = .ok (.bipush 33, 2) := by decide +kernel
theorem dX10_share_276 : decode cX10_share 276 = .ok (.bipush 33, 2) := by decide +kernel
theorem dX10_share_278 : decode cX10_share 278 = .ok (.bipush 33, 2) := by decide +kernel
theorem dX10_share_280 : decode cX10_share 280 = .ok (.invokevirtual 107, 3) := by decide +kernel
theorem dX10_share_283 : decode cX10_share 283 = .ok (.aload_n 0, 1) := by decide +kernel
theorem dX10_share_284 : decode cX10_share 284 = .ok (.bipush 39, 2) := by decide +kernel
theorem dX10_share_286 : decode cX10_share 286 = .ok (.bipush 40, 2) := by decide +kernel
theorem dX10_share_288 : decode cX10_share 288 = .ok (.bipush 33, 2) := by decide +kernel
theorem dX10_share_290 : decode cX10_share 290 = .ok (.invokevirtual 107, 3) := by decide +kernel
theorem dX10_share_293 : decode cX10_share 293 = .ok (.aload_n 0, 1) := by decide +kernel
theorem dX10_share_294 : decode cX10_share 294 = .ok (.bipush 36, 2) := by decide +kernel
theorem dX10_share_296 : decode cX10_share 296 = .ok (.bipush 28, 2) := by decide +kernel
theorem dX10_share_298 : decode cX10_share 298 = .ok (.bipush 29, 2) := by decide +kernel
theorem dX10_share_300 : decode cX10_share 300 = .ok (.invokevirtual 107, 3) := by decide +kernel
theorem dX10_share_303 : decode cX10_share 303 = .ok (.aload_n 0, 1) := by decide +kernel
theorem dX10_share_304 : decode cX10_share 304 = .ok (.bipush 33, 2) := by decide +kernel
theorem dX10_share_306 : decode cX10_share 306 = .ok (.bipush 44, 2) := by decide +kernel
theorem dX10_share_308 : decode cX10_share 308 = .ok (.bipush 30, 2) := by decide +kernel
theorem dX10_share_310 : decode cX10_share 310 = .ok (.invokevirtual 107, 3) := by decide +kernel
theorem dX10_share_313 : decode cX10_share 313 = .ok (.aload_n 0, 1) := by decide +kernel
theorem dX10_share_314 : decode cX10_share 314 = .ok (.bipush 33, 2) := by decide +kernel
theorem dX10_share_316 : decode cX10_share 316 = .ok (.bipush 33, 2) := by decide +kernel
theorem dX10_share_318 : decode cX10_share 318 = .ok (.bipush 28, 2) := by decide +kernel
theorem dX10_share_320 : decode cX10_share 320 = .ok (.invokevirtual 110, 3) := by decide +kernel
theorem dX10_share_323 : decode cX10_share 323 = .ok (.aload_n 0, 1) := by decide +kernel
theorem dX10_share_324 : decode cX10_share 324 = .ok (.bipush 37, 2) := by decide +kernel
theorem dX10_share_326 : decode cX10_share 326 = .ok (.bipush 30, 2) := by decide +kernel
theorem dX10_share_328 : decode cX10_share 328 = .ok (.bipush 33, 2) := by decide +kernel
theorem dX10_share_330 : decode cX10_share 330 = .ok (.invokevirtual 107, 3) := by decide +kernel
theorem dX10_share_333 : decode cX10_share 333 = .ok (.iload 5, 2) := by decide +kernel
theorem dX10_share_335 : decode cX10_share 335 = .ok (.ifCond .eq 19, 3) := by decide +kernel
theorem dX10_share_338 : decode cX10_share 338 = .ok (.aload_n 0, 1) := by decide +kernel
theorem dX10_share_339 : decode cX10_share 339 = .ok (.bipush 36, 2) := by decide +kernel
theorem dX10_share_341 : decode cX10_share 341 = .ok (.bipush 38, 2) := by decide +kernel
theorem dX10_share_343 : decode cX10_share 343 = .ok (.invokevirtual 266, 3) := by decide +kernel
theorem dX10_share_346 : decode cX10_share 346 = .ok (.aload_n 0, 1) := by decide +kernel
theorem dX10_share_347 : decode cX10_share 347 = .ok (.bipush 37, 2) := by decide +kernel
theorem dX10_share_349 : decode cX10_share 349 = .ok (.bipush 39, 2) := by decide +kernel
theorem dX10_share_351 : decode cX10_share 351 = .ok (.invokevirtual 266, 3) := by decide +kernel
theorem dX10_share_354 : decode cX10_share 354 = .ok (.iinc 4 (-1), 3) := by decide +kernel
theorem dX10_share_357 : decode cX10_share 357 = .ok (.goto (-249), 3) := by decide +kernel
theorem dX10_share_360 : decode cX10_share 360 = .ok (.aload_n 0, 1) := by decide +kernel
theorem dX10_share_361 : decode cX10_share 361 = .ok (.bipush 37, 2) := by decide +kernel
theorem dX10_share_363 : decode cX10_share 363 = .ok (.bipush 37, 2) := by decide +kernel
theorem dX10_share_365 : decode cX10_share 365 = .ok (.invokevirtual 103, 3) := by decide +kernel
theorem dX10_share_368 : decode cX10_share 368 = .ok (.aload_n 0, 1) := by decide +kernel
theorem dX10_share_369 : decode cX10_share 369 = .ok (.bipush 36, 2) := by decide +kernel
theorem dX10_share_371 : decode cX10_share 371 = .ok (.bipush 36, 2) := by decide +kernel
theorem dX10_share_373 : decode cX10_share 373 = .ok (.bipush 37, 2) := by decide +kernel
theorem dX10_share_375 : decode cX10_share 375 = .ok (.invokevirtual 107, 3) := by decide +kernel
theorem dX10_share_378 : decode cX10_share 378 = .ok (.aload_n 0, 1) := by decide +kernel
theorem dX10_share_379 : decode cX10_share 379 = .ok (.iload_n 3, 1) := by decide +kernel
theorem dX10_share_380 : decode cX10_share 380 = .ok (.bipush 36, 2) := by decide +kernel
theorem dX10_share_382 : decode cX10_share 382 = .ok (.invokevirtual 234, 3) := by decide +kernel
theorem dX10_share_385 : decode cX10_share 385 = .ok (.aload_n 0, 1) := by decide +kernel
theorem dX10_share_386 : decode cX10_share 386 = .ok (.bipush 36, 2) := by decide +kernel
theorem dX10_share_388 : decode cX10_share 388 = .ok (.iconst 0, 1) := by decide +kernel
theorem dX10_share_389 : decode cX10_share 389 = .ok (.invokevirtual 168, 3) := by decide +kernel
theorem dX10_share_392 : decode cX10_share 392 = .ok (.ifCond .eq 7, 3) := by decide +kernel
theorem dX10_share_395 : decode cX10_share 395 = .ok (.iconst 0, 1) := by decide +kernel
theorem dX10_share_396 : decode cX10_share 396 = .ok (.goto 4, 3) := by decide +kernel
theorem dX10_share_399 : decode cX10_share 399 = .ok (.iconst 1, 1) := by decide +kernel
theorem dX10_share_400 : decode cX10_share 400 = .ok (.ireturn, 1) := by decide +kernel
theorem dX10_digest_0 : decode cX10_digest 0 = .ok (.iload_n 1, 1) := by decide +kernel
theorem dX10_digest_1 : decode cX10_digest 1 = .ok (.invokestatic 222, 3) := by decide +kernel
theorem dX10_digest_4 : decode cX10_digest 4 = .ok (.ifCond .eq 12, 3) := by decide +kernel
theorem dX10_digest_7 : decode cX10_digest 7 = .ok (.iload_n 1, 1) := by decide +kernel
theorem dX10_digest_8 : decode cX10_digest 8 = .ok (.iconst 1, 1) := by decide +kernel
theorem dX10_digest_9 : decode cX10_digest 9 = .ok (.iadd, 1) := by decide +kernel
theorem dX10_digest_10 : decode cX10_digest 10 = .ok (.invokestatic 222, 3) := by decide +kernel
theorem dX10_digest_13 : decode cX10_digest 13 = .ok (.ifCond .ne 6, 3) := by decide +kernel
theorem dX10_digest_16 : decode cX10_digest 16 = .ok (.bipush (-101), 2) := by decide +kernel
theorem dX10_digest_18 : decode cX10_digest 18 = .ok (.ireturn, 1) := by decide +kernel
theorem dX10_digest_19 : decode cX10_digest 19 = .ok (.aload_n 0, 1) := by decide +kernel
theorem dX10_digest_20 : decode cX10_digest 20 = .ok (.invokevirtual 269, 3) := by decide +kernel
theorem dX10_digest_23 : decode cX10_digest 23 = .ok (.aload_n 0, 1) := by decide +kernel
theorem dX10_digest_24 : decode cX10_digest 24 = .ok (.invokevirtual 272, 3) := by decide +kernel
theorem dX10_digest_27 : decode cX10_digest 27 = .ok (.aload_n 0, 1) := by decide +kernel
theorem dX10_digest_28 : decode cX10_digest 28 = .ok (.iconst 4, 1) := by decide +kernel
theorem dX10_digest_29 : decode cX10_digest 29 = .ok (.iconst 0, 1) := by decide +kernel
theorem dX10_digest_30 : decode cX10_digest 30 = .ok (.invokevirtual 275, 3) := by decide +kernel
theorem dX10_digest_33 : decode cX10_digest 33 = .ok (.aload_n 0, 1) := by decide +kernel
theorem dX10_digest_34 : decode cX10_digest 34 = .ok (.bipush 8, 2) := by decide +kernel
theorem dX10_digest_36 : decode cX10_digest 36 = .ok (.bipush 32, 2) := by decide +kernel
theorem dX10_digest_38 : decode cX10_digest 38 = .ok (.invokevirtual 275, 3) := by decide +kernel
theorem dX10_digest_41 : decode cX10_digest 41 = .ok (.aload_n 0, 1) := by decide +kernel
theorem dX10_digest_42 : decode cX10_digest 42 = .ok (.iload_n 1, 1) := by decide +kernel
theorem dX10_digest_43 : decode cX10_digest 43 = .ok (.iconst 4, 1) := by decide +kernel
theorem dX10_digest_44 : decode cX10_digest 44 = .ok (.invokevirtual 228, 3) := by decide +kernel
theorem dX10_digest_47 : decode cX10_digest 47 = .ok (.aload_n 0, 1) := by decide +kernel
theorem dX10_digest_48 : decode cX10_digest 48 = .ok (.iload_n 1, 1) := by decide +kernel
theorem dX10_digest_49 : decode cX10_digest 49 = .ok (.iconst 1, 1) := by decide +kernel
theorem dX10_digest_50 : decode cX10_digest 50 = .ok (.iadd, 1) := by decide +kernel
theorem dX10_digest_51 : decode cX10_digest 51 = .ok (.bipush 8, 2) := by decide +kernel
theorem dX10_digest_53 : decode cX10_digest 53 = .ok (.invokevirtual 228, 3) := by decide +kernel
theorem dX10_digest_56 : decode cX10_digest 56 = .ok (.iconst 1, 1) := by decide +kernel
theorem dX10_digest_57 : decode cX10_digest 57 = .ok (.ireturn, 1) := by decide +kernel
theorem dX10_open__0 : decode cX10_open_ 0 = .ok (.aload_n 0, 1) := by decide +kernel
theorem dX10_open__1 : decode cX10_open_ 1 = .ok (.iconst 4, 1) := by decide +kernel
theorem dX10_open__2 : decode cX10_open_ 2 = .ok (.iload_n 1, 1) := by decide +kernel
theorem dX10_open__3 : decode cX10_open_ 3 = .ok (.invokevirtual 225, 3) := by decide +kernel
theorem dX10_open__6 : decode cX10_open_ 6 = .ok (.aload_n 0, 1) := by decide +kernel
theorem dX10_open__7 : decode cX10_open_ 7 = .ok (.iconst 4, 1) := by decide +kernel
theorem dX10_open__8 : decode cX10_open_ 8 = .ok (.invokevirtual 278, 3) := by decide +kernel
theorem dX10_open__11 : decode cX10_open_ 11 = .ok (.aload_n 0, 1) := by decide +kernel
theorem dX10_open__12 : decode cX10_open_ 12 = .ok (.invokevirtual 272, 3) := by decide +kernel
theorem dX10_open__15 : decode cX10_open_ 15 = .ok (.aload_n 0, 1) := by decide +kernel
theorem dX10_open__16 : decode cX10_open_ 16 = .ok (.bipush 20, 2) := by decide +kernel
theorem dX10_open__18 : decode cX10_open_ 18 = .ok (.iconst 0, 1) := by decide +kernel
theorem dX10_open__19 : decode cX10_open_ 19 = .ok (.invokevirtual 275, 3) := by decide +kernel
theorem dX10_open__22 : decode cX10_open_ 22 = .ok (.aload_n 0, 1) := by decide +kernel
theorem dX10_open__23 : decode cX10_open_ 23 = .ok (.bipush 20, 2) := by decide +kernel
theorem dX10_open__25 : decode cX10_open_ 25 = .ok (.invokevirtual 263, 3) := by decide +kernel
theorem dX10_open__28 : decode cX10_open_ 28 = .ok (.aload_n 0, 1) := by decide +kernel
theorem dX10_open__29 : decode cX10_open_ 29 = .ok (.bipush 16, 2) := by decide +kernel
theorem dX10_open__31 : decode cX10_open_ 31 = .ok (.bipush 32, 2) := by decide +kernel
theorem dX10_open__33 : decode cX10_open_ 33 = .ok (.invokevirtual 275, 3) := by decide +kernel
theorem dX10_open__36 : decode cX10_open_ 36 = .ok (.aload_n 0, 1) := by decide +kernel
theorem dX10_open__37 : decode cX10_open_ 37 = .ok (.bipush 48, 2) := by decide +kernel
theorem dX10_open__39 : decode cX10_open_ 39 = .ok (.aload_n 0, 1) := by decide +kernel
theorem dX10_open__40 : decode cX10_open_ 40 = .ok (.getfield 27, 3) := by decide +kernel
theorem dX10_open__43 : decode cX10_open_ 43 = .ok (.bipush 16, 2) := by decide +kernel
theorem dX10_open__45 : decode cX10_open_ 45 = .ok (.laload, 1) := by decide +kernel
theorem dX10_open__46 : decode cX10_open_ 46 = .ok (.aload_n 0, 1) := by decide +kernel
theorem dX10_open__47 : decode cX10_open_ 47 = .ok (.getfield 27, 3) := by decide +kernel
theorem dX10_open__50 : decode cX10_open_ 50 = .ok (.bipush 17, 2) := by decide +kernel
theorem dX10_open__52 : decode cX10_open_ 52 = .ok (.laload, 1) := by decide +kernel
theorem dX10_open__53 : decode cX10_open_ 53 = .ok (.aload_n 0, 1) := by decide +kernel
theorem dX10_open__54 : decode cX10_open_ 54 = .ok (.getfield 27, 3) := by decide +kernel
theorem dX10_open__57 : decode cX10_open_ 57 = .ok (.bipush 18, 2) := by decide +kernel
theorem dX10_open__59 : decode cX10_open_ 59 = .ok (.laload, 1) := by decide +kernel
theorem dX10_open__60 : decode cX10_open_ 60 = .ok (.aload_n 0, 1) := by decide +kernel
theorem dX10_open__61 : decode cX10_open_ 61 = .ok (.getfield 27, 3) := by decide +kernel
theorem dX10_open__64 : decode cX10_open_ 64 = .ok (.bipush 19, 2) := by decide +kernel
theorem dX10_open__66 : decode cX10_open_ 66 = .ok (.laload, 1) := by decide +kernel
theorem dX10_open__67 : decode cX10_open_ 67 = .ok (.invokevirtual 72, 3) := by decide +kernel
theorem dX10_open__70 : decode cX10_open_ 70 = .ok (.aload_n 0, 1) := by decide +kernel
theorem dX10_open__71 : decode cX10_open_ 71 = .ok (.bipush 18, 2) := by decide +kernel
theorem dX10_open__73 : decode cX10_open_ 73 = .ok (.iconst 5, 1) := by decide +kernel
theorem dX10_open__74 : decode cX10_open_ 74 = .ok (.bipush 20, 2) := by decide +kernel
theorem dX10_open__76 : decode cX10_open_ 76 = .ok (.invokevirtual 253, 3) := by decide +kernel
theorem dX10_open__79 : decode cX10_open_ 79 = .ok (.aload_n 0, 1) := by decide +kernel
theorem dX10_open__80 : decode cX10_open_ 80 = .ok (.bipush 28, 2) := by decide +kernel
theorem dX10_open__82 : decode cX10_open_ 82 = .ok (.bipush 18, 2) := by decide +kernel
theorem dX10_open__84 : decode cX10_open_ 84 = .ok (.invokevirtual 241, 3) := by decide +kernel
theorem dX10_open__87 : decode cX10_open_ 87 = .ok (.return_, 1) := by decide +kernel
theorem dX10_key_0 : decode cX10_key 0 = .ok (.iload_n 1, 1) := by decide +kernel
theorem dX10_key_1 : decode cX10_key 1 = .ok (.invokestatic 222, 3) := by decide +kernel
theorem dX10_key_4 : decode cX10_key 4 = .ok (.ifCond .eq 10, 3) := by decide +kernel
theorem dX10_key_7 : decode cX10_key 7 = .ok (.iload_n 2, 1) := by decide +kernel
theorem dX10_key_8 : decode cX10_key 8 = .ok (.invokestatic 222, 3) := by decide +kernel
theorem dX10_key_11 : decode cX10_key 11 = .ok (.ifCond .ne 6, 3) := by decide +kernel
theorem dX10_key_14 : decode cX10_key 14 = .ok (.bipush (-101), 2) := by decide +kernel
theorem dX10_key_16 : decode cX10_key 16 = .ok (.ireturn, 1) := by decide +kernel
theorem dX10_key_17 : decode cX10_key 17 = .ok (.aload_n 0, 1) := by decide +kernel
theorem dX10_key_18 : decode cX10_key 18 = .ok (.getfield 17, 3) := by decide +kernel
theorem dX10_key_21 : decode cX10_key 21 = .ok (.iconst 1, 1) := by decide +kernel
theorem dX10_key_22 : decode cX10_key 22 = .ok (.if_icmp .ge 6, 3) := by decide +kernel
theorem dX10_key_25 : decode cX10_key 25 = .ok (.bipush (-103), 2) := by decide +kernel
theorem dX10_key_27 : decode cX10_key 27 = .ok (.ireturn, 1) := by decide +kernel
theorem dX10_key_28 : decode cX10_key 28 = .ok (.aload_n 0, 1) := by decide +kernel
theorem dX10_key_29 : decode cX10_key 29 = .ok (.dup, 1) := by decide +kernel
theorem dX10_key_30 : decode cX10_key 30 = .ok (.getfield 17, 3) := by decide +kernel
theorem dX10_key_33 : decode cX10_key 33 = .ok (.iconst 1, 1) := by decide +kernel
theorem dX10_key_34 : decode cX10_key 34 = .ok (.isub, 1) := by decide +kernel
theorem dX10_key_35 : decode cX10_key 35 = .ok (.putfield 17, 3) := by decide +kernel
theorem dX10_key_38 : decode cX10_key 38 = .ok (.aload_n 0, 1) := by decide +kernel
theorem dX10_key_39 : decode cX10_key 39 = .ok (.iload_n 1, 1) := by decide +kernel
theorem dX10_key_40 : decode cX10_key 40 = .ok (.invokevirtual 281, 3) := by decide +kernel
theorem dX10_key_43 : decode cX10_key 43 = .ok (.aload_n 0, 1) := by decide +kernel
theorem dX10_key_44 : decode cX10_key 44 = .ok (.iload_n 2, 1) := by decide +kernel
theorem dX10_key_45 : decode cX10_key 45 = .ok (.bipush 28, 2) := by decide +kernel
theorem dX10_key_47 : decode cX10_key 47 = .ok (.invokevirtual 228, 3) := by decide +kernel
theorem dX10_key_50 : decode cX10_key 50 = .ok (.iconst 1, 1) := by decide +kernel
theorem dX10_key_51 : decode cX10_key 51 = .ok (.ireturn, 1) := by decide +kernel
theorem dX10_sign_0 : decode cX10_sign 0 = .ok (.iload_n 1, 1) := by decide +kernel
theorem dX10_sign_1 : decode cX10_sign 1 = .ok (.invokestatic 222, 3) := by decide +kernel
theorem dX10_sign_4 : decode cX10_sign 4 = .ok (.ifCond .eq 19, 3) := by decide +kernel
theorem dX10_sign_7 : decode cX10_sign 7 = .ok (.iload_n 2, 1) := by decide +kernel
theorem dX10_sign_8 : decode cX10_sign 8 = .ok (.invokestatic 222, 3) := by decide +kernel
theorem dX10_sign_11 : decode cX10_sign 11 = .ok (.ifCond .eq 12, 3) := by decide +kernel
theorem dX10_sign_14 : decode cX10_sign 14 = .ok (.iload_n 2, 1) := by decide +kernel
theorem dX10_sign_15 : decode cX10_sign 15 = .ok (.iconst 1, 1) := by decide +kernel
theorem dX10_sign_16 : decode cX10_sign 16 = .ok (.iadd, 1) := by decide +kernel
theorem dX10_sign_17 : decode cX10_sign 17 = .ok (.invokestatic 222, 3) := by decide +kernel
theorem dX10_sign_20 : decode cX10_sign 20 = .ok (.ifCond .ne 6, 3) := by decide +kernel
theorem dX10_sign_23 : decode cX10_sign 23 = .ok (.bipush (-101), 2) := by decide +kernel
theorem dX10_sign_25 : decode cX10_sign 25 = .ok (.ireturn, 1) := by decide +kernel
theorem dX10_sign_26 : decode cX10_sign 26 = .ok (.aload_n 0, 1) := by decide +kernel
theorem dX10_sign_27 : decode cX10_sign 27 = .ok (.getfield 17, 3) := by decide +kernel
theorem dX10_sign_30 : decode cX10_sign 30 = .ok (.iconst 2, 1) := by decide +kernel
theorem dX10_sign_31 : decode cX10_sign 31 = .ok (.if_icmp .ge 6, 3) := by decide +kernel
theorem dX10_sign_34 : decode cX10_sign 34 = .ok (.bipush (-103), 2) := by decide +kernel
theorem dX10_sign_36 : decode cX10_sign 36 = .ok (.ireturn, 1) := by decide +kernel
theorem dX10_sign_37 : decode cX10_sign 37 = .ok (.aload_n 0, 1) := by decide +kernel
theorem dX10_sign_38 : decode cX10_sign 38 = .ok (.dup, 1) := by decide +kernel
theorem dX10_sign_39 : decode cX10_sign 39 = .ok (.getfield 17, 3) := by decide +kernel
theorem dX10_sign_42 : decode cX10_sign 42 = .ok (.iconst 2, 1) := by decide +kernel
theorem dX10_sign_43 : decode cX10_sign 43 = .ok (.isub, 1) := by decide +kernel
theorem dX10_sign_44 : decode cX10_sign 44 = .ok (.putfield 17, 3) := by decide +kernel
theorem dX10_sign_47 : decode cX10_sign 47 = .ok (.aload_n 0, 1) := by decide +kernel
theorem dX10_sign_48 : decode cX10_sign 48 = .ok (.iload_n 1, 1) := by decide +kernel
theorem dX10_sign_49 : decode cX10_sign 49 = .ok (.invokevirtual 281, 3) := by decide +kernel
theorem dX10_sign_52 : decode cX10_sign 52 = .ok (.aload_n 0, 1) := by decide +kernel
theorem dX10_sign_53 : decode cX10_sign 53 = .ok (.bipush 48, 2) := by decide +kernel
theorem dX10_sign_55 : decode cX10_sign 55 = .ok (.invokevirtual 278, 3) := by decide +kernel
theorem dX10_sign_58 : decode cX10_sign 58 = .ok (.aload_n 0, 1) := by decide +kernel
theorem dX10_sign_59 : decode cX10_sign 59 = .ok (.invokevirtual 269, 3) := by decide +kernel
theorem dX10_sign_62 : decode cX10_sign 62 = .ok (.aload_n 0, 1) := by decide +kernel
theorem dX10_sign_63 : decode cX10_sign 63 = .ok (.invokevirtual 272, 3) := by decide +kernel
theorem dX10_sign_66 : decode cX10_sign 66 = .ok (.aload_n 0, 1) := by decide +kernel
theorem dX10_sign_67 : decode cX10_sign 67 = .ok (.bipush 40, 2) := by decide +kernel
theorem dX10_sign_69 : decode cX10_sign 69 = .ok (.invokevirtual 283, 3) := by decide +kernel
theorem dX10_sign_72 : decode cX10_sign 72 = .ok (.aload_n 0, 1) := by decide +kernel
theorem dX10_sign_73 : decode cX10_sign 73 = .ok (.bipush 18, 2) := by decide +kernel
theorem dX10_sign_75 : decode cX10_sign 75 = .ok (.iconst 5, 1) := by decide +kernel
theorem dX10_sign_76 : decode cX10_sign 76 = .ok (.bipush 40, 2) := by decide +kernel
theorem dX10_sign_78 : decode cX10_sign 78 = .ok (.invokevirtual 253, 3) := by decide +kernel
theorem dX10_sign_81 : decode cX10_sign 81 = .ok (.aload_n 0, 1) := by decide +kernel
theorem dX10_sign_82 : decode cX10_sign 82 = .ok (.bipush 44, 2) := by decide +kernel
theorem dX10_sign_84 : decode cX10_sign 84 = .ok (.bipush 18, 2) := by decide +kernel
theorem dX10_sign_86 : decode cX10_sign 86 = .ok (.invokevirtual 241, 3) := by decide +kernel
theorem dX10_sign_89 : decode cX10_sign 89 = .ok (.aload_n 0, 1) := by decide +kernel
theorem dX10_sign_90 : decode cX10_sign 90 = .ok (.bipush 44, 2) := by decide +kernel
theorem dX10_sign_92 : decode cX10_sign 92 = .ok (.invokevirtual 278, 3) := by decide +kernel
theorem dX10_sign_95 : decode cX10_sign 95 = .ok (.aload_n 0, 1) := by decide +kernel
theorem dX10_sign_96 : decode cX10_sign 96 = .ok (.bipush 28, 2) := by decide +kernel
theorem dX10_sign_98 : decode cX10_sign 98 = .ok (.invokevirtual 278, 3) := by decide +kernel
theorem dX10_sign_101 : decode cX10_sign 101 = .ok (.aload_n 0, 1) := by decide +kernel
theorem dX10_sign_102 : decode cX10_sign 102 = .ok (.invokevirtual 269, 3) := by decide +kernel
theorem dX10_sign_105 : decode cX10_sign 105 = .ok (.aload_n 0, 1) := by decide +kernel
theorem dX10_sign_106 : decode cX10_sign 106 = .ok (.invokevirtual 272, 3) := by decide +kernel
theorem dX10_sign_109 : decode cX10_sign 109 = .ok (.aload_n 0, 1) := by decide +kernel
theorem dX10_sign_110 : decode cX10_sign 110 = .ok (.bipush 8, 2) := by decide +kernel
theorem dX10_sign_112 : decode cX10_sign 112 = .ok (.invokevirtual 283, 3) := by decide +kernel
theorem dX10_sign_115 : decode cX10_sign 115 = .ok (.aload_n 0, 1) := by decide +kernel
theorem dX10_sign_116 : decode cX10_sign 116 = .ok (.bipush 12, 2) := by decide +kernel
theorem dX10_sign_118 : decode cX10_sign 118 = .ok (.bipush 8, 2) := by decide +kernel
theorem dX10_sign_120 : decode cX10_sign 120 = .ok (.bipush 20, 2) := by decide +kernel
theorem dX10_sign_122 : decode cX10_sign 122 = .ok (.bipush 40, 2) := by decide +kernel
theorem dX10_sign_124 : decode cX10_sign 124 = .ok (.invokevirtual 237, 3) := by decide +kernel
theorem dX10_sign_127 : decode cX10_sign 127 = .ok (.aload_n 0, 1) := by decide +kernel
theorem dX10_sign_128 : decode cX10_sign 128 = .ok (.iload_n 2, 1) := by decide +kernel
theorem dX10_sign_129 : decode cX10_sign 129 = .ok (.bipush 44, 2) := by decide +kernel
theorem dX10_sign_131 : decode cX10_sign 131 = .ok (.invokevirtual 228, 3) := by decide +kernel
theorem dX10_sign_134 : decode cX10_sign 134 = .ok (.aload_n 0, 1) := by decide +kernel
theorem dX10_sign_135 : decode cX10_sign 135 = .ok (.iload_n 2, 1) := by decide +kernel
theorem dX10_sign_136 : decode cX10_sign 136 = .ok (.iconst 1, 1) := by decide +kernel
theorem dX10_sign_137 : decode cX10_sign 137 = .ok (.iadd, 1) := by decide +kernel
theorem dX10_sign_138 : decode cX10_sign 138 = .ok (.bipush 12, 2) := by decide +kernel
theorem dX10_sign_140 : decode cX10_sign 140 = .ok (.invokevirtual 228, 3) := by decide +kernel
theorem dX10_sign_143 : decode cX10_sign 143 = .ok (.aload_n 0, 1) := by decide +kernel
theorem dX10_sign_144 : decode cX10_sign 144 = .ok (.dup, 1) := by decide +kernel
theorem dX10_sign_145 : decode cX10_sign 145 = .ok (.getfield 286, 3) := by decide +kernel
theorem dX10_sign_148 : decode cX10_sign 148 = .ok (.iconst 1, 1) := by decide +kernel
theorem dX10_sign_149 : decode cX10_sign 149 = .ok (.iadd, 1) := by decide +kernel
theorem dX10_sign_150 : decode cX10_sign 150 = .ok (.putfield 286, 3) := by decide +kernel
theorem dX10_sign_153 : decode cX10_sign 153 = .ok (.iconst 1, 1) := by decide +kernel
theorem dX10_sign_154 : decode cX10_sign 154 = .ok (.ireturn, 1) := by decide +kernel
theorem dX10_eightTimes_0 : decode cX10_eightTimes 0 = .ok (.iconst 0, 1) := by decide +kernel
theorem dX10_eightTimes_1 : decode cX10_eightTimes 1 = .ok (.istore_n 2, 1) := by decide +kernel
theorem dX10_eightTimes_2 : decode cX10_eightTimes 2 = .ok (.iload_n 2, 1) := by decide +kernel
theorem dX10_eightTimes_3 : decode cX10_eightTimes 3 = .ok (.iconst 3, 1) := by decide +kernel
theorem dX10_eightTimes_4 : decode cX10_eightTimes 4 = .ok (.if_icmp .ge 15, 3) := by decide +kernel
theorem dX10_eightTimes_7 : decode cX10_eightTimes 7 = .ok (.aload_n 0, 1) := by decide +kernel
theorem dX10_eightTimes_8 : decode cX10_eightTimes 8 = .ok (.iload_n 1, 1) := by decide +kernel
theorem dX10_eightTimes_9 : decode cX10_eightTimes 9 = .ok (.iload_n 1, 1) := by decide +kernel
theorem dX10_eightTimes_10 : decode cX10_eightTimes 10 = .ok (.invokevirtual 174, 3) := by decide +kernel
theorem dX10_eightTimes_13 : decode cX10_eightTimes 13 = .ok (.iinc 2 1, 3) := by decide +kernel
theorem dX10_eightTimes_16 : decode cX10_eightTimes 16 = .ok (.goto (-14), 3) := by decide +kernel
theorem dX10_eightTimes_19 : decode cX10_eightTimes 19 = .ok (.return_, 1) := by decide +kernel
theorem dX10_isRight_0 : decode cX10_isRight 0 = .ok (.aload_n 0, 1) := by decide +kernel
theorem dX10_isRight_1 : decode cX10_isRight 1 = .ok (.bipush 8, 2) := by decide +kernel
theorem dX10_isRight_3 : decode cX10_isRight 3 = .ok (.iload_n 2, 1) := by decide +kernel
theorem dX10_isRight_4 : decode cX10_isRight 4 = .ok (.iconst 1, 1) := by decide +kernel
theorem dX10_isRight_5 : decode cX10_isRight 5 = .ok (.iadd, 1) := by decide +kernel
theorem dX10_isRight_6 : decode cX10_isRight 6 = .ok (.invokevirtual 225, 3) := by decide +kernel
theorem dX10_isRight_9 : decode cX10_isRight 9 = .ok (.aload_n 0, 1) := by decide +kernel
theorem dX10_isRight_10 : decode cX10_isRight 10 = .ok (.bipush 8, 2) := by decide +kernel
theorem dX10_isRight_12 : decode cX10_isRight 12 = .ok (.bipush 32, 2) := by decide +kernel
theorem dX10_isRight_14 : decode cX10_isRight 14 = .ok (.invokevirtual 161, 3) := by decide +kernel
theorem dX10_isRight_17 : decode cX10_isRight 17 = .ok (.ifCond .ge 23, 3) := by decide +kernel
theorem dX10_isRight_20 : decode cX10_isRight 20 = .ok (.aload_n 0, 1) := by decide +kernel
theorem dX10_isRight_21 : decode cX10_isRight 21 = .ok (.bipush 10, 2) := by decide +kernel
theorem dX10_isRight_23 : decode cX10_isRight 23 = .ok (.iload_n 1, 1) := by decide +kernel
theorem dX10_isRight_24 : decode cX10_isRight 24 = .ok (.invokevirtual 244, 3) := by decide +kernel
theorem dX10_isRight_27 : decode cX10_isRight 27 = .ok (.ifCond .eq 13, 3) := by decide +kernel
theorem dX10_isRight_30 : decode cX10_isRight 30 = .ok (.aload_n 0, 1) := by decide +kernel
theorem dX10_isRight_31 : decode cX10_isRight 31 = .ok (.bipush 14, 2) := by decide +kernel
theorem dX10_isRight_33 : decode cX10_isRight 33 = .ok (.iload_n 2, 1) := by decide +kernel
theorem dX10_isRight_34 : decode cX10_isRight 34 = .ok (.invokevirtual 244, 3) := by decide +kernel
theorem dX10_isRight_37 : decode cX10_isRight 37 = .ok (.ifCond .ne 5, 3) := by decide +kernel
theorem dX10_isRight_40 : decode cX10_isRight 40 = .ok (.iconst 0, 1) := by decide +kernel
theorem dX10_isRight_41 : decode cX10_isRight 41 = .ok (.ireturn, 1) := by decide +kernel
theorem dX10_isRight_42 : decode cX10_isRight 42 = .ok (.aload_n 0, 1) := by decide +kernel
theorem dX10_isRight_43 : decode cX10_isRight 43 = .ok (.iconst 4, 1) := by decide +kernel
theorem dX10_isRight_44 : decode cX10_isRight 44 = .ok (.iload_n 2, 1) := by decide +kernel
theorem dX10_isRight_45 : decode cX10_isRight 45 = .ok (.invokevirtual 225, 3) := by decide +kernel
theorem dX10_isRight_48 : decode cX10_isRight 48 = .ok (.aload_n 0, 1) := by decide +kernel
theorem dX10_isRight_49 : decode cX10_isRight 49 = .ok (.iconst 4, 1) := by decide +kernel
theorem dX10_isRight_50 : decode cX10_isRight 50 = .ok (.invokevirtual 278, 3) := by decide +kernel
theorem dX10_isRight_53 : decode cX10_isRight 53 = .ok (.aload_n 0, 1) := by decide +kernel
theorem dX10_isRight_54 : decode cX10_isRight 54 = .ok (.iconst 4, 1) := by decide +kernel
theorem dX10_isRight_55 : decode cX10_isRight 55 = .ok (.iload_n 1, 1) := by decide +kernel
theorem dX10_isRight_56 : decode cX10_isRight 56 = .ok (.invokevirtual 225, 3) := by decide +kernel
theorem dX10_isRight_59 : decode cX10_isRight 59 = .ok (.aload_n 0, 1) := by decide +kernel
theorem dX10_isRight_60 : decode cX10_isRight 60 = .ok (.iconst 4, 1) := by decide +kernel
theorem dX10_isRight_61 : decode cX10_isRight 61 = .ok (.invokevirtual 278, 3) := by decide +kernel
theorem dX10_isRight_64 : decode cX10_isRight 64 = .ok (.aload_n 0, 1) := by decide +kernel
theorem dX10_isRight_65 : decode cX10_isRight 65 = .ok (.invokevirtual 269, 3) := by decide +kernel
theorem dX10_isRight_68 : decode cX10_isRight 68 = .ok (.aload_n 0, 1) := by decide +kernel
theorem dX10_isRight_69 : decode cX10_isRight 69 = .ok (.invokevirtual 272, 3) := by decide +kernel
theorem dX10_isRight_72 : decode cX10_isRight 72 = .ok (.aload_n 0, 1) := by decide +kernel
theorem dX10_isRight_73 : decode cX10_isRight 73 = .ok (.bipush 20, 2) := by decide +kernel
theorem dX10_isRight_75 : decode cX10_isRight 75 = .ok (.invokevirtual 283, 3) := by decide +kernel
theorem dX10_isRight_78 : decode cX10_isRight 78 = .ok (.aload_n 0, 1) := by decide +kernel
theorem dX10_isRight_79 : decode cX10_isRight 79 = .ok (.bipush 18, 2) := by decide +kernel
theorem dX10_isRight_81 : decode cX10_isRight 81 = .ok (.iconst 5, 1) := by decide +kernel
theorem dX10_isRight_82 : decode cX10_isRight 82 = .ok (.bipush 8, 2) := by decide +kernel
theorem dX10_isRight_84 : decode cX10_isRight 84 = .ok (.invokevirtual 253, 3) := by decide +kernel
theorem dX10_isRight_87 : decode cX10_isRight 87 = .ok (.aload_n 0, 1) := by decide +kernel
theorem dX10_isRight_88 : decode cX10_isRight 88 = .ok (.bipush 18, 2) := by decide +kernel
theorem dX10_isRight_90 : decode cX10_isRight 90 = .ok (.invokevirtual 289, 3) := by decide +kernel
theorem dX10_isRight_93 : decode cX10_isRight 93 = .ok (.aload_n 0, 1) := by decide +kernel
theorem dX10_isRight_94 : decode cX10_isRight 94 = .ok (.bipush 22, 2) := by decide +kernel
theorem dX10_isRight_96 : decode cX10_isRight 96 = .ok (.bipush 10, 2) := by decide +kernel
theorem dX10_isRight_98 : decode cX10_isRight 98 = .ok (.bipush 20, 2) := by decide +kernel
theorem dX10_isRight_100 : decode cX10_isRight 100 = .ok (.invokevirtual 253, 3) := by decide +kernel
theorem dX10_isRight_103 : decode cX10_isRight 103 = .ok (.aload_n 0, 1) := by decide +kernel
theorem dX10_isRight_104 : decode cX10_isRight 104 = .ok (.bipush 22, 2) := by decide +kernel
theorem dX10_isRight_106 : decode cX10_isRight 106 = .ok (.bipush 14, 2) := by decide +kernel
theorem dX10_isRight_108 : decode cX10_isRight 108 = .ok (.invokevirtual 174, 3) := by decide +kernel
theorem dX10_isRight_111 : decode cX10_isRight 111 = .ok (.aload_n 0, 1) := by decide +kernel
theorem dX10_isRight_112 : decode cX10_isRight 112 = .ok (.bipush 22, 2) := by decide +kernel
theorem dX10_isRight_114 : decode cX10_isRight 114 = .ok (.invokevirtual 289, 3) := by decide +kernel
theorem dX10_isRight_117 : decode cX10_isRight 117 = .ok (.aload_n 0, 1) := by decide +kernel
theorem dX10_isRight_118 : decode cX10_isRight 118 = .ok (.bipush 22, 2) := by decide +kernel
theorem dX10_isRight_120 : decode cX10_isRight 120 = .ok (.invokevirtual 247, 3) := by decide +kernel
theorem dX10_isRight_123 : decode cX10_isRight 123 = .ok (.aload_n 0, 1) := by decide +kernel
theorem dX10_isRight_124 : decode cX10_isRight 124 = .ok (.bipush 18, 2) := by decide +kernel
theorem dX10_isRight_126 : decode cX10_isRight 126 = .ok (.bipush 22, 2) := by decide +kernel
theorem dX10_isRight_128 : decode cX10_isRight 128 = .ok (.invokevirtual 174, 3) := by decide +kernel
theorem dX10_isRight_131 : decode cX10_isRight 131 = .ok (.aload_n 0, 1) := by decide +kernel
theorem dX10_isRight_132 : decode cX10_isRight 132 = .ok (.bipush 18, 2) := by decide +kernel
theorem dX10_isRight_134 : decode cX10_isRight 134 = .ok (.invokevirtual 256, 3) := by decide +kernel
theorem dX10_isRight_137 : decode cX10_isRight 137 = .ok (.ireturn, 1) := by decide +kernel
theorem dX10_judge_0 : decode cX10_judge 0 = .ok (.iload_n 1, 1) := by decide +kernel
theorem dX10_judge_1 : decode cX10_judge 1 = .ok (.invokestatic 222, 3) := by decide +kernel
theorem dX10_judge_4 : decode cX10_judge 4 = .ok (.ifCond .eq 19, 3) := by decide +kernel
theorem dX10_judge_7 : decode cX10_judge 7 = .ok (.iload_n 2, 1) := by decide +kernel
theorem dX10_judge_8 : decode cX10_judge 8 = .ok (.invokestatic 222, 3) := by decide +kernel
theorem dX10_judge_11 : decode cX10_judge 11 = .ok (.ifCond .eq 12, 3) := by decide +kernel
theorem dX10_judge_14 : decode cX10_judge 14 = .ok (.iload_n 2, 1) := by decide +kernel
theorem dX10_judge_15 : decode cX10_judge 15 = .ok (.iconst 1, 1) := by decide +kernel
theorem dX10_judge_16 : decode cX10_judge 16 = .ok (.iadd, 1) := by decide +kernel
theorem dX10_judge_17 : decode cX10_judge 17 = .ok (.invokestatic 222, 3) := by decide +kernel
theorem dX10_judge_20 : decode cX10_judge 20 = .ok (.ifCond .ne 6, 3) := by decide +kernel
theorem dX10_judge_23 : decode cX10_judge 23 = .ok (.bipush (-101), 2) := by decide +kernel
theorem dX10_judge_25 : decode cX10_judge 25 = .ok (.ireturn, 1) := by decide +kernel
theorem dX10_judge_26 : decode cX10_judge 26 = .ok (.aload_n 0, 1) := by decide +kernel
theorem dX10_judge_27 : decode cX10_judge 27 = .ok (.getfield 17, 3) := by decide +kernel
theorem dX10_judge_30 : decode cX10_judge 30 = .ok (.iconst 2, 1) := by decide +kernel
theorem dX10_judge_31 : decode cX10_judge 31 = .ok (.if_icmp .ge 6, 3) := by decide +kernel
theorem dX10_judge_34 : decode cX10_judge 34 = .ok (.bipush (-103), 2) := by decide +kernel
theorem dX10_judge_36 : decode cX10_judge 36 = .ok (.ireturn, 1) := by decide +kernel
theorem dX10_judge_37 : decode cX10_judge 37 = .ok (.aload_n 0, 1) := by decide +kernel
theorem dX10_judge_38 : decode cX10_judge 38 = .ok (.dup, 1) := by decide +kernel
theorem dX10_judge_39 : decode cX10_judge 39 = .ok (.getfield 17, 3) := by decide +kernel
theorem dX10_judge_42 : decode cX10_judge 42 = .ok (.iconst 2, 1) := by decide +kernel
theorem dX10_judge_43 : decode cX10_judge 43 = .ok (.isub, 1) := by decide +kernel
theorem dX10_judge_44 : decode cX10_judge 44 = .ok (.putfield 17, 3) := by decide +kernel
theorem dX10_judge_47 : decode cX10_judge 47 = .ok (.aload_n 0, 1) := by decide +kernel
theorem dX10_judge_48 : decode cX10_judge 48 = .ok (.dup, 1) := by decide +kernel
theorem dX10_judge_49 : decode cX10_judge 49 = .ok (.getfield 292, 3) := by decide +kernel
theorem dX10_judge_52 : decode cX10_judge 52 = .ok (.iconst 1, 1) := by decide +kernel
theorem dX10_judge_53 : decode cX10_judge 53 = .ok (.iadd, 1) := by decide +kernel
theorem dX10_judge_54 : decode cX10_judge 54 = .ok (.putfield 292, 3) := by decide +kernel
theorem dX10_judge_57 : decode cX10_judge 57 = .ok (.aload_n 0, 1) := by decide +kernel
theorem dX10_judge_58 : decode cX10_judge 58 = .ok (.iload_n 1, 1) := by decide +kernel
theorem dX10_judge_59 : decode cX10_judge 59 = .ok (.iload_n 2, 1) := by decide +kernel
theorem dX10_judge_60 : decode cX10_judge 60 = .ok (.invokevirtual 295, 3) := by decide +kernel
theorem dX10_judge_63 : decode cX10_judge 63 = .ok (.ifCond .ne 5, 3) := by decide +kernel
theorem dX10_judge_66 : decode cX10_judge 66 = .ok (.iconst 0, 1) := by decide +kernel
theorem dX10_judge_67 : decode cX10_judge 67 = .ok (.ireturn, 1) := by decide +kernel
theorem dX10_judge_68 : decode cX10_judge 68 = .ok (.aload_n 0, 1) := by decide +kernel
theorem dX10_judge_69 : decode cX10_judge 69 = .ok (.dup, 1) := by decide +kernel
theorem dX10_judge_70 : decode cX10_judge 70 = .ok (.getfield 298, 3) := by decide +kernel
theorem dX10_judge_73 : decode cX10_judge 73 = .ok (.iconst 1, 1) := by decide +kernel
theorem dX10_judge_74 : decode cX10_judge 74 = .ok (.iadd, 1) := by decide +kernel
theorem dX10_judge_75 : decode cX10_judge 75 = .ok (.putfield 298, 3) := by decide +kernel
theorem dX10_judge_78 : decode cX10_judge 78 = .ok (.iconst 1, 1) := by decide +kernel
theorem dX10_judge_79 : decode cX10_judge 79 = .ok (.ireturn, 1) := by decide +kernel
theorem dX10_count_0 : decode cX10_count 0 = .ok (.iload_n 1, 1) := by decide +kernel
theorem dX10_count_1 : decode cX10_count 1 = .ok (.tableswitch 60 0 4 #[35, 40, 45, 50, 55], 35) := by decide +kernel
theorem dX10_count_36 : decode cX10_count 36 = .ok (.aload_n 0, 1) := by decide +kernel
theorem dX10_count_37 : decode cX10_count 37 = .ok (.getfield 203, 3) := by decide +kernel
theorem dX10_count_40 : decode cX10_count 40 = .ok (.ireturn, 1) := by decide +kernel
theorem dX10_count_41 : decode cX10_count 41 = .ok (.aload_n 0, 1) := by decide +kernel
theorem dX10_count_42 : decode cX10_count 42 = .ok (.getfield 17, 3) := by decide +kernel
theorem dX10_count_45 : decode cX10_count 45 = .ok (.ireturn, 1) := by decide +kernel
theorem dX10_count_46 : decode cX10_count 46 = .ok (.aload_n 0, 1) := by decide +kernel
theorem dX10_count_47 : decode cX10_count 47 = .ok (.getfield 286, 3) := by decide +kernel
theorem dX10_count_50 : decode cX10_count 50 = .ok (.ireturn, 1) := by decide +kernel
theorem dX10_count_51 : decode cX10_count 51 = .ok (.aload_n 0, 1) := by decide +kernel
theorem dX10_count_52 : decode cX10_count 52 = .ok (.getfield 292, 3) := by decide +kernel
theorem dX10_count_55 : decode cX10_count 55 = .ok (.ireturn, 1) := by decide +kernel
theorem dX10_count_56 : decode cX10_count 56 = .ok (.aload_n 0, 1) := by decide +kernel
theorem dX10_count_57 : decode cX10_count 57 = .ok (.getfield 298, 3) := by decide +kernel
theorem dX10_count_60 : decode cX10_count 60 = .ok (.ireturn, 1) := by decide +kernel
theorem dX10_count_61 : decode cX10_count 61 = .ok (.bipush (-102), 2) := by decide +kernel
theorem dX10_count_63 : decode cX10_count 63 = .ok (.ireturn, 1) := by decide +kernel
theorem dJ7_fill_d0a16_0 : decode cJ7_fill_d0a16 0 = .ok (.iconst 0, 1) := by decide +kernel
theorem dJ7_fill_d0a16_1 : decode cJ7_fill_d0a16 1 = .ok (.istore_n 3, 1) := by decide +kernel
theorem dJ7_fill_d0a16_2 : decode cJ7_fill_d0a16 2 = .ok (.aload_n 0, 1) := by decide +kernel
theorem dJ7_fill_d0a16_3 : decode cJ7_fill_d0a16 3 = .ok (.arraylength, 1) := by decide +kernel
theorem dJ7_fill_d0a16_4 : decode cJ7_fill_d0a16 4 = .ok (.istore 4, 2) := by decide +kernel
theorem dJ7_fill_d0a16_6 : decode cJ7_fill_d0a16 6 = .ok (.iload_n 3, 1) := by decide +kernel
theorem dJ7_fill_d0a16_7 : decode cJ7_fill_d0a16 7 = .ok (.iload 4, 2) := by decide +kernel
theorem dJ7_fill_d0a16_9 : decode cJ7_fill_d0a16 9 = .ok (.if_icmp .ge 13, 3) := by decide +kernel
theorem dJ7_fill_d0a16_12 : decode cJ7_fill_d0a16 12 = .ok (.aload_n 0, 1) := by decide +kernel
theorem dJ7_fill_d0a16_13 : decode cJ7_fill_d0a16 13 = .ok (.iload_n 3, 1) := by decide +kernel
theorem dJ7_fill_d0a16_14 : decode cJ7_fill_d0a16 14 = .ok (.lload_n 1, 1) := by decide +kernel
theorem dJ7_fill_d0a16_15 : decode cJ7_fill_d0a16 15 = .ok (.lastore, 1) := by decide +kernel
theorem dJ7_fill_d0a16_16 : decode cJ7_fill_d0a16 16 = .ok (.iinc 3 1, 3) := by decide +kernel
theorem dJ7_fill_d0a16_19 : decode cJ7_fill_d0a16 19 = .ok (.goto (-13), 3) := by decide +kernel
theorem dJ7_fill_d0a16_22 : decode cJ7_fill_d0a16 22 = .ok (.return_, 1) := by decide +kernel
theorem dL_law_0 : decode cL_law 0 = .ok (.new 7, 3) := by decide +kernel
theorem dL_law_3 : decode cL_law 3 = .ok (.dup, 1) := by decide +kernel
theorem dL_law_4 : decode cL_law 4 = .ok (.invokespecial 9, 3) := by decide +kernel
theorem dL_law_7 : decode cL_law 7 = .ok (.astore_n 1, 1) := by decide +kernel
theorem dL_law_8 : decode cL_law 8 = .ok (.new 10, 3) := by decide +kernel
theorem dL_law_11 : decode cL_law 11 = .ok (.dup, 1) := by decide +kernel
theorem dL_law_12 : decode cL_law 12 = .ok (.invokespecial 12, 3) := by decide +kernel
theorem dL_law_15 : decode cL_law 15 = .ok (.astore_n 2, 1) := by decide +kernel
theorem dL_law_16 : decode cL_law 16 = .ok (.iconst 0, 1) := by decide +kernel
theorem dL_law_17 : decode cL_law 17 = .ok (.istore_n 3, 1) := by decide +kernel
theorem dL_law_18 : decode cL_law 18 = .ok (.iload_n 3, 1) := by decide +kernel
theorem dL_law_19 : decode cL_law 19 = .ok (.aload_n 0, 1) := by decide +kernel
theorem dL_law_20 : decode cL_law 20 = .ok (.arraylength, 1) := by decide +kernel
theorem dL_law_21 : decode cL_law 21 = .ok (.iconst 5, 1) := by decide +kernel
theorem dL_law_22 : decode cL_law 22 = .ok (.isub, 1) := by decide +kernel
theorem dL_law_23 : decode cL_law 23 = .ok (.if_icmp .gt 1094, 3) := by decide +kernel
theorem dL_law_26 : decode cL_law 26 = .ok (.aload_n 0, 1) := by decide +kernel
theorem dL_law_27 : decode cL_law 27 = .ok (.iload_n 3, 1) := by decide +kernel
theorem dL_law_28 : decode cL_law 28 = .ok (.iaload, 1) := by decide +kernel
theorem dL_law_29 : decode cL_law 29 = .ok (.bipush 31, 2) := by decide +kernel
theorem dL_law_31 : decode cL_law 31 = .ok (.iand, 1) := by decide +kernel
theorem dL_law_32 : decode cL_law 32 = .ok (.tableswitch 1079 0 25 #[120, 193, 227, 260, 323, 336, 359, 402, 455, 498, 531, 564, 597, 650, 673, 706, 759, 802, 835, 858, 891, 934, 957, 990, 1023, 1056], 120) := by decide +kernel
theorem dL_law_152 : decode cL_law 152 = .ok (.aload_n 1, 1) := by decide +kernel
theorem dL_law_153 : decode cL_law 153 = .ok (.aload_n 0, 1) := by decide +kernel
theorem dL_law_154 : decode cL_law 154 = .ok (.iload_n 3, 1) := by decide +kernel
theorem dL_law_155 : decode cL_law 155 = .ok (.iconst 1, 1) := by decide +kernel
theorem dL_law_156 : decode cL_law 156 = .ok (.iadd, 1) := by decide +kernel
theorem dL_law_157 : decode cL_law 157 = .ok (.iaload, 1) := by decide +kernel
theorem dL_law_158 : decode cL_law 158 = .ok (.aload_n 0, 1) := by decide +kernel
theorem dL_law_159 : decode cL_law 159 = .ok (.iload_n 3, 1) := by decide +kernel
theorem dL_law_160 : decode cL_law 160 = .ok (.iconst 2, 1) := by decide +kernel
theorem dL_law_161 : decode cL_law 161 = .ok (.iadd, 1) := by decide +kernel
theorem dL_law_162 : decode cL_law 162 = .ok (.iaload, 1) := by decide +kernel
theorem dL_law_163 : decode cL_law 163 = .ok (.aload_n 0, 1) := by decide +kernel
theorem dL_law_164 : decode cL_law 164 = .ok (.iload_n 3, 1) := by decide +kernel
theorem dL_law_165 : decode cL_law 165 = .ok (.iconst 3, 1) := by decide +kernel
theorem dL_law_166 : decode cL_law 166 = .ok (.iadd, 1) := by decide +kernel
theorem dL_law_167 : decode cL_law 167 = .ok (.iaload, 1) := by decide +kernel
theorem dL_law_168 : decode cL_law 168 = .ok (.i2l, 1) := by decide +kernel
theorem dL_law_169 : decode cL_law 169 = .ok (.bipush 32, 2) := by decide +kernel
theorem dL_law_171 : decode cL_law 171 = .ok (.lshl, 1) := by decide +kernel
theorem dL_law_172 : decode cL_law 172 = .ok (.aload_n 0, 1) := by decide +kernel
theorem dL_law_173 : decode cL_law 173 = .ok (.iload_n 3, 1) := by decide +kernel
theorem dL_law_174 : decode cL_law 174 = .ok (.iconst 4, 1) := by decide +kernel
theorem dL_law_175 : decode cL_law 175 = .ok (.iadd, 1) := by decide +kernel
theorem dL_law_176 : decode cL_law 176 = .ok (.iaload, 1) := by decide +kernel
theorem dL_law_177 : decode cL_law 177 = .ok (.i2l, 1) := by decide +kernel
theorem dL_law_178 : decode cL_law 178 = .ok (.ldc2_w 13, 3) := by decide +kernel
theorem dL_law_181 : decode cL_law 181 = .ok (.land, 1) := by decide +kernel
theorem dL_law_182 : decode cL_law 182 = .ok (.lor, 1) := by decide +kernel
theorem dL_law_183 : decode cL_law 183 = .ok (.invokevirtual 15, 3) := by decide +kernel
theorem dL_law_186 : decode cL_law 186 = .ok (.aload_n 2, 1) := by decide +kernel
theorem dL_law_187 : decode cL_law 187 = .ok (.aload_n 0, 1) := by decide +kernel
theorem dL_law_188 : decode cL_law 188 = .ok (.iload_n 3, 1) := by decide +kernel
theorem dL_law_189 : decode cL_law 189 = .ok (.iconst 1, 1) := by decide +kernel
theorem dL_law_190 : decode cL_law 190 = .ok (.iadd, 1) := by decide +kernel
theorem dL_law_191 : decode cL_law 191 = .ok (.iaload, 1) := by decide +kernel
theorem dL_law_192 : decode cL_law 192 = .ok (.aload_n 0, 1) := by decide +kernel
theorem dL_law_193 : decode cL_law 193 = .ok (.iload_n 3, 1) := by decide +kernel
theorem dL_law_194 : decode cL_law 194 = .ok (.iconst 2, 1) := by decide +kernel
theorem dL_law_195 : decode cL_law 195 = .ok (.iadd, 1) := by decide +kernel
theorem dL_law_196 : decode cL_law 196 = .ok (.iaload, 1) := by decide +kernel
theorem dL_law_197 : decode cL_law 197 = .ok (.aload_n 0, 1) := by decide +kernel
theorem dL_law_198 : decode cL_law 198 = .ok (.iload_n 3, 1) := by decide +kernel
theorem dL_law_199 : decode cL_law 199 = .ok (.iconst 3, 1) := by decide +kernel
theorem dL_law_200 : decode cL_law 200 = .ok (.iadd, 1) := by decide +kernel
theorem dL_law_201 : decode cL_law 201 = .ok (.iaload, 1) := by decide +kernel
theorem dL_law_202 : decode cL_law 202 = .ok (.i2l, 1) := by decide +kernel
theorem dL_law_203 : decode cL_law 203 = .ok (.bipush 32, 2) := by decide +kernel
theorem dL_law_205 : decode cL_law 205 = .ok (.lshl, 1) := by decide +kernel
theorem dL_law_206 : decode cL_law 206 = .ok (.aload_n 0, 1) := by decide +kernel
theorem dL_law_207 : decode cL_law 207 = .ok (.iload_n 3, 1) := by decide +kernel
theorem dL_law_208 : decode cL_law 208 = .ok (.iconst 4, 1) := by decide +kernel
theorem dL_law_209 : decode cL_law 209 = .ok (.iadd, 1) := by decide +kernel
theorem dL_law_210 : decode cL_law 210 = .ok (.iaload, 1) := by decide +kernel
theorem dL_law_211 : decode cL_law 211 = .ok (.i2l, 1) := by decide +kernel
theorem dL_law_212 : decode cL_law 212 = .ok (.ldc2_w 13, 3) := by decide +kernel
theorem dL_law_215 : decode cL_law 215 = .ok (.land, 1) := by decide +kernel
theorem dL_law_216 : decode cL_law 216 = .ok (.lor, 1) := by decide +kernel
theorem dL_law_217 : decode cL_law 217 = .ok (.invokevirtual 19, 3) := by decide +kernel
theorem dL_law_220 : decode cL_law 220 = .ok (.if_icmp .eq 891, 3) := by decide +kernel
theorem dL_law_223 : decode cL_law 223 = .ok (.iconst 0, 1) := by decide +kernel
theorem dL_law_224 : decode cL_law 224 = .ok (.ireturn, 1) := by decide +kernel
theorem dL_law_225 : decode cL_law 225 = .ok (.aload_n 1, 1) := by decide +kernel
theorem dL_law_226 : decode cL_law 226 = .ok (.aload_n 0, 1) := by decide +kernel
theorem dL_law_227 : decode cL_law 227 = .ok (.iload_n 3, 1) := by decide +kernel
theorem dL_law_228 : decode cL_law 228 = .ok (.iconst 1, 1) := by decide +kernel
theorem dL_law_229 : decode cL_law 229 = .ok (.iadd, 1) := by decide +kernel
theorem dL_law_230 : decode cL_law 230 = .ok (.iaload, 1) := by decide +kernel
theorem dL_law_231 : decode cL_law 231 = .ok (.aload_n 0, 1) := by decide +kernel
theorem dL_law_232 : decode cL_law 232 = .ok (.iload_n 3, 1) := by decide +kernel
theorem dL_law_233 : decode cL_law 233 = .ok (.iconst 2, 1) := by decide +kernel
theorem dL_law_234 : decode cL_law 234 = .ok (.iadd, 1) := by decide +kernel
theorem dL_law_235 : decode cL_law 235 = .ok (.iaload, 1) := by decide +kernel
theorem dL_law_236 : decode cL_law 236 = .ok (.invokevirtual 20, 3) := by decide +kernel
theorem dL_law_239 : decode cL_law 239 = .ok (.aload_n 2, 1) := by decide +kernel
theorem dL_law_240 : decode cL_law 240 = .ok (.aload_n 0, 1) := by decide +kernel
theorem dL_law_241 : decode cL_law 241 = .ok (.iload_n 3, 1) := by decide +kernel
theorem dL_law_242 : decode cL_law 242 = .ok (.iconst 1, 1) := by decide +kernel
theorem dL_law_243 : decode cL_law 243 = .ok (.iadd, 1) := by decide +kernel
theorem dL_law_244 : decode cL_law 244 = .ok (.iaload, 1) := by decide +kernel
theorem dL_law_245 : decode cL_law 245 = .ok (.aload_n 0, 1) := by decide +kernel
theorem dL_law_246 : decode cL_law 246 = .ok (.iload_n 3, 1) := by decide +kernel
theorem dL_law_247 : decode cL_law 247 = .ok (.iconst 2, 1) := by decide +kernel
theorem dL_law_248 : decode cL_law 248 = .ok (.iadd, 1) := by decide +kernel
theorem dL_law_249 : decode cL_law 249 = .ok (.iaload, 1) := by decide +kernel
theorem dL_law_250 : decode cL_law 250 = .ok (.invokevirtual 24, 3) := by decide +kernel
theorem dL_law_253 : decode cL_law 253 = .ok (.lcmp, 1) := by decide +kernel
theorem dL_law_254 : decode cL_law 254 = .ok (.ifCond .eq 857, 3) := by decide +kernel
theorem dL_law_257 : decode cL_law 257 = .ok (.iconst 0, 1) := by decide +kernel
theorem dL_law_258 : decode cL_law 258 = .ok (.ireturn, 1) := by decide +kernel
theorem dL_law_259 : decode cL_law 259 = .ok (.aload_n 1, 1) := by decide +kernel
theorem dL_law_260 : decode cL_law 260 = .ok (.aload_n 0, 1) := by decide +kernel
theorem dL_law_261 : decode cL_law 261 = .ok (.iload_n 3, 1) := by decide +kernel
theorem dL_law_262 : decode cL_law 262 = .ok (.iconst 1, 1) := by decide +kernel
theorem dL_law_263 : decode cL_law 263 = .ok (.iadd, 1) := by decide +kernel
theorem dL_law_264 : decode cL_law 264 = .ok (.iaload, 1) := by decide +kernel
theorem dL_law_265 : decode cL_law 265 = .ok (.aload_n 0, 1) := by decide +kernel
theorem dL_law_266 : decode cL_law 266 = .ok (.iload_n 3, 1) := by decide +kernel
theorem dL_law_267 : decode cL_law 267 = .ok (.iconst 2, 1) := by decide +kernel
theorem dL_law_268 : decode cL_law 268 = .ok (.iadd, 1) := by decide +kernel
theorem dL_law_269 : decode cL_law 269 = .ok (.iaload, 1) := by decide +kernel
theorem dL_law_270 : decode cL_law 270 = .ok (.invokevirtual 25, 3) := by decide +kernel
theorem dL_law_273 : decode cL_law 273 = .ok (.aload_n 2, 1) := by decide +kernel
theorem dL_law_274 : decode cL_law 274 = .ok (.aload_n 0, 1) := by decide +kernel
theorem dL_law_275 : decode cL_law 275 = .ok (.iload_n 3, 1) := by decide +kernel
theorem dL_law_276 : decode cL_law 276 = .ok (.iconst 1, 1) := by decide +kernel
theorem dL_law_277 : decode cL_law 277 = .ok (.iadd, 1) := by decide +kernel
theorem dL_law_278 : decode cL_law 278 = .ok (.iaload, 1) := by decide +kernel
theorem dL_law_279 : decode cL_law 279 = .ok (.aload_n 0, 1) := by decide +kernel
theorem dL_law_280 : decode cL_law 280 = .ok (.iload_n 3, 1) := by decide +kernel
theorem dL_law_281 : decode cL_law 281 = .ok (.iconst 2, 1) := by decide +kernel
theorem dL_law_282 : decode cL_law 282 = .ok (.iadd, 1) := by decide +kernel
theorem dL_law_283 : decode cL_law 283 = .ok (.iaload, 1) := by decide +kernel
theorem dL_law_284 : decode cL_law 284 = .ok (.invokevirtual 29, 3) := by decide +kernel
theorem dL_law_287 : decode cL_law 287 = .ok (.if_icmp .eq 824, 3) := by decide +kernel
theorem dL_law_290 : decode cL_law 290 = .ok (.iconst 0, 1) := by decide +kernel
theorem dL_law_291 : decode cL_law 291 = .ok (.ireturn, 1) := by decide +kernel
theorem dL_law_292 : decode cL_law 292 = .ok (.aload_n 1, 1) := by decide +kernel
theorem dL_law_293 : decode cL_law 293 = .ok (.aload_n 0, 1) := by decide +kernel
theorem dL_law_294 : decode cL_law 294 = .ok (.iload_n 3, 1) := by decide +kernel
theorem dL_law_295 : decode cL_law 295 = .ok (.iconst 1, 1) := by decide +kernel
theorem dL_law_296 : decode cL_law 296 = .ok (.iadd, 1) := by decide +kernel
theorem dL_law_297 : decode cL_law 297 = .ok (.iaload, 1) := by decide +kernel
theorem dL_law_298 : decode cL_law 298 = .ok (.i2l, 1) := by decide +kernel
theorem dL_law_299 : decode cL_law 299 = .ok (.bipush 32, 2) := by decide +kernel
theorem dL_law_301 : decode cL_law 301 = .ok (.lshl, 1) := by decide +kernel
theorem dL_law_302 : decode cL_law 302 = .ok (.aload_n 0, 1) := by decide +kernel
theorem dL_law_303 : decode cL_law 303 = .ok (.iload_n 3, 1) := by decide +kernel
theorem dL_law_304 : decode cL_law 304 = .ok (.iconst 2, 1) := by decide +kernel
theorem dL_law_305 : decode cL_law 305 = .ok (.iadd, 1) := by decide +kernel
theorem dL_law_306 : decode cL_law 306 = .ok (.iaload, 1) := by decide +kernel
theorem dL_law_307 : decode cL_law 307 = .ok (.i2l, 1) := by decide +kernel
theorem dL_law_308 : decode cL_law 308 = .ok (.ldc2_w 13, 3) := by decide +kernel
theorem dL_law_311 : decode cL_law 311 = .ok (.land, 1) := by decide +kernel
theorem dL_law_312 : decode cL_law 312 = .ok (.lor, 1) := by decide +kernel
theorem dL_law_313 : decode cL_law 313 = .ok (.aload_n 0, 1) := by decide +kernel
theorem dL_law_314 : decode cL_law 314 = .ok (.iload_n 3, 1) := by decide +kernel
theorem dL_law_315 : decode cL_law 315 = .ok (.iconst 3, 1) := by decide +kernel
theorem dL_law_316 : decode cL_law 316 = .ok (.iadd, 1) := by decide +kernel
theorem dL_law_317 : decode cL_law 317 = .ok (.iaload, 1) := by decide +kernel
theorem dL_law_318 : decode cL_law 318 = .ok (.invokevirtual 30, 3) := by decide +kernel
theorem dL_law_321 : decode cL_law 321 = .ok (.aload_n 2, 1) := by decide +kernel
theorem dL_law_322 : decode cL_law 322 = .ok (.aload_n 0, 1) := by decide +kernel
theorem dL_law_323 : decode cL_law 323 = .ok (.iload_n 3, 1) := by decide +kernel
theorem dL_law_324 : decode cL_law 324 = .ok (.iconst 1, 1) := by decide +kernel
theorem dL_law_325 : decode cL_law 325 = .ok (.iadd, 1) := by decide +kernel
theorem dL_law_326 : decode cL_law 326 = .ok (.iaload, 1) := by decide +kernel
theorem dL_law_327 : decode cL_law 327 = .ok (.i2l, 1) := by decide +kernel
theorem dL_law_328 : decode cL_law 328 = .ok (.bipush 32, 2) := by decide +kernel
theorem dL_law_330 : decode cL_law 330 = .ok (.lshl, 1) := by decide +kernel
theorem dL_law_331 : decode cL_law 331 = .ok (.aload_n 0, 1) := by decide +kernel
theorem dL_law_332 : decode cL_law 332 = .ok (.iload_n 3, 1) := by decide +kernel
theorem dL_law_333 : decode cL_law 333 = .ok (.iconst 2, 1) := by decide +kernel
theorem dL_law_334 : decode cL_law 334 = .ok (.iadd, 1) := by decide +kernel
theorem dL_law_335 : decode cL_law 335 = .ok (.iaload, 1) := by decide +kernel
theorem dL_law_336 : decode cL_law 336 = .ok (.i2l, 1) := by decide +kernel
theorem dL_law_337 : decode cL_law 337 = .ok (.ldc2_w 13, 3) := by decide +kernel
theorem dL_law_340 : decode cL_law 340 = .ok (.land, 1) := by decide +kernel
theorem dL_law_341 : decode cL_law 341 = .ok (.lor, 1) := by decide +kernel
theorem dL_law_342 : decode cL_law 342 = .ok (.aload_n 0, 1) := by decide +kernel
theorem dL_law_343 : decode cL_law 343 = .ok (.iload_n 3, 1) := by decide +kernel
theorem dL_law_344 : decode cL_law 344 = .ok (.iconst 3, 1) := by decide +kernel
theorem dL_law_345 : decode cL_law 345 = .ok (.iadd, 1) := by decide +kernel
theorem dL_law_346 : decode cL_law 346 = .ok (.iaload, 1) := by decide +kernel
theorem dL_law_347 : decode cL_law 347 = .ok (.invokevirtual 34, 3) := by decide +kernel
theorem dL_law_350 : decode cL_law 350 = .ok (.if_icmp .eq 761, 3) := by decide +kernel
theorem dL_law_353 : decode cL_law 353 = .ok (.iconst 0, 1) := by decide +kernel
theorem dL_law_354 : decode cL_law 354 = .ok (.ireturn, 1) := by decide +kernel
theorem dL_law_355 : decode cL_law 355 = .ok (.aload_n 1, 1) := by decide +kernel
theorem dL_law_356 : decode cL_law 356 = .ok (.invokevirtual 35, 3) := by decide +kernel
theorem dL_law_359 : decode cL_law 359 = .ok (.aload_n 2, 1) := by decide +kernel
theorem dL_law_360 : decode cL_law 360 = .ok (.invokevirtual 39, 3) := by decide +kernel
theorem dL_law_363 : decode cL_law 363 = .ok (.if_icmp .eq 748, 3) := by decide +kernel
theorem dL_law_366 : decode cL_law 366 = .ok (.iconst 0, 1) := by decide +kernel
theorem dL_law_367 : decode cL_law 367 = .ok (.ireturn, 1) := by decide +kernel
theorem dL_law_368 : decode cL_law 368 = .ok (.aload_n 1, 1) := by decide +kernel
theorem dL_law_369 : decode cL_law 369 = .ok (.aload_n 0, 1) := by decide +kernel
theorem dL_law_370 : decode cL_law 370 = .ok (.iload_n 3, 1) := by decide +kernel
theorem dL_law_371 : decode cL_law 371 = .ok (.iconst 1, 1) := by decide +kernel
theorem dL_law_372 : decode cL_law 372 = .ok (.iadd, 1) := by decide +kernel
theorem dL_law_373 : decode cL_law 373 = .ok (.iaload, 1) := by decide +kernel
theorem dL_law_374 : decode cL_law 374 = .ok (.invokevirtual 40, 3) := by decide +kernel
theorem dL_law_377 : decode cL_law 377 = .ok (.aload_n 2, 1) := by decide +kernel
theorem dL_law_378 : decode cL_law 378 = .ok (.aload_n 0, 1) := by decide +kernel
theorem dL_law_379 : decode cL_law 379 = .ok (.iload_n 3, 1) := by decide +kernel
theorem dL_law_380 : decode cL_law 380 = .ok (.iconst 1, 1) := by decide +kernel
theorem dL_law_381 : decode cL_law 381 = .ok (.iadd, 1) := by decide +kernel
theorem dL_law_382 : decode cL_law 382 = .ok (.iaload, 1) := by decide +kernel
theorem dL_law_383 : decode cL_law 383 = .ok (.invokevirtual 44, 3) := by decide +kernel
theorem dL_law_386 : decode cL_law 386 = .ok (.if_icmp .eq 725, 3) := by decide +kernel
theorem dL_law_389 : decode cL_law 389 = .ok (.iconst 0, 1) := by decide +kernel
theorem dL_law_390 : decode cL_law 390 = .ok (.ireturn, 1) := by decide +kernel
theorem dL_law_391 : decode cL_law 391 = .ok (.aload_n 1, 1) := by decide +kernel
theorem dL_law_392 : decode cL_law 392 = .ok (.aload_n 0, 1) := by decide +kernel
theorem dL_law_393 : decode cL_law 393 = .ok (.iload_n 3, 1) := by decide +kernel
theorem dL_law_394 : decode cL_law 394 = .ok (.iconst 1, 1) := by decide +kernel
theorem dL_law_395 : decode cL_law 395 = .ok (.iadd, 1) := by decide +kernel
theorem dL_law_396 : decode cL_law 396 = .ok (.iaload, 1) := by decide +kernel
theorem dL_law_397 : decode cL_law 397 = .ok (.aload_n 0, 1) := by decide +kernel
theorem dL_law_398 : decode cL_law 398 = .ok (.iload_n 3, 1) := by decide +kernel
theorem dL_law_399 : decode cL_law 399 = .ok (.iconst 2, 1) := by decide +kernel
theorem dL_law_400 : decode cL_law 400 = .ok (.iadd, 1) := by decide +kernel
theorem dL_law_401 : decode cL_law 401 = .ok (.iaload, 1) := by decide +kernel
theorem dL_law_402 : decode cL_law 402 = .ok (.aload_n 0, 1) := by decide +kernel
theorem dL_law_403 : decode cL_law 403 = .ok (.iload_n 3, 1) := by decide +kernel
theorem dL_law_404 : decode cL_law 404 = .ok (.iconst 3, 1) := by decide +kernel
theorem dL_law_405 : decode cL_law 405 = .ok (.iadd, 1) := by decide +kernel
theorem dL_law_406 : decode cL_law 406 = .ok (.iaload, 1) := by decide +kernel
theorem dL_law_407 : decode cL_law 407 = .ok (.invokevirtual 45, 3) := by decide +kernel
theorem dL_law_410 : decode cL_law 410 = .ok (.aload_n 2, 1) := by decide +kernel
theorem dL_law_411 : decode cL_law 411 = .ok (.aload_n 0, 1) := by decide +kernel
theorem dL_law_412 : decode cL_law 412 = .ok (.iload_n 3, 1) := by decide +kernel
theorem dL_law_413 : decode cL_law 413 = .ok (.iconst 1, 1) := by decide +kernel
theorem dL_law_414 : decode cL_law 414 = .ok (.iadd, 1) := by decide +kernel
theorem dL_law_415 : decode cL_law 415 = .ok (.iaload, 1) := by decide +kernel
theorem dL_law_416 : decode cL_law 416 = .ok (.aload_n 0, 1) := by decide +kernel
theorem dL_law_417 : decode cL_law 417 = .ok (.iload_n 3, 1) := by decide +kernel
theorem dL_law_418 : decode cL_law 418 = .ok (.iconst 2, 1) := by decide +kernel
theorem dL_law_419 : decode cL_law 419 = .ok (.iadd, 1) := by decide +kernel
theorem dL_law_420 : decode cL_law 420 = .ok (.iaload, 1) := by decide +kernel
theorem dL_law_421 : decode cL_law 421 = .ok (.aload_n 0, 1) := by decide +kernel
theorem dL_law_422 : decode cL_law 422 = .ok (.iload_n 3, 1) := by decide +kernel
theorem dL_law_423 : decode cL_law 423 = .ok (.iconst 3, 1) := by decide +kernel
theorem dL_law_424 : decode cL_law 424 = .ok (.iadd, 1) := by decide +kernel
theorem dL_law_425 : decode cL_law 425 = .ok (.iaload, 1) := by decide +kernel
theorem dL_law_426 : decode cL_law 426 = .ok (.invokevirtual 49, 3) := by decide +kernel
theorem dL_law_429 : decode cL_law 429 = .ok (.if_icmp .eq 682, 3) := by decide +kernel
theorem dL_law_432 : decode cL_law 432 = .ok (.iconst 0, 1) := by decide +kernel
theorem dL_law_433 : decode cL_law 433 = .ok (.ireturn, 1) := by decide +kernel
theorem dL_law_434 : decode cL_law 434 = .ok (.aload_n 1, 1) := by decide +kernel
theorem dL_law_435 : decode cL_law 435 = .ok (.aload_n 0, 1) := by decide +kernel
theorem dL_law_436 : decode cL_law 436 = .ok (.iload_n 3, 1) := by decide +kernel
theorem dL_law_437 : decode cL_law 437 = .ok (.iconst 1, 1) := by decide +kernel
theorem dL_law_438 : decode cL_law 438 = .ok (.iadd, 1) := by decide +kernel
theorem dL_law_439 : decode cL_law 439 = .ok (.iaload, 1) := by decide +kernel
theorem dL_law_440 : decode cL_law 440 = .ok (.aload_n 0, 1) := by decide +kernel
theorem dL_law_441 : decode cL_law 441 = .ok (.iload_n 3, 1) := by decide +kernel
theorem dL_law_442 : decode cL_law 442 = .ok (.iconst 2, 1) := by decide +kernel
theorem dL_law_443 : decode cL_law 443 = .ok (.iadd, 1) := by decide +kernel
theorem dL_law_444 : decode cL_law 444 = .ok (.iaload, 1) := by decide +kernel
theorem dL_law_445 : decode cL_law 445 = .ok (.aload_n 0, 1) := by decide +kernel
theorem dL_law_446 : decode cL_law 446 = .ok (.iload_n 3, 1) := by decide +kernel
theorem dL_law_447 : decode cL_law 447 = .ok (.iconst 3, 1) := by decide +kernel
theorem dL_law_448 : decode cL_law 448 = .ok (.iadd, 1) := by decide +kernel
theorem dL_law_449 : decode cL_law 449 = .ok (.iaload, 1) := by decide +kernel
theorem dL_law_450 : decode cL_law 450 = .ok (.aload_n 0, 1) := by decide +kernel
theorem dL_law_451 : decode cL_law 451 = .ok (.iload_n 3, 1) := by decide +kernel
theorem dL_law_452 : decode cL_law 452 = .ok (.iconst 4, 1) := by decide +kernel
theorem dL_law_453 : decode cL_law 453 = .ok (.iadd, 1) := by decide +kernel
theorem dL_law_454 : decode cL_law 454 = .ok (.iaload, 1) := by decide +kernel
theorem dL_law_455 : decode cL_law 455 = .ok (.invokevirtual 50, 3) := by decide +kernel
theorem dL_law_458 : decode cL_law 458 = .ok (.aload_n 2, 1) := by decide +kernel
theorem dL_law_459 : decode cL_law 459 = .ok (.aload_n 0, 1) := by decide +kernel
theorem dL_law_460 : decode cL_law 460 = .ok (.iload_n 3, 1) := by decide +kernel
theorem dL_law_461 : decode cL_law 461 = .ok (.iconst 1, 1) := by decide +kernel
theorem dL_law_462 : decode cL_law 462 = .ok (.iadd, 1) := by decide +kernel
theorem dL_law_463 : decode cL_law 463 = .ok (.iaload, 1) := by decide +kernel
theorem dL_law_464 : decode cL_law 464 = .ok (.aload_n 0, 1) := by decide +kernel
theorem dL_law_465 : decode cL_law 465 = .ok (.iload_n 3, 1) := by decide +kernel
theorem dL_law_466 : decode cL_law 466 = .ok (.iconst 2, 1) := by decide +kernel
theorem dL_law_467 : decode cL_law 467 = .ok (.iadd, 1) := by decide +kernel
theorem dL_law_468 : decode cL_law 468 = .ok (.iaload, 1) := by decide +kernel
theorem dL_law_469 : decode cL_law 469 = .ok (.aload_n 0, 1) := by decide +kernel
theorem dL_law_470 : decode cL_law 470 = .ok (.iload_n 3, 1) := by decide +kernel
theorem dL_law_471 : decode cL_law 471 = .ok (.iconst 3, 1) := by decide +kernel
theorem dL_law_472 : decode cL_law 472 = .ok (.iadd, 1) := by decide +kernel
theorem dL_law_473 : decode cL_law 473 = .ok (.iaload, 1) := by decide +kernel
theorem dL_law_474 : decode cL_law 474 = .ok (.aload_n 0, 1) := by decide +kernel
theorem dL_law_475 : decode cL_law 475 = .ok (.iload_n 3, 1) := by decide +kernel
theorem dL_law_476 : decode cL_law 476 = .ok (.iconst 4, 1) := by decide +kernel
theorem dL_law_477 : decode cL_law 477 = .ok (.iadd, 1) := by decide +kernel
theorem dL_law_478 : decode cL_law 478 = .ok (.iaload, 1) := by decide +kernel
theorem dL_law_479 : decode cL_law 479 = .ok (.invokevirtual 54, 3) := by decide +kernel
theorem dL_law_482 : decode cL_law 482 = .ok (.if_icmp .eq 629, 3) := by decide +kernel
theorem dL_law_485 : decode cL_law 485 = .ok (.iconst 0, 1) := by decide +kernel
theorem dL_law_486 : decode cL_law 486 = .ok (.ireturn, 1) := by decide +kernel
theorem dL_law_487 : decode cL_law 487 = .ok (.aload_n 1, 1) := by decide +kernel
theorem dL_law_488 : decode cL_law 488 = .ok (.aload_n 0, 1) := by decide +kernel
theorem dL_law_489 : decode cL_law 489 = .ok (.iload_n 3, 1) := by decide +kernel
theorem dL_law_490 : decode cL_law 490 = .ok (.iconst 1, 1) := by decide +kernel
theorem dL_law_491 : decode cL_law 491 = .ok (.iadd, 1) := by decide +kernel
theorem dL_law_492 : decode cL_law 492 = .ok (.iaload, 1) := by decide +kernel
theorem dL_law_493 : decode cL_law 493 = .ok (.aload_n 0, 1) := by decide +kernel
theorem dL_law_494 : decode cL_law 494 = .ok (.iload_n 3, 1) := by decide +kernel
theorem dL_law_495 : decode cL_law 495 = .ok (.iconst 2, 1) := by decide +kernel
theorem dL_law_496 : decode cL_law 496 = .ok (.iadd, 1) := by decide +kernel
theorem dL_law_497 : decode cL_law 497 = .ok (.iaload, 1) := by decide +kernel
theorem dL_law_498 : decode cL_law 498 = .ok (.aload_n 0, 1) := by decide +kernel
theorem dL_law_499 : decode cL_law 499 = .ok (.iload_n 3, 1) := by decide +kernel
theorem dL_law_500 : decode cL_law 500 = .ok (.iconst 3, 1) := by decide +kernel
theorem dL_law_501 : decode cL_law 501 = .ok (.iadd, 1) := by decide +kernel
theorem dL_law_502 : decode cL_law 502 = .ok (.iaload, 1) := by decide +kernel
theorem dL_law_503 : decode cL_law 503 = .ok (.invokevirtual 55, 3) := by decide +kernel
theorem dL_law_506 : decode cL_law 506 = .ok (.aload_n 2, 1) := by decide +kernel
theorem dL_law_507 : decode cL_law 507 = .ok (.aload_n 0, 1) := by decide +kernel
theorem dL_law_508 : decode cL_law 508 = .ok (.iload_n 3, 1) := by decide +kernel
theorem dL_law_509 : decode cL_law 509 = .ok (.iconst 1, 1) := by decide +kernel
theorem dL_law_510 : decode cL_law 510 = .ok (.iadd, 1) := by decide +kernel
theorem dL_law_511 : decode cL_law 511 = .ok (.iaload, 1) := by decide +kernel
theorem dL_law_512 : decode cL_law 512 = .ok (.aload_n 0, 1) := by decide +kernel
theorem dL_law_513 : decode cL_law 513 = .ok (.iload_n 3, 1) := by decide +kernel
theorem dL_law_514 : decode cL_law 514 = .ok (.iconst 2, 1) := by decide +kernel
theorem dL_law_515 : decode cL_law 515 = .ok (.iadd, 1) := by decide +kernel
theorem dL_law_516 : decode cL_law 516 = .ok (.iaload, 1) := by decide +kernel
theorem dL_law_517 : decode cL_law 517 = .ok (.aload_n 0, 1) := by decide +kernel
theorem dL_law_518 : decode cL_law 518 = .ok (.iload_n 3, 1) := by decide +kernel
theorem dL_law_519 : decode cL_law 519 = .ok (.iconst 3, 1) := by decide +kernel
theorem dL_law_520 : decode cL_law 520 = .ok (.iadd, 1) := by decide +kernel
theorem dL_law_521 : decode cL_law 521 = .ok (.iaload, 1) := by decide +kernel
theorem dL_law_522 : decode cL_law 522 = .ok (.invokevirtual 58, 3) := by decide +kernel
theorem dL_law_525 : decode cL_law 525 = .ok (.if_icmp .eq 586, 3) := by decide +kernel
theorem dL_law_528 : decode cL_law 528 = .ok (.iconst 0, 1) := by decide +kernel
theorem dL_law_529 : decode cL_law 529 = .ok (.ireturn, 1) := by decide +kernel
theorem dL_law_530 : decode cL_law 530 = .ok (.aload_n 1, 1) := by decide +kernel
theorem dL_law_531 : decode cL_law 531 = .ok (.aload_n 0, 1) := by decide +kernel
theorem dL_law_532 : decode cL_law 532 = .ok (.iload_n 3, 1) := by decide +kernel
theorem dL_law_533 : decode cL_law 533 = .ok (.iconst 1, 1) := by decide +kernel
theorem dL_law_534 : decode cL_law 534 = .ok (.iadd, 1) := by decide +kernel
theorem dL_law_535 : decode cL_law 535 = .ok (.iaload, 1) := by decide +kernel
theorem dL_law_536 : decode cL_law 536 = .ok (.aload_n 0, 1) := by decide +kernel
theorem dL_law_537 : decode cL_law 537 = .ok (.iload_n 3, 1) := by decide +kernel
theorem dL_law_538 : decode cL_law 538 = .ok (.iconst 2, 1) := by decide +kernel
theorem dL_law_539 : decode cL_law 539 = .ok (.iadd, 1) := by decide +kernel
theorem dL_law_540 : decode cL_law 540 = .ok (.iaload, 1) := by decide +kernel
theorem dL_law_541 : decode cL_law 541 = .ok (.invokevirtual 59, 3) := by decide +kernel
theorem dL_law_544 : decode cL_law 544 = .ok (.aload_n 2, 1) := by decide +kernel
theorem dL_law_545 : decode cL_law 545 = .ok (.aload_n 0, 1) := by decide +kernel
theorem dL_law_546 : decode cL_law 546 = .ok (.iload_n 3, 1) := by decide +kernel
theorem dL_law_547 : decode cL_law 547 = .ok (.iconst 1, 1) := by decide +kernel
theorem dL_law_548 : decode cL_law 548 = .ok (.iadd, 1) := by decide +kernel
theorem dL_law_549 : decode cL_law 549 = .ok (.iaload, 1) := by decide +kernel
theorem dL_law_550 : decode cL_law 550 = .ok (.aload_n 0, 1) := by decide +kernel
theorem dL_law_551 : decode cL_law 551 = .ok (.iload_n 3, 1) := by decide +kernel
theorem dL_law_552 : decode cL_law 552 = .ok (.iconst 2, 1) := by decide +kernel
theorem dL_law_553 : decode cL_law 553 = .ok (.iadd, 1) := by decide +kernel
theorem dL_law_554 : decode cL_law 554 = .ok (.iaload, 1) := by decide +kernel
theorem dL_law_555 : decode cL_law 555 = .ok (.invokevirtual 62, 3) := by decide +kernel
theorem dL_law_558 : decode cL_law 558 = .ok (.if_icmp .eq 553, 3) := by decide +kernel
theorem dL_law_561 : decode cL_law 561 = .ok (.iconst 0, 1) := by decide +kernel
theorem dL_law_562 : decode cL_law 562 = .ok (.ireturn, 1) := by decide +kernel
theorem dL_law_563 : decode cL_law 563 = .ok (.aload_n 1, 1) := by decide +kernel
theorem dL_law_564 : decode cL_law 564 = .ok (.aload_n 0, 1) := by decide +kernel
theorem dL_law_565 : decode cL_law 565 = .ok (.iload_n 3, 1) := by decide +kernel
theorem dL_law_566 : decode cL_law 566 = .ok (.iconst 1, 1) := by decide +kernel
theorem dL_law_567 : decode cL_law 567 = .ok (.iadd, 1) := by decide +kernel
theorem dL_law_568 : decode cL_law 568 = .ok (.iaload, 1) := by decide +kernel
theorem dL_law_569 : decode cL_law 569 = .ok (.aload_n 0, 1) := by decide +kernel
theorem dL_law_570 : decode cL_law 570 = .ok (.iload_n 3, 1) := by decide +kernel
theorem dL_law_571 : decode cL_law 571 = .ok (.iconst 2, 1) := by decide +kernel
theorem dL_law_572 : decode cL_law 572 = .ok (.iadd, 1) := by decide +kernel
theorem dL_law_573 : decode cL_law 573 = .ok (.iaload, 1) := by decide +kernel
theorem dL_law_574 : decode cL_law 574 = .ok (.invokevirtual 63, 3) := by decide +kernel
theorem dL_law_577 : decode cL_law 577 = .ok (.aload_n 2, 1) := by decide +kernel
theorem dL_law_578 : decode cL_law 578 = .ok (.aload_n 0, 1) := by decide +kernel
theorem dL_law_579 : decode cL_law 579 = .ok (.iload_n 3, 1) := by decide +kernel
theorem dL_law_580 : decode cL_law 580 = .ok (.iconst 1, 1) := by decide +kernel
theorem dL_law_581 : decode cL_law 581 = .ok (.iadd, 1) := by decide +kernel
theorem dL_law_582 : decode cL_law 582 = .ok (.iaload, 1) := by decide +kernel
theorem dL_law_583 : decode cL_law 583 = .ok (.aload_n 0, 1) := by decide +kernel
theorem dL_law_584 : decode cL_law 584 = .ok (.iload_n 3, 1) := by decide +kernel
theorem dL_law_585 : decode cL_law 585 = .ok (.iconst 2, 1) := by decide +kernel
theorem dL_law_586 : decode cL_law 586 = .ok (.iadd, 1) := by decide +kernel
theorem dL_law_587 : decode cL_law 587 = .ok (.iaload, 1) := by decide +kernel
theorem dL_law_588 : decode cL_law 588 = .ok (.invokevirtual 66, 3) := by decide +kernel
theorem dL_law_591 : decode cL_law 591 = .ok (.if_icmp .eq 520, 3) := by decide +kernel
theorem dL_law_594 : decode cL_law 594 = .ok (.iconst 0, 1) := by decide +kernel
theorem dL_law_595 : decode cL_law 595 = .ok (.ireturn, 1) := by decide +kernel
theorem dL_law_596 : decode cL_law 596 = .ok (.aload_n 1, 1) := by decide +kernel
theorem dL_law_597 : decode cL_law 597 = .ok (.aload_n 0, 1) := by decide +kernel
theorem dL_law_598 : decode cL_law 598 = .ok (.iload_n 3, 1) := by decide +kernel
theorem dL_law_599 : decode cL_law 599 = .ok (.iconst 1, 1) := by decide +kernel
theorem dL_law_600 : decode cL_law 600 = .ok (.iadd, 1) := by decide +kernel
theorem dL_law_601 : decode cL_law 601 = .ok (.iaload, 1) := by decide +kernel
theorem dL_law_602 : decode cL_law 602 = .ok (.aload_n 0, 1) := by decide +kernel
theorem dL_law_603 : decode cL_law 603 = .ok (.iload_n 3, 1) := by decide +kernel
theorem dL_law_604 : decode cL_law 604 = .ok (.iconst 2, 1) := by decide +kernel
theorem dL_law_605 : decode cL_law 605 = .ok (.iadd, 1) := by decide +kernel
theorem dL_law_606 : decode cL_law 606 = .ok (.iaload, 1) := by decide +kernel
theorem dL_law_607 : decode cL_law 607 = .ok (.invokevirtual 67, 3) := by decide +kernel
theorem dL_law_610 : decode cL_law 610 = .ok (.aload_n 2, 1) := by decide +kernel
theorem dL_law_611 : decode cL_law 611 = .ok (.aload_n 0, 1) := by decide +kernel
theorem dL_law_612 : decode cL_law 612 = .ok (.iload_n 3, 1) := by decide +kernel
theorem dL_law_613 : decode cL_law 613 = .ok (.iconst 1, 1) := by decide +kernel
theorem dL_law_614 : decode cL_law 614 = .ok (.iadd, 1) := by decide +kernel
theorem dL_law_615 : decode cL_law 615 = .ok (.iaload, 1) := by decide +kernel
theorem dL_law_616 : decode cL_law 616 = .ok (.aload_n 0, 1) := by decide +kernel
theorem dL_law_617 : decode cL_law 617 = .ok (.iload_n 3, 1) := by decide +kernel
theorem dL_law_618 : decode cL_law 618 = .ok (.iconst 2, 1) := by decide +kernel
theorem dL_law_619 : decode cL_law 619 = .ok (.iadd, 1) := by decide +kernel
theorem dL_law_620 : decode cL_law 620 = .ok (.iaload, 1) := by decide +kernel
theorem dL_law_621 : decode cL_law 621 = .ok (.invokevirtual 70, 3) := by decide +kernel
theorem dL_law_624 : decode cL_law 624 = .ok (.if_icmp .eq 487, 3) := by decide +kernel
theorem dL_law_627 : decode cL_law 627 = .ok (.iconst 0, 1) := by decide +kernel
theorem dL_law_628 : decode cL_law 628 = .ok (.ireturn, 1) := by decide +kernel
theorem dL_law_629 : decode cL_law 629 = .ok (.aload_n 1, 1) := by decide +kernel
theorem dL_law_630 : decode cL_law 630 = .ok (.aload_n 0, 1) := by decide +kernel
theorem dL_law_631 : decode cL_law 631 = .ok (.iload_n 3, 1) := by decide +kernel
theorem dL_law_632 : decode cL_law 632 = .ok (.iconst 1, 1) := by decide +kernel
theorem dL_law_633 : decode cL_law 633 = .ok (.iadd, 1) := by decide +kernel
theorem dL_law_634 : decode cL_law 634 = .ok (.iaload, 1) := by decide +kernel
theorem dL_law_635 : decode cL_law 635 = .ok (.aload_n 0, 1) := by decide +kernel
theorem dL_law_636 : decode cL_law 636 = .ok (.iload_n 3, 1) := by decide +kernel
theorem dL_law_637 : decode cL_law 637 = .ok (.iconst 2, 1) := by decide +kernel
theorem dL_law_638 : decode cL_law 638 = .ok (.iadd, 1) := by decide +kernel
theorem dL_law_639 : decode cL_law 639 = .ok (.iaload, 1) := by decide +kernel
theorem dL_law_640 : decode cL_law 640 = .ok (.aload_n 0, 1) := by decide +kernel
theorem dL_law_641 : decode cL_law 641 = .ok (.iload_n 3, 1) := by decide +kernel
theorem dL_law_642 : decode cL_law 642 = .ok (.iconst 3, 1) := by decide +kernel
theorem dL_law_643 : decode cL_law 643 = .ok (.iadd, 1) := by decide +kernel
theorem dL_law_644 : decode cL_law 644 = .ok (.iaload, 1) := by decide +kernel
theorem dL_law_645 : decode cL_law 645 = .ok (.aload_n 0, 1) := by decide +kernel
theorem dL_law_646 : decode cL_law 646 = .ok (.iload_n 3, 1) := by decide +kernel
theorem dL_law_647 : decode cL_law 647 = .ok (.iconst 4, 1) := by decide +kernel
theorem dL_law_648 : decode cL_law 648 = .ok (.iadd, 1) := by decide +kernel
theorem dL_law_649 : decode cL_law 649 = .ok (.iaload, 1) := by decide +kernel
theorem dL_law_650 : decode cL_law 650 = .ok (.invokevirtual 71, 3) := by decide +kernel
theorem dL_law_653 : decode cL_law 653 = .ok (.aload_n 2, 1) := by decide +kernel
theorem dL_law_654 : decode cL_law 654 = .ok (.aload_n 0, 1) := by decide +kernel
theorem dL_law_655 : decode cL_law 655 = .ok (.iload_n 3, 1) := by decide +kernel
theorem dL_law_656 : decode cL_law 656 = .ok (.iconst 1, 1) := by decide +kernel
theorem dL_law_657 : decode cL_law 657 = .ok (.iadd, 1) := by decide +kernel
theorem dL_law_658 : decode cL_law 658 = .ok (.iaload, 1) := by decide +kernel
theorem dL_law_659 : decode cL_law 659 = .ok (.aload_n 0, 1) := by decide +kernel
theorem dL_law_660 : decode cL_law 660 = .ok (.iload_n 3, 1) := by decide +kernel
theorem dL_law_661 : decode cL_law 661 = .ok (.iconst 2, 1) := by decide +kernel
theorem dL_law_662 : decode cL_law 662 = .ok (.iadd, 1) := by decide +kernel
theorem dL_law_663 : decode cL_law 663 = .ok (.iaload, 1) := by decide +kernel
theorem dL_law_664 : decode cL_law 664 = .ok (.aload_n 0, 1) := by decide +kernel
theorem dL_law_665 : decode cL_law 665 = .ok (.iload_n 3, 1) := by decide +kernel
theorem dL_law_666 : decode cL_law 666 = .ok (.iconst 3, 1) := by decide +kernel
theorem dL_law_667 : decode cL_law 667 = .ok (.iadd, 1) := by decide +kernel
theorem dL_law_668 : decode cL_law 668 = .ok (.iaload, 1) := by decide +kernel
theorem dL_law_669 : decode cL_law 669 = .ok (.aload_n 0, 1) := by decide +kernel
theorem dL_law_670 : decode cL_law 670 = .ok (.iload_n 3, 1) := by decide +kernel
theorem dL_law_671 : decode cL_law 671 = .ok (.iconst 4, 1) := by decide +kernel
theorem dL_law_672 : decode cL_law 672 = .ok (.iadd, 1) := by decide +kernel
theorem dL_law_673 : decode cL_law 673 = .ok (.iaload, 1) := by decide +kernel
theorem dL_law_674 : decode cL_law 674 = .ok (.invokevirtual 74, 3) := by decide +kernel
theorem dL_law_677 : decode cL_law 677 = .ok (.if_icmp .eq 434, 3) := by decide +kernel
theorem dL_law_680 : decode cL_law 680 = .ok (.iconst 0, 1) := by decide +kernel
theorem dL_law_681 : decode cL_law 681 = .ok (.ireturn, 1) := by decide +kernel
theorem dL_law_682 : decode cL_law 682 = .ok (.aload_n 1, 1) := by decide +kernel
theorem dL_law_683 : decode cL_law 683 = .ok (.aload_n 0, 1) := by decide +kernel
theorem dL_law_684 : decode cL_law 684 = .ok (.iload_n 3, 1) := by decide +kernel
theorem dL_law_685 : decode cL_law 685 = .ok (.iconst 1, 1) := by decide +kernel
theorem dL_law_686 : decode cL_law 686 = .ok (.iadd, 1) := by decide +kernel
theorem dL_law_687 : decode cL_law 687 = .ok (.iaload, 1) := by decide +kernel
theorem dL_law_688 : decode cL_law 688 = .ok (.invokevirtual 75, 3) := by decide +kernel
theorem dL_law_691 : decode cL_law 691 = .ok (.aload_n 2, 1) := by decide +kernel
theorem dL_law_692 : decode cL_law 692 = .ok (.aload_n 0, 1) := by decide +kernel
theorem dL_law_693 : decode cL_law 693 = .ok (.iload_n 3, 1) := by decide +kernel
theorem dL_law_694 : decode cL_law 694 = .ok (.iconst 1, 1) := by decide +kernel
theorem dL_law_695 : decode cL_law 695 = .ok (.iadd, 1) := by decide +kernel
theorem dL_law_696 : decode cL_law 696 = .ok (.iaload, 1) := by decide +kernel
theorem dL_law_697 : decode cL_law 697 = .ok (.invokevirtual 78, 3) := by decide +kernel
theorem dL_law_700 : decode cL_law 700 = .ok (.if_icmp .eq 411, 3) := by decide +kernel
theorem dL_law_703 : decode cL_law 703 = .ok (.iconst 0, 1) := by decide +kernel
theorem dL_law_704 : decode cL_law 704 = .ok (.ireturn, 1) := by decide +kernel
theorem dL_law_705 : decode cL_law 705 = .ok (.aload_n 1, 1) := by decide +kernel
theorem dL_law_706 : decode cL_law 706 = .ok (.aload_n 0, 1) := by decide +kernel
theorem dL_law_707 : decode cL_law 707 = .ok (.iload_n 3, 1) := by decide +kernel
theorem dL_law_708 : decode cL_law 708 = .ok (.iconst 1, 1) := by decide +kernel
theorem dL_law_709 : decode cL_law 709 = .ok (.iadd, 1) := by decide +kernel
theorem dL_law_710 : decode cL_law 710 = .ok (.iaload, 1) := by decide +kernel
theorem dL_law_711 : decode cL_law 711 = .ok (.aload_n 0, 1) := by decide +kernel
theorem dL_law_712 : decode cL_law 712 = .ok (.iload_n 3, 1) := by decide +kernel
theorem dL_law_713 : decode cL_law 713 = .ok (.iconst 2, 1) := by decide +kernel
theorem dL_law_714 : decode cL_law 714 = .ok (.iadd, 1) := by decide +kernel
theorem dL_law_715 : decode cL_law 715 = .ok (.iaload, 1) := by decide +kernel
theorem dL_law_716 : decode cL_law 716 = .ok (.invokevirtual 79, 3) := by decide +kernel
theorem dL_law_719 : decode cL_law 719 = .ok (.aload_n 2, 1) := by decide +kernel
theorem dL_law_720 : decode cL_law 720 = .ok (.aload_n 0, 1) := by decide +kernel
theorem dL_law_721 : decode cL_law 721 = .ok (.iload_n 3, 1) := by decide +kernel
theorem dL_law_722 : decode cL_law 722 = .ok (.iconst 1, 1) := by decide +kernel
theorem dL_law_723 : decode cL_law 723 = .ok (.iadd, 1) := by decide +kernel
theorem dL_law_724 : decode cL_law 724 = .ok (.iaload, 1) := by decide +kernel
theorem dL_law_725 : decode cL_law 725 = .ok (.aload_n 0, 1) := by decide +kernel
theorem dL_law_726 : decode cL_law 726 = .ok (.iload_n 3, 1) := by decide +kernel
theorem dL_law_727 : decode cL_law 727 = .ok (.iconst 2, 1) := by decide +kernel
theorem dL_law_728 : decode cL_law 728 = .ok (.iadd, 1) := by decide +kernel
theorem dL_law_729 : decode cL_law 729 = .ok (.iaload, 1) := by decide +kernel
theorem dL_law_730 : decode cL_law 730 = .ok (.invokevirtual 82, 3) := by decide +kernel
theorem dL_law_733 : decode cL_law 733 = .ok (.if_icmp .eq 378, 3) := by decide +kernel
theorem dL_law_736 : decode cL_law 736 = .ok (.iconst 0, 1) := by decide +kernel
theorem dL_law_737 : decode cL_law 737 = .ok (.ireturn, 1) := by decide +kernel
theorem dL_law_738 : decode cL_law 738 = .ok (.aload_n 1, 1) := by decide +kernel
theorem dL_law_739 : decode cL_law 739 = .ok (.aload_n 0, 1) := by decide +kernel
theorem dL_law_740 : decode cL_law 740 = .ok (.iload_n 3, 1) := by decide +kernel
theorem dL_law_741 : decode cL_law 741 = .ok (.iconst 1, 1) := by decide +kernel
theorem dL_law_742 : decode cL_law 742 = .ok (.iadd, 1) := by decide +kernel
theorem dL_law_743 : decode cL_law 743 = .ok (.iaload, 1) := by decide +kernel
theorem dL_law_744 : decode cL_law 744 = .ok (.aload_n 0, 1) := by decide +kernel
theorem dL_law_745 : decode cL_law 745 = .ok (.iload_n 3, 1) := by decide +kernel
theorem dL_law_746 : decode cL_law 746 = .ok (.iconst 2, 1) := by decide +kernel
theorem dL_law_747 : decode cL_law 747 = .ok (.iadd, 1) := by decide +kernel
theorem dL_law_748 : decode cL_law 748 = .ok (.iaload, 1) := by decide +kernel
theorem dL_law_749 : decode cL_law 749 = .ok (.aload_n 0, 1) := by decide +kernel
theorem dL_law_750 : decode cL_law 750 = .ok (.iload_n 3, 1) := by decide +kernel
theorem dL_law_751 : decode cL_law 751 = .ok (.iconst 3, 1) := by decide +kernel
theorem dL_law_752 : decode cL_law 752 = .ok (.iadd, 1) := by decide +kernel
theorem dL_law_753 : decode cL_law 753 = .ok (.iaload, 1) := by decide +kernel
theorem dL_law_754 : decode cL_law 754 = .ok (.aload_n 0, 1) := by decide +kernel
theorem dL_law_755 : decode cL_law 755 = .ok (.iload_n 3, 1) := by decide +kernel
theorem dL_law_756 : decode cL_law 756 = .ok (.iconst 4, 1) := by decide +kernel
theorem dL_law_757 : decode cL_law 757 = .ok (.iadd, 1) := by decide +kernel
theorem dL_law_758 : decode cL_law 758 = .ok (.iaload, 1) := by decide +kernel
theorem dL_law_759 : decode cL_law 759 = .ok (.invokevirtual 83, 3) := by decide +kernel
theorem dL_law_762 : decode cL_law 762 = .ok (.aload_n 2, 1) := by decide +kernel
theorem dL_law_763 : decode cL_law 763 = .ok (.aload_n 0, 1) := by decide +kernel
theorem dL_law_764 : decode cL_law 764 = .ok (.iload_n 3, 1) := by decide +kernel
theorem dL_law_765 : decode cL_law 765 = .ok (.iconst 1, 1) := by decide +kernel
theorem dL_law_766 : decode cL_law 766 = .ok (.iadd, 1) := by decide +kernel
theorem dL_law_767 : decode cL_law 767 = .ok (.iaload, 1) := by decide +kernel
theorem dL_law_768 : decode cL_law 768 = .ok (.aload_n 0, 1) := by decide +kernel
theorem dL_law_769 : decode cL_law 769 = .ok (.iload_n 3, 1) := by decide +kernel
theorem dL_law_770 : decode cL_law 770 = .ok (.iconst 2, 1) := by decide +kernel
theorem dL_law_771 : decode cL_law 771 = .ok (.iadd, 1) := by decide +kernel
theorem dL_law_772 : decode cL_law 772 = .ok (.iaload, 1) := by decide +kernel
theorem dL_law_773 : decode cL_law 773 = .ok (.aload_n 0, 1) := by decide +kernel
theorem dL_law_774 : decode cL_law 774 = .ok (.iload_n 3, 1) := by decide +kernel
theorem dL_law_775 : decode cL_law 775 = .ok (.iconst 3, 1) := by decide +kernel
theorem dL_law_776 : decode cL_law 776 = .ok (.iadd, 1) := by decide +kernel
theorem dL_law_777 : decode cL_law 777 = .ok (.iaload, 1) := by decide +kernel
theorem dL_law_778 : decode cL_law 778 = .ok (.aload_n 0, 1) := by decide +kernel
theorem dL_law_779 : decode cL_law 779 = .ok (.iload_n 3, 1) := by decide +kernel
theorem dL_law_780 : decode cL_law 780 = .ok (.iconst 4, 1) := by decide +kernel
theorem dL_law_781 : decode cL_law 781 = .ok (.iadd, 1) := by decide +kernel
theorem dL_law_782 : decode cL_law 782 = .ok (.iaload, 1) := by decide +kernel
theorem dL_law_783 : decode cL_law 783 = .ok (.invokevirtual 86, 3) := by decide +kernel
theorem dL_law_786 : decode cL_law 786 = .ok (.if_icmp .eq 325, 3) := by decide +kernel
theorem dL_law_789 : decode cL_law 789 = .ok (.iconst 0, 1) := by decide +kernel
theorem dL_law_790 : decode cL_law 790 = .ok (.ireturn, 1) := by decide +kernel
theorem dL_law_791 : decode cL_law 791 = .ok (.aload_n 1, 1) := by decide +kernel
theorem dL_law_792 : decode cL_law 792 = .ok (.aload_n 0, 1) := by decide +kernel
theorem dL_law_793 : decode cL_law 793 = .ok (.iload_n 3, 1) := by decide +kernel
theorem dL_law_794 : decode cL_law 794 = .ok (.iconst 1, 1) := by decide +kernel
theorem dL_law_795 : decode cL_law 795 = .ok (.iadd, 1) := by decide +kernel
theorem dL_law_796 : decode cL_law 796 = .ok (.iaload, 1) := by decide +kernel
theorem dL_law_797 : decode cL_law 797 = .ok (.aload_n 0, 1) := by decide +kernel
theorem dL_law_798 : decode cL_law 798 = .ok (.iload_n 3, 1) := by decide +kernel
theorem dL_law_799 : decode cL_law 799 = .ok (.iconst 2, 1) := by decide +kernel
theorem dL_law_800 : decode cL_law 800 = .ok (.iadd, 1) := by decide +kernel
theorem dL_law_801 : decode cL_law 801 = .ok (.iaload, 1) := by decide +kernel
theorem dL_law_802 : decode cL_law 802 = .ok (.aload_n 0, 1) := by decide +kernel
theorem dL_law_803 : decode cL_law 803 = .ok (.iload_n 3, 1) := by decide +kernel
theorem dL_law_804 : decode cL_law 804 = .ok (.iconst 3, 1) := by decide +kernel
theorem dL_law_805 : decode cL_law 805 = .ok (.iadd, 1) := by decide +kernel
theorem dL_law_806 : decode cL_law 806 = .ok (.iaload, 1) := by decide +kernel
theorem dL_law_807 : decode cL_law 807 = .ok (.invokevirtual 87, 3) := by decide +kernel
theorem dL_law_810 : decode cL_law 810 = .ok (.aload_n 2, 1) := by decide +kernel
theorem dL_law_811 : decode cL_law 811 = .ok (.aload_n 0, 1) := by decide +kernel
theorem dL_law_812 : decode cL_law 812 = .ok (.iload_n 3, 1) := by decide +kernel
theorem dL_law_813 : decode cL_law 813 = .ok (.iconst 1, 1) := by decide +kernel
theorem dL_law_814 : decode cL_law 814 = .ok (.iadd, 1) := by decide +kernel
theorem dL_law_815 : decode cL_law 815 = .ok (.iaload, 1) := by decide +kernel
theorem dL_law_816 : decode cL_law 816 = .ok (.aload_n 0, 1) := by decide +kernel
theorem dL_law_817 : decode cL_law 817 = .ok (.iload_n 3, 1) := by decide +kernel
theorem dL_law_818 : decode cL_law 818 = .ok (.iconst 2, 1) := by decide +kernel
theorem dL_law_819 : decode cL_law 819 = .ok (.iadd, 1) := by decide +kernel
theorem dL_law_820 : decode cL_law 820 = .ok (.iaload, 1) := by decide +kernel
theorem dL_law_821 : decode cL_law 821 = .ok (.aload_n 0, 1) := by decide +kernel
theorem dL_law_822 : decode cL_law 822 = .ok (.iload_n 3, 1) := by decide +kernel
theorem dL_law_823 : decode cL_law 823 = .ok (.iconst 3, 1) := by decide +kernel
theorem dL_law_824 : decode cL_law 824 = .ok (.iadd, 1) := by decide +kernel
theorem dL_law_825 : decode cL_law 825 = .ok (.iaload, 1) := by decide +kernel
theorem dL_law_826 : decode cL_law 826 = .ok (.invokevirtual 90, 3) := by decide +kernel
theorem dL_law_829 : decode cL_law 829 = .ok (.if_icmp .eq 282, 3) := by decide +kernel
theorem dL_law_832 : decode cL_law 832 = .ok (.iconst 0, 1) := by decide +kernel
theorem dL_law_833 : decode cL_law 833 = .ok (.ireturn, 1) := by decide +kernel
theorem dL_law_834 : decode cL_law 834 = .ok (.aload_n 1, 1) := by decide +kernel
theorem dL_law_835 : decode cL_law 835 = .ok (.aload_n 0, 1) := by decide +kernel
theorem dL_law_836 : decode cL_law 836 = .ok (.iload_n 3, 1) := by decide +kernel
theorem dL_law_837 : decode cL_law 837 = .ok (.iconst 1, 1) := by decide +kernel
theorem dL_law_838 : decode cL_law 838 = .ok (.iadd, 1) := by decide +kernel
theorem dL_law_839 : decode cL_law 839 = .ok (.iaload, 1) := by decide +kernel
theorem dL_law_840 : decode cL_law 840 = .ok (.aload_n 0, 1) := by decide +kernel
theorem dL_law_841 : decode cL_law 841 = .ok (.iload_n 3, 1) := by decide +kernel
theorem dL_law_842 : decode cL_law 842 = .ok (.iconst 2, 1) := by decide +kernel
theorem dL_law_843 : decode cL_law 843 = .ok (.iadd, 1) := by decide +kernel
theorem dL_law_844 : decode cL_law 844 = .ok (.iaload, 1) := by decide +kernel
theorem dL_law_845 : decode cL_law 845 = .ok (.invokevirtual 91, 3) := by decide +kernel
theorem dL_law_848 : decode cL_law 848 = .ok (.aload_n 2, 1) := by decide +kernel
theorem dL_law_849 : decode cL_law 849 = .ok (.aload_n 0, 1) := by decide +kernel
theorem dL_law_850 : decode cL_law 850 = .ok (.iload_n 3, 1) := by decide +kernel
theorem dL_law_851 : decode cL_law 851 = .ok (.iconst 1, 1) := by decide +kernel
theorem dL_law_852 : decode cL_law 852 = .ok (.iadd, 1) := by decide +kernel
theorem dL_law_853 : decode cL_law 853 = .ok (.iaload, 1) := by decide +kernel
theorem dL_law_854 : decode cL_law 854 = .ok (.aload_n 0, 1) := by decide +kernel
theorem dL_law_855 : decode cL_law 855 = .ok (.iload_n 3, 1) := by decide +kernel
theorem dL_law_856 : decode cL_law 856 = .ok (.iconst 2, 1) := by decide +kernel
theorem dL_law_857 : decode cL_law 857 = .ok (.iadd, 1) := by decide +kernel
theorem dL_law_858 : decode cL_law 858 = .ok (.iaload, 1) := by decide +kernel
theorem dL_law_859 : decode cL_law 859 = .ok (.invokevirtual 94, 3) := by decide +kernel
theorem dL_law_862 : decode cL_law 862 = .ok (.if_icmp .eq 249, 3) := by decide +kernel
theorem dL_law_865 : decode cL_law 865 = .ok (.iconst 0, 1) := by decide +kernel
theorem dL_law_866 : decode cL_law 866 = .ok (.ireturn, 1) := by decide +kernel
theorem dL_law_867 : decode cL_law 867 = .ok (.aload_n 1, 1) := by decide +kernel
theorem dL_law_868 : decode cL_law 868 = .ok (.aload_n 0, 1) := by decide +kernel
theorem dL_law_869 : decode cL_law 869 = .ok (.iload_n 3, 1) := by decide +kernel
theorem dL_law_870 : decode cL_law 870 = .ok (.iconst 1, 1) := by decide +kernel
theorem dL_law_871 : decode cL_law 871 = .ok (.iadd, 1) := by decide +kernel
theorem dL_law_872 : decode cL_law 872 = .ok (.iaload, 1) := by decide +kernel
theorem dL_law_873 : decode cL_law 873 = .ok (.invokevirtual 95, 3) := by decide +kernel
theorem dL_law_876 : decode cL_law 876 = .ok (.aload_n 2, 1) := by decide +kernel
theorem dL_law_877 : decode cL_law 877 = .ok (.aload_n 0, 1) := by decide +kernel
theorem dL_law_878 : decode cL_law 878 = .ok (.iload_n 3, 1) := by decide +kernel
theorem dL_law_879 : decode cL_law 879 = .ok (.iconst 1, 1) := by decide +kernel
theorem dL_law_880 : decode cL_law 880 = .ok (.iadd, 1) := by decide +kernel
theorem dL_law_881 : decode cL_law 881 = .ok (.iaload, 1) := by decide +kernel
theorem dL_law_882 : decode cL_law 882 = .ok (.invokevirtual 98, 3) := by decide +kernel
theorem dL_law_885 : decode cL_law 885 = .ok (.if_icmp .eq 226, 3) := by decide +kernel
theorem dL_law_888 : decode cL_law 888 = .ok (.iconst 0, 1) := by decide +kernel
theorem dL_law_889 : decode cL_law 889 = .ok (.ireturn, 1) := by decide +kernel
theorem dL_law_890 : decode cL_law 890 = .ok (.aload_n 1, 1) := by decide +kernel
theorem dL_law_891 : decode cL_law 891 = .ok (.aload_n 0, 1) := by decide +kernel
theorem dL_law_892 : decode cL_law 892 = .ok (.iload_n 3, 1) := by decide +kernel
theorem dL_law_893 : decode cL_law 893 = .ok (.iconst 1, 1) := by decide +kernel
theorem dL_law_894 : decode cL_law 894 = .ok (.iadd, 1) := by decide +kernel
theorem dL_law_895 : decode cL_law 895 = .ok (.iaload, 1) := by decide +kernel
theorem dL_law_896 : decode cL_law 896 = .ok (.aload_n 0, 1) := by decide +kernel
theorem dL_law_897 : decode cL_law 897 = .ok (.iload_n 3, 1) := by decide +kernel
theorem dL_law_898 : decode cL_law 898 = .ok (.iconst 2, 1) := by decide +kernel
theorem dL_law_899 : decode cL_law 899 = .ok (.iadd, 1) := by decide +kernel
theorem dL_law_900 : decode cL_law 900 = .ok (.iaload, 1) := by decide +kernel
theorem dL_law_901 : decode cL_law 901 = .ok (.invokevirtual 99, 3) := by decide +kernel
theorem dL_law_904 : decode cL_law 904 = .ok (.aload_n 2, 1) := by decide +kernel
theorem dL_law_905 : decode cL_law 905 = .ok (.aload_n 0, 1) := by decide +kernel
theorem dL_law_906 : decode cL_law 906 = .ok (.iload_n 3, 1) := by decide +kernel
theorem dL_law_907 : decode cL_law 907 = .ok (.iconst 1, 1) := by decide +kernel
theorem dL_law_908 : decode cL_law 908 = .ok (.iadd, 1) := by decide +kernel
theorem dL_law_909 : decode cL_law 909 = .ok (.iaload, 1) := by decide +kernel
theorem dL_law_910 : decode cL_law 910 = .ok (.aload_n 0, 1) := by decide +kernel
theorem dL_law_911 : decode cL_law 911 = .ok (.iload_n 3, 1) := by decide +kernel
theorem dL_law_912 : decode cL_law 912 = .ok (.iconst 2, 1) := by decide +kernel
theorem dL_law_913 : decode cL_law 913 = .ok (.iadd, 1) := by decide +kernel
theorem dL_law_914 : decode cL_law 914 = .ok (.iaload, 1) := by decide +kernel
theorem dL_law_915 : decode cL_law 915 = .ok (.invokevirtual 102, 3) := by decide +kernel
theorem dL_law_918 : decode cL_law 918 = .ok (.if_icmp .eq 193, 3) := by decide +kernel
theorem dL_law_921 : decode cL_law 921 = .ok (.iconst 0, 1) := by decide +kernel
theorem dL_law_922 : decode cL_law 922 = .ok (.ireturn, 1) := by decide +kernel
theorem dL_law_923 : decode cL_law 923 = .ok (.aload_n 1, 1) := by decide +kernel
theorem dL_law_924 : decode cL_law 924 = .ok (.aload_n 0, 1) := by decide +kernel
theorem dL_law_925 : decode cL_law 925 = .ok (.iload_n 3, 1) := by decide +kernel
theorem dL_law_926 : decode cL_law 926 = .ok (.iconst 1, 1) := by decide +kernel
theorem dL_law_927 : decode cL_law 927 = .ok (.iadd, 1) := by decide +kernel
theorem dL_law_928 : decode cL_law 928 = .ok (.iaload, 1) := by decide +kernel
theorem dL_law_929 : decode cL_law 929 = .ok (.aload_n 0, 1) := by decide +kernel
theorem dL_law_930 : decode cL_law 930 = .ok (.iload_n 3, 1) := by decide +kernel
theorem dL_law_931 : decode cL_law 931 = .ok (.iconst 2, 1) := by decide +kernel
theorem dL_law_932 : decode cL_law 932 = .ok (.iadd, 1) := by decide +kernel
theorem dL_law_933 : decode cL_law 933 = .ok (.iaload, 1) := by decide +kernel
theorem dL_law_934 : decode cL_law 934 = .ok (.aload_n 0, 1) := by decide +kernel
theorem dL_law_935 : decode cL_law 935 = .ok (.iload_n 3, 1) := by decide +kernel
theorem dL_law_936 : decode cL_law 936 = .ok (.iconst 3, 1) := by decide +kernel
theorem dL_law_937 : decode cL_law 937 = .ok (.iadd, 1) := by decide +kernel
theorem dL_law_938 : decode cL_law 938 = .ok (.iaload, 1) := by decide +kernel
theorem dL_law_939 : decode cL_law 939 = .ok (.invokevirtual 103, 3) := by decide +kernel
theorem dL_law_942 : decode cL_law 942 = .ok (.aload_n 2, 1) := by decide +kernel
theorem dL_law_943 : decode cL_law 943 = .ok (.aload_n 0, 1) := by decide +kernel
theorem dL_law_944 : decode cL_law 944 = .ok (.iload_n 3, 1) := by decide +kernel
theorem dL_law_945 : decode cL_law 945 = .ok (.iconst 1, 1) := by decide +kernel
theorem dL_law_946 : decode cL_law 946 = .ok (.iadd, 1) := by decide +kernel
theorem dL_law_947 : decode cL_law 947 = .ok (.iaload, 1) := by decide +kernel
theorem dL_law_948 : decode cL_law 948 = .ok (.aload_n 0, 1) := by decide +kernel
theorem dL_law_949 : decode cL_law 949 = .ok (.iload_n 3, 1) := by decide +kernel
theorem dL_law_950 : decode cL_law 950 = .ok (.iconst 2, 1) := by decide +kernel
theorem dL_law_951 : decode cL_law 951 = .ok (.iadd, 1) := by decide +kernel
theorem dL_law_952 : decode cL_law 952 = .ok (.iaload, 1) := by decide +kernel
theorem dL_law_953 : decode cL_law 953 = .ok (.aload_n 0, 1) := by decide +kernel
theorem dL_law_954 : decode cL_law 954 = .ok (.iload_n 3, 1) := by decide +kernel
theorem dL_law_955 : decode cL_law 955 = .ok (.iconst 3, 1) := by decide +kernel
theorem dL_law_956 : decode cL_law 956 = .ok (.iadd, 1) := by decide +kernel
theorem dL_law_957 : decode cL_law 957 = .ok (.iaload, 1) := by decide +kernel
theorem dL_law_958 : decode cL_law 958 = .ok (.invokevirtual 106, 3) := by decide +kernel
theorem dL_law_961 : decode cL_law 961 = .ok (.if_icmp .eq 150, 3) := by decide +kernel
theorem dL_law_964 : decode cL_law 964 = .ok (.iconst 0, 1) := by decide +kernel
theorem dL_law_965 : decode cL_law 965 = .ok (.ireturn, 1) := by decide +kernel
theorem dL_law_966 : decode cL_law 966 = .ok (.aload_n 1, 1) := by decide +kernel
theorem dL_law_967 : decode cL_law 967 = .ok (.aload_n 0, 1) := by decide +kernel
theorem dL_law_968 : decode cL_law 968 = .ok (.iload_n 3, 1) := by decide +kernel
theorem dL_law_969 : decode cL_law 969 = .ok (.iconst 1, 1) := by decide +kernel
theorem dL_law_970 : decode cL_law 970 = .ok (.iadd, 1) := by decide +kernel
theorem dL_law_971 : decode cL_law 971 = .ok (.iaload, 1) := by decide +kernel
theorem dL_law_972 : decode cL_law 972 = .ok (.invokevirtual 107, 3) := by decide +kernel
theorem dL_law_975 : decode cL_law 975 = .ok (.aload_n 2, 1) := by decide +kernel
theorem dL_law_976 : decode cL_law 976 = .ok (.aload_n 0, 1) := by decide +kernel
theorem dL_law_977 : decode cL_law 977 = .ok (.iload_n 3, 1) := by decide +kernel
theorem dL_law_978 : decode cL_law 978 = .ok (.iconst 1, 1) := by decide +kernel
theorem dL_law_979 : decode cL_law 979 = .ok (.iadd, 1) := by decide +kernel
theorem dL_law_980 : decode cL_law 980 = .ok (.iaload, 1) := by decide +kernel
theorem dL_law_981 : decode cL_law 981 = .ok (.invokevirtual 110, 3) := by decide +kernel
theorem dL_law_984 : decode cL_law 984 = .ok (.if_icmp .eq 127, 3) := by decide +kernel
theorem dL_law_987 : decode cL_law 987 = .ok (.iconst 0, 1) := by decide +kernel
theorem dL_law_988 : decode cL_law 988 = .ok (.ireturn, 1) := by decide +kernel
theorem dL_law_989 : decode cL_law 989 = .ok (.aload_n 1, 1) := by decide +kernel
theorem dL_law_990 : decode cL_law 990 = .ok (.aload_n 0, 1) := by decide +kernel
theorem dL_law_991 : decode cL_law 991 = .ok (.iload_n 3, 1) := by decide +kernel
theorem dL_law_992 : decode cL_law 992 = .ok (.iconst 1, 1) := by decide +kernel
theorem dL_law_993 : decode cL_law 993 = .ok (.iadd, 1) := by decide +kernel
theorem dL_law_994 : decode cL_law 994 = .ok (.iaload, 1) := by decide +kernel
theorem dL_law_995 : decode cL_law 995 = .ok (.aload_n 0, 1) := by decide +kernel
theorem dL_law_996 : decode cL_law 996 = .ok (.iload_n 3, 1) := by decide +kernel
theorem dL_law_997 : decode cL_law 997 = .ok (.iconst 2, 1) := by decide +kernel
theorem dL_law_998 : decode cL_law 998 = .ok (.iadd, 1) := by decide +kernel
theorem dL_law_999 : decode cL_law 999 = .ok (.iaload, 1) := by decide +kernel
theorem dL_law_1000 : decode cL_law 1000 = .ok (.invokevirtual 111, 3) := by decide +kernel
theorem dL_law_1003 : decode cL_law 1003 = .ok (.aload_n 2, 1) := by decide +kernel
theorem dL_law_1004 : decode cL_law 1004 = .ok (.aload_n 0, 1) := by decide +kernel
theorem dL_law_1005 : decode cL_law 1005 = .ok (.iload_n 3, 1) := by decide +kernel
theorem dL_law_1006 : decode cL_law 1006 = .ok (.iconst 1, 1) := by decide +kernel
theorem dL_law_1007 : decode cL_law 1007 = .ok (.iadd, 1) := by decide +kernel
theorem dL_law_1008 : decode cL_law 1008 = .ok (.iaload, 1) := by decide +kernel
theorem dL_law_1009 : decode cL_law 1009 = .ok (.aload_n 0, 1) := by decide +kernel
theorem dL_law_1010 : decode cL_law 1010 = .ok (.iload_n 3, 1) := by decide +kernel
theorem dL_law_1011 : decode cL_law 1011 = .ok (.iconst 2, 1) := by decide +kernel
theorem dL_law_1012 : decode cL_law 1012 = .ok (.iadd, 1) := by decide +kernel
theorem dL_law_1013 : decode cL_law 1013 = .ok (.iaload, 1) := by decide +kernel
theorem dL_law_1014 : decode cL_law 1014 = .ok (.invokevirtual 114, 3) := by decide +kernel
theorem dL_law_1017 : decode cL_law 1017 = .ok (.if_icmp .eq 94, 3) := by decide +kernel
theorem dL_law_1020 : decode cL_law 1020 = .ok (.iconst 0, 1) := by decide +kernel
theorem dL_law_1021 : decode cL_law 1021 = .ok (.ireturn, 1) := by decide +kernel
theorem dL_law_1022 : decode cL_law 1022 = .ok (.aload_n 1, 1) := by decide +kernel
theorem dL_law_1023 : decode cL_law 1023 = .ok (.aload_n 0, 1) := by decide +kernel
theorem dL_law_1024 : decode cL_law 1024 = .ok (.iload_n 3, 1) := by decide +kernel
theorem dL_law_1025 : decode cL_law 1025 = .ok (.iconst 1, 1) := by decide +kernel
theorem dL_law_1026 : decode cL_law 1026 = .ok (.iadd, 1) := by decide +kernel
theorem dL_law_1027 : decode cL_law 1027 = .ok (.iaload, 1) := by decide +kernel
theorem dL_law_1028 : decode cL_law 1028 = .ok (.aload_n 0, 1) := by decide +kernel
theorem dL_law_1029 : decode cL_law 1029 = .ok (.iload_n 3, 1) := by decide +kernel
theorem dL_law_1030 : decode cL_law 1030 = .ok (.iconst 2, 1) := by decide +kernel
theorem dL_law_1031 : decode cL_law 1031 = .ok (.iadd, 1) := by decide +kernel
theorem dL_law_1032 : decode cL_law 1032 = .ok (.iaload, 1) := by decide +kernel
theorem dL_law_1033 : decode cL_law 1033 = .ok (.invokevirtual 115, 3) := by decide +kernel
theorem dL_law_1036 : decode cL_law 1036 = .ok (.aload_n 2, 1) := by decide +kernel
theorem dL_law_1037 : decode cL_law 1037 = .ok (.aload_n 0, 1) := by decide +kernel
theorem dL_law_1038 : decode cL_law 1038 = .ok (.iload_n 3, 1) := by decide +kernel
theorem dL_law_1039 : decode cL_law 1039 = .ok (.iconst 1, 1) := by decide +kernel
theorem dL_law_1040 : decode cL_law 1040 = .ok (.iadd, 1) := by decide +kernel
theorem dL_law_1041 : decode cL_law 1041 = .ok (.iaload, 1) := by decide +kernel
theorem dL_law_1042 : decode cL_law 1042 = .ok (.aload_n 0, 1) := by decide +kernel
theorem dL_law_1043 : decode cL_law 1043 = .ok (.iload_n 3, 1) := by decide +kernel
theorem dL_law_1044 : decode cL_law 1044 = .ok (.iconst 2, 1) := by decide +kernel
theorem dL_law_1045 : decode cL_law 1045 = .ok (.iadd, 1) := by decide +kernel
theorem dL_law_1046 : decode cL_law 1046 = .ok (.iaload, 1) := by decide +kernel
theorem dL_law_1047 : decode cL_law 1047 = .ok (.invokevirtual 118, 3) := by decide +kernel
theorem dL_law_1050 : decode cL_law 1050 = .ok (.if_icmp .eq 61, 3) := by decide +kernel
theorem dL_law_1053 : decode cL_law 1053 = .ok (.iconst 0, 1) := by decide +kernel
theorem dL_law_1054 : decode cL_law 1054 = .ok (.ireturn, 1) := by decide +kernel
theorem dL_law_1055 : decode cL_law 1055 = .ok (.aload_n 1, 1) := by decide +kernel
theorem dL_law_1056 : decode cL_law 1056 = .ok (.aload_n 0, 1) := by decide +kernel
theorem dL_law_1057 : decode cL_law 1057 = .ok (.iload_n 3, 1) := by decide +kernel
theorem dL_law_1058 : decode cL_law 1058 = .ok (.iconst 1, 1) := by decide +kernel
theorem dL_law_1059 : decode cL_law 1059 = .ok (.iadd, 1) := by decide +kernel
theorem dL_law_1060 : decode cL_law 1060 = .ok (.iaload, 1) := by decide +kernel
theorem dL_law_1061 : decode cL_law 1061 = .ok (.aload_n 0, 1) := by decide +kernel
theorem dL_law_1062 : decode cL_law 1062 = .ok (.iload_n 3, 1) := by decide +kernel
theorem dL_law_1063 : decode cL_law 1063 = .ok (.iconst 2, 1) := by decide +kernel
theorem dL_law_1064 : decode cL_law 1064 = .ok (.iadd, 1) := by decide +kernel
theorem dL_law_1065 : decode cL_law 1065 = .ok (.iaload, 1) := by decide +kernel
theorem dL_law_1066 : decode cL_law 1066 = .ok (.invokevirtual 119, 3) := by decide +kernel
theorem dL_law_1069 : decode cL_law 1069 = .ok (.aload_n 2, 1) := by decide +kernel
theorem dL_law_1070 : decode cL_law 1070 = .ok (.aload_n 0, 1) := by decide +kernel
theorem dL_law_1071 : decode cL_law 1071 = .ok (.iload_n 3, 1) := by decide +kernel
theorem dL_law_1072 : decode cL_law 1072 = .ok (.iconst 1, 1) := by decide +kernel
theorem dL_law_1073 : decode cL_law 1073 = .ok (.iadd, 1) := by decide +kernel
theorem dL_law_1074 : decode cL_law 1074 = .ok (.iaload, 1) := by decide +kernel
theorem dL_law_1075 : decode cL_law 1075 = .ok (.aload_n 0, 1) := by decide +kernel
theorem dL_law_1076 : decode cL_law 1076 = .ok (.iload_n 3, 1) := by decide +kernel
theorem dL_law_1077 : decode cL_law 1077 = .ok (.iconst 2, 1) := by decide +kernel
theorem dL_law_1078 : decode cL_law 1078 = .ok (.iadd, 1) := by decide +kernel
theorem dL_law_1079 : decode cL_law 1079 = .ok (.iaload, 1) := by decide +kernel
theorem dL_law_1080 : decode cL_law 1080 = .ok (.invokevirtual 122, 3) := by decide +kernel
theorem dL_law_1083 : decode cL_law 1083 = .ok (.if_icmp .eq 28, 3) := by decide +kernel
theorem dL_law_1086 : decode cL_law 1086 = .ok (.iconst 0, 1) := by decide +kernel
theorem dL_law_1087 : decode cL_law 1087 = .ok (.ireturn, 1) := by decide +kernel
theorem dL_law_1088 : decode cL_law 1088 = .ok (.aload_n 1, 1) := by decide +kernel
theorem dL_law_1089 : decode cL_law 1089 = .ok (.aload_n 0, 1) := by decide +kernel
theorem dL_law_1090 : decode cL_law 1090 = .ok (.iload_n 3, 1) := by decide +kernel
theorem dL_law_1091 : decode cL_law 1091 = .ok (.iconst 1, 1) := by decide +kernel
theorem dL_law_1092 : decode cL_law 1092 = .ok (.iadd, 1) := by decide +kernel
theorem dL_law_1093 : decode cL_law 1093 = .ok (.iaload, 1) := by decide +kernel
theorem dL_law_1094 : decode cL_law 1094 = .ok (.invokevirtual 123, 3) := by decide +kernel
theorem dL_law_1097 : decode cL_law 1097 = .ok (.aload_n 2, 1) := by decide +kernel
theorem dL_law_1098 : decode cL_law 1098 = .ok (.aload_n 0, 1) := by decide +kernel
theorem dL_law_1099 : decode cL_law 1099 = .ok (.iload_n 3, 1) := by decide +kernel
theorem dL_law_1100 : decode cL_law 1100 = .ok (.iconst 1, 1) := by decide +kernel
theorem dL_law_1101 : decode cL_law 1101 = .ok (.iadd, 1) := by decide +kernel
theorem dL_law_1102 : decode cL_law 1102 = .ok (.iaload, 1) := by decide +kernel
theorem dL_law_1103 : decode cL_law 1103 = .ok (.invokevirtual 126, 3) := by decide +kernel
theorem dL_law_1106 : decode cL_law 1106 = .ok (.if_icmp .eq 5, 3) := by decide +kernel
theorem dL_law_1109 : decode cL_law 1109 = .ok (.iconst 0, 1) := by decide +kernel
theorem dL_law_1110 : decode cL_law 1110 = .ok (.ireturn, 1) := by decide +kernel
theorem dL_law_1111 : decode cL_law 1111 = .ok (.iinc 3 5, 3) := by decide +kernel
theorem dL_law_1114 : decode cL_law 1114 = .ok (.goto (-1096), 3) := by decide +kernel
theorem dL_law_1117 : decode cL_law 1117 = .ok (.iconst 1, 1) := by decide +kernel
theorem dL_law_1118 : decode cL_law 1118 = .ok (.ireturn, 1) := by decide +kernel
end
section
theorem zz_last : True := trivial
end
