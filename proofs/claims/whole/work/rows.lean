section
-- ===== PART A: goes FIRST, ahead of the names: the tables' words, and 'selects' of the private methods out of them =====
/-- a private method of a class that the tables say can be made, by its rows of tables_1 -/
def lw_okq (q : MethodName × Nat) : Prop := (q.1.cls ≠ "java/lang/invoke/MethodHandle" ∧ q.1.cls ≠ "java/lang/invoke/VarHandle") ∧ Cond.instantiable q.1.cls q.2 ∈ tables_1 ∧ Cond.privateMethod q.1 ∈ tables_1 ∧ Cond.instanceMethod q.1 ∈ tables_1
theorem lw_p0 : lw_okq (⟨"EiderClimate", "houseCame", "(LEiderClimate$Shelf;II)Z"⟩, 9) := ⟨⟨by decide +kernel, by decide +kernel⟩, List.mem_of_getElem? (i := 16) (by decide +kernel), List.mem_of_getElem? (i := 356) (by decide +kernel), List.mem_of_getElem? (i := 357) (by decide +kernel)⟩
theorem lw_p1 : lw_okq (⟨"EiderClimate$Changes", "forgetOldest", "()V"⟩, 6) := ⟨⟨by decide +kernel, by decide +kernel⟩, List.mem_of_getElem? (i := 229) (by decide +kernel), List.mem_of_getElem? (i := 395) (by decide +kernel), List.mem_of_getElem? (i := 396) (by decide +kernel)⟩
theorem lw_p2 : lw_okq (⟨"EiderClimate$Tape", "readLine", "()Z"⟩, 4) := ⟨⟨by decide +kernel, by decide +kernel⟩, List.mem_of_getElem? (i := 130) (by decide +kernel), List.mem_of_getElem? (i := 426) (by decide +kernel), List.mem_of_getElem? (i := 427) (by decide +kernel)⟩
theorem lw_p3 : lw_okq (⟨"EiderClimate$Tape", "readJoined", "(II)Z"⟩, 4) := ⟨⟨by decide +kernel, by decide +kernel⟩, List.mem_of_getElem? (i := 130) (by decide +kernel), List.mem_of_getElem? (i := 430) (by decide +kernel), List.mem_of_getElem? (i := 431) (by decide +kernel)⟩
theorem lw_p4 : lw_okq (⟨"EiderClimate$Tape", "readOperand", "(I)Z"⟩, 4) := ⟨⟨by decide +kernel, by decide +kernel⟩, List.mem_of_getElem? (i := 130) (by decide +kernel), List.mem_of_getElem? (i := 434) (by decide +kernel), List.mem_of_getElem? (i := 435) (by decide +kernel)⟩
theorem lw_p5 : lw_okq (⟨"EiderClimate$Tape", "next", "()I"⟩, 4) := ⟨⟨by decide +kernel, by decide +kernel⟩, List.mem_of_getElem? (i := 130) (by decide +kernel), List.mem_of_getElem? (i := 438) (by decide +kernel), List.mem_of_getElem? (i := 439) (by decide +kernel)⟩
theorem lw_p6 : lw_okq (⟨"EiderClimate$Tape", "readNumber", "()V"⟩, 4) := ⟨⟨by decide +kernel, by decide +kernel⟩, List.mem_of_getElem? (i := 130) (by decide +kernel), List.mem_of_getElem? (i := 445) (by decide +kernel), List.mem_of_getElem? (i := 446) (by decide +kernel)⟩
theorem lw_p7 : lw_okq (⟨"EiderClimate$Tape", "readToClose", "(I)Z"⟩, 4) := ⟨⟨by decide +kernel, by decide +kernel⟩, List.mem_of_getElem? (i := 130) (by decide +kernel), List.mem_of_getElem? (i := 456) (by decide +kernel), List.mem_of_getElem? (i := 457) (by decide +kernel)⟩
theorem lw_p8 : lw_okq (⟨"EiderClimate$Tape", "readAhead", "(II)Z"⟩, 4) := ⟨⟨by decide +kernel, by decide +kernel⟩, List.mem_of_getElem? (i := 130) (by decide +kernel), List.mem_of_getElem? (i := 460) (by decide +kernel), List.mem_of_getElem? (i := 461) (by decide +kernel)⟩
theorem lw_p9 : lw_okq (⟨"EiderClimate$Cover", "wear", "()V"⟩, 5) := ⟨⟨by decide +kernel, by decide +kernel⟩, List.mem_of_getElem? (i := 30) (by decide +kernel), List.mem_of_getElem? (i := 493) (by decide +kernel), List.mem_of_getElem? (i := 494) (by decide +kernel)⟩
theorem lw_p10 : lw_okq (⟨"EiderClimate$Law", "lookAt", "(LEiderClimate$Cover;I)V"⟩, 8) := ⟨⟨by decide +kernel, by decide +kernel⟩, List.mem_of_getElem? (i := 64) (by decide +kernel), List.mem_of_getElem? (i := 508) (by decide +kernel), List.mem_of_getElem? (i := 509) (by decide +kernel)⟩
theorem lw_p11 : lw_okq (⟨"EiderClimate$Law", "valueOfPart", "(I)I"⟩, 8) := ⟨⟨by decide +kernel, by decide +kernel⟩, List.mem_of_getElem? (i := 64) (by decide +kernel), List.mem_of_getElem? (i := 512) (by decide +kernel), List.mem_of_getElem? (i := 513) (by decide +kernel)⟩
theorem lw_p12 : lw_okq (⟨"EiderClimate$Thought", "warmByPulls", "(III)Z"⟩, 10) := ⟨⟨by decide +kernel, by decide +kernel⟩, List.mem_of_getElem? (i := 150) (by decide +kernel), List.mem_of_getElem? (i := 569) (by decide +kernel), List.mem_of_getElem? (i := 570) (by decide +kernel)⟩
theorem lw_p13 : lw_okq (⟨"EiderClimate$Thought", "weigh", "(I)V"⟩, 10) := ⟨⟨by decide +kernel, by decide +kernel⟩, List.mem_of_getElem? (i := 150) (by decide +kernel), List.mem_of_getElem? (i := 599) (by decide +kernel), List.mem_of_getElem? (i := 600) (by decide +kernel)⟩
theorem lw_p14 : lw_okq (⟨"EiderClimate", "refusalOfBytes", "(I)I"⟩, 9) := ⟨⟨by decide +kernel, by decide +kernel⟩, List.mem_of_getElem? (i := 16) (by decide +kernel), List.mem_of_getElem? (i := 626) (by decide +kernel), List.mem_of_getElem? (i := 627) (by decide +kernel)⟩
theorem lw_p15 : lw_okq (⟨"EiderClimate$Thought", "firstUnlike", "(LEiderClimate$Shelf;I)I"⟩, 10) := ⟨⟨by decide +kernel, by decide +kernel⟩, List.mem_of_getElem? (i := 150) (by decide +kernel), List.mem_of_getElem? (i := 634) (by decide +kernel), List.mem_of_getElem? (i := 635) (by decide +kernel)⟩
def lw_privs_1 : List (MethodName × Nat) := [(⟨"EiderClimate", "houseCame", "(LEiderClimate$Shelf;II)Z"⟩, 9), (⟨"EiderClimate$Changes", "forgetOldest", "()V"⟩, 6), (⟨"EiderClimate$Tape", "readLine", "()Z"⟩, 4), (⟨"EiderClimate$Tape", "readJoined", "(II)Z"⟩, 4), (⟨"EiderClimate$Tape", "readOperand", "(I)Z"⟩, 4), (⟨"EiderClimate$Tape", "next", "()I"⟩, 4), (⟨"EiderClimate$Tape", "readNumber", "()V"⟩, 4), (⟨"EiderClimate$Tape", "readToClose", "(I)Z"⟩, 4), (⟨"EiderClimate$Tape", "readAhead", "(II)Z"⟩, 4), (⟨"EiderClimate$Cover", "wear", "()V"⟩, 5), (⟨"EiderClimate$Law", "lookAt", "(LEiderClimate$Cover;I)V"⟩, 8), (⟨"EiderClimate$Law", "valueOfPart", "(I)I"⟩, 8), (⟨"EiderClimate$Thought", "warmByPulls", "(III)Z"⟩, 10), (⟨"EiderClimate$Thought", "weigh", "(I)V"⟩, 10), (⟨"EiderClimate", "refusalOfBytes", "(I)I"⟩, 9), (⟨"EiderClimate$Thought", "firstUnlike", "(LEiderClimate$Shelf;I)I"⟩, 10)]
theorem lw_r1 : ∀ q ∈ lw_privs_1, lw_okq q := List.forall_mem_cons.mpr ⟨lw_p0, List.forall_mem_cons.mpr ⟨lw_p1, List.forall_mem_cons.mpr ⟨lw_p2, List.forall_mem_cons.mpr ⟨lw_p3, List.forall_mem_cons.mpr ⟨lw_p4, List.forall_mem_cons.mpr ⟨lw_p5, List.forall_mem_cons.mpr ⟨lw_p6, List.forall_mem_cons.mpr ⟨lw_p7, List.forall_mem_cons.mpr ⟨lw_p8, List.forall_mem_cons.mpr ⟨lw_p9, List.forall_mem_cons.mpr ⟨lw_p10, List.forall_mem_cons.mpr ⟨lw_p11, List.forall_mem_cons.mpr ⟨lw_p12, List.forall_mem_cons.mpr ⟨lw_p13, List.forall_mem_cons.mpr ⟨lw_p14, List.forall_mem_cons.mpr ⟨lw_p15, fun _ h => absurd h List.not_mem_nil⟩⟩⟩⟩⟩⟩⟩⟩⟩⟩⟩⟩⟩⟩⟩⟩
theorem lw_p16 : lw_okq (⟨"EiderClimate$Ways", "forgetSteps", "()V"⟩, 8) := ⟨⟨by decide +kernel, by decide +kernel⟩, List.mem_of_getElem? (i := 193) (by decide +kernel), List.mem_of_getElem? (i := 664) (by decide +kernel), List.mem_of_getElem? (i := 665) (by decide +kernel)⟩
theorem lw_p17 : lw_okq (⟨"EiderClimate$Ways", "spread", "(I)I"⟩, 8) := ⟨⟨by decide +kernel, by decide +kernel⟩, List.mem_of_getElem? (i := 193) (by decide +kernel), List.mem_of_getElem? (i := 668) (by decide +kernel), List.mem_of_getElem? (i := 669) (by decide +kernel)⟩
theorem lw_p18 : lw_okq (⟨"EiderClimate$Thought", "bestFrom", "(II)I"⟩, 10) := ⟨⟨by decide +kernel, by decide +kernel⟩, List.mem_of_getElem? (i := 150) (by decide +kernel), List.mem_of_getElem? (i := 693) (by decide +kernel), List.mem_of_getElem? (i := 694) (by decide +kernel)⟩
theorem lw_p19 : lw_okq (⟨"EiderClimate$Thought", "draw", "(I)V"⟩, 10) := ⟨⟨by decide +kernel, by decide +kernel⟩, List.mem_of_getElem? (i := 150) (by decide +kernel), List.mem_of_getElem? (i := 706) (by decide +kernel), List.mem_of_getElem? (i := 707) (by decide +kernel)⟩
theorem lw_p20 : lw_okq (⟨"EiderClimate$Stitches", "run", "(IIIII)I"⟩, 4) := ⟨⟨by decide +kernel, by decide +kernel⟩, List.mem_of_getElem? (i := 256) (by decide +kernel), List.mem_of_getElem? (i := 785) (by decide +kernel), List.mem_of_getElem? (i := 786) (by decide +kernel)⟩
theorem lw_p21 : lw_okq (⟨"EiderClimate$Stitches", "worked", "(IIIII)I"⟩, 4) := ⟨⟨by decide +kernel, by decide +kernel⟩, List.mem_of_getElem? (i := 256) (by decide +kernel), List.mem_of_getElem? (i := 793) (by decide +kernel), List.mem_of_getElem? (i := 794) (by decide +kernel)⟩
theorem lw_p22 : lw_okq (⟨"EiderClimate", "refusalOfElement", "(II)I"⟩, 9) := ⟨⟨by decide +kernel, by decide +kernel⟩, List.mem_of_getElem? (i := 16) (by decide +kernel), List.mem_of_getElem? (i := 822) (by decide +kernel), List.mem_of_getElem? (i := 823) (by decide +kernel)⟩
theorem lw_p23 : lw_okq (⟨"EiderClimateModel", "newHouse", "(III)I"⟩, 44) := ⟨⟨by decide +kernel, by decide +kernel⟩, List.mem_of_getElem? (i := 863) (by decide +kernel), List.mem_of_getElem? (i := 1012) (by decide +kernel), List.mem_of_getElem? (i := 1013) (by decide +kernel)⟩
theorem lw_p24 : lw_okq (⟨"EiderClimateModel", "toldAt", "(II)I"⟩, 44) := ⟨⟨by decide +kernel, by decide +kernel⟩, List.mem_of_getElem? (i := 863) (by decide +kernel), List.mem_of_getElem? (i := 1024) (by decide +kernel), List.mem_of_getElem? (i := 1025) (by decide +kernel)⟩
theorem lw_p25 : lw_okq (⟨"EiderClimateModel", "isOf", "(II)Z"⟩, 44) := ⟨⟨by decide +kernel, by decide +kernel⟩, List.mem_of_getElem? (i := 863) (by decide +kernel), List.mem_of_getElem? (i := 1032) (by decide +kernel), List.mem_of_getElem? (i := 1033) (by decide +kernel)⟩
theorem lw_p26 : lw_okq (⟨"EiderClimateModel", "isHouse", "(I)Z"⟩, 44) := ⟨⟨by decide +kernel, by decide +kernel⟩, List.mem_of_getElem? (i := 863) (by decide +kernel), List.mem_of_getElem? (i := 1036) (by decide +kernel), List.mem_of_getElem? (i := 1037) (by decide +kernel)⟩
theorem lw_p27 : lw_okq (⟨"EiderClimateModel", "get", "(II)I"⟩, 44) := ⟨⟨by decide +kernel, by decide +kernel⟩, List.mem_of_getElem? (i := 863) (by decide +kernel), List.mem_of_getElem? (i := 1043) (by decide +kernel), List.mem_of_getElem? (i := 1044) (by decide +kernel)⟩
theorem lw_p28 : lw_okq (⟨"EiderClimateModel", "becomes", "(III)V"⟩, 44) := ⟨⟨by decide +kernel, by decide +kernel⟩, List.mem_of_getElem? (i := 863) (by decide +kernel), List.mem_of_getElem? (i := 1047) (by decide +kernel), List.mem_of_getElem? (i := 1048) (by decide +kernel)⟩
theorem lw_p29 : lw_okq (⟨"EiderClimateModel", "isLine", "()Z"⟩, 44) := ⟨⟨by decide +kernel, by decide +kernel⟩, List.mem_of_getElem? (i := 863) (by decide +kernel), List.mem_of_getElem? (i := 1071) (by decide +kernel), List.mem_of_getElem? (i := 1072) (by decide +kernel)⟩
theorem lw_p30 : lw_okq (⟨"EiderClimateModel", "isE", "()Z"⟩, 44) := ⟨⟨by decide +kernel, by decide +kernel⟩, List.mem_of_getElem? (i := 863) (by decide +kernel), List.mem_of_getElem? (i := 1075) (by decide +kernel), List.mem_of_getElem? (i := 1076) (by decide +kernel)⟩
theorem lw_p31 : lw_okq (⟨"EiderClimateModel", "isA", "()Z"⟩, 44) := ⟨⟨by decide +kernel, by decide +kernel⟩, List.mem_of_getElem? (i := 863) (by decide +kernel), List.mem_of_getElem? (i := 1079) (by decide +kernel), List.mem_of_getElem? (i := 1080) (by decide +kernel)⟩
def lw_privs_2 : List (MethodName × Nat) := [(⟨"EiderClimate$Ways", "forgetSteps", "()V"⟩, 8), (⟨"EiderClimate$Ways", "spread", "(I)I"⟩, 8), (⟨"EiderClimate$Thought", "bestFrom", "(II)I"⟩, 10), (⟨"EiderClimate$Thought", "draw", "(I)V"⟩, 10), (⟨"EiderClimate$Stitches", "run", "(IIIII)I"⟩, 4), (⟨"EiderClimate$Stitches", "worked", "(IIIII)I"⟩, 4), (⟨"EiderClimate", "refusalOfElement", "(II)I"⟩, 9), (⟨"EiderClimateModel", "newHouse", "(III)I"⟩, 44), (⟨"EiderClimateModel", "toldAt", "(II)I"⟩, 44), (⟨"EiderClimateModel", "isOf", "(II)Z"⟩, 44), (⟨"EiderClimateModel", "isHouse", "(I)Z"⟩, 44), (⟨"EiderClimateModel", "get", "(II)I"⟩, 44), (⟨"EiderClimateModel", "becomes", "(III)V"⟩, 44), (⟨"EiderClimateModel", "isLine", "()Z"⟩, 44), (⟨"EiderClimateModel", "isE", "()Z"⟩, 44), (⟨"EiderClimateModel", "isA", "()Z"⟩, 44)]
theorem lw_r2 : ∀ q ∈ lw_privs_2, lw_okq q := List.forall_mem_cons.mpr ⟨lw_p16, List.forall_mem_cons.mpr ⟨lw_p17, List.forall_mem_cons.mpr ⟨lw_p18, List.forall_mem_cons.mpr ⟨lw_p19, List.forall_mem_cons.mpr ⟨lw_p20, List.forall_mem_cons.mpr ⟨lw_p21, List.forall_mem_cons.mpr ⟨lw_p22, List.forall_mem_cons.mpr ⟨lw_p23, List.forall_mem_cons.mpr ⟨lw_p24, List.forall_mem_cons.mpr ⟨lw_p25, List.forall_mem_cons.mpr ⟨lw_p26, List.forall_mem_cons.mpr ⟨lw_p27, List.forall_mem_cons.mpr ⟨lw_p28, List.forall_mem_cons.mpr ⟨lw_p29, List.forall_mem_cons.mpr ⟨lw_p30, List.forall_mem_cons.mpr ⟨lw_p31, fun _ h => absurd h List.not_mem_nil⟩⟩⟩⟩⟩⟩⟩⟩⟩⟩⟩⟩⟩⟩⟩⟩
theorem lw_p32 : lw_okq (⟨"EiderClimateModel", "isB", "()Z"⟩, 44) := ⟨⟨by decide +kernel, by decide +kernel⟩, List.mem_of_getElem? (i := 863) (by decide +kernel), List.mem_of_getElem? (i := 1083) (by decide +kernel), List.mem_of_getElem? (i := 1084) (by decide +kernel)⟩
theorem lw_p33 : lw_okq (⟨"EiderClimateModel", "isS", "()Z"⟩, 44) := ⟨⟨by decide +kernel, by decide +kernel⟩, List.mem_of_getElem? (i := 863) (by decide +kernel), List.mem_of_getElem? (i := 1087) (by decide +kernel), List.mem_of_getElem? (i := 1088) (by decide +kernel)⟩
theorem lw_p34 : lw_okq (⟨"EiderClimateModel", "isP", "()Z"⟩, 44) := ⟨⟨by decide +kernel, by decide +kernel⟩, List.mem_of_getElem? (i := 863) (by decide +kernel), List.mem_of_getElem? (i := 1091) (by decide +kernel), List.mem_of_getElem? (i := 1092) (by decide +kernel)⟩
theorem lw_p35 : lw_okq (⟨"EiderClimateModel", "isO", "()Z"⟩, 44) := ⟨⟨by decide +kernel, by decide +kernel⟩, List.mem_of_getElem? (i := 863) (by decide +kernel), List.mem_of_getElem? (i := 1095) (by decide +kernel), List.mem_of_getElem? (i := 1096) (by decide +kernel)⟩
theorem lw_p36 : lw_okq (⟨"EiderClimateModel", "isDigit", "()Z"⟩, 44) := ⟨⟨by decide +kernel, by decide +kernel⟩, List.mem_of_getElem? (i := 863) (by decide +kernel), List.mem_of_getElem? (i := 1099) (by decide +kernel), List.mem_of_getElem? (i := 1100) (by decide +kernel)⟩
theorem lw_p37 : lw_okq (⟨"EiderClimateModel", "sign", "()I"⟩, 44) := ⟨⟨by decide +kernel, by decide +kernel⟩, List.mem_of_getElem? (i := 863) (by decide +kernel), List.mem_of_getElem? (i := 1103) (by decide +kernel), List.mem_of_getElem? (i := 1104) (by decide +kernel)⟩
theorem lw_p38 : lw_okq (⟨"EiderClimateModel", "codes", "(I)Z"⟩, 44) := ⟨⟨by decide +kernel, by decide +kernel⟩, List.mem_of_getElem? (i := 863) (by decide +kernel), List.mem_of_getElem? (i := 1107) (by decide +kernel), List.mem_of_getElem? (i := 1108) (by decide +kernel)⟩
theorem lw_p39 : lw_okq (⟨"EiderClimateModel", "is", "(I)Z"⟩, 44) := ⟨⟨by decide +kernel, by decide +kernel⟩, List.mem_of_getElem? (i := 863) (by decide +kernel), List.mem_of_getElem? (i := 1114) (by decide +kernel), List.mem_of_getElem? (i := 1115) (by decide +kernel)⟩
theorem lw_p40 : lw_okq (⟨"EiderClimateModel", "keeps", "([I)V"⟩, 44) := ⟨⟨by decide +kernel, by decide +kernel⟩, List.mem_of_getElem? (i := 863) (by decide +kernel), List.mem_of_getElem? (i := 1125) (by decide +kernel), List.mem_of_getElem? (i := 1126) (by decide +kernel)⟩
theorem lw_p41 : lw_okq (⟨"EiderClimateModel", "goesOn", "(I)V"⟩, 44) := ⟨⟨by decide +kernel, by decide +kernel⟩, List.mem_of_getElem? (i := 863) (by decide +kernel), List.mem_of_getElem? (i := 1129) (by decide +kernel), List.mem_of_getElem? (i := 1130) (by decide +kernel)⟩
theorem lw_p42 : lw_okq (⟨"EiderClimateModel", "passes", "()V"⟩, 44) := ⟨⟨by decide +kernel, by decide +kernel⟩, List.mem_of_getElem? (i := 863) (by decide +kernel), List.mem_of_getElem? (i := 1133) (by decide +kernel), List.mem_of_getElem? (i := 1134) (by decide +kernel)⟩
theorem lw_p43 : lw_okq (⟨"EiderClimateModel", "slips", "()V"⟩, 44) := ⟨⟨by decide +kernel, by decide +kernel⟩, List.mem_of_getElem? (i := 863) (by decide +kernel), List.mem_of_getElem? (i := 1137) (by decide +kernel), List.mem_of_getElem? (i := 1138) (by decide +kernel)⟩
theorem lw_p44 : lw_okq (⟨"EiderClimateModel", "moves", "(II)V"⟩, 44) := ⟨⟨by decide +kernel, by decide +kernel⟩, List.mem_of_getElem? (i := 863) (by decide +kernel), List.mem_of_getElem? (i := 1141) (by decide +kernel), List.mem_of_getElem? (i := 1142) (by decide +kernel)⟩
theorem lw_p45 : lw_okq (⟨"EiderClimateModel", "warmth", "(I)I"⟩, 44) := ⟨⟨by decide +kernel, by decide +kernel⟩, List.mem_of_getElem? (i := 863) (by decide +kernel), List.mem_of_getElem? (i := 1145) (by decide +kernel), List.mem_of_getElem? (i := 1146) (by decide +kernel)⟩
theorem lw_p46 : lw_okq (⟨"EiderClimateModel", "byLaw", "(I)I"⟩, 44) := ⟨⟨by decide +kernel, by decide +kernel⟩, List.mem_of_getElem? (i := 863) (by decide +kernel), List.mem_of_getElem? (i := 1149) (by decide +kernel), List.mem_of_getElem? (i := 1150) (by decide +kernel)⟩
theorem lw_p47 : lw_okq (⟨"EiderClimateModel", "near", "(I)I"⟩, 44) := ⟨⟨by decide +kernel, by decide +kernel⟩, List.mem_of_getElem? (i := 863) (by decide +kernel), List.mem_of_getElem? (i := 1153) (by decide +kernel), List.mem_of_getElem? (i := 1154) (by decide +kernel)⟩
def lw_privs_3 : List (MethodName × Nat) := [(⟨"EiderClimateModel", "isB", "()Z"⟩, 44), (⟨"EiderClimateModel", "isS", "()Z"⟩, 44), (⟨"EiderClimateModel", "isP", "()Z"⟩, 44), (⟨"EiderClimateModel", "isO", "()Z"⟩, 44), (⟨"EiderClimateModel", "isDigit", "()Z"⟩, 44), (⟨"EiderClimateModel", "sign", "()I"⟩, 44), (⟨"EiderClimateModel", "codes", "(I)Z"⟩, 44), (⟨"EiderClimateModel", "is", "(I)Z"⟩, 44), (⟨"EiderClimateModel", "keeps", "([I)V"⟩, 44), (⟨"EiderClimateModel", "goesOn", "(I)V"⟩, 44), (⟨"EiderClimateModel", "passes", "()V"⟩, 44), (⟨"EiderClimateModel", "slips", "()V"⟩, 44), (⟨"EiderClimateModel", "moves", "(II)V"⟩, 44), (⟨"EiderClimateModel", "warmth", "(I)I"⟩, 44), (⟨"EiderClimateModel", "byLaw", "(I)I"⟩, 44), (⟨"EiderClimateModel", "near", "(I)I"⟩, 44)]
theorem lw_r3 : ∀ q ∈ lw_privs_3, lw_okq q := List.forall_mem_cons.mpr ⟨lw_p32, List.forall_mem_cons.mpr ⟨lw_p33, List.forall_mem_cons.mpr ⟨lw_p34, List.forall_mem_cons.mpr ⟨lw_p35, List.forall_mem_cons.mpr ⟨lw_p36, List.forall_mem_cons.mpr ⟨lw_p37, List.forall_mem_cons.mpr ⟨lw_p38, List.forall_mem_cons.mpr ⟨lw_p39, List.forall_mem_cons.mpr ⟨lw_p40, List.forall_mem_cons.mpr ⟨lw_p41, List.forall_mem_cons.mpr ⟨lw_p42, List.forall_mem_cons.mpr ⟨lw_p43, List.forall_mem_cons.mpr ⟨lw_p44, List.forall_mem_cons.mpr ⟨lw_p45, List.forall_mem_cons.mpr ⟨lw_p46, List.forall_mem_cons.mpr ⟨lw_p47, fun _ h => absurd h List.not_mem_nil⟩⟩⟩⟩⟩⟩⟩⟩⟩⟩⟩⟩⟩⟩⟩⟩
theorem lw_p48 : lw_okq (⟨"EiderClimateModel", "worked", "(II)I"⟩, 44) := ⟨⟨by decide +kernel, by decide +kernel⟩, List.mem_of_getElem? (i := 863) (by decide +kernel), List.mem_of_getElem? (i := 1160) (by decide +kernel), List.mem_of_getElem? (i := 1161) (by decide +kernel)⟩
theorem lw_p49 : lw_okq (⟨"EiderClimateModel", "again", "([I)V"⟩, 44) := ⟨⟨by decide +kernel, by decide +kernel⟩, List.mem_of_getElem? (i := 863) (by decide +kernel), List.mem_of_getElem? (i := 1169) (by decide +kernel), List.mem_of_getElem? (i := 1170) (by decide +kernel)⟩
theorem lw_p50 : lw_okq (⟨"EiderClimateModel", "coldOnes", "()I"⟩, 44) := ⟨⟨by decide +kernel, by decide +kernel⟩, List.mem_of_getElem? (i := 863) (by decide +kernel), List.mem_of_getElem? (i := 1177) (by decide +kernel), List.mem_of_getElem? (i := 1178) (by decide +kernel)⟩
theorem lw_p51 : lw_okq (⟨"EiderClimateModel", "isCold", "(I)Z"⟩, 44) := ⟨⟨by decide +kernel, by decide +kernel⟩, List.mem_of_getElem? (i := 863) (by decide +kernel), List.mem_of_getElem? (i := 1181) (by decide +kernel), List.mem_of_getElem? (i := 1182) (by decide +kernel)⟩
theorem lw_p52 : lw_okq (⟨"EiderClimateModel", "warmest", "()I"⟩, 44) := ⟨⟨by decide +kernel, by decide +kernel⟩, List.mem_of_getElem? (i := 863) (by decide +kernel), List.mem_of_getElem? (i := 1185) (by decide +kernel), List.mem_of_getElem? (i := 1186) (by decide +kernel)⟩
theorem lw_p53 : lw_okq (⟨"EiderClimateModel", "isEnough", "(III)Z"⟩, 44) := ⟨⟨by decide +kernel, by decide +kernel⟩, List.mem_of_getElem? (i := 863) (by decide +kernel), List.mem_of_getElem? (i := 1201) (by decide +kernel), List.mem_of_getElem? (i := 1202) (by decide +kernel)⟩
theorem lw_p54 : lw_okq (⟨"EiderClimateModel", "pulls", "(I)V"⟩, 44) := ⟨⟨by decide +kernel, by decide +kernel⟩, List.mem_of_getElem? (i := 863) (by decide +kernel), List.mem_of_getElem? (i := 1205) (by decide +kernel), List.mem_of_getElem? (i := 1206) (by decide +kernel)⟩
theorem lw_p55 : lw_okq (⟨"EiderClimateModel", "shakesAt", "(I)V"⟩, 44) := ⟨⟨by decide +kernel, by decide +kernel⟩, List.mem_of_getElem? (i := 863) (by decide +kernel), List.mem_of_getElem? (i := 1216) (by decide +kernel), List.mem_of_getElem? (i := 1217) (by decide +kernel)⟩
theorem lw_p56 : lw_okq (⟨"EiderClimateModel", "stuffsAt", "(III)V"⟩, 44) := ⟨⟨by decide +kernel, by decide +kernel⟩, List.mem_of_getElem? (i := 863) (by decide +kernel), List.mem_of_getElem? (i := 1225) (by decide +kernel), List.mem_of_getElem? (i := 1226) (by decide +kernel)⟩
theorem lw_p57 : lw_okq (⟨"EiderClimateModel", "noFelt", "(I)I"⟩, 44) := ⟨⟨by decide +kernel, by decide +kernel⟩, List.mem_of_getElem? (i := 863) (by decide +kernel), List.mem_of_getElem? (i := 1233) (by decide +kernel), List.mem_of_getElem? (i := 1234) (by decide +kernel)⟩
theorem lw_p58 : lw_okq (⟨"EiderClimateModel", "unlike", "(I)I"⟩, 44) := ⟨⟨by decide +kernel, by decide +kernel⟩, List.mem_of_getElem? (i := 863) (by decide +kernel), List.mem_of_getElem? (i := 1237) (by decide +kernel), List.mem_of_getElem? (i := 1238) (by decide +kernel)⟩
theorem lw_p59 : lw_okq (⟨"EiderClimateModel", "so", "(IIIII)I"⟩, 44) := ⟨⟨by decide +kernel, by decide +kernel⟩, List.mem_of_getElem? (i := 863) (by decide +kernel), List.mem_of_getElem? (i := 1245) (by decide +kernel), List.mem_of_getElem? (i := 1246) (by decide +kernel)⟩
theorem lw_p60 : lw_okq (⟨"EiderClimateModel", "spreads", "(II)V"⟩, 44) := ⟨⟨by decide +kernel, by decide +kernel⟩, List.mem_of_getElem? (i := 863) (by decide +kernel), List.mem_of_getElem? (i := 1253) (by decide +kernel), List.mem_of_getElem? (i := 1254) (by decide +kernel)⟩
theorem lw_p61 : lw_okq (⟨"EiderClimateModel", "turnFrom", "(IIII)I"⟩, 44) := ⟨⟨by decide +kernel, by decide +kernel⟩, List.mem_of_getElem? (i := 863) (by decide +kernel), List.mem_of_getElem? (i := 1266) (by decide +kernel), List.mem_of_getElem? (i := 1267) (by decide +kernel)⟩
theorem lw_p62 : lw_okq (⟨"EiderClimateModel", "warmsBy", "(III)I"⟩, 44) := ⟨⟨by decide +kernel, by decide +kernel⟩, List.mem_of_getElem? (i := 863) (by decide +kernel), List.mem_of_getElem? (i := 1311) (by decide +kernel), List.mem_of_getElem? (i := 1312) (by decide +kernel)⟩
theorem lw_p63 : lw_okq (⟨"EiderClimateModel", "ran", "(I)V"⟩, 44) := ⟨⟨by decide +kernel, by decide +kernel⟩, List.mem_of_getElem? (i := 863) (by decide +kernel), List.mem_of_getElem? (i := 1315) (by decide +kernel), List.mem_of_getElem? (i := 1316) (by decide +kernel)⟩
def lw_privs_4 : List (MethodName × Nat) := [(⟨"EiderClimateModel", "worked", "(II)I"⟩, 44), (⟨"EiderClimateModel", "again", "([I)V"⟩, 44), (⟨"EiderClimateModel", "coldOnes", "()I"⟩, 44), (⟨"EiderClimateModel", "isCold", "(I)Z"⟩, 44), (⟨"EiderClimateModel", "warmest", "()I"⟩, 44), (⟨"EiderClimateModel", "isEnough", "(III)Z"⟩, 44), (⟨"EiderClimateModel", "pulls", "(I)V"⟩, 44), (⟨"EiderClimateModel", "shakesAt", "(I)V"⟩, 44), (⟨"EiderClimateModel", "stuffsAt", "(III)V"⟩, 44), (⟨"EiderClimateModel", "noFelt", "(I)I"⟩, 44), (⟨"EiderClimateModel", "unlike", "(I)I"⟩, 44), (⟨"EiderClimateModel", "so", "(IIIII)I"⟩, 44), (⟨"EiderClimateModel", "spreads", "(II)V"⟩, 44), (⟨"EiderClimateModel", "turnFrom", "(IIII)I"⟩, 44), (⟨"EiderClimateModel", "warmsBy", "(III)I"⟩, 44), (⟨"EiderClimateModel", "ran", "(I)V"⟩, 44)]
theorem lw_r4 : ∀ q ∈ lw_privs_4, lw_okq q := List.forall_mem_cons.mpr ⟨lw_p48, List.forall_mem_cons.mpr ⟨lw_p49, List.forall_mem_cons.mpr ⟨lw_p50, List.forall_mem_cons.mpr ⟨lw_p51, List.forall_mem_cons.mpr ⟨lw_p52, List.forall_mem_cons.mpr ⟨lw_p53, List.forall_mem_cons.mpr ⟨lw_p54, List.forall_mem_cons.mpr ⟨lw_p55, List.forall_mem_cons.mpr ⟨lw_p56, List.forall_mem_cons.mpr ⟨lw_p57, List.forall_mem_cons.mpr ⟨lw_p58, List.forall_mem_cons.mpr ⟨lw_p59, List.forall_mem_cons.mpr ⟨lw_p60, List.forall_mem_cons.mpr ⟨lw_p61, List.forall_mem_cons.mpr ⟨lw_p62, List.forall_mem_cons.mpr ⟨lw_p63, fun _ h => absurd h List.not_mem_nil⟩⟩⟩⟩⟩⟩⟩⟩⟩⟩⟩⟩⟩⟩⟩⟩
theorem lw_p64 : lw_okq (⟨"EiderClimateModel", "slipsBy", "(III)I"⟩, 44) := ⟨⟨by decide +kernel, by decide +kernel⟩, List.mem_of_getElem? (i := 863) (by decide +kernel), List.mem_of_getElem? (i := 1322) (by decide +kernel), List.mem_of_getElem? (i := 1323) (by decide +kernel)⟩
theorem lw_p65 : lw_okq (⟨"EiderClimateModel", "airsBy", "(III)I"⟩, 44) := ⟨⟨by decide +kernel, by decide +kernel⟩, List.mem_of_getElem? (i := 863) (by decide +kernel), List.mem_of_getElem? (i := 1326) (by decide +kernel), List.mem_of_getElem? (i := 1327) (by decide +kernel)⟩
theorem lw_p66 : lw_okq (⟨"EiderClimateModel", "tells", "(III)I"⟩, 44) := ⟨⟨by decide +kernel, by decide +kernel⟩, List.mem_of_getElem? (i := 863) (by decide +kernel), List.mem_of_getElem? (i := 1330) (by decide +kernel), List.mem_of_getElem? (i := 1331) (by decide +kernel)⟩
theorem lw_p67 : lw_okq (⟨"EiderClimateModel", "isRow", "(I)Z"⟩, 44) := ⟨⟨by decide +kernel, by decide +kernel⟩, List.mem_of_getElem? (i := 863) (by decide +kernel), List.mem_of_getElem? (i := 1350) (by decide +kernel), List.mem_of_getElem? (i := 1351) (by decide +kernel)⟩
def lw_privs_5 : List (MethodName × Nat) := [(⟨"EiderClimateModel", "slipsBy", "(III)I"⟩, 44), (⟨"EiderClimateModel", "airsBy", "(III)I"⟩, 44), (⟨"EiderClimateModel", "tells", "(III)I"⟩, 44), (⟨"EiderClimateModel", "isRow", "(I)Z"⟩, 44)]
theorem lw_r5 : ∀ q ∈ lw_privs_5, lw_okq q := List.forall_mem_cons.mpr ⟨lw_p64, List.forall_mem_cons.mpr ⟨lw_p65, List.forall_mem_cons.mpr ⟨lw_p66, List.forall_mem_cons.mpr ⟨lw_p67, fun _ h => absurd h List.not_mem_nil⟩⟩⟩⟩
def lw_privs : List (MethodName × Nat) := lw_privs_1 ++ (lw_privs_2 ++ (lw_privs_3 ++ (lw_privs_4 ++ (lw_privs_5))))
def lw_tbl : List Cond := k2_sels lw_privs ++ tables_1
theorem lw_privs_ok : ∀ q ∈ lw_privs, lw_okq q := by
  show ∀ q ∈ lw_privs_1 ++ (lw_privs_2 ++ (lw_privs_3 ++ (lw_privs_4 ++ (lw_privs_5)))), lw_okq q
  exact List.forall_mem_append.mpr ⟨lw_r1, List.forall_mem_append.mpr ⟨lw_r2, List.forall_mem_append.mpr ⟨lw_r3, List.forall_mem_append.mpr ⟨lw_r4, lw_r5⟩⟩⟩⟩
end
section
/-! printed: names, fields, codes -/
def RX0 : String := "EiderClimate$Changes"
def TX0 : u_T := fun k => match k with
  | 0 => ("EiderClimate$Changes", "number", "[I", true)
  | 1 => ("EiderClimate$Changes", "what", "[I", true)
  | 2 => ("EiderClimate$Changes", "was", "[I", true)
  | 3 => ("EiderClimate$Changes", "became", "[I", true)
  | 4 => ("EiderClimate$Changes", "done", "I", false)
  | _ => ("EiderClimate$Changes", "undone", "I", false)
def tyX0 : Nat → FieldType := fun k => match k with
  | 0 => .array .int
  | 1 => .array .int
  | 2 => .array .int
  | 3 => .array .int
  | 4 => .int
  | _ => .int
theorem nmX0 : ∀ a, a < 6 → ∀ b, b < 6 → a ≠ b → (TX0 a).2.1 ≠ (TX0 b).2.1 := by decide +kernel
theorem tyX0_ok : ∀ k, k < 6 → parseFieldDescriptor (TX0 k).2.2.1 = some (tyX0 k) := by decide +kernel
abbrev cX0_init : ByteArray := prog_2_method_1_code
def yX0_init : MethodName := ⟨RX0, "<init>", "()V"⟩
abbrev cX0_note : ByteArray := prog_2_method_2_code
def yX0_note : MethodName := ⟨RX0, "note", "(IIII)V"⟩
abbrev cX0_forgetOldest : ByteArray := prog_2_method_3_code
def yX0_forgetOldest : MethodName := ⟨RX0, "forgetOldest", "()V"⟩
abbrev cX0_stepBack : ByteArray := prog_2_method_4_code
def yX0_stepBack : MethodName := ⟨RX0, "stepBack", "(LEiderClimate$Shore;)V"⟩
abbrev cX0_stepForth : ByteArray := prog_2_method_5_code
def yX0_stepForth : MethodName := ⟨RX0, "stepForth", "(LEiderClimate$Shore;)V"⟩
def RX1 : String := "EiderClimate$Cover"
def TX1 : u_T := fun k => match k with
  | 0 => ("EiderClimate$Cover", "sort", "[I", true)
  | 1 => ("EiderClimate$Cover", "thick", "[I", true)
  | 2 => ("EiderClimate$Cover", "worn", "[I", true)
  | 3 => ("EiderClimate$Cover", "led", "[I", true)
  | _ => ("EiderClimate$Cover", "monthNow", "I", false)
def tyX1 : Nat → FieldType := fun k => match k with
  | 0 => .array .int
  | 1 => .array .int
  | 2 => .array .int
  | 3 => .array .int
  | _ => .int
theorem nmX1 : ∀ a, a < 5 → ∀ b, b < 5 → a ≠ b → (TX1 a).2.1 ≠ (TX1 b).2.1 := by decide +kernel
theorem tyX1_ok : ∀ k, k < 5 → parseFieldDescriptor (TX1 k).2.2.1 = some (tyX1 k) := by decide +kernel
abbrev cX1_init : ByteArray := prog_3_method_1_code
def yX1_init : MethodName := ⟨RX1, "<init>", "()V"⟩
abbrev cX1_takeFrom : ByteArray := prog_3_method_2_code
def yX1_takeFrom : MethodName := ⟨RX1, "takeFrom", "(LEiderClimate$Cover;)V"⟩
abbrev cX1_numberAt : ByteArray := prog_3_method_3_code
def yX1_numberAt : MethodName := ⟨RX1, "numberAt", "(II)I"⟩
abbrev cX1_setNumberAt : ByteArray := prog_3_method_4_code
def yX1_setNumberAt : MethodName := ⟨RX1, "setNumberAt", "(III)V"⟩
abbrev cX1_setSquare : ByteArray := prog_3_method_5_code
def yX1_setSquare : MethodName := ⟨RX1, "setSquare", "(IIII)V"⟩
abbrev cX1_stuffedSquares : ByteArray := prog_3_method_6_code
def yX1_stuffedSquares : MethodName := ⟨RX1, "stuffedSquares", "()I"⟩
abbrev cX1_beside : ByteArray := prog_3_method_7_code
def yX1_beside : MethodName := ⟨RX1, "beside", "(II)I"⟩
abbrev cX1_isInside : ByteArray := prog_3_method_8_code
def yX1_isInside : MethodName := ⟨RX1, "isInside", "(I)Z"⟩
abbrev cX1_thickBeside : ByteArray := prog_3_method_9_code
def yX1_thickBeside : MethodName := ⟨RX1, "thickBeside", "(I)I"⟩
abbrev cX1_passMonth : ByteArray := prog_3_method_10_code
def yX1_passMonth : MethodName := ⟨RX1, "passMonth", "(I)V"⟩
abbrev cX1_wear : ByteArray := prog_3_method_11_code
def yX1_wear : MethodName := ⟨RX1, "wear", "()V"⟩
abbrev cX1_slideDown : ByteArray := prog_3_method_12_code
def yX1_slideDown : MethodName := ⟨RX1, "slideDown", "([I)V"⟩
abbrev cX1_moveRow : ByteArray := prog_3_method_13_code
def yX1_moveRow : MethodName := ⟨RX1, "moveRow", "(II)V"⟩
abbrev cX1_turn : ByteArray := prog_3_method_14_code
def yX1_turn : MethodName := ⟨RX1, "turn", "([III)V"⟩
abbrev cX1_mixAbout : ByteArray := prog_3_method_15_code
def yX1_mixAbout : MethodName := ⟨RX1, "mixAbout", "(I)V"⟩
abbrev cX1_ninth : ByteArray := prog_3_method_16_code
def yX1_ninth : MethodName := ⟨RX1, "ninth", "(II)I"⟩
def RX2 : String := "EiderClimate$Law"
def TX2 : u_T := fun k => match k with
  | 0 => ("EiderClimate$Law", "signs", "[I", true)
  | 1 => ("EiderClimate$Law", "numbers", "[I", true)
  | 2 => ("EiderClimate$Law", "length", "I", false)
  | 3 => ("EiderClimate$Law", "ends", "[I", true)
  | 4 => ("EiderClimate$Law", "asks", "[Z", true)
  | 5 => ("EiderClimate$Law", "parts", "I", false)
  | 6 => ("EiderClimate$Law", "stack", "[I", true)
  | _ => ("EiderClimate$Law", "named", "[I", true)
def tyX2 : Nat → FieldType := fun k => match k with
  | 0 => .array .int
  | 1 => .array .int
  | 2 => .int
  | 3 => .array .int
  | 4 => .array .boolean
  | 5 => .int
  | 6 => .array .int
  | _ => .array .int
theorem nmX2 : ∀ a, a < 8 → ∀ b, b < 8 → a ≠ b → (TX2 a).2.1 ≠ (TX2 b).2.1 := by decide +kernel
theorem tyX2_ok : ∀ k, k < 8 → parseFieldDescriptor (TX2 k).2.2.1 = some (tyX2 k) := by decide +kernel
abbrev cX2_init : ByteArray := prog_4_method_1_code
def yX2_init : MethodName := ⟨RX2, "<init>", "()V"⟩
abbrev cX2_clear : ByteArray := prog_4_method_2_code
def yX2_clear : MethodName := ⟨RX2, "clear", "()V"⟩
abbrev cX2_addSign : ByteArray := prog_4_method_3_code
def yX2_addSign : MethodName := ⟨RX2, "addSign", "(II)V"⟩
abbrev cX2_endPart : ByteArray := prog_4_method_4_code
def yX2_endPart : MethodName := ⟨RX2, "endPart", "(Z)V"⟩
abbrev cX2_warmth : ByteArray := prog_4_method_5_code
def yX2_warmth : MethodName := ⟨RX2, "warmth", "(LEiderClimate$Cover;I)I"⟩
abbrev cX2_lookAt : ByteArray := prog_4_method_6_code
def yX2_lookAt : MethodName := ⟨RX2, "lookAt", "(LEiderClimate$Cover;I)V"⟩
abbrev cX2_valueOfPart : ByteArray := prog_4_method_7_code
def yX2_valueOfPart : MethodName := ⟨RX2, "valueOfPart", "(I)I"⟩
abbrev cX2_nameOf : ByteArray := prog_4_method_8_code
def yX2_nameOf : MethodName := ⟨RX2, "nameOf", "(I)I"⟩
abbrev cX2_joined : ByteArray := prog_4_method_9_code
def yX2_joined : MethodName := ⟨RX2, "joined", "(III)I"⟩
def RX3 : String := "EiderClimate$Shelf"
def TX3 : u_T := fun k => match k with
  | 0 => ("EiderClimate$Shelf", "elements", "[J", true)
  | 1 => ("EiderClimate$Shelf", "holds", "I", false)
  | 2 => ("EiderClimate$Shelf", "length", "I", false)
  | _ => ("EiderClimate$Shelf", "stitch", "I", false)
def tyX3 : Nat → FieldType := fun k => match k with
  | 0 => .array .long
  | 1 => .int
  | 2 => .int
  | _ => .int
theorem nmX3 : ∀ a, a < 4 → ∀ b, b < 4 → a ≠ b → (TX3 a).2.1 ≠ (TX3 b).2.1 := by decide +kernel
theorem tyX3_ok : ∀ k, k < 4 → parseFieldDescriptor (TX3 k).2.2.1 = some (tyX3 k) := by decide +kernel
abbrev cX3_init : ByteArray := prog_5_method_1_code
def yX3_init : MethodName := ⟨RX3, "<init>", "()V"⟩
abbrev cX3_holdStitch : ByteArray := prog_5_method_2_code
def yX3_holdStitch : MethodName := ⟨RX3, "holdStitch", "(I)V"⟩
abbrev cX3_holdRow : ByteArray := prog_5_method_3_code
def yX3_holdRow : MethodName := ⟨RX3, "holdRow", "(II)V"⟩
abbrev cX3_isRow : ByteArray := prog_5_method_4_code
def yX3_isRow : MethodName := ⟨RX3, "isRow", "()Z"⟩
abbrev cX3_hasPlaces : ByteArray := prog_5_method_5_code
def yX3_hasPlaces : MethodName := ⟨RX3, "hasPlaces", "(II)Z"⟩
abbrev cX3_lowestBits : ByteArray := prog_5_method_6_code
def yX3_lowestBits : MethodName := ⟨RX3, "lowestBits", "(IJ)J"⟩
def RX4 : String := "EiderClimate$Shore"
def TX4 : u_T := fun k => match k with
  | 0 => ("EiderClimate$Shore", "cover", "LEiderClimate$Cover;", true)
  | 1 => ("EiderClimate$Shore", "places", "[I", true)
  | 2 => ("EiderClimate$Shore", "needs", "[I", true)
  | 3 => ("EiderClimate$Shore", "inMonths", "[I", true)
  | 4 => ("EiderClimate$Shore", "housesBuilt", "I", false)
  | 5 => ("EiderClimate$Shore", "slip", "I", false)
  | 6 => ("EiderClimate$Shore", "inForce", "LEiderClimate$Law;", false)
  | _ => ("EiderClimate$Shore", "draft", "LEiderClimate$Law;", false)
def tyX4 : Nat → FieldType := fun k => match k with
  | 0 => .object "EiderClimate$Cover"
  | 1 => .array .int
  | 2 => .array .int
  | 3 => .array .int
  | 4 => .int
  | 5 => .int
  | 6 => .object "EiderClimate$Law"
  | _ => .object "EiderClimate$Law"
theorem nmX4 : ∀ a, a < 8 → ∀ b, b < 8 → a ≠ b → (TX4 a).2.1 ≠ (TX4 b).2.1 := by decide +kernel
theorem tyX4_ok : ∀ k, k < 8 → parseFieldDescriptor (TX4 k).2.2.1 = some (tyX4 k) := by decide +kernel
abbrev cX4_init : ByteArray := prog_6_method_1_code
def yX4_init : MethodName := ⟨RX4, "<init>", "()V"⟩
abbrev cX4_enactDraft : ByteArray := prog_6_method_2_code
def yX4_enactDraft : MethodName := ⟨RX4, "enactDraft", "()V"⟩
abbrev cX4_isHouse : ByteArray := prog_6_method_3_code
def yX4_isHouse : MethodName := ⟨RX4, "isHouse", "(I)Z"⟩
abbrev cX4_addHouse : ByteArray := prog_6_method_4_code
def yX4_addHouse : MethodName := ⟨RX4, "addHouse", "(III)I"⟩
abbrev cX4_hasNumber : ByteArray := prog_6_method_5_code
def yX4_hasNumber : MethodName := ⟨RX4, "hasNumber", "(II)Z"⟩
abbrev cX4_numberOf : ByteArray := prog_6_method_6_code
def yX4_numberOf : MethodName := ⟨RX4, "numberOf", "(II)I"⟩
abbrev cX4_setNumber : ByteArray := prog_6_method_7_code
def yX4_setNumber : MethodName := ⟨RX4, "setNumber", "(III)V"⟩
abbrev cX4_isCold : ByteArray := prog_6_method_8_code
def yX4_isCold : MethodName := ⟨RX4, "isCold", "(LEiderClimate$Cover;I)Z"⟩
abbrev cX4_coldBits : ByteArray := prog_6_method_9_code
def yX4_coldBits : MethodName := ⟨RX4, "coldBits", "(LEiderClimate$Cover;)I"⟩
abbrev cX4_warmestPlace : ByteArray := prog_6_method_10_code
def yX4_warmestPlace : MethodName := ⟨RX4, "warmestPlace", "(LEiderClimate$Cover;)I"⟩
def RX5 : String := "EiderClimate$Stitches"
def TX5 : u_T := fun k => match k with
  | 0 => ("EiderClimate$Stitches", "kinds", "[I", true)
  | 1 => ("EiderClimate$Stitches", "kept", "I", false)
  | 2 => ("EiderClimate$Stitches", "traced", "[I", true)
  | _ => ("EiderClimate$Stitches", "ran", "I", false)
def tyX5 : Nat → FieldType := fun k => match k with
  | 0 => .array .int
  | 1 => .int
  | 2 => .array .int
  | _ => .int
theorem nmX5 : ∀ a, a < 4 → ∀ b, b < 4 → a ≠ b → (TX5 a).2.1 ≠ (TX5 b).2.1 := by decide +kernel
theorem tyX5_ok : ∀ k, k < 4 → parseFieldDescriptor (TX5 k).2.2.1 = some (tyX5 k) := by decide +kernel
abbrev cX5_init : ByteArray := prog_7_method_1_code
def yX5_init : MethodName := ⟨RX5, "<init>", "()V"⟩
abbrev cX5_isKind : ByteArray := prog_7_method_2_code
def yX5_isKind : MethodName := ⟨RX5, "isKind", "(I)Z"⟩
abbrev cX5_isStitch : ByteArray := prog_7_method_3_code
def yX5_isStitch : MethodName := ⟨RX5, "isStitch", "(I)Z"⟩
abbrev cX5_add : ByteArray := prog_7_method_4_code
def yX5_add : MethodName := ⟨RX5, "add", "(I)I"⟩
abbrev cX5_isOfKind : ByteArray := prog_7_method_5_code
def yX5_isOfKind : MethodName := ⟨RX5, "isOfKind", "(II)Z"⟩
abbrev cX5_begin : ByteArray := prog_7_method_6_code
def yX5_begin : MethodName := ⟨RX5, "begin", "(III)I"⟩
abbrev cX5_run : ByteArray := prog_7_method_7_code
def yX5_run : MethodName := ⟨RX5, "run", "(IIIII)I"⟩
abbrev cX5_worked : ByteArray := prog_7_method_8_code
def yX5_worked : MethodName := ⟨RX5, "worked", "(IIIII)I"⟩
def RX6 : String := "EiderClimate$Tape"
def TX6 : u_T := fun k => match k with
  | 0 => ("EiderClimate$Tape", "bytes", "[I", true)
  | 1 => ("EiderClimate$Tape", "length", "I", false)
  | 2 => ("EiderClimate$Tape", "at", "I", false)
  | _ => ("EiderClimate$Tape", "draft", "LEiderClimate$Law;", false)
def tyX6 : Nat → FieldType := fun k => match k with
  | 0 => .array .int
  | 1 => .int
  | 2 => .int
  | _ => .object "EiderClimate$Law"
theorem nmX6 : ∀ a, a < 4 → ∀ b, b < 4 → a ≠ b → (TX6 a).2.1 ≠ (TX6 b).2.1 := by decide +kernel
theorem tyX6_ok : ∀ k, k < 4 → parseFieldDescriptor (TX6 k).2.2.1 = some (tyX6 k) := by decide +kernel
abbrev cX6_init : ByteArray := prog_8_method_1_code
def yX6_init : MethodName := ⟨RX6, "<init>", "()V"⟩
abbrev cX6_take : ByteArray := prog_8_method_2_code
def yX6_take : MethodName := ⟨RX6, "take", "(I)Z"⟩
abbrev cX6_readInto : ByteArray := prog_8_method_3_code
def yX6_readInto : MethodName := ⟨RX6, "readInto", "(LEiderClimate$Law;)I"⟩
abbrev cX6_readLine : ByteArray := prog_8_method_4_code
def yX6_readLine : MethodName := ⟨RX6, "readLine", "()Z"⟩
abbrev cX6_readJoined : ByteArray := prog_8_method_5_code
def yX6_readJoined : MethodName := ⟨RX6, "readJoined", "(II)Z"⟩
abbrev cX6_readOperand : ByteArray := prog_8_method_6_code
def yX6_readOperand : MethodName := ⟨RX6, "readOperand", "(I)Z"⟩
abbrev cX6_readToClose : ByteArray := prog_8_method_7_code
def yX6_readToClose : MethodName := ⟨RX6, "readToClose", "(I)Z"⟩
abbrev cX6_readAhead : ByteArray := prog_8_method_8_code
def yX6_readAhead : MethodName := ⟨RX6, "readAhead", "(II)Z"⟩
abbrev cX6_readNumber : ByteArray := prog_8_method_9_code
def yX6_readNumber : MethodName := ⟨RX6, "readNumber", "()V"⟩
abbrev cX6_next : ByteArray := prog_8_method_10_code
def yX6_next : MethodName := ⟨RX6, "next", "()I"⟩
abbrev cX6_isDigit : ByteArray := prog_8_method_11_code
def yX6_isDigit : MethodName := ⟨RX6, "isDigit", "(I)Z"⟩
abbrev cX6_rankOf : ByteArray := prog_8_method_12_code
def yX6_rankOf : MethodName := ⟨RX6, "rankOf", "(I)I"⟩
def RX7 : String := "EiderClimate$Thought"
def TX7 : u_T := fun k => match k with
  | 0 => ("EiderClimate$Thought", "shore", "LEiderClimate$Shore;", true)
  | 1 => ("EiderClimate$Thought", "ahead", "LEiderClimate$Cover;", true)
  | 2 => ("EiderClimate$Thought", "chosen", "[I", true)
  | 3 => ("EiderClimate$Thought", "bestAnswer", "I", false)
  | 4 => ("EiderClimate$Thought", "fewestCold", "I", false)
  | 5 => ("EiderClimate$Thought", "ownHouse", "I", false)
  | 6 => ("EiderClimate$Thought", "otherHouse", "I", false)
  | 7 => ("EiderClimate$Thought", "ownRow", "I", false)
  | 8 => ("EiderClimate$Thought", "otherRow", "I", false)
  | _ => ("EiderClimate$Thought", "firstDeed", "I", false)
def tyX7 : Nat → FieldType := fun k => match k with
  | 0 => .object "EiderClimate$Shore"
  | 1 => .object "EiderClimate$Cover"
  | 2 => .array .int
  | 3 => .int
  | 4 => .int
  | 5 => .int
  | 6 => .int
  | 7 => .int
  | 8 => .int
  | _ => .int
theorem nmX7 : ∀ a, a < 10 → ∀ b, b < 10 → a ≠ b → (TX7 a).2.1 ≠ (TX7 b).2.1 := by decide +kernel
theorem tyX7_ok : ∀ k, k < 10 → parseFieldDescriptor (TX7 k).2.2.1 = some (tyX7 k) := by decide +kernel
abbrev cX7_init : ByteArray := prog_9_method_1_code
def yX7_init : MethodName := ⟨RX7, "<init>", "(LEiderClimate$Shore;)V"⟩
abbrev cX7_behind : ByteArray := prog_9_method_2_code
def yX7_behind : MethodName := ⟨RX7, "behind", "(I)LEiderClimate$Cover;"⟩
abbrev cX7_firstCold : ByteArray := prog_9_method_3_code
def yX7_firstCold : MethodName := ⟨RX7, "firstCold", "(I)I"⟩
abbrev cX7_timesCold : ByteArray := prog_9_method_4_code
def yX7_timesCold : MethodName := ⟨RX7, "timesCold", "(II)I"⟩
abbrev cX7_fewestPulls : ByteArray := prog_9_method_5_code
def yX7_fewestPulls : MethodName := ⟨RX7, "fewestPulls", "(I)I"⟩
abbrev cX7_warmByPulls : ByteArray := prog_9_method_6_code
def yX7_warmByPulls : MethodName := ⟨RX7, "warmByPulls", "(III)Z"⟩
abbrev cX7_tryShakes : ByteArray := prog_9_method_7_code
def yX7_tryShakes : MethodName := ⟨RX7, "tryShakes", "()V"⟩
abbrev cX7_tryStuffings : ByteArray := prog_9_method_8_code
def yX7_tryStuffings : MethodName := ⟨RX7, "tryStuffings", "(I)V"⟩
abbrev cX7_weigh : ByteArray := prog_9_method_9_code
def yX7_weigh : MethodName := ⟨RX7, "weigh", "(I)V"⟩
abbrev cX7_firstWrong : ByteArray := prog_9_method_10_code
def yX7_firstWrong : MethodName := ⟨RX7, "firstWrong", "(LEiderClimate$Shelf;I)I"⟩
abbrev cX7_firstUnlike : ByteArray := prog_9_method_11_code
def yX7_firstUnlike : MethodName := ⟨RX7, "firstUnlike", "(LEiderClimate$Shelf;I)I"⟩
abbrev cX7_fitting : ByteArray := prog_9_method_12_code
def yX7_fitting : MethodName := ⟨RX7, "fitting", "(LEiderClimate$Shelf;III)I"⟩
abbrev cX7_pullByTurns : ByteArray := prog_9_method_13_code
def yX7_pullByTurns : MethodName := ⟨RX7, "pullByTurns", "(III)I"⟩
abbrev cX7_bestFrom : ByteArray := prog_9_method_14_code
def yX7_bestFrom : MethodName := ⟨RX7, "bestFrom", "(II)I"⟩
abbrev cX7_coldByDraws : ByteArray := prog_9_method_15_code
def yX7_coldByDraws : MethodName := ⟨RX7, "coldByDraws", "(IIII)I"⟩
abbrev cX7_draw : ByteArray := prog_9_method_16_code
def yX7_draw : MethodName := ⟨RX7, "draw", "(I)V"⟩
def RX8 : String := "EiderClimate$Ways"
def TX8 : u_T := fun k => match k with
  | 0 => ("EiderClimate$Ways", "warm", "[I", true)
  | 1 => ("EiderClimate$Ways", "group", "[I", true)
  | 2 => ("EiderClimate$Ways", "steps", "[I", true)
  | 3 => ("EiderClimate$Ways", "reached", "[I", true)
  | 4 => ("EiderClimate$Ways", "warmest", "I", false)
  | 5 => ("EiderClimate$Ways", "fewestSteps", "I", false)
  | 6 => ("EiderClimate$Ways", "patchesFound", "I", false)
  | _ => ("EiderClimate$Ways", "greatestPatch", "I", false)
def tyX8 : Nat → FieldType := fun k => match k with
  | 0 => .array .int
  | 1 => .array .int
  | 2 => .array .int
  | 3 => .array .int
  | 4 => .int
  | 5 => .int
  | 6 => .int
  | _ => .int
theorem nmX8 : ∀ a, a < 8 → ∀ b, b < 8 → a ≠ b → (TX8 a).2.1 ≠ (TX8 b).2.1 := by decide +kernel
theorem tyX8_ok : ∀ k, k < 8 → parseFieldDescriptor (TX8 k).2.2.1 = some (tyX8 k) := by decide +kernel
abbrev cX8_init : ByteArray := prog_10_method_1_code
def yX8_init : MethodName := ⟨RX8, "<init>", "()V"⟩
abbrev cX8_findWay : ByteArray := prog_10_method_2_code
def yX8_findWay : MethodName := ⟨RX8, "findWay", "(II)V"⟩
abbrev cX8_findPatches : ByteArray := prog_10_method_3_code
def yX8_findPatches : MethodName := ⟨RX8, "findPatches", "(LEiderClimate$Cover;)V"⟩
abbrev cX8_forgetSteps : ByteArray := prog_10_method_4_code
def yX8_forgetSteps : MethodName := ⟨RX8, "forgetSteps", "()V"⟩
abbrev cX8_spread : ByteArray := prog_10_method_5_code
def yX8_spread : MethodName := ⟨RX8, "spread", "(I)I"⟩
def RX9 : String := "EiderClimate"
def TX9 : u_T := fun k => match k with
  | 0 => ("EiderClimate", "shore", "LEiderClimate$Shore;", true)
  | 1 => ("EiderClimate", "tape", "LEiderClimate$Tape;", true)
  | 2 => ("EiderClimate", "thought", "LEiderClimate$Thought;", true)
  | 3 => ("EiderClimate", "ways", "LEiderClimate$Ways;", true)
  | 4 => ("EiderClimate", "changes", "LEiderClimate$Changes;", true)
  | 5 => ("EiderClimate", "stitches", "LEiderClimate$Stitches;", true)
  | 6 => ("EiderClimate", "shelves", "[LEiderClimate$Shelf;", true)
  | 7 => ("EiderClimate", "imageKept", "LEiderClimate$Cover;", true)
  | _ => ("EiderClimate", "hasImage", "Z", false)
def tyX9 : Nat → FieldType := fun k => match k with
  | 0 => .object "EiderClimate$Shore"
  | 1 => .object "EiderClimate$Tape"
  | 2 => .object "EiderClimate$Thought"
  | 3 => .object "EiderClimate$Ways"
  | 4 => .object "EiderClimate$Changes"
  | 5 => .object "EiderClimate$Stitches"
  | 6 => .array (.object "EiderClimate$Shelf")
  | 7 => .object "EiderClimate$Cover"
  | _ => .boolean
theorem nmX9 : ∀ a, a < 9 → ∀ b, b < 9 → a ≠ b → (TX9 a).2.1 ≠ (TX9 b).2.1 := by decide +kernel
theorem tyX9_ok : ∀ k, k < 9 → parseFieldDescriptor (TX9 k).2.2.1 = some (tyX9 k) := by decide +kernel
abbrev cX9_init : ByteArray := prog_1_method_1_code
def yX9_init : MethodName := ⟨RX9, "<init>", "()V"⟩
abbrev cX9_house : ByteArray := prog_1_method_2_code
def yX9_house : MethodName := ⟨RX9, "house", "(II)I"⟩
abbrev cX9_houses : ByteArray := prog_1_method_3_code
def yX9_houses : MethodName := ⟨RX9, "houses", "(III)I"⟩
abbrev cX9_mend : ByteArray := prog_1_method_4_code
def yX9_mend : MethodName := ⟨RX9, "mend", "(III)I"⟩
abbrev cX9_of : ByteArray := prog_1_method_5_code
def yX9_of : MethodName := ⟨RX9, "of", "(II)I"⟩
abbrev cX9_feed : ByteArray := prog_1_method_6_code
def yX9_feed : MethodName := ⟨RX9, "feed", "(I)I"⟩
abbrev cX9_law : ByteArray := prog_1_method_7_code
def yX9_law : MethodName := ⟨RX9, "law", "()I"⟩
abbrev cX9_later : ByteArray := prog_1_method_8_code
def yX9_later : MethodName := ⟨RX9, "later", "(III)I"⟩
abbrev cX9_cold : ByteArray := prog_1_method_9_code
def yX9_cold : MethodName := ⟨RX9, "cold", "(II)I"⟩
abbrev cX9_first : ByteArray := prog_1_method_10_code
def yX9_first : MethodName := ⟨RX9, "first", "(I)I"⟩
abbrev cX9_often : ByteArray := prog_1_method_11_code
def yX9_often : MethodName := ⟨RX9, "often", "(II)I"⟩
abbrev cX9_pulls : ByteArray := prog_1_method_12_code
def yX9_pulls : MethodName := ⟨RX9, "pulls", "(II)I"⟩
abbrev cX9_shakes : ByteArray := prog_1_method_13_code
def yX9_shakes : MethodName := ⟨RX9, "shakes", "(I)I"⟩
abbrev cX9_stuffs : ByteArray := prog_1_method_14_code
def yX9_stuffs : MethodName := ⟨RX9, "stuffs", "(II)I"⟩
abbrev cX9_judge : ByteArray := prog_1_method_15_code
def yX9_judge : MethodName := ⟨RX9, "judge", "(I)I"⟩
abbrev cX9_felt : ByteArray := prog_1_method_16_code
def yX9_felt : MethodName := ⟨RX9, "felt", "(III)I"⟩
abbrev cX9_walk : ByteArray := prog_1_method_17_code
def yX9_walk : MethodName := ⟨RX9, "walk", "(II)I"⟩
abbrev cX9_patches : ByteArray := prog_1_method_18_code
def yX9_patches : MethodName := ⟨RX9, "patches", "(I)I"⟩
abbrev cX9_byTurns : ByteArray := prog_1_method_19_code
def yX9_byTurns : MethodName := ⟨RX9, "byTurns", "(IIII)I"⟩
abbrev cX9_drawn : ByteArray := prog_1_method_20_code
def yX9_drawn : MethodName := ⟨RX9, "drawn", "(III)I"⟩
abbrev cX9_month : ByteArray := prog_1_method_21_code
def yX9_month : MethodName := ⟨RX9, "month", "()I"⟩
abbrev cX9_pull : ByteArray := prog_1_method_22_code
def yX9_pull : MethodName := ⟨RX9, "pull", "(I)I"⟩
abbrev cX9_shake : ByteArray := prog_1_method_23_code
def yX9_shake : MethodName := ⟨RX9, "shake", "(I)I"⟩
abbrev cX9_stuff : ByteArray := prog_1_method_24_code
def yX9_stuff : MethodName := ⟨RX9, "stuff", "(II)I"⟩
abbrev cX9_led : ByteArray := prog_1_method_25_code
def yX9_led : MethodName := ⟨RX9, "led", "(I)I"⟩
abbrev cX9_image : ByteArray := prog_1_method_26_code
def yX9_image : MethodName := ⟨RX9, "image", "()I"⟩
abbrev cX9_back : ByteArray := prog_1_method_27_code
def yX9_back : MethodName := ⟨RX9, "back", "()I"⟩
abbrev cX9_undo : ByteArray := prog_1_method_28_code
def yX9_undo : MethodName := ⟨RX9, "undo", "()I"⟩
abbrev cX9_redo : ByteArray := prog_1_method_29_code
def yX9_redo : MethodName := ⟨RX9, "redo", "()I"⟩
abbrev cX9_body : ByteArray := prog_1_method_30_code
def yX9_body : MethodName := ⟨RX9, "body", "(I)I"⟩
abbrev cX9_act : ByteArray := prog_1_method_31_code
def yX9_act : MethodName := ⟨RX9, "act", "(III)I"⟩
abbrev cX9_trace : ByteArray := prog_1_method_32_code
def yX9_trace : MethodName := ⟨RX9, "trace", "(I)I"⟩
abbrev cX9_keep : ByteArray := prog_1_method_33_code
def yX9_keep : MethodName := ⟨RX9, "keep", "(II)I"⟩
abbrev cX9_row : ByteArray := prog_1_method_34_code
def yX9_row : MethodName := ⟨RX9, "row", "(III)I"⟩
abbrev cX9_put : ByteArray := prog_1_method_35_code
def yX9_put : MethodName := ⟨RX9, "put", "(IIJ)I"⟩
abbrev cX9_element : ByteArray := prog_1_method_36_code
def yX9_element : MethodName := ⟨RX9, "element", "(II)J"⟩
abbrev cX9_shift : ByteArray := prog_1_method_37_code
def yX9_shift : MethodName := ⟨RX9, "shift", "(IIIII)I"⟩
abbrev cX9_taken : ByteArray := prog_1_method_38_code
def yX9_taken : MethodName := ⟨RX9, "taken", "(II)I"⟩
abbrev cX9_count : ByteArray := prog_1_method_39_code
def yX9_count : MethodName := ⟨RX9, "count", "(I)I"⟩
abbrev cX9_within : ByteArray := prog_1_method_40_code
def yX9_within : MethodName := ⟨RX9, "within", "(II)Z"⟩
abbrev cX9_isSquare : ByteArray := prog_1_method_41_code
def yX9_isSquare : MethodName := ⟨RX9, "isSquare", "(I)Z"⟩
abbrev cX9_isShelf : ByteArray := prog_1_method_42_code
def yX9_isShelf : MethodName := ⟨RX9, "isShelf", "(I)Z"⟩
abbrev cX9_houseCame : ByteArray := prog_1_method_43_code
def yX9_houseCame : MethodName := ⟨RX9, "houseCame", "(LEiderClimate$Shelf;II)Z"⟩
abbrev cX9_refusalOfBytes : ByteArray := prog_1_method_44_code
def yX9_refusalOfBytes : MethodName := ⟨RX9, "refusalOfBytes", "(I)I"⟩
abbrev cX9_refusalOfElement : ByteArray := prog_1_method_45_code
def yX9_refusalOfElement : MethodName := ⟨RX9, "refusalOfElement", "(II)I"⟩
def RX10 : String := "EiderClimateModel"
def TX10 : u_T := fun k => match k with
  | 0 => ("EiderClimateModel", "sort", "[I", true)
  | 1 => ("EiderClimateModel", "thick", "[I", true)
  | 2 => ("EiderClimateModel", "worn", "[I", true)
  | 3 => ("EiderClimateModel", "houses", "I", false)
  | 4 => ("EiderClimateModel", "ways", "[I", true)
  | 5 => ("EiderClimateModel", "other", "[I", true)
  | 6 => ("EiderClimateModel", "passed", "I", false)
  | 7 => ("EiderClimateModel", "taped", "I", false)
  | 8 => ("EiderClimateModel", "tape", "[I", true)
  | 9 => ("EiderClimateModel", "isTold", "Z", false)
  | 10 => ("EiderClimateModel", "lines", "I", false)
  | 11 => ("EiderClimateModel", "asks", "[I", true)
  | 12 => ("EiderClimateModel", "says", "[I", true)
  | 13 => ("EiderClimateModel", "ends", "[I", true)
  | 14 => ("EiderClimateModel", "code", "[I", true)
  | 15 => ("EiderClimateModel", "at", "I", false)
  | 16 => ("EiderClimateModel", "open", "I", false)
  | 17 => ("EiderClimateModel", "coded", "I", false)
  | 18 => ("EiderClimateModel", "newLines", "I", false)
  | 19 => ("EiderClimateModel", "newAsks", "[I", true)
  | 20 => ("EiderClimateModel", "newSays", "[I", true)
  | 21 => ("EiderClimateModel", "newEnds", "[I", true)
  | 22 => ("EiderClimateModel", "newCode", "[I", true)
  | 23 => ("EiderClimateModel", "stack", "[I", true)
  | 24 => ("EiderClimateModel", "names", "[I", true)
  | 25 => ("EiderClimateModel", "led", "[I", true)
  | 26 => ("EiderClimateModel", "imaged", "Z", false)
  | 27 => ("EiderClimateModel", "old", "[I", true)
  | 28 => ("EiderClimateModel", "oldLed", "[I", true)
  | 29 => ("EiderClimateModel", "changes", "I", false)
  | 30 => ("EiderClimateModel", "done", "I", false)
  | 31 => ("EiderClimateModel", "changed", "[I", true)
  | 32 => ("EiderClimateModel", "bodies", "I", false)
  | 33 => ("EiderClimateModel", "bodyKind", "[I", true)
  | 34 => ("EiderClimateModel", "traced", "I", false)
  | 35 => ("EiderClimateModel", "traces", "[I", true)
  | 36 => ("EiderClimateModel", "holding", "[I", true)
  | 37 => ("EiderClimateModel", "rowLength", "[I", true)
  | 38 => ("EiderClimateModel", "rowOf", "[J", true)
  | 39 => ("EiderClimateModel", "was", "[I", true)
  | 40 => ("EiderClimateModel", "begun", "[I", true)
  | 41 => ("EiderClimateModel", "given", "[I", true)
  | 42 => ("EiderClimateModel", "far", "[I", true)
  | _ => ("EiderClimateModel", "patch", "[I", true)
def tyX10 : Nat → FieldType := fun k => match k with
  | 0 => .array .int
  | 1 => .array .int
  | 2 => .array .int
  | 3 => .int
  | 4 => .array .int
  | 5 => .array .int
  | 6 => .int
  | 7 => .int
  | 8 => .array .int
  | 9 => .boolean
  | 10 => .int
  | 11 => .array .int
  | 12 => .array .int
  | 13 => .array .int
  | 14 => .array .int
  | 15 => .int
  | 16 => .int
  | 17 => .int
  | 18 => .int
  | 19 => .array .int
  | 20 => .array .int
  | 21 => .array .int
  | 22 => .array .int
  | 23 => .array .int
  | 24 => .array .int
  | 25 => .array .int
  | 26 => .boolean
  | 27 => .array .int
  | 28 => .array .int
  | 29 => .int
  | 30 => .int
  | 31 => .array .int
  | 32 => .int
  | 33 => .array .int
  | 34 => .int
  | 35 => .array .int
  | 36 => .array .int
  | 37 => .array .int
  | 38 => .array .long
  | 39 => .array .int
  | 40 => .array .int
  | 41 => .array .int
  | 42 => .array .int
  | _ => .array .int
theorem nmX10 : ∀ a, a < 44 → ∀ b, b < 44 → a ≠ b → (TX10 a).2.1 ≠ (TX10 b).2.1 := by decide +kernel
theorem tyX10_ok : ∀ k, k < 44 → parseFieldDescriptor (TX10 k).2.2.1 = some (tyX10 k) := by decide +kernel
abbrev cX10_init : ByteArray := prog_12_method_1_code
def yX10_init : MethodName := ⟨RX10, "<init>", "()V"⟩
abbrev cX10_within : ByteArray := prog_12_method_2_code
def yX10_within : MethodName := ⟨RX10, "within", "(III)Z"⟩
abbrev cX10_isPlace : ByteArray := prog_12_method_3_code
def yX10_isPlace : MethodName := ⟨RX10, "isPlace", "(I)Z"⟩
abbrev cX10_isHouse : ByteArray := prog_12_method_4_code
def yX10_isHouse : MethodName := ⟨RX10, "isHouse", "(I)Z"⟩
abbrev cX10_isTime : ByteArray := prog_12_method_5_code
def yX10_isTime : MethodName := ⟨RX10, "isTime", "(I)Z"⟩
abbrev cX10_isShelf : ByteArray := prog_12_method_6_code
def yX10_isShelf : MethodName := ⟨RX10, "isShelf", "(I)Z"⟩
abbrev cX10_newHouse : ByteArray := prog_12_method_7_code
def yX10_newHouse : MethodName := ⟨RX10, "newHouse", "(III)I"⟩
abbrev cX10_house : ByteArray := prog_12_method_8_code
def yX10_house : MethodName := ⟨RX10, "house", "(II)I"⟩
abbrev cX10_houses : ByteArray := prog_12_method_9_code
def yX10_houses : MethodName := ⟨RX10, "houses", "(III)I"⟩
abbrev cX10_toldAt : ByteArray := prog_12_method_10_code
def yX10_toldAt : MethodName := ⟨RX10, "toldAt", "(II)I"⟩
abbrev cX10_isOf : ByteArray := prog_12_method_11_code
def yX10_isOf : MethodName := ⟨RX10, "isOf", "(II)Z"⟩
abbrev cX10_isFit : ByteArray := prog_12_method_12_code
def yX10_isFit : MethodName := ⟨RX10, "isFit", "(II)Z"⟩
abbrev cX10_get : ByteArray := prog_12_method_13_code
def yX10_get : MethodName := ⟨RX10, "get", "(II)I"⟩
abbrev cX10_becomes : ByteArray := prog_12_method_14_code
def yX10_becomes : MethodName := ⟨RX10, "becomes", "(III)V"⟩
abbrev cX10_mend : ByteArray := prog_12_method_15_code
def yX10_mend : MethodName := ⟨RX10, "mend", "(III)I"⟩
abbrev cX10_of : ByteArray := prog_12_method_16_code
def yX10_of : MethodName := ⟨RX10, "of", "(II)I"⟩
abbrev cX10_undo : ByteArray := prog_12_method_17_code
def yX10_undo : MethodName := ⟨RX10, "undo", "()I"⟩
abbrev cX10_redo : ByteArray := prog_12_method_18_code
def yX10_redo : MethodName := ⟨RX10, "redo", "()I"⟩
abbrev cX10_feed : ByteArray := prog_12_method_19_code
def yX10_feed : MethodName := ⟨RX10, "feed", "(I)I"⟩
abbrev cX10_sign : ByteArray := prog_12_method_20_code
def yX10_sign : MethodName := ⟨RX10, "sign", "()I"⟩
abbrev cX10_is : ByteArray := prog_12_method_21_code
def yX10_is : MethodName := ⟨RX10, "is", "(I)Z"⟩
abbrev cX10_codes : ByteArray := prog_12_method_22_code
def yX10_codes : MethodName := ⟨RX10, "codes", "(I)Z"⟩
abbrev cX10_isDigit : ByteArray := prog_12_method_23_code
def yX10_isDigit : MethodName := ⟨RX10, "isDigit", "()Z"⟩
abbrev cX10_nameOf : ByteArray := prog_12_method_24_code
def yX10_nameOf : MethodName := ⟨RX10, "nameOf", "(I)I"⟩
abbrev cX10_isO : ByteArray := prog_12_method_25_code
def yX10_isO : MethodName := ⟨RX10, "isO", "()Z"⟩
abbrev cX10_isP : ByteArray := prog_12_method_26_code
def yX10_isP : MethodName := ⟨RX10, "isP", "()Z"⟩
abbrev cX10_isS : ByteArray := prog_12_method_27_code
def yX10_isS : MethodName := ⟨RX10, "isS", "()Z"⟩
abbrev cX10_isB : ByteArray := prog_12_method_28_code
def yX10_isB : MethodName := ⟨RX10, "isB", "()Z"⟩
abbrev cX10_isA : ByteArray := prog_12_method_29_code
def yX10_isA : MethodName := ⟨RX10, "isA", "()Z"⟩
abbrev cX10_isE : ByteArray := prog_12_method_30_code
def yX10_isE : MethodName := ⟨RX10, "isE", "()Z"⟩
abbrev cX10_isLine : ByteArray := prog_12_method_31_code
def yX10_isLine : MethodName := ⟨RX10, "isLine", "()Z"⟩
abbrev cX10_law : ByteArray := prog_12_method_32_code
def yX10_law : MethodName := ⟨RX10, "law", "()I"⟩
abbrev cX10_both : ByteArray := prog_12_method_33_code
def yX10_both : MethodName := ⟨RX10, "both", "(III)I"⟩
abbrev cX10_worked : ByteArray := prog_12_method_34_code
def yX10_worked : MethodName := ⟨RX10, "worked", "(II)I"⟩
abbrev cX10_beside : ByteArray := prog_12_method_35_code
def yX10_beside : MethodName := ⟨RX10, "beside", "(II)I"⟩
abbrev cX10_near : ByteArray := prog_12_method_36_code
def yX10_near : MethodName := ⟨RX10, "near", "(I)I"⟩
abbrev cX10_byLaw : ByteArray := prog_12_method_37_code
def yX10_byLaw : MethodName := ⟨RX10, "byLaw", "(I)I"⟩
abbrev cX10_warmth : ByteArray := prog_12_method_38_code
def yX10_warmth : MethodName := ⟨RX10, "warmth", "(I)I"⟩
abbrev cX10_isCold : ByteArray := prog_12_method_39_code
def yX10_isCold : MethodName := ⟨RX10, "isCold", "(I)Z"⟩
abbrev cX10_coldOnes : ByteArray := prog_12_method_40_code
def yX10_coldOnes : MethodName := ⟨RX10, "coldOnes", "()I"⟩
abbrev cX10_slips : ByteArray := prog_12_method_41_code
def yX10_slips : MethodName := ⟨RX10, "slips", "()V"⟩
abbrev cX10_moves : ByteArray := prog_12_method_42_code
def yX10_moves : MethodName := ⟨RX10, "moves", "(II)V"⟩
abbrev cX10_passes : ByteArray := prog_12_method_43_code
def yX10_passes : MethodName := ⟨RX10, "passes", "()V"⟩
abbrev cX10_pulls : ByteArray := prog_12_method_44_code
def yX10_pulls : MethodName := ⟨RX10, "pulls", "(I)V"⟩
abbrev cX10_isInner : ByteArray := prog_12_method_45_code
def yX10_isInner : MethodName := ⟨RX10, "isInner", "(I)Z"⟩
abbrev cX10_shakesAt : ByteArray := prog_12_method_46_code
def yX10_shakesAt : MethodName := ⟨RX10, "shakesAt", "(I)V"⟩
abbrev cX10_keeps : ByteArray := prog_12_method_47_code
def yX10_keeps : MethodName := ⟨RX10, "keeps", "([I)V"⟩
abbrev cX10_again : ByteArray := prog_12_method_48_code
def yX10_again : MethodName := ⟨RX10, "again", "([I)V"⟩
abbrev cX10_goesOn : ByteArray := prog_12_method_49_code
def yX10_goesOn : MethodName := ⟨RX10, "goesOn", "(I)V"⟩
abbrev cX10_later : ByteArray := prog_12_method_50_code
def yX10_later : MethodName := ⟨RX10, "later", "(III)I"⟩
abbrev cX10_warmest : ByteArray := prog_12_method_51_code
def yX10_warmest : MethodName := ⟨RX10, "warmest", "()I"⟩
abbrev cX10_cold : ByteArray := prog_12_method_52_code
def yX10_cold : MethodName := ⟨RX10, "cold", "(II)I"⟩
abbrev cX10_first : ByteArray := prog_12_method_53_code
def yX10_first : MethodName := ⟨RX10, "first", "(I)I"⟩
abbrev cX10_often : ByteArray := prog_12_method_54_code
def yX10_often : MethodName := ⟨RX10, "often", "(II)I"⟩
abbrev cX10_isEnough : ByteArray := prog_12_method_55_code
def yX10_isEnough : MethodName := ⟨RX10, "isEnough", "(III)Z"⟩
abbrev cX10_pulls_ : ByteArray := prog_12_method_56_code
def yX10_pulls_ : MethodName := ⟨RX10, "pulls", "(II)I"⟩
abbrev cX10_shakes : ByteArray := prog_12_method_57_code
def yX10_shakes : MethodName := ⟨RX10, "shakes", "(I)I"⟩
abbrev cX10_stuffsAt : ByteArray := prog_12_method_58_code
def yX10_stuffsAt : MethodName := ⟨RX10, "stuffsAt", "(III)V"⟩
abbrev cX10_stuffs : ByteArray := prog_12_method_59_code
def yX10_stuffs : MethodName := ⟨RX10, "stuffs", "(II)I"⟩
abbrev cX10_noFelt : ByteArray := prog_12_method_60_code
def yX10_noFelt : MethodName := ⟨RX10, "noFelt", "(I)I"⟩
abbrev cX10_unlike : ByteArray := prog_12_method_61_code
def yX10_unlike : MethodName := ⟨RX10, "unlike", "(I)I"⟩
abbrev cX10_judge : ByteArray := prog_12_method_62_code
def yX10_judge : MethodName := ⟨RX10, "judge", "(I)I"⟩
abbrev cX10_so : ByteArray := prog_12_method_63_code
def yX10_so : MethodName := ⟨RX10, "so", "(IIIII)I"⟩
abbrev cX10_felt : ByteArray := prog_12_method_64_code
def yX10_felt : MethodName := ⟨RX10, "felt", "(III)I"⟩
abbrev cX10_spreads : ByteArray := prog_12_method_65_code
def yX10_spreads : MethodName := ⟨RX10, "spreads", "(II)V"⟩
abbrev cX10_walk : ByteArray := prog_12_method_66_code
def yX10_walk : MethodName := ⟨RX10, "walk", "(II)I"⟩
abbrev cX10_patches : ByteArray := prog_12_method_67_code
def yX10_patches : MethodName := ⟨RX10, "patches", "(I)I"⟩
abbrev cX10_turnFrom : ByteArray := prog_12_method_68_code
def yX10_turnFrom : MethodName := ⟨RX10, "turnFrom", "(IIII)I"⟩
abbrev cX10_byTurns : ByteArray := prog_12_method_69_code
def yX10_byTurns : MethodName := ⟨RX10, "byTurns", "(IIII)I"⟩
abbrev cX10_drawn : ByteArray := prog_12_method_70_code
def yX10_drawn : MethodName := ⟨RX10, "drawn", "(III)I"⟩
abbrev cX10_month : ByteArray := prog_12_method_71_code
def yX10_month : MethodName := ⟨RX10, "month", "()I"⟩
abbrev cX10_pull : ByteArray := prog_12_method_72_code
def yX10_pull : MethodName := ⟨RX10, "pull", "(I)I"⟩
abbrev cX10_shake : ByteArray := prog_12_method_73_code
def yX10_shake : MethodName := ⟨RX10, "shake", "(I)I"⟩
abbrev cX10_stuff : ByteArray := prog_12_method_74_code
def yX10_stuff : MethodName := ⟨RX10, "stuff", "(II)I"⟩
abbrev cX10_led : ByteArray := prog_12_method_75_code
def yX10_led : MethodName := ⟨RX10, "led", "(I)I"⟩
abbrev cX10_image : ByteArray := prog_12_method_76_code
def yX10_image : MethodName := ⟨RX10, "image", "()I"⟩
abbrev cX10_back : ByteArray := prog_12_method_77_code
def yX10_back : MethodName := ⟨RX10, "back", "()I"⟩
abbrev cX10_above : ByteArray := prog_12_method_78_code
def yX10_above : MethodName := ⟨RX10, "above", "(I)I"⟩
abbrev cX10_ran : ByteArray := prog_12_method_79_code
def yX10_ran : MethodName := ⟨RX10, "ran", "(I)V"⟩
abbrev cX10_warmsBy : ByteArray := prog_12_method_80_code
def yX10_warmsBy : MethodName := ⟨RX10, "warmsBy", "(III)I"⟩
abbrev cX10_slipsBy : ByteArray := prog_12_method_81_code
def yX10_slipsBy : MethodName := ⟨RX10, "slipsBy", "(III)I"⟩
abbrev cX10_airsBy : ByteArray := prog_12_method_82_code
def yX10_airsBy : MethodName := ⟨RX10, "airsBy", "(III)I"⟩
abbrev cX10_tells : ByteArray := prog_12_method_83_code
def yX10_tells : MethodName := ⟨RX10, "tells", "(III)I"⟩
abbrev cX10_body : ByteArray := prog_12_method_84_code
def yX10_body : MethodName := ⟨RX10, "body", "(I)I"⟩
abbrev cX10_act : ByteArray := prog_12_method_85_code
def yX10_act : MethodName := ⟨RX10, "act", "(III)I"⟩
abbrev cX10_trace : ByteArray := prog_12_method_86_code
def yX10_trace : MethodName := ⟨RX10, "trace", "(I)I"⟩
abbrev cX10_keep : ByteArray := prog_12_method_87_code
def yX10_keep : MethodName := ⟨RX10, "keep", "(II)I"⟩
abbrev cX10_row : ByteArray := prog_12_method_88_code
def yX10_row : MethodName := ⟨RX10, "row", "(III)I"⟩
abbrev cX10_isRow : ByteArray := prog_12_method_89_code
def yX10_isRow : MethodName := ⟨RX10, "isRow", "(I)Z"⟩
abbrev cX10_kept : ByteArray := prog_12_method_90_code
def yX10_kept : MethodName := ⟨RX10, "kept", "(IJ)J"⟩
abbrev cX10_put : ByteArray := prog_12_method_91_code
def yX10_put : MethodName := ⟨RX10, "put", "(IIJ)I"⟩
abbrev cX10_element : ByteArray := prog_12_method_92_code
def yX10_element : MethodName := ⟨RX10, "element", "(II)J"⟩
abbrev cX10_shift : ByteArray := prog_12_method_93_code
def yX10_shift : MethodName := ⟨RX10, "shift", "(IIIII)I"⟩
abbrev cX10_taken : ByteArray := prog_12_method_94_code
def yX10_taken : MethodName := ⟨RX10, "taken", "(II)I"⟩
abbrev cX10_count : ByteArray := prog_12_method_95_code
def yX10_count : MethodName := ⟨RX10, "count", "(I)I"⟩
def RJ6 : String := "java/lang/Integer"
abbrev cJ6_numberOfTrailingZeros_0f7a4 : ByteArray := prog_13_method_48_code
def yJ6_numberOfTrailingZeros_0f7a4 : MethodName := ⟨RJ6, "numberOfTrailingZeros", "(I)I"⟩
abbrev cJ6_bitCount_0f7a4 : ByteArray := prog_13_method_49_code
def yJ6_bitCount_0f7a4 : MethodName := ⟨RJ6, "bitCount", "(I)I"⟩
def RJ9 : String := "java/lang/Math"
def RJ10 : String := "java/lang/System"
def RL : String := "EiderClimateLaw"
abbrev cL_law : ByteArray := code
def yL_law : MethodName := ⟨RL, "law", "([I)Z"⟩
abbrev vwCl : List vw_C := [(RX0, TX0, 6), (RX1, TX1, 5), (RX2, TX2, 8), (RX3, TX3, 4), (RX4, TX4, 8), (RX5, TX5, 4), (RX6, TX6, 4), (RX7, TX7, 10), (RX8, TX8, 8), (RX9, TX9, 9), (RX10, TX10, 44)]
end
section
/-! THE CELLS: which kind of cell stands at each number, in the order in which they are made; which kind each field holds; which fields hold the same cell for ever -/
def mlays : List Nat := [29, 24, 21, 1030, 1030, 1030, 1005, 1008, 1008, 1008, 22, 1120, 1120, 1120, 2120, 1120, 1006, 22, 1120, 1120, 1120, 2120, 1120, 1006, 26, 1120, 27, 21, 1030, 1030, 1030, 1005, 1003, 28, 1030, 1030, 1030, 1030, 20, 1040, 1040, 1040, 1040, 25, 1050, 1024, 9006, 23, 3060, 23, 3060, 23, 3060, 23, 3060, 23, 3060, 23, 3060, 21, 1030, 1030, 1030, 1005, 30, 1030, 1030, 1030, 1024, 1002, 1120, 1060, 1060, 1060, 1200, 1061, 1061, 1061, 1200, 1200, 1006, 1005, 1092, 1005, 1160, 1050, 1024, 1006, 1006, 3360, 1092, 1092, 1003, 1030, 1030]
def mlay (c : Nat) : Nat := mlays.getD c 0
def mfts : List (List Nat) := [[1040, 1040, 1040, 1040, 0, 0], [1030, 1030, 1030, 1005, 0], [1120, 1120, 0, 1120, 2120, 0, 1120, 1006], [3060, 0, 0, 0], [21, 1008, 1008, 1008, 0, 0, 22, 22], [1050, 0, 1024, 0], [1120, 0, 0, 22], [24, 21, 1003, 0, 0, 0, 0, 0, 0, 0], [1030, 1030, 1030, 1030, 0, 0, 0, 0], [24, 26, 27, 28, 20, 25, 9006, 21, 0], [1030, 1030, 1030, 0, 1024, 1002, 0, 0, 1120, 0, 0, 1060, 1060, 1060, 1200, 0, 0, 0, 0, 1061, 1061, 1061, 1200, 1200, 1006, 1005, 0, 1092, 1005, 0, 0, 1160, 0, 1050, 0, 1024, 1006, 1006, 3360, 1092, 1092, 1003, 1030, 1030]]
def mft (i k : Nat) : Nat := (mfts.getD i []).getD k 0
def mNf (i : Nat) : Nat := (mfts.getD i []).length
def mfxs : List (List (Option Int)) := [[some (1), some (2), some (3), some (4), none, none], [some (1), some (2), some (3), some (4), none], [some (1), some (2), none, some (3), some (4), none, some (5), some (6)], [some (1), none, none, none], [some (1), some (6), some (7), some (8), none, none, none, none], [some (1), none, some (2), none], [some (1), none, none, none], [some (-25), some (1), some (6), none, none, none, none, none, none, none], [some (1), some (2), some (3), some (4), none, none, none, none], [some (1), some (24), some (26), some (33), some (38), some (43), some (46), some (59), none], [some (1), some (2), some (3), none, some (4), some (5), none, none, some (6), none, none, some (7), some (8), some (9), some (10), none, none, none, none, some (11), some (12), some (13), some (14), some (15), some (16), some (17), none, some (18), some (19), none, none, some (20), none, some (21), none, some (22), some (23), some (24), some (25), some (26), some (27), some (28), some (29), some (30)]]
def mfx (i k : Nat) : Option Int := (mfxs.getD i []).getD k none
def mdef (t j : Nat) : Int := bif Nat.ble 9000 t then -1 else bif Nat.ble 1000 t then 0 else bif Nat.beq (mft (t - 20) j) 0 then 0 else -1
def mals : List (Nat × Nat × Nat) := [(0, 4, 160), (5, 4, 95), (21, 6, 606), (30, 1, 60), (36, 22, 1352), (46, 2, 74), (54, 1, 120), (66, 6, 103), (82, 4, 120), (87, 63, 2459), (132, 30, 2160)]
def mal (m : Nat) : Nat := match mals.find? (fun q => Nat.beq q.1 m) with
  | some q => q.2.1
  | none => 0
def msl (m : Nat) : Nat := match mals.find? (fun q => Nat.beq q.1 m) with
  | some q => q.2.2
  | none => 0
def mctor (m : Nat) : Bool := mals.any fun q => Nat.beq q.1 m
end
section
/-! THE MINI MACHINE: a pure run of the printed code over numbered cells. A value: its kind and its number. Kinds: 0 int, 1 long, 2 nothing, 4 the script, 20+c object of class c, 1000+n int row, 2000+n boolean row, 3000+n long row, 7000.. a constant row, 9006 the shelves. -/
abbrev mV : Type := Nat × Int
abbrev mM : Type := Nat → Nat → Int
abbrev mA : Type := Option (Int × mM)
abbrev mG : Type := Nat → List mV → List mV → mM → mA
abbrev mK : Type := Nat → List mV → mM → mA
abbrev mI : Type := Nat × Nat × Int × List Nat
def w32 (x : Int) : Int := (x + 2147483648) % 4294967296 - 2147483648
def w64 (x : Int) : Int := (x + 9223372036854775808) % 18446744073709551616 - 9223372036854775808
def mset (σ : mM) (c i : Nat) (v : Int) : mM := fun a j => if a = c ∧ j = i then v else σ a j
def mcat (v : mV) : Nat := match v with
  | (t, _) => bif Nat.beq t 1 then 2 else 1
/-- the kind of a value -/
def mkd (v : mV) : Nat := match v with
  | (t, _) => t
def mput (L : List mV) (i : Nat) (v : mV) (k : List mV → mA) : mA :=
  bif Nat.blt i L.length && (Nat.beq i 0 || !Nat.beq (mkd (L.getD (i - 1) (2, 0))) 1) then k (L.set i v) else none
def mputJ (L : List mV) (i : Nat) (v : mV) (k : List mV → mA) : mA :=
  bif Nat.blt (i + 1) L.length && (Nat.beq i 0 || !Nat.beq (mkd (L.getD (i - 1) (2, 0))) 1) then k ((L.set i v).set (i + 1) (2, 0)) else none
def mpop1 (S : List mV) (k : Int → List mV → mA) : mA := match S with
  | (t, x) :: S' => bif Nat.beq t 0 then k x S' else none
  | [] => none
def mpopJ (S : List mV) (k : Int → List mV → mA) : mA := match S with
  | (t, x) :: S' => bif Nat.beq t 1 then k x S' else none
  | [] => none
def mpopR (S : List mV) (k : Nat → Int → List mV → mA) : mA := match S with
  | (t, x) :: S' => bif Nat.blt 3 t then k t x S' else none
  | [] => none
def mpop2 (S : List mV) (k : Int → Int → List mV → mA) : mA := mpop1 S fun y S' => mpop1 S' fun x S'' => k x y S''
def mpopJ2 (S : List mV) (k : Int → Int → List mV → mA) : mA := mpopJ S fun y S' => mpopJ S' fun x S'' => k x y S''
/-- an int's word of a 32-bit operation -/
def m32 (f : Int32 → Int32 → Int32) (x y : Int) : Int := (f (Int32.ofInt x) (Int32.ofInt y)).toInt
def m64 (f : Int64 → Int64 → Int64) (x y : Int) : Int := (f (Int64.ofInt x) (Int64.ofInt y)).toInt
def mlkp (k : Int) : List Nat → Nat → Nat
  | a :: t :: r, d => bif decide (k = (a : Int)) then t else mlkp k r d
  | _, d => d
def bLt (x y : Int) (a b : mA) : mA := if x < y then a else b
def bEq (x y : Int) (a b : mA) : mA := if x = y then a else b
def bIn (i n : Int) (a : mA) : mA := if 0 ≤ i ∧ i < n then a else none
def bCp (sp dp k l1 l2 : Int) (a : mA) : mA := if 0 ≤ sp ∧ 0 ≤ dp ∧ 0 ≤ k ∧ sp + k ≤ l1 ∧ dp + k ≤ l2 then a else none
def bK (x : mA) (f : Int → mM → mA) : mA := match x with
  | some (r, σ) => f r σ
  | none => none
def msw (g : mG) (L S : List mV) (σ : mM) (x : Int) : List Nat → Nat → mA
  | a :: t :: r, d => bEq x (a : Int) (g t L S σ) (msw g L S σ x r d)
  | _, d => g d L S σ
def mp (ps : List Nat) (k : Nat) : Nat := ps.getD k 0
def mz (σ : mM) (k : Nat) : Nat := (σ 905 k).toNat
/-- a new cell of a kind, of so many slots -/
def mnew (σ : mM) (t k : Nat) : mM := fun a j => if a = mz σ 0 then mdef t j else if a = 905 then (if j = 0 then σ 905 0 + 1 else if j = 1 then σ 905 1 + k else σ a j) else σ a j
def mcopy (σ : mM) (a1 a2 sp dp n : Nat) : mM := fun a j => if a = a2 ∧ dp ≤ j ∧ j < dp + n then σ a1 (sp + (j - dp)) else σ a j
def mfit (σ : mM) (mx : Int × Int) (k : Nat) : Prop := σ 905 0 + 1 ≤ mx.1 ∧ σ 905 1 + k ≤ mx.2
/-- one instruction: what it does, then 'g' -/
def mstepA (g : mG) (op n : Nat) (v : Int) (ps : List Nat) (pc : Nat) (L S : List mV) (σ : mM) : mA :=
  bif Nat.blt op 4 then g (pc + n) L ((0, v) :: S) σ
  else bif Nat.blt op 6 then g (pc + n) L ((1, v) :: S) σ
  else bif Nat.blt op 12 then
    (match L[mp ps 0]? with
    | some (t, x) => bif (bif Nat.blt op 8 then Nat.beq t 0 else bif Nat.blt op 10 then Nat.blt 3 t else Nat.beq t 1) then g (pc + n) L ((t, x) :: S) σ else none
    | none => none)
  else bif Nat.blt op 14 then mpop1 S fun x S' => mput L (mp ps 0) (0, x) fun L' => g (pc + n) L' S' σ
  else bif Nat.blt op 16 then mpopR S fun t x S' => mput L (mp ps 0) (t, x) fun L' => g (pc + n) L' S' σ
  else bif Nat.beq op 16 then mpopJ S fun x S' => mputJ L (mp ps 0) (1, x) fun L' => g (pc + n) L' S' σ
  else bif Nat.beq op 17 then
    (match L[mp ps 0]? with
    | some (t, x) => bif Nat.beq t 0 then mput L (mp ps 0) (0, w32 (x + v)) fun L' => g (pc + n) L' S σ else none
    | none => none)
  else none
def mstepB (g : mG) (op n : Nat) (pc : Nat) (L S : List mV) (σ : mM) : mA :=
  bif Nat.beq op 20 then mpop2 S fun x y S' => g (pc + n) L ((0, w32 (x + y)) :: S') σ
  else bif Nat.beq op 21 then mpop2 S fun x y S' => g (pc + n) L ((0, w32 (x - y)) :: S') σ
  else bif Nat.beq op 22 then mpop2 S fun x y S' => g (pc + n) L ((0, w32 (x * y)) :: S') σ
  else bif Nat.beq op 23 then mpop2 S fun x y S' => bEq y 0 none (g (pc + n) L ((0, w32 (x.tdiv y)) :: S') σ)
  else bif Nat.beq op 24 then mpop2 S fun x y S' => bEq y 0 none (g (pc + n) L ((0, x.tmod y) :: S') σ)
  else bif Nat.beq op 25 then mpop1 S fun x S' => g (pc + n) L ((0, w32 (-x)) :: S') σ
  else bif Nat.beq op 26 then mpop2 S fun x y S' => g (pc + n) L ((0, m32 (· &&& ·) x y) :: S') σ
  else bif Nat.beq op 27 then mpop2 S fun x y S' => g (pc + n) L ((0, m32 (· ||| ·) x y) :: S') σ
  else bif Nat.beq op 28 then mpop2 S fun x y S' => g (pc + n) L ((0, m32 (· ^^^ ·) x y) :: S') σ
  else bif Nat.beq op 29 then mpop2 S fun x y S' => g (pc + n) L ((0, m32 (fun x y => x <<< (y &&& 31)) x y) :: S') σ
  else bif Nat.beq op 30 then mpop2 S fun x y S' => g (pc + n) L ((0, m32 (fun x y => x >>> (y &&& 31)) x y) :: S') σ
  else bif Nat.beq op 31 then mpop2 S fun x y S' => g (pc + n) L ((0, m32 (fun x y => (x.toUInt32 >>> (y.toUInt32 &&& Int32.toUInt32 31)).toInt32) x y) :: S') σ
  else bif Nat.beq op 32 then mpopJ2 S fun x y S' => g (pc + n) L ((1, w64 (x + y)) :: S') σ
  else bif Nat.beq op 33 then mpopJ2 S fun x y S' => g (pc + n) L ((1, w64 (x * y)) :: S') σ
  else bif Nat.beq op 34 then mpop1 S fun y S' => mpopJ S' fun x S'' => g (pc + n) L ((1, (Int64.ofInt x <<< ((Int32.ofInt y).toInt64 &&& 63)).toInt) :: S'') σ
  else bif Nat.beq op 35 then mpopJ2 S fun x y S' => g (pc + n) L ((1, m64 (· &&& ·) x y) :: S') σ
  else bif Nat.beq op 36 then mpopJ2 S fun x y S' => g (pc + n) L ((1, m64 (· ||| ·) x y) :: S') σ
  else bif Nat.beq op 37 then mpopJ2 S fun x y S' => g (pc + n) L ((0, if x < y then -1 else if x = y then 0 else 1) :: S') σ
  else bif Nat.beq op 38 then mpop1 S fun x S' => g (pc + n) L ((1, x) :: S') σ
  else bif Nat.beq op 39 then mpopJ S fun x S' => g (pc + n) L ((0, w32 x) :: S') σ
  else bif Nat.beq op 40 then mpop1 S fun x S' => g (pc + n) L ((0, (x + 128) % 256 - 128) :: S') σ
  else bif Nat.beq op 41 then mpop1 S fun x S' => g (pc + n) L ((0, (x + 32768) % 65536 - 32768) :: S') σ
  else none
def mstepC (g : mG) (op n : Nat) (ps : List Nat) (pc : Nat) (L S : List mV) (σ : mM) : mA :=
  bif Nat.beq op 42 then (match S with | (t, x) :: S' => bif Nat.beq t 1 then none else g (pc + n) L ((t, x) :: (t, x) :: S') σ | [] => none)
  else bif Nat.beq op 43 then (match S with | (t, x) :: (t2, x2) :: S' => bif Nat.beq t 1 || Nat.beq t2 1 then none else g (pc + n) L ((t, x) :: (t2, x2) :: (t, x) :: (t2, x2) :: S') σ | _ => none)
  else bif Nat.beq op 44 then (match S with | (t, x) :: (t2, x2) :: S' => bif Nat.beq t 1 || Nat.beq t2 1 then none else g (pc + n) L ((t, x) :: (t2, x2) :: (t, x) :: S') σ | _ => none)
  else bif Nat.beq op 45 then (match S with | (t, _) :: S' => bif Nat.beq t 1 then none else g (pc + n) L S' σ | [] => none)
  else bif Nat.beq op 48 then g (mp ps 0) L S σ
  else bif Nat.beq op 49 || Nat.beq op 50 then mpop1 S fun x S' => msw g L S' σ x (ps.drop 1) (mp ps 0)
  else bif Nat.beq op 100 then mpop1 S fun x S' => bEq x 0 (g (mp ps 0) L S' σ) (g (pc + n) L S' σ)
  else bif Nat.beq op 101 then mpop1 S fun x S' => bEq x 0 (g (pc + n) L S' σ) (g (mp ps 0) L S' σ)
  else bif Nat.beq op 102 then mpop1 S fun x S' => bLt x 0 (g (mp ps 0) L S' σ) (g (pc + n) L S' σ)
  else bif Nat.beq op 103 then mpop1 S fun x S' => bLt x 0 (g (pc + n) L S' σ) (g (mp ps 0) L S' σ)
  else bif Nat.beq op 104 then mpop1 S fun x S' => bLt 0 x (g (mp ps 0) L S' σ) (g (pc + n) L S' σ)
  else bif Nat.beq op 105 then mpop1 S fun x S' => bLt 0 x (g (pc + n) L S' σ) (g (mp ps 0) L S' σ)
  else bif Nat.beq op 110 then mpop2 S fun x y S' => bEq x y (g (mp ps 0) L S' σ) (g (pc + n) L S' σ)
  else bif Nat.beq op 111 then mpop2 S fun x y S' => bEq x y (g (pc + n) L S' σ) (g (mp ps 0) L S' σ)
  else bif Nat.beq op 112 then mpop2 S fun x y S' => bLt x y (g (mp ps 0) L S' σ) (g (pc + n) L S' σ)
  else bif Nat.beq op 113 then mpop2 S fun x y S' => bLt x y (g (pc + n) L S' σ) (g (mp ps 0) L S' σ)
  else bif Nat.beq op 114 then mpop2 S fun x y S' => bLt y x (g (mp ps 0) L S' σ) (g (pc + n) L S' σ)
  else bif Nat.beq op 115 then mpop2 S fun x y S' => bLt y x (g (pc + n) L S' σ) (g (mp ps 0) L S' σ)
  else none
/-- the length that a row's kind tells; the script's stands in the memory -/
def mlen (σ : mM) (t : Nat) : Int := bif Nat.beq t 4 then σ 904 0 else bif Nat.blt t 7000 then ((t % 1000 : Nat) : Int) else ((t % 100 : Nat) : Int)
def mstepD (g : mG) (op n : Nat) (v : Int) (ps : List Nat) (pc : Nat) (L S : List mV) (σ : mM) : mA :=
  bif Nat.beq op 51 then mpopR S fun t c S' => bif Nat.beq t (20 + mp ps 0) then g (pc + n) L ((0, σ c.toNat (mp ps 1)) :: S') σ else none
  else bif Nat.beq op 52 then mpopR S fun t c S' => bif Nat.beq t (20 + mp ps 0) then g (pc + n) L ((mp ps 2, c + v) :: S') σ else none
  else bif Nat.beq op 53 then mpopR S fun t c S' => bif Nat.beq t (20 + mp ps 0) then (bLt (σ c.toNat (mp ps 1)) 0 none (g (pc + n) L ((mp ps 2, σ c.toNat (mp ps 1)) :: S') σ)) else none
  else bif Nat.beq op 54 then mpop1 S fun x S' => mpopR S' fun t c S'' => bif Nat.beq t (20 + mp ps 0) then g (pc + n) L S'' (mset σ c.toNat (mp ps 1) x) else none
  else bif Nat.beq op 55 || Nat.beq op 56 then mpopR S fun t2 x S' => mpopR S' fun t c S'' => bif Nat.beq t (20 + mp ps 0) && Nat.beq t2 (mp ps 2) then g (pc + n) L S'' (mset σ c.toNat (mp ps 1) x) else none
  else bif Nat.beq op 57 then mpop1 S fun x S' => mpopR S' fun t c S'' => bif Nat.beq t (20 + mp ps 0) then (bIn x 2 (g (pc + n) L S'' (mset σ c.toNat (mp ps 1) x))) else none
  else bif Nat.beq op 58 || Nat.beq op 59 then g (pc + n) L ((mp ps 0, (mp ps 1 : Int)) :: S) σ
  else bif Nat.beq op 60 then mpop1 S fun i S' => mpopR S' fun t c S'' => bif Nat.beq t 4 || (Nat.ble 1000 t && Nat.blt t 2000) || (Nat.ble 7000 t && Nat.blt t 8000) then (bIn i (mlen σ t) (g (pc + n) L ((0, σ c.toNat i.toNat) :: S'') σ)) else none
  else bif Nat.beq op 61 then mpop1 S fun x S0 => mpop1 S0 fun i S' => mpopR S' fun t c S'' => bif Nat.ble 1000 t && Nat.blt t 2000 then (bIn i (mlen σ t) (g (pc + n) L S'' (mset σ c.toNat i.toNat x))) else none
  else bif Nat.beq op 62 then mpop1 S fun i S' => mpopR S' fun t c S'' => bif Nat.ble 3000 t && Nat.blt t 4000 then (bIn i (mlen σ t) (g (pc + n) L ((1, σ c.toNat i.toNat) :: S'') σ)) else none
  else bif Nat.beq op 63 then mpopJ S fun x S0 => mpop1 S0 fun i S' => mpopR S' fun t c S'' => bif Nat.ble 3000 t && Nat.blt t 4000 then (bIn i (mlen σ t) (g (pc + n) L S'' (mset σ c.toNat i.toNat x))) else none
  else bif Nat.beq op 64 then mpop1 S fun i S' => mpopR S' fun t c S'' => bif Nat.ble 2000 t && Nat.blt t 3000 then (bIn i (mlen σ t) (g (pc + n) L ((0, σ c.toNat i.toNat) :: S'') σ)) else none
  else bif Nat.beq op 65 then mpop1 S fun x S0 => mpop1 S0 fun i S' => mpopR S' fun t c S'' => bif Nat.ble 2000 t && Nat.blt t 3000 then (bIn i (mlen σ t) ((bIn x 2 (g (pc + n) L S'' (mset σ c.toNat i.toNat x))))) else none
  else bif Nat.beq op 66 then mpop1 S fun i S' => mpopR S' fun t c S'' => bif Nat.beq t 9006 then (bIn i 6 (g (pc + n) L ((23, c + 1 + 2 * i) :: S'') σ)) else none
  else bif Nat.beq op 68 then mpopR S fun t _ S' => bif Nat.beq t 4 then g (pc + n) L ((0, σ 904 0) :: S') σ else none
  else none
def mlayIs (σ : mM) (t : Nat) : Bool := Nat.beq (mlay (mz σ 0)) t
def mstepE (g : mG) (op n : Nat) (ps : List Nat) (mx : Int × Int) (pc : Nat) (L S : List mV) (σ : mM) : mA :=
  bif Nat.beq op 67 then mpopR S fun t2 x S0 => mpop1 S0 fun i S' => mpopR S' fun t c S'' => bif Nat.beq t2 23 && Nat.beq t 9006 then (bIn i 6 (g (pc + n) L S'' (mset σ c.toNat i.toNat x))) else none
  else bif Nat.ble 70 op && Nat.ble op 73 then mpop1 S fun k S' => if 0 ≤ k ∧ k < 1000 ∧ mlay (mz σ 0) = mp ps 0 + k.toNat ∧ σ 905 0 + 1 ≤ mx.1 ∧ σ 905 1 + k ≤ mx.2 then g (pc + n) L ((mp ps 0 + k.toNat, σ 905 0) :: S') (mnew σ (mp ps 0 + k.toNat) k.toNat) else none
  else bif Nat.beq op 74 then (if mlay (mz σ 0) = 20 + mp ps 0 ∧ σ 905 0 + 1 ≤ mx.1 ∧ σ 905 1 + (mp ps 1 : Int) ≤ mx.2 then g (pc + n) L ((20 + mp ps 0, σ 905 0) :: S) (mnew σ (20 + mp ps 0) (mp ps 1)) else none)
  else bif Nat.beq op 75 then mpopR S fun t _ S' => bif Nat.ble 20 t && Nat.blt t 1000 && Nat.ble (S'.map mcat).sum 8 then g (pc + n) L S' σ else none
  else none
def mpush (rt : Nat) (r : Int) (S : List mV) : List mV := bif Nat.beq rt 0 then S else (rt - 1, r) :: S
def mstepF (K : mK) (g : mG) (op n : Nat) (ps : List Nat) (mx : Int × Int) (pc : Nat) (L S : List mV) (σ : mM) : mA :=
  bif Nat.beq op 81 then mpop2 S fun x y S' => bif Nat.ble (S'.map mcat).sum 8 then g (pc + n) L ((0, if y < x then y else x) :: S') σ else none
  else bif Nat.beq op 82 then mpop2 S fun x y S' => bif Nat.ble (S'.map mcat).sum 8 then g (pc + n) L ((0, if x < y then y else x) :: S') σ else none
  else bif Nat.beq op 83 || Nat.beq op 84 then mpop1 S fun k S1 => mpop1 S1 fun dp S2 => mpopR S2 fun t2 a2 S3 => mpop1 S3 fun sp S4 => mpopR S4 fun t1 a1 S5 =>
    bif (bif Nat.beq op 83 then Nat.ble 1000 t1 && Nat.blt t1 2000 && Nat.ble 1000 t2 && Nat.blt t2 2000 else Nat.ble 3000 t1 && Nat.blt t1 4000 && Nat.ble 3000 t2 && Nat.blt t2 4000) && Nat.ble (S5.map mcat).sum 8 then
      (bCp sp dp k (mlen σ t1) (mlen σ t2) (g (pc + n) L S5 (mcopy σ a1.toNat a2.toNat sp.toNat dp.toNat k.toNat))) else none
  else bif Nat.beq op 76 then -- a method of an object: ps = method, values, answer's kind + 1, the object's kind
    bif Nat.ble (mp ps 1) S.length && Nat.ble ((S.drop (mp ps 1)).map mcat).sum 8 && Nat.beq (mkd ((S.take (mp ps 1)).reverse.headD (2, 0))) (mp ps 3) then
      (bK (K (mp ps 0) (S.take (mp ps 1)).reverse σ) fun r σ' => g (pc + n) L (mpush (mp ps 2) r (S.drop (mp ps 1))) σ') else none
  else bif Nat.beq op 77 || Nat.beq op 79 then
    bif Nat.ble (mp ps 1) S.length && Nat.ble ((S.drop (mp ps 1)).map mcat).sum 8 then
      (bK (K (mp ps 0) (S.take (mp ps 1)).reverse σ) fun r σ' => g (pc + n) L (mpush (mp ps 2) r (S.drop (mp ps 1))) σ') else none
  else bif Nat.beq op 78 || Nat.beq op 80 then
    bif Nat.ble (mp ps 1) S.length && Nat.ble ((S.drop (mp ps 1)).map mcat).sum 8 && Nat.blt 3 (mkd ((S.take (mp ps 1)).reverse.headD (2, 0))) then
      (bK (K (mp ps 0) (S.take (mp ps 1)).reverse σ) fun _ σ' => if σ' 905 0 = σ 905 0 + (mal (mp ps 0) : Int) ∧ σ' 905 1 = σ 905 1 + (msl (mp ps 0) : Int) ∧ σ' 905 0 ≤ mx.1 ∧ σ' 905 1 ≤ mx.2 then g (pc + n) L (S.drop (mp ps 1)) σ' else none) else none
  else none
def mstepR (op : Nat) (ps : List Nat) (S : List mV) (σ : mM) : mA :=
  bif Nat.beq op 90 then (match S with | [(t, x)] => bif Nat.beq t 0 then some (x, σ) else none | _ => none)
  else bif Nat.beq op 91 then (match S with | [(t, x)] => bif Nat.beq t 1 then some (x, σ) else none | _ => none)
  else bif Nat.beq op 92 then (match S with | [(t, x)] => bif Nat.beq t (mp ps 0) then some (x, σ) else none | _ => none)
  else bif Nat.beq op 93 then (match S with | [] => some (0, σ) | _ => none)
  else bif Nat.beq op 94 then (match S with | [(t, x)] => bif Nat.beq t 0 then bIn x 2 (some (x, σ)) else none | _ => none)
  else none
def mstep (K : mK) (g : mG) (mx : Int × Int) (i : mI) (pc : Nat) (L S : List mV) (σ : mM) : mA :=
  bif Nat.blt i.1 20 then mstepA g i.1 i.2.1 i.2.2.1 i.2.2.2 pc L S σ
  else bif Nat.blt i.1 42 then mstepB g i.1 i.2.1 pc L S σ
  else bif Nat.blt i.1 51 || Nat.ble 100 i.1 then mstepC g i.1 i.2.1 i.2.2.2 pc L S σ
  else bif Nat.blt i.1 67 || Nat.beq i.1 68 then mstepD g i.1 i.2.1 i.2.2.1 i.2.2.2 pc L S σ
  else bif Nat.blt i.1 76 then mstepE g i.1 i.2.1 i.2.2.2 mx pc L S σ
  else bif Nat.blt i.1 90 then mstepF K g i.1 i.2.1 i.2.2.2 mx pc L S σ
  else mstepR i.1 i.2.2.2 S σ
end
section
/-! THE CODE, as the mini machine reads it: by method, by place -/
def mfind (pc : Nat) : List (Nat × mI) → Option mI
  | [] => none
  | q :: t => bif Nat.beq pc q.1 then some q.2 else mfind pc t
/-- EiderClimate$Changes.<init>()V -/
def mc_0 : List (Nat × mI) := [(0, (8, 1, 0, [0])), (1, (75, 3, 0, [1, 1233])), (4, (8, 1, 0, [0])), (5, (1, 2, 40, [])), (7, (70, 2, 0, [1000])), (9, (56, 3, 0, [0, 0, 1040, 9, 1234])), (12, (8, 1, 0, [0])), (13, (1, 2, 40, [])), (15, (70, 2, 0, [1000])), (17, (56, 3, 0, [0, 1, 1040, 13, 1235])), (20, (8, 1, 0, [0])), (21, (1, 2, 40, [])), (23, (70, 2, 0, [1000])), (25, (56, 3, 0, [0, 2, 1040, 16, 1236])), (28, (8, 1, 0, [0])), (29, (1, 2, 40, [])), (31, (70, 2, 0, [1000])), (33, (56, 3, 0, [0, 3, 1040, 19, 1237])), (36, (93, 1, 0, []))]
/-- EiderClimate$Changes.note(IIII)V -/
def mc_1 : List (Nat × mI) := [(0, (8, 1, 0, [0])), (1, (51, 3, 0, [0, 4, 0, 22, 1238])), (4, (1, 2, 40, [])), (6, (112, 3, 0, [13])), (9, (8, 1, 0, [0])), (10, (76, 3, 0, [2, 1, 0, 20, 26, 2154])), (13, (8, 1, 0, [0])), (14, (52, 3, 1, [0, 0, 1040, 9, 1234])), (17, (8, 1, 0, [0])), (18, (51, 3, 0, [0, 4, 0, 22, 1238])), (21, (6, 1, 0, [1])), (22, (61, 1, 0, [])), (23, (8, 1, 0, [0])), (24, (52, 3, 2, [0, 1, 1040, 13, 1235])), (27, (8, 1, 0, [0])), (28, (51, 3, 0, [0, 4, 0, 22, 1238])), (31, (6, 1, 0, [2])), (32, (61, 1, 0, [])), (33, (8, 1, 0, [0])), (34, (52, 3, 3, [0, 2, 1040, 16, 1236])), (37, (8, 1, 0, [0])), (38, (51, 3, 0, [0, 4, 0, 22, 1238])), (41, (6, 1, 0, [3])), (42, (61, 1, 0, [])), (43, (8, 1, 0, [0])), (44, (52, 3, 4, [0, 3, 1040, 19, 1237])), (47, (8, 1, 0, [0])), (48, (51, 3, 0, [0, 4, 0, 22, 1238])), (51, (7, 2, 0, [4])), (53, (61, 1, 0, [])), (54, (8, 1, 0, [0])), (55, (42, 1, 0, [])), (56, (51, 3, 0, [0, 4, 0, 22, 1238])), (59, (0, 1, 1, [])), (60, (20, 1, 0, [])), (61, (54, 3, 0, [0, 4, 0, 22, 1238])), (64, (8, 1, 0, [0])), (65, (0, 1, 0, [])), (66, (54, 3, 0, [0, 5, 0, 29, 2000])), (69, (93, 1, 0, []))]
/-- EiderClimate$Changes.forgetOldest()V -/
def mc_2 : List (Nat × mI) := [(0, (8, 1, 0, [0])), (1, (52, 3, 1, [0, 0, 1040, 9, 1234])), (4, (0, 1, 1, [])), (5, (8, 1, 0, [0])), (6, (52, 3, 1, [0, 0, 1040, 9, 1234])), (9, (0, 1, 0, [])), (10, (1, 2, 39, [])), (12, (83, 3, 0, [32, 2158])), (15, (8, 1, 0, [0])), (16, (52, 3, 2, [0, 1, 1040, 13, 1235])), (19, (0, 1, 1, [])), (20, (8, 1, 0, [0])), (21, (52, 3, 2, [0, 1, 1040, 13, 1235])), (24, (0, 1, 0, [])), (25, (1, 2, 39, [])), (27, (83, 3, 0, [32, 2158])), (30, (8, 1, 0, [0])), (31, (52, 3, 3, [0, 2, 1040, 16, 1236])), (34, (0, 1, 1, [])), (35, (8, 1, 0, [0])), (36, (52, 3, 3, [0, 2, 1040, 16, 1236])), (39, (0, 1, 0, [])), (40, (1, 2, 39, [])), (42, (83, 3, 0, [32, 2158])), (45, (8, 1, 0, [0])), (46, (52, 3, 4, [0, 3, 1040, 19, 1237])), (49, (0, 1, 1, [])), (50, (8, 1, 0, [0])), (51, (52, 3, 4, [0, 3, 1040, 19, 1237])), (54, (0, 1, 0, [])), (55, (1, 2, 39, [])), (57, (83, 3, 0, [32, 2158])), (60, (8, 1, 0, [0])), (61, (1, 2, 39, [])), (63, (54, 3, 0, [0, 4, 0, 22, 1238])), (66, (93, 1, 0, []))]
/-- EiderClimate$Changes.stepBack(LEiderClimate$Shore;)V -/
def mc_3 : List (Nat × mI) := [(0, (8, 1, 0, [0])), (1, (51, 3, 0, [0, 4, 0, 22, 1238])), (4, (105, 3, 0, [58])), (7, (8, 1, 0, [0])), (8, (42, 1, 0, [])), (9, (51, 3, 0, [0, 4, 0, 22, 1238])), (12, (0, 1, 1, [])), (13, (21, 1, 0, [])), (14, (54, 3, 0, [0, 4, 0, 22, 1238])), (17, (8, 1, 0, [0])), (18, (42, 1, 0, [])), (19, (51, 3, 0, [0, 5, 0, 29, 2000])), (22, (0, 1, 1, [])), (23, (20, 1, 0, [])), (24, (54, 3, 0, [0, 5, 0, 29, 2000])), (27, (8, 1, 0, [1])), (28, (8, 1, 0, [0])), (29, (52, 3, 1, [0, 0, 1040, 9, 1234])), (32, (8, 1, 0, [0])), (33, (51, 3, 0, [0, 4, 0, 22, 1238])), (36, (60, 1, 0, [])), (37, (8, 1, 0, [0])), (38, (52, 3, 2, [0, 1, 1040, 13, 1235])), (41, (8, 1, 0, [0])), (42, (51, 3, 0, [0, 4, 0, 22, 1238])), (45, (60, 1, 0, [])), (46, (8, 1, 0, [0])), (47, (52, 3, 3, [0, 2, 1040, 16, 1236])), (50, (8, 1, 0, [0])), (51, (51, 3, 0, [0, 4, 0, 22, 1238])), (54, (60, 1, 0, [])), (55, (76, 3, 0, [42, 4, 0, 24, 38, 4032])), (58, (93, 1, 0, []))]
/-- EiderClimate$Changes.stepForth(LEiderClimate$Shore;)V -/
def mc_4 : List (Nat × mI) := [(0, (8, 1, 0, [0])), (1, (51, 3, 0, [0, 5, 0, 29, 2000])), (4, (105, 3, 0, [67])), (7, (8, 1, 0, [0])), (8, (51, 3, 0, [0, 4, 0, 22, 1238])), (11, (1, 2, 40, [])), (13, (113, 3, 0, [67])), (16, (8, 1, 0, [1])), (17, (8, 1, 0, [0])), (18, (52, 3, 1, [0, 0, 1040, 9, 1234])), (21, (8, 1, 0, [0])), (22, (51, 3, 0, [0, 4, 0, 22, 1238])), (25, (60, 1, 0, [])), (26, (8, 1, 0, [0])), (27, (52, 3, 2, [0, 1, 1040, 13, 1235])), (30, (8, 1, 0, [0])), (31, (51, 3, 0, [0, 4, 0, 22, 1238])), (34, (60, 1, 0, [])), (35, (8, 1, 0, [0])), (36, (52, 3, 4, [0, 3, 1040, 19, 1237])), (39, (8, 1, 0, [0])), (40, (51, 3, 0, [0, 4, 0, 22, 1238])), (43, (60, 1, 0, [])), (44, (76, 3, 0, [42, 4, 0, 24, 38, 4032])), (47, (8, 1, 0, [0])), (48, (42, 1, 0, [])), (49, (51, 3, 0, [0, 4, 0, 22, 1238])), (52, (0, 1, 1, [])), (53, (20, 1, 0, [])), (54, (54, 3, 0, [0, 4, 0, 22, 1238])), (57, (8, 1, 0, [0])), (58, (42, 1, 0, [])), (59, (51, 3, 0, [0, 5, 0, 29, 2000])), (62, (0, 1, 1, [])), (63, (21, 1, 0, [])), (64, (54, 3, 0, [0, 5, 0, 29, 2000])), (67, (93, 1, 0, []))]
/-- EiderClimate$Cover.<init>()V -/
def mc_5 : List (Nat × mI) := [(0, (8, 1, 0, [0])), (1, (75, 3, 0, [3, 1034])), (4, (8, 1, 0, [0])), (5, (1, 2, 30, [])), (7, (70, 2, 0, [1000])), (9, (56, 3, 0, [1, 0, 1030, 9, 1035])), (12, (8, 1, 0, [0])), (13, (1, 2, 30, [])), (15, (70, 2, 0, [1000])), (17, (56, 3, 0, [1, 1, 1030, 15, 1039])), (20, (8, 1, 0, [0])), (21, (1, 2, 30, [])), (23, (70, 2, 0, [1000])), (25, (56, 3, 0, [1, 2, 1030, 18, 1044])), (28, (8, 1, 0, [0])), (29, (0, 1, 5, [])), (30, (70, 2, 0, [1000])), (32, (56, 3, 0, [1, 3, 1005, 21, 1046])), (35, (93, 1, 0, []))]
/-- EiderClimate$Cover.takeFrom(LEiderClimate$Cover;)V -/
def mc_6 : List (Nat × mI) := [(0, (8, 1, 0, [1])), (1, (52, 3, 1, [1, 0, 1030, 9, 1035])), (4, (0, 1, 0, [])), (5, (8, 1, 0, [0])), (6, (52, 3, 1, [1, 0, 1030, 9, 1035])), (9, (0, 1, 0, [])), (10, (1, 2, 30, [])), (12, (83, 3, 0, [24, 3007])), (15, (8, 1, 0, [1])), (16, (52, 3, 2, [1, 1, 1030, 15, 1039])), (19, (0, 1, 0, [])), (20, (8, 1, 0, [0])), (21, (52, 3, 2, [1, 1, 1030, 15, 1039])), (24, (0, 1, 0, [])), (25, (1, 2, 30, [])), (27, (83, 3, 0, [24, 3007])), (30, (8, 1, 0, [1])), (31, (52, 3, 3, [1, 2, 1030, 18, 1044])), (34, (0, 1, 0, [])), (35, (8, 1, 0, [0])), (36, (52, 3, 3, [1, 2, 1030, 18, 1044])), (39, (0, 1, 0, [])), (40, (1, 2, 30, [])), (42, (83, 3, 0, [24, 3007])), (45, (8, 1, 0, [1])), (46, (52, 3, 4, [1, 3, 1005, 21, 1046])), (49, (0, 1, 0, [])), (50, (8, 1, 0, [0])), (51, (52, 3, 4, [1, 3, 1005, 21, 1046])), (54, (0, 1, 0, [])), (55, (0, 1, 5, [])), (56, (83, 3, 0, [24, 3007])), (59, (8, 1, 0, [0])), (60, (8, 1, 0, [1])), (61, (51, 3, 0, [1, 4, 0, 30, 1048])), (64, (54, 3, 0, [1, 4, 0, 30, 1048])), (67, (93, 1, 0, []))]
/-- EiderClimate$Cover.numberAt(II)I -/
def mc_7 : List (Nat × mI) := [(0, (6, 1, 0, [2])), (1, (101, 3, 0, [13])), (4, (8, 1, 0, [0])), (5, (52, 3, 1, [1, 0, 1030, 9, 1035])), (8, (6, 1, 0, [1])), (9, (60, 1, 0, [])), (10, (48, 3, 0, [33])), (13, (6, 1, 0, [2])), (14, (0, 1, 1, [])), (15, (111, 3, 0, [27])), (18, (8, 1, 0, [0])), (19, (52, 3, 2, [1, 1, 1030, 15, 1039])), (22, (6, 1, 0, [1])), (23, (60, 1, 0, [])), (24, (48, 3, 0, [33])), (27, (8, 1, 0, [0])), (28, (52, 3, 3, [1, 2, 1030, 18, 1044])), (31, (6, 1, 0, [1])), (32, (60, 1, 0, [])), (33, (90, 1, 0, []))]
/-- EiderClimate$Cover.setNumberAt(III)V -/
def mc_8 : List (Nat × mI) := [(0, (6, 1, 0, [2])), (1, (101, 3, 0, [14])), (4, (8, 1, 0, [0])), (5, (52, 3, 1, [1, 0, 1030, 9, 1035])), (8, (6, 1, 0, [1])), (9, (6, 1, 0, [3])), (10, (61, 1, 0, [])), (11, (48, 3, 0, [36])), (14, (6, 1, 0, [2])), (15, (0, 1, 1, [])), (16, (111, 3, 0, [29])), (19, (8, 1, 0, [0])), (20, (52, 3, 2, [1, 1, 1030, 15, 1039])), (23, (6, 1, 0, [1])), (24, (6, 1, 0, [3])), (25, (61, 1, 0, [])), (26, (48, 3, 0, [36])), (29, (8, 1, 0, [0])), (30, (52, 3, 3, [1, 2, 1030, 18, 1044])), (33, (6, 1, 0, [1])), (34, (6, 1, 0, [3])), (35, (61, 1, 0, [])), (36, (93, 1, 0, []))]
/-- EiderClimate$Cover.setSquare(IIII)V -/
def mc_9 : List (Nat × mI) := [(0, (8, 1, 0, [0])), (1, (52, 3, 1, [1, 0, 1030, 9, 1035])), (4, (6, 1, 0, [1])), (5, (6, 1, 0, [2])), (6, (61, 1, 0, [])), (7, (8, 1, 0, [0])), (8, (52, 3, 2, [1, 1, 1030, 15, 1039])), (11, (6, 1, 0, [1])), (12, (6, 1, 0, [3])), (13, (61, 1, 0, [])), (14, (8, 1, 0, [0])), (15, (52, 3, 3, [1, 2, 1030, 18, 1044])), (18, (6, 1, 0, [1])), (19, (7, 2, 0, [4])), (21, (61, 1, 0, [])), (22, (93, 1, 0, []))]
/-- EiderClimate$Cover.stuffedSquares()I -/
def mc_10 : List (Nat × mI) := [(0, (0, 1, 0, [])), (1, (12, 1, 0, [1])), (2, (0, 1, 0, [])), (3, (12, 1, 0, [2])), (4, (6, 1, 0, [2])), (5, (1, 2, 30, [])), (7, (113, 3, 0, [28])), (10, (8, 1, 0, [0])), (11, (52, 3, 2, [1, 1, 1030, 15, 1039])), (14, (6, 1, 0, [2])), (15, (60, 1, 0, [])), (16, (105, 3, 0, [22])), (19, (17, 3, 1, [1])), (22, (17, 3, 1, [2])), (25, (48, 3, 0, [4])), (28, (6, 1, 0, [1])), (29, (90, 1, 0, []))]
/-- EiderClimate$Cover.beside(II)I -/
def mc_11 : List (Nat × mI) := [(0, (6, 1, 0, [1])), (1, (49, 27, 0, [74, 0, 28, 1, 43, 2, 59])), (28, (6, 1, 0, [0])), (29, (1, 2, 6, [])), (31, (112, 3, 0, [41])), (34, (6, 1, 0, [0])), (35, (1, 2, 6, [])), (37, (21, 1, 0, [])), (38, (48, 3, 0, [42])), (41, (0, 1, (-1), [])), (42, (90, 1, 0, [])), (43, (6, 1, 0, [0])), (44, (1, 2, 6, [])), (46, (24, 1, 0, [])), (47, (0, 1, 5, [])), (48, (113, 3, 0, [57])), (51, (6, 1, 0, [0])), (52, (0, 1, 1, [])), (53, (20, 1, 0, [])), (54, (48, 3, 0, [58])), (57, (0, 1, (-1), [])), (58, (90, 1, 0, [])), (59, (6, 1, 0, [0])), (60, (1, 2, 24, [])), (62, (113, 3, 0, [72])), (65, (6, 1, 0, [0])), (66, (1, 2, 6, [])), (68, (20, 1, 0, [])), (69, (48, 3, 0, [73])), (72, (0, 1, (-1), [])), (73, (90, 1, 0, [])), (74, (6, 1, 0, [0])), (75, (1, 2, 6, [])), (77, (24, 1, 0, [])), (78, (105, 3, 0, [87])), (81, (6, 1, 0, [0])), (82, (0, 1, 1, [])), (83, (21, 1, 0, [])), (84, (48, 3, 0, [88])), (87, (0, 1, (-1), [])), (88, (90, 1, 0, []))]
/-- EiderClimate$Cover.isInside(I)Z -/
def mc_12 : List (Nat × mI) := [(0, (6, 1, 0, [0])), (1, (1, 2, 6, [])), (3, (24, 1, 0, [])), (4, (12, 1, 0, [1])), (5, (6, 1, 0, [0])), (6, (1, 2, 6, [])), (8, (23, 1, 0, [])), (9, (12, 1, 0, [2])), (10, (6, 1, 0, [1])), (11, (105, 3, 0, [32])), (14, (6, 1, 0, [1])), (15, (0, 1, 5, [])), (16, (113, 3, 0, [32])), (19, (6, 1, 0, [2])), (20, (105, 3, 0, [32])), (23, (6, 1, 0, [2])), (24, (0, 1, 4, [])), (25, (113, 3, 0, [32])), (28, (0, 1, 1, [])), (29, (48, 3, 0, [33])), (32, (0, 1, 0, [])), (33, (94, 1, 0, []))]
/-- EiderClimate$Cover.thickBeside(I)I -/
def mc_13 : List (Nat × mI) := [(0, (6, 1, 0, [1])), (1, (1, 2, 6, [])), (3, (24, 1, 0, [])), (4, (12, 1, 0, [2])), (5, (6, 1, 0, [1])), (6, (1, 2, 6, [])), (8, (112, 3, 0, [23])), (11, (8, 1, 0, [0])), (12, (52, 3, 2, [1, 1, 1030, 15, 1039])), (15, (6, 1, 0, [1])), (16, (1, 2, 6, [])), (18, (21, 1, 0, [])), (19, (60, 1, 0, [])), (20, (48, 3, 0, [24])), (23, (0, 1, 0, [])), (24, (12, 1, 0, [3])), (25, (6, 1, 0, [2])), (26, (0, 1, 5, [])), (27, (113, 3, 0, [41])), (30, (8, 1, 0, [0])), (31, (52, 3, 2, [1, 1, 1030, 15, 1039])), (34, (6, 1, 0, [1])), (35, (0, 1, 1, [])), (36, (20, 1, 0, [])), (37, (60, 1, 0, [])), (38, (48, 3, 0, [42])), (41, (0, 1, 0, [])), (42, (13, 2, 0, [4])), (44, (6, 1, 0, [1])), (45, (1, 2, 24, [])), (47, (113, 3, 0, [62])), (50, (8, 1, 0, [0])), (51, (52, 3, 2, [1, 1, 1030, 15, 1039])), (54, (6, 1, 0, [1])), (55, (1, 2, 6, [])), (57, (20, 1, 0, [])), (58, (60, 1, 0, [])), (59, (48, 3, 0, [63])), (62, (0, 1, 0, [])), (63, (13, 2, 0, [5])), (65, (6, 1, 0, [2])), (66, (105, 3, 0, [80])), (69, (8, 1, 0, [0])), (70, (52, 3, 2, [1, 1, 1030, 15, 1039])), (73, (6, 1, 0, [1])), (74, (0, 1, 1, [])), (75, (21, 1, 0, [])), (76, (60, 1, 0, [])), (77, (48, 3, 0, [81])), (80, (0, 1, 0, [])), (81, (13, 2, 0, [6])), (83, (6, 1, 0, [3])), (84, (7, 2, 0, [4])), (86, (20, 1, 0, [])), (87, (7, 2, 0, [5])), (89, (20, 1, 0, [])), (90, (7, 2, 0, [6])), (92, (20, 1, 0, [])), (93, (90, 1, 0, []))]
/-- EiderClimate$Cover.passMonth(I)V -/
def mc_14 : List (Nat × mI) := [(0, (8, 1, 0, [0])), (1, (76, 3, 0, [15, 1, 0, 21, 34, 3012])), (4, (8, 1, 0, [0])), (5, (52, 3, 4, [1, 3, 1005, 21, 1046])), (8, (0, 1, 0, [])), (9, (43, 1, 0, [])), (10, (60, 1, 0, [])), (11, (0, 1, 1, [])), (12, (20, 1, 0, [])), (13, (61, 1, 0, [])), (14, (6, 1, 0, [1])), (15, (105, 3, 0, [50])), (18, (8, 1, 0, [0])), (19, (52, 3, 4, [1, 3, 1005, 21, 1046])), (22, (0, 1, 0, [])), (23, (60, 1, 0, [])), (24, (6, 1, 0, [1])), (25, (24, 1, 0, [])), (26, (101, 3, 0, [50])), (29, (8, 1, 0, [0])), (30, (52, 3, 1, [1, 0, 1030, 9, 1035])), (33, (77, 3, 0, [16, 1, 0, 0, 37, 3016])), (36, (8, 1, 0, [0])), (37, (52, 3, 2, [1, 1, 1030, 15, 1039])), (40, (77, 3, 0, [16, 1, 0, 0, 37, 3016])), (43, (8, 1, 0, [0])), (44, (52, 3, 3, [1, 2, 1030, 18, 1044])), (47, (77, 3, 0, [16, 1, 0, 0, 37, 3016])), (50, (8, 1, 0, [0])), (51, (8, 1, 0, [0])), (52, (51, 3, 0, [1, 4, 0, 30, 1048])), (55, (0, 1, 1, [])), (56, (20, 1, 0, [])), (57, (1, 2, 12, [])), (59, (24, 1, 0, [])), (60, (54, 3, 0, [1, 4, 0, 30, 1048])), (63, (93, 1, 0, []))]
/-- EiderClimate$Cover.wear()V -/
def mc_15 : List (Nat × mI) := [(0, (0, 1, 0, [])), (1, (12, 1, 0, [1])), (2, (6, 1, 0, [1])), (3, (1, 2, 30, [])), (5, (113, 3, 0, [61])), (8, (8, 1, 0, [0])), (9, (52, 3, 2, [1, 1, 1030, 15, 1039])), (12, (6, 1, 0, [1])), (13, (60, 1, 0, [])), (14, (105, 3, 0, [55])), (17, (8, 1, 0, [0])), (18, (52, 3, 3, [1, 2, 1030, 18, 1044])), (21, (6, 1, 0, [1])), (22, (43, 1, 0, [])), (23, (60, 1, 0, [])), (24, (0, 1, 1, [])), (25, (20, 1, 0, [])), (26, (61, 1, 0, [])), (27, (8, 1, 0, [0])), (28, (52, 3, 3, [1, 2, 1030, 18, 1044])), (31, (6, 1, 0, [1])), (32, (60, 1, 0, [])), (33, (1, 2, 12, [])), (35, (112, 3, 0, [55])), (38, (8, 1, 0, [0])), (39, (52, 3, 2, [1, 1, 1030, 15, 1039])), (42, (6, 1, 0, [1])), (43, (43, 1, 0, [])), (44, (60, 1, 0, [])), (45, (0, 1, 1, [])), (46, (21, 1, 0, [])), (47, (61, 1, 0, [])), (48, (8, 1, 0, [0])), (49, (52, 3, 3, [1, 2, 1030, 18, 1044])), (52, (6, 1, 0, [1])), (53, (0, 1, 0, [])), (54, (61, 1, 0, [])), (55, (17, 3, 1, [1])), (58, (48, 3, 0, [2])), (61, (93, 1, 0, []))]
/-- EiderClimate$Cover.slideDown([I)V -/
def mc_16 : List (Nat × mI) := [(0, (0, 1, 0, [])), (1, (12, 1, 0, [1])), (2, (6, 1, 0, [1])), (3, (1, 2, 6, [])), (5, (113, 3, 0, [51])), (8, (8, 1, 0, [0])), (9, (1, 2, 24, [])), (11, (6, 1, 0, [1])), (12, (20, 1, 0, [])), (13, (60, 1, 0, [])), (14, (12, 1, 0, [2])), (15, (1, 2, 24, [])), (17, (6, 1, 0, [1])), (18, (20, 1, 0, [])), (19, (12, 1, 0, [3])), (20, (6, 1, 0, [3])), (21, (1, 2, 6, [])), (23, (112, 3, 0, [41])), (26, (8, 1, 0, [0])), (27, (6, 1, 0, [3])), (28, (8, 1, 0, [0])), (29, (6, 1, 0, [3])), (30, (1, 2, 6, [])), (32, (21, 1, 0, [])), (33, (60, 1, 0, [])), (34, (61, 1, 0, [])), (35, (17, 3, (-6), [3])), (38, (48, 3, 0, [20])), (41, (8, 1, 0, [0])), (42, (6, 1, 0, [1])), (43, (6, 1, 0, [2])), (44, (61, 1, 0, [])), (45, (17, 3, 1, [1])), (48, (48, 3, 0, [2])), (51, (93, 1, 0, []))]
/-- EiderClimate$Cover.moveRow(II)V -/
def mc_17 : List (Nat × mI) := [(0, (8, 1, 0, [0])), (1, (52, 3, 1, [1, 0, 1030, 9, 1035])), (4, (6, 1, 0, [1])), (5, (1, 2, 6, [])), (7, (22, 1, 0, [])), (8, (6, 1, 0, [2])), (9, (77, 3, 0, [18, 3, 0, 0, 41, 3096])), (12, (8, 1, 0, [0])), (13, (52, 3, 2, [1, 1, 1030, 15, 1039])), (16, (6, 1, 0, [1])), (17, (1, 2, 6, [])), (19, (22, 1, 0, [])), (20, (6, 1, 0, [2])), (21, (77, 3, 0, [18, 3, 0, 0, 41, 3096])), (24, (8, 1, 0, [0])), (25, (52, 3, 3, [1, 2, 1030, 18, 1044])), (28, (6, 1, 0, [1])), (29, (1, 2, 6, [])), (31, (22, 1, 0, [])), (32, (6, 1, 0, [2])), (33, (77, 3, 0, [18, 3, 0, 0, 41, 3096])), (36, (93, 1, 0, []))]
/-- EiderClimate$Cover.turn([III)V -/
def mc_18 : List (Nat × mI) := [(0, (6, 1, 0, [1])), (1, (1, 2, 6, [])), (3, (20, 1, 0, [])), (4, (0, 1, 1, [])), (5, (21, 1, 0, [])), (6, (12, 1, 0, [3])), (7, (6, 1, 0, [2])), (8, (101, 3, 0, [34])), (11, (8, 1, 0, [0])), (12, (6, 1, 0, [3])), (13, (60, 1, 0, [])), (14, (13, 2, 0, [4])), (16, (8, 1, 0, [0])), (17, (6, 1, 0, [1])), (18, (8, 1, 0, [0])), (19, (6, 1, 0, [1])), (20, (0, 1, 1, [])), (21, (20, 1, 0, [])), (22, (0, 1, 5, [])), (23, (83, 3, 0, [24, 3007])), (26, (8, 1, 0, [0])), (27, (6, 1, 0, [1])), (28, (7, 2, 0, [4])), (30, (61, 1, 0, [])), (31, (48, 3, 0, [54])), (34, (8, 1, 0, [0])), (35, (6, 1, 0, [1])), (36, (60, 1, 0, [])), (37, (13, 2, 0, [4])), (39, (8, 1, 0, [0])), (40, (6, 1, 0, [1])), (41, (0, 1, 1, [])), (42, (20, 1, 0, [])), (43, (8, 1, 0, [0])), (44, (6, 1, 0, [1])), (45, (0, 1, 5, [])), (46, (83, 3, 0, [24, 3007])), (49, (8, 1, 0, [0])), (50, (6, 1, 0, [3])), (51, (7, 2, 0, [4])), (53, (61, 1, 0, [])), (54, (93, 1, 0, []))]
/-- EiderClimate$Cover.mixAbout(I)V -/
def mc_19 : List (Nat × mI) := [(0, (0, 1, 0, [])), (1, (12, 1, 0, [2])), (2, (0, 1, 0, [])), (3, (12, 1, 0, [3])), (4, (6, 1, 0, [3])), (5, (1, 2, 9, [])), (7, (113, 3, 0, [29])), (10, (6, 1, 0, [2])), (11, (8, 1, 0, [0])), (12, (52, 3, 2, [1, 1, 1030, 15, 1039])), (15, (6, 1, 0, [1])), (16, (6, 1, 0, [3])), (17, (77, 3, 0, [20, 2, 1, 0, 45, 3114])), (20, (60, 1, 0, [])), (21, (20, 1, 0, [])), (22, (12, 1, 0, [2])), (23, (17, 3, 1, [3])), (26, (48, 3, 0, [4])), (29, (0, 1, 0, [])), (30, (12, 1, 0, [3])), (31, (6, 1, 0, [3])), (32, (1, 2, 9, [])), (34, (113, 3, 0, [57])), (37, (8, 1, 0, [0])), (38, (52, 3, 2, [1, 1, 1030, 15, 1039])), (41, (6, 1, 0, [1])), (42, (6, 1, 0, [3])), (43, (77, 3, 0, [20, 2, 1, 0, 45, 3114])), (46, (6, 1, 0, [2])), (47, (1, 2, 9, [])), (49, (23, 1, 0, [])), (50, (61, 1, 0, [])), (51, (17, 3, 1, [3])), (54, (48, 3, 0, [31])), (57, (8, 1, 0, [0])), (58, (52, 3, 2, [1, 1, 1030, 15, 1039])), (61, (6, 1, 0, [1])), (62, (1, 2, 9, [])), (64, (6, 1, 0, [2])), (65, (1, 2, 9, [])), (67, (23, 1, 0, [])), (68, (6, 1, 0, [2])), (69, (1, 2, 9, [])), (71, (24, 1, 0, [])), (72, (20, 1, 0, [])), (73, (81, 3, 0, [49, 3117])), (76, (61, 1, 0, [])), (77, (93, 1, 0, []))]
/-- EiderClimate$Cover.ninth(II)I -/
def mc_20 : List (Nat × mI) := [(0, (6, 1, 0, [0])), (1, (6, 1, 0, [1])), (2, (0, 1, 3, [])), (3, (23, 1, 0, [])), (4, (0, 1, 1, [])), (5, (21, 1, 0, [])), (6, (1, 2, 6, [])), (8, (22, 1, 0, [])), (9, (20, 1, 0, [])), (10, (6, 1, 0, [1])), (11, (0, 1, 3, [])), (12, (24, 1, 0, [])), (13, (20, 1, 0, [])), (14, (0, 1, 1, [])), (15, (21, 1, 0, [])), (16, (90, 1, 0, []))]
/-- EiderClimate$Law.<init>()V -/
def mc_21 : List (Nat × mI) := [(0, (8, 1, 0, [0])), (1, (75, 3, 0, [3, 1068])), (4, (8, 1, 0, [0])), (5, (1, 2, 120, [])), (7, (70, 2, 0, [1000])), (9, (56, 3, 0, [2, 0, 1120, 9, 1069])), (12, (8, 1, 0, [0])), (13, (1, 2, 120, [])), (15, (70, 2, 0, [1000])), (17, (56, 3, 0, [2, 1, 1120, 15, 1070])), (20, (8, 1, 0, [0])), (21, (1, 2, 120, [])), (23, (70, 2, 0, [1000])), (25, (56, 3, 0, [2, 3, 1120, 18, 1072])), (28, (8, 1, 0, [0])), (29, (1, 2, 120, [])), (31, (71, 2, 0, [2000])), (33, (56, 3, 0, [2, 4, 2120, 21, 1073])), (36, (8, 1, 0, [0])), (37, (1, 2, 120, [])), (39, (70, 2, 0, [1000])), (41, (56, 3, 0, [2, 6, 1120, 25, 1075])), (44, (8, 1, 0, [0])), (45, (1, 2, 6, [])), (47, (70, 2, 0, [1000])), (49, (56, 3, 0, [2, 7, 1006, 28, 1076])), (52, (93, 1, 0, []))]
/-- EiderClimate$Law.clear()V -/
def mc_22 : List (Nat × mI) := [(0, (8, 1, 0, [0])), (1, (0, 1, 0, [])), (2, (54, 3, 0, [2, 2, 0, 31, 1071])), (5, (8, 1, 0, [0])), (6, (0, 1, 0, [])), (7, (54, 3, 0, [2, 5, 0, 35, 1074])), (10, (93, 1, 0, []))]
/-- EiderClimate$Law.addSign(II)V -/
def mc_23 : List (Nat × mI) := [(0, (8, 1, 0, [0])), (1, (51, 3, 0, [2, 2, 0, 31, 1071])), (4, (1, 2, 120, [])), (6, (113, 3, 0, [39])), (9, (8, 1, 0, [0])), (10, (52, 3, 1, [2, 0, 1120, 9, 1069])), (13, (8, 1, 0, [0])), (14, (51, 3, 0, [2, 2, 0, 31, 1071])), (17, (6, 1, 0, [1])), (18, (61, 1, 0, [])), (19, (8, 1, 0, [0])), (20, (52, 3, 2, [2, 1, 1120, 15, 1070])), (23, (8, 1, 0, [0])), (24, (51, 3, 0, [2, 2, 0, 31, 1071])), (27, (6, 1, 0, [2])), (28, (61, 1, 0, [])), (29, (8, 1, 0, [0])), (30, (42, 1, 0, [])), (31, (51, 3, 0, [2, 2, 0, 31, 1071])), (34, (0, 1, 1, [])), (35, (20, 1, 0, [])), (36, (54, 3, 0, [2, 2, 0, 31, 1071])), (39, (93, 1, 0, []))]
/-- EiderClimate$Law.endPart(Z)V -/
def mc_24 : List (Nat × mI) := [(0, (8, 1, 0, [0])), (1, (51, 3, 0, [2, 5, 0, 35, 1074])), (4, (1, 2, 120, [])), (6, (113, 3, 0, [42])), (9, (8, 1, 0, [0])), (10, (52, 3, 3, [2, 3, 1120, 18, 1072])), (13, (8, 1, 0, [0])), (14, (51, 3, 0, [2, 5, 0, 35, 1074])), (17, (8, 1, 0, [0])), (18, (51, 3, 0, [2, 2, 0, 31, 1071])), (21, (61, 1, 0, [])), (22, (8, 1, 0, [0])), (23, (52, 3, 4, [2, 4, 2120, 21, 1073])), (26, (8, 1, 0, [0])), (27, (51, 3, 0, [2, 5, 0, 35, 1074])), (30, (6, 1, 0, [1])), (31, (65, 1, 0, [])), (32, (8, 1, 0, [0])), (33, (42, 1, 0, [])), (34, (51, 3, 0, [2, 5, 0, 35, 1074])), (37, (0, 1, 1, [])), (38, (20, 1, 0, [])), (39, (54, 3, 0, [2, 5, 0, 35, 1074])), (42, (93, 1, 0, []))]
/-- EiderClimate$Law.warmth(LEiderClimate$Cover;I)I -/
def mc_25 : List (Nat × mI) := [(0, (0, 1, 0, [])), (1, (12, 1, 0, [3])), (2, (8, 1, 0, [0])), (3, (51, 3, 0, [2, 5, 0, 35, 1074])), (6, (101, 3, 0, [41])), (9, (8, 1, 0, [1])), (10, (52, 3, 1, [1, 0, 1030, 38, 1037])), (13, (6, 1, 0, [2])), (14, (60, 1, 0, [])), (15, (8, 1, 0, [1])), (16, (52, 3, 2, [1, 1, 1030, 43, 1041])), (19, (6, 1, 0, [2])), (20, (60, 1, 0, [])), (21, (22, 1, 0, [])), (22, (8, 1, 0, [1])), (23, (6, 1, 0, [2])), (24, (76, 3, 0, [13, 2, 1, 21, 46, 3023])), (27, (0, 1, 4, [])), (28, (23, 1, 0, [])), (29, (20, 1, 0, [])), (30, (8, 1, 0, [1])), (31, (52, 3, 3, [1, 2, 1030, 50, 1045])), (34, (6, 1, 0, [2])), (35, (60, 1, 0, [])), (36, (21, 1, 0, [])), (37, (12, 1, 0, [3])), (38, (48, 3, 0, [47])), (41, (8, 1, 0, [0])), (42, (8, 1, 0, [1])), (43, (6, 1, 0, [2])), (44, (76, 3, 0, [26, 3, 0, 22, 53, 3027])), (47, (0, 1, 0, [])), (48, (13, 2, 0, [4])), (50, (7, 2, 0, [4])), (52, (8, 1, 0, [0])), (53, (51, 3, 0, [2, 5, 0, 35, 1074])), (56, (113, 3, 0, [92])), (59, (8, 1, 0, [0])), (60, (7, 2, 0, [4])), (62, (76, 3, 0, [27, 2, 1, 22, 57, 3031])), (65, (12, 1, 0, [3])), (66, (8, 1, 0, [0])), (67, (52, 3, 4, [2, 4, 2120, 21, 1073])), (70, (7, 2, 0, [4])), (72, (64, 1, 0, [])), (73, (101, 3, 0, [79])), (76, (48, 3, 0, [92])), (79, (6, 1, 0, [3])), (80, (101, 3, 0, [86])), (83, (17, 3, 1, [4])), (86, (17, 3, 1, [4])), (89, (48, 3, 0, [50])), (92, (0, 1, 0, [])), (93, (1, 2, 99, [])), (95, (6, 1, 0, [3])), (96, (81, 3, 0, [60, 3038])), (99, (82, 3, 0, [66, 3041])), (102, (90, 1, 0, []))]
/-- EiderClimate$Law.lookAt(LEiderClimate$Cover;I)V -/
def mc_26 : List (Nat × mI) := [(0, (8, 1, 0, [0])), (1, (52, 3, 6, [2, 7, 1006, 28, 1076])), (4, (0, 1, 0, [])), (5, (8, 1, 0, [1])), (6, (52, 3, 1, [1, 0, 1030, 38, 1037])), (9, (6, 1, 0, [2])), (10, (60, 1, 0, [])), (11, (61, 1, 0, [])), (12, (8, 1, 0, [0])), (13, (52, 3, 6, [2, 7, 1006, 28, 1076])), (16, (0, 1, 1, [])), (17, (8, 1, 0, [1])), (18, (52, 3, 2, [1, 1, 1030, 43, 1041])), (21, (6, 1, 0, [2])), (22, (60, 1, 0, [])), (23, (61, 1, 0, [])), (24, (8, 1, 0, [0])), (25, (52, 3, 6, [2, 7, 1006, 28, 1076])), (28, (0, 1, 2, [])), (29, (8, 1, 0, [1])), (30, (52, 3, 3, [1, 2, 1030, 50, 1045])), (33, (6, 1, 0, [2])), (34, (60, 1, 0, [])), (35, (61, 1, 0, [])), (36, (8, 1, 0, [0])), (37, (52, 3, 6, [2, 7, 1006, 28, 1076])), (40, (0, 1, 3, [])), (41, (8, 1, 0, [1])), (42, (51, 3, 0, [1, 4, 0, 69, 1049])), (45, (61, 1, 0, [])), (46, (8, 1, 0, [0])), (47, (52, 3, 6, [2, 7, 1006, 28, 1076])), (50, (0, 1, 4, [])), (51, (8, 1, 0, [1])), (52, (6, 1, 0, [2])), (53, (76, 3, 0, [13, 2, 1, 21, 46, 3023])), (56, (61, 1, 0, [])), (57, (8, 1, 0, [0])), (58, (52, 3, 6, [2, 7, 1006, 28, 1076])), (61, (0, 1, 5, [])), (62, (6, 1, 0, [2])), (63, (1, 2, 6, [])), (65, (23, 1, 0, [])), (66, (61, 1, 0, [])), (67, (93, 1, 0, []))]
/-- EiderClimate$Law.valueOfPart(I)I -/
def mc_27 : List (Nat × mI) := [(0, (0, 1, 0, [])), (1, (12, 1, 0, [2])), (2, (6, 1, 0, [1])), (3, (101, 3, 0, [10])), (6, (0, 1, 0, [])), (7, (48, 3, 0, [18])), (10, (8, 1, 0, [0])), (11, (52, 3, 3, [2, 3, 1120, 18, 1072])), (14, (6, 1, 0, [1])), (15, (0, 1, 1, [])), (16, (21, 1, 0, [])), (17, (60, 1, 0, [])), (18, (12, 1, 0, [3])), (19, (6, 1, 0, [3])), (20, (8, 1, 0, [0])), (21, (52, 3, 3, [2, 3, 1120, 18, 1072])), (24, (6, 1, 0, [1])), (25, (60, 1, 0, [])), (26, (113, 3, 0, [201])), (29, (8, 1, 0, [0])), (30, (52, 3, 1, [2, 0, 1120, 9, 1069])), (33, (6, 1, 0, [3])), (34, (60, 1, 0, [])), (35, (13, 2, 0, [4])), (37, (7, 2, 0, [4])), (39, (1, 2, 48, [])), (41, (110, 3, 0, [51])), (44, (7, 2, 0, [4])), (46, (1, 2, 97, [])), (48, (111, 3, 0, [96])), (51, (6, 1, 0, [2])), (52, (1, 2, 120, [])), (54, (113, 3, 0, [195])), (57, (8, 1, 0, [0])), (58, (52, 3, 5, [2, 6, 1120, 25, 1075])), (61, (6, 1, 0, [2])), (62, (7, 2, 0, [4])), (64, (1, 2, 48, [])), (66, (111, 3, 0, [78])), (69, (8, 1, 0, [0])), (70, (52, 3, 2, [2, 1, 1120, 15, 1070])), (73, (6, 1, 0, [3])), (74, (60, 1, 0, [])), (75, (48, 3, 0, [89])), (78, (8, 1, 0, [0])), (79, (52, 3, 6, [2, 7, 1006, 28, 1076])), (82, (8, 1, 0, [0])), (83, (52, 3, 2, [2, 1, 1120, 15, 1070])), (86, (6, 1, 0, [3])), (87, (60, 1, 0, [])), (88, (60, 1, 0, [])), (89, (61, 1, 0, [])), (90, (17, 3, 1, [2])), (93, (48, 3, 0, [195])), (96, (7, 2, 0, [4])), (98, (1, 2, 33, [])), (100, (110, 3, 0, [110])), (103, (7, 2, 0, [4])), (105, (1, 2, 126, [])), (107, (111, 3, 0, [160])), (110, (6, 1, 0, [2])), (111, (105, 3, 0, [195])), (114, (8, 1, 0, [0])), (115, (52, 3, 5, [2, 6, 1120, 25, 1075])), (118, (6, 1, 0, [2])), (119, (0, 1, 1, [])), (120, (21, 1, 0, [])), (121, (7, 2, 0, [4])), (123, (1, 2, 33, [])), (125, (110, 3, 0, [140])), (128, (8, 1, 0, [0])), (129, (52, 3, 5, [2, 6, 1120, 25, 1075])), (132, (6, 1, 0, [2])), (133, (0, 1, 1, [])), (134, (21, 1, 0, [])), (135, (60, 1, 0, [])), (136, (25, 1, 0, [])), (137, (48, 3, 0, [156])), (140, (8, 1, 0, [0])), (141, (52, 3, 5, [2, 6, 1120, 25, 1075])), (144, (6, 1, 0, [2])), (145, (0, 1, 1, [])), (146, (21, 1, 0, [])), (147, (60, 1, 0, [])), (148, (101, 3, 0, [155])), (151, (0, 1, 1, [])), (152, (48, 3, 0, [156])), (155, (0, 1, 0, [])), (156, (61, 1, 0, [])), (157, (48, 3, 0, [195])), (160, (6, 1, 0, [2])), (161, (0, 1, 1, [])), (162, (115, 3, 0, [195])), (165, (17, 3, (-1), [2])), (168, (8, 1, 0, [0])), (169, (52, 3, 5, [2, 6, 1120, 25, 1075])), (172, (6, 1, 0, [2])), (173, (0, 1, 1, [])), (174, (21, 1, 0, [])), (175, (7, 2, 0, [4])), (177, (8, 1, 0, [0])), (178, (52, 3, 5, [2, 6, 1120, 25, 1075])), (181, (6, 1, 0, [2])), (182, (0, 1, 1, [])), (183, (21, 1, 0, [])), (184, (60, 1, 0, [])), (185, (8, 1, 0, [0])), (186, (52, 3, 5, [2, 6, 1120, 25, 1075])), (189, (6, 1, 0, [2])), (190, (60, 1, 0, [])), (191, (77, 3, 0, [29, 3, 1, 0, 72, 3035])), (194, (61, 1, 0, [])), (195, (17, 3, 1, [3])), (198, (48, 3, 0, [19])), (201, (6, 1, 0, [2])), (202, (105, 3, 0, [214])), (205, (8, 1, 0, [0])), (206, (52, 3, 5, [2, 6, 1120, 25, 1075])), (209, (0, 1, 0, [])), (210, (60, 1, 0, [])), (211, (48, 3, 0, [215])), (214, (0, 1, 0, [])), (215, (90, 1, 0, []))]
/-- EiderClimate$Law.nameOf(I)I -/
def mc_28 : List (Nat × mI) := [(0, (6, 1, 0, [0])), (1, (49, 67, 0, [80, 109, 74, 110, 76, 111, 80, 112, 80, 113, 80, 114, 80, 115, 68, 116, 70, 117, 80, 118, 80, 119, 72, 120, 80, 121, 78])), (68, (0, 1, 0, [])), (69, (90, 1, 0, [])), (70, (0, 1, 1, [])), (71, (90, 1, 0, [])), (72, (0, 1, 2, [])), (73, (90, 1, 0, [])), (74, (0, 1, 3, [])), (75, (90, 1, 0, [])), (76, (0, 1, 4, [])), (77, (90, 1, 0, [])), (78, (0, 1, 5, [])), (79, (90, 1, 0, [])), (80, (0, 1, (-1), [])), (81, (90, 1, 0, []))]
/-- EiderClimate$Law.joined(III)I -/
def mc_29 : List (Nat × mI) := [(0, (6, 1, 0, [0])), (1, (50, 83, 0, [169, 38, 98, 42, 153, 43, 145, 45, 149, 47, 157, 60, 112, 61, 123, 62, 134, 124, 84])), (84, (6, 1, 0, [1])), (85, (101, 3, 0, [92])), (88, (6, 1, 0, [2])), (89, (100, 3, 0, [96])), (92, (0, 1, 1, [])), (93, (48, 3, 0, [97])), (96, (0, 1, 0, [])), (97, (90, 1, 0, [])), (98, (6, 1, 0, [1])), (99, (100, 3, 0, [110])), (102, (6, 1, 0, [2])), (103, (100, 3, 0, [110])), (106, (0, 1, 1, [])), (107, (48, 3, 0, [111])), (110, (0, 1, 0, [])), (111, (90, 1, 0, [])), (112, (6, 1, 0, [1])), (113, (6, 1, 0, [2])), (114, (113, 3, 0, [121])), (117, (0, 1, 1, [])), (118, (48, 3, 0, [122])), (121, (0, 1, 0, [])), (122, (90, 1, 0, [])), (123, (6, 1, 0, [1])), (124, (6, 1, 0, [2])), (125, (111, 3, 0, [132])), (128, (0, 1, 1, [])), (129, (48, 3, 0, [133])), (132, (0, 1, 0, [])), (133, (90, 1, 0, [])), (134, (6, 1, 0, [1])), (135, (6, 1, 0, [2])), (136, (115, 3, 0, [143])), (139, (0, 1, 1, [])), (140, (48, 3, 0, [144])), (143, (0, 1, 0, [])), (144, (90, 1, 0, [])), (145, (6, 1, 0, [1])), (146, (6, 1, 0, [2])), (147, (20, 1, 0, [])), (148, (90, 1, 0, [])), (149, (6, 1, 0, [1])), (150, (6, 1, 0, [2])), (151, (21, 1, 0, [])), (152, (90, 1, 0, [])), (153, (6, 1, 0, [1])), (154, (6, 1, 0, [2])), (155, (22, 1, 0, [])), (156, (90, 1, 0, [])), (157, (6, 1, 0, [2])), (158, (101, 3, 0, [165])), (161, (0, 1, 0, [])), (162, (48, 3, 0, [168])), (165, (6, 1, 0, [1])), (166, (6, 1, 0, [2])), (167, (23, 1, 0, [])), (168, (90, 1, 0, [])), (169, (6, 1, 0, [2])), (170, (101, 3, 0, [177])), (173, (0, 1, 0, [])), (174, (48, 3, 0, [180])), (177, (6, 1, 0, [1])), (178, (6, 1, 0, [2])), (179, (24, 1, 0, [])), (180, (90, 1, 0, []))]
/-- EiderClimate$Shelf.<init>()V -/
def mc_30 : List (Nat × mI) := [(0, (8, 1, 0, [0])), (1, (75, 3, 0, [3, 2044])), (4, (8, 1, 0, [0])), (5, (1, 2, 60, [])), (7, (72, 2, 0, [3000])), (9, (56, 3, 0, [3, 0, 3060, 9, 2045])), (12, (8, 1, 0, [0])), (13, (1, 2, (-2), [])), (15, (54, 3, 0, [3, 1, 0, 15, 2048])), (18, (93, 1, 0, []))]
/-- EiderClimate$Shelf.holdStitch(I)V -/
def mc_31 : List (Nat × mI) := [(0, (8, 1, 0, [0])), (1, (6, 1, 0, [1])), (2, (103, 3, 0, [10])), (5, (1, 2, (-2), [])), (7, (48, 3, 0, [11])), (10, (0, 1, (-1), [])), (11, (54, 3, 0, [3, 1, 0, 15, 2048])), (14, (8, 1, 0, [0])), (15, (6, 1, 0, [1])), (16, (54, 3, 0, [3, 3, 0, 19, 2053])), (19, (8, 1, 0, [0])), (20, (0, 1, 0, [])), (21, (54, 3, 0, [3, 2, 0, 22, 2050])), (24, (93, 1, 0, []))]
/-- EiderClimate$Shelf.holdRow(II)V -/
def mc_32 : List (Nat × mI) := [(0, (8, 1, 0, [0])), (1, (6, 1, 0, [1])), (2, (54, 3, 0, [3, 1, 0, 15, 2048])), (5, (8, 1, 0, [0])), (6, (6, 1, 0, [2])), (7, (54, 3, 0, [3, 2, 0, 22, 2050])), (10, (0, 1, 0, [])), (11, (12, 1, 0, [3])), (12, (6, 1, 0, [3])), (13, (6, 1, 0, [2])), (14, (113, 3, 0, [36])), (17, (6, 1, 0, [3])), (18, (1, 2, 60, [])), (20, (113, 3, 0, [36])), (23, (8, 1, 0, [0])), (24, (52, 3, 1, [3, 0, 3060, 9, 2045])), (27, (6, 1, 0, [3])), (28, (4, 1, 0, [])), (29, (63, 1, 0, [])), (30, (17, 3, 1, [3])), (33, (48, 3, 0, [12])), (36, (93, 1, 0, []))]
/-- EiderClimate$Shelf.isRow()Z -/
def mc_33 : List (Nat × mI) := [(0, (8, 1, 0, [0])), (1, (51, 3, 0, [3, 1, 0, 15, 2048])), (4, (102, 3, 0, [11])), (7, (0, 1, 1, [])), (8, (48, 3, 0, [12])), (11, (0, 1, 0, [])), (12, (94, 1, 0, []))]
/-- EiderClimate$Shelf.hasPlaces(II)Z -/
def mc_34 : List (Nat × mI) := [(0, (6, 1, 0, [1])), (1, (102, 3, 0, [30])), (4, (6, 1, 0, [2])), (5, (102, 3, 0, [30])), (8, (6, 1, 0, [2])), (9, (8, 1, 0, [0])), (10, (51, 3, 0, [3, 2, 0, 22, 2050])), (13, (114, 3, 0, [30])), (16, (6, 1, 0, [1])), (17, (8, 1, 0, [0])), (18, (51, 3, 0, [3, 2, 0, 22, 2050])), (21, (6, 1, 0, [2])), (22, (21, 1, 0, [])), (23, (114, 3, 0, [30])), (26, (0, 1, 1, [])), (27, (48, 3, 0, [31])), (30, (0, 1, 0, [])), (31, (94, 1, 0, []))]
/-- EiderClimate$Shelf.lowestBits(IJ)J -/
def mc_35 : List (Nat × mI) := [(0, (6, 1, 0, [0])), (1, (49, 31, 0, [48, 0, 32, 1, 37, 2, 42, 3, 46])), (32, (10, 1, 0, [1])), (33, (39, 1, 0, [])), (34, (40, 1, 0, [])), (35, (38, 1, 0, [])), (36, (91, 1, 0, [])), (37, (10, 1, 0, [1])), (38, (39, 1, 0, [])), (39, (41, 1, 0, [])), (40, (38, 1, 0, [])), (41, (91, 1, 0, [])), (42, (10, 1, 0, [1])), (43, (39, 1, 0, [])), (44, (38, 1, 0, [])), (45, (91, 1, 0, [])), (46, (10, 1, 0, [1])), (47, (91, 1, 0, [])), (48, (10, 1, 0, [1])), (49, (4, 1, 0, [])), (50, (37, 1, 0, [])), (51, (100, 3, 0, [58])), (54, (4, 1, 1, [])), (55, (48, 3, 0, [59])), (58, (4, 1, 0, [])), (59, (91, 1, 0, []))]
/-- EiderClimate$Shore.<init>()V -/
def mc_36 : List (Nat × mI) := [(0, (8, 1, 0, [0])), (1, (75, 3, 0, [3, 1028])), (4, (8, 1, 0, [0])), (5, (74, 3, 0, [1, 5, 9, 1029, 1030, 1003])), (8, (42, 1, 0, [])), (9, (80, 3, 0, [5, 1, 0, 21, 11, 1031])), (12, (56, 3, 0, [4, 0, 21, 12, 1095])), (15, (8, 1, 0, [0])), (16, (1, 2, 8, [])), (18, (70, 2, 0, [1000])), (20, (56, 3, 0, [4, 1, 1008, 18, 1098])), (23, (8, 1, 0, [0])), (24, (1, 2, 8, [])), (26, (70, 2, 0, [1000])), (28, (56, 3, 0, [4, 2, 1008, 22, 1100])), (31, (8, 1, 0, [0])), (32, (1, 2, 8, [])), (34, (70, 2, 0, [1000])), (36, (56, 3, 0, [4, 3, 1008, 25, 1101])), (39, (8, 1, 0, [0])), (40, (74, 3, 0, [2, 8, 28, 1063, 1064, 1004])), (43, (42, 1, 0, [])), (44, (80, 3, 0, [21, 1, 0, 22, 30, 1065])), (47, (55, 3, 0, [4, 6, 22, 31, 1107])), (50, (8, 1, 0, [0])), (51, (74, 3, 0, [2, 8, 28, 1063, 1064, 1004])), (54, (42, 1, 0, [])), (55, (80, 3, 0, [21, 1, 0, 22, 30, 1065])), (58, (55, 3, 0, [4, 7, 22, 35, 1110])), (61, (93, 1, 0, []))]
/-- EiderClimate$Shore.enactDraft()V -/
def mc_37 : List (Nat × mI) := [(0, (8, 1, 0, [0])), (1, (53, 3, 0, [4, 6, 22, 31, 1107])), (4, (14, 1, 0, [1])), (5, (8, 1, 0, [0])), (6, (8, 1, 0, [0])), (7, (53, 3, 0, [4, 7, 22, 35, 1110])), (10, (55, 3, 0, [4, 6, 22, 31, 1107])), (13, (8, 1, 0, [0])), (14, (8, 1, 0, [1])), (15, (55, 3, 0, [4, 7, 22, 35, 1110])), (18, (93, 1, 0, []))]
/-- EiderClimate$Shore.isHouse(I)Z -/
def mc_38 : List (Nat × mI) := [(0, (6, 1, 0, [1])), (1, (102, 3, 0, [16])), (4, (6, 1, 0, [1])), (5, (8, 1, 0, [0])), (6, (51, 3, 0, [4, 4, 0, 38, 1102])), (9, (113, 3, 0, [16])), (12, (0, 1, 1, [])), (13, (48, 3, 0, [17])), (16, (0, 1, 0, [])), (17, (94, 1, 0, []))]
/-- EiderClimate$Shore.addHouse(III)I -/
def mc_39 : List (Nat × mI) := [(0, (8, 1, 0, [0])), (1, (51, 3, 0, [4, 4, 0, 38, 1102])), (4, (1, 2, 8, [])), (6, (112, 3, 0, [12])), (9, (1, 2, (-3), [])), (11, (90, 1, 0, [])), (12, (8, 1, 0, [0])), (13, (52, 3, 6, [4, 1, 1008, 18, 1098])), (16, (8, 1, 0, [0])), (17, (51, 3, 0, [4, 4, 0, 38, 1102])), (20, (6, 1, 0, [1])), (21, (61, 1, 0, [])), (22, (8, 1, 0, [0])), (23, (52, 3, 7, [4, 2, 1008, 22, 1100])), (26, (8, 1, 0, [0])), (27, (51, 3, 0, [4, 4, 0, 38, 1102])), (30, (6, 1, 0, [2])), (31, (61, 1, 0, [])), (32, (8, 1, 0, [0])), (33, (52, 3, 8, [4, 3, 1008, 25, 1101])), (36, (8, 1, 0, [0])), (37, (51, 3, 0, [4, 4, 0, 38, 1102])), (40, (6, 1, 0, [3])), (41, (61, 1, 0, [])), (42, (8, 1, 0, [0])), (43, (42, 1, 0, [])), (44, (51, 3, 0, [4, 4, 0, 38, 1102])), (47, (0, 1, 1, [])), (48, (20, 1, 0, [])), (49, (54, 3, 0, [4, 4, 0, 38, 1102])), (52, (8, 1, 0, [0])), (53, (51, 3, 0, [4, 4, 0, 38, 1102])), (56, (0, 1, 1, [])), (57, (21, 1, 0, [])), (58, (90, 1, 0, []))]
/-- EiderClimate$Shore.hasNumber(II)Z -/
def mc_40 : List (Nat × mI) := [(0, (6, 1, 0, [2])), (1, (102, 3, 0, [10])), (4, (6, 1, 0, [2])), (5, (1, 2, 7, [])), (7, (115, 3, 0, [12])), (10, (0, 1, 0, [])), (11, (94, 1, 0, [])), (12, (6, 1, 0, [2])), (13, (0, 1, 2, [])), (14, (114, 3, 0, [22])), (17, (6, 1, 0, [1])), (18, (79, 3, 0, [127, 1, 1, 0, 42, 2127])), (21, (94, 1, 0, [])), (22, (6, 1, 0, [2])), (23, (0, 1, 5, [])), (24, (114, 3, 0, [35])), (27, (8, 1, 0, [0])), (28, (6, 1, 0, [1])), (29, (76, 3, 0, [38, 2, 1, 24, 46, 2130])), (32, (48, 3, 0, [44])), (35, (6, 1, 0, [1])), (36, (101, 3, 0, [43])), (39, (0, 1, 1, [])), (40, (48, 3, 0, [44])), (43, (0, 1, 0, [])), (44, (94, 1, 0, []))]
/-- EiderClimate$Shore.numberOf(II)I -/
def mc_41 : List (Nat × mI) := [(0, (6, 1, 0, [2])), (1, (49, 35, 0, [70, 3, 36, 4, 43, 5, 50, 6, 57, 7, 65])), (36, (8, 1, 0, [0])), (37, (52, 3, 6, [4, 1, 1008, 18, 1098])), (40, (6, 1, 0, [1])), (41, (60, 1, 0, [])), (42, (90, 1, 0, [])), (43, (8, 1, 0, [0])), (44, (52, 3, 7, [4, 2, 1008, 22, 1100])), (47, (6, 1, 0, [1])), (48, (60, 1, 0, [])), (49, (90, 1, 0, [])), (50, (8, 1, 0, [0])), (51, (52, 3, 8, [4, 3, 1008, 25, 1101])), (54, (6, 1, 0, [1])), (55, (60, 1, 0, [])), (56, (90, 1, 0, [])), (57, (8, 1, 0, [0])), (58, (52, 3, 1, [4, 0, 21, 12, 1095])), (61, (51, 3, 0, [1, 4, 0, 49, 1050])), (64, (90, 1, 0, [])), (65, (8, 1, 0, [0])), (66, (51, 3, 0, [4, 5, 0, 52, 1105])), (69, (90, 1, 0, [])), (70, (8, 1, 0, [0])), (71, (52, 3, 1, [4, 0, 21, 12, 1095])), (74, (6, 1, 0, [1])), (75, (6, 1, 0, [2])), (76, (76, 3, 0, [7, 3, 1, 21, 55, 2138])), (79, (90, 1, 0, []))]
/-- EiderClimate$Shore.setNumber(III)V -/
def mc_42 : List (Nat × mI) := [(0, (6, 1, 0, [2])), (1, (49, 35, 0, [85, 3, 36, 4, 46, 5, 56, 6, 66, 7, 77])), (36, (8, 1, 0, [0])), (37, (52, 3, 6, [4, 1, 1008, 18, 1098])), (40, (6, 1, 0, [1])), (41, (6, 1, 0, [3])), (42, (61, 1, 0, [])), (43, (48, 3, 0, [95])), (46, (8, 1, 0, [0])), (47, (52, 3, 7, [4, 2, 1008, 22, 1100])), (50, (6, 1, 0, [1])), (51, (6, 1, 0, [3])), (52, (61, 1, 0, [])), (53, (48, 3, 0, [95])), (56, (8, 1, 0, [0])), (57, (52, 3, 8, [4, 3, 1008, 25, 1101])), (60, (6, 1, 0, [1])), (61, (6, 1, 0, [3])), (62, (61, 1, 0, [])), (63, (48, 3, 0, [95])), (66, (8, 1, 0, [0])), (67, (52, 3, 1, [4, 0, 21, 12, 1095])), (70, (6, 1, 0, [3])), (71, (54, 3, 0, [1, 4, 0, 49, 1050])), (74, (48, 3, 0, [95])), (77, (8, 1, 0, [0])), (78, (6, 1, 0, [3])), (79, (54, 3, 0, [4, 5, 0, 52, 1105])), (82, (48, 3, 0, [95])), (85, (8, 1, 0, [0])), (86, (52, 3, 1, [4, 0, 21, 12, 1095])), (89, (6, 1, 0, [1])), (90, (6, 1, 0, [2])), (91, (6, 1, 0, [3])), (92, (76, 3, 0, [8, 4, 0, 21, 59, 2146])), (95, (93, 1, 0, []))]
/-- EiderClimate$Shore.isCold(LEiderClimate$Cover;I)Z -/
def mc_43 : List (Nat × mI) := [(0, (8, 1, 0, [0])), (1, (52, 3, 8, [4, 3, 1008, 25, 1101])), (4, (6, 1, 0, [2])), (5, (60, 1, 0, [])), (6, (8, 1, 0, [1])), (7, (51, 3, 0, [1, 4, 0, 49, 1050])), (10, (30, 1, 0, [])), (11, (0, 1, 1, [])), (12, (26, 1, 0, [])), (13, (0, 1, 1, [])), (14, (111, 3, 0, [21])), (17, (0, 1, 1, [])), (18, (48, 3, 0, [22])), (21, (0, 1, 0, [])), (22, (12, 1, 0, [3])), (23, (6, 1, 0, [3])), (24, (100, 3, 0, [54])), (27, (8, 1, 0, [0])), (28, (53, 3, 0, [4, 6, 22, 31, 1107])), (31, (8, 1, 0, [1])), (32, (8, 1, 0, [0])), (33, (52, 3, 6, [4, 1, 1008, 18, 1098])), (36, (6, 1, 0, [2])), (37, (60, 1, 0, [])), (38, (76, 3, 0, [25, 3, 1, 22, 63, 3057])), (41, (8, 1, 0, [0])), (42, (52, 3, 7, [4, 2, 1008, 22, 1100])), (45, (6, 1, 0, [2])), (46, (60, 1, 0, [])), (47, (113, 3, 0, [54])), (50, (0, 1, 1, [])), (51, (48, 3, 0, [55])), (54, (0, 1, 0, [])), (55, (94, 1, 0, []))]
/-- EiderClimate$Shore.coldBits(LEiderClimate$Cover;)I -/
def mc_44 : List (Nat × mI) := [(0, (0, 1, 0, [])), (1, (12, 1, 0, [2])), (2, (0, 1, 0, [])), (3, (12, 1, 0, [3])), (4, (6, 1, 0, [3])), (5, (8, 1, 0, [0])), (6, (51, 3, 0, [4, 4, 0, 38, 1102])), (9, (113, 3, 0, [33])), (12, (8, 1, 0, [0])), (13, (8, 1, 0, [1])), (14, (6, 1, 0, [3])), (15, (76, 3, 0, [43, 3, 1, 24, 67, 3053])), (18, (100, 3, 0, [27])), (21, (6, 1, 0, [2])), (22, (0, 1, 1, [])), (23, (6, 1, 0, [3])), (24, (29, 1, 0, [])), (25, (27, 1, 0, [])), (26, (12, 1, 0, [2])), (27, (17, 3, 1, [3])), (30, (48, 3, 0, [4])), (33, (6, 1, 0, [2])), (34, (90, 1, 0, []))]
/-- EiderClimate$Shore.warmestPlace(LEiderClimate$Cover;)I -/
def mc_45 : List (Nat × mI) := [(0, (0, 1, 0, [])), (1, (12, 1, 0, [2])), (2, (0, 1, (-1), [])), (3, (12, 1, 0, [3])), (4, (0, 1, 0, [])), (5, (13, 2, 0, [4])), (7, (7, 2, 0, [4])), (9, (1, 2, 30, [])), (11, (113, 3, 0, [44])), (14, (8, 1, 0, [0])), (15, (53, 3, 0, [4, 6, 22, 31, 1107])), (18, (8, 1, 0, [1])), (19, (7, 2, 0, [4])), (21, (76, 3, 0, [25, 3, 1, 22, 63, 3057])), (24, (13, 2, 0, [5])), (26, (7, 2, 0, [5])), (28, (6, 1, 0, [3])), (29, (115, 3, 0, [38])), (32, (7, 2, 0, [4])), (34, (12, 1, 0, [2])), (35, (7, 2, 0, [5])), (37, (12, 1, 0, [3])), (38, (17, 3, 1, [4])), (41, (48, 3, 0, [7])), (44, (6, 1, 0, [2])), (45, (90, 1, 0, []))]
/-- EiderClimate$Stitches.<init>()V -/
def mc_46 : List (Nat × mI) := [(0, (8, 1, 0, [0])), (1, (75, 3, 0, [3, 2020])), (4, (8, 1, 0, [0])), (5, (1, 2, 50, [])), (7, (70, 2, 0, [1000])), (9, (56, 3, 0, [5, 0, 1050, 11, 2021])), (12, (8, 1, 0, [0])), (13, (1, 2, 24, [])), (15, (70, 2, 0, [1000])), (17, (56, 3, 0, [5, 2, 1024, 15, 2025])), (20, (93, 1, 0, []))]
/-- EiderClimate$Stitches.isKind(I)Z -/
def mc_47 : List (Nat × mI) := [(0, (6, 1, 0, [0])), (1, (102, 3, 0, [14])), (4, (6, 1, 0, [0])), (5, (1, 2, 8, [])), (7, (113, 3, 0, [14])), (10, (0, 1, 1, [])), (11, (48, 3, 0, [15])), (14, (0, 1, 0, [])), (15, (94, 1, 0, []))]
/-- EiderClimate$Stitches.isStitch(I)Z -/
def mc_48 : List (Nat × mI) := [(0, (6, 1, 0, [1])), (1, (102, 3, 0, [16])), (4, (6, 1, 0, [1])), (5, (8, 1, 0, [0])), (6, (51, 3, 0, [5, 1, 0, 18, 2023])), (9, (113, 3, 0, [16])), (12, (0, 1, 1, [])), (13, (48, 3, 0, [17])), (16, (0, 1, 0, [])), (17, (94, 1, 0, []))]
/-- EiderClimate$Stitches.add(I)I -/
def mc_49 : List (Nat × mI) := [(0, (8, 1, 0, [0])), (1, (51, 3, 0, [5, 1, 0, 18, 2023])), (4, (1, 2, 50, [])), (6, (112, 3, 0, [12])), (9, (1, 2, (-3), [])), (11, (90, 1, 0, [])), (12, (8, 1, 0, [0])), (13, (52, 3, 1, [5, 0, 1050, 11, 2021])), (16, (8, 1, 0, [0])), (17, (51, 3, 0, [5, 1, 0, 18, 2023])), (20, (6, 1, 0, [1])), (21, (61, 1, 0, [])), (22, (8, 1, 0, [0])), (23, (42, 1, 0, [])), (24, (51, 3, 0, [5, 1, 0, 18, 2023])), (27, (0, 1, 1, [])), (28, (20, 1, 0, [])), (29, (54, 3, 0, [5, 1, 0, 18, 2023])), (32, (8, 1, 0, [0])), (33, (51, 3, 0, [5, 1, 0, 18, 2023])), (36, (0, 1, 1, [])), (37, (21, 1, 0, [])), (38, (90, 1, 0, []))]
/-- EiderClimate$Stitches.isOfKind(II)Z -/
def mc_50 : List (Nat × mI) := [(0, (8, 1, 0, [0])), (1, (6, 1, 0, [1])), (2, (76, 3, 0, [48, 2, 1, 25, 22, 4060])), (5, (101, 3, 0, [10])), (8, (0, 1, 0, [])), (9, (94, 1, 0, [])), (10, (8, 1, 0, [0])), (11, (52, 3, 1, [5, 0, 1050, 11, 2021])), (14, (6, 1, 0, [1])), (15, (60, 1, 0, [])), (16, (12, 1, 0, [3])), (17, (0, 1, 0, [])), (18, (13, 2, 0, [4])), (20, (7, 2, 0, [4])), (22, (1, 2, 8, [])), (24, (113, 3, 0, [48])), (27, (6, 1, 0, [3])), (28, (102, 3, 0, [48])), (31, (6, 1, 0, [3])), (32, (6, 1, 0, [2])), (33, (110, 3, 0, [48])), (36, (58, 3, 0, [7108, 901, 26, 4070])), (39, (6, 1, 0, [3])), (40, (60, 1, 0, [])), (41, (12, 1, 0, [3])), (42, (17, 3, 1, [4])), (45, (48, 3, 0, [20])), (48, (6, 1, 0, [3])), (49, (6, 1, 0, [2])), (50, (111, 3, 0, [57])), (53, (0, 1, 1, [])), (54, (48, 3, 0, [58])), (57, (0, 1, 0, [])), (58, (94, 1, 0, []))]
/-- EiderClimate$Stitches.begin(III)I -/
def mc_51 : List (Nat × mI) := [(0, (8, 1, 0, [0])), (1, (0, 1, 0, [])), (2, (54, 3, 0, [5, 3, 0, 29, 2027])), (5, (8, 1, 0, [0])), (6, (6, 1, 0, [1])), (7, (76, 3, 0, [48, 2, 1, 25, 22, 4060])), (10, (100, 3, 0, [22])), (13, (6, 1, 0, [2])), (14, (102, 3, 0, [22])), (17, (6, 1, 0, [2])), (18, (0, 1, 3, [])), (19, (115, 3, 0, [24])), (22, (0, 1, 0, [])), (23, (90, 1, 0, [])), (24, (8, 1, 0, [0])), (25, (6, 1, 0, [1])), (26, (8, 1, 0, [0])), (27, (52, 3, 1, [5, 0, 1050, 11, 2021])), (30, (6, 1, 0, [1])), (31, (60, 1, 0, [])), (32, (6, 1, 0, [2])), (33, (6, 1, 0, [3])), (34, (0, 1, 0, [])), (35, (76, 3, 0, [52, 6, 1, 25, 32, 4064])), (38, (90, 1, 0, []))]
/-- EiderClimate$Stitches.run(IIIII)I -/
def mc_52 : List (Nat × mI) := [(0, (6, 1, 0, [2])), (1, (13, 2, 0, [6])), (3, (0, 1, 0, [])), (4, (13, 2, 0, [7])), (6, (7, 2, 0, [7])), (8, (1, 2, 8, [])), (10, (113, 3, 0, [45])), (13, (7, 2, 0, [6])), (15, (102, 3, 0, [45])), (18, (58, 3, 0, [7232, 902, 36, 4068])), (21, (7, 2, 0, [6])), (23, (0, 1, 4, [])), (24, (22, 1, 0, [])), (25, (6, 1, 0, [3])), (26, (20, 1, 0, [])), (27, (60, 1, 0, [])), (28, (101, 3, 0, [45])), (31, (58, 3, 0, [7108, 901, 26, 4070])), (34, (7, 2, 0, [6])), (36, (60, 1, 0, [])), (37, (13, 2, 0, [6])), (39, (17, 3, 1, [7])), (42, (48, 3, 0, [6])), (45, (7, 2, 0, [6])), (47, (102, 3, 0, [57])), (50, (7, 2, 0, [5])), (52, (1, 2, 40, [])), (54, (115, 3, 0, [59])), (57, (0, 1, 0, [])), (58, (90, 1, 0, [])), (59, (58, 3, 0, [7232, 902, 36, 4068])), (62, (7, 2, 0, [6])), (64, (0, 1, 4, [])), (65, (22, 1, 0, [])), (66, (6, 1, 0, [3])), (67, (20, 1, 0, [])), (68, (60, 1, 0, [])), (69, (13, 2, 0, [7])), (71, (8, 1, 0, [0])), (72, (51, 3, 0, [5, 3, 0, 29, 2027])), (75, (1, 2, 24, [])), (77, (113, 3, 0, [91])), (80, (8, 1, 0, [0])), (81, (52, 3, 2, [5, 2, 1024, 15, 2025])), (84, (8, 1, 0, [0])), (85, (51, 3, 0, [5, 3, 0, 29, 2027])), (88, (7, 2, 0, [7])), (90, (61, 1, 0, [])), (91, (8, 1, 0, [0])), (92, (42, 1, 0, [])), (93, (51, 3, 0, [5, 3, 0, 29, 2027])), (96, (0, 1, 1, [])), (97, (20, 1, 0, [])), (98, (54, 3, 0, [5, 3, 0, 29, 2027])), (101, (8, 1, 0, [0])), (102, (7, 2, 0, [7])), (104, (6, 1, 0, [1])), (105, (58, 3, 0, [7108, 901, 26, 4070])), (108, (7, 2, 0, [6])), (110, (60, 1, 0, [])), (111, (7, 2, 0, [4])), (113, (7, 2, 0, [5])), (115, (0, 1, 1, [])), (116, (20, 1, 0, [])), (117, (76, 3, 0, [53, 6, 1, 25, 39, 4072])), (120, (90, 1, 0, []))]
/-- EiderClimate$Stitches.worked(IIIII)I -/
def mc_53 : List (Nat × mI) := [(0, (8, 1, 0, [0])), (1, (52, 3, 1, [5, 0, 1050, 11, 2021])), (4, (6, 1, 0, [2])), (5, (60, 1, 0, [])), (6, (13, 2, 0, [6])), (8, (6, 1, 0, [1])), (9, (50, 115, 0, [319, 1, 124, 2, 129, 10, 154, 11, 169, 20, 174, 30, 188, 40, 201, 41, 215, 50, 229, 60, 253, 70, 267, 80, 281, 81, 305])), (124, (7, 2, 0, [4])), (126, (6, 1, 0, [2])), (127, (20, 1, 0, [])), (128, (90, 1, 0, [])), (129, (8, 1, 0, [0])), (130, (6, 1, 0, [2])), (131, (7, 2, 0, [6])), (133, (0, 1, 1, [])), (134, (7, 2, 0, [4])), (136, (7, 2, 0, [5])), (138, (76, 3, 0, [52, 6, 1, 25, 32, 4064])), (141, (8, 1, 0, [0])), (142, (6, 1, 0, [2])), (143, (7, 2, 0, [6])), (145, (0, 1, 2, [])), (146, (0, 1, 1, [])), (147, (7, 2, 0, [5])), (149, (76, 3, 0, [52, 6, 1, 25, 32, 4064])), (152, (21, 1, 0, [])), (153, (90, 1, 0, [])), (154, (8, 1, 0, [0])), (155, (6, 1, 0, [2])), (156, (7, 2, 0, [6])), (158, (0, 1, 0, [])), (159, (7, 2, 0, [4])), (161, (7, 2, 0, [5])), (163, (76, 3, 0, [52, 6, 1, 25, 32, 4064])), (166, (0, 1, 2, [])), (167, (22, 1, 0, [])), (168, (90, 1, 0, [])), (169, (7, 2, 0, [4])), (171, (6, 1, 0, [2])), (172, (28, 1, 0, [])), (173, (90, 1, 0, [])), (174, (8, 1, 0, [0])), (175, (6, 1, 0, [2])), (176, (6, 1, 0, [3])), (177, (0, 1, 0, [])), (178, (7, 2, 0, [4])), (180, (7, 2, 0, [5])), (182, (76, 3, 0, [52, 6, 1, 25, 32, 4064])), (185, (0, 1, 3, [])), (186, (20, 1, 0, [])), (187, (90, 1, 0, [])), (188, (8, 1, 0, [0])), (189, (6, 1, 0, [2])), (190, (6, 1, 0, [3])), (191, (0, 1, 1, [])), (192, (7, 2, 0, [4])), (194, (7, 2, 0, [5])), (196, (76, 3, 0, [52, 6, 1, 25, 32, 4064])), (199, (25, 1, 0, [])), (200, (90, 1, 0, [])), (201, (8, 1, 0, [0])), (202, (6, 1, 0, [2])), (203, (6, 1, 0, [3])), (204, (0, 1, 2, [])), (205, (7, 2, 0, [4])), (207, (7, 2, 0, [5])), (209, (76, 3, 0, [52, 6, 1, 25, 32, 4064])), (212, (0, 1, 3, [])), (213, (22, 1, 0, [])), (214, (90, 1, 0, [])), (215, (8, 1, 0, [0])), (216, (6, 1, 0, [2])), (217, (6, 1, 0, [3])), (218, (0, 1, 1, [])), (219, (7, 2, 0, [4])), (221, (0, 1, 1, [])), (222, (20, 1, 0, [])), (223, (7, 2, 0, [5])), (225, (76, 3, 0, [52, 6, 1, 25, 32, 4064])), (228, (90, 1, 0, [])), (229, (8, 1, 0, [0])), (230, (6, 1, 0, [2])), (231, (6, 1, 0, [3])), (232, (0, 1, 2, [])), (233, (7, 2, 0, [4])), (235, (7, 2, 0, [5])), (237, (76, 3, 0, [52, 6, 1, 25, 32, 4064])), (240, (8, 1, 0, [0])), (241, (6, 1, 0, [2])), (242, (7, 2, 0, [6])), (244, (0, 1, 0, [])), (245, (0, 1, 2, [])), (246, (7, 2, 0, [5])), (248, (76, 3, 0, [52, 6, 1, 25, 32, 4064])), (251, (21, 1, 0, [])), (252, (90, 1, 0, [])), (253, (8, 1, 0, [0])), (254, (6, 1, 0, [2])), (255, (6, 1, 0, [3])), (256, (0, 1, 3, [])), (257, (7, 2, 0, [4])), (259, (7, 2, 0, [5])), (261, (76, 3, 0, [52, 6, 1, 25, 32, 4064])), (264, (0, 1, 5, [])), (265, (28, 1, 0, [])), (266, (90, 1, 0, [])), (267, (8, 1, 0, [0])), (268, (6, 1, 0, [2])), (269, (6, 1, 0, [3])), (270, (0, 1, 0, [])), (271, (7, 2, 0, [4])), (273, (7, 2, 0, [5])), (275, (76, 3, 0, [52, 6, 1, 25, 32, 4064])), (278, (0, 1, 2, [])), (279, (22, 1, 0, [])), (280, (90, 1, 0, [])), (281, (8, 1, 0, [0])), (282, (6, 1, 0, [2])), (283, (6, 1, 0, [3])), (284, (0, 1, 1, [])), (285, (7, 2, 0, [4])), (287, (7, 2, 0, [5])), (289, (76, 3, 0, [52, 6, 1, 25, 32, 4064])), (292, (8, 1, 0, [0])), (293, (6, 1, 0, [2])), (294, (7, 2, 0, [6])), (296, (0, 1, 2, [])), (297, (0, 1, 2, [])), (298, (7, 2, 0, [5])), (300, (76, 3, 0, [52, 6, 1, 25, 32, 4064])), (303, (20, 1, 0, [])), (304, (90, 1, 0, [])), (305, (8, 1, 0, [0])), (306, (6, 1, 0, [2])), (307, (6, 1, 0, [3])), (308, (0, 1, 3, [])), (309, (7, 2, 0, [4])), (311, (7, 2, 0, [5])), (313, (76, 3, 0, [52, 6, 1, 25, 32, 4064])), (316, (0, 1, 1, [])), (317, (21, 1, 0, [])), (318, (90, 1, 0, [])), (319, (0, 1, 0, [])), (320, (90, 1, 0, []))]
/-- EiderClimate$Tape.<init>()V -/
def mc_54 : List (Nat × mI) := [(0, (8, 1, 0, [0])), (1, (75, 3, 0, [3, 1134])), (4, (8, 1, 0, [0])), (5, (1, 2, 120, [])), (7, (70, 2, 0, [1000])), (9, (56, 3, 0, [6, 0, 1120, 9, 1135])), (12, (93, 1, 0, []))]
/-- EiderClimate$Tape.take(I)Z -/
def mc_55 : List (Nat × mI) := [(0, (8, 1, 0, [0])), (1, (51, 3, 0, [6, 1, 0, 15, 1136])), (4, (1, 2, 120, [])), (6, (112, 3, 0, [11])), (9, (0, 1, 0, [])), (10, (94, 1, 0, [])), (11, (8, 1, 0, [0])), (12, (52, 3, 1, [6, 0, 1120, 9, 1135])), (15, (8, 1, 0, [0])), (16, (51, 3, 0, [6, 1, 0, 15, 1136])), (19, (6, 1, 0, [1])), (20, (61, 1, 0, [])), (21, (8, 1, 0, [0])), (22, (42, 1, 0, [])), (23, (51, 3, 0, [6, 1, 0, 15, 1136])), (26, (0, 1, 1, [])), (27, (20, 1, 0, [])), (28, (54, 3, 0, [6, 1, 0, 15, 1136])), (31, (0, 1, 1, [])), (32, (94, 1, 0, []))]
/-- EiderClimate$Tape.readInto(LEiderClimate$Law;)I -/
def mc_56 : List (Nat × mI) := [(0, (8, 1, 0, [0])), (1, (8, 1, 0, [1])), (2, (55, 3, 0, [6, 3, 22, 19, 1139])), (5, (8, 1, 0, [0])), (6, (53, 3, 0, [6, 3, 22, 19, 1139])), (9, (76, 3, 0, [22, 1, 0, 22, 23, 2181])), (12, (8, 1, 0, [0])), (13, (0, 1, 0, [])), (14, (54, 3, 0, [6, 2, 0, 28, 1138])), (17, (0, 1, 0, [])), (18, (12, 1, 0, [2])), (19, (6, 1, 0, [2])), (20, (8, 1, 0, [0])), (21, (51, 3, 0, [6, 1, 0, 15, 1136])), (24, (114, 3, 0, [82])), (27, (8, 1, 0, [0])), (28, (76, 3, 0, [57, 1, 1, 26, 31, 2185])), (31, (101, 3, 0, [39])), (34, (8, 1, 0, [0])), (35, (51, 3, 0, [6, 2, 0, 28, 1138])), (38, (90, 1, 0, [])), (39, (8, 1, 0, [0])), (40, (51, 3, 0, [6, 2, 0, 28, 1138])), (43, (8, 1, 0, [0])), (44, (51, 3, 0, [6, 1, 0, 15, 1136])), (47, (112, 3, 0, [52])), (50, (0, 1, (-1), [])), (51, (90, 1, 0, [])), (52, (8, 1, 0, [0])), (53, (76, 3, 0, [63, 1, 1, 26, 35, 2197])), (56, (1, 2, 59, [])), (58, (110, 3, 0, [66])), (61, (8, 1, 0, [0])), (62, (51, 3, 0, [6, 2, 0, 28, 1138])), (65, (90, 1, 0, [])), (66, (8, 1, 0, [0])), (67, (42, 1, 0, [])), (68, (51, 3, 0, [6, 2, 0, 28, 1138])), (71, (0, 1, 1, [])), (72, (20, 1, 0, [])), (73, (54, 3, 0, [6, 2, 0, 28, 1138])), (76, (17, 3, 1, [2])), (79, (48, 3, 0, [19])), (82, (8, 1, 0, [0])), (83, (51, 3, 0, [6, 2, 0, 28, 1138])), (86, (90, 1, 0, []))]
/-- EiderClimate$Tape.readLine()Z -/
def mc_57 : List (Nat × mI) := [(0, (8, 1, 0, [0])), (1, (0, 1, 0, [])), (2, (0, 1, 0, [])), (3, (76, 3, 0, [58, 3, 1, 26, 39, 2189])), (6, (101, 3, 0, [11])), (9, (0, 1, 0, [])), (10, (94, 1, 0, [])), (11, (8, 1, 0, [0])), (12, (76, 3, 0, [63, 1, 1, 26, 35, 2197])), (15, (1, 2, 63, [])), (17, (111, 3, 0, [24])), (20, (0, 1, 1, [])), (21, (48, 3, 0, [25])), (24, (0, 1, 0, [])), (25, (12, 1, 0, [1])), (26, (8, 1, 0, [0])), (27, (53, 3, 0, [6, 3, 22, 19, 1139])), (30, (6, 1, 0, [1])), (31, (76, 3, 0, [24, 2, 0, 22, 43, 2226])), (34, (6, 1, 0, [1])), (35, (101, 3, 0, [40])), (38, (0, 1, 1, [])), (39, (94, 1, 0, [])), (40, (8, 1, 0, [0])), (41, (42, 1, 0, [])), (42, (51, 3, 0, [6, 2, 0, 28, 1138])), (45, (0, 1, 1, [])), (46, (20, 1, 0, [])), (47, (54, 3, 0, [6, 2, 0, 28, 1138])), (50, (8, 1, 0, [0])), (51, (0, 1, 0, [])), (52, (0, 1, 0, [])), (53, (76, 3, 0, [58, 3, 1, 26, 39, 2189])), (56, (101, 3, 0, [61])), (59, (0, 1, 0, [])), (60, (94, 1, 0, [])), (61, (8, 1, 0, [0])), (62, (53, 3, 0, [6, 3, 22, 19, 1139])), (65, (0, 1, 0, [])), (66, (76, 3, 0, [24, 2, 0, 22, 43, 2226])), (69, (0, 1, 1, [])), (70, (94, 1, 0, []))]
/-- EiderClimate$Tape.readJoined(II)Z -/
def mc_58 : List (Nat × mI) := [(0, (6, 1, 0, [1])), (1, (0, 1, 5, [])), (2, (112, 3, 0, [11])), (5, (8, 1, 0, [0])), (6, (6, 1, 0, [2])), (7, (76, 3, 0, [59, 2, 1, 26, 47, 2193])), (10, (94, 1, 0, [])), (11, (8, 1, 0, [0])), (12, (6, 1, 0, [1])), (13, (0, 1, 1, [])), (14, (20, 1, 0, [])), (15, (6, 1, 0, [2])), (16, (76, 3, 0, [58, 3, 1, 26, 39, 2189])), (19, (101, 3, 0, [24])), (22, (0, 1, 0, [])), (23, (94, 1, 0, [])), (24, (6, 1, 0, [1])), (25, (0, 1, 2, [])), (26, (111, 3, 0, [33])), (29, (0, 1, 1, [])), (30, (48, 3, 0, [37])), (33, (8, 1, 0, [0])), (34, (51, 3, 0, [6, 1, 0, 15, 1136])), (37, (12, 1, 0, [3])), (38, (0, 1, 0, [])), (39, (13, 2, 0, [4])), (41, (7, 2, 0, [4])), (43, (6, 1, 0, [3])), (44, (113, 3, 0, [103])), (47, (8, 1, 0, [0])), (48, (76, 3, 0, [63, 1, 1, 26, 35, 2197])), (51, (77, 3, 0, [65, 1, 1, 0, 51, 2223])), (54, (6, 1, 0, [1])), (55, (111, 3, 0, [103])), (58, (8, 1, 0, [0])), (59, (76, 3, 0, [63, 1, 1, 26, 35, 2197])), (62, (13, 2, 0, [5])), (64, (8, 1, 0, [0])), (65, (42, 1, 0, [])), (66, (51, 3, 0, [6, 2, 0, 28, 1138])), (69, (0, 1, 1, [])), (70, (20, 1, 0, [])), (71, (54, 3, 0, [6, 2, 0, 28, 1138])), (74, (8, 1, 0, [0])), (75, (6, 1, 0, [1])), (76, (0, 1, 1, [])), (77, (20, 1, 0, [])), (78, (6, 1, 0, [2])), (79, (76, 3, 0, [58, 3, 1, 26, 39, 2189])), (82, (101, 3, 0, [87])), (85, (0, 1, 0, [])), (86, (94, 1, 0, [])), (87, (8, 1, 0, [0])), (88, (53, 3, 0, [6, 3, 22, 19, 1139])), (91, (7, 2, 0, [5])), (93, (0, 1, 0, [])), (94, (76, 3, 0, [23, 3, 0, 22, 55, 2208])), (97, (17, 3, 1, [4])), (100, (48, 3, 0, [41])), (103, (0, 1, 1, [])), (104, (94, 1, 0, []))]
/-- EiderClimate$Tape.readOperand(I)Z -/
def mc_59 : List (Nat × mI) := [(0, (8, 1, 0, [0])), (1, (76, 3, 0, [63, 1, 1, 26, 35, 2197])), (4, (12, 1, 0, [2])), (5, (6, 1, 0, [2])), (6, (77, 3, 0, [64, 1, 1, 0, 59, 2201])), (9, (100, 3, 0, [18])), (12, (8, 1, 0, [0])), (13, (76, 3, 0, [62, 1, 0, 26, 62, 2204])), (16, (0, 1, 1, [])), (17, (94, 1, 0, [])), (18, (6, 1, 0, [2])), (19, (77, 3, 0, [28, 1, 1, 0, 65, 2212])), (22, (102, 3, 0, [50])), (25, (8, 1, 0, [0])), (26, (42, 1, 0, [])), (27, (51, 3, 0, [6, 2, 0, 28, 1138])), (30, (0, 1, 1, [])), (31, (20, 1, 0, [])), (32, (54, 3, 0, [6, 2, 0, 28, 1138])), (35, (8, 1, 0, [0])), (36, (53, 3, 0, [6, 3, 22, 19, 1139])), (39, (1, 2, 97, [])), (41, (6, 1, 0, [2])), (42, (77, 3, 0, [28, 1, 1, 0, 65, 2212])), (45, (76, 3, 0, [23, 3, 0, 22, 55, 2208])), (48, (0, 1, 1, [])), (49, (94, 1, 0, [])), (50, (6, 1, 0, [2])), (51, (1, 2, 33, [])), (53, (110, 3, 0, [68])), (56, (6, 1, 0, [2])), (57, (1, 2, 45, [])), (59, (110, 3, 0, [68])), (62, (6, 1, 0, [2])), (63, (1, 2, 40, [])), (65, (111, 3, 0, [74])), (68, (6, 1, 0, [1])), (69, (1, 2, 6, [])), (71, (112, 3, 0, [76])), (74, (0, 1, 0, [])), (75, (94, 1, 0, [])), (76, (8, 1, 0, [0])), (77, (42, 1, 0, [])), (78, (51, 3, 0, [6, 2, 0, 28, 1138])), (81, (0, 1, 1, [])), (82, (20, 1, 0, [])), (83, (54, 3, 0, [6, 2, 0, 28, 1138])), (86, (6, 1, 0, [2])), (87, (1, 2, 40, [])), (89, (111, 3, 0, [102])), (92, (8, 1, 0, [0])), (93, (6, 1, 0, [1])), (94, (0, 1, 1, [])), (95, (20, 1, 0, [])), (96, (76, 3, 0, [60, 2, 1, 26, 68, 2215])), (99, (48, 3, 0, [110])), (102, (8, 1, 0, [0])), (103, (6, 1, 0, [2])), (104, (6, 1, 0, [1])), (105, (0, 1, 1, [])), (106, (20, 1, 0, [])), (107, (76, 3, 0, [61, 3, 1, 26, 71, 2219])), (110, (94, 1, 0, []))]
/-- EiderClimate$Tape.readToClose(I)Z -/
def mc_60 : List (Nat × mI) := [(0, (8, 1, 0, [0])), (1, (0, 1, 0, [])), (2, (6, 1, 0, [1])), (3, (76, 3, 0, [58, 3, 1, 26, 39, 2189])), (6, (100, 3, 0, [18])), (9, (8, 1, 0, [0])), (10, (76, 3, 0, [63, 1, 1, 26, 35, 2197])), (13, (1, 2, 41, [])), (15, (110, 3, 0, [20])), (18, (0, 1, 0, [])), (19, (94, 1, 0, [])), (20, (8, 1, 0, [0])), (21, (42, 1, 0, [])), (22, (51, 3, 0, [6, 2, 0, 28, 1138])), (25, (0, 1, 1, [])), (26, (20, 1, 0, [])), (27, (54, 3, 0, [6, 2, 0, 28, 1138])), (30, (0, 1, 1, [])), (31, (94, 1, 0, []))]
/-- EiderClimate$Tape.readAhead(II)Z -/
def mc_61 : List (Nat × mI) := [(0, (8, 1, 0, [0])), (1, (6, 1, 0, [2])), (2, (76, 3, 0, [59, 2, 1, 26, 47, 2193])), (5, (101, 3, 0, [10])), (8, (0, 1, 0, [])), (9, (94, 1, 0, [])), (10, (8, 1, 0, [0])), (11, (53, 3, 0, [6, 3, 22, 19, 1139])), (14, (6, 1, 0, [1])), (15, (1, 2, 45, [])), (17, (111, 3, 0, [25])), (20, (1, 2, 126, [])), (22, (48, 3, 0, [26])), (25, (6, 1, 0, [1])), (26, (0, 1, 0, [])), (27, (76, 3, 0, [23, 3, 0, 22, 55, 2208])), (30, (0, 1, 1, [])), (31, (94, 1, 0, []))]
/-- EiderClimate$Tape.readNumber()V -/
def mc_62 : List (Nat × mI) := [(0, (0, 1, 0, [])), (1, (12, 1, 0, [1])), (2, (0, 1, 0, [])), (3, (12, 1, 0, [2])), (4, (6, 1, 0, [2])), (5, (0, 1, 4, [])), (6, (113, 3, 0, [48])), (9, (8, 1, 0, [0])), (10, (76, 3, 0, [63, 1, 1, 26, 35, 2197])), (13, (77, 3, 0, [64, 1, 1, 0, 59, 2201])), (16, (100, 3, 0, [48])), (19, (6, 1, 0, [1])), (20, (1, 2, 10, [])), (22, (22, 1, 0, [])), (23, (8, 1, 0, [0])), (24, (76, 3, 0, [63, 1, 1, 26, 35, 2197])), (27, (20, 1, 0, [])), (28, (1, 2, 48, [])), (30, (21, 1, 0, [])), (31, (12, 1, 0, [1])), (32, (8, 1, 0, [0])), (33, (42, 1, 0, [])), (34, (51, 3, 0, [6, 2, 0, 28, 1138])), (37, (0, 1, 1, [])), (38, (20, 1, 0, [])), (39, (54, 3, 0, [6, 2, 0, 28, 1138])), (42, (17, 3, 1, [2])), (45, (48, 3, 0, [4])), (48, (8, 1, 0, [0])), (49, (53, 3, 0, [6, 3, 22, 19, 1139])), (52, (1, 2, 48, [])), (54, (6, 1, 0, [1])), (55, (76, 3, 0, [23, 3, 0, 22, 55, 2208])), (58, (93, 1, 0, []))]
/-- EiderClimate$Tape.next()I -/
def mc_63 : List (Nat × mI) := [(0, (8, 1, 0, [0])), (1, (51, 3, 0, [6, 2, 0, 28, 1138])), (4, (102, 3, 0, [30])), (7, (8, 1, 0, [0])), (8, (51, 3, 0, [6, 2, 0, 28, 1138])), (11, (8, 1, 0, [0])), (12, (51, 3, 0, [6, 1, 0, 15, 1136])), (15, (113, 3, 0, [30])), (18, (8, 1, 0, [0])), (19, (52, 3, 1, [6, 0, 1120, 9, 1135])), (22, (8, 1, 0, [0])), (23, (51, 3, 0, [6, 2, 0, 28, 1138])), (26, (60, 1, 0, [])), (27, (48, 3, 0, [31])), (30, (0, 1, (-1), [])), (31, (90, 1, 0, []))]
/-- EiderClimate$Tape.isDigit(I)Z -/
def mc_64 : List (Nat × mI) := [(0, (6, 1, 0, [0])), (1, (1, 2, 48, [])), (3, (112, 3, 0, [16])), (6, (6, 1, 0, [0])), (7, (1, 2, 57, [])), (9, (114, 3, 0, [16])), (12, (0, 1, 1, [])), (13, (48, 3, 0, [17])), (16, (0, 1, 0, [])), (17, (94, 1, 0, []))]
/-- EiderClimate$Tape.rankOf(I)I -/
def mc_65 : List (Nat × mI) := [(0, (6, 1, 0, [0])), (1, (50, 91, 0, [102, 37, 100, 38, 94, 42, 100, 43, 98, 45, 98, 47, 100, 60, 96, 61, 96, 62, 96, 124, 92])), (92, (0, 1, 0, [])), (93, (90, 1, 0, [])), (94, (0, 1, 1, [])), (95, (90, 1, 0, [])), (96, (0, 1, 2, [])), (97, (90, 1, 0, [])), (98, (0, 1, 3, [])), (99, (90, 1, 0, [])), (100, (0, 1, 4, [])), (101, (90, 1, 0, [])), (102, (0, 1, (-1), [])), (103, (90, 1, 0, []))]
/-- EiderClimate$Thought.<init>(LEiderClimate$Shore;)V -/
def mc_66 : List (Nat × mI) := [(0, (8, 1, 0, [0])), (1, (75, 3, 0, [3, 1154])), (4, (8, 1, 0, [0])), (5, (74, 3, 0, [1, 5, 9, 1155, 1030, 1003])), (8, (42, 1, 0, [])), (9, (80, 3, 0, [5, 1, 0, 21, 11, 1156])), (12, (56, 3, 0, [7, 1, 21, 12, 1158])), (15, (8, 1, 0, [0])), (16, (0, 1, 3, [])), (17, (70, 2, 0, [1000])), (19, (56, 3, 0, [7, 2, 1003, 18, 1159])), (22, (8, 1, 0, [0])), (23, (8, 1, 0, [1])), (24, (56, 3, 0, [7, 0, 24, 22, 1157])), (27, (93, 1, 0, []))]
/-- EiderClimate$Thought.behind(I)LEiderClimate$Cover; -/
def mc_67 : List (Nat × mI) := [(0, (8, 1, 0, [0])), (1, (52, 3, 1, [7, 1, 21, 12, 1158])), (4, (8, 1, 0, [0])), (5, (52, 3, (-25), [7, 0, 24, 22, 1157])), (8, (52, 3, 1, [4, 0, 21, 26, 1096])), (11, (76, 3, 0, [6, 2, 0, 21, 31, 3003])), (14, (0, 1, 0, [])), (15, (12, 1, 0, [2])), (16, (6, 1, 0, [2])), (17, (6, 1, 0, [1])), (18, (113, 3, 0, [41])), (21, (8, 1, 0, [0])), (22, (52, 3, 1, [7, 1, 21, 12, 1158])), (25, (8, 1, 0, [0])), (26, (52, 3, (-25), [7, 0, 24, 22, 1157])), (29, (51, 3, 0, [4, 5, 0, 35, 1104])), (32, (76, 3, 0, [14, 2, 0, 21, 39, 3008])), (35, (17, 3, 1, [2])), (38, (48, 3, 0, [16])), (41, (8, 1, 0, [0])), (42, (52, 3, 1, [7, 1, 21, 12, 1158])), (45, (92, 1, 0, [21]))]
/-- EiderClimate$Thought.firstCold(I)I -/
def mc_68 : List (Nat × mI) := [(0, (8, 1, 0, [0])), (1, (52, 3, 1, [7, 1, 21, 12, 1158])), (4, (8, 1, 0, [0])), (5, (52, 3, (-25), [7, 0, 24, 22, 1157])), (8, (52, 3, 1, [4, 0, 21, 26, 1096])), (11, (76, 3, 0, [6, 2, 0, 21, 31, 3003])), (14, (0, 1, 0, [])), (15, (12, 1, 0, [2])), (16, (6, 1, 0, [2])), (17, (1, 2, 48, [])), (19, (114, 3, 0, [59])), (22, (8, 1, 0, [0])), (23, (52, 3, (-25), [7, 0, 24, 22, 1157])), (26, (8, 1, 0, [0])), (27, (52, 3, 1, [7, 1, 21, 12, 1158])), (30, (6, 1, 0, [1])), (31, (76, 3, 0, [43, 3, 1, 24, 43, 3071])), (34, (100, 3, 0, [39])), (37, (6, 1, 0, [2])), (38, (90, 1, 0, [])), (39, (8, 1, 0, [0])), (40, (52, 3, 1, [7, 1, 21, 12, 1158])), (43, (8, 1, 0, [0])), (44, (52, 3, (-25), [7, 0, 24, 22, 1157])), (47, (51, 3, 0, [4, 5, 0, 35, 1104])), (50, (76, 3, 0, [14, 2, 0, 21, 39, 3008])), (53, (17, 3, 1, [2])), (56, (48, 3, 0, [16])), (59, (1, 2, (-2), [])), (61, (90, 1, 0, []))]
/-- EiderClimate$Thought.timesCold(II)I -/
def mc_69 : List (Nat × mI) := [(0, (8, 1, 0, [0])), (1, (52, 3, 1, [7, 1, 21, 12, 1158])), (4, (8, 1, 0, [0])), (5, (52, 3, (-25), [7, 0, 24, 22, 1157])), (8, (52, 3, 1, [4, 0, 21, 26, 1096])), (11, (76, 3, 0, [6, 2, 0, 21, 31, 3003])), (14, (0, 1, 0, [])), (15, (12, 1, 0, [3])), (16, (0, 1, 0, [])), (17, (13, 2, 0, [4])), (19, (7, 2, 0, [4])), (21, (6, 1, 0, [2])), (22, (114, 3, 0, [63])), (25, (8, 1, 0, [0])), (26, (52, 3, (-25), [7, 0, 24, 22, 1157])), (29, (8, 1, 0, [0])), (30, (52, 3, 1, [7, 1, 21, 12, 1158])), (33, (6, 1, 0, [1])), (34, (76, 3, 0, [43, 3, 1, 24, 43, 3071])), (37, (100, 3, 0, [43])), (40, (17, 3, 1, [3])), (43, (8, 1, 0, [0])), (44, (52, 3, 1, [7, 1, 21, 12, 1158])), (47, (8, 1, 0, [0])), (48, (52, 3, (-25), [7, 0, 24, 22, 1157])), (51, (51, 3, 0, [4, 5, 0, 35, 1104])), (54, (76, 3, 0, [14, 2, 0, 21, 39, 3008])), (57, (17, 3, 1, [4])), (60, (48, 3, 0, [19])), (63, (6, 1, 0, [3])), (64, (90, 1, 0, []))]
/-- EiderClimate$Thought.fewestPulls(I)I -/
def mc_70 : List (Nat × mI) := [(0, (8, 1, 0, [0])), (1, (52, 3, 1, [7, 1, 21, 12, 1158])), (4, (8, 1, 0, [0])), (5, (52, 3, (-25), [7, 0, 24, 22, 1157])), (8, (52, 3, 1, [4, 0, 21, 26, 1096])), (11, (76, 3, 0, [6, 2, 0, 21, 31, 3003])), (14, (0, 1, 0, [])), (15, (12, 1, 0, [2])), (16, (6, 1, 0, [2])), (17, (0, 1, 3, [])), (18, (114, 3, 0, [39])), (21, (8, 1, 0, [0])), (22, (6, 1, 0, [1])), (23, (0, 1, 0, [])), (24, (6, 1, 0, [2])), (25, (76, 3, 0, [71, 4, 1, 27, 47, 3088])), (28, (100, 3, 0, [33])), (31, (6, 1, 0, [2])), (32, (90, 1, 0, [])), (33, (17, 3, 1, [2])), (36, (48, 3, 0, [16])), (39, (1, 2, (-2), [])), (41, (90, 1, 0, []))]
/-- EiderClimate$Thought.warmByPulls(III)Z -/
def mc_71 : List (Nat × mI) := [(0, (6, 1, 0, [2])), (1, (6, 1, 0, [3])), (2, (113, 3, 0, [10])), (5, (6, 1, 0, [2])), (6, (0, 1, 3, [])), (7, (112, 3, 0, [31])), (10, (8, 1, 0, [0])), (11, (52, 3, (-25), [7, 0, 24, 22, 1157])), (14, (8, 1, 0, [0])), (15, (52, 3, 1, [7, 1, 21, 12, 1158])), (18, (6, 1, 0, [1])), (19, (76, 3, 0, [43, 3, 1, 24, 43, 3071])), (22, (101, 3, 0, [29])), (25, (0, 1, 1, [])), (26, (48, 3, 0, [30])), (29, (0, 1, 0, [])), (30, (94, 1, 0, [])), (31, (0, 1, 0, [])), (32, (13, 2, 0, [4])), (34, (0, 1, 0, [])), (35, (13, 2, 0, [5])), (37, (7, 2, 0, [5])), (39, (1, 2, 10, [])), (41, (113, 3, 0, [106])), (44, (7, 2, 0, [4])), (46, (101, 3, 0, [106])), (49, (8, 1, 0, [0])), (50, (52, 3, 6, [7, 2, 1003, 18, 1159])), (53, (6, 1, 0, [2])), (54, (7, 2, 0, [5])), (56, (61, 1, 0, [])), (57, (8, 1, 0, [0])), (58, (52, 3, 1, [7, 1, 21, 12, 1158])), (61, (7, 2, 0, [5])), (63, (0, 1, 2, [])), (64, (23, 1, 0, [])), (65, (7, 2, 0, [5])), (67, (0, 1, 2, [])), (68, (24, 1, 0, [])), (69, (76, 3, 0, [17, 3, 0, 21, 51, 3092])), (72, (8, 1, 0, [0])), (73, (6, 1, 0, [1])), (74, (6, 1, 0, [2])), (75, (0, 1, 1, [])), (76, (20, 1, 0, [])), (77, (6, 1, 0, [3])), (78, (76, 3, 0, [71, 4, 1, 27, 47, 3088])), (81, (13, 2, 0, [4])), (83, (8, 1, 0, [0])), (84, (52, 3, 1, [7, 1, 21, 12, 1158])), (87, (7, 2, 0, [5])), (89, (0, 1, 2, [])), (90, (23, 1, 0, [])), (91, (0, 1, 1, [])), (92, (7, 2, 0, [5])), (94, (0, 1, 2, [])), (95, (24, 1, 0, [])), (96, (21, 1, 0, [])), (97, (76, 3, 0, [17, 3, 0, 21, 51, 3092])), (100, (17, 3, 1, [5])), (103, (48, 3, 0, [37])), (106, (7, 2, 0, [4])), (108, (94, 1, 0, []))]
/-- EiderClimate$Thought.tryShakes()V -/
def mc_72 : List (Nat × mI) := [(0, (8, 1, 0, [0])), (1, (1, 2, 9, [])), (3, (54, 3, 0, [7, 4, 0, 55, 1163])), (6, (0, 1, 0, [])), (7, (12, 1, 0, [1])), (8, (6, 1, 0, [1])), (9, (1, 2, 30, [])), (11, (113, 3, 0, [54])), (14, (6, 1, 0, [1])), (15, (77, 3, 0, [12, 1, 1, 0, 58, 3107])), (18, (100, 3, 0, [48])), (21, (8, 1, 0, [0])), (22, (52, 3, 1, [7, 1, 21, 12, 1158])), (25, (8, 1, 0, [0])), (26, (52, 3, (-25), [7, 0, 24, 22, 1157])), (29, (52, 3, 1, [4, 0, 21, 26, 1096])), (32, (76, 3, 0, [6, 2, 0, 21, 31, 3003])), (35, (8, 1, 0, [0])), (36, (52, 3, 1, [7, 1, 21, 12, 1158])), (39, (6, 1, 0, [1])), (40, (76, 3, 0, [19, 2, 0, 21, 62, 3110])), (43, (8, 1, 0, [0])), (44, (6, 1, 0, [1])), (45, (76, 3, 0, [74, 2, 0, 27, 65, 3118])), (48, (17, 3, 1, [1])), (51, (48, 3, 0, [8])), (54, (93, 1, 0, []))]
/-- EiderClimate$Thought.tryStuffings(I)V -/
def mc_73 : List (Nat × mI) := [(0, (8, 1, 0, [0])), (1, (1, 2, 9, [])), (3, (54, 3, 0, [7, 4, 0, 55, 1163])), (6, (6, 1, 0, [1])), (7, (101, 3, 0, [31])), (10, (8, 1, 0, [0])), (11, (52, 3, 1, [7, 1, 21, 12, 1158])), (14, (8, 1, 0, [0])), (15, (52, 3, (-25), [7, 0, 24, 22, 1157])), (18, (52, 3, 1, [4, 0, 21, 26, 1096])), (21, (76, 3, 0, [6, 2, 0, 21, 31, 3003])), (24, (8, 1, 0, [0])), (25, (1, 2, (-9), [])), (27, (76, 3, 0, [74, 2, 0, 27, 65, 3118])), (30, (93, 1, 0, [])), (31, (0, 1, 0, [])), (32, (12, 1, 0, [2])), (33, (6, 1, 0, [2])), (34, (1, 2, 30, [])), (36, (113, 3, 0, [146])), (39, (6, 1, 0, [1])), (40, (0, 1, 1, [])), (41, (111, 3, 0, [48])), (44, (6, 1, 0, [2])), (45, (48, 3, 0, [51])), (48, (6, 1, 0, [2])), (49, (0, 1, 1, [])), (50, (20, 1, 0, [])), (51, (12, 1, 0, [3])), (52, (6, 1, 0, [1])), (53, (0, 1, 1, [])), (54, (111, 3, 0, [61])), (57, (6, 1, 0, [2])), (58, (48, 3, 0, [63])), (61, (1, 2, 29, [])), (63, (13, 2, 0, [4])), (65, (6, 1, 0, [3])), (66, (13, 2, 0, [5])), (68, (7, 2, 0, [5])), (70, (7, 2, 0, [4])), (72, (114, 3, 0, [140])), (75, (8, 1, 0, [0])), (76, (52, 3, 1, [7, 1, 21, 12, 1158])), (79, (8, 1, 0, [0])), (80, (52, 3, (-25), [7, 0, 24, 22, 1157])), (83, (52, 3, 1, [4, 0, 21, 26, 1096])), (86, (76, 3, 0, [6, 2, 0, 21, 31, 3003])), (89, (8, 1, 0, [0])), (90, (52, 3, 1, [7, 1, 21, 12, 1158])), (93, (6, 1, 0, [2])), (94, (0, 1, 2, [])), (95, (1, 2, 9, [])), (97, (0, 1, 0, [])), (98, (76, 3, 0, [9, 5, 0, 21, 68, 3137])), (101, (8, 1, 0, [0])), (102, (52, 3, 1, [7, 1, 21, 12, 1158])), (105, (7, 2, 0, [5])), (107, (0, 1, 2, [])), (108, (1, 2, 9, [])), (110, (0, 1, 0, [])), (111, (76, 3, 0, [9, 5, 0, 21, 68, 3137])), (114, (8, 1, 0, [0])), (115, (6, 1, 0, [1])), (116, (0, 1, 1, [])), (117, (111, 3, 0, [124])), (120, (6, 1, 0, [2])), (121, (48, 3, 0, [131])), (124, (1, 2, 30, [])), (126, (6, 1, 0, [2])), (127, (22, 1, 0, [])), (128, (7, 2, 0, [5])), (130, (20, 1, 0, [])), (131, (76, 3, 0, [74, 2, 0, 27, 65, 3118])), (134, (17, 3, 1, [5])), (137, (48, 3, 0, [68])), (140, (17, 3, 1, [2])), (143, (48, 3, 0, [33])), (146, (93, 1, 0, []))]
/-- EiderClimate$Thought.weigh(I)V -/
def mc_74 : List (Nat × mI) := [(0, (8, 1, 0, [0])), (1, (52, 3, (-25), [7, 0, 24, 22, 1157])), (4, (8, 1, 0, [0])), (5, (52, 3, 1, [7, 1, 21, 12, 1158])), (8, (76, 3, 0, [44, 2, 1, 24, 72, 3122])), (11, (77, 3, 0, [228, 1, 1, 0, 76, 3123])), (14, (12, 1, 0, [2])), (15, (6, 1, 0, [2])), (16, (8, 1, 0, [0])), (17, (51, 3, 0, [7, 4, 0, 55, 1163])), (20, (113, 3, 0, [33])), (23, (8, 1, 0, [0])), (24, (6, 1, 0, [2])), (25, (54, 3, 0, [7, 4, 0, 55, 1163])), (28, (8, 1, 0, [0])), (29, (6, 1, 0, [1])), (30, (54, 3, 0, [7, 3, 0, 82, 1161])), (33, (93, 1, 0, []))]
/-- EiderClimate$Thought.firstWrong(LEiderClimate$Shelf;I)I -/
def mc_75 : List (Nat × mI) := [(0, (8, 1, 0, [0])), (1, (52, 3, 1, [7, 1, 21, 12, 1158])), (4, (8, 1, 0, [0])), (5, (52, 3, (-25), [7, 0, 24, 22, 1157])), (8, (52, 3, 1, [4, 0, 21, 26, 1096])), (11, (76, 3, 0, [6, 2, 0, 21, 31, 3003])), (14, (8, 1, 0, [0])), (15, (8, 1, 0, [1])), (16, (6, 1, 0, [2])), (17, (76, 3, 0, [76, 3, 1, 27, 85, 3153])), (20, (90, 1, 0, []))]
/-- EiderClimate$Thought.firstUnlike(LEiderClimate$Shelf;I)I -/
def mc_76 : List (Nat × mI) := [(0, (8, 1, 0, [1])), (1, (51, 3, 0, [3, 2, 0, 89, 2051])), (4, (1, 2, 49, [])), (6, (81, 3, 0, [94, 3157])), (9, (12, 1, 0, [3])), (10, (0, 1, 0, [])), (11, (13, 2, 0, [4])), (13, (7, 2, 0, [4])), (15, (6, 1, 0, [3])), (16, (113, 3, 0, [69])), (19, (8, 1, 0, [0])), (20, (52, 3, (-25), [7, 0, 24, 22, 1157])), (23, (53, 3, 0, [4, 6, 22, 100, 1109])), (26, (8, 1, 0, [0])), (27, (52, 3, 1, [7, 1, 21, 12, 1158])), (30, (6, 1, 0, [2])), (31, (76, 3, 0, [25, 3, 1, 22, 104, 3158])), (34, (38, 1, 0, [])), (35, (8, 1, 0, [1])), (36, (52, 3, 1, [3, 0, 3060, 110, 2046])), (39, (7, 2, 0, [4])), (41, (62, 1, 0, [])), (42, (37, 1, 0, [])), (43, (100, 3, 0, [49])), (46, (7, 2, 0, [4])), (48, (90, 1, 0, [])), (49, (8, 1, 0, [0])), (50, (52, 3, 1, [7, 1, 21, 12, 1158])), (53, (8, 1, 0, [0])), (54, (52, 3, (-25), [7, 0, 24, 22, 1157])), (57, (51, 3, 0, [4, 5, 0, 35, 1104])), (60, (76, 3, 0, [14, 2, 0, 21, 39, 3008])), (63, (17, 3, 1, [4])), (66, (48, 3, 0, [13])), (69, (1, 2, (-2), [])), (71, (90, 1, 0, []))]
/-- EiderClimate$Thought.fitting(LEiderClimate$Shelf;III)I -/
def mc_77 : List (Nat × mI) := [(0, (0, 1, 0, [])), (1, (13, 2, 0, [5])), (3, (0, 1, 0, [])), (4, (13, 2, 0, [6])), (6, (7, 2, 0, [6])), (8, (59, 3, 0, [7008, 900, 114, 3167])), (11, (7, 2, 0, [4])), (13, (60, 1, 0, [])), (14, (114, 3, 0, [69])), (17, (8, 1, 0, [0])), (18, (52, 3, 1, [7, 1, 21, 12, 1158])), (21, (8, 1, 0, [0])), (22, (52, 3, (-25), [7, 0, 24, 22, 1157])), (25, (52, 3, 1, [4, 0, 21, 26, 1096])), (28, (76, 3, 0, [6, 2, 0, 21, 31, 3003])), (31, (8, 1, 0, [0])), (32, (52, 3, 1, [7, 1, 21, 12, 1158])), (35, (6, 1, 0, [3])), (36, (7, 2, 0, [4])), (38, (7, 2, 0, [6])), (40, (76, 3, 0, [8, 4, 0, 21, 117, 3168])), (43, (8, 1, 0, [0])), (44, (8, 1, 0, [1])), (45, (6, 1, 0, [2])), (46, (76, 3, 0, [76, 3, 1, 27, 85, 3153])), (49, (1, 2, (-2), [])), (51, (111, 3, 0, [63])), (54, (7, 2, 0, [5])), (56, (0, 1, 1, [])), (57, (7, 2, 0, [6])), (59, (29, 1, 0, [])), (60, (27, 1, 0, [])), (61, (13, 2, 0, [5])), (63, (17, 3, 1, [6])), (66, (48, 3, 0, [6])), (69, (7, 2, 0, [5])), (71, (90, 1, 0, []))]
/-- EiderClimate$Thought.pullByTurns(III)I -/
def mc_78 : List (Nat × mI) := [(0, (8, 1, 0, [0])), (1, (52, 3, 1, [7, 1, 21, 12, 1158])), (4, (8, 1, 0, [0])), (5, (52, 3, (-25), [7, 0, 24, 22, 1157])), (8, (52, 3, 1, [4, 0, 21, 26, 1096])), (11, (76, 3, 0, [6, 2, 0, 21, 31, 3003])), (14, (8, 1, 0, [0])), (15, (6, 1, 0, [1])), (16, (1, 2, 10, [])), (18, (23, 1, 0, [])), (19, (54, 3, 0, [7, 5, 0, 121, 1165])), (22, (8, 1, 0, [0])), (23, (6, 1, 0, [1])), (24, (1, 2, 10, [])), (26, (24, 1, 0, [])), (27, (54, 3, 0, [7, 6, 0, 124, 1166])), (30, (8, 1, 0, [0])), (31, (6, 1, 0, [2])), (32, (1, 2, 10, [])), (34, (23, 1, 0, [])), (35, (54, 3, 0, [7, 7, 0, 127, 1167])), (38, (8, 1, 0, [0])), (39, (6, 1, 0, [2])), (40, (1, 2, 10, [])), (42, (24, 1, 0, [])), (43, (54, 3, 0, [7, 8, 0, 130, 1168])), (46, (8, 1, 0, [0])), (47, (0, 1, 0, [])), (48, (6, 1, 0, [3])), (49, (76, 3, 0, [79, 3, 1, 27, 133, 3212])), (52, (90, 1, 0, []))]
/-- EiderClimate$Thought.bestFrom(II)I -/
def mc_79 : List (Nat × mI) := [(0, (6, 1, 0, [1])), (1, (6, 1, 0, [2])), (2, (112, 3, 0, [61])), (5, (8, 1, 0, [0])), (6, (52, 3, (-25), [7, 0, 24, 22, 1157])), (9, (53, 3, 0, [4, 6, 22, 100, 1109])), (12, (8, 1, 0, [0])), (13, (52, 3, 1, [7, 1, 21, 12, 1158])), (16, (8, 1, 0, [0])), (17, (52, 3, (-25), [7, 0, 24, 22, 1157])), (20, (52, 3, 6, [4, 1, 1008, 136, 1099])), (23, (8, 1, 0, [0])), (24, (51, 3, 0, [7, 5, 0, 121, 1165])), (27, (60, 1, 0, [])), (28, (76, 3, 0, [25, 3, 1, 22, 104, 3158])), (31, (12, 1, 0, [3])), (32, (6, 1, 0, [3])), (33, (8, 1, 0, [0])), (34, (52, 3, (-25), [7, 0, 24, 22, 1157])), (37, (53, 3, 0, [4, 6, 22, 100, 1109])), (40, (8, 1, 0, [0])), (41, (52, 3, 1, [7, 1, 21, 12, 1158])), (44, (8, 1, 0, [0])), (45, (52, 3, (-25), [7, 0, 24, 22, 1157])), (48, (52, 3, 6, [4, 1, 1008, 136, 1099])), (51, (8, 1, 0, [0])), (52, (51, 3, 0, [7, 6, 0, 124, 1166])), (55, (60, 1, 0, [])), (56, (76, 3, 0, [25, 3, 1, 22, 104, 3158])), (59, (21, 1, 0, [])), (60, (90, 1, 0, [])), (61, (6, 1, 0, [1])), (62, (0, 1, 2, [])), (63, (24, 1, 0, [])), (64, (101, 3, 0, [71])), (67, (0, 1, 1, [])), (68, (48, 3, 0, [72])), (71, (0, 1, 0, [])), (72, (12, 1, 0, [3])), (73, (6, 1, 0, [3])), (74, (100, 3, 0, [84])), (77, (8, 1, 0, [0])), (78, (51, 3, 0, [7, 7, 0, 127, 1167])), (81, (48, 3, 0, [88])), (84, (8, 1, 0, [0])), (85, (51, 3, 0, [7, 8, 0, 130, 1168])), (88, (13, 2, 0, [4])), (90, (8, 1, 0, [0])), (91, (6, 1, 0, [1])), (92, (0, 1, 1, [])), (93, (20, 1, 0, [])), (94, (6, 1, 0, [2])), (95, (76, 3, 0, [79, 3, 1, 27, 133, 3212])), (98, (13, 2, 0, [5])), (100, (0, 1, 2, [])), (101, (13, 2, 0, [6])), (103, (0, 1, 0, [])), (104, (13, 2, 0, [7])), (106, (7, 2, 0, [7])), (108, (0, 1, 2, [])), (109, (113, 3, 0, [181])), (112, (8, 1, 0, [0])), (113, (52, 3, 1, [7, 1, 21, 12, 1158])), (116, (7, 2, 0, [4])), (118, (7, 2, 0, [7])), (120, (76, 3, 0, [17, 3, 0, 21, 51, 3092])), (123, (8, 1, 0, [0])), (124, (6, 1, 0, [1])), (125, (0, 1, 1, [])), (126, (20, 1, 0, [])), (127, (6, 1, 0, [2])), (128, (76, 3, 0, [79, 3, 1, 27, 133, 3212])), (131, (13, 2, 0, [8])), (133, (8, 1, 0, [0])), (134, (52, 3, 1, [7, 1, 21, 12, 1158])), (137, (7, 2, 0, [4])), (139, (0, 1, 1, [])), (140, (7, 2, 0, [7])), (142, (21, 1, 0, [])), (143, (76, 3, 0, [17, 3, 0, 21, 51, 3092])), (146, (6, 1, 0, [3])), (147, (100, 3, 0, [160])), (150, (7, 2, 0, [8])), (152, (7, 2, 0, [5])), (154, (115, 3, 0, [175])), (157, (48, 3, 0, [167])), (160, (7, 2, 0, [8])), (162, (7, 2, 0, [5])), (164, (113, 3, 0, [175])), (167, (7, 2, 0, [8])), (169, (13, 2, 0, [5])), (171, (7, 2, 0, [7])), (173, (13, 2, 0, [6])), (175, (17, 3, 1, [7])), (178, (48, 3, 0, [106])), (181, (6, 1, 0, [1])), (182, (101, 3, 0, [191])), (185, (8, 1, 0, [0])), (186, (7, 2, 0, [6])), (188, (54, 3, 0, [7, 9, 0, 139, 1169])), (191, (7, 2, 0, [5])), (193, (90, 1, 0, []))]
/-- EiderClimate$Thought.coldByDraws(IIII)I -/
def mc_80 : List (Nat × mI) := [(0, (6, 1, 0, [1])), (1, (13, 2, 0, [5])), (3, (0, 1, 0, [])), (4, (13, 2, 0, [6])), (6, (0, 1, 0, [])), (7, (13, 2, 0, [7])), (9, (7, 2, 0, [7])), (11, (6, 1, 0, [2])), (12, (113, 3, 0, [129])), (15, (8, 1, 0, [0])), (16, (52, 3, 1, [7, 1, 21, 12, 1158])), (19, (8, 1, 0, [0])), (20, (52, 3, (-25), [7, 0, 24, 22, 1157])), (23, (52, 3, 1, [4, 0, 21, 26, 1096])), (26, (76, 3, 0, [6, 2, 0, 21, 31, 3003])), (29, (0, 1, 0, [])), (30, (13, 2, 0, [8])), (32, (7, 2, 0, [8])), (34, (6, 1, 0, [3])), (35, (113, 3, 0, [123])), (38, (7, 2, 0, [5])), (40, (3, 2, 1103515245, [142, 3224])), (42, (22, 1, 0, [])), (43, (2, 3, 12345, [])), (46, (20, 1, 0, [])), (47, (13, 2, 0, [5])), (49, (8, 1, 0, [0])), (50, (7, 2, 0, [5])), (52, (76, 3, 0, [81, 2, 0, 27, 143, 3225])), (55, (7, 2, 0, [6])), (57, (7, 2, 0, [4])), (59, (103, 3, 0, [79])), (62, (8, 1, 0, [0])), (63, (52, 3, (-25), [7, 0, 24, 22, 1157])), (66, (8, 1, 0, [0])), (67, (52, 3, 1, [7, 1, 21, 12, 1158])), (70, (76, 3, 0, [44, 2, 1, 24, 72, 3122])), (73, (77, 3, 0, [228, 1, 1, 0, 76, 3123])), (76, (48, 3, 0, [100])), (79, (8, 1, 0, [0])), (80, (52, 3, (-25), [7, 0, 24, 22, 1157])), (83, (8, 1, 0, [0])), (84, (52, 3, 1, [7, 1, 21, 12, 1158])), (87, (7, 2, 0, [4])), (89, (76, 3, 0, [43, 3, 1, 24, 43, 3071])), (92, (100, 3, 0, [99])), (95, (0, 1, 1, [])), (96, (48, 3, 0, [100])), (99, (0, 1, 0, [])), (100, (20, 1, 0, [])), (101, (13, 2, 0, [6])), (103, (8, 1, 0, [0])), (104, (52, 3, 1, [7, 1, 21, 12, 1158])), (107, (8, 1, 0, [0])), (108, (52, 3, (-25), [7, 0, 24, 22, 1157])), (111, (51, 3, 0, [4, 5, 0, 35, 1104])), (114, (76, 3, 0, [14, 2, 0, 21, 39, 3008])), (117, (17, 3, 1, [8])), (120, (48, 3, 0, [32])), (123, (17, 3, 1, [7])), (126, (48, 3, 0, [9])), (129, (7, 2, 0, [6])), (131, (90, 1, 0, []))]
/-- EiderClimate$Thought.draw(I)V -/
def mc_81 : List (Nat × mI) := [(0, (6, 1, 0, [1])), (1, (1, 2, 8, [])), (3, (31, 1, 0, [])), (4, (0, 1, 3, [])), (5, (24, 1, 0, [])), (6, (12, 1, 0, [2])), (7, (6, 1, 0, [2])), (8, (101, 3, 0, [28])), (11, (8, 1, 0, [0])), (12, (52, 3, 1, [7, 1, 21, 12, 1158])), (15, (6, 1, 0, [1])), (16, (1, 2, 16, [])), (18, (31, 1, 0, [])), (19, (0, 1, 5, [])), (20, (24, 1, 0, [])), (21, (0, 1, 0, [])), (22, (76, 3, 0, [17, 3, 0, 21, 51, 3092])), (25, (48, 3, 0, [65])), (28, (6, 1, 0, [2])), (29, (0, 1, 1, [])), (30, (111, 3, 0, [65])), (33, (6, 1, 0, [1])), (34, (1, 2, 16, [])), (36, (31, 1, 0, [])), (37, (1, 2, 30, [])), (39, (24, 1, 0, [])), (40, (12, 1, 0, [3])), (41, (8, 1, 0, [0])), (42, (52, 3, 1, [7, 1, 21, 12, 1158])), (45, (52, 3, 2, [1, 1, 1030, 146, 1042])), (48, (6, 1, 0, [3])), (49, (0, 1, 0, [])), (50, (8, 1, 0, [0])), (51, (52, 3, 1, [7, 1, 21, 12, 1158])), (54, (52, 3, 2, [1, 1, 1030, 146, 1042])), (57, (6, 1, 0, [3])), (58, (60, 1, 0, [])), (59, (0, 1, 1, [])), (60, (21, 1, 0, [])), (61, (82, 3, 0, [149, 3229])), (64, (61, 1, 0, [])), (65, (93, 1, 0, []))]
/-- EiderClimate$Ways.<init>()V -/
def mc_82 : List (Nat × mI) := [(0, (8, 1, 0, [0])), (1, (75, 3, 0, [3, 1197])), (4, (8, 1, 0, [0])), (5, (1, 2, 30, [])), (7, (70, 2, 0, [1000])), (9, (56, 3, 0, [8, 0, 1030, 9, 1198])), (12, (8, 1, 0, [0])), (13, (1, 2, 30, [])), (15, (70, 2, 0, [1000])), (17, (56, 3, 0, [8, 1, 1030, 15, 1200])), (20, (8, 1, 0, [0])), (21, (1, 2, 30, [])), (23, (70, 2, 0, [1000])), (25, (56, 3, 0, [8, 2, 1030, 18, 1201])), (28, (8, 1, 0, [0])), (29, (1, 2, 30, [])), (31, (70, 2, 0, [1000])), (33, (56, 3, 0, [8, 3, 1030, 21, 1202])), (36, (93, 1, 0, []))]
/-- EiderClimate$Ways.findWay(II)V -/
def mc_83 : List (Nat × mI) := [(0, (8, 1, 0, [0])), (1, (52, 3, 1, [8, 0, 1030, 9, 1198])), (4, (6, 1, 0, [1])), (5, (60, 1, 0, [])), (6, (8, 1, 0, [0])), (7, (52, 3, 1, [8, 0, 1030, 9, 1198])), (10, (6, 1, 0, [2])), (11, (60, 1, 0, [])), (12, (81, 3, 0, [24, 3182])), (15, (12, 1, 0, [3])), (16, (6, 1, 0, [3])), (17, (102, 3, 0, [100])), (20, (8, 1, 0, [0])), (21, (76, 3, 0, [85, 1, 0, 28, 30, 3183])), (24, (0, 1, 0, [])), (25, (13, 2, 0, [4])), (27, (7, 2, 0, [4])), (29, (1, 2, 30, [])), (31, (113, 3, 0, [63])), (34, (8, 1, 0, [0])), (35, (52, 3, 2, [8, 1, 1030, 15, 1200])), (38, (7, 2, 0, [4])), (40, (8, 1, 0, [0])), (41, (52, 3, 1, [8, 0, 1030, 9, 1198])), (44, (7, 2, 0, [4])), (46, (60, 1, 0, [])), (47, (6, 1, 0, [3])), (48, (112, 3, 0, [55])), (51, (0, 1, 1, [])), (52, (48, 3, 0, [56])), (55, (0, 1, 0, [])), (56, (61, 1, 0, [])), (57, (17, 3, 1, [4])), (60, (48, 3, 0, [27])), (63, (8, 1, 0, [0])), (64, (6, 1, 0, [1])), (65, (76, 3, 0, [86, 2, 1, 28, 33, 3187])), (68, (45, 1, 0, [])), (69, (8, 1, 0, [0])), (70, (52, 3, 3, [8, 2, 1030, 18, 1201])), (73, (6, 1, 0, [2])), (74, (60, 1, 0, [])), (75, (102, 3, 0, [94])), (78, (8, 1, 0, [0])), (79, (6, 1, 0, [3])), (80, (54, 3, 0, [8, 4, 0, 37, 1203])), (83, (8, 1, 0, [0])), (84, (8, 1, 0, [0])), (85, (52, 3, 3, [8, 2, 1030, 18, 1201])), (88, (6, 1, 0, [2])), (89, (60, 1, 0, [])), (90, (54, 3, 0, [8, 5, 0, 41, 1205])), (93, (93, 1, 0, [])), (94, (17, 3, (-1), [3])), (97, (48, 3, 0, [16])), (100, (93, 1, 0, []))]
/-- EiderClimate$Ways.findPatches(LEiderClimate$Cover;)V -/
def mc_84 : List (Nat × mI) := [(0, (8, 1, 0, [0])), (1, (0, 1, 0, [])), (2, (54, 3, 0, [8, 6, 0, 44, 1207])), (5, (8, 1, 0, [0])), (6, (0, 1, 0, [])), (7, (54, 3, 0, [8, 7, 0, 47, 1209])), (10, (8, 1, 0, [0])), (11, (76, 3, 0, [85, 1, 0, 28, 30, 3183])), (14, (0, 1, 0, [])), (15, (12, 1, 0, [2])), (16, (6, 1, 0, [2])), (17, (1, 2, 30, [])), (19, (113, 3, 0, [55])), (22, (8, 1, 0, [0])), (23, (52, 3, 2, [8, 1, 1030, 15, 1200])), (26, (6, 1, 0, [2])), (27, (8, 1, 0, [1])), (28, (52, 3, 2, [1, 1, 1030, 50, 1040])), (31, (6, 1, 0, [2])), (32, (60, 1, 0, [])), (33, (105, 3, 0, [47])), (36, (8, 1, 0, [1])), (37, (52, 3, 1, [1, 0, 1030, 55, 1036])), (40, (6, 1, 0, [2])), (41, (60, 1, 0, [])), (42, (0, 1, 1, [])), (43, (20, 1, 0, [])), (44, (48, 3, 0, [48])), (47, (0, 1, 0, [])), (48, (61, 1, 0, [])), (49, (17, 3, 1, [2])), (52, (48, 3, 0, [16])), (55, (0, 1, 0, [])), (56, (12, 1, 0, [2])), (57, (6, 1, 0, [2])), (58, (1, 2, 30, [])), (60, (113, 3, 0, [113])), (63, (8, 1, 0, [0])), (64, (52, 3, 2, [8, 1, 1030, 15, 1200])), (67, (6, 1, 0, [2])), (68, (60, 1, 0, [])), (69, (105, 3, 0, [107])), (72, (8, 1, 0, [0])), (73, (52, 3, 3, [8, 2, 1030, 18, 1201])), (76, (6, 1, 0, [2])), (77, (60, 1, 0, [])), (78, (103, 3, 0, [107])), (81, (8, 1, 0, [0])), (82, (42, 1, 0, [])), (83, (51, 3, 0, [8, 6, 0, 44, 1207])), (86, (0, 1, 1, [])), (87, (20, 1, 0, [])), (88, (54, 3, 0, [8, 6, 0, 44, 1207])), (91, (8, 1, 0, [0])), (92, (8, 1, 0, [0])), (93, (51, 3, 0, [8, 7, 0, 47, 1209])), (96, (8, 1, 0, [0])), (97, (6, 1, 0, [2])), (98, (76, 3, 0, [86, 2, 1, 28, 33, 3187])), (101, (82, 3, 0, [58, 3202])), (104, (54, 3, 0, [8, 7, 0, 47, 1209])), (107, (17, 3, 1, [2])), (110, (48, 3, 0, [57])), (113, (93, 1, 0, []))]
/-- EiderClimate$Ways.forgetSteps()V -/
def mc_85 : List (Nat × mI) := [(0, (0, 1, 0, [])), (1, (12, 1, 0, [1])), (2, (6, 1, 0, [1])), (3, (1, 2, 30, [])), (5, (113, 3, 0, [21])), (8, (8, 1, 0, [0])), (9, (52, 3, 3, [8, 2, 1030, 18, 1201])), (12, (6, 1, 0, [1])), (13, (0, 1, (-1), [])), (14, (61, 1, 0, [])), (15, (17, 3, 1, [1])), (18, (48, 3, 0, [2])), (21, (93, 1, 0, []))]
/-- EiderClimate$Ways.spread(I)I -/
def mc_86 : List (Nat × mI) := [(0, (0, 1, 1, [])), (1, (12, 1, 0, [2])), (2, (8, 1, 0, [0])), (3, (52, 3, 4, [8, 3, 1030, 21, 1202])), (6, (0, 1, 0, [])), (7, (6, 1, 0, [1])), (8, (61, 1, 0, [])), (9, (8, 1, 0, [0])), (10, (52, 3, 3, [8, 2, 1030, 18, 1201])), (13, (6, 1, 0, [1])), (14, (0, 1, 0, [])), (15, (61, 1, 0, [])), (16, (0, 1, 0, [])), (17, (12, 1, 0, [3])), (18, (6, 1, 0, [3])), (19, (6, 1, 0, [2])), (20, (113, 3, 0, [125])), (23, (8, 1, 0, [0])), (24, (52, 3, 4, [8, 3, 1030, 21, 1202])), (27, (6, 1, 0, [3])), (28, (60, 1, 0, [])), (29, (13, 2, 0, [4])), (31, (0, 1, 0, [])), (32, (13, 2, 0, [5])), (34, (7, 2, 0, [5])), (36, (0, 1, 4, [])), (37, (113, 3, 0, [119])), (40, (7, 2, 0, [4])), (42, (7, 2, 0, [5])), (44, (77, 3, 0, [11, 2, 1, 0, 61, 3191])), (47, (13, 2, 0, [6])), (49, (7, 2, 0, [6])), (51, (102, 3, 0, [113])), (54, (8, 1, 0, [0])), (55, (52, 3, 3, [8, 2, 1030, 18, 1201])), (58, (7, 2, 0, [6])), (60, (60, 1, 0, [])), (61, (103, 3, 0, [113])), (64, (8, 1, 0, [0])), (65, (52, 3, 2, [8, 1, 1030, 15, 1200])), (68, (7, 2, 0, [6])), (70, (60, 1, 0, [])), (71, (8, 1, 0, [0])), (72, (52, 3, 2, [8, 1, 1030, 15, 1200])), (75, (6, 1, 0, [1])), (76, (60, 1, 0, [])), (77, (111, 3, 0, [113])), (80, (6, 1, 0, [2])), (81, (1, 2, 30, [])), (83, (113, 3, 0, [113])), (86, (8, 1, 0, [0])), (87, (52, 3, 3, [8, 2, 1030, 18, 1201])), (90, (7, 2, 0, [6])), (92, (8, 1, 0, [0])), (93, (52, 3, 3, [8, 2, 1030, 18, 1201])), (96, (7, 2, 0, [4])), (98, (60, 1, 0, [])), (99, (0, 1, 1, [])), (100, (20, 1, 0, [])), (101, (61, 1, 0, [])), (102, (8, 1, 0, [0])), (103, (52, 3, 4, [8, 3, 1030, 21, 1202])), (106, (6, 1, 0, [2])), (107, (7, 2, 0, [6])), (109, (61, 1, 0, [])), (110, (17, 3, 1, [2])), (113, (17, 3, 1, [5])), (116, (48, 3, 0, [34])), (119, (17, 3, 1, [3])), (122, (48, 3, 0, [18])), (125, (6, 1, 0, [2])), (126, (90, 1, 0, []))]
/-- EiderClimate.<init>()V -/
def mc_87 : List (Nat × mI) := [(0, (8, 1, 0, [0])), (1, (75, 3, 0, [1, 1020])), (4, (74, 3, 0, [4, 8, 7, 1023, 1024, 1002])), (7, (42, 1, 0, [])), (8, (80, 3, 0, [36, 1, 0, 24, 9, 1025])), (11, (14, 1, 0, [1])), (12, (8, 1, 0, [0])), (13, (8, 1, 0, [1])), (14, (56, 3, 0, [9, 0, 24, 10, 2067])), (17, (8, 1, 0, [0])), (18, (74, 3, 0, [6, 4, 16, 1129, 1130, 1005])), (21, (42, 1, 0, [])), (22, (80, 3, 0, [54, 1, 0, 26, 18, 1131])), (25, (56, 3, 0, [9, 1, 26, 19, 2068])), (28, (8, 1, 0, [0])), (29, (74, 3, 0, [7, 10, 23, 1149, 1150, 1006])), (32, (42, 1, 0, [])), (33, (8, 1, 0, [1])), (34, (78, 3, 0, [66, 2, 0, 27, 25, 1151])), (37, (56, 3, 0, [9, 2, 27, 28, 2069])), (40, (8, 1, 0, [0])), (41, (74, 3, 0, [8, 8, 32, 1192, 1193, 1007])), (44, (42, 1, 0, [])), (45, (80, 3, 0, [82, 1, 0, 28, 34, 1194])), (48, (56, 3, 0, [9, 3, 28, 35, 2070])), (51, (8, 1, 0, [0])), (52, (74, 3, 0, [0, 6, 39, 1228, 1229, 1008])), (55, (42, 1, 0, [])), (56, (80, 3, 0, [0, 1, 0, 20, 41, 1230])), (59, (56, 3, 0, [9, 4, 20, 42, 2071])), (62, (8, 1, 0, [0])), (63, (74, 3, 0, [5, 4, 46, 2015, 2016, 1009])), (66, (42, 1, 0, [])), (67, (80, 3, 0, [46, 1, 0, 25, 48, 2017])), (70, (56, 3, 0, [9, 5, 25, 49, 2072])), (73, (8, 1, 0, [0])), (74, (1, 2, 6, [])), (76, (73, 3, 0, [9000, 53, 2038])), (79, (56, 3, 0, [9, 6, 9006, 55, 2073])), (82, (0, 1, 0, [])), (83, (12, 1, 0, [2])), (84, (6, 1, 0, [2])), (85, (1, 2, 6, [])), (87, (113, 3, 0, [109])), (90, (8, 1, 0, [0])), (91, (53, 3, 0, [9, 6, 9006, 55, 2073])), (94, (6, 1, 0, [2])), (95, (74, 3, 0, [3, 4, 53, 2038, 2040, 1010])), (98, (42, 1, 0, [])), (99, (80, 3, 0, [30, 1, 0, 23, 59, 2041])), (102, (67, 1, 0, [])), (103, (17, 3, 1, [2])), (106, (48, 3, 0, [84])), (109, (8, 1, 0, [0])), (110, (74, 3, 0, [1, 5, 60, 2065, 1030, 1003])), (113, (42, 1, 0, [])), (114, (80, 3, 0, [5, 1, 0, 21, 62, 2066])), (117, (56, 3, 0, [9, 7, 21, 63, 2074])), (120, (8, 1, 0, [0])), (121, (0, 1, 0, [])), (122, (57, 3, 0, [9, 8, 0, 67, 2075])), (125, (93, 1, 0, []))]
/-- EiderClimate.house(II)I -/
def mc_88 : List (Nat × mI) := [(0, (6, 1, 0, [1])), (1, (58, 3, 0, [7008, 900, 71, 2099])), (4, (0, 1, 3, [])), (5, (60, 1, 0, [])), (6, (77, 3, 0, [126, 2, 1, 0, 75, 2101])), (9, (100, 3, 0, [24])), (12, (6, 1, 0, [2])), (13, (58, 3, 0, [7008, 900, 71, 2099])), (16, (0, 1, 4, [])), (17, (60, 1, 0, [])), (18, (77, 3, 0, [126, 2, 1, 0, 75, 2101])), (21, (101, 3, 0, [26])), (24, (0, 1, (-1), [])), (25, (90, 1, 0, [])), (26, (8, 1, 0, [0])), (27, (52, 3, 1, [9, 0, 24, 10, 2067])), (30, (6, 1, 0, [1])), (31, (6, 1, 0, [2])), (32, (2, 3, 4095, [])), (35, (76, 3, 0, [39, 4, 1, 24, 79, 2104])), (38, (90, 1, 0, []))]
/-- EiderClimate.houses(III)I -/
def mc_89 : List (Nat × mI) := [(0, (6, 1, 0, [1])), (1, (77, 3, 0, [128, 1, 1, 0, 83, 2112])), (4, (100, 3, 0, [18])), (7, (6, 1, 0, [3])), (8, (0, 1, 1, [])), (9, (112, 3, 0, [18])), (12, (6, 1, 0, [3])), (13, (1, 2, 8, [])), (15, (115, 3, 0, [20])), (18, (0, 1, (-1), [])), (19, (90, 1, 0, [])), (20, (8, 1, 0, [0])), (21, (52, 3, 46, [9, 6, 9006, 55, 2073])), (24, (6, 1, 0, [1])), (25, (66, 1, 0, [])), (26, (15, 2, 0, [4])), (28, (9, 2, 0, [4])), (30, (51, 3, 0, [3, 1, 0, 87, 2049])), (33, (1, 2, (-2), [])), (35, (110, 3, 0, [50])), (38, (9, 2, 0, [4])), (40, (51, 3, 0, [3, 1, 0, 87, 2049])), (43, (0, 1, 1, [])), (44, (110, 3, 0, [50])), (47, (1, 2, (-12), [])), (49, (90, 1, 0, [])), (50, (0, 1, 0, [])), (51, (13, 2, 0, [5])), (53, (7, 2, 0, [5])), (55, (6, 1, 0, [3])), (56, (113, 3, 0, [77])), (59, (8, 1, 0, [0])), (60, (9, 2, 0, [4])), (62, (6, 1, 0, [2])), (63, (7, 2, 0, [5])), (65, (76, 3, 0, [129, 4, 1, 29, 91, 2115])), (68, (100, 3, 0, [77])), (71, (17, 3, 1, [5])), (74, (48, 3, 0, [53])), (77, (7, 2, 0, [5])), (79, (90, 1, 0, []))]
/-- EiderClimate.mend(III)I -/
def mc_90 : List (Nat × mI) := [(0, (8, 1, 0, [0])), (1, (52, 3, 1, [9, 0, 24, 10, 2067])), (4, (6, 1, 0, [1])), (5, (6, 1, 0, [2])), (6, (76, 3, 0, [40, 3, 1, 24, 95, 2123])), (9, (100, 3, 0, [24])), (12, (6, 1, 0, [3])), (13, (58, 3, 0, [7008, 900, 71, 2099])), (16, (6, 1, 0, [2])), (17, (60, 1, 0, [])), (18, (77, 3, 0, [126, 2, 1, 0, 75, 2101])), (21, (101, 3, 0, [26])), (24, (0, 1, (-1), [])), (25, (90, 1, 0, [])), (26, (8, 1, 0, [0])), (27, (52, 3, 1, [9, 0, 24, 10, 2067])), (30, (6, 1, 0, [1])), (31, (6, 1, 0, [2])), (32, (76, 3, 0, [41, 3, 1, 24, 98, 2134])), (35, (13, 2, 0, [4])), (37, (7, 2, 0, [4])), (39, (6, 1, 0, [3])), (40, (110, 3, 0, [65])), (43, (8, 1, 0, [0])), (44, (52, 3, 1, [9, 0, 24, 10, 2067])), (47, (6, 1, 0, [1])), (48, (6, 1, 0, [2])), (49, (6, 1, 0, [3])), (50, (76, 3, 0, [42, 4, 0, 24, 102, 2142])), (53, (8, 1, 0, [0])), (54, (52, 3, 38, [9, 4, 20, 42, 2071])), (57, (6, 1, 0, [1])), (58, (6, 1, 0, [2])), (59, (7, 2, 0, [4])), (61, (6, 1, 0, [3])), (62, (76, 3, 0, [1, 5, 0, 20, 106, 2150])), (65, (7, 2, 0, [4])), (67, (90, 1, 0, []))]
/-- EiderClimate.of(II)I -/
def mc_91 : List (Nat × mI) := [(0, (8, 1, 0, [0])), (1, (52, 3, 1, [9, 0, 24, 10, 2067])), (4, (6, 1, 0, [1])), (5, (6, 1, 0, [2])), (6, (76, 3, 0, [40, 3, 1, 24, 95, 2123])), (9, (100, 3, 0, [24])), (12, (8, 1, 0, [0])), (13, (52, 3, 1, [9, 0, 24, 10, 2067])), (16, (6, 1, 0, [1])), (17, (6, 1, 0, [2])), (18, (76, 3, 0, [41, 3, 1, 24, 98, 2134])), (21, (48, 3, 0, [25])), (24, (0, 1, (-1), [])), (25, (90, 1, 0, []))]
/-- EiderClimate.feed(I)I -/
def mc_92 : List (Nat × mI) := [(0, (6, 1, 0, [1])), (1, (2, 3, 255, [])), (4, (77, 3, 0, [126, 2, 1, 0, 75, 2101])), (7, (101, 3, 0, [12])), (10, (0, 1, (-1), [])), (11, (90, 1, 0, [])), (12, (8, 1, 0, [0])), (13, (52, 3, 24, [9, 1, 26, 19, 2068])), (16, (6, 1, 0, [1])), (17, (76, 3, 0, [55, 2, 1, 26, 110, 2169])), (20, (100, 3, 0, [33])), (23, (8, 1, 0, [0])), (24, (52, 3, 24, [9, 1, 26, 19, 2068])), (27, (51, 3, 0, [6, 1, 0, 113, 1137])), (30, (48, 3, 0, [35])), (33, (1, 2, (-3), [])), (35, (90, 1, 0, []))]
/-- EiderClimate.law()I -/
def mc_93 : List (Nat × mI) := [(0, (8, 1, 0, [0])), (1, (52, 3, 24, [9, 1, 26, 19, 2068])), (4, (8, 1, 0, [0])), (5, (52, 3, 1, [9, 0, 24, 10, 2067])), (8, (53, 3, 0, [4, 7, 22, 116, 1111])), (11, (76, 3, 0, [56, 2, 1, 26, 120, 2177])), (14, (12, 1, 0, [1])), (15, (8, 1, 0, [0])), (16, (52, 3, 24, [9, 1, 26, 19, 2068])), (19, (0, 1, 0, [])), (20, (54, 3, 0, [6, 1, 0, 113, 1137])), (23, (6, 1, 0, [1])), (24, (102, 3, 0, [32])), (27, (1, 2, (-100), [])), (29, (6, 1, 0, [1])), (30, (21, 1, 0, [])), (31, (90, 1, 0, [])), (32, (8, 1, 0, [0])), (33, (52, 3, 1, [9, 0, 24, 10, 2067])), (36, (76, 3, 0, [37, 1, 0, 24, 124, 2230])), (39, (0, 1, 1, [])), (40, (90, 1, 0, []))]
/-- EiderClimate.later(III)I -/
def mc_94 : List (Nat × mI) := [(0, (6, 1, 0, [1])), (1, (1, 2, 48, [])), (3, (77, 3, 0, [126, 2, 1, 0, 75, 2101])), (6, (100, 3, 0, [24])), (9, (6, 1, 0, [2])), (10, (77, 3, 0, [127, 1, 1, 0, 127, 2238])), (13, (100, 3, 0, [24])), (16, (6, 1, 0, [3])), (17, (0, 1, 3, [])), (18, (77, 3, 0, [126, 2, 1, 0, 75, 2101])), (21, (101, 3, 0, [26])), (24, (0, 1, (-1), [])), (25, (90, 1, 0, [])), (26, (8, 1, 0, [0])), (27, (52, 3, 26, [9, 2, 27, 28, 2069])), (30, (6, 1, 0, [1])), (31, (76, 3, 0, [67, 2, 22, 27, 130, 2239])), (34, (15, 2, 0, [4])), (36, (6, 1, 0, [3])), (37, (101, 3, 0, [56])), (40, (8, 1, 0, [0])), (41, (52, 3, 1, [9, 0, 24, 10, 2067])), (44, (53, 3, 0, [4, 6, 22, 134, 1108])), (47, (9, 2, 0, [4])), (49, (6, 1, 0, [2])), (50, (76, 3, 0, [25, 3, 1, 22, 137, 3019])), (53, (48, 3, 0, [65])), (56, (9, 2, 0, [4])), (58, (6, 1, 0, [2])), (59, (6, 1, 0, [3])), (60, (0, 1, 1, [])), (61, (21, 1, 0, [])), (62, (76, 3, 0, [7, 3, 1, 21, 143, 3044])), (65, (90, 1, 0, []))]
/-- EiderClimate.cold(II)I -/
def mc_95 : List (Nat × mI) := [(0, (6, 1, 0, [1])), (1, (1, 2, 48, [])), (3, (77, 3, 0, [126, 2, 1, 0, 75, 2101])), (6, (100, 3, 0, [17])), (9, (6, 1, 0, [2])), (10, (0, 1, 1, [])), (11, (77, 3, 0, [126, 2, 1, 0, 75, 2101])), (14, (101, 3, 0, [19])), (17, (0, 1, (-1), [])), (18, (90, 1, 0, [])), (19, (8, 1, 0, [0])), (20, (52, 3, 26, [9, 2, 27, 28, 2069])), (23, (6, 1, 0, [1])), (24, (76, 3, 0, [67, 2, 22, 27, 130, 2239])), (27, (14, 1, 0, [3])), (28, (6, 1, 0, [2])), (29, (101, 3, 0, [43])), (32, (8, 1, 0, [0])), (33, (52, 3, 1, [9, 0, 24, 10, 2067])), (36, (8, 1, 0, [3])), (37, (76, 3, 0, [44, 2, 1, 24, 146, 3049])), (40, (48, 3, 0, [51])), (43, (8, 1, 0, [0])), (44, (52, 3, 1, [9, 0, 24, 10, 2067])), (47, (8, 1, 0, [3])), (48, (76, 3, 0, [45, 2, 1, 24, 150, 3058])), (51, (90, 1, 0, []))]
/-- EiderClimate.first(I)I -/
def mc_96 : List (Nat × mI) := [(0, (8, 1, 0, [0])), (1, (52, 3, 1, [9, 0, 24, 10, 2067])), (4, (6, 1, 0, [1])), (5, (76, 3, 0, [38, 2, 1, 24, 153, 3066])), (8, (100, 3, 0, [22])), (11, (8, 1, 0, [0])), (12, (52, 3, 26, [9, 2, 27, 28, 2069])), (15, (6, 1, 0, [1])), (16, (76, 3, 0, [68, 2, 1, 27, 156, 3067])), (19, (48, 3, 0, [23])), (22, (0, 1, (-1), [])), (23, (90, 1, 0, []))]
/-- EiderClimate.often(II)I -/
def mc_97 : List (Nat × mI) := [(0, (8, 1, 0, [0])), (1, (52, 3, 1, [9, 0, 24, 10, 2067])), (4, (6, 1, 0, [1])), (5, (76, 3, 0, [38, 2, 1, 24, 153, 3066])), (8, (100, 3, 0, [20])), (11, (6, 1, 0, [2])), (12, (1, 2, 48, [])), (14, (77, 3, 0, [126, 2, 1, 0, 75, 2101])), (17, (101, 3, 0, [22])), (20, (0, 1, (-1), [])), (21, (90, 1, 0, [])), (22, (8, 1, 0, [0])), (23, (52, 3, 26, [9, 2, 27, 28, 2069])), (26, (6, 1, 0, [1])), (27, (6, 1, 0, [2])), (28, (76, 3, 0, [69, 3, 1, 27, 160, 3076])), (31, (90, 1, 0, []))]
/-- EiderClimate.pulls(II)I -/
def mc_98 : List (Nat × mI) := [(0, (8, 1, 0, [0])), (1, (52, 3, 1, [9, 0, 24, 10, 2067])), (4, (6, 1, 0, [1])), (5, (76, 3, 0, [38, 2, 1, 24, 153, 3066])), (8, (100, 3, 0, [16])), (11, (6, 1, 0, [2])), (12, (0, 1, (-1), [])), (13, (113, 3, 0, [18])), (16, (0, 1, (-1), [])), (17, (90, 1, 0, [])), (18, (8, 1, 0, [0])), (19, (52, 3, 26, [9, 2, 27, 28, 2069])), (22, (6, 1, 0, [1])), (23, (76, 3, 0, [70, 2, 1, 27, 163, 3084])), (26, (12, 1, 0, [3])), (27, (6, 1, 0, [2])), (28, (102, 3, 0, [35])), (31, (6, 1, 0, [3])), (32, (103, 3, 0, [37])), (35, (6, 1, 0, [3])), (36, (90, 1, 0, [])), (37, (6, 1, 0, [2])), (38, (6, 1, 0, [3])), (39, (113, 3, 0, [54])), (42, (8, 1, 0, [0])), (43, (52, 3, 26, [9, 2, 27, 28, 2069])), (46, (52, 3, 6, [7, 2, 1003, 166, 1160])), (49, (6, 1, 0, [2])), (50, (60, 1, 0, [])), (51, (48, 3, 0, [56])), (54, (1, 2, (-2), [])), (56, (90, 1, 0, []))]
/-- EiderClimate.shakes(I)I -/
def mc_99 : List (Nat × mI) := [(0, (6, 1, 0, [1])), (1, (0, 1, 1, [])), (2, (77, 3, 0, [126, 2, 1, 0, 75, 2101])), (5, (101, 3, 0, [10])), (8, (0, 1, (-1), [])), (9, (90, 1, 0, [])), (10, (8, 1, 0, [0])), (11, (52, 3, 26, [9, 2, 27, 28, 2069])), (14, (76, 3, 0, [72, 1, 0, 27, 169, 3103])), (17, (6, 1, 0, [1])), (18, (101, 3, 0, [31])), (21, (8, 1, 0, [0])), (22, (52, 3, 26, [9, 2, 27, 28, 2069])), (25, (51, 3, 0, [7, 3, 0, 172, 1162])), (28, (48, 3, 0, [38])), (31, (8, 1, 0, [0])), (32, (52, 3, 26, [9, 2, 27, 28, 2069])), (35, (51, 3, 0, [7, 4, 0, 175, 1164])), (38, (90, 1, 0, []))]
/-- EiderClimate.stuffs(II)I -/
def mc_100 : List (Nat × mI) := [(0, (6, 1, 0, [1])), (1, (0, 1, 2, [])), (2, (77, 3, 0, [126, 2, 1, 0, 75, 2101])), (5, (100, 3, 0, [16])), (8, (6, 1, 0, [2])), (9, (0, 1, 1, [])), (10, (77, 3, 0, [126, 2, 1, 0, 75, 2101])), (13, (101, 3, 0, [18])), (16, (0, 1, (-1), [])), (17, (90, 1, 0, [])), (18, (8, 1, 0, [0])), (19, (52, 3, 26, [9, 2, 27, 28, 2069])), (22, (6, 1, 0, [1])), (23, (76, 3, 0, [73, 2, 0, 27, 178, 3133])), (26, (6, 1, 0, [2])), (27, (101, 3, 0, [40])), (30, (8, 1, 0, [0])), (31, (52, 3, 26, [9, 2, 27, 28, 2069])), (34, (51, 3, 0, [7, 4, 0, 175, 1164])), (37, (48, 3, 0, [47])), (40, (8, 1, 0, [0])), (41, (52, 3, 26, [9, 2, 27, 28, 2069])), (44, (51, 3, 0, [7, 3, 0, 172, 1162])), (47, (90, 1, 0, []))]
/-- EiderClimate.judge(I)I -/
def mc_101 : List (Nat × mI) := [(0, (8, 1, 0, [0])), (1, (6, 1, 0, [1])), (2, (76, 3, 0, [130, 2, 1, 29, 182, 3145])), (5, (12, 1, 0, [2])), (6, (6, 1, 0, [2])), (7, (103, 3, 0, [14])), (10, (6, 1, 0, [2])), (11, (48, 3, 0, [34])), (14, (8, 1, 0, [0])), (15, (52, 3, 26, [9, 2, 27, 28, 2069])), (18, (8, 1, 0, [0])), (19, (52, 3, 46, [9, 6, 9006, 55, 2073])), (22, (6, 1, 0, [1])), (23, (1, 2, 100, [])), (25, (23, 1, 0, [])), (26, (66, 1, 0, [])), (27, (6, 1, 0, [1])), (28, (1, 2, 100, [])), (30, (24, 1, 0, [])), (31, (76, 3, 0, [75, 3, 1, 27, 185, 3149])), (34, (90, 1, 0, []))]
/-- EiderClimate.felt(III)I -/
def mc_102 : List (Nat × mI) := [(0, (6, 1, 0, [2])), (1, (77, 3, 0, [127, 1, 1, 0, 127, 2238])), (4, (100, 3, 0, [15])), (7, (6, 1, 0, [3])), (8, (0, 1, 4, [])), (9, (77, 3, 0, [126, 2, 1, 0, 75, 2101])), (12, (101, 3, 0, [17])), (15, (0, 1, (-1), [])), (16, (90, 1, 0, [])), (17, (8, 1, 0, [0])), (18, (6, 1, 0, [1])), (19, (76, 3, 0, [130, 2, 1, 29, 182, 3145])), (22, (13, 2, 0, [4])), (24, (7, 2, 0, [4])), (26, (103, 3, 0, [32])), (29, (7, 2, 0, [4])), (31, (90, 1, 0, [])), (32, (8, 1, 0, [0])), (33, (52, 3, 26, [9, 2, 27, 28, 2069])), (36, (8, 1, 0, [0])), (37, (52, 3, 46, [9, 6, 9006, 55, 2073])), (40, (6, 1, 0, [1])), (41, (1, 2, 100, [])), (43, (23, 1, 0, [])), (44, (66, 1, 0, [])), (45, (6, 1, 0, [1])), (46, (1, 2, 100, [])), (48, (24, 1, 0, [])), (49, (6, 1, 0, [2])), (50, (6, 1, 0, [3])), (51, (0, 1, 1, [])), (52, (20, 1, 0, [])), (53, (0, 1, 2, [])), (54, (23, 1, 0, [])), (55, (76, 3, 0, [77, 5, 1, 27, 189, 3163])), (58, (13, 2, 0, [5])), (60, (6, 1, 0, [3])), (61, (101, 3, 0, [67])), (64, (7, 2, 0, [5])), (66, (90, 1, 0, [])), (67, (6, 1, 0, [3])), (68, (0, 1, 2, [])), (69, (24, 1, 0, [])), (70, (0, 1, 1, [])), (71, (111, 3, 0, [80])), (74, (7, 2, 0, [5])), (76, (77, 3, 0, [228, 1, 1, 0, 193, 3169])), (79, (90, 1, 0, [])), (80, (7, 2, 0, [5])), (82, (101, 3, 0, [90])), (85, (1, 2, (-2), [])), (87, (48, 3, 0, [95])), (90, (7, 2, 0, [5])), (92, (77, 3, 0, [227, 1, 1, 0, 198, 3170])), (95, (90, 1, 0, []))]
/-- EiderClimate.walk(II)I -/
def mc_103 : List (Nat × mI) := [(0, (6, 1, 0, [1])), (1, (102, 3, 0, [32])), (4, (6, 1, 0, [1])), (5, (1, 2, 100, [])), (7, (23, 1, 0, [])), (8, (77, 3, 0, [127, 1, 1, 0, 127, 2238])), (11, (100, 3, 0, [32])), (14, (6, 1, 0, [1])), (15, (1, 2, 100, [])), (17, (24, 1, 0, [])), (18, (77, 3, 0, [127, 1, 1, 0, 127, 2238])), (21, (100, 3, 0, [32])), (24, (6, 1, 0, [2])), (25, (0, 1, 1, [])), (26, (77, 3, 0, [126, 2, 1, 0, 75, 2101])), (29, (101, 3, 0, [34])), (32, (0, 1, (-1), [])), (33, (90, 1, 0, [])), (34, (0, 1, 0, [])), (35, (12, 1, 0, [3])), (36, (6, 1, 0, [3])), (37, (1, 2, 30, [])), (39, (113, 3, 0, [75])), (42, (8, 1, 0, [0])), (43, (52, 3, 33, [9, 3, 28, 35, 2070])), (46, (52, 3, 1, [8, 0, 1030, 201, 1199])), (49, (6, 1, 0, [3])), (50, (8, 1, 0, [0])), (51, (52, 3, 1, [9, 0, 24, 10, 2067])), (54, (53, 3, 0, [4, 6, 22, 134, 1108])), (57, (8, 1, 0, [0])), (58, (52, 3, 1, [9, 0, 24, 10, 2067])), (61, (52, 3, 1, [4, 0, 21, 204, 1097])), (64, (6, 1, 0, [3])), (65, (76, 3, 0, [25, 3, 1, 22, 137, 3019])), (68, (61, 1, 0, [])), (69, (17, 3, 1, [3])), (72, (48, 3, 0, [36])), (75, (8, 1, 0, [0])), (76, (52, 3, 33, [9, 3, 28, 35, 2070])), (79, (6, 1, 0, [1])), (80, (1, 2, 100, [])), (82, (23, 1, 0, [])), (83, (6, 1, 0, [1])), (84, (1, 2, 100, [])), (86, (24, 1, 0, [])), (87, (76, 3, 0, [83, 3, 0, 28, 207, 3178])), (90, (6, 1, 0, [2])), (91, (101, 3, 0, [104])), (94, (8, 1, 0, [0])), (95, (52, 3, 33, [9, 3, 28, 35, 2070])), (98, (51, 3, 0, [8, 4, 0, 211, 1204])), (101, (48, 3, 0, [111])), (104, (8, 1, 0, [0])), (105, (52, 3, 33, [9, 3, 28, 35, 2070])), (108, (51, 3, 0, [8, 5, 0, 214, 1206])), (111, (90, 1, 0, []))]
/-- EiderClimate.patches(I)I -/
def mc_104 : List (Nat × mI) := [(0, (6, 1, 0, [1])), (1, (0, 1, 1, [])), (2, (77, 3, 0, [126, 2, 1, 0, 75, 2101])), (5, (101, 3, 0, [10])), (8, (0, 1, (-1), [])), (9, (90, 1, 0, [])), (10, (8, 1, 0, [0])), (11, (52, 3, 33, [9, 3, 28, 35, 2070])), (14, (8, 1, 0, [0])), (15, (52, 3, 1, [9, 0, 24, 10, 2067])), (18, (52, 3, 1, [4, 0, 21, 204, 1097])), (21, (76, 3, 0, [84, 2, 0, 28, 217, 3198])), (24, (6, 1, 0, [1])), (25, (101, 3, 0, [38])), (28, (8, 1, 0, [0])), (29, (52, 3, 33, [9, 3, 28, 35, 2070])), (32, (51, 3, 0, [8, 6, 0, 221, 1208])), (35, (48, 3, 0, [45])), (38, (8, 1, 0, [0])), (39, (52, 3, 33, [9, 3, 28, 35, 2070])), (42, (51, 3, 0, [8, 7, 0, 224, 1210])), (45, (90, 1, 0, []))]
/-- EiderClimate.byTurns(IIII)I -/
def mc_105 : List (Nat × mI) := [(0, (6, 1, 0, [1])), (1, (102, 3, 0, [43])), (4, (8, 1, 0, [0])), (5, (52, 3, 1, [9, 0, 24, 10, 2067])), (8, (6, 1, 0, [1])), (9, (1, 2, 10, [])), (11, (23, 1, 0, [])), (12, (76, 3, 0, [38, 2, 1, 24, 153, 3066])), (15, (100, 3, 0, [43])), (18, (8, 1, 0, [0])), (19, (52, 3, 1, [9, 0, 24, 10, 2067])), (22, (6, 1, 0, [1])), (23, (1, 2, 10, [])), (25, (24, 1, 0, [])), (26, (76, 3, 0, [38, 2, 1, 24, 153, 3066])), (29, (100, 3, 0, [43])), (32, (6, 1, 0, [1])), (33, (1, 2, 10, [])), (35, (23, 1, 0, [])), (36, (6, 1, 0, [1])), (37, (1, 2, 10, [])), (39, (24, 1, 0, [])), (40, (111, 3, 0, [46])), (43, (3, 2, (-2000000000), [227, 3207])), (45, (90, 1, 0, [])), (46, (6, 1, 0, [2])), (47, (102, 3, 0, [77])), (50, (6, 1, 0, [2])), (51, (1, 2, 10, [])), (53, (23, 1, 0, [])), (54, (0, 1, 5, [])), (55, (113, 3, 0, [77])), (58, (6, 1, 0, [2])), (59, (1, 2, 10, [])), (61, (24, 1, 0, [])), (62, (0, 1, 5, [])), (63, (113, 3, 0, [77])), (66, (6, 1, 0, [2])), (67, (1, 2, 10, [])), (69, (23, 1, 0, [])), (70, (6, 1, 0, [2])), (71, (1, 2, 10, [])), (73, (24, 1, 0, [])), (74, (111, 3, 0, [80])), (77, (3, 2, (-2000000000), [227, 3207])), (79, (90, 1, 0, [])), (80, (6, 1, 0, [3])), (81, (0, 1, 1, [])), (82, (112, 3, 0, [99])), (85, (6, 1, 0, [3])), (86, (0, 1, 4, [])), (87, (114, 3, 0, [99])), (90, (7, 2, 0, [4])), (92, (0, 1, 1, [])), (93, (77, 3, 0, [126, 2, 1, 0, 75, 2101])), (96, (101, 3, 0, [102])), (99, (3, 2, (-2000000000), [227, 3207])), (101, (90, 1, 0, [])), (102, (8, 1, 0, [0])), (103, (52, 3, 26, [9, 2, 27, 28, 2069])), (106, (6, 1, 0, [1])), (107, (6, 1, 0, [2])), (108, (6, 1, 0, [3])), (109, (76, 3, 0, [78, 4, 1, 27, 228, 3208])), (112, (13, 2, 0, [5])), (114, (7, 2, 0, [4])), (116, (101, 3, 0, [124])), (119, (7, 2, 0, [5])), (121, (48, 3, 0, [131])), (124, (8, 1, 0, [0])), (125, (52, 3, 26, [9, 2, 27, 28, 2069])), (128, (51, 3, 0, [7, 9, 0, 231, 1170])), (131, (90, 1, 0, []))]
/-- EiderClimate.drawn(III)I -/
def mc_106 : List (Nat × mI) := [(0, (6, 1, 0, [2])), (1, (102, 3, 0, [20])), (4, (6, 1, 0, [3])), (5, (0, 1, (-1), [])), (6, (110, 3, 0, [22])), (9, (8, 1, 0, [0])), (10, (52, 3, 1, [9, 0, 24, 10, 2067])), (13, (6, 1, 0, [3])), (14, (76, 3, 0, [38, 2, 1, 24, 153, 3066])), (17, (101, 3, 0, [22])), (20, (0, 1, (-1), [])), (21, (90, 1, 0, [])), (22, (6, 1, 0, [2])), (23, (1, 2, 100, [])), (25, (23, 1, 0, [])), (26, (13, 2, 0, [4])), (28, (6, 1, 0, [2])), (29, (1, 2, 100, [])), (31, (24, 1, 0, [])), (32, (13, 2, 0, [5])), (34, (7, 2, 0, [4])), (36, (0, 1, 1, [])), (37, (112, 3, 0, [60])), (40, (7, 2, 0, [4])), (42, (1, 2, 30, [])), (44, (114, 3, 0, [60])), (47, (7, 2, 0, [5])), (49, (0, 1, 1, [])), (50, (112, 3, 0, [60])), (53, (7, 2, 0, [5])), (55, (1, 2, 24, [])), (57, (115, 3, 0, [62])), (60, (0, 1, (-1), [])), (61, (90, 1, 0, [])), (62, (8, 1, 0, [0])), (63, (52, 3, 26, [9, 2, 27, 28, 2069])), (66, (6, 1, 0, [1])), (67, (7, 2, 0, [4])), (69, (7, 2, 0, [5])), (71, (6, 1, 0, [3])), (72, (76, 3, 0, [80, 5, 1, 27, 234, 3220])), (75, (90, 1, 0, []))]
/-- EiderClimate.month()I -/
def mc_107 : List (Nat × mI) := [(0, (8, 1, 0, [0])), (1, (52, 3, 1, [9, 0, 24, 10, 2067])), (4, (8, 1, 0, [0])), (5, (52, 3, 1, [9, 0, 24, 10, 2067])), (8, (52, 3, 1, [4, 0, 21, 204, 1097])), (11, (76, 3, 0, [44, 2, 1, 24, 146, 3049])), (14, (77, 3, 0, [228, 1, 1, 0, 193, 3169])), (17, (12, 1, 0, [1])), (18, (8, 1, 0, [0])), (19, (52, 3, 1, [9, 0, 24, 10, 2067])), (22, (52, 3, 1, [4, 0, 21, 204, 1097])), (25, (52, 3, 4, [1, 3, 1005, 238, 1047])), (28, (0, 1, 4, [])), (29, (43, 1, 0, [])), (30, (60, 1, 0, [])), (31, (6, 1, 0, [1])), (32, (20, 1, 0, [])), (33, (61, 1, 0, [])), (34, (8, 1, 0, [0])), (35, (52, 3, 1, [9, 0, 24, 10, 2067])), (38, (52, 3, 1, [4, 0, 21, 204, 1097])), (41, (8, 1, 0, [0])), (42, (52, 3, 1, [9, 0, 24, 10, 2067])), (45, (51, 3, 0, [4, 5, 0, 241, 1106])), (48, (76, 3, 0, [14, 2, 0, 21, 244, 3234])), (51, (6, 1, 0, [1])), (52, (90, 1, 0, []))]
/-- EiderClimate.pull(I)I -/
def mc_108 : List (Nat × mI) := [(0, (6, 1, 0, [1])), (1, (1, 2, 9, [])), (3, (77, 3, 0, [126, 2, 1, 0, 75, 2101])), (6, (101, 3, 0, [11])), (9, (0, 1, (-1), [])), (10, (90, 1, 0, [])), (11, (6, 1, 0, [1])), (12, (0, 1, 2, [])), (13, (23, 1, 0, [])), (14, (12, 1, 0, [2])), (15, (8, 1, 0, [0])), (16, (52, 3, 1, [9, 0, 24, 10, 2067])), (19, (52, 3, 1, [4, 0, 21, 204, 1097])), (22, (6, 1, 0, [2])), (23, (6, 1, 0, [1])), (24, (0, 1, 2, [])), (25, (24, 1, 0, [])), (26, (76, 3, 0, [17, 3, 0, 21, 247, 3239])), (29, (8, 1, 0, [0])), (30, (52, 3, 1, [9, 0, 24, 10, 2067])), (33, (52, 3, 1, [4, 0, 21, 204, 1097])), (36, (52, 3, 4, [1, 3, 1005, 238, 1047])), (39, (0, 1, 1, [])), (40, (43, 1, 0, [])), (41, (60, 1, 0, [])), (42, (0, 1, 1, [])), (43, (20, 1, 0, [])), (44, (61, 1, 0, [])), (45, (8, 1, 0, [0])), (46, (52, 3, 1, [9, 0, 24, 10, 2067])), (49, (52, 3, 1, [4, 0, 21, 204, 1097])), (52, (52, 3, 1, [1, 0, 1030, 250, 1038])), (55, (6, 1, 0, [2])), (56, (1, 2, 6, [])), (58, (22, 1, 0, [])), (59, (60, 1, 0, [])), (60, (90, 1, 0, []))]
/-- EiderClimate.shake(I)I -/
def mc_109 : List (Nat × mI) := [(0, (6, 1, 0, [1])), (1, (77, 3, 0, [127, 1, 1, 0, 127, 2238])), (4, (100, 3, 0, [14])), (7, (6, 1, 0, [1])), (8, (77, 3, 0, [12, 1, 1, 0, 253, 4004])), (11, (101, 3, 0, [16])), (14, (0, 1, (-1), [])), (15, (90, 1, 0, [])), (16, (8, 1, 0, [0])), (17, (52, 3, 1, [9, 0, 24, 10, 2067])), (20, (52, 3, 1, [4, 0, 21, 204, 1097])), (23, (6, 1, 0, [1])), (24, (76, 3, 0, [19, 2, 0, 21, 256, 4005])), (27, (8, 1, 0, [0])), (28, (52, 3, 1, [9, 0, 24, 10, 2067])), (31, (52, 3, 1, [4, 0, 21, 204, 1097])), (34, (52, 3, 4, [1, 3, 1005, 238, 1047])), (37, (0, 1, 2, [])), (38, (43, 1, 0, [])), (39, (60, 1, 0, [])), (40, (0, 1, 1, [])), (41, (20, 1, 0, [])), (42, (61, 1, 0, [])), (43, (8, 1, 0, [0])), (44, (52, 3, 1, [9, 0, 24, 10, 2067])), (47, (52, 3, 1, [4, 0, 21, 204, 1097])), (50, (52, 3, 2, [1, 1, 1030, 259, 1043])), (53, (6, 1, 0, [1])), (54, (60, 1, 0, [])), (55, (90, 1, 0, []))]
/-- EiderClimate.stuff(II)I -/
def mc_110 : List (Nat × mI) := [(0, (6, 1, 0, [1])), (1, (77, 3, 0, [127, 1, 1, 0, 127, 2238])), (4, (100, 3, 0, [11])), (7, (6, 1, 0, [2])), (8, (103, 3, 0, [13])), (11, (0, 1, (-1), [])), (12, (90, 1, 0, [])), (13, (6, 1, 0, [2])), (14, (1, 2, 10, [])), (16, (23, 1, 0, [])), (17, (12, 1, 0, [3])), (18, (6, 1, 0, [2])), (19, (1, 2, 10, [])), (21, (24, 1, 0, [])), (22, (13, 2, 0, [4])), (24, (6, 1, 0, [3])), (25, (0, 1, 1, [])), (26, (112, 3, 0, [44])), (29, (6, 1, 0, [3])), (30, (58, 3, 0, [7008, 900, 71, 2099])), (33, (0, 1, 0, [])), (34, (60, 1, 0, [])), (35, (114, 3, 0, [44])), (38, (7, 2, 0, [4])), (40, (0, 1, 1, [])), (41, (113, 3, 0, [46])), (44, (0, 1, (-1), [])), (45, (90, 1, 0, [])), (46, (8, 1, 0, [0])), (47, (52, 3, 1, [9, 0, 24, 10, 2067])), (50, (52, 3, 1, [4, 0, 21, 204, 1097])), (53, (52, 3, 1, [1, 0, 1030, 250, 1038])), (56, (6, 1, 0, [1])), (57, (60, 1, 0, [])), (58, (13, 2, 0, [5])), (60, (8, 1, 0, [0])), (61, (52, 3, 1, [9, 0, 24, 10, 2067])), (64, (52, 3, 1, [4, 0, 21, 204, 1097])), (67, (6, 1, 0, [1])), (68, (6, 1, 0, [3])), (69, (7, 2, 0, [4])), (71, (0, 1, 0, [])), (72, (76, 3, 0, [9, 5, 0, 21, 262, 4010])), (75, (8, 1, 0, [0])), (76, (52, 3, 1, [9, 0, 24, 10, 2067])), (79, (52, 3, 1, [4, 0, 21, 204, 1097])), (82, (52, 3, 4, [1, 3, 1005, 238, 1047])), (85, (0, 1, 3, [])), (86, (43, 1, 0, [])), (87, (60, 1, 0, [])), (88, (0, 1, 1, [])), (89, (20, 1, 0, [])), (90, (61, 1, 0, [])), (91, (7, 2, 0, [5])), (93, (90, 1, 0, []))]
/-- EiderClimate.led(I)I -/
def mc_111 : List (Nat × mI) := [(0, (6, 1, 0, [1])), (1, (0, 1, 4, [])), (2, (77, 3, 0, [126, 2, 1, 0, 75, 2101])), (5, (100, 3, 0, [23])), (8, (8, 1, 0, [0])), (9, (52, 3, 1, [9, 0, 24, 10, 2067])), (12, (52, 3, 1, [4, 0, 21, 204, 1097])), (15, (52, 3, 4, [1, 3, 1005, 238, 1047])), (18, (6, 1, 0, [1])), (19, (60, 1, 0, [])), (20, (48, 3, 0, [24])), (23, (0, 1, (-1), [])), (24, (90, 1, 0, []))]
/-- EiderClimate.image()I -/
def mc_112 : List (Nat × mI) := [(0, (8, 1, 0, [0])), (1, (52, 3, 59, [9, 7, 21, 63, 2074])), (4, (8, 1, 0, [0])), (5, (52, 3, 1, [9, 0, 24, 10, 2067])), (8, (52, 3, 1, [4, 0, 21, 204, 1097])), (11, (76, 3, 0, [6, 2, 0, 21, 265, 4019])), (14, (8, 1, 0, [0])), (15, (0, 1, 1, [])), (16, (57, 3, 0, [9, 8, 0, 67, 2075])), (19, (8, 1, 0, [0])), (20, (52, 3, 1, [9, 0, 24, 10, 2067])), (23, (52, 3, 1, [4, 0, 21, 204, 1097])), (26, (52, 3, 4, [1, 3, 1005, 238, 1047])), (29, (0, 1, 0, [])), (30, (60, 1, 0, [])), (31, (90, 1, 0, []))]
/-- EiderClimate.back()I -/
def mc_113 : List (Nat × mI) := [(0, (8, 1, 0, [0])), (1, (51, 3, 0, [9, 8, 0, 67, 2075])), (4, (101, 3, 0, [10])), (7, (1, 2, (-5), [])), (9, (90, 1, 0, [])), (10, (8, 1, 0, [0])), (11, (52, 3, 1, [9, 0, 24, 10, 2067])), (14, (52, 3, 1, [4, 0, 21, 204, 1097])), (17, (8, 1, 0, [0])), (18, (52, 3, 59, [9, 7, 21, 63, 2074])), (21, (76, 3, 0, [6, 2, 0, 21, 265, 4019])), (24, (8, 1, 0, [0])), (25, (52, 3, 1, [9, 0, 24, 10, 2067])), (28, (52, 3, 1, [4, 0, 21, 204, 1097])), (31, (52, 3, 4, [1, 3, 1005, 238, 1047])), (34, (0, 1, 0, [])), (35, (60, 1, 0, [])), (36, (90, 1, 0, []))]
/-- EiderClimate.undo()I -/
def mc_114 : List (Nat × mI) := [(0, (8, 1, 0, [0])), (1, (52, 3, 38, [9, 4, 20, 42, 2071])), (4, (51, 3, 0, [0, 4, 0, 268, 1239])), (7, (101, 3, 0, [13])), (10, (1, 2, (-5), [])), (12, (90, 1, 0, [])), (13, (8, 1, 0, [0])), (14, (52, 3, 38, [9, 4, 20, 42, 2071])), (17, (8, 1, 0, [0])), (18, (52, 3, 1, [9, 0, 24, 10, 2067])), (21, (76, 3, 0, [3, 2, 0, 20, 271, 4028])), (24, (8, 1, 0, [0])), (25, (52, 3, 38, [9, 4, 20, 42, 2071])), (28, (51, 3, 0, [0, 4, 0, 268, 1239])), (31, (90, 1, 0, []))]
/-- EiderClimate.redo()I -/
def mc_115 : List (Nat × mI) := [(0, (8, 1, 0, [0])), (1, (52, 3, 38, [9, 4, 20, 42, 2071])), (4, (51, 3, 0, [0, 5, 0, 274, 2001])), (7, (101, 3, 0, [13])), (10, (1, 2, (-5), [])), (12, (90, 1, 0, [])), (13, (8, 1, 0, [0])), (14, (52, 3, 38, [9, 4, 20, 42, 2071])), (17, (8, 1, 0, [0])), (18, (52, 3, 1, [9, 0, 24, 10, 2067])), (21, (76, 3, 0, [4, 2, 0, 20, 277, 4037])), (24, (8, 1, 0, [0])), (25, (52, 3, 38, [9, 4, 20, 42, 2071])), (28, (51, 3, 0, [0, 5, 0, 274, 2001])), (31, (90, 1, 0, []))]
/-- EiderClimate.body(I)I -/
def mc_116 : List (Nat × mI) := [(0, (6, 1, 0, [1])), (1, (77, 3, 0, [47, 1, 1, 0, 280, 4045])), (4, (100, 3, 0, [18])), (7, (8, 1, 0, [0])), (8, (52, 3, 43, [9, 5, 25, 49, 2072])), (11, (6, 1, 0, [1])), (12, (76, 3, 0, [49, 2, 1, 25, 283, 4048])), (15, (48, 3, 0, [19])), (18, (0, 1, (-1), [])), (19, (90, 1, 0, []))]
/-- EiderClimate.act(III)I -/
def mc_117 : List (Nat × mI) := [(0, (8, 1, 0, [0])), (1, (52, 3, 43, [9, 5, 25, 49, 2072])), (4, (6, 1, 0, [1])), (5, (6, 1, 0, [2])), (6, (6, 1, 0, [3])), (7, (76, 3, 0, [51, 4, 1, 25, 286, 4056])), (10, (90, 1, 0, []))]
/-- EiderClimate.trace(I)I -/
def mc_118 : List (Nat × mI) := [(0, (6, 1, 0, [1])), (1, (102, 3, 0, [33])), (4, (6, 1, 0, [1])), (5, (8, 1, 0, [0])), (6, (52, 3, 43, [9, 5, 25, 49, 2072])), (9, (51, 3, 0, [5, 3, 0, 289, 2028])), (12, (113, 3, 0, [33])), (15, (6, 1, 0, [1])), (16, (1, 2, 24, [])), (18, (113, 3, 0, [33])), (21, (8, 1, 0, [0])), (22, (52, 3, 43, [9, 5, 25, 49, 2072])), (25, (52, 3, 2, [5, 2, 1024, 292, 2026])), (28, (6, 1, 0, [1])), (29, (60, 1, 0, [])), (30, (48, 3, 0, [34])), (33, (0, 1, (-1), [])), (34, (90, 1, 0, []))]
/-- EiderClimate.keep(II)I -/
def mc_119 : List (Nat × mI) := [(0, (6, 1, 0, [1])), (1, (77, 3, 0, [128, 1, 1, 0, 83, 2112])), (4, (100, 3, 0, [23])), (7, (6, 1, 0, [2])), (8, (0, 1, (-1), [])), (9, (110, 3, 0, [25])), (12, (8, 1, 0, [0])), (13, (52, 3, 43, [9, 5, 25, 49, 2072])), (16, (6, 1, 0, [2])), (17, (76, 3, 0, [48, 2, 1, 25, 295, 4084])), (20, (101, 3, 0, [25])), (23, (0, 1, (-1), [])), (24, (90, 1, 0, [])), (25, (8, 1, 0, [0])), (26, (52, 3, 46, [9, 6, 9006, 55, 2073])), (29, (6, 1, 0, [1])), (30, (66, 1, 0, [])), (31, (6, 1, 0, [2])), (32, (76, 3, 0, [31, 2, 0, 23, 298, 4085])), (35, (0, 1, 1, [])), (36, (90, 1, 0, []))]
/-- EiderClimate.row(III)I -/
def mc_120 : List (Nat × mI) := [(0, (6, 1, 0, [1])), (1, (77, 3, 0, [128, 1, 1, 0, 83, 2112])), (4, (100, 3, 0, [21])), (7, (6, 1, 0, [2])), (8, (0, 1, 4, [])), (9, (77, 3, 0, [126, 2, 1, 0, 75, 2101])), (12, (100, 3, 0, [21])), (15, (6, 1, 0, [3])), (16, (1, 2, 60, [])), (18, (115, 3, 0, [23])), (21, (0, 1, (-1), [])), (22, (90, 1, 0, [])), (23, (6, 1, 0, [3])), (24, (103, 3, 0, [30])), (27, (1, 2, (-14), [])), (29, (90, 1, 0, [])), (30, (8, 1, 0, [0])), (31, (52, 3, 46, [9, 6, 9006, 55, 2073])), (34, (6, 1, 0, [1])), (35, (66, 1, 0, [])), (36, (6, 1, 0, [2])), (37, (6, 1, 0, [3])), (38, (76, 3, 0, [32, 3, 0, 23, 301, 4093])), (41, (0, 1, 1, [])), (42, (90, 1, 0, []))]
/-- EiderClimate.put(IIJ)I -/
def mc_121 : List (Nat × mI) := [(0, (8, 1, 0, [0])), (1, (6, 1, 0, [1])), (2, (6, 1, 0, [2])), (3, (76, 3, 0, [131, 3, 1, 29, 304, 4101])), (6, (13, 2, 0, [5])), (8, (7, 2, 0, [5])), (10, (103, 3, 0, [16])), (13, (7, 2, 0, [5])), (15, (90, 1, 0, [])), (16, (8, 1, 0, [0])), (17, (52, 3, 46, [9, 6, 9006, 55, 2073])), (20, (6, 1, 0, [1])), (21, (66, 1, 0, [])), (22, (52, 3, 1, [3, 0, 3060, 307, 2047])), (25, (6, 1, 0, [2])), (26, (8, 1, 0, [0])), (27, (52, 3, 46, [9, 6, 9006, 55, 2073])), (30, (6, 1, 0, [1])), (31, (66, 1, 0, [])), (32, (51, 3, 0, [3, 1, 0, 87, 2049])), (35, (10, 1, 0, [3])), (36, (77, 3, 0, [35, 2, 2, 0, 311, 4113])), (39, (63, 1, 0, [])), (40, (0, 1, 1, [])), (41, (90, 1, 0, []))]
/-- EiderClimate.element(II)J -/
def mc_122 : List (Nat × mI) := [(0, (8, 1, 0, [0])), (1, (6, 1, 0, [1])), (2, (6, 1, 0, [2])), (3, (76, 3, 0, [131, 3, 1, 29, 304, 4101])), (6, (103, 3, 0, [15])), (9, (5, 3, (-9223372036854775808), [317, 4120])), (12, (48, 3, 0, [26])), (15, (8, 1, 0, [0])), (16, (52, 3, 46, [9, 6, 9006, 55, 2073])), (19, (6, 1, 0, [1])), (20, (66, 1, 0, [])), (21, (52, 3, 1, [3, 0, 3060, 307, 2047])), (24, (6, 1, 0, [2])), (25, (62, 1, 0, [])), (26, (91, 1, 0, []))]
/-- EiderClimate.shift(IIIII)I -/
def mc_123 : List (Nat × mI) := [(0, (6, 1, 0, [1])), (1, (77, 3, 0, [128, 1, 1, 0, 83, 2112])), (4, (100, 3, 0, [14])), (7, (6, 1, 0, [3])), (8, (77, 3, 0, [128, 1, 1, 0, 83, 2112])), (11, (101, 3, 0, [16])), (14, (0, 1, (-1), [])), (15, (90, 1, 0, [])), (16, (8, 1, 0, [0])), (17, (52, 3, 46, [9, 6, 9006, 55, 2073])), (20, (6, 1, 0, [1])), (21, (66, 1, 0, [])), (22, (15, 2, 0, [6])), (24, (8, 1, 0, [0])), (25, (52, 3, 46, [9, 6, 9006, 55, 2073])), (28, (6, 1, 0, [3])), (29, (66, 1, 0, [])), (30, (15, 2, 0, [7])), (32, (9, 2, 0, [6])), (34, (51, 3, 0, [3, 1, 0, 87, 2049])), (37, (1, 2, (-2), [])), (39, (110, 3, 0, [52])), (42, (9, 2, 0, [7])), (44, (51, 3, 0, [3, 1, 0, 87, 2049])), (47, (1, 2, (-2), [])), (49, (111, 3, 0, [55])), (52, (1, 2, (-11), [])), (54, (90, 1, 0, [])), (55, (9, 2, 0, [6])), (57, (76, 3, 0, [33, 1, 1, 23, 319, 4105])), (60, (100, 3, 0, [76])), (63, (9, 2, 0, [6])), (65, (51, 3, 0, [3, 1, 0, 87, 2049])), (68, (9, 2, 0, [7])), (70, (51, 3, 0, [3, 1, 0, 87, 2049])), (73, (110, 3, 0, [79])), (76, (1, 2, (-12), [])), (78, (90, 1, 0, [])), (79, (9, 2, 0, [6])), (81, (6, 1, 0, [2])), (82, (7, 2, 0, [5])), (84, (76, 3, 0, [34, 3, 1, 23, 323, 4109])), (87, (100, 3, 0, [102])), (90, (9, 2, 0, [7])), (92, (7, 2, 0, [4])), (94, (7, 2, 0, [5])), (96, (76, 3, 0, [34, 3, 1, 23, 323, 4109])), (99, (101, 3, 0, [105])), (102, (1, 2, (-13), [])), (104, (90, 1, 0, [])), (105, (9, 2, 0, [6])), (107, (52, 3, 1, [3, 0, 3060, 307, 2047])), (110, (6, 1, 0, [2])), (111, (9, 2, 0, [7])), (113, (52, 3, 1, [3, 0, 3060, 307, 2047])), (116, (7, 2, 0, [4])), (118, (7, 2, 0, [5])), (120, (84, 3, 0, [326, 4125])), (123, (7, 2, 0, [5])), (125, (90, 1, 0, []))]
/-- EiderClimate.taken(II)I -/
def mc_124 : List (Nat × mI) := [(0, (6, 1, 0, [1])), (1, (77, 3, 0, [128, 1, 1, 0, 83, 2112])), (4, (100, 3, 0, [14])), (7, (6, 1, 0, [2])), (8, (77, 3, 0, [47, 1, 1, 0, 280, 4045])), (11, (101, 3, 0, [16])), (14, (0, 1, (-1), [])), (15, (90, 1, 0, [])), (16, (8, 1, 0, [0])), (17, (52, 3, 46, [9, 6, 9006, 55, 2073])), (20, (6, 1, 0, [1])), (21, (66, 1, 0, [])), (22, (14, 1, 0, [3])), (23, (8, 1, 0, [3])), (24, (51, 3, 0, [3, 1, 0, 87, 2049])), (27, (1, 2, (-2), [])), (29, (111, 3, 0, [35])), (32, (1, 2, (-11), [])), (34, (90, 1, 0, [])), (35, (8, 1, 0, [3])), (36, (51, 3, 0, [3, 1, 0, 87, 2049])), (39, (0, 1, (-1), [])), (40, (111, 3, 0, [58])), (43, (8, 1, 0, [0])), (44, (52, 3, 43, [9, 5, 25, 49, 2072])), (47, (8, 1, 0, [3])), (48, (51, 3, 0, [3, 3, 0, 332, 2054])), (51, (6, 1, 0, [2])), (52, (76, 3, 0, [50, 3, 1, 25, 335, 4130])), (55, (101, 3, 0, [61])), (58, (1, 2, (-12), [])), (60, (90, 1, 0, [])), (61, (8, 1, 0, [0])), (62, (52, 3, 43, [9, 5, 25, 49, 2072])), (65, (52, 3, 1, [5, 0, 1050, 338, 2022])), (68, (8, 1, 0, [3])), (69, (51, 3, 0, [3, 3, 0, 332, 2054])), (72, (60, 1, 0, [])), (73, (90, 1, 0, []))]
/-- EiderClimate.count(I)I -/
def mc_125 : List (Nat × mI) := [(0, (6, 1, 0, [1])), (1, (49, 39, 0, [91, 0, 40, 1, 48, 2, 59, 3, 67, 4, 75, 5, 83])), (40, (8, 1, 0, [0])), (41, (52, 3, 1, [9, 0, 24, 10, 2067])), (44, (51, 3, 0, [4, 4, 0, 341, 1103])), (47, (90, 1, 0, [])), (48, (8, 1, 0, [0])), (49, (52, 3, 1, [9, 0, 24, 10, 2067])), (52, (52, 3, 1, [4, 0, 21, 204, 1097])), (55, (76, 3, 0, [10, 1, 1, 21, 344, 4138])), (58, (90, 1, 0, [])), (59, (8, 1, 0, [0])), (60, (52, 3, 24, [9, 1, 26, 19, 2068])), (63, (51, 3, 0, [6, 1, 0, 113, 1137])), (66, (90, 1, 0, [])), (67, (8, 1, 0, [0])), (68, (52, 3, 38, [9, 4, 20, 42, 2071])), (71, (51, 3, 0, [0, 4, 0, 268, 1239])), (74, (90, 1, 0, [])), (75, (8, 1, 0, [0])), (76, (52, 3, 43, [9, 5, 25, 49, 2072])), (79, (51, 3, 0, [5, 1, 0, 348, 2024])), (82, (90, 1, 0, [])), (83, (8, 1, 0, [0])), (84, (52, 3, 43, [9, 5, 25, 49, 2072])), (87, (51, 3, 0, [5, 3, 0, 289, 2028])), (90, (90, 1, 0, [])), (91, (0, 1, (-1), [])), (92, (90, 1, 0, []))]
/-- EiderClimate.within(II)Z -/
def mc_126 : List (Nat × mI) := [(0, (6, 1, 0, [0])), (1, (102, 3, 0, [13])), (4, (6, 1, 0, [0])), (5, (6, 1, 0, [1])), (6, (114, 3, 0, [13])), (9, (0, 1, 1, [])), (10, (48, 3, 0, [14])), (13, (0, 1, 0, [])), (14, (94, 1, 0, []))]
/-- EiderClimate.isSquare(I)Z -/
def mc_127 : List (Nat × mI) := [(0, (6, 1, 0, [0])), (1, (102, 3, 0, [14])), (4, (6, 1, 0, [0])), (5, (1, 2, 30, [])), (7, (113, 3, 0, [14])), (10, (0, 1, 1, [])), (11, (48, 3, 0, [15])), (14, (0, 1, 0, [])), (15, (94, 1, 0, []))]
/-- EiderClimate.isShelf(I)Z -/
def mc_128 : List (Nat × mI) := [(0, (6, 1, 0, [0])), (1, (102, 3, 0, [14])), (4, (6, 1, 0, [0])), (5, (1, 2, 6, [])), (7, (113, 3, 0, [14])), (10, (0, 1, 1, [])), (11, (48, 3, 0, [15])), (14, (0, 1, 0, [])), (15, (94, 1, 0, []))]
/-- EiderClimate.houseCame(LEiderClimate$Shelf;II)Z -/
def mc_129 : List (Nat × mI) := [(0, (8, 1, 0, [1])), (1, (51, 3, 0, [3, 2, 0, 351, 2052])), (4, (0, 1, 3, [])), (5, (6, 1, 0, [3])), (6, (22, 1, 0, [])), (7, (21, 1, 0, [])), (8, (0, 1, 2, [])), (9, (21, 1, 0, [])), (10, (13, 2, 0, [4])), (12, (6, 1, 0, [2])), (13, (102, 3, 0, [30])), (16, (6, 1, 0, [2])), (17, (7, 2, 0, [4])), (19, (113, 3, 0, [30])), (22, (8, 1, 0, [1])), (23, (51, 3, 0, [3, 1, 0, 87, 2049])), (26, (0, 1, 1, [])), (27, (110, 3, 0, [32])), (30, (0, 1, 0, [])), (31, (94, 1, 0, [])), (32, (6, 1, 0, [2])), (33, (0, 1, 3, [])), (34, (6, 1, 0, [3])), (35, (22, 1, 0, [])), (36, (20, 1, 0, [])), (37, (13, 2, 0, [5])), (39, (8, 1, 0, [1])), (40, (52, 3, 1, [3, 0, 3060, 307, 2047])), (43, (7, 2, 0, [5])), (45, (62, 1, 0, [])), (46, (39, 1, 0, [])), (47, (13, 2, 0, [6])), (49, (8, 1, 0, [1])), (50, (52, 3, 1, [3, 0, 3060, 307, 2047])), (53, (7, 2, 0, [5])), (55, (0, 1, 1, [])), (56, (20, 1, 0, [])), (57, (62, 1, 0, [])), (58, (39, 1, 0, [])), (59, (13, 2, 0, [7])), (61, (8, 1, 0, [1])), (62, (52, 3, 1, [3, 0, 3060, 307, 2047])), (65, (7, 2, 0, [5])), (67, (0, 1, 2, [])), (68, (20, 1, 0, [])), (69, (62, 1, 0, [])), (70, (39, 1, 0, [])), (71, (13, 2, 0, [8])), (73, (7, 2, 0, [6])), (75, (58, 3, 0, [7008, 900, 71, 2099])), (78, (0, 1, 3, [])), (79, (60, 1, 0, [])), (80, (77, 3, 0, [126, 2, 1, 0, 75, 2101])), (83, (100, 3, 0, [112])), (86, (7, 2, 0, [7])), (88, (58, 3, 0, [7008, 900, 71, 2099])), (91, (0, 1, 4, [])), (92, (60, 1, 0, [])), (93, (77, 3, 0, [126, 2, 1, 0, 75, 2101])), (96, (100, 3, 0, [112])), (99, (7, 2, 0, [8])), (101, (58, 3, 0, [7008, 900, 71, 2099])), (104, (0, 1, 5, [])), (105, (60, 1, 0, [])), (106, (77, 3, 0, [126, 2, 1, 0, 75, 2101])), (109, (101, 3, 0, [114])), (112, (0, 1, 0, [])), (113, (94, 1, 0, [])), (114, (8, 1, 0, [0])), (115, (52, 3, 1, [9, 0, 24, 10, 2067])), (118, (7, 2, 0, [6])), (120, (7, 2, 0, [7])), (122, (7, 2, 0, [8])), (124, (76, 3, 0, [39, 4, 1, 24, 79, 2104])), (127, (102, 3, 0, [134])), (130, (0, 1, 1, [])), (131, (48, 3, 0, [135])), (134, (0, 1, 0, [])), (135, (94, 1, 0, []))]
/-- EiderClimate.refusalOfBytes(I)I -/
def mc_130 : List (Nat × mI) := [(0, (6, 1, 0, [1])), (1, (102, 3, 0, [24])), (4, (6, 1, 0, [1])), (5, (1, 2, 100, [])), (7, (23, 1, 0, [])), (8, (77, 3, 0, [128, 1, 1, 0, 83, 2112])), (11, (100, 3, 0, [24])), (14, (6, 1, 0, [1])), (15, (1, 2, 100, [])), (17, (24, 1, 0, [])), (18, (77, 3, 0, [127, 1, 1, 0, 127, 2238])), (21, (101, 3, 0, [26])), (24, (0, 1, (-1), [])), (25, (90, 1, 0, [])), (26, (8, 1, 0, [0])), (27, (52, 3, 46, [9, 6, 9006, 55, 2073])), (30, (6, 1, 0, [1])), (31, (1, 2, 100, [])), (33, (23, 1, 0, [])), (34, (66, 1, 0, [])), (35, (51, 3, 0, [3, 1, 0, 87, 2049])), (38, (12, 1, 0, [2])), (39, (6, 1, 0, [2])), (40, (1, 2, (-2), [])), (42, (111, 3, 0, [48])), (45, (1, 2, (-11), [])), (47, (90, 1, 0, [])), (48, (6, 1, 0, [2])), (49, (101, 3, 0, [56])), (52, (0, 1, 0, [])), (53, (48, 3, 0, [58])), (56, (1, 2, (-12), [])), (58, (90, 1, 0, []))]
/-- EiderClimate.refusalOfElement(II)I -/
def mc_131 : List (Nat × mI) := [(0, (6, 1, 0, [1])), (1, (77, 3, 0, [128, 1, 1, 0, 83, 2112])), (4, (101, 3, 0, [9])), (7, (0, 1, (-1), [])), (8, (90, 1, 0, [])), (9, (8, 1, 0, [0])), (10, (52, 3, 46, [9, 6, 9006, 55, 2073])), (13, (6, 1, 0, [1])), (14, (66, 1, 0, [])), (15, (51, 3, 0, [3, 1, 0, 87, 2049])), (18, (1, 2, (-2), [])), (20, (111, 3, 0, [26])), (23, (1, 2, (-11), [])), (25, (90, 1, 0, [])), (26, (8, 1, 0, [0])), (27, (52, 3, 46, [9, 6, 9006, 55, 2073])), (30, (6, 1, 0, [1])), (31, (66, 1, 0, [])), (32, (76, 3, 0, [33, 1, 1, 23, 319, 4105])), (35, (101, 3, 0, [41])), (38, (1, 2, (-12), [])), (40, (90, 1, 0, [])), (41, (8, 1, 0, [0])), (42, (52, 3, 46, [9, 6, 9006, 55, 2073])), (45, (6, 1, 0, [1])), (46, (66, 1, 0, [])), (47, (6, 1, 0, [2])), (48, (0, 1, 1, [])), (49, (76, 3, 0, [34, 3, 1, 23, 323, 4109])), (52, (100, 3, 0, [59])), (55, (0, 1, 0, [])), (56, (48, 3, 0, [61])), (59, (1, 2, (-13), [])), (61, (90, 1, 0, []))]
/-- EiderClimateModel.<init>()V -/
def mc_132 : List (Nat × mI) := [(0, (8, 1, 0, [0])), (1, (75, 3, 0, [3, 4147])), (4, (8, 1, 0, [0])), (5, (1, 2, 30, [])), (7, (70, 2, 0, [1000])), (9, (56, 3, 0, [10, 0, 1030, 9, 4148])), (12, (8, 1, 0, [0])), (13, (1, 2, 30, [])), (15, (70, 2, 0, [1000])), (17, (56, 3, 0, [10, 1, 1030, 15, 4149])), (20, (8, 1, 0, [0])), (21, (1, 2, 30, [])), (23, (70, 2, 0, [1000])), (25, (56, 3, 0, [10, 2, 1030, 18, 4150])), (28, (8, 1, 0, [0])), (29, (1, 2, 24, [])), (31, (70, 2, 0, [1000])), (33, (56, 3, 0, [10, 4, 1024, 21, 4152])), (36, (8, 1, 0, [0])), (37, (0, 1, 2, [])), (38, (70, 2, 0, [1000])), (40, (56, 3, 0, [10, 5, 1002, 24, 4153])), (43, (8, 1, 0, [0])), (44, (1, 2, 120, [])), (46, (70, 2, 0, [1000])), (48, (56, 3, 0, [10, 8, 1120, 27, 4156])), (51, (8, 1, 0, [0])), (52, (1, 2, 60, [])), (54, (70, 2, 0, [1000])), (56, (56, 3, 0, [10, 11, 1060, 30, 4159])), (59, (8, 1, 0, [0])), (60, (1, 2, 60, [])), (62, (70, 2, 0, [1000])), (64, (56, 3, 0, [10, 12, 1060, 33, 4160])), (67, (8, 1, 0, [0])), (68, (1, 2, 60, [])), (70, (70, 2, 0, [1000])), (72, (56, 3, 0, [10, 13, 1060, 36, 4161])), (75, (8, 1, 0, [0])), (76, (2, 3, 200, [])), (79, (70, 2, 0, [1000])), (81, (56, 3, 0, [10, 14, 1200, 39, 4162])), (84, (8, 1, 0, [0])), (85, (1, 2, 61, [])), (87, (70, 2, 0, [1000])), (89, (56, 3, 0, [10, 19, 1061, 42, 4167])), (92, (8, 1, 0, [0])), (93, (1, 2, 61, [])), (95, (70, 2, 0, [1000])), (97, (56, 3, 0, [10, 20, 1061, 45, 4168])), (100, (8, 1, 0, [0])), (101, (1, 2, 61, [])), (103, (70, 2, 0, [1000])), (105, (56, 3, 0, [10, 21, 1061, 48, 4169])), (108, (8, 1, 0, [0])), (109, (2, 3, 200, [])), (112, (70, 2, 0, [1000])), (114, (56, 3, 0, [10, 22, 1200, 51, 4170])), (117, (8, 1, 0, [0])), (118, (2, 3, 200, [])), (121, (70, 2, 0, [1000])), (123, (56, 3, 0, [10, 23, 1200, 54, 4171])), (126, (8, 1, 0, [0])), (127, (1, 2, 6, [])), (129, (70, 2, 0, [1000])), (131, (56, 3, 0, [10, 24, 1006, 57, 4172])), (134, (8, 1, 0, [0])), (135, (0, 1, 5, [])), (136, (70, 2, 0, [1000])), (138, (56, 3, 0, [10, 25, 1005, 60, 4173])), (141, (8, 1, 0, [0])), (142, (1, 2, 92, [])), (144, (70, 2, 0, [1000])), (146, (56, 3, 0, [10, 27, 1092, 63, 4175])), (149, (8, 1, 0, [0])), (150, (0, 1, 5, [])), (151, (70, 2, 0, [1000])), (153, (56, 3, 0, [10, 28, 1005, 66, 4176])), (156, (8, 1, 0, [0])), (157, (2, 3, 160, [])), (160, (70, 2, 0, [1000])), (162, (56, 3, 0, [10, 31, 1160, 69, 4179])), (165, (8, 1, 0, [0])), (166, (1, 2, 50, [])), (168, (70, 2, 0, [1000])), (170, (56, 3, 0, [10, 33, 1050, 72, 4181])), (173, (8, 1, 0, [0])), (174, (1, 2, 24, [])), (176, (70, 2, 0, [1000])), (178, (56, 3, 0, [10, 35, 1024, 75, 4183])), (181, (8, 1, 0, [0])), (182, (1, 2, 6, [])), (184, (70, 2, 0, [1000])), (186, (56, 3, 0, [10, 36, 1006, 78, 4184])), (189, (8, 1, 0, [0])), (190, (1, 2, 6, [])), (192, (70, 2, 0, [1000])), (194, (56, 3, 0, [10, 37, 1006, 81, 4185])), (197, (8, 1, 0, [0])), (198, (2, 3, 360, [])), (201, (72, 2, 0, [3000])), (203, (56, 3, 0, [10, 38, 3360, 84, 4186])), (206, (8, 1, 0, [0])), (207, (1, 2, 92, [])), (209, (70, 2, 0, [1000])), (211, (56, 3, 0, [10, 39, 1092, 88, 4187])), (214, (8, 1, 0, [0])), (215, (1, 2, 92, [])), (217, (70, 2, 0, [1000])), (219, (56, 3, 0, [10, 40, 1092, 91, 4188])), (222, (8, 1, 0, [0])), (223, (0, 1, 3, [])), (224, (70, 2, 0, [1000])), (226, (56, 3, 0, [10, 41, 1003, 94, 4189])), (229, (8, 1, 0, [0])), (230, (1, 2, 30, [])), (232, (70, 2, 0, [1000])), (234, (56, 3, 0, [10, 42, 1030, 97, 4190])), (237, (8, 1, 0, [0])), (238, (1, 2, 30, [])), (240, (70, 2, 0, [1000])), (242, (56, 3, 0, [10, 43, 1030, 100, 4191])), (245, (0, 1, 0, [])), (246, (12, 1, 0, [1])), (247, (6, 1, 0, [1])), (248, (1, 2, 6, [])), (250, (113, 3, 0, [266])), (253, (8, 1, 0, [0])), (254, (53, 3, 0, [10, 36, 1006, 78, 4184])), (257, (6, 1, 0, [1])), (258, (0, 1, (-1), [])), (259, (61, 1, 0, [])), (260, (17, 3, 1, [1])), (263, (48, 3, 0, [247])), (266, (93, 1, 0, []))]
/-- EiderClimateModel.within(III)Z -/
def mc_133 : List (Nat × mI) := [(0, (6, 1, 0, [0])), (1, (6, 1, 0, [1])), (2, (112, 3, 0, [14])), (5, (6, 1, 0, [0])), (6, (6, 1, 0, [2])), (7, (114, 3, 0, [14])), (10, (0, 1, 1, [])), (11, (48, 3, 0, [15])), (14, (0, 1, 0, [])), (15, (94, 1, 0, []))]
/-- EiderClimateModel.isPlace(I)Z -/
def mc_134 : List (Nat × mI) := [(0, (6, 1, 0, [0])), (1, (0, 1, 0, [])), (2, (1, 2, 29, [])), (4, (77, 3, 0, [133, 3, 1, 0, 103, 5048])), (7, (94, 1, 0, []))]
/-- EiderClimateModel.isHouse(I)Z -/
def mc_135 : List (Nat × mI) := [(0, (6, 1, 0, [1])), (1, (0, 1, 0, [])), (2, (8, 1, 0, [0])), (3, (51, 3, 0, [10, 3, 0, 107, 4151])), (6, (0, 1, 1, [])), (7, (21, 1, 0, [])), (8, (77, 3, 0, [133, 3, 1, 0, 103, 5048])), (11, (94, 1, 0, []))]
/-- EiderClimateModel.isTime(I)Z -/
def mc_136 : List (Nat × mI) := [(0, (6, 1, 0, [0])), (1, (0, 1, 0, [])), (2, (1, 2, 48, [])), (4, (77, 3, 0, [133, 3, 1, 0, 103, 5048])), (7, (94, 1, 0, []))]
/-- EiderClimateModel.isShelf(I)Z -/
def mc_137 : List (Nat × mI) := [(0, (6, 1, 0, [0])), (1, (0, 1, 0, [])), (2, (0, 1, 5, [])), (3, (77, 3, 0, [133, 3, 1, 0, 103, 5048])), (6, (94, 1, 0, []))]
/-- EiderClimateModel.newHouse(III)I -/
def mc_138 : List (Nat × mI) := [(0, (8, 1, 0, [0])), (1, (52, 3, 4, [10, 4, 1024, 21, 4152])), (4, (8, 1, 0, [0])), (5, (51, 3, 0, [10, 3, 0, 107, 4151])), (8, (6, 1, 0, [1])), (9, (61, 1, 0, [])), (10, (8, 1, 0, [0])), (11, (52, 3, 4, [10, 4, 1024, 21, 4152])), (14, (1, 2, 8, [])), (16, (8, 1, 0, [0])), (17, (51, 3, 0, [10, 3, 0, 107, 4151])), (20, (20, 1, 0, [])), (21, (6, 1, 0, [2])), (22, (61, 1, 0, [])), (23, (8, 1, 0, [0])), (24, (52, 3, 4, [10, 4, 1024, 21, 4152])), (27, (1, 2, 16, [])), (29, (8, 1, 0, [0])), (30, (51, 3, 0, [10, 3, 0, 107, 4151])), (33, (20, 1, 0, [])), (34, (6, 1, 0, [3])), (35, (61, 1, 0, [])), (36, (8, 1, 0, [0])), (37, (42, 1, 0, [])), (38, (51, 3, 0, [10, 3, 0, 107, 4151])), (41, (44, 1, 0, [])), (42, (0, 1, 1, [])), (43, (20, 1, 0, [])), (44, (54, 3, 0, [10, 3, 0, 107, 4151])), (47, (90, 1, 0, []))]
/-- EiderClimateModel.house(II)I -/
def mc_139 : List (Nat × mI) := [(0, (6, 1, 0, [1])), (1, (77, 3, 0, [134, 1, 1, 0, 111, 5045])), (4, (100, 3, 0, [17])), (7, (6, 1, 0, [2])), (8, (0, 1, 0, [])), (9, (1, 2, 99, [])), (11, (77, 3, 0, [133, 3, 1, 0, 103, 5048])), (14, (101, 3, 0, [19])), (17, (0, 1, (-1), [])), (18, (90, 1, 0, [])), (19, (8, 1, 0, [0])), (20, (51, 3, 0, [10, 3, 0, 107, 4151])), (23, (1, 2, 8, [])), (25, (111, 3, 0, [33])), (28, (1, 2, (-3), [])), (30, (48, 3, 0, [42])), (33, (8, 1, 0, [0])), (34, (6, 1, 0, [1])), (35, (6, 1, 0, [2])), (36, (2, 3, 4095, [])), (39, (76, 3, 0, [138, 4, 1, 30, 115, 5051])), (42, (90, 1, 0, []))]
/-- EiderClimateModel.houses(III)I -/
def mc_140 : List (Nat × mI) := [(0, (6, 1, 0, [1])), (1, (77, 3, 0, [137, 1, 1, 0, 119, 5059])), (4, (100, 3, 0, [17])), (7, (6, 1, 0, [3])), (8, (0, 1, 1, [])), (9, (1, 2, 8, [])), (11, (77, 3, 0, [133, 3, 1, 0, 103, 5048])), (14, (101, 3, 0, [19])), (17, (0, 1, (-1), [])), (18, (90, 1, 0, [])), (19, (8, 1, 0, [0])), (20, (52, 3, 23, [10, 36, 1006, 78, 4184])), (23, (6, 1, 0, [1])), (24, (60, 1, 0, [])), (25, (0, 1, (-1), [])), (26, (111, 3, 0, [31])), (29, (0, 1, 0, [])), (30, (90, 1, 0, [])), (31, (8, 1, 0, [0])), (32, (52, 3, 23, [10, 36, 1006, 78, 4184])), (35, (6, 1, 0, [1])), (36, (60, 1, 0, [])), (37, (0, 1, 1, [])), (38, (110, 3, 0, [44])), (41, (1, 2, (-12), [])), (43, (90, 1, 0, [])), (44, (0, 1, 0, [])), (45, (13, 2, 0, [4])), (47, (0, 1, 0, [])), (48, (13, 2, 0, [5])), (50, (7, 2, 0, [5])), (52, (6, 1, 0, [3])), (53, (113, 3, 0, [201])), (56, (6, 1, 0, [2])), (57, (38, 1, 0, [])), (58, (5, 3, 3, [122, 5062])), (61, (7, 2, 0, [5])), (63, (38, 1, 0, [])), (64, (33, 1, 0, [])), (65, (32, 1, 0, [])), (66, (16, 2, 0, [6])), (68, (11, 2, 0, [6])), (70, (4, 1, 0, [])), (71, (37, 1, 0, [])), (72, (102, 3, 0, [101])), (75, (11, 2, 0, [6])), (77, (5, 3, 3, [122, 5062])), (80, (32, 1, 0, [])), (81, (8, 1, 0, [0])), (82, (52, 3, 24, [10, 37, 1006, 81, 4185])), (85, (6, 1, 0, [1])), (86, (60, 1, 0, [])), (87, (38, 1, 0, [])), (88, (37, 1, 0, [])), (89, (104, 3, 0, [101])), (92, (8, 1, 0, [0])), (93, (51, 3, 0, [10, 3, 0, 107, 4151])), (96, (1, 2, 8, [])), (98, (111, 3, 0, [104])), (101, (7, 2, 0, [4])), (103, (90, 1, 0, [])), (104, (11, 2, 0, [6])), (106, (39, 1, 0, [])), (107, (13, 2, 0, [8])), (109, (8, 1, 0, [0])), (110, (6, 1, 0, [1])), (111, (7, 2, 0, [8])), (113, (76, 3, 0, [141, 3, 1, 30, 124, 5063])), (116, (77, 3, 0, [134, 1, 1, 0, 111, 5045])), (119, (100, 3, 0, [159])), (122, (8, 1, 0, [0])), (123, (6, 1, 0, [1])), (124, (7, 2, 0, [8])), (126, (0, 1, 1, [])), (127, (20, 1, 0, [])), (128, (76, 3, 0, [141, 3, 1, 30, 124, 5063])), (131, (0, 1, 0, [])), (132, (1, 2, 99, [])), (134, (77, 3, 0, [133, 3, 1, 0, 103, 5048])), (137, (100, 3, 0, [159])), (140, (8, 1, 0, [0])), (141, (6, 1, 0, [1])), (142, (7, 2, 0, [8])), (144, (0, 1, 2, [])), (145, (20, 1, 0, [])), (146, (76, 3, 0, [141, 3, 1, 30, 124, 5063])), (149, (0, 1, 0, [])), (150, (2, 3, 4095, [])), (153, (77, 3, 0, [133, 3, 1, 0, 103, 5048])), (156, (101, 3, 0, [162])), (159, (7, 2, 0, [4])), (161, (90, 1, 0, [])), (162, (8, 1, 0, [0])), (163, (8, 1, 0, [0])), (164, (6, 1, 0, [1])), (165, (7, 2, 0, [8])), (167, (76, 3, 0, [141, 3, 1, 30, 124, 5063])), (170, (8, 1, 0, [0])), (171, (6, 1, 0, [1])), (172, (7, 2, 0, [8])), (174, (0, 1, 1, [])), (175, (20, 1, 0, [])), (176, (76, 3, 0, [141, 3, 1, 30, 124, 5063])), (179, (8, 1, 0, [0])), (180, (6, 1, 0, [1])), (181, (7, 2, 0, [8])), (183, (0, 1, 2, [])), (184, (20, 1, 0, [])), (185, (76, 3, 0, [141, 3, 1, 30, 124, 5063])), (188, (76, 3, 0, [138, 4, 1, 30, 115, 5051])), (191, (45, 1, 0, [])), (192, (17, 3, 1, [4])), (195, (17, 3, 1, [5])), (198, (48, 3, 0, [50])), (201, (7, 2, 0, [4])), (203, (90, 1, 0, []))]
/-- EiderClimateModel.toldAt(II)I -/
def mc_141 : List (Nat × mI) := [(0, (8, 1, 0, [0])), (1, (52, 3, 25, [10, 38, 3360, 84, 4186])), (4, (1, 2, 60, [])), (6, (6, 1, 0, [1])), (7, (22, 1, 0, [])), (8, (6, 1, 0, [2])), (9, (20, 1, 0, [])), (10, (62, 1, 0, [])), (11, (39, 1, 0, [])), (12, (90, 1, 0, []))]
/-- EiderClimateModel.isOf(II)Z -/
def mc_142 : List (Nat × mI) := [(0, (6, 1, 0, [2])), (1, (0, 1, 0, [])), (2, (0, 1, 2, [])), (3, (77, 3, 0, [133, 3, 1, 0, 103, 5048])), (6, (100, 3, 0, [16])), (9, (6, 1, 0, [1])), (10, (77, 3, 0, [134, 1, 1, 0, 111, 5045])), (13, (48, 3, 0, [53])), (16, (6, 1, 0, [2])), (17, (0, 1, 3, [])), (18, (0, 1, 5, [])), (19, (77, 3, 0, [133, 3, 1, 0, 103, 5048])), (22, (100, 3, 0, [33])), (25, (8, 1, 0, [0])), (26, (6, 1, 0, [1])), (27, (76, 3, 0, [135, 2, 1, 30, 128, 5075])), (30, (48, 3, 0, [53])), (33, (6, 1, 0, [2])), (34, (1, 2, 6, [])), (36, (1, 2, 7, [])), (38, (77, 3, 0, [133, 3, 1, 0, 103, 5048])), (41, (100, 3, 0, [52])), (44, (6, 1, 0, [1])), (45, (101, 3, 0, [52])), (48, (0, 1, 1, [])), (49, (48, 3, 0, [53])), (52, (0, 1, 0, [])), (53, (94, 1, 0, []))]
/-- EiderClimateModel.isFit(II)Z -/
def mc_143 : List (Nat × mI) := [(0, (6, 1, 0, [0])), (1, (49, 47, 0, [93, 0, 48, 1, 55, 2, 63, 3, 71, 4, 76, 5, 84, 6, 93, 7, 63])), (48, (6, 1, 0, [1])), (49, (0, 1, 0, [])), (50, (0, 1, 4, [])), (51, (77, 3, 0, [133, 3, 1, 0, 103, 5048])), (54, (94, 1, 0, [])), (55, (6, 1, 0, [1])), (56, (0, 1, 0, [])), (57, (1, 2, 9, [])), (59, (77, 3, 0, [133, 3, 1, 0, 103, 5048])), (62, (94, 1, 0, [])), (63, (6, 1, 0, [1])), (64, (0, 1, 0, [])), (65, (1, 2, 12, [])), (67, (77, 3, 0, [133, 3, 1, 0, 103, 5048])), (70, (94, 1, 0, [])), (71, (6, 1, 0, [1])), (72, (77, 3, 0, [134, 1, 1, 0, 111, 5045])), (75, (94, 1, 0, [])), (76, (6, 1, 0, [1])), (77, (0, 1, 0, [])), (78, (1, 2, 99, [])), (80, (77, 3, 0, [133, 3, 1, 0, 103, 5048])), (83, (94, 1, 0, [])), (84, (6, 1, 0, [1])), (85, (0, 1, 0, [])), (86, (2, 3, 4095, [])), (89, (77, 3, 0, [133, 3, 1, 0, 103, 5048])), (92, (94, 1, 0, [])), (93, (6, 1, 0, [1])), (94, (0, 1, 0, [])), (95, (1, 2, 11, [])), (97, (77, 3, 0, [133, 3, 1, 0, 103, 5048])), (100, (94, 1, 0, []))]
/-- EiderClimateModel.get(II)I -/
def mc_144 : List (Nat × mI) := [(0, (6, 1, 0, [2])), (1, (49, 39, 0, [75, 0, 40, 1, 47, 2, 54, 3, 61, 4, 61, 5, 61])), (40, (8, 1, 0, [0])), (41, (52, 3, 1, [10, 0, 1030, 9, 4148])), (44, (6, 1, 0, [1])), (45, (60, 1, 0, [])), (46, (90, 1, 0, [])), (47, (8, 1, 0, [0])), (48, (52, 3, 2, [10, 1, 1030, 15, 4149])), (51, (6, 1, 0, [1])), (52, (60, 1, 0, [])), (53, (90, 1, 0, [])), (54, (8, 1, 0, [0])), (55, (52, 3, 3, [10, 2, 1030, 18, 4150])), (58, (6, 1, 0, [1])), (59, (60, 1, 0, [])), (60, (90, 1, 0, [])), (61, (8, 1, 0, [0])), (62, (52, 3, 4, [10, 4, 1024, 21, 4152])), (65, (1, 2, 8, [])), (67, (6, 1, 0, [2])), (68, (0, 1, 3, [])), (69, (21, 1, 0, [])), (70, (22, 1, 0, [])), (71, (6, 1, 0, [1])), (72, (20, 1, 0, [])), (73, (60, 1, 0, [])), (74, (90, 1, 0, [])), (75, (8, 1, 0, [0])), (76, (52, 3, 5, [10, 5, 1002, 24, 4153])), (79, (6, 1, 0, [2])), (80, (1, 2, 6, [])), (82, (21, 1, 0, [])), (83, (60, 1, 0, [])), (84, (90, 1, 0, []))]
/-- EiderClimateModel.becomes(III)V -/
def mc_145 : List (Nat × mI) := [(0, (6, 1, 0, [2])), (1, (49, 39, 0, [79, 0, 40, 1, 48, 2, 56, 3, 64, 4, 64, 5, 64])), (40, (8, 1, 0, [0])), (41, (52, 3, 1, [10, 0, 1030, 9, 4148])), (44, (6, 1, 0, [1])), (45, (6, 1, 0, [3])), (46, (61, 1, 0, [])), (47, (93, 1, 0, [])), (48, (8, 1, 0, [0])), (49, (52, 3, 2, [10, 1, 1030, 15, 4149])), (52, (6, 1, 0, [1])), (53, (6, 1, 0, [3])), (54, (61, 1, 0, [])), (55, (93, 1, 0, [])), (56, (8, 1, 0, [0])), (57, (52, 3, 3, [10, 2, 1030, 18, 4150])), (60, (6, 1, 0, [1])), (61, (6, 1, 0, [3])), (62, (61, 1, 0, [])), (63, (93, 1, 0, [])), (64, (8, 1, 0, [0])), (65, (52, 3, 4, [10, 4, 1024, 21, 4152])), (68, (1, 2, 8, [])), (70, (6, 1, 0, [2])), (71, (0, 1, 3, [])), (72, (21, 1, 0, [])), (73, (22, 1, 0, [])), (74, (6, 1, 0, [1])), (75, (20, 1, 0, [])), (76, (6, 1, 0, [3])), (77, (61, 1, 0, [])), (78, (93, 1, 0, [])), (79, (8, 1, 0, [0])), (80, (52, 3, 5, [10, 5, 1002, 24, 4153])), (83, (6, 1, 0, [2])), (84, (1, 2, 6, [])), (86, (21, 1, 0, [])), (87, (6, 1, 0, [3])), (88, (61, 1, 0, [])), (89, (93, 1, 0, []))]
/-- EiderClimateModel.mend(III)I -/
def mc_146 : List (Nat × mI) := [(0, (8, 1, 0, [0])), (1, (6, 1, 0, [1])), (2, (6, 1, 0, [2])), (3, (76, 3, 0, [142, 3, 1, 30, 131, 5071])), (6, (100, 3, 0, [17])), (9, (6, 1, 0, [2])), (10, (6, 1, 0, [3])), (11, (77, 3, 0, [143, 2, 1, 0, 135, 5079])), (14, (101, 3, 0, [19])), (17, (0, 1, (-1), [])), (18, (90, 1, 0, [])), (19, (8, 1, 0, [0])), (20, (6, 1, 0, [1])), (21, (6, 1, 0, [2])), (22, (76, 3, 0, [144, 3, 1, 30, 138, 5082])), (25, (13, 2, 0, [4])), (27, (7, 2, 0, [4])), (29, (6, 1, 0, [3])), (30, (111, 3, 0, [36])), (33, (7, 2, 0, [4])), (35, (90, 1, 0, [])), (36, (8, 1, 0, [0])), (37, (6, 1, 0, [1])), (38, (6, 1, 0, [2])), (39, (6, 1, 0, [3])), (40, (76, 3, 0, [145, 4, 0, 30, 141, 5086])), (43, (8, 1, 0, [0])), (44, (51, 3, 0, [10, 30, 0, 145, 4178])), (47, (1, 2, 40, [])), (49, (111, 3, 0, [95])), (52, (0, 1, 0, [])), (53, (13, 2, 0, [5])), (55, (7, 2, 0, [5])), (57, (2, 3, 156, [])), (60, (113, 3, 0, [85])), (63, (8, 1, 0, [0])), (64, (52, 3, 20, [10, 31, 1160, 69, 4179])), (67, (7, 2, 0, [5])), (69, (8, 1, 0, [0])), (70, (52, 3, 20, [10, 31, 1160, 69, 4179])), (73, (7, 2, 0, [5])), (75, (0, 1, 4, [])), (76, (20, 1, 0, [])), (77, (60, 1, 0, [])), (78, (61, 1, 0, [])), (79, (17, 3, 1, [5])), (82, (48, 3, 0, [55])), (85, (8, 1, 0, [0])), (86, (42, 1, 0, [])), (87, (51, 3, 0, [10, 30, 0, 145, 4178])), (90, (0, 1, 1, [])), (91, (21, 1, 0, [])), (92, (54, 3, 0, [10, 30, 0, 145, 4178])), (95, (8, 1, 0, [0])), (96, (52, 3, 20, [10, 31, 1160, 69, 4179])), (99, (0, 1, 4, [])), (100, (8, 1, 0, [0])), (101, (51, 3, 0, [10, 30, 0, 145, 4178])), (104, (22, 1, 0, [])), (105, (6, 1, 0, [1])), (106, (61, 1, 0, [])), (107, (8, 1, 0, [0])), (108, (52, 3, 20, [10, 31, 1160, 69, 4179])), (111, (0, 1, 4, [])), (112, (8, 1, 0, [0])), (113, (51, 3, 0, [10, 30, 0, 145, 4178])), (116, (22, 1, 0, [])), (117, (0, 1, 1, [])), (118, (20, 1, 0, [])), (119, (6, 1, 0, [2])), (120, (61, 1, 0, [])), (121, (8, 1, 0, [0])), (122, (52, 3, 20, [10, 31, 1160, 69, 4179])), (125, (0, 1, 4, [])), (126, (8, 1, 0, [0])), (127, (51, 3, 0, [10, 30, 0, 145, 4178])), (130, (22, 1, 0, [])), (131, (0, 1, 2, [])), (132, (20, 1, 0, [])), (133, (7, 2, 0, [4])), (135, (61, 1, 0, [])), (136, (8, 1, 0, [0])), (137, (52, 3, 20, [10, 31, 1160, 69, 4179])), (140, (0, 1, 4, [])), (141, (8, 1, 0, [0])), (142, (51, 3, 0, [10, 30, 0, 145, 4178])), (145, (22, 1, 0, [])), (146, (0, 1, 3, [])), (147, (20, 1, 0, [])), (148, (6, 1, 0, [3])), (149, (61, 1, 0, [])), (150, (8, 1, 0, [0])), (151, (42, 1, 0, [])), (152, (51, 3, 0, [10, 30, 0, 145, 4178])), (155, (0, 1, 1, [])), (156, (20, 1, 0, [])), (157, (54, 3, 0, [10, 30, 0, 145, 4178])), (160, (8, 1, 0, [0])), (161, (8, 1, 0, [0])), (162, (51, 3, 0, [10, 30, 0, 145, 4178])), (165, (54, 3, 0, [10, 29, 0, 148, 4177])), (168, (7, 2, 0, [4])), (170, (90, 1, 0, []))]
/-- EiderClimateModel.of(II)I -/
def mc_147 : List (Nat × mI) := [(0, (8, 1, 0, [0])), (1, (6, 1, 0, [1])), (2, (6, 1, 0, [2])), (3, (76, 3, 0, [142, 3, 1, 30, 131, 5071])), (6, (100, 3, 0, [18])), (9, (8, 1, 0, [0])), (10, (6, 1, 0, [1])), (11, (6, 1, 0, [2])), (12, (76, 3, 0, [144, 3, 1, 30, 138, 5082])), (15, (48, 3, 0, [19])), (18, (0, 1, (-1), [])), (19, (90, 1, 0, []))]
/-- EiderClimateModel.undo()I -/
def mc_148 : List (Nat × mI) := [(0, (8, 1, 0, [0])), (1, (51, 3, 0, [10, 30, 0, 145, 4178])), (4, (101, 3, 0, [10])), (7, (1, 2, (-5), [])), (9, (90, 1, 0, [])), (10, (8, 1, 0, [0])), (11, (42, 1, 0, [])), (12, (51, 3, 0, [10, 30, 0, 145, 4178])), (15, (0, 1, 1, [])), (16, (21, 1, 0, [])), (17, (54, 3, 0, [10, 30, 0, 145, 4178])), (20, (8, 1, 0, [0])), (21, (8, 1, 0, [0])), (22, (52, 3, 20, [10, 31, 1160, 69, 4179])), (25, (0, 1, 4, [])), (26, (8, 1, 0, [0])), (27, (51, 3, 0, [10, 30, 0, 145, 4178])), (30, (22, 1, 0, [])), (31, (60, 1, 0, [])), (32, (8, 1, 0, [0])), (33, (52, 3, 20, [10, 31, 1160, 69, 4179])), (36, (0, 1, 4, [])), (37, (8, 1, 0, [0])), (38, (51, 3, 0, [10, 30, 0, 145, 4178])), (41, (22, 1, 0, [])), (42, (0, 1, 1, [])), (43, (20, 1, 0, [])), (44, (60, 1, 0, [])), (45, (8, 1, 0, [0])), (46, (52, 3, 20, [10, 31, 1160, 69, 4179])), (49, (0, 1, 4, [])), (50, (8, 1, 0, [0])), (51, (51, 3, 0, [10, 30, 0, 145, 4178])), (54, (22, 1, 0, [])), (55, (0, 1, 2, [])), (56, (20, 1, 0, [])), (57, (60, 1, 0, [])), (58, (76, 3, 0, [145, 4, 0, 30, 141, 5086])), (61, (8, 1, 0, [0])), (62, (51, 3, 0, [10, 30, 0, 145, 4178])), (65, (90, 1, 0, []))]
/-- EiderClimateModel.redo()I -/
def mc_149 : List (Nat × mI) := [(0, (8, 1, 0, [0])), (1, (51, 3, 0, [10, 30, 0, 145, 4178])), (4, (8, 1, 0, [0])), (5, (51, 3, 0, [10, 29, 0, 148, 4177])), (8, (111, 3, 0, [14])), (11, (1, 2, (-5), [])), (13, (90, 1, 0, [])), (14, (8, 1, 0, [0])), (15, (8, 1, 0, [0])), (16, (52, 3, 20, [10, 31, 1160, 69, 4179])), (19, (0, 1, 4, [])), (20, (8, 1, 0, [0])), (21, (51, 3, 0, [10, 30, 0, 145, 4178])), (24, (22, 1, 0, [])), (25, (60, 1, 0, [])), (26, (8, 1, 0, [0])), (27, (52, 3, 20, [10, 31, 1160, 69, 4179])), (30, (0, 1, 4, [])), (31, (8, 1, 0, [0])), (32, (51, 3, 0, [10, 30, 0, 145, 4178])), (35, (22, 1, 0, [])), (36, (0, 1, 1, [])), (37, (20, 1, 0, [])), (38, (60, 1, 0, [])), (39, (8, 1, 0, [0])), (40, (52, 3, 20, [10, 31, 1160, 69, 4179])), (43, (0, 1, 4, [])), (44, (8, 1, 0, [0])), (45, (51, 3, 0, [10, 30, 0, 145, 4178])), (48, (22, 1, 0, [])), (49, (0, 1, 3, [])), (50, (20, 1, 0, [])), (51, (60, 1, 0, [])), (52, (76, 3, 0, [145, 4, 0, 30, 141, 5086])), (55, (8, 1, 0, [0])), (56, (42, 1, 0, [])), (57, (51, 3, 0, [10, 30, 0, 145, 4178])), (60, (0, 1, 1, [])), (61, (20, 1, 0, [])), (62, (54, 3, 0, [10, 30, 0, 145, 4178])), (65, (8, 1, 0, [0])), (66, (51, 3, 0, [10, 29, 0, 148, 4177])), (69, (8, 1, 0, [0])), (70, (51, 3, 0, [10, 30, 0, 145, 4178])), (73, (21, 1, 0, [])), (74, (90, 1, 0, []))]
/-- EiderClimateModel.feed(I)I -/
def mc_150 : List (Nat × mI) := [(0, (6, 1, 0, [1])), (1, (0, 1, 0, [])), (2, (2, 3, 255, [])), (5, (77, 3, 0, [133, 3, 1, 0, 103, 5048])), (8, (101, 3, 0, [13])), (11, (0, 1, (-1), [])), (12, (90, 1, 0, [])), (13, (8, 1, 0, [0])), (14, (51, 3, 0, [10, 7, 0, 151, 4155])), (17, (1, 2, 120, [])), (19, (111, 3, 0, [25])), (22, (1, 2, (-3), [])), (24, (90, 1, 0, [])), (25, (8, 1, 0, [0])), (26, (52, 3, 6, [10, 8, 1120, 27, 4156])), (29, (8, 1, 0, [0])), (30, (42, 1, 0, [])), (31, (51, 3, 0, [10, 7, 0, 151, 4155])), (34, (44, 1, 0, [])), (35, (0, 1, 1, [])), (36, (20, 1, 0, [])), (37, (54, 3, 0, [10, 7, 0, 151, 4155])), (40, (6, 1, 0, [1])), (41, (61, 1, 0, [])), (42, (8, 1, 0, [0])), (43, (51, 3, 0, [10, 7, 0, 151, 4155])), (46, (90, 1, 0, []))]
/-- EiderClimateModel.sign()I -/
def mc_151 : List (Nat × mI) := [(0, (8, 1, 0, [0])), (1, (51, 3, 0, [10, 15, 0, 154, 4163])), (4, (8, 1, 0, [0])), (5, (51, 3, 0, [10, 7, 0, 151, 4155])), (8, (113, 3, 0, [23])), (11, (8, 1, 0, [0])), (12, (52, 3, 6, [10, 8, 1120, 27, 4156])), (15, (8, 1, 0, [0])), (16, (51, 3, 0, [10, 15, 0, 154, 4163])), (19, (60, 1, 0, [])), (20, (48, 3, 0, [24])), (23, (0, 1, (-1), [])), (24, (90, 1, 0, []))]
/-- EiderClimateModel.is(I)Z -/
def mc_152 : List (Nat × mI) := [(0, (8, 1, 0, [0])), (1, (76, 3, 0, [151, 1, 1, 30, 157, 5142])), (4, (6, 1, 0, [1])), (5, (110, 3, 0, [10])), (8, (0, 1, 0, [])), (9, (94, 1, 0, [])), (10, (8, 1, 0, [0])), (11, (42, 1, 0, [])), (12, (51, 3, 0, [10, 15, 0, 154, 4163])), (15, (0, 1, 1, [])), (16, (20, 1, 0, [])), (17, (54, 3, 0, [10, 15, 0, 154, 4163])), (20, (0, 1, 1, [])), (21, (94, 1, 0, []))]
/-- EiderClimateModel.codes(I)Z -/
def mc_153 : List (Nat × mI) := [(0, (8, 1, 0, [0])), (1, (52, 3, 14, [10, 22, 1200, 51, 4170])), (4, (8, 1, 0, [0])), (5, (42, 1, 0, [])), (6, (51, 3, 0, [10, 17, 0, 161, 4165])), (9, (44, 1, 0, [])), (10, (0, 1, 1, [])), (11, (20, 1, 0, [])), (12, (54, 3, 0, [10, 17, 0, 161, 4165])), (15, (6, 1, 0, [1])), (16, (61, 1, 0, [])), (17, (0, 1, 1, [])), (18, (94, 1, 0, []))]
/-- EiderClimateModel.isDigit()Z -/
def mc_154 : List (Nat × mI) := [(0, (8, 1, 0, [0])), (1, (76, 3, 0, [151, 1, 1, 30, 157, 5142])), (4, (1, 2, 48, [])), (6, (112, 3, 0, [22])), (9, (8, 1, 0, [0])), (10, (76, 3, 0, [151, 1, 1, 30, 157, 5142])), (13, (1, 2, 57, [])), (15, (114, 3, 0, [22])), (18, (0, 1, 1, [])), (19, (48, 3, 0, [23])), (22, (0, 1, 0, [])), (23, (94, 1, 0, []))]
/-- EiderClimateModel.nameOf(I)I -/
def mc_155 : List (Nat × mI) := [(0, (6, 1, 0, [0])), (1, (49, 67, 0, [80, 109, 74, 110, 76, 111, 80, 112, 80, 113, 80, 114, 80, 115, 68, 116, 70, 117, 80, 118, 80, 119, 72, 120, 80, 121, 78])), (68, (0, 1, 0, [])), (69, (90, 1, 0, [])), (70, (0, 1, 1, [])), (71, (90, 1, 0, [])), (72, (0, 1, 2, [])), (73, (90, 1, 0, [])), (74, (0, 1, 3, [])), (75, (90, 1, 0, [])), (76, (0, 1, 4, [])), (77, (90, 1, 0, [])), (78, (0, 1, 5, [])), (79, (90, 1, 0, [])), (80, (0, 1, (-1), [])), (81, (90, 1, 0, []))]
/-- EiderClimateModel.isO()Z -/
def mc_156 : List (Nat × mI) := [(0, (8, 1, 0, [0])), (1, (76, 3, 0, [154, 1, 1, 30, 164, 5138])), (4, (100, 3, 0, [66])), (7, (0, 1, 0, [])), (8, (12, 1, 0, [1])), (9, (0, 1, 0, [])), (10, (12, 1, 0, [2])), (11, (6, 1, 0, [2])), (12, (0, 1, 4, [])), (13, (113, 3, 0, [57])), (16, (8, 1, 0, [0])), (17, (76, 3, 0, [154, 1, 1, 30, 164, 5138])), (20, (100, 3, 0, [57])), (23, (1, 2, 10, [])), (25, (6, 1, 0, [1])), (26, (22, 1, 0, [])), (27, (8, 1, 0, [0])), (28, (52, 3, 6, [10, 8, 1120, 27, 4156])), (31, (8, 1, 0, [0])), (32, (51, 3, 0, [10, 15, 0, 154, 4163])), (35, (60, 1, 0, [])), (36, (20, 1, 0, [])), (37, (1, 2, 48, [])), (39, (21, 1, 0, [])), (40, (12, 1, 0, [1])), (41, (8, 1, 0, [0])), (42, (42, 1, 0, [])), (43, (51, 3, 0, [10, 15, 0, 154, 4163])), (46, (0, 1, 1, [])), (47, (20, 1, 0, [])), (48, (54, 3, 0, [10, 15, 0, 154, 4163])), (51, (17, 3, 1, [2])), (54, (48, 3, 0, [11])), (57, (8, 1, 0, [0])), (58, (1, 2, 18, [])), (60, (6, 1, 0, [1])), (61, (20, 1, 0, [])), (62, (76, 3, 0, [153, 2, 1, 30, 168, 5146])), (65, (94, 1, 0, [])), (66, (8, 1, 0, [0])), (67, (76, 3, 0, [151, 1, 1, 30, 157, 5142])), (70, (77, 3, 0, [155, 1, 1, 0, 171, 5150])), (73, (12, 1, 0, [1])), (74, (6, 1, 0, [1])), (75, (102, 3, 0, [94])), (78, (8, 1, 0, [0])), (79, (42, 1, 0, [])), (80, (51, 3, 0, [10, 15, 0, 154, 4163])), (83, (0, 1, 1, [])), (84, (20, 1, 0, [])), (85, (54, 3, 0, [10, 15, 0, 154, 4163])), (88, (8, 1, 0, [0])), (89, (6, 1, 0, [1])), (90, (76, 3, 0, [153, 2, 1, 30, 168, 5146])), (93, (94, 1, 0, [])), (94, (8, 1, 0, [0])), (95, (51, 3, 0, [10, 16, 0, 175, 4164])), (98, (1, 2, 6, [])), (100, (111, 3, 0, [105])), (103, (0, 1, 0, [])), (104, (94, 1, 0, [])), (105, (8, 1, 0, [0])), (106, (42, 1, 0, [])), (107, (51, 3, 0, [10, 16, 0, 175, 4164])), (110, (0, 1, 1, [])), (111, (20, 1, 0, [])), (112, (54, 3, 0, [10, 16, 0, 175, 4164])), (115, (8, 1, 0, [0])), (116, (1, 2, 33, [])), (118, (76, 3, 0, [152, 2, 1, 30, 178, 5153])), (121, (100, 3, 0, [149])), (124, (8, 1, 0, [0])), (125, (76, 3, 0, [156, 1, 1, 30, 181, 5134])), (128, (100, 3, 0, [144])), (131, (8, 1, 0, [0])), (132, (1, 2, 16, [])), (134, (76, 3, 0, [153, 2, 1, 30, 168, 5146])), (137, (100, 3, 0, [144])), (140, (0, 1, 1, [])), (141, (48, 3, 0, [145])), (144, (0, 1, 0, [])), (145, (12, 1, 0, [2])), (146, (48, 3, 0, [214])), (149, (8, 1, 0, [0])), (150, (1, 2, 45, [])), (152, (76, 3, 0, [152, 2, 1, 30, 178, 5153])), (155, (100, 3, 0, [183])), (158, (8, 1, 0, [0])), (159, (76, 3, 0, [156, 1, 1, 30, 181, 5134])), (162, (100, 3, 0, [178])), (165, (8, 1, 0, [0])), (166, (1, 2, 17, [])), (168, (76, 3, 0, [153, 2, 1, 30, 168, 5146])), (171, (100, 3, 0, [178])), (174, (0, 1, 1, [])), (175, (48, 3, 0, [179])), (178, (0, 1, 0, [])), (179, (12, 1, 0, [2])), (180, (48, 3, 0, [214])), (183, (8, 1, 0, [0])), (184, (1, 2, 40, [])), (186, (76, 3, 0, [152, 2, 1, 30, 178, 5153])), (189, (100, 3, 0, [212])), (192, (8, 1, 0, [0])), (193, (76, 3, 0, [161, 1, 1, 30, 184, 5114])), (196, (100, 3, 0, [212])), (199, (8, 1, 0, [0])), (200, (1, 2, 41, [])), (202, (76, 3, 0, [152, 2, 1, 30, 178, 5153])), (205, (100, 3, 0, [212])), (208, (0, 1, 1, [])), (209, (48, 3, 0, [213])), (212, (0, 1, 0, [])), (213, (12, 1, 0, [2])), (214, (8, 1, 0, [0])), (215, (42, 1, 0, [])), (216, (51, 3, 0, [10, 16, 0, 175, 4164])), (219, (0, 1, 1, [])), (220, (21, 1, 0, [])), (221, (54, 3, 0, [10, 16, 0, 175, 4164])), (224, (6, 1, 0, [2])), (225, (94, 1, 0, []))]
/-- EiderClimateModel.isP()Z -/
def mc_157 : List (Nat × mI) := [(0, (8, 1, 0, [0])), (1, (76, 3, 0, [156, 1, 1, 30, 181, 5134])), (4, (101, 3, 0, [9])), (7, (0, 1, 0, [])), (8, (94, 1, 0, [])), (9, (8, 1, 0, [0])), (10, (76, 3, 0, [151, 1, 1, 30, 157, 5142])), (13, (1, 2, 42, [])), (15, (111, 3, 0, [23])), (18, (1, 2, 13, [])), (20, (48, 3, 0, [52])), (23, (8, 1, 0, [0])), (24, (76, 3, 0, [151, 1, 1, 30, 157, 5142])), (27, (1, 2, 47, [])), (29, (111, 3, 0, [37])), (32, (1, 2, 14, [])), (34, (48, 3, 0, [52])), (37, (8, 1, 0, [0])), (38, (76, 3, 0, [151, 1, 1, 30, 157, 5142])), (41, (1, 2, 37, [])), (43, (111, 3, 0, [51])), (46, (1, 2, 15, [])), (48, (48, 3, 0, [52])), (51, (0, 1, (-1), [])), (52, (12, 1, 0, [1])), (53, (6, 1, 0, [1])), (54, (103, 3, 0, [59])), (57, (0, 1, 1, [])), (58, (94, 1, 0, [])), (59, (8, 1, 0, [0])), (60, (42, 1, 0, [])), (61, (51, 3, 0, [10, 15, 0, 154, 4163])), (64, (0, 1, 1, [])), (65, (20, 1, 0, [])), (66, (54, 3, 0, [10, 15, 0, 154, 4163])), (69, (8, 1, 0, [0])), (70, (76, 3, 0, [156, 1, 1, 30, 181, 5134])), (73, (101, 3, 0, [78])), (76, (0, 1, 0, [])), (77, (94, 1, 0, [])), (78, (8, 1, 0, [0])), (79, (6, 1, 0, [1])), (80, (76, 3, 0, [153, 2, 1, 30, 168, 5146])), (83, (45, 1, 0, [])), (84, (48, 3, 0, [9]))]
/-- EiderClimateModel.isS()Z -/
def mc_158 : List (Nat × mI) := [(0, (8, 1, 0, [0])), (1, (76, 3, 0, [157, 1, 1, 30, 187, 5130])), (4, (101, 3, 0, [9])), (7, (0, 1, 0, [])), (8, (94, 1, 0, [])), (9, (8, 1, 0, [0])), (10, (76, 3, 0, [151, 1, 1, 30, 157, 5142])), (13, (1, 2, 43, [])), (15, (111, 3, 0, [23])), (18, (1, 2, 11, [])), (20, (48, 3, 0, [38])), (23, (8, 1, 0, [0])), (24, (76, 3, 0, [151, 1, 1, 30, 157, 5142])), (27, (1, 2, 45, [])), (29, (111, 3, 0, [37])), (32, (1, 2, 12, [])), (34, (48, 3, 0, [38])), (37, (0, 1, (-1), [])), (38, (12, 1, 0, [1])), (39, (6, 1, 0, [1])), (40, (103, 3, 0, [45])), (43, (0, 1, 1, [])), (44, (94, 1, 0, [])), (45, (8, 1, 0, [0])), (46, (42, 1, 0, [])), (47, (51, 3, 0, [10, 15, 0, 154, 4163])), (50, (0, 1, 1, [])), (51, (20, 1, 0, [])), (52, (54, 3, 0, [10, 15, 0, 154, 4163])), (55, (8, 1, 0, [0])), (56, (76, 3, 0, [157, 1, 1, 30, 187, 5130])), (59, (101, 3, 0, [64])), (62, (0, 1, 0, [])), (63, (94, 1, 0, [])), (64, (8, 1, 0, [0])), (65, (6, 1, 0, [1])), (66, (76, 3, 0, [153, 2, 1, 30, 168, 5146])), (69, (45, 1, 0, [])), (70, (48, 3, 0, [9]))]
/-- EiderClimateModel.isB()Z -/
def mc_159 : List (Nat × mI) := [(0, (8, 1, 0, [0])), (1, (76, 3, 0, [158, 1, 1, 30, 190, 5126])), (4, (101, 3, 0, [9])), (7, (0, 1, 0, [])), (8, (94, 1, 0, [])), (9, (8, 1, 0, [0])), (10, (76, 3, 0, [151, 1, 1, 30, 157, 5142])), (13, (1, 2, 60, [])), (15, (111, 3, 0, [23])), (18, (1, 2, 8, [])), (20, (48, 3, 0, [52])), (23, (8, 1, 0, [0])), (24, (76, 3, 0, [151, 1, 1, 30, 157, 5142])), (27, (1, 2, 61, [])), (29, (111, 3, 0, [37])), (32, (1, 2, 9, [])), (34, (48, 3, 0, [52])), (37, (8, 1, 0, [0])), (38, (76, 3, 0, [151, 1, 1, 30, 157, 5142])), (41, (1, 2, 62, [])), (43, (111, 3, 0, [51])), (46, (1, 2, 10, [])), (48, (48, 3, 0, [52])), (51, (0, 1, (-1), [])), (52, (12, 1, 0, [1])), (53, (6, 1, 0, [1])), (54, (103, 3, 0, [59])), (57, (0, 1, 1, [])), (58, (94, 1, 0, [])), (59, (8, 1, 0, [0])), (60, (42, 1, 0, [])), (61, (51, 3, 0, [10, 15, 0, 154, 4163])), (64, (0, 1, 1, [])), (65, (20, 1, 0, [])), (66, (54, 3, 0, [10, 15, 0, 154, 4163])), (69, (8, 1, 0, [0])), (70, (76, 3, 0, [158, 1, 1, 30, 190, 5126])), (73, (100, 3, 0, [88])), (76, (8, 1, 0, [0])), (77, (6, 1, 0, [1])), (78, (76, 3, 0, [153, 2, 1, 30, 168, 5146])), (81, (100, 3, 0, [88])), (84, (0, 1, 1, [])), (85, (48, 3, 0, [89])), (88, (0, 1, 0, [])), (89, (94, 1, 0, []))]
/-- EiderClimateModel.isA()Z -/
def mc_160 : List (Nat × mI) := [(0, (8, 1, 0, [0])), (1, (76, 3, 0, [159, 1, 1, 30, 193, 5122])), (4, (101, 3, 0, [9])), (7, (0, 1, 0, [])), (8, (94, 1, 0, [])), (9, (8, 1, 0, [0])), (10, (1, 2, 38, [])), (12, (76, 3, 0, [152, 2, 1, 30, 178, 5153])), (15, (100, 3, 0, [37])), (18, (8, 1, 0, [0])), (19, (76, 3, 0, [159, 1, 1, 30, 193, 5122])), (22, (101, 3, 0, [27])), (25, (0, 1, 0, [])), (26, (94, 1, 0, [])), (27, (8, 1, 0, [0])), (28, (1, 2, 7, [])), (30, (76, 3, 0, [153, 2, 1, 30, 168, 5146])), (33, (45, 1, 0, [])), (34, (48, 3, 0, [9])), (37, (0, 1, 1, [])), (38, (94, 1, 0, []))]
/-- EiderClimateModel.isE()Z -/
def mc_161 : List (Nat × mI) := [(0, (8, 1, 0, [0])), (1, (76, 3, 0, [160, 1, 1, 30, 196, 5118])), (4, (101, 3, 0, [9])), (7, (0, 1, 0, [])), (8, (94, 1, 0, [])), (9, (8, 1, 0, [0])), (10, (1, 2, 124, [])), (12, (76, 3, 0, [152, 2, 1, 30, 178, 5153])), (15, (100, 3, 0, [37])), (18, (8, 1, 0, [0])), (19, (76, 3, 0, [160, 1, 1, 30, 196, 5118])), (22, (101, 3, 0, [27])), (25, (0, 1, 0, [])), (26, (94, 1, 0, [])), (27, (8, 1, 0, [0])), (28, (1, 2, 6, [])), (30, (76, 3, 0, [153, 2, 1, 30, 168, 5146])), (33, (45, 1, 0, [])), (34, (48, 3, 0, [9])), (37, (0, 1, 1, [])), (38, (94, 1, 0, []))]
/-- EiderClimateModel.isLine()Z -/
def mc_162 : List (Nat × mI) := [(0, (8, 1, 0, [0])), (1, (52, 3, 11, [10, 19, 1061, 42, 4167])), (4, (8, 1, 0, [0])), (5, (51, 3, 0, [10, 18, 0, 199, 4166])), (8, (8, 1, 0, [0])), (9, (51, 3, 0, [10, 17, 0, 161, 4165])), (12, (61, 1, 0, [])), (13, (8, 1, 0, [0])), (14, (76, 3, 0, [161, 1, 1, 30, 184, 5114])), (17, (101, 3, 0, [22])), (20, (0, 1, 0, [])), (21, (94, 1, 0, [])), (22, (8, 1, 0, [0])), (23, (52, 3, 12, [10, 20, 1061, 45, 4168])), (26, (8, 1, 0, [0])), (27, (51, 3, 0, [10, 18, 0, 199, 4166])), (30, (8, 1, 0, [0])), (31, (52, 3, 11, [10, 19, 1061, 42, 4167])), (34, (8, 1, 0, [0])), (35, (51, 3, 0, [10, 18, 0, 199, 4166])), (38, (60, 1, 0, [])), (39, (61, 1, 0, [])), (40, (8, 1, 0, [0])), (41, (1, 2, 63, [])), (43, (76, 3, 0, [152, 2, 1, 30, 178, 5153])), (46, (100, 3, 0, [71])), (49, (8, 1, 0, [0])), (50, (52, 3, 12, [10, 20, 1061, 45, 4168])), (53, (8, 1, 0, [0])), (54, (51, 3, 0, [10, 18, 0, 199, 4166])), (57, (8, 1, 0, [0])), (58, (51, 3, 0, [10, 17, 0, 161, 4165])), (61, (61, 1, 0, [])), (62, (8, 1, 0, [0])), (63, (76, 3, 0, [161, 1, 1, 30, 184, 5114])), (66, (101, 3, 0, [71])), (69, (0, 1, 0, [])), (70, (94, 1, 0, [])), (71, (8, 1, 0, [0])), (72, (52, 3, 13, [10, 21, 1061, 48, 4169])), (75, (8, 1, 0, [0])), (76, (42, 1, 0, [])), (77, (51, 3, 0, [10, 18, 0, 199, 4166])), (80, (44, 1, 0, [])), (81, (0, 1, 1, [])), (82, (20, 1, 0, [])), (83, (54, 3, 0, [10, 18, 0, 199, 4166])), (86, (8, 1, 0, [0])), (87, (51, 3, 0, [10, 17, 0, 161, 4165])), (90, (61, 1, 0, [])), (91, (0, 1, 1, [])), (92, (94, 1, 0, []))]
/-- EiderClimateModel.law()I -/
def mc_163 : List (Nat × mI) := [(0, (8, 1, 0, [0])), (1, (0, 1, 0, [])), (2, (54, 3, 0, [10, 15, 0, 154, 4163])), (5, (8, 1, 0, [0])), (6, (0, 1, 0, [])), (7, (54, 3, 0, [10, 16, 0, 175, 4164])), (10, (8, 1, 0, [0])), (11, (0, 1, 0, [])), (12, (54, 3, 0, [10, 17, 0, 161, 4165])), (15, (8, 1, 0, [0])), (16, (0, 1, 0, [])), (17, (54, 3, 0, [10, 18, 0, 199, 4166])), (20, (8, 1, 0, [0])), (21, (76, 3, 0, [162, 1, 1, 30, 202, 5110])), (24, (12, 1, 0, [1])), (25, (6, 1, 0, [1])), (26, (100, 3, 0, [46])), (29, (8, 1, 0, [0])), (30, (1, 2, 59, [])), (32, (76, 3, 0, [152, 2, 1, 30, 178, 5153])), (35, (100, 3, 0, [46])), (38, (8, 1, 0, [0])), (39, (76, 3, 0, [162, 1, 1, 30, 202, 5110])), (42, (12, 1, 0, [1])), (43, (48, 3, 0, [25])), (46, (6, 1, 0, [1])), (47, (100, 3, 0, [65])), (50, (8, 1, 0, [0])), (51, (51, 3, 0, [10, 15, 0, 154, 4163])), (54, (8, 1, 0, [0])), (55, (51, 3, 0, [10, 7, 0, 151, 4155])), (58, (111, 3, 0, [65])), (61, (0, 1, 1, [])), (62, (48, 3, 0, [66])), (65, (0, 1, 0, [])), (66, (12, 1, 0, [2])), (67, (8, 1, 0, [0])), (68, (0, 1, 0, [])), (69, (54, 3, 0, [10, 7, 0, 151, 4155])), (72, (6, 1, 0, [2])), (73, (101, 3, 0, [84])), (76, (1, 2, (-100), [])), (78, (8, 1, 0, [0])), (79, (51, 3, 0, [10, 15, 0, 154, 4163])), (82, (21, 1, 0, [])), (83, (90, 1, 0, [])), (84, (8, 1, 0, [0])), (85, (0, 1, 1, [])), (86, (57, 3, 0, [10, 9, 0, 205, 4157])), (89, (8, 1, 0, [0])), (90, (8, 1, 0, [0])), (91, (51, 3, 0, [10, 18, 0, 199, 4166])), (94, (54, 3, 0, [10, 10, 0, 209, 4158])), (97, (0, 1, 0, [])), (98, (12, 1, 0, [3])), (99, (6, 1, 0, [3])), (100, (8, 1, 0, [0])), (101, (51, 3, 0, [10, 10, 0, 209, 4158])), (104, (113, 3, 0, [149])), (107, (8, 1, 0, [0])), (108, (52, 3, 7, [10, 11, 1060, 30, 4159])), (111, (6, 1, 0, [3])), (112, (8, 1, 0, [0])), (113, (52, 3, 11, [10, 19, 1061, 42, 4167])), (116, (6, 1, 0, [3])), (117, (60, 1, 0, [])), (118, (61, 1, 0, [])), (119, (8, 1, 0, [0])), (120, (52, 3, 8, [10, 12, 1060, 33, 4160])), (123, (6, 1, 0, [3])), (124, (8, 1, 0, [0])), (125, (52, 3, 12, [10, 20, 1061, 45, 4168])), (128, (6, 1, 0, [3])), (129, (60, 1, 0, [])), (130, (61, 1, 0, [])), (131, (8, 1, 0, [0])), (132, (52, 3, 9, [10, 13, 1060, 36, 4161])), (135, (6, 1, 0, [3])), (136, (8, 1, 0, [0])), (137, (52, 3, 13, [10, 21, 1061, 48, 4169])), (140, (6, 1, 0, [3])), (141, (60, 1, 0, [])), (142, (61, 1, 0, [])), (143, (17, 3, 1, [3])), (146, (48, 3, 0, [99])), (149, (0, 1, 0, [])), (150, (12, 1, 0, [3])), (151, (6, 1, 0, [3])), (152, (8, 1, 0, [0])), (153, (51, 3, 0, [10, 17, 0, 161, 4165])), (156, (113, 3, 0, [177])), (159, (8, 1, 0, [0])), (160, (52, 3, 10, [10, 14, 1200, 39, 4162])), (163, (6, 1, 0, [3])), (164, (8, 1, 0, [0])), (165, (52, 3, 14, [10, 22, 1200, 51, 4170])), (168, (6, 1, 0, [3])), (169, (60, 1, 0, [])), (170, (61, 1, 0, [])), (171, (17, 3, 1, [3])), (174, (48, 3, 0, [151])), (177, (0, 1, 1, [])), (178, (90, 1, 0, []))]
/-- EiderClimateModel.both(III)I -/
def mc_164 : List (Nat × mI) := [(0, (6, 1, 0, [0])), (1, (49, 51, 0, [137, 6, 52, 7, 66, 8, 80, 9, 91, 10, 102, 11, 113, 12, 117, 13, 121, 14, 125])), (52, (6, 1, 0, [1])), (53, (101, 3, 0, [60])), (56, (6, 1, 0, [2])), (57, (100, 3, 0, [64])), (60, (0, 1, 1, [])), (61, (48, 3, 0, [65])), (64, (0, 1, 0, [])), (65, (90, 1, 0, [])), (66, (6, 1, 0, [1])), (67, (100, 3, 0, [78])), (70, (6, 1, 0, [2])), (71, (100, 3, 0, [78])), (74, (0, 1, 1, [])), (75, (48, 3, 0, [79])), (78, (0, 1, 0, [])), (79, (90, 1, 0, [])), (80, (6, 1, 0, [1])), (81, (6, 1, 0, [2])), (82, (113, 3, 0, [89])), (85, (0, 1, 1, [])), (86, (48, 3, 0, [90])), (89, (0, 1, 0, [])), (90, (90, 1, 0, [])), (91, (6, 1, 0, [1])), (92, (6, 1, 0, [2])), (93, (111, 3, 0, [100])), (96, (0, 1, 1, [])), (97, (48, 3, 0, [101])), (100, (0, 1, 0, [])), (101, (90, 1, 0, [])), (102, (6, 1, 0, [1])), (103, (6, 1, 0, [2])), (104, (115, 3, 0, [111])), (107, (0, 1, 1, [])), (108, (48, 3, 0, [112])), (111, (0, 1, 0, [])), (112, (90, 1, 0, [])), (113, (6, 1, 0, [1])), (114, (6, 1, 0, [2])), (115, (20, 1, 0, [])), (116, (90, 1, 0, [])), (117, (6, 1, 0, [1])), (118, (6, 1, 0, [2])), (119, (21, 1, 0, [])), (120, (90, 1, 0, [])), (121, (6, 1, 0, [1])), (122, (6, 1, 0, [2])), (123, (22, 1, 0, [])), (124, (90, 1, 0, [])), (125, (6, 1, 0, [2])), (126, (101, 3, 0, [133])), (129, (0, 1, 0, [])), (130, (48, 3, 0, [136])), (133, (6, 1, 0, [1])), (134, (6, 1, 0, [2])), (135, (23, 1, 0, [])), (136, (90, 1, 0, [])), (137, (6, 1, 0, [2])), (138, (101, 3, 0, [145])), (141, (0, 1, 0, [])), (142, (48, 3, 0, [148])), (145, (6, 1, 0, [1])), (146, (6, 1, 0, [2])), (147, (24, 1, 0, [])), (148, (90, 1, 0, []))]
/-- EiderClimateModel.worked(II)I -/
def mc_165 : List (Nat × mI) := [(0, (0, 1, 0, [])), (1, (12, 1, 0, [3])), (2, (6, 1, 0, [1])), (3, (13, 2, 0, [4])), (5, (7, 2, 0, [4])), (7, (6, 1, 0, [2])), (8, (113, 3, 0, [163])), (11, (8, 1, 0, [0])), (12, (52, 3, 10, [10, 14, 1200, 39, 4162])), (15, (7, 2, 0, [4])), (17, (60, 1, 0, [])), (18, (13, 2, 0, [5])), (20, (7, 2, 0, [5])), (22, (1, 2, 18, [])), (24, (113, 3, 0, [33])), (27, (7, 2, 0, [5])), (29, (0, 1, 5, [])), (30, (114, 3, 0, [67])), (33, (8, 1, 0, [0])), (34, (52, 3, 15, [10, 23, 1200, 54, 4171])), (37, (6, 1, 0, [3])), (38, (17, 3, 1, [3])), (41, (7, 2, 0, [5])), (43, (1, 2, 18, [])), (45, (112, 3, 0, [56])), (48, (7, 2, 0, [5])), (50, (1, 2, 18, [])), (52, (21, 1, 0, [])), (53, (48, 3, 0, [63])), (56, (8, 1, 0, [0])), (57, (52, 3, 16, [10, 24, 1006, 57, 4172])), (60, (7, 2, 0, [5])), (62, (60, 1, 0, [])), (63, (61, 1, 0, [])), (64, (48, 3, 0, [157])), (67, (7, 2, 0, [5])), (69, (1, 2, 16, [])), (71, (110, 3, 0, [81])), (74, (7, 2, 0, [5])), (76, (1, 2, 17, [])), (78, (111, 3, 0, [127])), (81, (8, 1, 0, [0])), (82, (52, 3, 15, [10, 23, 1200, 54, 4171])), (85, (6, 1, 0, [3])), (86, (0, 1, 1, [])), (87, (21, 1, 0, [])), (88, (7, 2, 0, [5])), (90, (1, 2, 17, [])), (92, (111, 3, 0, [107])), (95, (8, 1, 0, [0])), (96, (52, 3, 15, [10, 23, 1200, 54, 4171])), (99, (6, 1, 0, [3])), (100, (0, 1, 1, [])), (101, (21, 1, 0, [])), (102, (60, 1, 0, [])), (103, (25, 1, 0, [])), (104, (48, 3, 0, [123])), (107, (8, 1, 0, [0])), (108, (52, 3, 15, [10, 23, 1200, 54, 4171])), (111, (6, 1, 0, [3])), (112, (0, 1, 1, [])), (113, (21, 1, 0, [])), (114, (60, 1, 0, [])), (115, (101, 3, 0, [122])), (118, (0, 1, 1, [])), (119, (48, 3, 0, [123])), (122, (0, 1, 0, [])), (123, (61, 1, 0, [])), (124, (48, 3, 0, [157])), (127, (17, 3, (-1), [3])), (130, (8, 1, 0, [0])), (131, (52, 3, 15, [10, 23, 1200, 54, 4171])), (134, (6, 1, 0, [3])), (135, (0, 1, 1, [])), (136, (21, 1, 0, [])), (137, (7, 2, 0, [5])), (139, (8, 1, 0, [0])), (140, (52, 3, 15, [10, 23, 1200, 54, 4171])), (143, (6, 1, 0, [3])), (144, (0, 1, 1, [])), (145, (21, 1, 0, [])), (146, (60, 1, 0, [])), (147, (8, 1, 0, [0])), (148, (52, 3, 15, [10, 23, 1200, 54, 4171])), (151, (6, 1, 0, [3])), (152, (60, 1, 0, [])), (153, (77, 3, 0, [164, 3, 1, 0, 212, 5203])), (156, (61, 1, 0, [])), (157, (17, 3, 1, [4])), (160, (48, 3, 0, [5])), (163, (8, 1, 0, [0])), (164, (52, 3, 15, [10, 23, 1200, 54, 4171])), (167, (0, 1, 0, [])), (168, (60, 1, 0, [])), (169, (90, 1, 0, []))]
/-- EiderClimateModel.beside(II)I -/
def mc_166 : List (Nat × mI) := [(0, (6, 1, 0, [1])), (1, (49, 27, 0, [76, 0, 28, 1, 43, 2, 59])), (28, (6, 1, 0, [0])), (29, (1, 2, 6, [])), (31, (113, 3, 0, [38])), (34, (0, 1, (-1), [])), (35, (48, 3, 0, [42])), (38, (6, 1, 0, [0])), (39, (1, 2, 6, [])), (41, (21, 1, 0, [])), (42, (90, 1, 0, [])), (43, (6, 1, 0, [0])), (44, (1, 2, 6, [])), (46, (24, 1, 0, [])), (47, (0, 1, 5, [])), (48, (111, 3, 0, [55])), (51, (0, 1, (-1), [])), (52, (48, 3, 0, [58])), (55, (6, 1, 0, [0])), (56, (0, 1, 1, [])), (57, (20, 1, 0, [])), (58, (90, 1, 0, [])), (59, (6, 1, 0, [0])), (60, (1, 2, 6, [])), (62, (23, 1, 0, [])), (63, (0, 1, 4, [])), (64, (111, 3, 0, [71])), (67, (0, 1, (-1), [])), (68, (48, 3, 0, [75])), (71, (6, 1, 0, [0])), (72, (1, 2, 6, [])), (74, (20, 1, 0, [])), (75, (90, 1, 0, [])), (76, (6, 1, 0, [0])), (77, (1, 2, 6, [])), (79, (24, 1, 0, [])), (80, (101, 3, 0, [87])), (83, (0, 1, (-1), [])), (84, (48, 3, 0, [90])), (87, (6, 1, 0, [0])), (88, (0, 1, 1, [])), (89, (21, 1, 0, [])), (90, (90, 1, 0, []))]
/-- EiderClimateModel.near(I)I -/
def mc_167 : List (Nat × mI) := [(0, (0, 1, 0, [])), (1, (12, 1, 0, [2])), (2, (0, 1, 0, [])), (3, (12, 1, 0, [3])), (4, (6, 1, 0, [3])), (5, (0, 1, 4, [])), (6, (113, 3, 0, [36])), (9, (6, 1, 0, [1])), (10, (6, 1, 0, [3])), (11, (77, 3, 0, [166, 2, 1, 0, 215, 5196])), (14, (102, 3, 0, [30])), (17, (6, 1, 0, [2])), (18, (8, 1, 0, [0])), (19, (52, 3, 2, [10, 1, 1030, 15, 4149])), (22, (6, 1, 0, [1])), (23, (6, 1, 0, [3])), (24, (77, 3, 0, [166, 2, 1, 0, 215, 5196])), (27, (60, 1, 0, [])), (28, (20, 1, 0, [])), (29, (12, 1, 0, [2])), (30, (17, 3, 1, [3])), (33, (48, 3, 0, [4])), (36, (6, 1, 0, [2])), (37, (90, 1, 0, []))]
/-- EiderClimateModel.byLaw(I)I -/
def mc_168 : List (Nat × mI) := [(0, (8, 1, 0, [0])), (1, (52, 3, 16, [10, 24, 1006, 57, 4172])), (4, (0, 1, 0, [])), (5, (8, 1, 0, [0])), (6, (52, 3, 1, [10, 0, 1030, 9, 4148])), (9, (6, 1, 0, [1])), (10, (60, 1, 0, [])), (11, (61, 1, 0, [])), (12, (8, 1, 0, [0])), (13, (52, 3, 16, [10, 24, 1006, 57, 4172])), (16, (0, 1, 1, [])), (17, (8, 1, 0, [0])), (18, (52, 3, 2, [10, 1, 1030, 15, 4149])), (21, (6, 1, 0, [1])), (22, (60, 1, 0, [])), (23, (61, 1, 0, [])), (24, (8, 1, 0, [0])), (25, (52, 3, 16, [10, 24, 1006, 57, 4172])), (28, (0, 1, 2, [])), (29, (8, 1, 0, [0])), (30, (52, 3, 3, [10, 2, 1030, 18, 4150])), (33, (6, 1, 0, [1])), (34, (60, 1, 0, [])), (35, (61, 1, 0, [])), (36, (8, 1, 0, [0])), (37, (52, 3, 16, [10, 24, 1006, 57, 4172])), (40, (0, 1, 3, [])), (41, (8, 1, 0, [0])), (42, (52, 3, 5, [10, 5, 1002, 24, 4153])), (45, (0, 1, 0, [])), (46, (60, 1, 0, [])), (47, (61, 1, 0, [])), (48, (8, 1, 0, [0])), (49, (52, 3, 16, [10, 24, 1006, 57, 4172])), (52, (0, 1, 4, [])), (53, (8, 1, 0, [0])), (54, (6, 1, 0, [1])), (55, (76, 3, 0, [167, 2, 1, 30, 218, 5192])), (58, (61, 1, 0, [])), (59, (8, 1, 0, [0])), (60, (52, 3, 16, [10, 24, 1006, 57, 4172])), (63, (0, 1, 5, [])), (64, (6, 1, 0, [1])), (65, (1, 2, 6, [])), (67, (23, 1, 0, [])), (68, (61, 1, 0, [])), (69, (0, 1, 0, [])), (70, (12, 1, 0, [2])), (71, (6, 1, 0, [2])), (72, (8, 1, 0, [0])), (73, (51, 3, 0, [10, 10, 0, 209, 4158])), (76, (113, 3, 0, [139])), (79, (8, 1, 0, [0])), (80, (52, 3, 8, [10, 12, 1060, 33, 4160])), (83, (6, 1, 0, [2])), (84, (60, 1, 0, [])), (85, (8, 1, 0, [0])), (86, (52, 3, 7, [10, 11, 1060, 30, 4159])), (89, (6, 1, 0, [2])), (90, (60, 1, 0, [])), (91, (115, 3, 0, [116])), (94, (8, 1, 0, [0])), (95, (8, 1, 0, [0])), (96, (52, 3, 7, [10, 11, 1060, 30, 4159])), (99, (6, 1, 0, [2])), (100, (60, 1, 0, [])), (101, (8, 1, 0, [0])), (102, (52, 3, 8, [10, 12, 1060, 33, 4160])), (105, (6, 1, 0, [2])), (106, (60, 1, 0, [])), (107, (76, 3, 0, [165, 3, 1, 30, 221, 5199])), (110, (101, 3, 0, [116])), (113, (48, 3, 0, [133])), (116, (8, 1, 0, [0])), (117, (8, 1, 0, [0])), (118, (52, 3, 8, [10, 12, 1060, 33, 4160])), (121, (6, 1, 0, [2])), (122, (60, 1, 0, [])), (123, (8, 1, 0, [0])), (124, (52, 3, 9, [10, 13, 1060, 36, 4161])), (127, (6, 1, 0, [2])), (128, (60, 1, 0, [])), (129, (76, 3, 0, [165, 3, 1, 30, 221, 5199])), (132, (90, 1, 0, [])), (133, (17, 3, 1, [2])), (136, (48, 3, 0, [71])), (139, (0, 1, 0, [])), (140, (90, 1, 0, []))]
/-- EiderClimateModel.warmth(I)I -/
def mc_169 : List (Nat × mI) := [(0, (8, 1, 0, [0])), (1, (51, 3, 0, [10, 9, 0, 205, 4157])), (4, (100, 3, 0, [15])), (7, (8, 1, 0, [0])), (8, (6, 1, 0, [1])), (9, (76, 3, 0, [168, 2, 1, 30, 224, 5188])), (12, (48, 3, 0, [43])), (15, (8, 1, 0, [0])), (16, (52, 3, 1, [10, 0, 1030, 9, 4148])), (19, (6, 1, 0, [1])), (20, (60, 1, 0, [])), (21, (8, 1, 0, [0])), (22, (52, 3, 2, [10, 1, 1030, 15, 4149])), (25, (6, 1, 0, [1])), (26, (60, 1, 0, [])), (27, (22, 1, 0, [])), (28, (8, 1, 0, [0])), (29, (6, 1, 0, [1])), (30, (76, 3, 0, [167, 2, 1, 30, 218, 5192])), (33, (0, 1, 4, [])), (34, (23, 1, 0, [])), (35, (20, 1, 0, [])), (36, (8, 1, 0, [0])), (37, (52, 3, 3, [10, 2, 1030, 18, 4150])), (40, (6, 1, 0, [1])), (41, (60, 1, 0, [])), (42, (21, 1, 0, [])), (43, (12, 1, 0, [2])), (44, (0, 1, 0, [])), (45, (1, 2, 99, [])), (47, (6, 1, 0, [2])), (48, (81, 3, 0, [227, 5206])), (51, (82, 3, 0, [232, 5207])), (54, (90, 1, 0, []))]
/-- EiderClimateModel.isCold(I)Z -/
def mc_170 : List (Nat × mI) := [(0, (8, 1, 0, [0])), (1, (52, 3, 4, [10, 4, 1024, 21, 4152])), (4, (1, 2, 16, [])), (6, (6, 1, 0, [1])), (7, (20, 1, 0, [])), (8, (60, 1, 0, [])), (9, (8, 1, 0, [0])), (10, (52, 3, 5, [10, 5, 1002, 24, 4153])), (13, (0, 1, 0, [])), (14, (60, 1, 0, [])), (15, (30, 1, 0, [])), (16, (0, 1, 1, [])), (17, (26, 1, 0, [])), (18, (0, 1, 1, [])), (19, (111, 3, 0, [48])), (22, (8, 1, 0, [0])), (23, (8, 1, 0, [0])), (24, (52, 3, 4, [10, 4, 1024, 21, 4152])), (27, (6, 1, 0, [1])), (28, (60, 1, 0, [])), (29, (76, 3, 0, [169, 2, 1, 30, 235, 5184])), (32, (8, 1, 0, [0])), (33, (52, 3, 4, [10, 4, 1024, 21, 4152])), (36, (1, 2, 8, [])), (38, (6, 1, 0, [1])), (39, (20, 1, 0, [])), (40, (60, 1, 0, [])), (41, (113, 3, 0, [48])), (44, (0, 1, 1, [])), (45, (48, 3, 0, [49])), (48, (0, 1, 0, [])), (49, (94, 1, 0, []))]
/-- EiderClimateModel.coldOnes()I -/
def mc_171 : List (Nat × mI) := [(0, (0, 1, 0, [])), (1, (12, 1, 0, [1])), (2, (0, 1, 0, [])), (3, (12, 1, 0, [2])), (4, (6, 1, 0, [2])), (5, (8, 1, 0, [0])), (6, (51, 3, 0, [10, 3, 0, 107, 4151])), (9, (113, 3, 0, [32])), (12, (8, 1, 0, [0])), (13, (6, 1, 0, [2])), (14, (76, 3, 0, [170, 2, 1, 30, 238, 5220])), (17, (100, 3, 0, [26])), (20, (6, 1, 0, [1])), (21, (0, 1, 1, [])), (22, (6, 1, 0, [2])), (23, (29, 1, 0, [])), (24, (27, 1, 0, [])), (25, (12, 1, 0, [1])), (26, (17, 3, 1, [2])), (29, (48, 3, 0, [4])), (32, (6, 1, 0, [1])), (33, (90, 1, 0, []))]
/-- EiderClimateModel.slips()V -/
def mc_172 : List (Nat × mI) := [(0, (0, 1, 0, [])), (1, (12, 1, 0, [1])), (2, (6, 1, 0, [1])), (3, (1, 2, 6, [])), (5, (113, 3, 0, [99])), (8, (1, 2, 24, [])), (10, (6, 1, 0, [1])), (11, (20, 1, 0, [])), (12, (12, 1, 0, [2])), (13, (8, 1, 0, [0])), (14, (52, 3, 1, [10, 0, 1030, 9, 4148])), (17, (6, 1, 0, [2])), (18, (60, 1, 0, [])), (19, (12, 1, 0, [3])), (20, (8, 1, 0, [0])), (21, (52, 3, 2, [10, 1, 1030, 15, 4149])), (24, (6, 1, 0, [2])), (25, (60, 1, 0, [])), (26, (13, 2, 0, [4])), (28, (8, 1, 0, [0])), (29, (52, 3, 3, [10, 2, 1030, 18, 4150])), (32, (6, 1, 0, [2])), (33, (60, 1, 0, [])), (34, (13, 2, 0, [5])), (36, (0, 1, 4, [])), (37, (13, 2, 0, [6])), (39, (7, 2, 0, [6])), (41, (105, 3, 0, [70])), (44, (8, 1, 0, [0])), (45, (1, 2, 6, [])), (47, (7, 2, 0, [6])), (49, (0, 1, 1, [])), (50, (21, 1, 0, [])), (51, (22, 1, 0, [])), (52, (6, 1, 0, [1])), (53, (20, 1, 0, [])), (54, (1, 2, 6, [])), (56, (7, 2, 0, [6])), (58, (22, 1, 0, [])), (59, (6, 1, 0, [1])), (60, (20, 1, 0, [])), (61, (76, 3, 0, [173, 3, 0, 30, 241, 5180])), (64, (17, 3, (-1), [6])), (67, (48, 3, 0, [39])), (70, (8, 1, 0, [0])), (71, (52, 3, 1, [10, 0, 1030, 9, 4148])), (74, (6, 1, 0, [1])), (75, (6, 1, 0, [3])), (76, (61, 1, 0, [])), (77, (8, 1, 0, [0])), (78, (52, 3, 2, [10, 1, 1030, 15, 4149])), (81, (6, 1, 0, [1])), (82, (7, 2, 0, [4])), (84, (61, 1, 0, [])), (85, (8, 1, 0, [0])), (86, (52, 3, 3, [10, 2, 1030, 18, 4150])), (89, (6, 1, 0, [1])), (90, (7, 2, 0, [5])), (92, (61, 1, 0, [])), (93, (17, 3, 1, [1])), (96, (48, 3, 0, [2])), (99, (93, 1, 0, []))]
/-- EiderClimateModel.moves(II)V -/
def mc_173 : List (Nat × mI) := [(0, (8, 1, 0, [0])), (1, (52, 3, 1, [10, 0, 1030, 9, 4148])), (4, (6, 1, 0, [2])), (5, (8, 1, 0, [0])), (6, (52, 3, 1, [10, 0, 1030, 9, 4148])), (9, (6, 1, 0, [1])), (10, (60, 1, 0, [])), (11, (61, 1, 0, [])), (12, (8, 1, 0, [0])), (13, (52, 3, 2, [10, 1, 1030, 15, 4149])), (16, (6, 1, 0, [2])), (17, (8, 1, 0, [0])), (18, (52, 3, 2, [10, 1, 1030, 15, 4149])), (21, (6, 1, 0, [1])), (22, (60, 1, 0, [])), (23, (61, 1, 0, [])), (24, (8, 1, 0, [0])), (25, (52, 3, 3, [10, 2, 1030, 18, 4150])), (28, (6, 1, 0, [2])), (29, (8, 1, 0, [0])), (30, (52, 3, 3, [10, 2, 1030, 18, 4150])), (33, (6, 1, 0, [1])), (34, (60, 1, 0, [])), (35, (61, 1, 0, [])), (36, (93, 1, 0, []))]
/-- EiderClimateModel.passes()V -/
def mc_174 : List (Nat × mI) := [(0, (0, 1, 0, [])), (1, (12, 1, 0, [1])), (2, (6, 1, 0, [1])), (3, (1, 2, 30, [])), (5, (113, 3, 0, [67])), (8, (8, 1, 0, [0])), (9, (52, 3, 2, [10, 1, 1030, 15, 4149])), (12, (6, 1, 0, [1])), (13, (60, 1, 0, [])), (14, (101, 3, 0, [20])), (17, (48, 3, 0, [61])), (20, (8, 1, 0, [0])), (21, (52, 3, 3, [10, 2, 1030, 18, 4150])), (24, (6, 1, 0, [1])), (25, (43, 1, 0, [])), (26, (60, 1, 0, [])), (27, (0, 1, 1, [])), (28, (20, 1, 0, [])), (29, (61, 1, 0, [])), (30, (8, 1, 0, [0])), (31, (52, 3, 3, [10, 2, 1030, 18, 4150])), (34, (6, 1, 0, [1])), (35, (60, 1, 0, [])), (36, (1, 2, 12, [])), (38, (113, 3, 0, [44])), (41, (48, 3, 0, [61])), (44, (8, 1, 0, [0])), (45, (52, 3, 2, [10, 1, 1030, 15, 4149])), (48, (6, 1, 0, [1])), (49, (43, 1, 0, [])), (50, (60, 1, 0, [])), (51, (0, 1, 1, [])), (52, (21, 1, 0, [])), (53, (61, 1, 0, [])), (54, (8, 1, 0, [0])), (55, (52, 3, 3, [10, 2, 1030, 18, 4150])), (58, (6, 1, 0, [1])), (59, (0, 1, 0, [])), (60, (61, 1, 0, [])), (61, (17, 3, 1, [1])), (64, (48, 3, 0, [2])), (67, (8, 1, 0, [0])), (68, (42, 1, 0, [])), (69, (51, 3, 0, [10, 6, 0, 245, 4154])), (72, (0, 1, 1, [])), (73, (20, 1, 0, [])), (74, (54, 3, 0, [10, 6, 0, 245, 4154])), (77, (8, 1, 0, [0])), (78, (52, 3, 5, [10, 5, 1002, 24, 4153])), (81, (0, 1, 1, [])), (82, (60, 1, 0, [])), (83, (105, 3, 0, [104])), (86, (8, 1, 0, [0])), (87, (51, 3, 0, [10, 6, 0, 245, 4154])), (90, (8, 1, 0, [0])), (91, (52, 3, 5, [10, 5, 1002, 24, 4153])), (94, (0, 1, 1, [])), (95, (60, 1, 0, [])), (96, (24, 1, 0, [])), (97, (101, 3, 0, [104])), (100, (8, 1, 0, [0])), (101, (76, 3, 0, [172, 1, 0, 30, 248, 5176])), (104, (8, 1, 0, [0])), (105, (52, 3, 5, [10, 5, 1002, 24, 4153])), (108, (0, 1, 0, [])), (109, (8, 1, 0, [0])), (110, (52, 3, 5, [10, 5, 1002, 24, 4153])), (113, (0, 1, 0, [])), (114, (60, 1, 0, [])), (115, (0, 1, 1, [])), (116, (20, 1, 0, [])), (117, (1, 2, 12, [])), (119, (24, 1, 0, [])), (120, (61, 1, 0, [])), (121, (93, 1, 0, []))]
/-- EiderClimateModel.pulls(I)V -/
def mc_175 : List (Nat × mI) := [(0, (1, 2, 6, [])), (2, (6, 1, 0, [1])), (3, (0, 1, 2, [])), (4, (23, 1, 0, [])), (5, (22, 1, 0, [])), (6, (12, 1, 0, [2])), (7, (6, 1, 0, [1])), (8, (0, 1, 2, [])), (9, (24, 1, 0, [])), (10, (0, 1, 1, [])), (11, (111, 3, 0, [18])), (14, (0, 1, 1, [])), (15, (48, 3, 0, [19])), (18, (0, 1, 0, [])), (19, (12, 1, 0, [3])), (20, (6, 1, 0, [3])), (21, (100, 3, 0, [28])), (24, (6, 1, 0, [2])), (25, (48, 3, 0, [34])), (28, (6, 1, 0, [2])), (29, (1, 2, 6, [])), (31, (20, 1, 0, [])), (32, (0, 1, 1, [])), (33, (21, 1, 0, [])), (34, (13, 2, 0, [4])), (36, (8, 1, 0, [0])), (37, (52, 3, 1, [10, 0, 1030, 9, 4148])), (40, (7, 2, 0, [4])), (42, (60, 1, 0, [])), (43, (13, 2, 0, [5])), (45, (8, 1, 0, [0])), (46, (52, 3, 2, [10, 1, 1030, 15, 4149])), (49, (7, 2, 0, [4])), (51, (60, 1, 0, [])), (52, (13, 2, 0, [6])), (54, (8, 1, 0, [0])), (55, (52, 3, 3, [10, 2, 1030, 18, 4150])), (58, (7, 2, 0, [4])), (60, (60, 1, 0, [])), (61, (13, 2, 0, [7])), (63, (0, 1, 1, [])), (64, (13, 2, 0, [8])), (66, (7, 2, 0, [8])), (68, (1, 2, 6, [])), (70, (113, 3, 0, [120])), (73, (6, 1, 0, [3])), (74, (100, 3, 0, [94])), (77, (8, 1, 0, [0])), (78, (6, 1, 0, [2])), (79, (7, 2, 0, [8])), (81, (20, 1, 0, [])), (82, (6, 1, 0, [2])), (83, (7, 2, 0, [8])), (85, (20, 1, 0, [])), (86, (0, 1, 1, [])), (87, (21, 1, 0, [])), (88, (76, 3, 0, [173, 3, 0, 30, 241, 5180])), (91, (48, 3, 0, [114])), (94, (8, 1, 0, [0])), (95, (6, 1, 0, [2])), (96, (1, 2, 6, [])), (98, (20, 1, 0, [])), (99, (0, 1, 1, [])), (100, (21, 1, 0, [])), (101, (7, 2, 0, [8])), (103, (21, 1, 0, [])), (104, (6, 1, 0, [2])), (105, (1, 2, 6, [])), (107, (20, 1, 0, [])), (108, (7, 2, 0, [8])), (110, (21, 1, 0, [])), (111, (76, 3, 0, [173, 3, 0, 30, 241, 5180])), (114, (17, 3, 1, [8])), (117, (48, 3, 0, [66])), (120, (6, 1, 0, [3])), (121, (100, 3, 0, [133])), (124, (6, 1, 0, [2])), (125, (1, 2, 6, [])), (127, (20, 1, 0, [])), (128, (0, 1, 1, [])), (129, (21, 1, 0, [])), (130, (48, 3, 0, [134])), (133, (6, 1, 0, [2])), (134, (13, 2, 0, [8])), (136, (8, 1, 0, [0])), (137, (52, 3, 1, [10, 0, 1030, 9, 4148])), (140, (7, 2, 0, [8])), (142, (7, 2, 0, [5])), (144, (61, 1, 0, [])), (145, (8, 1, 0, [0])), (146, (52, 3, 2, [10, 1, 1030, 15, 4149])), (149, (7, 2, 0, [8])), (151, (7, 2, 0, [6])), (153, (61, 1, 0, [])), (154, (8, 1, 0, [0])), (155, (52, 3, 3, [10, 2, 1030, 18, 4150])), (158, (7, 2, 0, [8])), (160, (7, 2, 0, [7])), (162, (61, 1, 0, [])), (163, (93, 1, 0, []))]
/-- EiderClimateModel.isInner(I)Z -/
def mc_176 : List (Nat × mI) := [(0, (6, 1, 0, [0])), (1, (77, 3, 0, [134, 1, 1, 0, 111, 5045])), (4, (100, 3, 0, [35])), (7, (6, 1, 0, [0])), (8, (1, 2, 6, [])), (10, (24, 1, 0, [])), (11, (0, 1, 1, [])), (12, (0, 1, 4, [])), (13, (77, 3, 0, [133, 3, 1, 0, 103, 5048])), (16, (100, 3, 0, [35])), (19, (6, 1, 0, [0])), (20, (1, 2, 6, [])), (22, (23, 1, 0, [])), (23, (0, 1, 1, [])), (24, (0, 1, 3, [])), (25, (77, 3, 0, [133, 3, 1, 0, 103, 5048])), (28, (100, 3, 0, [35])), (31, (0, 1, 1, [])), (32, (48, 3, 0, [36])), (35, (0, 1, 0, [])), (36, (94, 1, 0, []))]
/-- EiderClimateModel.shakesAt(I)V -/
def mc_177 : List (Nat × mI) := [(0, (0, 1, 0, [])), (1, (12, 1, 0, [2])), (2, (0, 1, (-1), [])), (3, (12, 1, 0, [3])), (4, (6, 1, 0, [3])), (5, (0, 1, 2, [])), (6, (113, 3, 0, [47])), (9, (0, 1, (-1), [])), (10, (13, 2, 0, [4])), (12, (7, 2, 0, [4])), (14, (0, 1, 2, [])), (15, (113, 3, 0, [41])), (18, (6, 1, 0, [2])), (19, (8, 1, 0, [0])), (20, (52, 3, 2, [10, 1, 1030, 15, 4149])), (23, (6, 1, 0, [1])), (24, (1, 2, 6, [])), (26, (6, 1, 0, [3])), (27, (22, 1, 0, [])), (28, (20, 1, 0, [])), (29, (7, 2, 0, [4])), (31, (20, 1, 0, [])), (32, (60, 1, 0, [])), (33, (20, 1, 0, [])), (34, (12, 1, 0, [2])), (35, (17, 3, 1, [4])), (38, (48, 3, 0, [12])), (41, (17, 3, 1, [3])), (44, (48, 3, 0, [4])), (47, (0, 1, (-1), [])), (48, (12, 1, 0, [3])), (49, (6, 1, 0, [3])), (50, (0, 1, 2, [])), (51, (113, 3, 0, [93])), (54, (0, 1, (-1), [])), (55, (13, 2, 0, [4])), (57, (7, 2, 0, [4])), (59, (0, 1, 2, [])), (60, (113, 3, 0, [87])), (63, (8, 1, 0, [0])), (64, (52, 3, 2, [10, 1, 1030, 15, 4149])), (67, (6, 1, 0, [1])), (68, (1, 2, 6, [])), (70, (6, 1, 0, [3])), (71, (22, 1, 0, [])), (72, (20, 1, 0, [])), (73, (7, 2, 0, [4])), (75, (20, 1, 0, [])), (76, (6, 1, 0, [2])), (77, (1, 2, 9, [])), (79, (23, 1, 0, [])), (80, (61, 1, 0, [])), (81, (17, 3, 1, [4])), (84, (48, 3, 0, [57])), (87, (17, 3, 1, [3])), (90, (48, 3, 0, [49])), (93, (8, 1, 0, [0])), (94, (52, 3, 2, [10, 1, 1030, 15, 4149])), (97, (6, 1, 0, [1])), (98, (1, 2, 9, [])), (100, (6, 1, 0, [2])), (101, (1, 2, 9, [])), (103, (23, 1, 0, [])), (104, (6, 1, 0, [2])), (105, (1, 2, 9, [])), (107, (24, 1, 0, [])), (108, (20, 1, 0, [])), (109, (81, 3, 0, [227, 5206])), (112, (61, 1, 0, [])), (113, (93, 1, 0, []))]
/-- EiderClimateModel.keeps([I)V -/
def mc_178 : List (Nat × mI) := [(0, (0, 1, 0, [])), (1, (12, 1, 0, [2])), (2, (6, 1, 0, [2])), (3, (1, 2, 30, [])), (5, (113, 3, 0, [47])), (8, (8, 1, 0, [1])), (9, (6, 1, 0, [2])), (10, (8, 1, 0, [0])), (11, (52, 3, 1, [10, 0, 1030, 9, 4148])), (14, (6, 1, 0, [2])), (15, (60, 1, 0, [])), (16, (61, 1, 0, [])), (17, (8, 1, 0, [1])), (18, (1, 2, 30, [])), (20, (6, 1, 0, [2])), (21, (20, 1, 0, [])), (22, (8, 1, 0, [0])), (23, (52, 3, 2, [10, 1, 1030, 15, 4149])), (26, (6, 1, 0, [2])), (27, (60, 1, 0, [])), (28, (61, 1, 0, [])), (29, (8, 1, 0, [1])), (30, (1, 2, 60, [])), (32, (6, 1, 0, [2])), (33, (20, 1, 0, [])), (34, (8, 1, 0, [0])), (35, (52, 3, 3, [10, 2, 1030, 18, 4150])), (38, (6, 1, 0, [2])), (39, (60, 1, 0, [])), (40, (61, 1, 0, [])), (41, (17, 3, 1, [2])), (44, (48, 3, 0, [2])), (47, (8, 1, 0, [1])), (48, (1, 2, 90, [])), (50, (8, 1, 0, [0])), (51, (52, 3, 5, [10, 5, 1002, 24, 4153])), (54, (0, 1, 0, [])), (55, (60, 1, 0, [])), (56, (61, 1, 0, [])), (57, (8, 1, 0, [1])), (58, (1, 2, 91, [])), (60, (8, 1, 0, [0])), (61, (51, 3, 0, [10, 6, 0, 245, 4154])), (64, (61, 1, 0, [])), (65, (93, 1, 0, []))]
/-- EiderClimateModel.again([I)V -/
def mc_179 : List (Nat × mI) := [(0, (0, 1, 0, [])), (1, (12, 1, 0, [2])), (2, (6, 1, 0, [2])), (3, (1, 2, 30, [])), (5, (113, 3, 0, [47])), (8, (8, 1, 0, [0])), (9, (52, 3, 1, [10, 0, 1030, 9, 4148])), (12, (6, 1, 0, [2])), (13, (8, 1, 0, [1])), (14, (6, 1, 0, [2])), (15, (60, 1, 0, [])), (16, (61, 1, 0, [])), (17, (8, 1, 0, [0])), (18, (52, 3, 2, [10, 1, 1030, 15, 4149])), (21, (6, 1, 0, [2])), (22, (8, 1, 0, [1])), (23, (1, 2, 30, [])), (25, (6, 1, 0, [2])), (26, (20, 1, 0, [])), (27, (60, 1, 0, [])), (28, (61, 1, 0, [])), (29, (8, 1, 0, [0])), (30, (52, 3, 3, [10, 2, 1030, 18, 4150])), (33, (6, 1, 0, [2])), (34, (8, 1, 0, [1])), (35, (1, 2, 60, [])), (37, (6, 1, 0, [2])), (38, (20, 1, 0, [])), (39, (60, 1, 0, [])), (40, (61, 1, 0, [])), (41, (17, 3, 1, [2])), (44, (48, 3, 0, [2])), (47, (8, 1, 0, [0])), (48, (52, 3, 5, [10, 5, 1002, 24, 4153])), (51, (0, 1, 0, [])), (52, (8, 1, 0, [1])), (53, (1, 2, 90, [])), (55, (60, 1, 0, [])), (56, (61, 1, 0, [])), (57, (8, 1, 0, [0])), (58, (8, 1, 0, [1])), (59, (1, 2, 91, [])), (61, (60, 1, 0, [])), (62, (54, 3, 0, [10, 6, 0, 245, 4154])), (65, (93, 1, 0, []))]
/-- EiderClimateModel.goesOn(I)V -/
def mc_180 : List (Nat × mI) := [(0, (0, 1, 0, [])), (1, (12, 1, 0, [2])), (2, (6, 1, 0, [2])), (3, (6, 1, 0, [1])), (4, (113, 3, 0, [17])), (7, (8, 1, 0, [0])), (8, (76, 3, 0, [174, 1, 0, 30, 251, 5172])), (11, (17, 3, 1, [2])), (14, (48, 3, 0, [2])), (17, (93, 1, 0, []))]
/-- EiderClimateModel.later(III)I -/
def mc_181 : List (Nat × mI) := [(0, (6, 1, 0, [1])), (1, (77, 3, 0, [136, 1, 1, 0, 254, 5161])), (4, (100, 3, 0, [23])), (7, (6, 1, 0, [2])), (8, (77, 3, 0, [134, 1, 1, 0, 111, 5045])), (11, (100, 3, 0, [23])), (14, (6, 1, 0, [3])), (15, (0, 1, 0, [])), (16, (0, 1, 3, [])), (17, (77, 3, 0, [133, 3, 1, 0, 103, 5048])), (20, (101, 3, 0, [25])), (23, (0, 1, (-1), [])), (24, (90, 1, 0, [])), (25, (8, 1, 0, [0])), (26, (8, 1, 0, [0])), (27, (52, 3, 26, [10, 39, 1092, 88, 4187])), (30, (76, 3, 0, [178, 2, 0, 30, 257, 5164])), (33, (8, 1, 0, [0])), (34, (6, 1, 0, [1])), (35, (76, 3, 0, [180, 2, 0, 30, 261, 5168])), (38, (6, 1, 0, [3])), (39, (101, 3, 0, [50])), (42, (8, 1, 0, [0])), (43, (6, 1, 0, [2])), (44, (76, 3, 0, [169, 2, 1, 30, 235, 5184])), (47, (48, 3, 0, [58])), (50, (8, 1, 0, [0])), (51, (6, 1, 0, [2])), (52, (6, 1, 0, [3])), (53, (0, 1, 1, [])), (54, (21, 1, 0, [])), (55, (76, 3, 0, [144, 3, 1, 30, 138, 5082])), (58, (13, 2, 0, [4])), (60, (8, 1, 0, [0])), (61, (8, 1, 0, [0])), (62, (52, 3, 26, [10, 39, 1092, 88, 4187])), (65, (76, 3, 0, [179, 2, 0, 30, 265, 5208])), (68, (7, 2, 0, [4])), (70, (90, 1, 0, []))]
/-- EiderClimateModel.warmest()I -/
def mc_182 : List (Nat × mI) := [(0, (0, 1, 0, [])), (1, (12, 1, 0, [1])), (2, (0, 1, 1, [])), (3, (12, 1, 0, [2])), (4, (6, 1, 0, [2])), (5, (1, 2, 30, [])), (7, (113, 3, 0, [31])), (10, (8, 1, 0, [0])), (11, (6, 1, 0, [2])), (12, (76, 3, 0, [169, 2, 1, 30, 235, 5184])), (15, (8, 1, 0, [0])), (16, (6, 1, 0, [1])), (17, (76, 3, 0, [169, 2, 1, 30, 235, 5184])), (20, (115, 3, 0, [25])), (23, (6, 1, 0, [2])), (24, (12, 1, 0, [1])), (25, (17, 3, 1, [2])), (28, (48, 3, 0, [4])), (31, (6, 1, 0, [1])), (32, (90, 1, 0, []))]
/-- EiderClimateModel.cold(II)I -/
def mc_183 : List (Nat × mI) := [(0, (6, 1, 0, [1])), (1, (77, 3, 0, [136, 1, 1, 0, 254, 5161])), (4, (100, 3, 0, [16])), (7, (6, 1, 0, [2])), (8, (0, 1, 0, [])), (9, (0, 1, 1, [])), (10, (77, 3, 0, [133, 3, 1, 0, 103, 5048])), (13, (101, 3, 0, [18])), (16, (0, 1, (-1), [])), (17, (90, 1, 0, [])), (18, (8, 1, 0, [0])), (19, (8, 1, 0, [0])), (20, (52, 3, 26, [10, 39, 1092, 88, 4187])), (23, (76, 3, 0, [178, 2, 0, 30, 257, 5164])), (26, (8, 1, 0, [0])), (27, (6, 1, 0, [1])), (28, (76, 3, 0, [180, 2, 0, 30, 261, 5168])), (31, (6, 1, 0, [2])), (32, (101, 3, 0, [42])), (35, (8, 1, 0, [0])), (36, (76, 3, 0, [171, 1, 1, 30, 268, 5216])), (39, (48, 3, 0, [46])), (42, (8, 1, 0, [0])), (43, (76, 3, 0, [182, 1, 1, 30, 271, 5224])), (46, (12, 1, 0, [3])), (47, (8, 1, 0, [0])), (48, (8, 1, 0, [0])), (49, (52, 3, 26, [10, 39, 1092, 88, 4187])), (52, (76, 3, 0, [179, 2, 0, 30, 265, 5208])), (55, (6, 1, 0, [3])), (56, (90, 1, 0, []))]
/-- EiderClimateModel.first(I)I -/
def mc_184 : List (Nat × mI) := [(0, (8, 1, 0, [0])), (1, (6, 1, 0, [1])), (2, (76, 3, 0, [135, 2, 1, 30, 128, 5075])), (5, (101, 3, 0, [10])), (8, (0, 1, (-1), [])), (9, (90, 1, 0, [])), (10, (8, 1, 0, [0])), (11, (8, 1, 0, [0])), (12, (52, 3, 26, [10, 39, 1092, 88, 4187])), (15, (76, 3, 0, [178, 2, 0, 30, 257, 5164])), (18, (1, 2, (-2), [])), (20, (12, 1, 0, [2])), (21, (0, 1, 0, [])), (22, (12, 1, 0, [3])), (23, (6, 1, 0, [3])), (24, (1, 2, 49, [])), (26, (113, 3, 0, [59])), (29, (6, 1, 0, [2])), (30, (1, 2, (-2), [])), (32, (111, 3, 0, [59])), (35, (6, 1, 0, [3])), (36, (105, 3, 0, [43])), (39, (8, 1, 0, [0])), (40, (76, 3, 0, [174, 1, 0, 30, 251, 5172])), (43, (8, 1, 0, [0])), (44, (6, 1, 0, [1])), (45, (76, 3, 0, [170, 2, 1, 30, 238, 5220])), (48, (100, 3, 0, [53])), (51, (6, 1, 0, [3])), (52, (12, 1, 0, [2])), (53, (17, 3, 1, [3])), (56, (48, 3, 0, [23])), (59, (8, 1, 0, [0])), (60, (8, 1, 0, [0])), (61, (52, 3, 26, [10, 39, 1092, 88, 4187])), (64, (76, 3, 0, [179, 2, 0, 30, 265, 5208])), (67, (6, 1, 0, [2])), (68, (90, 1, 0, []))]
/-- EiderClimateModel.often(II)I -/
def mc_185 : List (Nat × mI) := [(0, (8, 1, 0, [0])), (1, (6, 1, 0, [1])), (2, (76, 3, 0, [135, 2, 1, 30, 128, 5075])), (5, (100, 3, 0, [15])), (8, (6, 1, 0, [2])), (9, (77, 3, 0, [136, 1, 1, 0, 254, 5161])), (12, (101, 3, 0, [17])), (15, (0, 1, (-1), [])), (16, (90, 1, 0, [])), (17, (8, 1, 0, [0])), (18, (8, 1, 0, [0])), (19, (52, 3, 26, [10, 39, 1092, 88, 4187])), (22, (76, 3, 0, [178, 2, 0, 30, 257, 5164])), (25, (0, 1, 0, [])), (26, (12, 1, 0, [3])), (27, (0, 1, 0, [])), (28, (13, 2, 0, [4])), (30, (7, 2, 0, [4])), (32, (6, 1, 0, [2])), (33, (114, 3, 0, [62])), (36, (7, 2, 0, [4])), (38, (105, 3, 0, [45])), (41, (8, 1, 0, [0])), (42, (76, 3, 0, [174, 1, 0, 30, 251, 5172])), (45, (8, 1, 0, [0])), (46, (6, 1, 0, [1])), (47, (76, 3, 0, [170, 2, 1, 30, 238, 5220])), (50, (100, 3, 0, [56])), (53, (17, 3, 1, [3])), (56, (17, 3, 1, [4])), (59, (48, 3, 0, [30])), (62, (8, 1, 0, [0])), (63, (8, 1, 0, [0])), (64, (52, 3, 26, [10, 39, 1092, 88, 4187])), (67, (76, 3, 0, [179, 2, 0, 30, 265, 5208])), (70, (6, 1, 0, [3])), (71, (90, 1, 0, []))]
/-- EiderClimateModel.isEnough(III)Z -/
def mc_186 : List (Nat × mI) := [(0, (6, 1, 0, [2])), (1, (6, 1, 0, [3])), (2, (111, 3, 0, [53])), (5, (8, 1, 0, [0])), (6, (8, 1, 0, [0])), (7, (52, 3, 26, [10, 39, 1092, 88, 4187])), (10, (76, 3, 0, [179, 2, 0, 30, 265, 5208])), (13, (0, 1, 0, [])), (14, (13, 2, 0, [4])), (16, (7, 2, 0, [4])), (18, (6, 1, 0, [3])), (19, (113, 3, 0, [39])), (22, (8, 1, 0, [0])), (23, (8, 1, 0, [0])), (24, (52, 3, 28, [10, 41, 1003, 94, 4189])), (27, (7, 2, 0, [4])), (29, (60, 1, 0, [])), (30, (76, 3, 0, [175, 2, 0, 30, 274, 6004])), (33, (17, 3, 1, [4])), (36, (48, 3, 0, [16])), (39, (8, 1, 0, [0])), (40, (6, 1, 0, [1])), (41, (76, 3, 0, [170, 2, 1, 30, 238, 5220])), (44, (101, 3, 0, [51])), (47, (0, 1, 1, [])), (48, (48, 3, 0, [52])), (51, (0, 1, 0, [])), (52, (94, 1, 0, [])), (53, (0, 1, 0, [])), (54, (13, 2, 0, [4])), (56, (7, 2, 0, [4])), (58, (1, 2, 10, [])), (60, (113, 3, 0, [91])), (63, (8, 1, 0, [0])), (64, (52, 3, 28, [10, 41, 1003, 94, 4189])), (67, (6, 1, 0, [2])), (68, (7, 2, 0, [4])), (70, (61, 1, 0, [])), (71, (8, 1, 0, [0])), (72, (6, 1, 0, [1])), (73, (6, 1, 0, [2])), (74, (0, 1, 1, [])), (75, (20, 1, 0, [])), (76, (6, 1, 0, [3])), (77, (76, 3, 0, [186, 4, 1, 30, 277, 6000])), (80, (100, 3, 0, [85])), (83, (0, 1, 1, [])), (84, (94, 1, 0, [])), (85, (17, 3, 1, [4])), (88, (48, 3, 0, [56])), (91, (0, 1, 0, [])), (92, (94, 1, 0, []))]
/-- EiderClimateModel.pulls(II)I -/
def mc_187 : List (Nat × mI) := [(0, (8, 1, 0, [0])), (1, (6, 1, 0, [1])), (2, (76, 3, 0, [135, 2, 1, 30, 128, 5075])), (5, (100, 3, 0, [13])), (8, (6, 1, 0, [2])), (9, (0, 1, (-1), [])), (10, (113, 3, 0, [15])), (13, (0, 1, (-1), [])), (14, (90, 1, 0, [])), (15, (8, 1, 0, [0])), (16, (8, 1, 0, [0])), (17, (52, 3, 26, [10, 39, 1092, 88, 4187])), (20, (76, 3, 0, [178, 2, 0, 30, 257, 5164])), (23, (1, 2, (-2), [])), (25, (12, 1, 0, [3])), (26, (0, 1, 0, [])), (27, (13, 2, 0, [4])), (29, (7, 2, 0, [4])), (31, (0, 1, 4, [])), (32, (113, 3, 0, [61])), (35, (6, 1, 0, [3])), (36, (1, 2, (-2), [])), (38, (111, 3, 0, [61])), (41, (8, 1, 0, [0])), (42, (6, 1, 0, [1])), (43, (0, 1, 0, [])), (44, (7, 2, 0, [4])), (46, (76, 3, 0, [186, 4, 1, 30, 277, 6000])), (49, (100, 3, 0, [55])), (52, (7, 2, 0, [4])), (54, (12, 1, 0, [3])), (55, (17, 3, 1, [4])), (58, (48, 3, 0, [29])), (61, (8, 1, 0, [0])), (62, (8, 1, 0, [0])), (63, (52, 3, 26, [10, 39, 1092, 88, 4187])), (66, (76, 3, 0, [179, 2, 0, 30, 265, 5208])), (69, (6, 1, 0, [3])), (70, (1, 2, (-2), [])), (72, (110, 3, 0, [80])), (75, (6, 1, 0, [2])), (76, (0, 1, (-1), [])), (77, (111, 3, 0, [84])), (80, (6, 1, 0, [3])), (81, (48, 3, 0, [100])), (84, (6, 1, 0, [2])), (85, (6, 1, 0, [3])), (86, (113, 3, 0, [98])), (89, (8, 1, 0, [0])), (90, (52, 3, 28, [10, 41, 1003, 94, 4189])), (93, (6, 1, 0, [2])), (94, (60, 1, 0, [])), (95, (48, 3, 0, [100])), (98, (1, 2, (-2), [])), (100, (90, 1, 0, []))]
/-- EiderClimateModel.shakes(I)I -/
def mc_188 : List (Nat × mI) := [(0, (6, 1, 0, [1])), (1, (0, 1, 0, [])), (2, (0, 1, 1, [])), (3, (77, 3, 0, [133, 3, 1, 0, 103, 5048])), (6, (101, 3, 0, [11])), (9, (0, 1, (-1), [])), (10, (90, 1, 0, [])), (11, (8, 1, 0, [0])), (12, (8, 1, 0, [0])), (13, (52, 3, 26, [10, 39, 1092, 88, 4187])), (16, (76, 3, 0, [178, 2, 0, 30, 257, 5164])), (19, (1, 2, (-2), [])), (21, (12, 1, 0, [2])), (22, (1, 2, 99, [])), (24, (12, 1, 0, [3])), (25, (0, 1, 0, [])), (26, (13, 2, 0, [4])), (28, (7, 2, 0, [4])), (30, (1, 2, 30, [])), (32, (113, 3, 0, [90])), (35, (7, 2, 0, [4])), (37, (77, 3, 0, [176, 1, 1, 0, 280, 6012])), (40, (101, 3, 0, [46])), (43, (48, 3, 0, [84])), (46, (8, 1, 0, [0])), (47, (7, 2, 0, [4])), (49, (76, 3, 0, [177, 2, 0, 30, 283, 6015])), (52, (8, 1, 0, [0])), (53, (76, 3, 0, [171, 1, 1, 30, 268, 5216])), (56, (77, 3, 0, [228, 1, 1, 0, 286, 6019])), (59, (13, 2, 0, [5])), (61, (8, 1, 0, [0])), (62, (8, 1, 0, [0])), (63, (52, 3, 26, [10, 39, 1092, 88, 4187])), (66, (76, 3, 0, [179, 2, 0, 30, 265, 5208])), (69, (7, 2, 0, [5])), (71, (6, 1, 0, [3])), (72, (112, 3, 0, [78])), (75, (48, 3, 0, [84])), (78, (7, 2, 0, [5])), (80, (12, 1, 0, [3])), (81, (7, 2, 0, [4])), (83, (12, 1, 0, [2])), (84, (17, 3, 1, [4])), (87, (48, 3, 0, [28])), (90, (6, 1, 0, [1])), (91, (101, 3, 0, [98])), (94, (6, 1, 0, [2])), (95, (48, 3, 0, [99])), (98, (6, 1, 0, [3])), (99, (90, 1, 0, []))]
/-- EiderClimateModel.stuffsAt(III)V -/
def mc_189 : List (Nat × mI) := [(0, (8, 1, 0, [0])), (1, (52, 3, 1, [10, 0, 1030, 9, 4148])), (4, (6, 1, 0, [1])), (5, (6, 1, 0, [2])), (6, (61, 1, 0, [])), (7, (8, 1, 0, [0])), (8, (52, 3, 2, [10, 1, 1030, 15, 4149])), (11, (6, 1, 0, [1])), (12, (6, 1, 0, [3])), (13, (61, 1, 0, [])), (14, (8, 1, 0, [0])), (15, (52, 3, 3, [10, 2, 1030, 18, 4150])), (18, (6, 1, 0, [1])), (19, (0, 1, 0, [])), (20, (61, 1, 0, [])), (21, (93, 1, 0, []))]
/-- EiderClimateModel.stuffs(II)I -/
def mc_190 : List (Nat × mI) := [(0, (6, 1, 0, [1])), (1, (0, 1, 0, [])), (2, (0, 1, 2, [])), (3, (77, 3, 0, [133, 3, 1, 0, 103, 5048])), (6, (100, 3, 0, [18])), (9, (6, 1, 0, [2])), (10, (0, 1, 0, [])), (11, (0, 1, 1, [])), (12, (77, 3, 0, [133, 3, 1, 0, 103, 5048])), (15, (101, 3, 0, [20])), (18, (0, 1, (-1), [])), (19, (90, 1, 0, [])), (20, (8, 1, 0, [0])), (21, (8, 1, 0, [0])), (22, (52, 3, 26, [10, 39, 1092, 88, 4187])), (25, (76, 3, 0, [178, 2, 0, 30, 257, 5164])), (28, (1, 2, (-9), [])), (30, (12, 1, 0, [3])), (31, (1, 2, 99, [])), (33, (13, 2, 0, [4])), (35, (0, 1, 0, [])), (36, (13, 2, 0, [5])), (38, (7, 2, 0, [5])), (40, (6, 1, 0, [1])), (41, (101, 3, 0, [48])), (44, (0, 1, 1, [])), (45, (48, 3, 0, [61])), (48, (6, 1, 0, [1])), (49, (0, 1, 1, [])), (50, (111, 3, 0, [58])), (53, (1, 2, 30, [])), (55, (48, 3, 0, [61])), (58, (2, 3, 900, [])), (61, (113, 3, 0, [167])), (64, (6, 1, 0, [1])), (65, (0, 1, 2, [])), (66, (111, 3, 0, [85])), (69, (7, 2, 0, [5])), (71, (1, 2, 30, [])), (73, (23, 1, 0, [])), (74, (7, 2, 0, [5])), (76, (1, 2, 30, [])), (78, (24, 1, 0, [])), (79, (112, 3, 0, [85])), (82, (48, 3, 0, [161])), (85, (6, 1, 0, [1])), (86, (105, 3, 0, [101])), (89, (8, 1, 0, [0])), (90, (7, 2, 0, [5])), (92, (1, 2, 30, [])), (94, (24, 1, 0, [])), (95, (0, 1, 2, [])), (96, (1, 2, 9, [])), (98, (76, 3, 0, [189, 4, 0, 30, 291, 6024])), (101, (6, 1, 0, [1])), (102, (0, 1, 2, [])), (103, (111, 3, 0, [118])), (106, (8, 1, 0, [0])), (107, (7, 2, 0, [5])), (109, (1, 2, 30, [])), (111, (23, 1, 0, [])), (112, (0, 1, 2, [])), (113, (1, 2, 9, [])), (115, (76, 3, 0, [189, 4, 0, 30, 291, 6024])), (118, (8, 1, 0, [0])), (119, (76, 3, 0, [171, 1, 1, 30, 268, 5216])), (122, (77, 3, 0, [228, 1, 1, 0, 286, 6019])), (125, (13, 2, 0, [6])), (127, (8, 1, 0, [0])), (128, (8, 1, 0, [0])), (129, (52, 3, 26, [10, 39, 1092, 88, 4187])), (132, (76, 3, 0, [179, 2, 0, 30, 265, 5208])), (135, (7, 2, 0, [6])), (137, (7, 2, 0, [4])), (139, (112, 3, 0, [145])), (142, (48, 3, 0, [161])), (145, (7, 2, 0, [6])), (147, (13, 2, 0, [4])), (149, (6, 1, 0, [1])), (150, (101, 3, 0, [158])), (153, (1, 2, (-9), [])), (155, (48, 3, 0, [160])), (158, (7, 2, 0, [5])), (160, (12, 1, 0, [3])), (161, (17, 3, 1, [5])), (164, (48, 3, 0, [38])), (167, (6, 1, 0, [2])), (168, (101, 3, 0, [176])), (171, (7, 2, 0, [4])), (173, (48, 3, 0, [177])), (176, (6, 1, 0, [3])), (177, (90, 1, 0, []))]
/-- EiderClimateModel.noFelt(I)I -/
def mc_191 : List (Nat × mI) := [(0, (6, 1, 0, [1])), (1, (102, 3, 0, [24])), (4, (6, 1, 0, [1])), (5, (1, 2, 100, [])), (7, (23, 1, 0, [])), (8, (77, 3, 0, [137, 1, 1, 0, 119, 5059])), (11, (100, 3, 0, [24])), (14, (6, 1, 0, [1])), (15, (1, 2, 100, [])), (17, (24, 1, 0, [])), (18, (77, 3, 0, [134, 1, 1, 0, 111, 5045])), (21, (101, 3, 0, [26])), (24, (0, 1, (-1), [])), (25, (90, 1, 0, [])), (26, (8, 1, 0, [0])), (27, (52, 3, 23, [10, 36, 1006, 78, 4184])), (30, (6, 1, 0, [1])), (31, (1, 2, 100, [])), (33, (23, 1, 0, [])), (34, (60, 1, 0, [])), (35, (12, 1, 0, [2])), (36, (6, 1, 0, [2])), (37, (0, 1, (-1), [])), (38, (111, 3, 0, [46])), (41, (1, 2, (-11), [])), (43, (48, 3, 0, [56])), (46, (6, 1, 0, [2])), (47, (100, 3, 0, [55])), (50, (1, 2, (-12), [])), (52, (48, 3, 0, [56])), (55, (0, 1, 0, [])), (56, (90, 1, 0, []))]
/-- EiderClimateModel.unlike(I)I -/
def mc_192 : List (Nat × mI) := [(0, (8, 1, 0, [0])), (1, (8, 1, 0, [0])), (2, (52, 3, 26, [10, 39, 1092, 88, 4187])), (5, (76, 3, 0, [178, 2, 0, 30, 257, 5164])), (8, (1, 2, (-2), [])), (10, (12, 1, 0, [2])), (11, (0, 1, 0, [])), (12, (12, 1, 0, [3])), (13, (6, 1, 0, [3])), (14, (8, 1, 0, [0])), (15, (52, 3, 24, [10, 37, 1006, 81, 4185])), (18, (6, 1, 0, [1])), (19, (1, 2, 100, [])), (21, (23, 1, 0, [])), (22, (60, 1, 0, [])), (23, (113, 3, 0, [74])), (26, (6, 1, 0, [3])), (27, (1, 2, 49, [])), (29, (113, 3, 0, [74])), (32, (6, 1, 0, [2])), (33, (1, 2, (-2), [])), (35, (111, 3, 0, [74])), (38, (6, 1, 0, [3])), (39, (105, 3, 0, [46])), (42, (8, 1, 0, [0])), (43, (76, 3, 0, [174, 1, 0, 30, 251, 5172])), (46, (8, 1, 0, [0])), (47, (6, 1, 0, [1])), (48, (1, 2, 100, [])), (50, (24, 1, 0, [])), (51, (76, 3, 0, [169, 2, 1, 30, 235, 5184])), (54, (8, 1, 0, [0])), (55, (6, 1, 0, [1])), (56, (1, 2, 100, [])), (58, (23, 1, 0, [])), (59, (6, 1, 0, [3])), (60, (76, 3, 0, [141, 3, 1, 30, 124, 5063])), (63, (110, 3, 0, [68])), (66, (6, 1, 0, [3])), (67, (12, 1, 0, [2])), (68, (17, 3, 1, [3])), (71, (48, 3, 0, [13])), (74, (8, 1, 0, [0])), (75, (8, 1, 0, [0])), (76, (52, 3, 26, [10, 39, 1092, 88, 4187])), (79, (76, 3, 0, [179, 2, 0, 30, 265, 5208])), (82, (6, 1, 0, [2])), (83, (90, 1, 0, []))]
/-- EiderClimateModel.judge(I)I -/
def mc_193 : List (Nat × mI) := [(0, (8, 1, 0, [0])), (1, (6, 1, 0, [1])), (2, (76, 3, 0, [191, 2, 1, 30, 294, 6032])), (5, (12, 1, 0, [2])), (6, (6, 1, 0, [2])), (7, (103, 3, 0, [14])), (10, (6, 1, 0, [2])), (11, (48, 3, 0, [19])), (14, (8, 1, 0, [0])), (15, (6, 1, 0, [1])), (16, (76, 3, 0, [192, 2, 1, 30, 297, 6036])), (19, (90, 1, 0, []))]
/-- EiderClimateModel.so(IIIII)I -/
def mc_194 : List (Nat × mI) := [(0, (8, 1, 0, [0])), (1, (6, 1, 0, [2])), (2, (6, 1, 0, [3])), (3, (76, 3, 0, [144, 3, 1, 30, 138, 5082])), (6, (13, 2, 0, [6])), (8, (0, 1, 0, [])), (9, (13, 2, 0, [7])), (11, (1, 2, (-2), [])), (13, (13, 2, 0, [8])), (15, (0, 1, 0, [])), (16, (13, 2, 0, [9])), (18, (7, 2, 0, [4])), (20, (13, 2, 0, [10])), (22, (7, 2, 0, [10])), (24, (102, 3, 0, [70])), (27, (8, 1, 0, [0])), (28, (6, 1, 0, [2])), (29, (6, 1, 0, [3])), (30, (7, 2, 0, [10])), (32, (76, 3, 0, [145, 4, 0, 30, 141, 5086])), (35, (8, 1, 0, [0])), (36, (6, 1, 0, [1])), (37, (76, 3, 0, [192, 2, 1, 30, 297, 6036])), (40, (1, 2, (-2), [])), (42, (110, 3, 0, [48])), (45, (48, 3, 0, [64])), (48, (17, 3, 1, [7])), (51, (7, 2, 0, [10])), (53, (13, 2, 0, [8])), (55, (7, 2, 0, [9])), (57, (0, 1, 1, [])), (58, (7, 2, 0, [10])), (60, (29, 1, 0, [])), (61, (27, 1, 0, [])), (62, (13, 2, 0, [9])), (64, (17, 3, (-1), [10])), (67, (48, 3, 0, [22])), (70, (8, 1, 0, [0])), (71, (6, 1, 0, [2])), (72, (6, 1, 0, [3])), (73, (7, 2, 0, [6])), (75, (76, 3, 0, [145, 4, 0, 30, 141, 5086])), (78, (7, 2, 0, [5])), (80, (101, 3, 0, [88])), (83, (7, 2, 0, [7])), (85, (48, 3, 0, [101])), (88, (7, 2, 0, [5])), (90, (0, 1, 1, [])), (91, (111, 3, 0, [99])), (94, (7, 2, 0, [8])), (96, (48, 3, 0, [101])), (99, (7, 2, 0, [9])), (101, (90, 1, 0, []))]
/-- EiderClimateModel.felt(III)I -/
def mc_195 : List (Nat × mI) := [(0, (8, 1, 0, [0])), (1, (6, 1, 0, [1])), (2, (76, 3, 0, [191, 2, 1, 30, 294, 6032])), (5, (13, 2, 0, [4])), (7, (7, 2, 0, [4])), (9, (0, 1, (-1), [])), (10, (110, 3, 0, [29])), (13, (6, 1, 0, [2])), (14, (77, 3, 0, [134, 1, 1, 0, 111, 5045])), (17, (100, 3, 0, [29])), (20, (6, 1, 0, [3])), (21, (0, 1, 0, [])), (22, (0, 1, 4, [])), (23, (77, 3, 0, [133, 3, 1, 0, 103, 5048])), (26, (101, 3, 0, [31])), (29, (0, 1, (-1), [])), (30, (90, 1, 0, [])), (31, (7, 2, 0, [4])), (33, (103, 3, 0, [39])), (36, (7, 2, 0, [4])), (38, (90, 1, 0, [])), (39, (6, 1, 0, [3])), (40, (49, 28, 0, [91, 0, 68, 1, 78, 2, 78])), (68, (8, 1, 0, [0])), (69, (6, 1, 0, [1])), (70, (6, 1, 0, [2])), (71, (0, 1, 0, [])), (72, (0, 1, 4, [])), (73, (0, 1, 2, [])), (74, (76, 3, 0, [194, 6, 1, 30, 300, 6044])), (77, (90, 1, 0, [])), (78, (8, 1, 0, [0])), (79, (6, 1, 0, [1])), (80, (6, 1, 0, [2])), (81, (0, 1, 1, [])), (82, (1, 2, 9, [])), (84, (6, 1, 0, [3])), (85, (0, 1, 1, [])), (86, (21, 1, 0, [])), (87, (76, 3, 0, [194, 6, 1, 30, 300, 6044])), (90, (90, 1, 0, [])), (91, (8, 1, 0, [0])), (92, (6, 1, 0, [1])), (93, (6, 1, 0, [2])), (94, (0, 1, 2, [])), (95, (1, 2, 12, [])), (97, (6, 1, 0, [3])), (98, (0, 1, 3, [])), (99, (21, 1, 0, [])), (100, (76, 3, 0, [194, 6, 1, 30, 300, 6044])), (103, (90, 1, 0, []))]
/-- EiderClimateModel.spreads(II)V -/
def mc_196 : List (Nat × mI) := [(0, (0, 1, 0, [])), (1, (12, 1, 0, [3])), (2, (6, 1, 0, [3])), (3, (1, 2, 30, [])), (5, (113, 3, 0, [41])), (8, (8, 1, 0, [0])), (9, (52, 3, 29, [10, 42, 1030, 97, 4190])), (12, (6, 1, 0, [3])), (13, (6, 1, 0, [3])), (14, (6, 1, 0, [1])), (15, (111, 3, 0, [31])), (18, (8, 1, 0, [0])), (19, (6, 1, 0, [3])), (20, (76, 3, 0, [169, 2, 1, 30, 235, 5184])), (23, (6, 1, 0, [2])), (24, (112, 3, 0, [31])), (27, (0, 1, 0, [])), (28, (48, 3, 0, [34])), (31, (2, 3, 999, [])), (34, (61, 1, 0, [])), (35, (17, 3, 1, [3])), (38, (48, 3, 0, [2])), (41, (0, 1, 0, [])), (42, (12, 1, 0, [3])), (43, (6, 1, 0, [3])), (44, (1, 2, 30, [])), (46, (113, 3, 0, [144])), (49, (0, 1, 0, [])), (50, (13, 2, 0, [4])), (52, (7, 2, 0, [4])), (54, (1, 2, 30, [])), (56, (113, 3, 0, [138])), (59, (0, 1, 0, [])), (60, (13, 2, 0, [5])), (62, (7, 2, 0, [5])), (64, (0, 1, 4, [])), (65, (113, 3, 0, [132])), (68, (8, 1, 0, [0])), (69, (52, 3, 29, [10, 42, 1030, 97, 4190])), (72, (7, 2, 0, [4])), (74, (60, 1, 0, [])), (75, (6, 1, 0, [3])), (76, (111, 3, 0, [132])), (79, (7, 2, 0, [4])), (81, (7, 2, 0, [5])), (83, (77, 3, 0, [166, 2, 1, 0, 215, 5196])), (86, (13, 2, 0, [6])), (88, (7, 2, 0, [6])), (90, (102, 3, 0, [126])), (93, (8, 1, 0, [0])), (94, (52, 3, 29, [10, 42, 1030, 97, 4190])), (97, (7, 2, 0, [6])), (99, (60, 1, 0, [])), (100, (2, 3, 999, [])), (103, (111, 3, 0, [126])), (106, (8, 1, 0, [0])), (107, (7, 2, 0, [6])), (109, (76, 3, 0, [169, 2, 1, 30, 235, 5184])), (112, (6, 1, 0, [2])), (113, (112, 3, 0, [126])), (116, (8, 1, 0, [0])), (117, (52, 3, 29, [10, 42, 1030, 97, 4190])), (120, (7, 2, 0, [6])), (122, (6, 1, 0, [3])), (123, (0, 1, 1, [])), (124, (20, 1, 0, [])), (125, (61, 1, 0, [])), (126, (17, 3, 1, [5])), (129, (48, 3, 0, [62])), (132, (17, 3, 1, [4])), (135, (48, 3, 0, [52])), (138, (17, 3, 1, [3])), (141, (48, 3, 0, [43])), (144, (93, 1, 0, []))]
/-- EiderClimateModel.walk(II)I -/
def mc_197 : List (Nat × mI) := [(0, (6, 1, 0, [1])), (1, (102, 3, 0, [33])), (4, (6, 1, 0, [1])), (5, (1, 2, 100, [])), (7, (23, 1, 0, [])), (8, (77, 3, 0, [134, 1, 1, 0, 111, 5045])), (11, (100, 3, 0, [33])), (14, (6, 1, 0, [1])), (15, (1, 2, 100, [])), (17, (24, 1, 0, [])), (18, (77, 3, 0, [134, 1, 1, 0, 111, 5045])), (21, (100, 3, 0, [33])), (24, (6, 1, 0, [2])), (25, (0, 1, 0, [])), (26, (0, 1, 1, [])), (27, (77, 3, 0, [133, 3, 1, 0, 103, 5048])), (30, (101, 3, 0, [35])), (33, (0, 1, (-1), [])), (34, (90, 1, 0, [])), (35, (1, 2, 99, [])), (37, (12, 1, 0, [3])), (38, (8, 1, 0, [0])), (39, (6, 1, 0, [1])), (40, (1, 2, 100, [])), (42, (23, 1, 0, [])), (43, (6, 1, 0, [3])), (44, (76, 3, 0, [196, 3, 0, 30, 304, 6052])), (47, (8, 1, 0, [0])), (48, (52, 3, 29, [10, 42, 1030, 97, 4190])), (51, (6, 1, 0, [1])), (52, (1, 2, 100, [])), (54, (24, 1, 0, [])), (55, (60, 1, 0, [])), (56, (2, 3, 999, [])), (59, (111, 3, 0, [77])), (62, (17, 3, (-1), [3])), (65, (8, 1, 0, [0])), (66, (6, 1, 0, [1])), (67, (1, 2, 100, [])), (69, (23, 1, 0, [])), (70, (6, 1, 0, [3])), (71, (76, 3, 0, [196, 3, 0, 30, 304, 6052])), (74, (48, 3, 0, [47])), (77, (6, 1, 0, [2])), (78, (101, 3, 0, [85])), (81, (6, 1, 0, [3])), (82, (48, 3, 0, [94])), (85, (8, 1, 0, [0])), (86, (52, 3, 29, [10, 42, 1030, 97, 4190])), (89, (6, 1, 0, [1])), (90, (1, 2, 100, [])), (92, (24, 1, 0, [])), (93, (60, 1, 0, [])), (94, (90, 1, 0, []))]
/-- EiderClimateModel.patches(I)I -/
def mc_198 : List (Nat × mI) := [(0, (6, 1, 0, [1])), (1, (0, 1, 0, [])), (2, (0, 1, 1, [])), (3, (77, 3, 0, [133, 3, 1, 0, 103, 5048])), (6, (101, 3, 0, [11])), (9, (0, 1, (-1), [])), (10, (90, 1, 0, [])), (11, (0, 1, 0, [])), (12, (12, 1, 0, [2])), (13, (6, 1, 0, [2])), (14, (1, 2, 30, [])), (16, (113, 3, 0, [32])), (19, (8, 1, 0, [0])), (20, (52, 3, 30, [10, 43, 1030, 100, 4191])), (23, (6, 1, 0, [2])), (24, (6, 1, 0, [2])), (25, (61, 1, 0, [])), (26, (17, 3, 1, [2])), (29, (48, 3, 0, [13])), (32, (0, 1, 0, [])), (33, (12, 1, 0, [2])), (34, (6, 1, 0, [2])), (35, (1, 2, 30, [])), (37, (113, 3, 0, [145])), (40, (0, 1, 0, [])), (41, (12, 1, 0, [3])), (42, (6, 1, 0, [3])), (43, (1, 2, 30, [])), (45, (113, 3, 0, [139])), (48, (0, 1, 0, [])), (49, (13, 2, 0, [4])), (51, (7, 2, 0, [4])), (53, (0, 1, 4, [])), (54, (113, 3, 0, [133])), (57, (6, 1, 0, [3])), (58, (7, 2, 0, [4])), (60, (77, 3, 0, [166, 2, 1, 0, 215, 5196])), (63, (13, 2, 0, [5])), (65, (7, 2, 0, [5])), (67, (102, 3, 0, [127])), (70, (8, 1, 0, [0])), (71, (52, 3, 2, [10, 1, 1030, 15, 4149])), (74, (6, 1, 0, [3])), (75, (60, 1, 0, [])), (76, (105, 3, 0, [127])), (79, (8, 1, 0, [0])), (80, (52, 3, 2, [10, 1, 1030, 15, 4149])), (83, (7, 2, 0, [5])), (85, (60, 1, 0, [])), (86, (105, 3, 0, [127])), (89, (8, 1, 0, [0])), (90, (52, 3, 1, [10, 0, 1030, 9, 4148])), (93, (6, 1, 0, [3])), (94, (60, 1, 0, [])), (95, (8, 1, 0, [0])), (96, (52, 3, 1, [10, 0, 1030, 9, 4148])), (99, (7, 2, 0, [5])), (101, (60, 1, 0, [])), (102, (111, 3, 0, [127])), (105, (8, 1, 0, [0])), (106, (52, 3, 30, [10, 43, 1030, 100, 4191])), (109, (6, 1, 0, [3])), (110, (8, 1, 0, [0])), (111, (52, 3, 30, [10, 43, 1030, 100, 4191])), (114, (6, 1, 0, [3])), (115, (60, 1, 0, [])), (116, (8, 1, 0, [0])), (117, (52, 3, 30, [10, 43, 1030, 100, 4191])), (120, (7, 2, 0, [5])), (122, (60, 1, 0, [])), (123, (81, 3, 0, [227, 5206])), (126, (61, 1, 0, [])), (127, (17, 3, 1, [4])), (130, (48, 3, 0, [51])), (133, (17, 3, 1, [3])), (136, (48, 3, 0, [42])), (139, (17, 3, 1, [2])), (142, (48, 3, 0, [34])), (145, (0, 1, 0, [])), (146, (12, 1, 0, [2])), (147, (0, 1, 0, [])), (148, (12, 1, 0, [3])), (149, (0, 1, 0, [])), (150, (13, 2, 0, [4])), (152, (7, 2, 0, [4])), (154, (1, 2, 30, [])), (156, (113, 3, 0, [244])), (159, (8, 1, 0, [0])), (160, (52, 3, 2, [10, 1, 1030, 15, 4149])), (163, (7, 2, 0, [4])), (165, (60, 1, 0, [])), (166, (100, 3, 0, [238])), (169, (8, 1, 0, [0])), (170, (52, 3, 30, [10, 43, 1030, 100, 4191])), (173, (7, 2, 0, [4])), (175, (60, 1, 0, [])), (176, (7, 2, 0, [4])), (178, (110, 3, 0, [184])), (181, (48, 3, 0, [238])), (184, (17, 3, 1, [2])), (187, (0, 1, 0, [])), (188, (13, 2, 0, [5])), (190, (0, 1, 0, [])), (191, (13, 2, 0, [6])), (193, (7, 2, 0, [6])), (195, (1, 2, 30, [])), (197, (113, 3, 0, [231])), (200, (8, 1, 0, [0])), (201, (52, 3, 2, [10, 1, 1030, 15, 4149])), (204, (7, 2, 0, [6])), (206, (60, 1, 0, [])), (207, (105, 3, 0, [225])), (210, (8, 1, 0, [0])), (211, (52, 3, 30, [10, 43, 1030, 100, 4191])), (214, (7, 2, 0, [6])), (216, (60, 1, 0, [])), (217, (7, 2, 0, [4])), (219, (111, 3, 0, [225])), (222, (17, 3, 1, [5])), (225, (17, 3, 1, [6])), (228, (48, 3, 0, [193])), (231, (6, 1, 0, [3])), (232, (7, 2, 0, [5])), (234, (82, 3, 0, [232, 5207])), (237, (12, 1, 0, [3])), (238, (17, 3, 1, [4])), (241, (48, 3, 0, [152])), (244, (6, 1, 0, [1])), (245, (101, 3, 0, [252])), (248, (6, 1, 0, [2])), (249, (48, 3, 0, [253])), (252, (6, 1, 0, [3])), (253, (90, 1, 0, []))]
/-- EiderClimateModel.turnFrom(IIII)I -/
def mc_199 : List (Nat × mI) := [(0, (6, 1, 0, [1])), (1, (6, 1, 0, [2])), (2, (111, 3, 0, [33])), (5, (8, 1, 0, [0])), (6, (8, 1, 0, [0])), (7, (52, 3, 4, [10, 4, 1024, 21, 4152])), (10, (6, 1, 0, [3])), (11, (1, 2, 10, [])), (13, (23, 1, 0, [])), (14, (60, 1, 0, [])), (15, (76, 3, 0, [169, 2, 1, 30, 235, 5184])), (18, (8, 1, 0, [0])), (19, (8, 1, 0, [0])), (20, (52, 3, 4, [10, 4, 1024, 21, 4152])), (23, (6, 1, 0, [3])), (24, (1, 2, 10, [])), (26, (24, 1, 0, [])), (27, (60, 1, 0, [])), (28, (76, 3, 0, [169, 2, 1, 30, 235, 5184])), (31, (21, 1, 0, [])), (32, (90, 1, 0, [])), (33, (8, 1, 0, [0])), (34, (6, 1, 0, [1])), (35, (0, 1, 1, [])), (36, (20, 1, 0, [])), (37, (6, 1, 0, [2])), (38, (6, 1, 0, [3])), (39, (7, 2, 0, [4])), (41, (76, 3, 0, [199, 5, 1, 30, 307, 6065])), (44, (13, 2, 0, [5])), (46, (6, 1, 0, [1])), (47, (0, 1, 2, [])), (48, (24, 1, 0, [])), (49, (101, 3, 0, [60])), (52, (7, 2, 0, [4])), (54, (1, 2, 10, [])), (56, (23, 1, 0, [])), (57, (48, 3, 0, [65])), (60, (7, 2, 0, [4])), (62, (1, 2, 10, [])), (64, (24, 1, 0, [])), (65, (13, 2, 0, [6])), (67, (0, 1, 0, [])), (68, (13, 2, 0, [7])), (70, (7, 2, 0, [7])), (72, (0, 1, 2, [])), (73, (113, 3, 0, [144])), (76, (8, 1, 0, [0])), (77, (0, 1, 2, [])), (78, (7, 2, 0, [6])), (80, (22, 1, 0, [])), (81, (7, 2, 0, [7])), (83, (20, 1, 0, [])), (84, (76, 3, 0, [175, 2, 0, 30, 274, 6004])), (87, (8, 1, 0, [0])), (88, (6, 1, 0, [1])), (89, (0, 1, 1, [])), (90, (20, 1, 0, [])), (91, (6, 1, 0, [2])), (92, (6, 1, 0, [3])), (93, (7, 2, 0, [4])), (95, (76, 3, 0, [199, 5, 1, 30, 307, 6065])), (98, (13, 2, 0, [8])), (100, (8, 1, 0, [0])), (101, (0, 1, 2, [])), (102, (7, 2, 0, [6])), (104, (22, 1, 0, [])), (105, (0, 1, 1, [])), (106, (20, 1, 0, [])), (107, (7, 2, 0, [7])), (109, (21, 1, 0, [])), (110, (76, 3, 0, [175, 2, 0, 30, 274, 6004])), (113, (6, 1, 0, [1])), (114, (0, 1, 2, [])), (115, (24, 1, 0, [])), (116, (101, 3, 0, [129])), (119, (7, 2, 0, [5])), (121, (7, 2, 0, [8])), (123, (82, 3, 0, [232, 5207])), (126, (48, 3, 0, [136])), (129, (7, 2, 0, [5])), (131, (7, 2, 0, [8])), (133, (81, 3, 0, [227, 5206])), (136, (13, 2, 0, [5])), (138, (17, 3, 1, [7])), (141, (48, 3, 0, [70])), (144, (7, 2, 0, [5])), (146, (90, 1, 0, []))]
/-- EiderClimateModel.byTurns(IIII)I -/
def mc_200 : List (Nat × mI) := [(0, (6, 1, 0, [1])), (1, (102, 3, 0, [37])), (4, (8, 1, 0, [0])), (5, (6, 1, 0, [1])), (6, (1, 2, 10, [])), (8, (23, 1, 0, [])), (9, (76, 3, 0, [135, 2, 1, 30, 128, 5075])), (12, (100, 3, 0, [37])), (15, (8, 1, 0, [0])), (16, (6, 1, 0, [1])), (17, (1, 2, 10, [])), (19, (24, 1, 0, [])), (20, (76, 3, 0, [135, 2, 1, 30, 128, 5075])), (23, (100, 3, 0, [37])), (26, (6, 1, 0, [1])), (27, (1, 2, 10, [])), (29, (23, 1, 0, [])), (30, (6, 1, 0, [1])), (31, (1, 2, 10, [])), (33, (24, 1, 0, [])), (34, (111, 3, 0, [41])), (37, (3, 3, (-2000000000), [311, 6064])), (40, (90, 1, 0, [])), (41, (6, 1, 0, [2])), (42, (102, 3, 0, [91])), (45, (6, 1, 0, [2])), (46, (1, 2, 10, [])), (48, (23, 1, 0, [])), (49, (0, 1, 5, [])), (50, (113, 3, 0, [91])), (53, (6, 1, 0, [2])), (54, (1, 2, 10, [])), (56, (24, 1, 0, [])), (57, (0, 1, 5, [])), (58, (113, 3, 0, [91])), (61, (6, 1, 0, [2])), (62, (1, 2, 10, [])), (64, (23, 1, 0, [])), (65, (6, 1, 0, [2])), (66, (1, 2, 10, [])), (68, (24, 1, 0, [])), (69, (110, 3, 0, [91])), (72, (6, 1, 0, [3])), (73, (0, 1, 1, [])), (74, (0, 1, 4, [])), (75, (77, 3, 0, [133, 3, 1, 0, 103, 5048])), (78, (100, 3, 0, [91])), (81, (7, 2, 0, [4])), (83, (0, 1, 0, [])), (84, (0, 1, 1, [])), (85, (77, 3, 0, [133, 3, 1, 0, 103, 5048])), (88, (101, 3, 0, [95])), (91, (3, 3, (-2000000000), [311, 6064])), (94, (90, 1, 0, [])), (95, (8, 1, 0, [0])), (96, (0, 1, 1, [])), (97, (6, 1, 0, [3])), (98, (6, 1, 0, [1])), (99, (6, 1, 0, [2])), (100, (76, 3, 0, [199, 5, 1, 30, 307, 6065])), (103, (13, 2, 0, [5])), (105, (0, 1, 2, [])), (106, (13, 2, 0, [6])), (108, (0, 1, 0, [])), (109, (13, 2, 0, [7])), (111, (7, 2, 0, [7])), (113, (0, 1, 2, [])), (114, (113, 3, 0, [179])), (117, (8, 1, 0, [0])), (118, (0, 1, 2, [])), (119, (6, 1, 0, [2])), (120, (1, 2, 10, [])), (122, (23, 1, 0, [])), (123, (22, 1, 0, [])), (124, (7, 2, 0, [7])), (126, (20, 1, 0, [])), (127, (76, 3, 0, [175, 2, 0, 30, 274, 6004])), (130, (8, 1, 0, [0])), (131, (0, 1, 1, [])), (132, (6, 1, 0, [3])), (133, (6, 1, 0, [1])), (134, (6, 1, 0, [2])), (135, (76, 3, 0, [199, 5, 1, 30, 307, 6065])), (138, (13, 2, 0, [8])), (140, (8, 1, 0, [0])), (141, (0, 1, 2, [])), (142, (6, 1, 0, [2])), (143, (1, 2, 10, [])), (145, (23, 1, 0, [])), (146, (22, 1, 0, [])), (147, (0, 1, 1, [])), (148, (20, 1, 0, [])), (149, (7, 2, 0, [7])), (151, (21, 1, 0, [])), (152, (76, 3, 0, [175, 2, 0, 30, 274, 6004])), (155, (7, 2, 0, [8])), (157, (7, 2, 0, [5])), (159, (114, 3, 0, [165])), (162, (48, 3, 0, [173])), (165, (7, 2, 0, [8])), (167, (13, 2, 0, [5])), (169, (7, 2, 0, [7])), (171, (13, 2, 0, [6])), (173, (17, 3, 1, [7])), (176, (48, 3, 0, [111])), (179, (7, 2, 0, [4])), (181, (101, 3, 0, [189])), (184, (7, 2, 0, [5])), (186, (48, 3, 0, [191])), (189, (7, 2, 0, [6])), (191, (90, 1, 0, []))]
/-- EiderClimateModel.drawn(III)I -/
def mc_201 : List (Nat × mI) := [(0, (6, 1, 0, [2])), (1, (102, 3, 0, [43])), (4, (6, 1, 0, [2])), (5, (1, 2, 100, [])), (7, (23, 1, 0, [])), (8, (0, 1, 1, [])), (9, (1, 2, 30, [])), (11, (77, 3, 0, [133, 3, 1, 0, 103, 5048])), (14, (100, 3, 0, [43])), (17, (6, 1, 0, [2])), (18, (1, 2, 100, [])), (20, (24, 1, 0, [])), (21, (0, 1, 1, [])), (22, (1, 2, 24, [])), (24, (77, 3, 0, [133, 3, 1, 0, 103, 5048])), (27, (100, 3, 0, [43])), (30, (6, 1, 0, [3])), (31, (0, 1, (-1), [])), (32, (110, 3, 0, [45])), (35, (8, 1, 0, [0])), (36, (6, 1, 0, [3])), (37, (76, 3, 0, [135, 2, 1, 30, 128, 5075])), (40, (101, 3, 0, [45])), (43, (0, 1, (-1), [])), (44, (90, 1, 0, [])), (45, (8, 1, 0, [0])), (46, (8, 1, 0, [0])), (47, (52, 3, 27, [10, 40, 1092, 91, 4188])), (50, (76, 3, 0, [178, 2, 0, 30, 257, 5164])), (53, (6, 1, 0, [1])), (54, (13, 2, 0, [4])), (56, (0, 1, 0, [])), (57, (13, 2, 0, [5])), (59, (0, 1, 0, [])), (60, (13, 2, 0, [6])), (62, (7, 2, 0, [6])), (64, (6, 1, 0, [2])), (65, (1, 2, 100, [])), (67, (23, 1, 0, [])), (68, (113, 3, 0, [215])), (71, (0, 1, 0, [])), (72, (13, 2, 0, [7])), (74, (7, 2, 0, [7])), (76, (6, 1, 0, [2])), (77, (1, 2, 100, [])), (79, (24, 1, 0, [])), (80, (113, 3, 0, [201])), (83, (7, 2, 0, [4])), (85, (3, 3, 1103515245, [312, 6073])), (88, (22, 1, 0, [])), (89, (2, 3, 12345, [])), (92, (20, 1, 0, [])), (93, (13, 2, 0, [4])), (95, (7, 2, 0, [4])), (97, (1, 2, 8, [])), (99, (31, 1, 0, [])), (100, (0, 1, 3, [])), (101, (24, 1, 0, [])), (102, (13, 2, 0, [8])), (104, (7, 2, 0, [4])), (106, (1, 2, 16, [])), (108, (31, 1, 0, [])), (109, (1, 2, 30, [])), (111, (24, 1, 0, [])), (112, (13, 2, 0, [9])), (114, (7, 2, 0, [8])), (116, (101, 3, 0, [135])), (119, (8, 1, 0, [0])), (120, (0, 1, 2, [])), (121, (7, 2, 0, [4])), (123, (1, 2, 16, [])), (125, (31, 1, 0, [])), (126, (0, 1, 5, [])), (127, (24, 1, 0, [])), (128, (22, 1, 0, [])), (129, (76, 3, 0, [175, 2, 0, 30, 274, 6004])), (132, (48, 3, 0, [161])), (135, (7, 2, 0, [8])), (137, (0, 1, 1, [])), (138, (111, 3, 0, [161])), (141, (8, 1, 0, [0])), (142, (52, 3, 2, [10, 1, 1030, 15, 4149])), (145, (7, 2, 0, [9])), (147, (0, 1, 0, [])), (148, (8, 1, 0, [0])), (149, (52, 3, 2, [10, 1, 1030, 15, 4149])), (152, (7, 2, 0, [9])), (154, (60, 1, 0, [])), (155, (0, 1, 1, [])), (156, (21, 1, 0, [])), (157, (82, 3, 0, [232, 5207])), (160, (61, 1, 0, [])), (161, (8, 1, 0, [0])), (162, (76, 3, 0, [171, 1, 1, 30, 268, 5216])), (165, (13, 2, 0, [10])), (167, (7, 2, 0, [5])), (169, (6, 1, 0, [3])), (170, (0, 1, (-1), [])), (171, (111, 3, 0, [182])), (174, (7, 2, 0, [10])), (176, (77, 3, 0, [228, 1, 1, 0, 286, 6019])), (179, (48, 3, 0, [188])), (182, (7, 2, 0, [10])), (184, (6, 1, 0, [3])), (185, (30, 1, 0, [])), (186, (0, 1, 1, [])), (187, (26, 1, 0, [])), (188, (20, 1, 0, [])), (189, (13, 2, 0, [5])), (191, (8, 1, 0, [0])), (192, (76, 3, 0, [174, 1, 0, 30, 251, 5172])), (195, (17, 3, 1, [7])), (198, (48, 3, 0, [74])), (201, (8, 1, 0, [0])), (202, (8, 1, 0, [0])), (203, (52, 3, 27, [10, 40, 1092, 91, 4188])), (206, (76, 3, 0, [179, 2, 0, 30, 265, 5208])), (209, (17, 3, 1, [6])), (212, (48, 3, 0, [62])), (215, (7, 2, 0, [5])), (217, (90, 1, 0, []))]
/-- EiderClimateModel.month()I -/
def mc_202 : List (Nat × mI) := [(0, (8, 1, 0, [0])), (1, (76, 3, 0, [171, 1, 1, 30, 268, 5216])), (4, (77, 3, 0, [228, 1, 1, 0, 286, 6019])), (7, (12, 1, 0, [1])), (8, (8, 1, 0, [0])), (9, (76, 3, 0, [174, 1, 0, 30, 251, 5172])), (12, (8, 1, 0, [0])), (13, (52, 3, 17, [10, 25, 1005, 60, 4173])), (16, (0, 1, 0, [])), (17, (43, 1, 0, [])), (18, (60, 1, 0, [])), (19, (0, 1, 1, [])), (20, (20, 1, 0, [])), (21, (61, 1, 0, [])), (22, (8, 1, 0, [0])), (23, (52, 3, 17, [10, 25, 1005, 60, 4173])), (26, (0, 1, 4, [])), (27, (43, 1, 0, [])), (28, (60, 1, 0, [])), (29, (6, 1, 0, [1])), (30, (20, 1, 0, [])), (31, (61, 1, 0, [])), (32, (6, 1, 0, [1])), (33, (90, 1, 0, []))]
/-- EiderClimateModel.pull(I)I -/
def mc_203 : List (Nat × mI) := [(0, (6, 1, 0, [1])), (1, (0, 1, 0, [])), (2, (1, 2, 9, [])), (4, (77, 3, 0, [133, 3, 1, 0, 103, 5048])), (7, (101, 3, 0, [12])), (10, (0, 1, (-1), [])), (11, (90, 1, 0, [])), (12, (8, 1, 0, [0])), (13, (6, 1, 0, [1])), (14, (76, 3, 0, [175, 2, 0, 30, 274, 6004])), (17, (8, 1, 0, [0])), (18, (52, 3, 17, [10, 25, 1005, 60, 4173])), (21, (0, 1, 1, [])), (22, (43, 1, 0, [])), (23, (60, 1, 0, [])), (24, (0, 1, 1, [])), (25, (20, 1, 0, [])), (26, (61, 1, 0, [])), (27, (8, 1, 0, [0])), (28, (52, 3, 1, [10, 0, 1030, 9, 4148])), (31, (1, 2, 6, [])), (33, (6, 1, 0, [1])), (34, (0, 1, 2, [])), (35, (23, 1, 0, [])), (36, (22, 1, 0, [])), (37, (60, 1, 0, [])), (38, (90, 1, 0, []))]
/-- EiderClimateModel.shake(I)I -/
def mc_204 : List (Nat × mI) := [(0, (6, 1, 0, [1])), (1, (77, 3, 0, [176, 1, 1, 0, 280, 6012])), (4, (101, 3, 0, [9])), (7, (0, 1, (-1), [])), (8, (90, 1, 0, [])), (9, (8, 1, 0, [0])), (10, (6, 1, 0, [1])), (11, (76, 3, 0, [177, 2, 0, 30, 283, 6015])), (14, (8, 1, 0, [0])), (15, (52, 3, 17, [10, 25, 1005, 60, 4173])), (18, (0, 1, 2, [])), (19, (43, 1, 0, [])), (20, (60, 1, 0, [])), (21, (0, 1, 1, [])), (22, (20, 1, 0, [])), (23, (61, 1, 0, [])), (24, (8, 1, 0, [0])), (25, (52, 3, 2, [10, 1, 1030, 15, 4149])), (28, (6, 1, 0, [1])), (29, (60, 1, 0, [])), (30, (90, 1, 0, []))]
/-- EiderClimateModel.stuff(II)I -/
def mc_205 : List (Nat × mI) := [(0, (6, 1, 0, [1])), (1, (77, 3, 0, [134, 1, 1, 0, 111, 5045])), (4, (100, 3, 0, [30])), (7, (6, 1, 0, [2])), (8, (102, 3, 0, [30])), (11, (6, 1, 0, [2])), (12, (1, 2, 10, [])), (14, (23, 1, 0, [])), (15, (0, 1, 1, [])), (16, (0, 1, 4, [])), (17, (77, 3, 0, [133, 3, 1, 0, 103, 5048])), (20, (100, 3, 0, [30])), (23, (6, 1, 0, [2])), (24, (1, 2, 10, [])), (26, (24, 1, 0, [])), (27, (101, 3, 0, [32])), (30, (0, 1, (-1), [])), (31, (90, 1, 0, [])), (32, (8, 1, 0, [0])), (33, (52, 3, 1, [10, 0, 1030, 9, 4148])), (36, (6, 1, 0, [1])), (37, (60, 1, 0, [])), (38, (12, 1, 0, [3])), (39, (8, 1, 0, [0])), (40, (6, 1, 0, [1])), (41, (6, 1, 0, [2])), (42, (1, 2, 10, [])), (44, (23, 1, 0, [])), (45, (6, 1, 0, [2])), (46, (1, 2, 10, [])), (48, (24, 1, 0, [])), (49, (76, 3, 0, [189, 4, 0, 30, 291, 6024])), (52, (8, 1, 0, [0])), (53, (52, 3, 17, [10, 25, 1005, 60, 4173])), (56, (0, 1, 3, [])), (57, (43, 1, 0, [])), (58, (60, 1, 0, [])), (59, (0, 1, 1, [])), (60, (20, 1, 0, [])), (61, (61, 1, 0, [])), (62, (6, 1, 0, [3])), (63, (90, 1, 0, []))]
/-- EiderClimateModel.led(I)I -/
def mc_206 : List (Nat × mI) := [(0, (6, 1, 0, [1])), (1, (0, 1, 0, [])), (2, (0, 1, 4, [])), (3, (77, 3, 0, [133, 3, 1, 0, 103, 5048])), (6, (100, 3, 0, [18])), (9, (8, 1, 0, [0])), (10, (52, 3, 17, [10, 25, 1005, 60, 4173])), (13, (6, 1, 0, [1])), (14, (60, 1, 0, [])), (15, (48, 3, 0, [19])), (18, (0, 1, (-1), [])), (19, (90, 1, 0, []))]
/-- EiderClimateModel.image()I -/
def mc_207 : List (Nat × mI) := [(0, (8, 1, 0, [0])), (1, (0, 1, 1, [])), (2, (57, 3, 0, [10, 26, 0, 313, 4174])), (5, (8, 1, 0, [0])), (6, (8, 1, 0, [0])), (7, (52, 3, 18, [10, 27, 1092, 63, 4175])), (10, (76, 3, 0, [178, 2, 0, 30, 257, 5164])), (13, (0, 1, 0, [])), (14, (12, 1, 0, [1])), (15, (6, 1, 0, [1])), (16, (0, 1, 5, [])), (17, (113, 3, 0, [38])), (20, (8, 1, 0, [0])), (21, (52, 3, 19, [10, 28, 1005, 66, 4176])), (24, (6, 1, 0, [1])), (25, (8, 1, 0, [0])), (26, (52, 3, 17, [10, 25, 1005, 60, 4173])), (29, (6, 1, 0, [1])), (30, (60, 1, 0, [])), (31, (61, 1, 0, [])), (32, (17, 3, 1, [1])), (35, (48, 3, 0, [15])), (38, (8, 1, 0, [0])), (39, (52, 3, 17, [10, 25, 1005, 60, 4173])), (42, (0, 1, 0, [])), (43, (60, 1, 0, [])), (44, (90, 1, 0, []))]
/-- EiderClimateModel.back()I -/
def mc_208 : List (Nat × mI) := [(0, (8, 1, 0, [0])), (1, (51, 3, 0, [10, 26, 0, 313, 4174])), (4, (101, 3, 0, [10])), (7, (1, 2, (-5), [])), (9, (90, 1, 0, [])), (10, (8, 1, 0, [0])), (11, (8, 1, 0, [0])), (12, (52, 3, 18, [10, 27, 1092, 63, 4175])), (15, (76, 3, 0, [179, 2, 0, 30, 265, 5208])), (18, (0, 1, 0, [])), (19, (12, 1, 0, [1])), (20, (6, 1, 0, [1])), (21, (0, 1, 5, [])), (22, (113, 3, 0, [43])), (25, (8, 1, 0, [0])), (26, (52, 3, 17, [10, 25, 1005, 60, 4173])), (29, (6, 1, 0, [1])), (30, (8, 1, 0, [0])), (31, (52, 3, 19, [10, 28, 1005, 66, 4176])), (34, (6, 1, 0, [1])), (35, (60, 1, 0, [])), (36, (61, 1, 0, [])), (37, (17, 3, 1, [1])), (40, (48, 3, 0, [20])), (43, (8, 1, 0, [0])), (44, (52, 3, 17, [10, 25, 1005, 60, 4173])), (47, (0, 1, 0, [])), (48, (60, 1, 0, [])), (49, (90, 1, 0, []))]
/-- EiderClimateModel.above(I)I -/
def mc_209 : List (Nat × mI) := [(0, (6, 1, 0, [0])), (1, (49, 35, 0, [44, 3, 36, 4, 38, 5, 40, 6, 44, 7, 42])), (36, (0, 1, 2, [])), (37, (90, 1, 0, [])), (38, (0, 1, 1, [])), (39, (90, 1, 0, [])), (40, (0, 1, 3, [])), (41, (90, 1, 0, [])), (42, (0, 1, 4, [])), (43, (90, 1, 0, [])), (44, (0, 1, 0, [])), (45, (90, 1, 0, []))]
/-- EiderClimateModel.ran(I)V -/
def mc_210 : List (Nat × mI) := [(0, (8, 1, 0, [0])), (1, (51, 3, 0, [10, 34, 0, 316, 4182])), (4, (1, 2, 24, [])), (6, (113, 3, 0, [19])), (9, (8, 1, 0, [0])), (10, (52, 3, 22, [10, 35, 1024, 75, 4183])), (13, (8, 1, 0, [0])), (14, (51, 3, 0, [10, 34, 0, 316, 4182])), (17, (6, 1, 0, [1])), (18, (61, 1, 0, [])), (19, (8, 1, 0, [0])), (20, (42, 1, 0, [])), (21, (51, 3, 0, [10, 34, 0, 316, 4182])), (24, (0, 1, 1, [])), (25, (20, 1, 0, [])), (26, (54, 3, 0, [10, 34, 0, 316, 4182])), (29, (93, 1, 0, []))]
/-- EiderClimateModel.warmsBy(III)I -/
def mc_211 : List (Nat × mI) := [(0, (6, 1, 0, [2])), (1, (50, 35, 0, [77, 0, 36, 1, 45, 6, 61])), (36, (8, 1, 0, [0])), (37, (0, 1, 1, [])), (38, (76, 3, 0, [210, 2, 0, 30, 319, 6114])), (41, (6, 1, 0, [3])), (42, (6, 1, 0, [1])), (43, (20, 1, 0, [])), (44, (90, 1, 0, [])), (45, (8, 1, 0, [0])), (46, (1, 2, 20, [])), (48, (76, 3, 0, [210, 2, 0, 30, 319, 6114])), (51, (8, 1, 0, [0])), (52, (6, 1, 0, [1])), (53, (0, 1, 0, [])), (54, (6, 1, 0, [3])), (55, (76, 3, 0, [211, 4, 1, 30, 322, 6110])), (58, (0, 1, 3, [])), (59, (20, 1, 0, [])), (60, (90, 1, 0, [])), (61, (8, 1, 0, [0])), (62, (1, 2, 70, [])), (64, (76, 3, 0, [210, 2, 0, 30, 319, 6114])), (67, (8, 1, 0, [0])), (68, (6, 1, 0, [1])), (69, (0, 1, 0, [])), (70, (6, 1, 0, [3])), (71, (76, 3, 0, [211, 4, 1, 30, 322, 6110])), (74, (0, 1, 2, [])), (75, (22, 1, 0, [])), (76, (90, 1, 0, [])), (77, (8, 1, 0, [0])), (78, (6, 1, 0, [1])), (79, (6, 1, 0, [2])), (80, (77, 3, 0, [209, 1, 1, 0, 325, 6118])), (83, (6, 1, 0, [3])), (84, (76, 3, 0, [211, 4, 1, 30, 322, 6110])), (87, (90, 1, 0, []))]
/-- EiderClimateModel.slipsBy(III)I -/
def mc_212 : List (Nat × mI) := [(0, (6, 1, 0, [2])), (1, (49, 47, 0, [131, 0, 48, 1, 131, 2, 69, 3, 84, 4, 131, 5, 131, 6, 131, 7, 100])), (48, (8, 1, 0, [0])), (49, (1, 2, 10, [])), (51, (76, 3, 0, [210, 2, 0, 30, 319, 6114])), (54, (8, 1, 0, [0])), (55, (6, 1, 0, [1])), (56, (8, 1, 0, [0])), (57, (52, 3, 21, [10, 33, 1050, 72, 4181])), (60, (6, 1, 0, [1])), (61, (60, 1, 0, [])), (62, (6, 1, 0, [3])), (63, (76, 3, 0, [211, 4, 1, 30, 322, 6110])), (66, (0, 1, 2, [])), (67, (22, 1, 0, [])), (68, (90, 1, 0, [])), (69, (8, 1, 0, [0])), (70, (1, 2, 30, [])), (72, (76, 3, 0, [210, 2, 0, 30, 319, 6114])), (75, (8, 1, 0, [0])), (76, (6, 1, 0, [1])), (77, (0, 1, 0, [])), (78, (6, 1, 0, [3])), (79, (76, 3, 0, [212, 4, 1, 30, 328, 6121])), (82, (25, 1, 0, [])), (83, (90, 1, 0, [])), (84, (8, 1, 0, [0])), (85, (1, 2, 41, [])), (87, (76, 3, 0, [210, 2, 0, 30, 319, 6114])), (90, (8, 1, 0, [0])), (91, (6, 1, 0, [1])), (92, (0, 1, 2, [])), (93, (6, 1, 0, [3])), (94, (0, 1, 1, [])), (95, (20, 1, 0, [])), (96, (76, 3, 0, [212, 4, 1, 30, 328, 6121])), (99, (90, 1, 0, [])), (100, (8, 1, 0, [0])), (101, (1, 2, 80, [])), (103, (76, 3, 0, [210, 2, 0, 30, 319, 6114])), (106, (8, 1, 0, [0])), (107, (6, 1, 0, [1])), (108, (0, 1, 4, [])), (109, (6, 1, 0, [3])), (110, (76, 3, 0, [212, 4, 1, 30, 328, 6121])), (113, (13, 2, 0, [4])), (115, (7, 2, 0, [4])), (117, (8, 1, 0, [0])), (118, (6, 1, 0, [1])), (119, (8, 1, 0, [0])), (120, (52, 3, 21, [10, 33, 1050, 72, 4181])), (123, (6, 1, 0, [1])), (124, (60, 1, 0, [])), (125, (0, 1, 2, [])), (126, (76, 3, 0, [213, 4, 1, 30, 331, 6125])), (129, (20, 1, 0, [])), (130, (90, 1, 0, [])), (131, (8, 1, 0, [0])), (132, (6, 1, 0, [1])), (133, (6, 1, 0, [2])), (134, (77, 3, 0, [209, 1, 1, 0, 325, 6118])), (137, (6, 1, 0, [3])), (138, (76, 3, 0, [212, 4, 1, 30, 328, 6121])), (141, (90, 1, 0, []))]
/-- EiderClimateModel.airsBy(III)I -/
def mc_213 : List (Nat × mI) := [(0, (6, 1, 0, [2])), (1, (49, 35, 0, [93, 0, 36, 1, 93, 2, 93, 3, 46, 4, 62])), (36, (8, 1, 0, [0])), (37, (1, 2, 11, [])), (39, (76, 3, 0, [210, 2, 0, 30, 319, 6114])), (42, (6, 1, 0, [3])), (43, (6, 1, 0, [1])), (44, (28, 1, 0, [])), (45, (90, 1, 0, [])), (46, (8, 1, 0, [0])), (47, (1, 2, 40, [])), (49, (76, 3, 0, [210, 2, 0, 30, 319, 6114])), (52, (8, 1, 0, [0])), (53, (6, 1, 0, [1])), (54, (0, 1, 2, [])), (55, (6, 1, 0, [3])), (56, (76, 3, 0, [213, 4, 1, 30, 331, 6125])), (59, (0, 1, 3, [])), (60, (22, 1, 0, [])), (61, (90, 1, 0, [])), (62, (8, 1, 0, [0])), (63, (1, 2, 50, [])), (65, (76, 3, 0, [210, 2, 0, 30, 319, 6114])), (68, (8, 1, 0, [0])), (69, (6, 1, 0, [1])), (70, (0, 1, 1, [])), (71, (6, 1, 0, [3])), (72, (76, 3, 0, [213, 4, 1, 30, 331, 6125])), (75, (13, 2, 0, [4])), (77, (7, 2, 0, [4])), (79, (8, 1, 0, [0])), (80, (6, 1, 0, [1])), (81, (8, 1, 0, [0])), (82, (52, 3, 21, [10, 33, 1050, 72, 4181])), (85, (6, 1, 0, [1])), (86, (60, 1, 0, [])), (87, (0, 1, 2, [])), (88, (76, 3, 0, [211, 4, 1, 30, 322, 6110])), (91, (21, 1, 0, [])), (92, (90, 1, 0, [])), (93, (8, 1, 0, [0])), (94, (6, 1, 0, [1])), (95, (6, 1, 0, [2])), (96, (77, 3, 0, [209, 1, 1, 0, 325, 6118])), (99, (6, 1, 0, [3])), (100, (76, 3, 0, [213, 4, 1, 30, 331, 6125])), (103, (90, 1, 0, []))]
/-- EiderClimateModel.tells(III)I -/
def mc_214 : List (Nat × mI) := [(0, (6, 1, 0, [2])), (1, (50, 35, 0, [103, 0, 36, 5, 71, 7, 87])), (36, (8, 1, 0, [0])), (37, (0, 1, 2, [])), (38, (76, 3, 0, [210, 2, 0, 30, 319, 6114])), (41, (8, 1, 0, [0])), (42, (6, 1, 0, [1])), (43, (8, 1, 0, [0])), (44, (52, 3, 21, [10, 33, 1050, 72, 4181])), (47, (6, 1, 0, [1])), (48, (60, 1, 0, [])), (49, (6, 1, 0, [3])), (50, (76, 3, 0, [212, 4, 1, 30, 328, 6121])), (53, (13, 2, 0, [4])), (55, (7, 2, 0, [4])), (57, (8, 1, 0, [0])), (58, (6, 1, 0, [1])), (59, (8, 1, 0, [0])), (60, (52, 3, 21, [10, 33, 1050, 72, 4181])), (63, (6, 1, 0, [1])), (64, (60, 1, 0, [])), (65, (0, 1, 1, [])), (66, (76, 3, 0, [213, 4, 1, 30, 331, 6125])), (69, (21, 1, 0, [])), (70, (90, 1, 0, [])), (71, (8, 1, 0, [0])), (72, (1, 2, 60, [])), (74, (76, 3, 0, [210, 2, 0, 30, 319, 6114])), (77, (8, 1, 0, [0])), (78, (6, 1, 0, [1])), (79, (0, 1, 3, [])), (80, (6, 1, 0, [3])), (81, (76, 3, 0, [214, 4, 1, 30, 334, 6129])), (84, (0, 1, 5, [])), (85, (28, 1, 0, [])), (86, (90, 1, 0, [])), (87, (8, 1, 0, [0])), (88, (1, 2, 81, [])), (90, (76, 3, 0, [210, 2, 0, 30, 319, 6114])), (93, (8, 1, 0, [0])), (94, (6, 1, 0, [1])), (95, (0, 1, 4, [])), (96, (6, 1, 0, [3])), (97, (76, 3, 0, [214, 4, 1, 30, 334, 6129])), (100, (0, 1, 1, [])), (101, (21, 1, 0, [])), (102, (90, 1, 0, [])), (103, (8, 1, 0, [0])), (104, (6, 1, 0, [1])), (105, (6, 1, 0, [2])), (106, (77, 3, 0, [209, 1, 1, 0, 325, 6118])), (109, (6, 1, 0, [3])), (110, (76, 3, 0, [214, 4, 1, 30, 334, 6129])), (113, (90, 1, 0, []))]
/-- EiderClimateModel.body(I)I -/
def mc_215 : List (Nat × mI) := [(0, (6, 1, 0, [1])), (1, (0, 1, 0, [])), (2, (1, 2, 7, [])), (4, (77, 3, 0, [133, 3, 1, 0, 103, 5048])), (7, (101, 3, 0, [12])), (10, (0, 1, (-1), [])), (11, (90, 1, 0, [])), (12, (8, 1, 0, [0])), (13, (51, 3, 0, [10, 32, 0, 337, 4180])), (16, (1, 2, 50, [])), (18, (111, 3, 0, [24])), (21, (1, 2, (-3), [])), (23, (90, 1, 0, [])), (24, (8, 1, 0, [0])), (25, (52, 3, 21, [10, 33, 1050, 72, 4181])), (28, (8, 1, 0, [0])), (29, (51, 3, 0, [10, 32, 0, 337, 4180])), (32, (6, 1, 0, [1])), (33, (61, 1, 0, [])), (34, (8, 1, 0, [0])), (35, (42, 1, 0, [])), (36, (51, 3, 0, [10, 32, 0, 337, 4180])), (39, (44, 1, 0, [])), (40, (0, 1, 1, [])), (41, (20, 1, 0, [])), (42, (54, 3, 0, [10, 32, 0, 337, 4180])), (45, (90, 1, 0, []))]
/-- EiderClimateModel.act(III)I -/
def mc_216 : List (Nat × mI) := [(0, (8, 1, 0, [0])), (1, (0, 1, 0, [])), (2, (54, 3, 0, [10, 34, 0, 316, 4182])), (5, (6, 1, 0, [1])), (6, (0, 1, 0, [])), (7, (8, 1, 0, [0])), (8, (51, 3, 0, [10, 32, 0, 337, 4180])), (11, (0, 1, 1, [])), (12, (21, 1, 0, [])), (13, (77, 3, 0, [133, 3, 1, 0, 103, 5048])), (16, (100, 3, 0, [28])), (19, (6, 1, 0, [2])), (20, (0, 1, 0, [])), (21, (0, 1, 3, [])), (22, (77, 3, 0, [133, 3, 1, 0, 103, 5048])), (25, (101, 3, 0, [30])), (28, (0, 1, 0, [])), (29, (90, 1, 0, [])), (30, (8, 1, 0, [0])), (31, (52, 3, 21, [10, 33, 1050, 72, 4181])), (34, (6, 1, 0, [1])), (35, (60, 1, 0, [])), (36, (13, 2, 0, [4])), (38, (6, 1, 0, [2])), (39, (101, 3, 0, [53])), (42, (8, 1, 0, [0])), (43, (6, 1, 0, [1])), (44, (7, 2, 0, [4])), (46, (6, 1, 0, [3])), (47, (76, 3, 0, [211, 4, 1, 30, 322, 6110])), (50, (48, 3, 0, [93])), (53, (6, 1, 0, [2])), (54, (0, 1, 1, [])), (55, (111, 3, 0, [69])), (58, (8, 1, 0, [0])), (59, (6, 1, 0, [1])), (60, (7, 2, 0, [4])), (62, (6, 1, 0, [3])), (63, (76, 3, 0, [212, 4, 1, 30, 328, 6121])), (66, (48, 3, 0, [93])), (69, (6, 1, 0, [2])), (70, (0, 1, 2, [])), (71, (111, 3, 0, [85])), (74, (8, 1, 0, [0])), (75, (6, 1, 0, [1])), (76, (7, 2, 0, [4])), (78, (6, 1, 0, [3])), (79, (76, 3, 0, [213, 4, 1, 30, 331, 6125])), (82, (48, 3, 0, [93])), (85, (8, 1, 0, [0])), (86, (6, 1, 0, [1])), (87, (7, 2, 0, [4])), (89, (6, 1, 0, [3])), (90, (76, 3, 0, [214, 4, 1, 30, 334, 6129])), (93, (90, 1, 0, []))]
/-- EiderClimateModel.trace(I)I -/
def mc_217 : List (Nat × mI) := [(0, (6, 1, 0, [1])), (1, (0, 1, 0, [])), (2, (1, 2, 24, [])), (4, (8, 1, 0, [0])), (5, (51, 3, 0, [10, 34, 0, 316, 4182])), (8, (81, 3, 0, [227, 5206])), (11, (0, 1, 1, [])), (12, (21, 1, 0, [])), (13, (77, 3, 0, [133, 3, 1, 0, 103, 5048])), (16, (100, 3, 0, [28])), (19, (8, 1, 0, [0])), (20, (52, 3, 22, [10, 35, 1024, 75, 4183])), (23, (6, 1, 0, [1])), (24, (60, 1, 0, [])), (25, (48, 3, 0, [29])), (28, (0, 1, (-1), [])), (29, (90, 1, 0, []))]
/-- EiderClimateModel.keep(II)I -/
def mc_218 : List (Nat × mI) := [(0, (6, 1, 0, [1])), (1, (77, 3, 0, [137, 1, 1, 0, 119, 5059])), (4, (100, 3, 0, [21])), (7, (6, 1, 0, [2])), (8, (0, 1, (-1), [])), (9, (8, 1, 0, [0])), (10, (51, 3, 0, [10, 32, 0, 337, 4180])), (13, (0, 1, 1, [])), (14, (21, 1, 0, [])), (15, (77, 3, 0, [133, 3, 1, 0, 103, 5048])), (18, (101, 3, 0, [23])), (21, (0, 1, (-1), [])), (22, (90, 1, 0, [])), (23, (8, 1, 0, [0])), (24, (52, 3, 23, [10, 36, 1006, 78, 4184])), (27, (6, 1, 0, [1])), (28, (6, 1, 0, [2])), (29, (103, 3, 0, [36])), (32, (0, 1, (-1), [])), (33, (48, 3, 0, [40])), (36, (1, 2, 10, [])), (38, (6, 1, 0, [2])), (39, (20, 1, 0, [])), (40, (61, 1, 0, [])), (41, (8, 1, 0, [0])), (42, (52, 3, 24, [10, 37, 1006, 81, 4185])), (45, (6, 1, 0, [1])), (46, (0, 1, 0, [])), (47, (61, 1, 0, [])), (48, (0, 1, 1, [])), (49, (90, 1, 0, []))]
/-- EiderClimateModel.row(III)I -/
def mc_219 : List (Nat × mI) := [(0, (6, 1, 0, [1])), (1, (77, 3, 0, [137, 1, 1, 0, 119, 5059])), (4, (100, 3, 0, [22])), (7, (6, 1, 0, [2])), (8, (0, 1, 0, [])), (9, (0, 1, 4, [])), (10, (77, 3, 0, [133, 3, 1, 0, 103, 5048])), (13, (100, 3, 0, [22])), (16, (6, 1, 0, [3])), (17, (1, 2, 60, [])), (19, (115, 3, 0, [24])), (22, (0, 1, (-1), [])), (23, (90, 1, 0, [])), (24, (6, 1, 0, [3])), (25, (103, 3, 0, [31])), (28, (1, 2, (-14), [])), (30, (90, 1, 0, [])), (31, (8, 1, 0, [0])), (32, (52, 3, 23, [10, 36, 1006, 78, 4184])), (35, (6, 1, 0, [1])), (36, (6, 1, 0, [2])), (37, (61, 1, 0, [])), (38, (8, 1, 0, [0])), (39, (52, 3, 24, [10, 37, 1006, 81, 4185])), (42, (6, 1, 0, [1])), (43, (6, 1, 0, [3])), (44, (61, 1, 0, [])), (45, (0, 1, 0, [])), (46, (13, 2, 0, [4])), (48, (7, 2, 0, [4])), (50, (1, 2, 60, [])), (52, (113, 3, 0, [74])), (55, (8, 1, 0, [0])), (56, (52, 3, 25, [10, 38, 3360, 84, 4186])), (59, (1, 2, 60, [])), (61, (6, 1, 0, [1])), (62, (22, 1, 0, [])), (63, (7, 2, 0, [4])), (65, (20, 1, 0, [])), (66, (4, 1, 0, [])), (67, (63, 1, 0, [])), (68, (17, 3, 1, [4])), (71, (48, 3, 0, [48])), (74, (0, 1, 1, [])), (75, (90, 1, 0, []))]
/-- EiderClimateModel.isRow(I)Z -/
def mc_220 : List (Nat × mI) := [(0, (8, 1, 0, [0])), (1, (52, 3, 23, [10, 36, 1006, 78, 4184])), (4, (6, 1, 0, [1])), (5, (60, 1, 0, [])), (6, (0, 1, 0, [])), (7, (0, 1, 4, [])), (8, (77, 3, 0, [133, 3, 1, 0, 103, 5048])), (11, (94, 1, 0, []))]
/-- EiderClimateModel.kept(IJ)J -/
def mc_221 : List (Nat × mI) := [(0, (6, 1, 0, [0])), (1, (49, 31, 0, [48, 0, 32, 1, 37, 2, 42, 3, 46])), (32, (10, 1, 0, [1])), (33, (39, 1, 0, [])), (34, (40, 1, 0, [])), (35, (38, 1, 0, [])), (36, (91, 1, 0, [])), (37, (10, 1, 0, [1])), (38, (39, 1, 0, [])), (39, (41, 1, 0, [])), (40, (38, 1, 0, [])), (41, (91, 1, 0, [])), (42, (10, 1, 0, [1])), (43, (39, 1, 0, [])), (44, (38, 1, 0, [])), (45, (91, 1, 0, [])), (46, (10, 1, 0, [1])), (47, (91, 1, 0, [])), (48, (10, 1, 0, [1])), (49, (4, 1, 0, [])), (50, (37, 1, 0, [])), (51, (100, 3, 0, [58])), (54, (4, 1, 1, [])), (55, (48, 3, 0, [59])), (58, (4, 1, 0, [])), (59, (91, 1, 0, []))]
/-- EiderClimateModel.put(IIJ)I -/
def mc_222 : List (Nat × mI) := [(0, (6, 1, 0, [1])), (1, (77, 3, 0, [137, 1, 1, 0, 119, 5059])), (4, (101, 3, 0, [9])), (7, (0, 1, (-1), [])), (8, (90, 1, 0, [])), (9, (8, 1, 0, [0])), (10, (52, 3, 23, [10, 36, 1006, 78, 4184])), (13, (6, 1, 0, [1])), (14, (60, 1, 0, [])), (15, (0, 1, (-1), [])), (16, (111, 3, 0, [22])), (19, (1, 2, (-11), [])), (21, (90, 1, 0, [])), (22, (8, 1, 0, [0])), (23, (6, 1, 0, [1])), (24, (76, 3, 0, [220, 2, 1, 30, 340, 6149])), (27, (101, 3, 0, [33])), (30, (1, 2, (-12), [])), (32, (90, 1, 0, [])), (33, (6, 1, 0, [2])), (34, (0, 1, 0, [])), (35, (8, 1, 0, [0])), (36, (52, 3, 24, [10, 37, 1006, 81, 4185])), (39, (6, 1, 0, [1])), (40, (60, 1, 0, [])), (41, (0, 1, 1, [])), (42, (21, 1, 0, [])), (43, (77, 3, 0, [133, 3, 1, 0, 103, 5048])), (46, (101, 3, 0, [52])), (49, (1, 2, (-13), [])), (51, (90, 1, 0, [])), (52, (8, 1, 0, [0])), (53, (52, 3, 25, [10, 38, 3360, 84, 4186])), (56, (1, 2, 60, [])), (58, (6, 1, 0, [1])), (59, (22, 1, 0, [])), (60, (6, 1, 0, [2])), (61, (20, 1, 0, [])), (62, (8, 1, 0, [0])), (63, (52, 3, 23, [10, 36, 1006, 78, 4184])), (66, (6, 1, 0, [1])), (67, (60, 1, 0, [])), (68, (10, 1, 0, [3])), (69, (77, 3, 0, [221, 2, 2, 0, 343, 6153])), (72, (63, 1, 0, [])), (73, (0, 1, 1, [])), (74, (90, 1, 0, []))]
/-- EiderClimateModel.element(II)J -/
def mc_223 : List (Nat × mI) := [(0, (6, 1, 0, [1])), (1, (77, 3, 0, [137, 1, 1, 0, 119, 5059])), (4, (100, 3, 0, [45])), (7, (8, 1, 0, [0])), (8, (6, 1, 0, [1])), (9, (76, 3, 0, [220, 2, 1, 30, 340, 6149])), (12, (100, 3, 0, [45])), (15, (6, 1, 0, [2])), (16, (0, 1, 0, [])), (17, (8, 1, 0, [0])), (18, (52, 3, 24, [10, 37, 1006, 81, 4185])), (21, (6, 1, 0, [1])), (22, (60, 1, 0, [])), (23, (0, 1, 1, [])), (24, (21, 1, 0, [])), (25, (77, 3, 0, [133, 3, 1, 0, 103, 5048])), (28, (100, 3, 0, [45])), (31, (8, 1, 0, [0])), (32, (52, 3, 25, [10, 38, 3360, 84, 4186])), (35, (1, 2, 60, [])), (37, (6, 1, 0, [1])), (38, (22, 1, 0, [])), (39, (6, 1, 0, [2])), (40, (20, 1, 0, [])), (41, (62, 1, 0, [])), (42, (48, 3, 0, [48])), (45, (5, 3, (-9223372036854775808), [347, 6160])), (48, (91, 1, 0, []))]
/-- EiderClimateModel.shift(IIIII)I -/
def mc_224 : List (Nat × mI) := [(0, (6, 1, 0, [1])), (1, (77, 3, 0, [137, 1, 1, 0, 119, 5059])), (4, (100, 3, 0, [14])), (7, (6, 1, 0, [3])), (8, (77, 3, 0, [137, 1, 1, 0, 119, 5059])), (11, (101, 3, 0, [16])), (14, (0, 1, (-1), [])), (15, (90, 1, 0, [])), (16, (8, 1, 0, [0])), (17, (52, 3, 23, [10, 36, 1006, 78, 4184])), (20, (6, 1, 0, [1])), (21, (60, 1, 0, [])), (22, (0, 1, (-1), [])), (23, (110, 3, 0, [36])), (26, (8, 1, 0, [0])), (27, (52, 3, 23, [10, 36, 1006, 78, 4184])), (30, (6, 1, 0, [3])), (31, (60, 1, 0, [])), (32, (0, 1, (-1), [])), (33, (111, 3, 0, [39])), (36, (1, 2, (-11), [])), (38, (90, 1, 0, [])), (39, (8, 1, 0, [0])), (40, (6, 1, 0, [1])), (41, (76, 3, 0, [220, 2, 1, 30, 340, 6149])), (44, (100, 3, 0, [70])), (47, (8, 1, 0, [0])), (48, (6, 1, 0, [3])), (49, (76, 3, 0, [220, 2, 1, 30, 340, 6149])), (52, (100, 3, 0, [70])), (55, (8, 1, 0, [0])), (56, (52, 3, 23, [10, 36, 1006, 78, 4184])), (59, (6, 1, 0, [1])), (60, (60, 1, 0, [])), (61, (8, 1, 0, [0])), (62, (52, 3, 23, [10, 36, 1006, 78, 4184])), (65, (6, 1, 0, [3])), (66, (60, 1, 0, [])), (67, (110, 3, 0, [73])), (70, (1, 2, (-12), [])), (72, (90, 1, 0, [])), (73, (7, 2, 0, [5])), (75, (102, 3, 0, [122])), (78, (6, 1, 0, [2])), (79, (102, 3, 0, [122])), (82, (7, 2, 0, [4])), (84, (102, 3, 0, [122])), (87, (6, 1, 0, [2])), (88, (38, 1, 0, [])), (89, (7, 2, 0, [5])), (91, (38, 1, 0, [])), (92, (32, 1, 0, [])), (93, (8, 1, 0, [0])), (94, (52, 3, 24, [10, 37, 1006, 81, 4185])), (97, (6, 1, 0, [1])), (98, (60, 1, 0, [])), (99, (38, 1, 0, [])), (100, (37, 1, 0, [])), (101, (104, 3, 0, [122])), (104, (7, 2, 0, [4])), (106, (38, 1, 0, [])), (107, (7, 2, 0, [5])), (109, (38, 1, 0, [])), (110, (32, 1, 0, [])), (111, (8, 1, 0, [0])), (112, (52, 3, 24, [10, 37, 1006, 81, 4185])), (115, (6, 1, 0, [3])), (116, (60, 1, 0, [])), (117, (38, 1, 0, [])), (118, (37, 1, 0, [])), (119, (105, 3, 0, [125])), (122, (1, 2, (-13), [])), (124, (90, 1, 0, [])), (125, (6, 1, 0, [1])), (126, (6, 1, 0, [3])), (127, (111, 3, 0, [185])), (130, (6, 1, 0, [2])), (131, (7, 2, 0, [4])), (133, (113, 3, 0, [185])), (136, (7, 2, 0, [5])), (138, (0, 1, 1, [])), (139, (21, 1, 0, [])), (140, (13, 2, 0, [6])), (142, (7, 2, 0, [6])), (144, (102, 3, 0, [182])), (147, (8, 1, 0, [0])), (148, (52, 3, 25, [10, 38, 3360, 84, 4186])), (151, (1, 2, 60, [])), (153, (6, 1, 0, [3])), (154, (22, 1, 0, [])), (155, (7, 2, 0, [4])), (157, (20, 1, 0, [])), (158, (7, 2, 0, [6])), (160, (20, 1, 0, [])), (161, (8, 1, 0, [0])), (162, (52, 3, 25, [10, 38, 3360, 84, 4186])), (165, (1, 2, 60, [])), (167, (6, 1, 0, [1])), (168, (22, 1, 0, [])), (169, (6, 1, 0, [2])), (170, (20, 1, 0, [])), (171, (7, 2, 0, [6])), (173, (20, 1, 0, [])), (174, (62, 1, 0, [])), (175, (63, 1, 0, [])), (176, (17, 3, (-1), [6])), (179, (48, 3, 0, [142])), (182, (48, 3, 0, [230])), (185, (0, 1, 0, [])), (186, (13, 2, 0, [6])), (188, (7, 2, 0, [6])), (190, (7, 2, 0, [5])), (192, (113, 3, 0, [230])), (195, (8, 1, 0, [0])), (196, (52, 3, 25, [10, 38, 3360, 84, 4186])), (199, (1, 2, 60, [])), (201, (6, 1, 0, [3])), (202, (22, 1, 0, [])), (203, (7, 2, 0, [4])), (205, (20, 1, 0, [])), (206, (7, 2, 0, [6])), (208, (20, 1, 0, [])), (209, (8, 1, 0, [0])), (210, (52, 3, 25, [10, 38, 3360, 84, 4186])), (213, (1, 2, 60, [])), (215, (6, 1, 0, [1])), (216, (22, 1, 0, [])), (217, (6, 1, 0, [2])), (218, (20, 1, 0, [])), (219, (7, 2, 0, [6])), (221, (20, 1, 0, [])), (222, (62, 1, 0, [])), (223, (63, 1, 0, [])), (224, (17, 3, 1, [6])), (227, (48, 3, 0, [188])), (230, (7, 2, 0, [5])), (232, (90, 1, 0, []))]
/-- EiderClimateModel.taken(II)I -/
def mc_225 : List (Nat × mI) := [(0, (6, 1, 0, [1])), (1, (77, 3, 0, [137, 1, 1, 0, 119, 5059])), (4, (100, 3, 0, [17])), (7, (6, 1, 0, [2])), (8, (0, 1, 0, [])), (9, (1, 2, 7, [])), (11, (77, 3, 0, [133, 3, 1, 0, 103, 5048])), (14, (101, 3, 0, [19])), (17, (0, 1, (-1), [])), (18, (90, 1, 0, [])), (19, (8, 1, 0, [0])), (20, (52, 3, 23, [10, 36, 1006, 78, 4184])), (23, (6, 1, 0, [1])), (24, (60, 1, 0, [])), (25, (0, 1, (-1), [])), (26, (111, 3, 0, [32])), (29, (1, 2, (-11), [])), (31, (90, 1, 0, [])), (32, (8, 1, 0, [0])), (33, (6, 1, 0, [1])), (34, (76, 3, 0, [220, 2, 1, 30, 340, 6149])), (37, (100, 3, 0, [43])), (40, (1, 2, (-12), [])), (42, (90, 1, 0, [])), (43, (8, 1, 0, [0])), (44, (52, 3, 21, [10, 33, 1050, 72, 4181])), (47, (8, 1, 0, [0])), (48, (52, 3, 23, [10, 36, 1006, 78, 4184])), (51, (6, 1, 0, [1])), (52, (60, 1, 0, [])), (53, (1, 2, 10, [])), (55, (21, 1, 0, [])), (56, (60, 1, 0, [])), (57, (12, 1, 0, [3])), (58, (6, 1, 0, [3])), (59, (13, 2, 0, [4])), (61, (7, 2, 0, [4])), (63, (6, 1, 0, [2])), (64, (110, 3, 0, [82])), (67, (7, 2, 0, [4])), (69, (105, 3, 0, [82])), (72, (7, 2, 0, [4])), (74, (77, 3, 0, [209, 1, 1, 0, 325, 6118])), (77, (13, 2, 0, [4])), (79, (48, 3, 0, [61])), (82, (7, 2, 0, [4])), (84, (6, 1, 0, [2])), (85, (111, 3, 0, [92])), (88, (6, 1, 0, [3])), (89, (48, 3, 0, [94])), (92, (1, 2, (-12), [])), (94, (90, 1, 0, []))]
/-- EiderClimateModel.count(I)I -/
def mc_226 : List (Nat × mI) := [(0, (0, 1, 0, [])), (1, (12, 1, 0, [2])), (2, (6, 1, 0, [1])), (3, (49, 37, 0, [93, 0, 40, 1, 45, 2, 73, 3, 78, 4, 83, 5, 88])), (40, (8, 1, 0, [0])), (41, (51, 3, 0, [10, 3, 0, 107, 4151])), (44, (90, 1, 0, [])), (45, (0, 1, 0, [])), (46, (12, 1, 0, [3])), (47, (6, 1, 0, [3])), (48, (1, 2, 30, [])), (50, (113, 3, 0, [71])), (53, (8, 1, 0, [0])), (54, (52, 3, 2, [10, 1, 1030, 15, 4149])), (57, (6, 1, 0, [3])), (58, (60, 1, 0, [])), (59, (105, 3, 0, [65])), (62, (17, 3, 1, [2])), (65, (17, 3, 1, [3])), (68, (48, 3, 0, [47])), (71, (6, 1, 0, [2])), (72, (90, 1, 0, [])), (73, (8, 1, 0, [0])), (74, (51, 3, 0, [10, 7, 0, 151, 4155])), (77, (90, 1, 0, [])), (78, (8, 1, 0, [0])), (79, (51, 3, 0, [10, 30, 0, 145, 4178])), (82, (90, 1, 0, [])), (83, (8, 1, 0, [0])), (84, (51, 3, 0, [10, 32, 0, 337, 4180])), (87, (90, 1, 0, [])), (88, (8, 1, 0, [0])), (89, (51, 3, 0, [10, 34, 0, 316, 4182])), (92, (90, 1, 0, [])), (93, (0, 1, (-1), [])), (94, (90, 1, 0, []))]
/-- java/lang/Integer.numberOfTrailingZeros(I)I -/
def mc_227 : List (Nat × mI) := [(0, (6, 1, 0, [0])), (1, (0, 1, (-1), [])), (2, (28, 1, 0, [])), (3, (6, 1, 0, [0])), (4, (0, 1, 1, [])), (5, (21, 1, 0, [])), (6, (26, 1, 0, [])), (7, (12, 1, 0, [0])), (8, (6, 1, 0, [0])), (9, (104, 3, 0, [17])), (12, (6, 1, 0, [0])), (13, (1, 2, 32, [])), (15, (26, 1, 0, [])), (16, (90, 1, 0, [])), (17, (0, 1, 1, [])), (18, (12, 1, 0, [1])), (19, (6, 1, 0, [0])), (20, (3, 3, 65536, [264, 3173])), (23, (115, 3, 0, [34])), (26, (17, 3, 16, [1])), (29, (6, 1, 0, [0])), (30, (1, 2, 16, [])), (32, (31, 1, 0, [])), (33, (12, 1, 0, [0])), (34, (6, 1, 0, [0])), (35, (2, 3, 256, [])), (38, (115, 3, 0, [49])), (41, (17, 3, 8, [1])), (44, (6, 1, 0, [0])), (45, (1, 2, 8, [])), (47, (31, 1, 0, [])), (48, (12, 1, 0, [0])), (49, (6, 1, 0, [0])), (50, (1, 2, 16, [])), (52, (115, 3, 0, [62])), (55, (17, 3, 4, [1])), (58, (6, 1, 0, [0])), (59, (0, 1, 4, [])), (60, (31, 1, 0, [])), (61, (12, 1, 0, [0])), (62, (6, 1, 0, [0])), (63, (0, 1, 4, [])), (64, (115, 3, 0, [74])), (67, (17, 3, 2, [1])), (70, (6, 1, 0, [0])), (71, (0, 1, 2, [])), (72, (31, 1, 0, [])), (73, (12, 1, 0, [0])), (74, (6, 1, 0, [1])), (75, (6, 1, 0, [0])), (76, (0, 1, 1, [])), (77, (31, 1, 0, [])), (78, (20, 1, 0, [])), (79, (90, 1, 0, []))]
/-- java/lang/Integer.bitCount(I)I -/
def mc_228 : List (Nat × mI) := [(0, (6, 1, 0, [0])), (1, (6, 1, 0, [0])), (2, (0, 1, 1, [])), (3, (31, 1, 0, [])), (4, (3, 3, 1431655765, [265, 3126])), (7, (26, 1, 0, [])), (8, (21, 1, 0, [])), (9, (12, 1, 0, [0])), (10, (6, 1, 0, [0])), (11, (3, 3, 858993459, [266, 3127])), (14, (26, 1, 0, [])), (15, (6, 1, 0, [0])), (16, (0, 1, 2, [])), (17, (31, 1, 0, [])), (18, (3, 3, 858993459, [266, 3127])), (21, (26, 1, 0, [])), (22, (20, 1, 0, [])), (23, (12, 1, 0, [0])), (24, (6, 1, 0, [0])), (25, (6, 1, 0, [0])), (26, (0, 1, 4, [])), (27, (31, 1, 0, [])), (28, (20, 1, 0, [])), (29, (3, 3, 252645135, [267, 3128])), (32, (26, 1, 0, [])), (33, (12, 1, 0, [0])), (34, (6, 1, 0, [0])), (35, (6, 1, 0, [0])), (36, (1, 2, 8, [])), (38, (31, 1, 0, [])), (39, (20, 1, 0, [])), (40, (12, 1, 0, [0])), (41, (6, 1, 0, [0])), (42, (6, 1, 0, [0])), (43, (1, 2, 16, [])), (45, (31, 1, 0, [])), (46, (20, 1, 0, [])), (47, (12, 1, 0, [0])), (48, (6, 1, 0, [0])), (49, (1, 2, 63, [])), (51, (26, 1, 0, [])), (52, (90, 1, 0, []))]
def mcl_0 : List (Nat × mI) := [(18, (6, 1, 0, [3])), (19, (8, 1, 0, [0])), (20, (68, 1, 0, [])), (21, (1, 2, 6, [])), (23, (21, 1, 0, [])), (24, (114, 3, 0, [1391])), (27, (8, 1, 0, [0])), (28, (6, 1, 0, [3])), (29, (60, 1, 0, [])), (30, (1, 2, 63, [])), (32, (26, 1, 0, [])), (33, (49, 167, 0, [1385, 0, 200, 1, 233, 2, 276, 3, 319, 4, 352, 5, 375, 6, 388, 7, 431, 8, 464, 9, 487, 10, 520, 11, 553, 12, 576, 13, 609, 14, 632, 15, 675, 16, 708, 17, 731, 18, 784, 19, 827, 20, 840, 21, 863, 22, 886, 23, 919, 24, 942, 25, 955, 26, 968, 27, 981, 28, 994, 29, 1017, 30, 1060, 31, 1083, 32, 1116, 33, 1159, 34, 1232, 35, 1266, 36, 1329, 37, 1362])), (200, (8, 1, 0, [1])), (201, (8, 1, 0, [0])), (202, (6, 1, 0, [3])), (203, (0, 1, 1, [])), (204, (20, 1, 0, [])), (205, (60, 1, 0, [])), (206, (8, 1, 0, [0])), (207, (6, 1, 0, [3])), (208, (0, 1, 2, [])), (209, (20, 1, 0, [])), (210, (60, 1, 0, [])), (211, (76, 3, 0, [88, 3, 1, 29, 13, 2095])), (214, (8, 1, 0, [2])), (215, (8, 1, 0, [0])), (216, (6, 1, 0, [3])), (217, (0, 1, 1, [])), (218, (20, 1, 0, [])), (219, (60, 1, 0, [])), (220, (8, 1, 0, [0])), (221, (6, 1, 0, [3])), (222, (0, 1, 2, [])), (223, (20, 1, 0, [])), (224, (60, 1, 0, [])), (225, (76, 3, 0, [139, 3, 1, 30, 17, 5041])), (228, (110, 3, 0, [1385])), (231, (0, 1, 0, [])), (232, (94, 1, 0, [])), (233, (8, 1, 0, [1])), (234, (8, 1, 0, [0])), (235, (6, 1, 0, [3])), (236, (0, 1, 1, [])), (237, (20, 1, 0, [])), (238, (60, 1, 0, [])), (239, (8, 1, 0, [0])), (240, (6, 1, 0, [3])), (241, (0, 1, 2, []))]
def mcl_1 : List (Nat × mI) := [(242, (20, 1, 0, [])), (243, (60, 1, 0, [])), (244, (8, 1, 0, [0])), (245, (6, 1, 0, [3])), (246, (0, 1, 3, [])), (247, (20, 1, 0, [])), (248, (60, 1, 0, [])), (249, (76, 3, 0, [89, 4, 1, 29, 18, 2108])), (252, (8, 1, 0, [2])), (253, (8, 1, 0, [0])), (254, (6, 1, 0, [3])), (255, (0, 1, 1, [])), (256, (20, 1, 0, [])), (257, (60, 1, 0, [])), (258, (8, 1, 0, [0])), (259, (6, 1, 0, [3])), (260, (0, 1, 2, [])), (261, (20, 1, 0, [])), (262, (60, 1, 0, [])), (263, (8, 1, 0, [0])), (264, (6, 1, 0, [3])), (265, (0, 1, 3, [])), (266, (20, 1, 0, [])), (267, (60, 1, 0, [])), (268, (76, 3, 0, [140, 4, 1, 30, 22, 5055])), (271, (110, 3, 0, [1385])), (274, (0, 1, 0, [])), (275, (94, 1, 0, [])), (276, (8, 1, 0, [1])), (277, (8, 1, 0, [0])), (278, (6, 1, 0, [3])), (279, (0, 1, 1, [])), (280, (20, 1, 0, [])), (281, (60, 1, 0, [])), (282, (8, 1, 0, [0])), (283, (6, 1, 0, [3])), (284, (0, 1, 2, [])), (285, (20, 1, 0, [])), (286, (60, 1, 0, [])), (287, (8, 1, 0, [0])), (288, (6, 1, 0, [3])), (289, (0, 1, 3, [])), (290, (20, 1, 0, [])), (291, (60, 1, 0, [])), (292, (76, 3, 0, [90, 4, 1, 29, 23, 2119])), (295, (8, 1, 0, [2])), (296, (8, 1, 0, [0])), (297, (6, 1, 0, [3]))]
def mcl_2 : List (Nat × mI) := [(298, (0, 1, 1, [])), (299, (20, 1, 0, [])), (300, (60, 1, 0, [])), (301, (8, 1, 0, [0])), (302, (6, 1, 0, [3])), (303, (0, 1, 2, [])), (304, (20, 1, 0, [])), (305, (60, 1, 0, [])), (306, (8, 1, 0, [0])), (307, (6, 1, 0, [3])), (308, (0, 1, 3, [])), (309, (20, 1, 0, [])), (310, (60, 1, 0, [])), (311, (76, 3, 0, [146, 4, 1, 30, 26, 5067])), (314, (110, 3, 0, [1385])), (317, (0, 1, 0, [])), (318, (94, 1, 0, [])), (319, (8, 1, 0, [1])), (320, (8, 1, 0, [0])), (321, (6, 1, 0, [3])), (322, (0, 1, 1, [])), (323, (20, 1, 0, [])), (324, (60, 1, 0, [])), (325, (8, 1, 0, [0])), (326, (6, 1, 0, [3])), (327, (0, 1, 2, [])), (328, (20, 1, 0, [])), (329, (60, 1, 0, [])), (330, (76, 3, 0, [91, 3, 1, 29, 27, 2161])), (333, (8, 1, 0, [2])), (334, (8, 1, 0, [0])), (335, (6, 1, 0, [3])), (336, (0, 1, 1, [])), (337, (20, 1, 0, [])), (338, (60, 1, 0, [])), (339, (8, 1, 0, [0])), (340, (6, 1, 0, [3])), (341, (0, 1, 2, [])), (342, (20, 1, 0, [])), (343, (60, 1, 0, [])), (344, (76, 3, 0, [147, 3, 1, 30, 30, 5090])), (347, (110, 3, 0, [1385])), (350, (0, 1, 0, [])), (351, (94, 1, 0, [])), (352, (8, 1, 0, [1])), (353, (8, 1, 0, [0])), (354, (6, 1, 0, [3])), (355, (0, 1, 1, []))]
def mcl_3 : List (Nat × mI) := [(356, (20, 1, 0, [])), (357, (60, 1, 0, [])), (358, (76, 3, 0, [92, 2, 1, 29, 31, 2165])), (361, (8, 1, 0, [2])), (362, (8, 1, 0, [0])), (363, (6, 1, 0, [3])), (364, (0, 1, 1, [])), (365, (20, 1, 0, [])), (366, (60, 1, 0, [])), (367, (76, 3, 0, [150, 2, 1, 30, 35, 5102])), (370, (110, 3, 0, [1385])), (373, (0, 1, 0, [])), (374, (94, 1, 0, [])), (375, (8, 1, 0, [1])), (376, (76, 3, 0, [93, 1, 1, 29, 36, 2173])), (379, (8, 1, 0, [2])), (380, (76, 3, 0, [163, 1, 1, 30, 40, 5106])), (383, (110, 3, 0, [1385])), (386, (0, 1, 0, [])), (387, (94, 1, 0, [])), (388, (8, 1, 0, [1])), (389, (8, 1, 0, [0])), (390, (6, 1, 0, [3])), (391, (0, 1, 1, [])), (392, (20, 1, 0, [])), (393, (60, 1, 0, [])), (394, (8, 1, 0, [0])), (395, (6, 1, 0, [3])), (396, (0, 1, 2, [])), (397, (20, 1, 0, [])), (398, (60, 1, 0, [])), (399, (8, 1, 0, [0])), (400, (6, 1, 0, [3])), (401, (0, 1, 3, [])), (402, (20, 1, 0, [])), (403, (60, 1, 0, [])), (404, (76, 3, 0, [94, 4, 1, 29, 41, 2234])), (407, (8, 1, 0, [2])), (408, (8, 1, 0, [0])), (409, (6, 1, 0, [3])), (410, (0, 1, 1, [])), (411, (20, 1, 0, [])), (412, (60, 1, 0, [])), (413, (8, 1, 0, [0])), (414, (6, 1, 0, [3])), (415, (0, 1, 2, [])), (416, (20, 1, 0, [])), (417, (60, 1, 0, []))]
def mcl_4 : List (Nat × mI) := [(418, (8, 1, 0, [0])), (419, (6, 1, 0, [3])), (420, (0, 1, 3, [])), (421, (20, 1, 0, [])), (422, (60, 1, 0, [])), (423, (76, 3, 0, [181, 4, 1, 30, 44, 5157])), (426, (110, 3, 0, [1385])), (429, (0, 1, 0, [])), (430, (94, 1, 0, [])), (431, (8, 1, 0, [1])), (432, (8, 1, 0, [0])), (433, (6, 1, 0, [3])), (434, (0, 1, 1, [])), (435, (20, 1, 0, [])), (436, (60, 1, 0, [])), (437, (8, 1, 0, [0])), (438, (6, 1, 0, [3])), (439, (0, 1, 2, [])), (440, (20, 1, 0, [])), (441, (60, 1, 0, [])), (442, (76, 3, 0, [95, 3, 1, 29, 45, 3045])), (445, (8, 1, 0, [2])), (446, (8, 1, 0, [0])), (447, (6, 1, 0, [3])), (448, (0, 1, 1, [])), (449, (20, 1, 0, [])), (450, (60, 1, 0, [])), (451, (8, 1, 0, [0])), (452, (6, 1, 0, [3])), (453, (0, 1, 2, [])), (454, (20, 1, 0, [])), (455, (60, 1, 0, [])), (456, (76, 3, 0, [183, 3, 1, 30, 48, 5212])), (459, (110, 3, 0, [1385])), (462, (0, 1, 0, [])), (463, (94, 1, 0, [])), (464, (8, 1, 0, [1])), (465, (8, 1, 0, [0])), (466, (6, 1, 0, [3])), (467, (0, 1, 1, [])), (468, (20, 1, 0, [])), (469, (60, 1, 0, [])), (470, (76, 3, 0, [96, 2, 1, 29, 49, 3062])), (473, (8, 1, 0, [2])), (474, (8, 1, 0, [0])), (475, (6, 1, 0, [3])), (476, (0, 1, 1, [])), (477, (20, 1, 0, []))]
def mcl_5 : List (Nat × mI) := [(478, (60, 1, 0, [])), (479, (76, 3, 0, [184, 2, 1, 30, 52, 5228])), (482, (110, 3, 0, [1385])), (485, (0, 1, 0, [])), (486, (94, 1, 0, [])), (487, (8, 1, 0, [1])), (488, (8, 1, 0, [0])), (489, (6, 1, 0, [3])), (490, (0, 1, 1, [])), (491, (20, 1, 0, [])), (492, (60, 1, 0, [])), (493, (8, 1, 0, [0])), (494, (6, 1, 0, [3])), (495, (0, 1, 2, [])), (496, (20, 1, 0, [])), (497, (60, 1, 0, [])), (498, (76, 3, 0, [97, 3, 1, 29, 53, 3072])), (501, (8, 1, 0, [2])), (502, (8, 1, 0, [0])), (503, (6, 1, 0, [3])), (504, (0, 1, 1, [])), (505, (20, 1, 0, [])), (506, (60, 1, 0, [])), (507, (8, 1, 0, [0])), (508, (6, 1, 0, [3])), (509, (0, 1, 2, [])), (510, (20, 1, 0, [])), (511, (60, 1, 0, [])), (512, (76, 3, 0, [185, 3, 1, 30, 56, 5232])), (515, (110, 3, 0, [1385])), (518, (0, 1, 0, [])), (519, (94, 1, 0, [])), (520, (8, 1, 0, [1])), (521, (8, 1, 0, [0])), (522, (6, 1, 0, [3])), (523, (0, 1, 1, [])), (524, (20, 1, 0, [])), (525, (60, 1, 0, [])), (526, (8, 1, 0, [0])), (527, (6, 1, 0, [3])), (528, (0, 1, 2, [])), (529, (20, 1, 0, [])), (530, (60, 1, 0, [])), (531, (76, 3, 0, [98, 3, 1, 29, 57, 3080])), (534, (8, 1, 0, [2])), (535, (8, 1, 0, [0])), (536, (6, 1, 0, [3])), (537, (0, 1, 1, []))]
def mcl_6 : List (Nat × mI) := [(538, (20, 1, 0, [])), (539, (60, 1, 0, [])), (540, (8, 1, 0, [0])), (541, (6, 1, 0, [3])), (542, (0, 1, 2, [])), (543, (20, 1, 0, [])), (544, (60, 1, 0, [])), (545, (76, 3, 0, [187, 3, 1, 30, 60, 5236])), (548, (110, 3, 0, [1385])), (551, (0, 1, 0, [])), (552, (94, 1, 0, [])), (553, (8, 1, 0, [1])), (554, (8, 1, 0, [0])), (555, (6, 1, 0, [3])), (556, (0, 1, 1, [])), (557, (20, 1, 0, [])), (558, (60, 1, 0, [])), (559, (76, 3, 0, [99, 2, 1, 29, 61, 3099])), (562, (8, 1, 0, [2])), (563, (8, 1, 0, [0])), (564, (6, 1, 0, [3])), (565, (0, 1, 1, [])), (566, (20, 1, 0, [])), (567, (60, 1, 0, [])), (568, (76, 3, 0, [188, 2, 1, 30, 64, 6008])), (571, (110, 3, 0, [1385])), (574, (0, 1, 0, [])), (575, (94, 1, 0, [])), (576, (8, 1, 0, [1])), (577, (8, 1, 0, [0])), (578, (6, 1, 0, [3])), (579, (0, 1, 1, [])), (580, (20, 1, 0, [])), (581, (60, 1, 0, [])), (582, (8, 1, 0, [0])), (583, (6, 1, 0, [3])), (584, (0, 1, 2, [])), (585, (20, 1, 0, [])), (586, (60, 1, 0, [])), (587, (76, 3, 0, [100, 3, 1, 29, 65, 3129])), (590, (8, 1, 0, [2])), (591, (8, 1, 0, [0])), (592, (6, 1, 0, [3])), (593, (0, 1, 1, [])), (594, (20, 1, 0, [])), (595, (60, 1, 0, [])), (596, (8, 1, 0, [0])), (597, (6, 1, 0, [3]))]
def mcl_7 : List (Nat × mI) := [(598, (0, 1, 2, [])), (599, (20, 1, 0, [])), (600, (60, 1, 0, [])), (601, (76, 3, 0, [190, 3, 1, 30, 68, 6020])), (604, (110, 3, 0, [1385])), (607, (0, 1, 0, [])), (608, (94, 1, 0, [])), (609, (8, 1, 0, [1])), (610, (8, 1, 0, [0])), (611, (6, 1, 0, [3])), (612, (0, 1, 1, [])), (613, (20, 1, 0, [])), (614, (60, 1, 0, [])), (615, (76, 3, 0, [101, 2, 1, 29, 69, 3141])), (618, (8, 1, 0, [2])), (619, (8, 1, 0, [0])), (620, (6, 1, 0, [3])), (621, (0, 1, 1, [])), (622, (20, 1, 0, [])), (623, (60, 1, 0, [])), (624, (76, 3, 0, [193, 2, 1, 30, 72, 6028])), (627, (110, 3, 0, [1385])), (630, (0, 1, 0, [])), (631, (94, 1, 0, [])), (632, (8, 1, 0, [1])), (633, (8, 1, 0, [0])), (634, (6, 1, 0, [3])), (635, (0, 1, 1, [])), (636, (20, 1, 0, [])), (637, (60, 1, 0, [])), (638, (8, 1, 0, [0])), (639, (6, 1, 0, [3])), (640, (0, 1, 2, [])), (641, (20, 1, 0, [])), (642, (60, 1, 0, [])), (643, (8, 1, 0, [0])), (644, (6, 1, 0, [3])), (645, (0, 1, 3, [])), (646, (20, 1, 0, [])), (647, (60, 1, 0, [])), (648, (76, 3, 0, [102, 4, 1, 29, 73, 3159])), (651, (8, 1, 0, [2])), (652, (8, 1, 0, [0])), (653, (6, 1, 0, [3])), (654, (0, 1, 1, [])), (655, (20, 1, 0, [])), (656, (60, 1, 0, [])), (657, (8, 1, 0, [0]))]
def mcl_8 : List (Nat × mI) := [(658, (6, 1, 0, [3])), (659, (0, 1, 2, [])), (660, (20, 1, 0, [])), (661, (60, 1, 0, [])), (662, (8, 1, 0, [0])), (663, (6, 1, 0, [3])), (664, (0, 1, 3, [])), (665, (20, 1, 0, [])), (666, (60, 1, 0, [])), (667, (76, 3, 0, [195, 4, 1, 30, 76, 6040])), (670, (110, 3, 0, [1385])), (673, (0, 1, 0, [])), (674, (94, 1, 0, [])), (675, (8, 1, 0, [1])), (676, (8, 1, 0, [0])), (677, (6, 1, 0, [3])), (678, (0, 1, 1, [])), (679, (20, 1, 0, [])), (680, (60, 1, 0, [])), (681, (8, 1, 0, [0])), (682, (6, 1, 0, [3])), (683, (0, 1, 2, [])), (684, (20, 1, 0, [])), (685, (60, 1, 0, [])), (686, (76, 3, 0, [103, 3, 1, 29, 77, 3174])), (689, (8, 1, 0, [2])), (690, (8, 1, 0, [0])), (691, (6, 1, 0, [3])), (692, (0, 1, 1, [])), (693, (20, 1, 0, [])), (694, (60, 1, 0, [])), (695, (8, 1, 0, [0])), (696, (6, 1, 0, [3])), (697, (0, 1, 2, [])), (698, (20, 1, 0, [])), (699, (60, 1, 0, [])), (700, (76, 3, 0, [197, 3, 1, 30, 80, 6048])), (703, (110, 3, 0, [1385])), (706, (0, 1, 0, [])), (707, (94, 1, 0, [])), (708, (8, 1, 0, [1])), (709, (8, 1, 0, [0])), (710, (6, 1, 0, [3])), (711, (0, 1, 1, [])), (712, (20, 1, 0, [])), (713, (60, 1, 0, [])), (714, (76, 3, 0, [104, 2, 1, 29, 81, 3194])), (717, (8, 1, 0, [2]))]
def mcl_9 : List (Nat × mI) := [(718, (8, 1, 0, [0])), (719, (6, 1, 0, [3])), (720, (0, 1, 1, [])), (721, (20, 1, 0, [])), (722, (60, 1, 0, [])), (723, (76, 3, 0, [198, 2, 1, 30, 84, 6056])), (726, (110, 3, 0, [1385])), (729, (0, 1, 0, [])), (730, (94, 1, 0, [])), (731, (8, 1, 0, [1])), (732, (8, 1, 0, [0])), (733, (6, 1, 0, [3])), (734, (0, 1, 1, [])), (735, (20, 1, 0, [])), (736, (60, 1, 0, [])), (737, (8, 1, 0, [0])), (738, (6, 1, 0, [3])), (739, (0, 1, 2, [])), (740, (20, 1, 0, [])), (741, (60, 1, 0, [])), (742, (8, 1, 0, [0])), (743, (6, 1, 0, [3])), (744, (0, 1, 3, [])), (745, (20, 1, 0, [])), (746, (60, 1, 0, [])), (747, (8, 1, 0, [0])), (748, (6, 1, 0, [3])), (749, (0, 1, 4, [])), (750, (20, 1, 0, [])), (751, (60, 1, 0, [])), (752, (76, 3, 0, [105, 5, 1, 29, 85, 3203])), (755, (8, 1, 0, [2])), (756, (8, 1, 0, [0])), (757, (6, 1, 0, [3])), (758, (0, 1, 1, [])), (759, (20, 1, 0, [])), (760, (60, 1, 0, [])), (761, (8, 1, 0, [0])), (762, (6, 1, 0, [3])), (763, (0, 1, 2, [])), (764, (20, 1, 0, [])), (765, (60, 1, 0, [])), (766, (8, 1, 0, [0])), (767, (6, 1, 0, [3])), (768, (0, 1, 3, [])), (769, (20, 1, 0, [])), (770, (60, 1, 0, [])), (771, (8, 1, 0, [0]))]
def mcl_10 : List (Nat × mI) := [(772, (6, 1, 0, [3])), (773, (0, 1, 4, [])), (774, (20, 1, 0, [])), (775, (60, 1, 0, [])), (776, (76, 3, 0, [200, 5, 1, 30, 89, 6060])), (779, (110, 3, 0, [1385])), (782, (0, 1, 0, [])), (783, (94, 1, 0, [])), (784, (8, 1, 0, [1])), (785, (8, 1, 0, [0])), (786, (6, 1, 0, [3])), (787, (0, 1, 1, [])), (788, (20, 1, 0, [])), (789, (60, 1, 0, [])), (790, (8, 1, 0, [0])), (791, (6, 1, 0, [3])), (792, (0, 1, 2, [])), (793, (20, 1, 0, [])), (794, (60, 1, 0, [])), (795, (8, 1, 0, [0])), (796, (6, 1, 0, [3])), (797, (0, 1, 3, [])), (798, (20, 1, 0, [])), (799, (60, 1, 0, [])), (800, (76, 3, 0, [106, 4, 1, 29, 90, 3216])), (803, (8, 1, 0, [2])), (804, (8, 1, 0, [0])), (805, (6, 1, 0, [3])), (806, (0, 1, 1, [])), (807, (20, 1, 0, [])), (808, (60, 1, 0, [])), (809, (8, 1, 0, [0])), (810, (6, 1, 0, [3])), (811, (0, 1, 2, [])), (812, (20, 1, 0, [])), (813, (60, 1, 0, [])), (814, (8, 1, 0, [0])), (815, (6, 1, 0, [3])), (816, (0, 1, 3, [])), (817, (20, 1, 0, [])), (818, (60, 1, 0, [])), (819, (76, 3, 0, [201, 4, 1, 30, 93, 6069])), (822, (110, 3, 0, [1385])), (825, (0, 1, 0, [])), (826, (94, 1, 0, [])), (827, (8, 1, 0, [1])), (828, (76, 3, 0, [107, 1, 1, 29, 94, 3230])), (831, (8, 1, 0, [2]))]
def mcl_11 : List (Nat × mI) := [(832, (76, 3, 0, [202, 1, 1, 30, 97, 6074])), (835, (110, 3, 0, [1385])), (838, (0, 1, 0, [])), (839, (94, 1, 0, [])), (840, (8, 1, 0, [1])), (841, (8, 1, 0, [0])), (842, (6, 1, 0, [3])), (843, (0, 1, 1, [])), (844, (20, 1, 0, [])), (845, (60, 1, 0, [])), (846, (76, 3, 0, [108, 2, 1, 29, 98, 3235])), (849, (8, 1, 0, [2])), (850, (8, 1, 0, [0])), (851, (6, 1, 0, [3])), (852, (0, 1, 1, [])), (853, (20, 1, 0, [])), (854, (60, 1, 0, [])), (855, (76, 3, 0, [203, 2, 1, 30, 101, 6078])), (858, (110, 3, 0, [1385])), (861, (0, 1, 0, [])), (862, (94, 1, 0, [])), (863, (8, 1, 0, [1])), (864, (8, 1, 0, [0])), (865, (6, 1, 0, [3])), (866, (0, 1, 1, [])), (867, (20, 1, 0, [])), (868, (60, 1, 0, [])), (869, (76, 3, 0, [109, 2, 1, 29, 102, 4000])), (872, (8, 1, 0, [2])), (873, (8, 1, 0, [0])), (874, (6, 1, 0, [3])), (875, (0, 1, 1, [])), (876, (20, 1, 0, [])), (877, (60, 1, 0, [])), (878, (76, 3, 0, [204, 2, 1, 30, 105, 6082])), (881, (110, 3, 0, [1385])), (884, (0, 1, 0, [])), (885, (94, 1, 0, [])), (886, (8, 1, 0, [1])), (887, (8, 1, 0, [0])), (888, (6, 1, 0, [3])), (889, (0, 1, 1, [])), (890, (20, 1, 0, [])), (891, (60, 1, 0, [])), (892, (8, 1, 0, [0])), (893, (6, 1, 0, [3])), (894, (0, 1, 2, [])), (895, (20, 1, 0, []))]
def mcl_12 : List (Nat × mI) := [(896, (60, 1, 0, [])), (897, (76, 3, 0, [110, 3, 1, 29, 106, 4006])), (900, (8, 1, 0, [2])), (901, (8, 1, 0, [0])), (902, (6, 1, 0, [3])), (903, (0, 1, 1, [])), (904, (20, 1, 0, [])), (905, (60, 1, 0, [])), (906, (8, 1, 0, [0])), (907, (6, 1, 0, [3])), (908, (0, 1, 2, [])), (909, (20, 1, 0, [])), (910, (60, 1, 0, [])), (911, (76, 3, 0, [205, 3, 1, 30, 109, 6086])), (914, (110, 3, 0, [1385])), (917, (0, 1, 0, [])), (918, (94, 1, 0, [])), (919, (8, 1, 0, [1])), (920, (8, 1, 0, [0])), (921, (6, 1, 0, [3])), (922, (0, 1, 1, [])), (923, (20, 1, 0, [])), (924, (60, 1, 0, [])), (925, (76, 3, 0, [111, 2, 1, 29, 110, 4011])), (928, (8, 1, 0, [2])), (929, (8, 1, 0, [0])), (930, (6, 1, 0, [3])), (931, (0, 1, 1, [])), (932, (20, 1, 0, [])), (933, (60, 1, 0, [])), (934, (76, 3, 0, [206, 2, 1, 30, 113, 6090])), (937, (110, 3, 0, [1385])), (940, (0, 1, 0, [])), (941, (94, 1, 0, [])), (942, (8, 1, 0, [1])), (943, (76, 3, 0, [112, 1, 1, 29, 114, 4015])), (946, (8, 1, 0, [2])), (947, (76, 3, 0, [207, 1, 1, 30, 117, 6094])), (950, (110, 3, 0, [1385])), (953, (0, 1, 0, [])), (954, (94, 1, 0, [])), (955, (8, 1, 0, [1])), (956, (76, 3, 0, [113, 1, 1, 29, 118, 4020])), (959, (8, 1, 0, [2])), (960, (76, 3, 0, [208, 1, 1, 30, 121, 6098])), (963, (110, 3, 0, [1385])), (966, (0, 1, 0, [])), (967, (94, 1, 0, []))]
def mcl_13 : List (Nat × mI) := [(968, (8, 1, 0, [1])), (969, (76, 3, 0, [114, 1, 1, 29, 122, 4024])), (972, (8, 1, 0, [2])), (973, (76, 3, 0, [148, 1, 1, 30, 125, 5094])), (976, (110, 3, 0, [1385])), (979, (0, 1, 0, [])), (980, (94, 1, 0, [])), (981, (8, 1, 0, [1])), (982, (76, 3, 0, [115, 1, 1, 29, 126, 4033])), (985, (8, 1, 0, [2])), (986, (76, 3, 0, [149, 1, 1, 30, 129, 5098])), (989, (110, 3, 0, [1385])), (992, (0, 1, 0, [])), (993, (94, 1, 0, [])), (994, (8, 1, 0, [1])), (995, (8, 1, 0, [0])), (996, (6, 1, 0, [3])), (997, (0, 1, 1, [])), (998, (20, 1, 0, [])), (999, (60, 1, 0, [])), (1000, (76, 3, 0, [116, 2, 1, 29, 130, 4041])), (1003, (8, 1, 0, [2])), (1004, (8, 1, 0, [0])), (1005, (6, 1, 0, [3])), (1006, (0, 1, 1, [])), (1007, (20, 1, 0, [])), (1008, (60, 1, 0, [])), (1009, (76, 3, 0, [215, 2, 1, 30, 133, 6102])), (1012, (110, 3, 0, [1385])), (1015, (0, 1, 0, [])), (1016, (94, 1, 0, [])), (1017, (8, 1, 0, [1])), (1018, (8, 1, 0, [0])), (1019, (6, 1, 0, [3])), (1020, (0, 1, 1, [])), (1021, (20, 1, 0, [])), (1022, (60, 1, 0, [])), (1023, (8, 1, 0, [0])), (1024, (6, 1, 0, [3])), (1025, (0, 1, 2, [])), (1026, (20, 1, 0, [])), (1027, (60, 1, 0, [])), (1028, (8, 1, 0, [0])), (1029, (6, 1, 0, [3])), (1030, (0, 1, 3, [])), (1031, (20, 1, 0, [])), (1032, (60, 1, 0, [])), (1033, (76, 3, 0, [117, 4, 1, 29, 134, 4052]))]
def mcl_14 : List (Nat × mI) := [(1036, (8, 1, 0, [2])), (1037, (8, 1, 0, [0])), (1038, (6, 1, 0, [3])), (1039, (0, 1, 1, [])), (1040, (20, 1, 0, [])), (1041, (60, 1, 0, [])), (1042, (8, 1, 0, [0])), (1043, (6, 1, 0, [3])), (1044, (0, 1, 2, [])), (1045, (20, 1, 0, [])), (1046, (60, 1, 0, [])), (1047, (8, 1, 0, [0])), (1048, (6, 1, 0, [3])), (1049, (0, 1, 3, [])), (1050, (20, 1, 0, [])), (1051, (60, 1, 0, [])), (1052, (76, 3, 0, [216, 4, 1, 30, 137, 6106])), (1055, (110, 3, 0, [1385])), (1058, (0, 1, 0, [])), (1059, (94, 1, 0, [])), (1060, (8, 1, 0, [1])), (1061, (8, 1, 0, [0])), (1062, (6, 1, 0, [3])), (1063, (0, 1, 1, [])), (1064, (20, 1, 0, [])), (1065, (60, 1, 0, [])), (1066, (76, 3, 0, [118, 2, 1, 29, 138, 4076])), (1069, (8, 1, 0, [2])), (1070, (8, 1, 0, [0])), (1071, (6, 1, 0, [3])), (1072, (0, 1, 1, [])), (1073, (20, 1, 0, [])), (1074, (60, 1, 0, [])), (1075, (76, 3, 0, [217, 2, 1, 30, 141, 6133])), (1078, (110, 3, 0, [1385])), (1081, (0, 1, 0, [])), (1082, (94, 1, 0, [])), (1083, (8, 1, 0, [1])), (1084, (8, 1, 0, [0])), (1085, (6, 1, 0, [3])), (1086, (0, 1, 1, [])), (1087, (20, 1, 0, [])), (1088, (60, 1, 0, [])), (1089, (8, 1, 0, [0])), (1090, (6, 1, 0, [3])), (1091, (0, 1, 2, [])), (1092, (20, 1, 0, [])), (1093, (60, 1, 0, []))]
def mcl_15 : List (Nat × mI) := [(1094, (76, 3, 0, [119, 3, 1, 29, 142, 4080])), (1097, (8, 1, 0, [2])), (1098, (8, 1, 0, [0])), (1099, (6, 1, 0, [3])), (1100, (0, 1, 1, [])), (1101, (20, 1, 0, [])), (1102, (60, 1, 0, [])), (1103, (8, 1, 0, [0])), (1104, (6, 1, 0, [3])), (1105, (0, 1, 2, [])), (1106, (20, 1, 0, [])), (1107, (60, 1, 0, [])), (1108, (76, 3, 0, [218, 3, 1, 30, 145, 6137])), (1111, (110, 3, 0, [1385])), (1114, (0, 1, 0, [])), (1115, (94, 1, 0, [])), (1116, (8, 1, 0, [1])), (1117, (8, 1, 0, [0])), (1118, (6, 1, 0, [3])), (1119, (0, 1, 1, [])), (1120, (20, 1, 0, [])), (1121, (60, 1, 0, [])), (1122, (8, 1, 0, [0])), (1123, (6, 1, 0, [3])), (1124, (0, 1, 2, [])), (1125, (20, 1, 0, [])), (1126, (60, 1, 0, [])), (1127, (8, 1, 0, [0])), (1128, (6, 1, 0, [3])), (1129, (0, 1, 3, [])), (1130, (20, 1, 0, [])), (1131, (60, 1, 0, [])), (1132, (76, 3, 0, [120, 4, 1, 29, 146, 4089])), (1135, (8, 1, 0, [2])), (1136, (8, 1, 0, [0])), (1137, (6, 1, 0, [3])), (1138, (0, 1, 1, [])), (1139, (20, 1, 0, [])), (1140, (60, 1, 0, [])), (1141, (8, 1, 0, [0])), (1142, (6, 1, 0, [3])), (1143, (0, 1, 2, [])), (1144, (20, 1, 0, [])), (1145, (60, 1, 0, [])), (1146, (8, 1, 0, [0])), (1147, (6, 1, 0, [3])), (1148, (0, 1, 3, [])), (1149, (20, 1, 0, []))]
def mcl_16 : List (Nat × mI) := [(1150, (60, 1, 0, [])), (1151, (76, 3, 0, [219, 4, 1, 30, 149, 6141])), (1154, (110, 3, 0, [1385])), (1157, (0, 1, 0, [])), (1158, (94, 1, 0, [])), (1159, (8, 1, 0, [1])), (1160, (8, 1, 0, [0])), (1161, (6, 1, 0, [3])), (1162, (0, 1, 1, [])), (1163, (20, 1, 0, [])), (1164, (60, 1, 0, [])), (1165, (8, 1, 0, [0])), (1166, (6, 1, 0, [3])), (1167, (0, 1, 2, [])), (1168, (20, 1, 0, [])), (1169, (60, 1, 0, [])), (1170, (8, 1, 0, [0])), (1171, (6, 1, 0, [3])), (1172, (0, 1, 3, [])), (1173, (20, 1, 0, [])), (1174, (60, 1, 0, [])), (1175, (38, 1, 0, [])), (1176, (1, 2, 32, [])), (1178, (34, 1, 0, [])), (1179, (8, 1, 0, [0])), (1180, (6, 1, 0, [3])), (1181, (0, 1, 4, [])), (1182, (20, 1, 0, [])), (1183, (60, 1, 0, [])), (1184, (38, 1, 0, [])), (1185, (5, 3, 4294967295, [150, 6173])), (1188, (35, 1, 0, [])), (1189, (36, 1, 0, [])), (1190, (76, 3, 0, [121, 4, 1, 29, 152, 4097])), (1193, (8, 1, 0, [2])), (1194, (8, 1, 0, [0])), (1195, (6, 1, 0, [3])), (1196, (0, 1, 1, [])), (1197, (20, 1, 0, [])), (1198, (60, 1, 0, [])), (1199, (8, 1, 0, [0])), (1200, (6, 1, 0, [3])), (1201, (0, 1, 2, [])), (1202, (20, 1, 0, [])), (1203, (60, 1, 0, [])), (1204, (8, 1, 0, [0])), (1205, (6, 1, 0, [3])), (1206, (0, 1, 3, []))]
def mcl_17 : List (Nat × mI) := [(1207, (20, 1, 0, [])), (1208, (60, 1, 0, [])), (1209, (38, 1, 0, [])), (1210, (1, 2, 32, [])), (1212, (34, 1, 0, [])), (1213, (8, 1, 0, [0])), (1214, (6, 1, 0, [3])), (1215, (0, 1, 4, [])), (1216, (20, 1, 0, [])), (1217, (60, 1, 0, [])), (1218, (38, 1, 0, [])), (1219, (5, 3, 4294967295, [150, 6173])), (1222, (35, 1, 0, [])), (1223, (36, 1, 0, [])), (1224, (76, 3, 0, [222, 4, 1, 30, 156, 6145])), (1227, (110, 3, 0, [1385])), (1230, (0, 1, 0, [])), (1231, (94, 1, 0, [])), (1232, (8, 1, 0, [1])), (1233, (8, 1, 0, [0])), (1234, (6, 1, 0, [3])), (1235, (0, 1, 1, [])), (1236, (20, 1, 0, [])), (1237, (60, 1, 0, [])), (1238, (8, 1, 0, [0])), (1239, (6, 1, 0, [3])), (1240, (0, 1, 2, [])), (1241, (20, 1, 0, [])), (1242, (60, 1, 0, [])), (1243, (76, 3, 0, [122, 3, 2, 29, 157, 4116])), (1246, (8, 1, 0, [2])), (1247, (8, 1, 0, [0])), (1248, (6, 1, 0, [3])), (1249, (0, 1, 1, [])), (1250, (20, 1, 0, [])), (1251, (60, 1, 0, [])), (1252, (8, 1, 0, [0])), (1253, (6, 1, 0, [3])), (1254, (0, 1, 2, [])), (1255, (20, 1, 0, [])), (1256, (60, 1, 0, [])), (1257, (76, 3, 0, [223, 3, 2, 30, 161, 6156])), (1260, (37, 1, 0, [])), (1261, (100, 3, 0, [1385])), (1264, (0, 1, 0, [])), (1265, (94, 1, 0, [])), (1266, (8, 1, 0, [1])), (1267, (8, 1, 0, [0]))]
def mcl_18 : List (Nat × mI) := [(1268, (6, 1, 0, [3])), (1269, (0, 1, 1, [])), (1270, (20, 1, 0, [])), (1271, (60, 1, 0, [])), (1272, (8, 1, 0, [0])), (1273, (6, 1, 0, [3])), (1274, (0, 1, 2, [])), (1275, (20, 1, 0, [])), (1276, (60, 1, 0, [])), (1277, (8, 1, 0, [0])), (1278, (6, 1, 0, [3])), (1279, (0, 1, 3, [])), (1280, (20, 1, 0, [])), (1281, (60, 1, 0, [])), (1282, (8, 1, 0, [0])), (1283, (6, 1, 0, [3])), (1284, (0, 1, 4, [])), (1285, (20, 1, 0, [])), (1286, (60, 1, 0, [])), (1287, (8, 1, 0, [0])), (1288, (6, 1, 0, [3])), (1289, (0, 1, 5, [])), (1290, (20, 1, 0, [])), (1291, (60, 1, 0, [])), (1292, (76, 3, 0, [123, 6, 1, 29, 162, 4121])), (1295, (8, 1, 0, [2])), (1296, (8, 1, 0, [0])), (1297, (6, 1, 0, [3])), (1298, (0, 1, 1, [])), (1299, (20, 1, 0, [])), (1300, (60, 1, 0, [])), (1301, (8, 1, 0, [0])), (1302, (6, 1, 0, [3])), (1303, (0, 1, 2, [])), (1304, (20, 1, 0, [])), (1305, (60, 1, 0, [])), (1306, (8, 1, 0, [0])), (1307, (6, 1, 0, [3])), (1308, (0, 1, 3, [])), (1309, (20, 1, 0, [])), (1310, (60, 1, 0, [])), (1311, (8, 1, 0, [0])), (1312, (6, 1, 0, [3])), (1313, (0, 1, 4, [])), (1314, (20, 1, 0, [])), (1315, (60, 1, 0, [])), (1316, (8, 1, 0, [0])), (1317, (6, 1, 0, [3]))]
def mcl_19 : List (Nat × mI) := [(1318, (0, 1, 5, [])), (1319, (20, 1, 0, [])), (1320, (60, 1, 0, [])), (1321, (76, 3, 0, [224, 6, 1, 30, 166, 6161])), (1324, (110, 3, 0, [1385])), (1327, (0, 1, 0, [])), (1328, (94, 1, 0, [])), (1329, (8, 1, 0, [1])), (1330, (8, 1, 0, [0])), (1331, (6, 1, 0, [3])), (1332, (0, 1, 1, [])), (1333, (20, 1, 0, [])), (1334, (60, 1, 0, [])), (1335, (8, 1, 0, [0])), (1336, (6, 1, 0, [3])), (1337, (0, 1, 2, [])), (1338, (20, 1, 0, [])), (1339, (60, 1, 0, [])), (1340, (76, 3, 0, [124, 3, 1, 29, 167, 4126])), (1343, (8, 1, 0, [2])), (1344, (8, 1, 0, [0])), (1345, (6, 1, 0, [3])), (1346, (0, 1, 1, [])), (1347, (20, 1, 0, [])), (1348, (60, 1, 0, [])), (1349, (8, 1, 0, [0])), (1350, (6, 1, 0, [3])), (1351, (0, 1, 2, [])), (1352, (20, 1, 0, [])), (1353, (60, 1, 0, [])), (1354, (76, 3, 0, [225, 3, 1, 30, 170, 6165])), (1357, (110, 3, 0, [1385])), (1360, (0, 1, 0, [])), (1361, (94, 1, 0, [])), (1362, (8, 1, 0, [1])), (1363, (8, 1, 0, [0])), (1364, (6, 1, 0, [3])), (1365, (0, 1, 1, [])), (1366, (20, 1, 0, [])), (1367, (60, 1, 0, [])), (1368, (76, 3, 0, [125, 2, 1, 29, 171, 4134])), (1371, (8, 1, 0, [2])), (1372, (8, 1, 0, [0])), (1373, (6, 1, 0, [3])), (1374, (0, 1, 1, [])), (1375, (20, 1, 0, [])), (1376, (60, 1, 0, [])), (1377, (76, 3, 0, [226, 2, 1, 30, 174, 6169]))]
def mcl_20 : List (Nat × mI) := [(1380, (110, 3, 0, [1385])), (1383, (0, 1, 0, [])), (1384, (94, 1, 0, [])), (1385, (17, 3, 6, [3])), (1388, (48, 3, 0, [18])), (1391, (0, 1, 1, [])), (1392, (94, 1, 0, []))]
def mc_229 : List (Nat × mI) := mcl_0 ++ (mcl_1 ++ (mcl_2 ++ (mcl_3 ++ (mcl_4 ++ (mcl_5 ++ (mcl_6 ++ (mcl_7 ++ (mcl_8 ++ (mcl_9 ++ (mcl_10 ++ (mcl_11 ++ (mcl_12 ++ (mcl_13 ++ (mcl_14 ++ (mcl_15 ++ (mcl_16 ++ (mcl_17 ++ (mcl_18 ++ (mcl_19 ++ (mcl_20))))))))))))))))))))
/-- EiderClimateLaw.law([I)Z -/
def mc_230 : List (Nat × mI) := [(0, (74, 3, 0, [9, 9, 7, 1015, 1016, 1001])), (3, (42, 1, 0, [])), (4, (78, 3, 0, [87, 1, 0, 29, 9, 1017])), (7, (14, 1, 0, [1])), (8, (74, 3, 0, [10, 44, 10, 4142, 4143, 1011])), (11, (42, 1, 0, [])), (12, (78, 3, 0, [132, 1, 0, 30, 12, 4144])), (15, (14, 1, 0, [2])), (16, (0, 1, 0, [])), (17, (12, 1, 0, [3]))]
def mcdd : List (List (List (Nat × mI))) := [[mc_0, mc_1, mc_2, mc_3, mc_4, mc_5, mc_6, mc_7, mc_8, mc_9, mc_10, mc_11, mc_12, mc_13, mc_14, mc_15], [mc_16, mc_17, mc_18, mc_19, mc_20, mc_21, mc_22, mc_23, mc_24, mc_25, mc_26, mc_27, mc_28, mc_29, mc_30, mc_31], [mc_32, mc_33, mc_34, mc_35, mc_36, mc_37, mc_38, mc_39, mc_40, mc_41, mc_42, mc_43, mc_44, mc_45, mc_46, mc_47], [mc_48, mc_49, mc_50, mc_51, mc_52, mc_53, mc_54, mc_55, mc_56, mc_57, mc_58, mc_59, mc_60, mc_61, mc_62, mc_63], [mc_64, mc_65, mc_66, mc_67, mc_68, mc_69, mc_70, mc_71, mc_72, mc_73, mc_74, mc_75, mc_76, mc_77, mc_78, mc_79], [mc_80, mc_81, mc_82, mc_83, mc_84, mc_85, mc_86, mc_87, mc_88, mc_89, mc_90, mc_91, mc_92, mc_93, mc_94, mc_95], [mc_96, mc_97, mc_98, mc_99, mc_100, mc_101, mc_102, mc_103, mc_104, mc_105, mc_106, mc_107, mc_108, mc_109, mc_110, mc_111], [mc_112, mc_113, mc_114, mc_115, mc_116, mc_117, mc_118, mc_119, mc_120, mc_121, mc_122, mc_123, mc_124, mc_125, mc_126, mc_127], [mc_128, mc_129, mc_130, mc_131, mc_132, mc_133, mc_134, mc_135, mc_136, mc_137, mc_138, mc_139, mc_140, mc_141, mc_142, mc_143], [mc_144, mc_145, mc_146, mc_147, mc_148, mc_149, mc_150, mc_151, mc_152, mc_153, mc_154, mc_155, mc_156, mc_157, mc_158, mc_159], [mc_160, mc_161, mc_162, mc_163, mc_164, mc_165, mc_166, mc_167, mc_168, mc_169, mc_170, mc_171, mc_172, mc_173, mc_174, mc_175], [mc_176, mc_177, mc_178, mc_179, mc_180, mc_181, mc_182, mc_183, mc_184, mc_185, mc_186, mc_187, mc_188, mc_189, mc_190, mc_191], [mc_192, mc_193, mc_194, mc_195, mc_196, mc_197, mc_198, mc_199, mc_200, mc_201, mc_202, mc_203, mc_204, mc_205, mc_206, mc_207], [mc_208, mc_209, mc_210, mc_211, mc_212, mc_213, mc_214, mc_215, mc_216, mc_217, mc_218, mc_219, mc_220, mc_221, mc_222, mc_223], [mc_224, mc_225, mc_226, mc_227, mc_228, mc_229, mc_230]]
def mcd (m : Nat) : List (Nat × mI) := (mcdd.getD (m / 16) []).getD (m % 16) []
def mmaxLs : List (List Nat) := [[1, 5, 1, 2, 2, 1, 2, 3, 4, 5, 3, 2, 3, 7, 2, 2], [4, 3, 5, 4, 2, 1, 1, 3, 2, 5, 3, 5, 1, 3, 1, 2], [4, 1, 3, 3, 1, 2, 2, 4, 3, 3, 4, 4, 4, 6, 1, 1], [2, 2, 5, 4, 8, 7, 1, 2, 3, 2, 6, 3, 2, 3, 3, 1], [1, 1, 2, 3, 3, 5, 3, 6, 2, 6, 3, 3, 5, 7, 4, 9], [9, 4, 1, 5, 3, 2, 7, 3, 3, 6, 5, 3, 2, 2, 5, 4], [2, 3, 4, 2, 3, 3, 6, 4, 2, 6, 6, 2, 3, 2, 6, 2], [1, 1, 1, 1, 2, 4, 2, 3, 4, 6, 3, 8, 4, 2, 2, 1], [1, 9, 3, 3, 2, 3, 1, 2, 1, 1, 4, 3, 9, 3, 3, 2], [3, 4, 6, 3, 1, 1, 2, 1, 2, 2, 1, 1, 3, 2, 2, 2], [1, 1, 1, 4, 3, 6, 2, 4, 3, 3, 2, 3, 7, 3, 2, 9], [1, 5, 3, 3, 3, 5, 3, 4, 4, 5, 5, 5, 6, 4, 7, 3], [4, 3, 11, 5, 7, 4, 7, 9, 9, 11, 2, 2, 2, 4, 2, 2], [2, 1, 2, 4, 5, 5, 5, 2, 5, 2, 3, 5, 2, 3, 5, 3], [7, 5, 4, 2, 1, 4, 4]]
def mmaxL (m : Nat) : Nat := (mmaxLs.getD (m / 16) []).getD (m % 16) 0
end
section
/-! RUNS: the code followed to its end; calls by depth -/
def mrun (K : mK) (mx : Int × Int) (m : Nat) : Nat → mG
  | 0 => fun _ _ _ _ => none
  | n + 1 => fun pc L S σ => match mfind pc (mcd m) with
    | some i => mstep K (mrun K mx m n) mx i pc L S σ
    | none => none
/-- what ends in 'g' once, or not at all -/
def mT (f : mG → mA) : Prop := (∃ a, ∀ g, f g = a) ∨ ∃ (pc : Nat) (L S : List mV) (σ : mM), ∀ g : mG, f g = g pc L S σ
theorem mT_c {a : mA} : mT (fun _ => a) := Or.inl ⟨a, fun _ => rfl⟩
theorem mT_g {pc : Nat} {L S : List mV} {σ : mM} : mT (fun g => g pc L S σ) := Or.inr ⟨pc, L, S, σ, fun _ => rfl⟩
theorem mT_b {b : Bool} {f1 f2 : mG → mA} (h1 : mT f1) (h2 : mT f2) : mT (fun g => bif b then f1 g else f2 g) := by
  cases b
  · exact h2
  · exact h1
theorem mT_i {p : Prop} [h : Decidable p] {f1 f2 : mG → mA} (h1 : mT f1) (h2 : mT f2) : mT (fun g => if p then f1 g else f2 g) := by
  by_cases hp : p
  · simp only [if_pos hp]; exact h1
  · simp only [if_neg hp]; exact h2
theorem mT_lt {x y : Int} {f1 f2 : mG → mA} (h1 : mT f1) (h2 : mT f2) : mT (fun g => bLt x y (f1 g) (f2 g)) := mT_i h1 h2
theorem mT_eq {x y : Int} {f1 f2 : mG → mA} (h1 : mT f1) (h2 : mT f2) : mT (fun g => bEq x y (f1 g) (f2 g)) := mT_i h1 h2
theorem mT_in {x y : Int} {f1 : mG → mA} (h1 : mT f1) : mT (fun g => bIn x y (f1 g)) := mT_i h1 mT_c
theorem mT_cp {x y z l1 l2 : Int} {f1 : mG → mA} (h1 : mT f1) : mT (fun g => bCp x y z l1 l2 (f1 g)) := mT_i h1 mT_c
theorem mT_k {x : mA} {f : mG → Int → mM → mA} (h : ∀ r σ, mT (fun g => f g r σ)) : mT (fun g => bK x (f g)) := by
  unfold bK
  cases x with
  | none => exact mT_c
  | some q => exact h q.1 q.2
theorem mT_1 {S : List mV} {k : mG → Int → List mV → mA} (h : ∀ x S', mT (fun g => k g x S')) : mT (fun g => mpop1 S (k g)) := by
  unfold mpop1
  cases S with
  | nil => exact mT_c
  | cons v t => exact mT_b (h _ _) mT_c
theorem mT_J {S : List mV} {k : mG → Int → List mV → mA} (h : ∀ x S', mT (fun g => k g x S')) : mT (fun g => mpopJ S (k g)) := by
  unfold mpopJ
  cases S with
  | nil => exact mT_c
  | cons v t => exact mT_b (h _ _) mT_c
theorem mT_R {S : List mV} {k : mG → Nat → Int → List mV → mA} (h : ∀ t x S', mT (fun g => k g t x S')) : mT (fun g => mpopR S (k g)) := by
  unfold mpopR
  cases S with
  | nil => exact mT_c
  | cons v t => exact mT_b (h _ _ _) mT_c
theorem mT_2 {S : List mV} {k : mG → Int → Int → List mV → mA} (h : ∀ x y S', mT (fun g => k g x y S')) : mT (fun g => mpop2 S (k g)) := mT_1 fun _ _ => mT_1 fun _ _ => h _ _ _
theorem mT_J2 {S : List mV} {k : mG → Int → Int → List mV → mA} (h : ∀ x y S', mT (fun g => k g x y S')) : mT (fun g => mpopJ2 S (k g)) := mT_J fun _ _ => mT_J fun _ _ => h _ _ _
theorem mT_p {L : List mV} {i : Nat} {v : mV} {k : mG → List mV → mA} (h : ∀ L', mT (fun g => k g L')) : mT (fun g => mput L i v (k g)) := mT_b (h _) mT_c
theorem mT_pJ {L : List mV} {i : Nat} {v : mV} {k : mG → List mV → mA} (h : ∀ L', mT (fun g => k g L')) : mT (fun g => mputJ L i v (k g)) := mT_b (h _) mT_c
theorem mT_sw {L S : List mV} {σ : mM} {x : Int} : ∀ (l : List Nat) (d : Nat), mT (fun g => msw g L S σ x l d)
  | [], d => mT_g
  | [_], d => mT_g
  | a :: t :: r, d => mT_eq mT_g (mT_sw r d)
theorem mT_A {op n : Nat} {v : Int} {ps : List Nat} {pc : Nat} {L S : List mV} {σ : mM} : mT (fun g => mstepA g op n v ps pc L S σ) := by
  unfold mstepA
  have h1 : ∀ (x : Option mV) (b : Nat → Int → Bool) (k : mG → Nat → Int → mA), (∀ t x, mT (fun g => k g t x)) → mT (fun g => match x with | some (t, x) => bif b t x then k g t x else none | none => none) := by
    intro x b k h
    cases x with
    | none => exact mT_c
    | some u => exact mT_b (h u.1 u.2) mT_c
  refine mT_b mT_g (mT_b mT_g (mT_b (h1 (L[mp ps 0]?) (fun t _ => bif Nat.blt op 8 then Nat.beq t 0 else bif Nat.blt op 10 then Nat.blt 3 t else Nat.beq t 1) (fun g t x => g (pc + n) L ((t, x) :: S) σ) fun _ _ => mT_g) (mT_b (mT_1 fun _ _ => mT_p fun _ => mT_g) (mT_b (mT_R fun _ _ _ => mT_p fun _ => mT_g) (mT_b (mT_J fun _ _ => mT_pJ fun _ => mT_g) (mT_b ?_ mT_c))))))
  exact h1 (L[mp ps 0]?) (fun t _ => Nat.beq t 0) (fun g _ x => mput L (mp ps 0) (0, w32 (x + v)) fun L' => g (pc + n) L' S σ) fun _ _ => mT_p fun _ => mT_g
theorem mT_B {op n : Nat} {pc : Nat} {L S : List mV} {σ : mM} : mT (fun g => mstepB g op n pc L S σ) := by
  unfold mstepB
  repeat' (first | exact mT_c | exact mT_g | apply mT_b | apply mT_lt | apply mT_eq | apply mT_in | apply mT_i | (apply mT_2; intro _ _ _) | (apply mT_J2; intro _ _ _) | (apply mT_1; intro _ _) | (apply mT_J; intro _ _))
theorem mT_C {op n : Nat} {ps : List Nat} {pc : Nat} {L S : List mV} {σ : mM} : mT (fun g => mstepC g op n ps pc L S σ) := by
  unfold mstepC
  have h1 : ∀ (S : List mV) (k : mG → Nat → Int → List mV → mA), (∀ t x S', mT (fun g => k g t x S')) → mT (fun g => match S with | (t, x) :: S' => bif Nat.beq t 1 then none else k g t x S' | [] => none) := by
    intro S k h
    cases S with
    | nil => exact mT_c
    | cons u t => exact mT_b mT_c (h u.1 u.2 t)
  have h2 : ∀ (S : List mV) (k : mG → Nat → Int → Nat → Int → List mV → mA), (∀ t x t2 x2 S', mT (fun g => k g t x t2 x2 S')) → mT (fun g => match S with | (t, x) :: (t2, x2) :: S' => bif Nat.beq t 1 || Nat.beq t2 1 then none else k g t x t2 x2 S' | _ => none) := by
    intro S k h
    match S with
    | [] => exact mT_c
    | [_] => exact mT_c
    | (t, x) :: (t2, x2) :: S' => exact mT_b mT_c (h t x t2 x2 S')
  refine mT_b (h1 S (fun g t x S' => g (pc + n) L ((t, x) :: (t, x) :: S') σ) fun _ _ _ => mT_g) (mT_b (h2 S (fun g t x t2 x2 S' => g (pc + n) L ((t, x) :: (t2, x2) :: (t, x) :: (t2, x2) :: S') σ) fun _ _ _ _ _ => mT_g) (mT_b (h2 S (fun g t x t2 x2 S' => g (pc + n) L ((t, x) :: (t2, x2) :: (t, x) :: S') σ) fun _ _ _ _ _ => mT_g) (mT_b (h1 S (fun g _ _ S' => g (pc + n) L S' σ) fun _ _ _ => mT_g) (mT_b mT_g (mT_b (mT_1 fun _ _ => mT_sw _ _) ?_)))))
  repeat' (first | exact mT_c | exact mT_g | apply mT_b | apply mT_lt | apply mT_eq | apply mT_in | apply mT_i | (apply mT_2; intro _ _ _) | (apply mT_1; intro _ _))
theorem mT_D {op n : Nat} {v : Int} {ps : List Nat} {pc : Nat} {L S : List mV} {σ : mM} : mT (fun g => mstepD g op n v ps pc L S σ) := by
  unfold mstepD
  repeat' (first | exact mT_c | exact mT_g | apply mT_b | apply mT_lt | apply mT_eq | apply mT_in | apply mT_i | (apply mT_1; intro _ _) | (apply mT_R; intro _ _ _) | (apply mT_J; intro _ _))
theorem mT_E {op n : Nat} {ps : List Nat} {mx : Int × Int} {pc : Nat} {L S : List mV} {σ : mM} : mT (fun g => mstepE g op n ps mx pc L S σ) := by
  unfold mstepE
  repeat' (first | exact mT_c | exact mT_g | apply mT_b | apply mT_lt | apply mT_eq | apply mT_in | apply mT_i | (apply mT_1; intro _ _) | (apply mT_R; intro _ _ _) | (apply mT_J; intro _ _))
theorem mT_F {K : mK} {op n : Nat} {ps : List Nat} {mx : Int × Int} {pc : Nat} {L S : List mV} {σ : mM} : mT (fun g => mstepF K g op n ps mx pc L S σ) := by
  unfold mstepF
  refine mT_b (mT_2 fun _ _ _ => mT_b mT_g mT_c) (mT_b (mT_2 fun _ _ _ => mT_b mT_g mT_c) (mT_b (mT_1 fun _ _ => mT_1 fun _ _ => mT_R fun _ _ _ => mT_1 fun _ _ => mT_R fun _ _ _ => mT_b (mT_cp mT_g) mT_c) (mT_b (mT_b ?_ mT_c) (mT_b (mT_b ?_ mT_c) (mT_b (mT_b ?_ mT_c) mT_c)))))
  · exact mT_k fun _ _ => mT_g
  · exact mT_k fun _ _ => mT_g
  · exact mT_k fun _ _ => mT_i mT_g mT_c
theorem mT_step (K : mK) (mx : Int × Int) (i : mI) (pc : Nat) (L S : List mV) (σ : mM) : mT (fun g => mstep K g mx i pc L S σ) := by
  unfold mstep
  exact mT_b mT_A (mT_b mT_B (mT_b mT_C (mT_b mT_D (mT_b mT_E (mT_b mT_F mT_c)))))
theorem mrun_up (K : mK) (mx : Int × Int) (m : Nat) : ∀ (n : Nat) (pc : Nat) (L S : List mV) (σ : mM) (a : Int × mM), mrun K mx m n pc L S σ = some a → mrun K mx m (n + 1) pc L S σ = some a := by
  intro n
  induction n with
  | zero => intro pc L S σ a h; cases h
  | succ n ih =>
    intro pc L S σ a h
    unfold mrun at h ⊢
    cases hi : mfind pc (mcd m) with
    | none => rw [hi] at h; cases h
    | some i =>
      rw [hi] at h
      rcases mT_step K mx i pc L S σ with ⟨b, hb⟩ | ⟨pc', L', S', σ', hb⟩
      · have hb := hb
        simp only at h hb ⊢
        rw [hb] at h ⊢
        exact h
      · simp only at h hb ⊢
        rw [hb] at h ⊢
        exact ih _ _ _ _ _ h
theorem mrun_le (K : mK) (mx : Int × Int) (m : Nat) {n n' : Nat} (hn : n ≤ n') {pc : Nat} {L S : List mV} {σ : mM} {a : Int × mM} (h : mrun K mx m n pc L S σ = some a) : mrun K mx m n' pc L S σ = some a := by
  induction hn with
  | refl => exact h
  | step _ ih => exact mrun_up K mx m _ _ _ _ _ _ ih
noncomputable def mgo (K : mK) (mx : Int × Int) (m : Nat) : mG := fun pc L S σ =>
  @dite _ (∃ a, ∃ n, mrun K mx m n pc L S σ = some a) (Classical.propDecidable _) (fun h => some (Classical.choose h)) (fun _ => none)
theorem mgo_iff {K : mK} {mx : Int × Int} {m pc : Nat} {L S : List mV} {σ : mM} {a : Int × mM} : mgo K mx m pc L S σ = some a ↔ ∃ n, mrun K mx m n pc L S σ = some a := by
  unfold mgo
  constructor
  · intro h
    split at h
    · next hx => cases h; exact Classical.choose_spec hx
    · cases h
  · rintro ⟨n, hn⟩
    have hx : ∃ a, ∃ n, mrun K mx m n pc L S σ = some a := ⟨a, n, hn⟩
    rw [dif_pos hx]
    obtain ⟨n2, hn2⟩ := Classical.choose_spec hx
    have h1 := mrun_le K mx m (Nat.le_max_left n n2) hn
    have h2 := mrun_le K mx m (Nat.le_max_right n n2) hn2
    exact h2.symm.trans h1
theorem mgo_step (K : mK) (mx : Int × Int) (m pc : Nat) (L S : List mV) (σ : mM) : mgo K mx m pc L S σ = match mfind pc (mcd m) with
    | some i => mstep K (mgo K mx m) mx i pc L S σ
    | none => none := by
  apply Option.ext
  intro a
  rw [mgo_iff]
  constructor
  · rintro ⟨n, h⟩
    cases n with
    | zero => cases h
    | succ n =>
      unfold mrun at h
      cases hi : mfind pc (mcd m) with
      | none => rw [hi] at h; cases h
      | some i =>
        rw [hi] at h
        rcases mT_step K mx i pc L S σ with ⟨b, hb⟩ | ⟨pc', L', S', σ', hb⟩
        · simp only at h hb ⊢
          rw [hb] at h ⊢
          exact h
        · simp only at h hb ⊢
          rw [hb] at h ⊢
          exact mgo_iff.mpr ⟨n, h⟩
  · intro h
    cases hi : mfind pc (mcd m) with
    | none => rw [hi] at h; cases h
    | some i =>
      rw [hi] at h
      rcases mT_step K mx i pc L S σ with ⟨b, hb⟩ | ⟨pc', L', S', σ', hb⟩
      · simp only at h hb
        rw [hb] at h
        refine ⟨1, ?_⟩
        unfold mrun
        rw [hi]
        simp only
        rw [hb]
        exact h
      · simp only at h hb
        rw [hb] at h
        obtain ⟨n, hn⟩ := mgo_iff.mp h
        refine ⟨n + 1, ?_⟩
        unfold mrun
        rw [hi]
        simp only
        rw [hb]
        exact hn
/-- n instructions at most, up to the next of some places -/
def mblk (K : mK) (mx : Int × Int) (m : Nat) (g : mG) (st : List Nat) : Nat → mG
  | 0 => g
  | n + 1 => fun pc L S σ => match mfind pc (mcd m) with
    | some i => mstep K (fun pc L S σ => bif st.any (Nat.beq pc) then g pc L S σ else mblk K mx m g st n pc L S σ) mx i pc L S σ
    | none => none
theorem mgo_blk (K : mK) (mx : Int × Int) (m : Nat) (st : List Nat) (n pc : Nat) (L S : List mV) (σ : mM) : mgo K mx m pc L S σ = mblk K mx m (mgo K mx m) st n pc L S σ := by
  induction n generalizing pc L S σ with
  | zero => rfl
  | succ n ih =>
    rw [mgo_step]
    unfold mblk
    have e : (fun pc L S σ => bif st.any (Nat.beq pc) then mgo K mx m pc L S σ else mblk K mx m (mgo K mx m) st n pc L S σ) = mgo K mx m := by
      funext pc L S σ
      cases st.any (Nat.beq pc)
      · exact (ih pc L S σ).symm
      · rfl
    rw [e]
def mexp : List mV → List mV
  | [] => []
  | v :: t => bif Nat.beq (mkd v) 1 then v :: (2, 0) :: mexp t else v :: mexp t
def mentry (m : Nat) (args : List mV) : List mV := mexp args ++ List.replicate (mmaxL m - (mexp args).length) (2, 0)
noncomputable def mcall : Nat → mK
  | 0 => fun _ _ _ => none
  | d + 1 => fun m args σ => bif Nat.ble (mexp args).length (mmaxL m) then mgo (mcall d) (σ 905 0 + (mal m : Int), σ 905 1 + (msl m : Int)) m 0 (mentry m args) [] σ else none
theorem mcall_blk (d m : Nat) (st : List Nat) (n : Nat) (as : List mV) (σ : mM) (h : Nat.ble (mexp as).length (mmaxL m) = true) : mcall (d + 1) m as σ = mblk (mcall d) (σ 905 0 + (mal m : Int), σ 905 1 + (msl m : Int)) m (mgo (mcall d) (σ 905 0 + (mal m : Int), σ 905 1 + (msl m : Int)) m) st n 0 (mentry m as) [] σ := by
  rw [← mgo_blk]
  show (bif Nat.ble (mexp as).length (mmaxL m) then _ else none) = _
  rw [h]
  rfl
def mX (m : Nat) (σ : mM) : Int × Int := (σ 905 0 + (mal m : Int), σ 905 1 + (msl m : Int))
end
section
/-! SOUNDNESS 1: numbers, values, locals, cells -/
def in32 (x : Int) : Prop := -2147483648 ≤ x ∧ x < 2147483648
def in64 (x : Int) : Prop := -9223372036854775808 ≤ x ∧ x < 9223372036854775808
theorem w32_in (x : Int) : in32 (w32 x) := by unfold in32 w32; omega
theorem w64_in (x : Int) : in64 (w64 x) := by unfold in64 w64; omega
theorem w32_id {x : Int} (h : in32 x) : w32 x = x := by unfold in32 at h; unfold w32; omega
theorem w64_id {x : Int} (h : in64 x) : w64 x = x := by unfold in64 at h; unfold w64; omega
theorem i32_t {x : Int} (h : in32 x) : (Int32.ofInt x).toInt = x := Int32.toInt_ofInt_of_le (by have := h.1; omega) (by have := h.2; omega)
theorem i64_t {x : Int} (h : in64 x) : (Int64.ofInt x).toInt = x := Int64.toInt_ofInt_of_le (by have := h.1; omega) (by have := h.2; omega)
theorem i32_in (x : Int32) : in32 x.toInt := ⟨by have := Int32.le_toInt x; omega, by have := Int32.toInt_lt x; omega⟩
theorem i64_in (x : Int64) : in64 x.toInt := ⟨by have := Int64.le_toInt x; omega, by have := Int64.toInt_lt x; omega⟩
theorem w32_of (x : Int) : Int32.ofInt (w32 x) = Int32.ofInt x := by
  apply Int32.toInt_inj.mp
  rw [Int32.toInt_ofInt, Int32.toInt_ofInt]
  show Int.bmod (w32 x) 4294967296 = Int.bmod x 4294967296
  unfold w32
  rw [Int.bmod_def, Int.bmod_def]
  split <;> split <;> omega
theorem w64_of (x : Int) : Int64.ofInt (w64 x) = Int64.ofInt x := by
  apply Int64.toInt_inj.mp
  rw [Int64.toInt_ofInt, Int64.toInt_ofInt]
  show Int.bmod (w64 x) 18446744073709551616 = Int.bmod x 18446744073709551616
  unfold w64
  rw [Int.bmod_def, Int.bmod_def]
  split <;> split <;> omega
theorem i32_eq {x y : Int} (hx : in32 x) (hy : in32 y) : Int32.ofInt x = Int32.ofInt y ↔ x = y :=
  ⟨fun h => by have := congrArg Int32.toInt h; rwa [i32_t hx, i32_t hy] at this, fun h => by rw [h]⟩
theorem i32_lt {x y : Int} (hx : in32 x) (hy : in32 y) : Int32.ofInt x < Int32.ofInt y ↔ x < y := by rw [Int32.lt_iff_toInt_lt, i32_t hx, i32_t hy]
theorem i32_le {x y : Int} (hx : in32 x) (hy : in32 y) : Int32.ofInt x ≤ Int32.ofInt y ↔ x ≤ y := by rw [Int32.le_iff_toInt_le, i32_t hx, i32_t hy]
theorem in32_0 : in32 0 := by unfold in32; omega
theorem i32_0 : (0 : Int32) = Int32.ofInt 0 := rfl
theorem i64_lt {x y : Int} (hx : in64 x) (hy : in64 y) : Int64.ofInt x < Int64.ofInt y ↔ x < y := by rw [Int64.lt_iff_toInt_lt, i64_t hx, i64_t hy]
theorem i64_eq {x y : Int} (hx : in64 x) (hy : in64 y) : Int64.ofInt x = Int64.ofInt y ↔ x = y :=
  ⟨fun h => by have := congrArg Int64.toInt h; rwa [i64_t hx, i64_t hy] at this, fun h => by rw [h]⟩
theorem i32_div {x y : Int} (hx : in32 x) (hy : in32 y) : Int32.ofInt (w32 (x.tdiv y)) = Int32.ofInt x / Int32.ofInt y := by
  apply Int32.toInt_inj.mp
  rw [w32_of, Int32.toInt_ofInt, Int32.toInt_div, i32_t hx, i32_t hy]
theorem i32_rem {x y : Int} (hx : in32 x) (hy : in32 y) : Int32.ofInt (x.tmod y) = Int32.ofInt x - Int32.ofInt x / Int32.ofInt y * Int32.ofInt y := by
  rw [← i32_div hx hy, w32_of, ← Int32.ofInt_mul, ← Int32.ofInt_sub]
  congr 1
  have := Int.mul_tdiv_add_tmod x y
  have e : y * x.tdiv y = x.tdiv y * y := Int.mul_comm _ _
  omega
theorem tmod_in {x y : Int} (hx : in32 x) : in32 (x.tmod y) := by
  unfold in32 at hx ⊢
  have h1 : (x.tmod y).natAbs ≤ x.natAbs := by
    rw [Int.natAbs_tmod]
    exact Nat.mod_le _ _
  have h2 : 0 ≤ x → 0 ≤ x.tmod y := fun h => Int.tmod_nonneg y h
  have h3 : x ≤ 0 → x.tmod y ≤ 0 := fun h => by
    have h4 : 0 ≤ (-x).tmod y := Int.tmod_nonneg y (by omega)
    rw [Int.neg_tmod] at h4
    omega
  omega
theorem w8_of (x : Int) : (Int32.ofInt x).toInt8.toInt32 = Int32.ofInt ((x + 128) % 256 - 128) := by
  apply Int32.toInt_inj.mp
  rw [Int8.toInt_toInt32, Int32.toInt8_ofInt, Int8.toInt_ofInt, i32_t (by unfold in32; omega)]
  show Int.bmod x 256 = _
  rw [Int.bmod_def]
  split <;> omega
theorem w16_of (x : Int) : (Int32.ofInt x).toInt16.toInt32 = Int32.ofInt ((x + 32768) % 65536 - 32768) := by
  apply Int32.toInt_inj.mp
  rw [Int16.toInt_toInt32, Int32.toInt16_ofInt, Int16.toInt_ofInt, i32_t (by unfold in32; omega)]
  show Int.bmod x 65536 = _
  rw [Int.bmod_def]
  split <;> omega
theorem bi_of {v : Int} (h : -128 ≤ v ∧ v < 128) : (Int8.ofInt v).toInt32 = Int32.ofInt v := by
  apply Int32.toInt_inj.mp
  rw [Int8.toInt_toInt32, Int8.toInt_ofInt, i32_t (by unfold in32; omega)]
  show Int.bmod v 256 = _
  rw [Int.bmod_def]
  split <;> omega
theorem si_of {v : Int} (h : -32768 ≤ v ∧ v < 32768) : (Int16.ofInt v).toInt32 = Int32.ofInt v := by
  apply Int32.toInt_inj.mp
  rw [Int16.toInt_toInt32, Int16.toInt_ofInt, i32_t (by unfold in32; omega)]
  show Int.bmod v 65536 = _
  rw [Int.bmod_def]
  split <;> omega
theorem i2l_of {x : Int} (h : in32 x) : (Int32.ofInt x).toInt64 = Int64.ofInt x := by
  apply Int64.toInt_inj.mp
  rw [Int32.toInt_toInt64, i32_t h, i64_t (by unfold in32 at h; unfold in64; omega)]
theorem l2i_of (x : Int) : (Int64.ofInt x).toInt32 = Int32.ofInt (w32 x) := by rw [w32_of, Int64.toInt32_ofInt]
end
section
/-! the world's data: base, class data, classes of arrays, the constant rows' addresses, lengths, contents (0 MOST, 1 ABOVE, 2 BODIES, 3 the script) -/
abbrev mW : Type := Nat × va_G × (Nat → ClassId) × (Nat → Nat) × (Nat → Nat) × (Nat → Nat → Int)
def mb (w : mW) : Nat := w.1
def mdd (w : mW) : va_G := w.2.1
def mty (w : mW) (k : Nat) : ClassId := w.2.2.1 k
def mea (w : mW) (k : Nat) : Nat := w.2.2.2.1 k
def mel (w : mW) (k : Nat) : Nat := w.2.2.2.2.1 k
def mex (w : mW) (k j : Nat) : Int := w.2.2.2.2.2 k j
def mAr (w : mW) (q : Nat) : Prop := mb w ≤ q
def madr (w : mW) (c : Nat) : Nat := if c < 900 then mb w + c else mea w (c - 900)
def mrep (w : mW) (v : mV) : Value := if v.1 = 0 then .int (Int32.ofInt v.2) else if v.1 = 1 then .long (Int64.ofInt v.2) else .ref (madr w v.2.toNat)
theorem mrep_i (w : mW) (x : Int) : mrep w (0, x) = .int (Int32.ofInt x) := rfl
theorem mrep_l (w : mW) (x : Int) : mrep w (1, x) = .long (Int64.ofInt x) := rfl
theorem mrep_r (w : mW) {t : Nat} (ht : 3 < t) (x : Int) : mrep w (t, x) = .ref (madr w x.toNat) := by
  unfold mrep
  rw [if_neg (show ¬ t = 0 by omega), if_neg (show ¬ t = 1 by omega)]
theorem mrep_cat (w : mW) (v : mV) : (mrep w v).category = mcat v := by
  obtain ⟨t, x⟩ := v
  unfold mrep mcat
  by_cases h0 : t = 0
  · subst h0; rfl
  · by_cases h1 : t = 1
    · subst h1; rfl
    · rw [if_neg h0, if_neg h1]
      have : Nat.beq t 1 = false := by
        cases h : Nat.beq t 1
        · rfl
        · exact absurd (Nat.eq_of_beq_eq_true h) h1
      simp [this, Value.category]
def mtys (w : mW) : List (ClassId × FieldType) := [(mty w 0, .int), (mty w 1, .boolean), (mty w 2, .long), (mty w 3, .object RX3)]
def mfv (w : mW) (ft : Nat) (x : Int) : Value := if ft = 0 then .int (Int32.ofInt x) else if x < 0 then .null else .ref (madr w x.toNat)
def mcell (w : mW) (σ : mM) (c : Nat) : va_E :=
  if mlay c < 1000 then .inr (mlay c - 20, (List.range (mNf (mlay c - 20))).map fun k => mfv w (mft (mlay c - 20) k) (σ c k))
  else if mlay c < 2000 then .inl (mty w 0, mlay c - 1000, .inl fun j => Int32.ofInt (σ c j))
  else if mlay c < 3000 then .inl (mty w 1, mlay c - 2000, .inl fun j => Int32.ofInt (σ c j))
  else if mlay c < 9000 then .inl (mty w 2, mlay c - 3000, .inr (.inl fun j => Int64.ofInt (σ c j)))
  else .inl (mty w 3, mlay c - 9000, .inr (.inr (.inr (.inr fun j => if σ c j < 0 then none else some (madr w (σ c j).toNat)))))
theorem mcell_congr (w : mW) {σ σ' : mM} {c : Nat} (h : ∀ j, σ c j = σ' c j) : mcell w σ c = mcell w σ' c := by
  have e : σ c = σ' c := funext h
  unfold mcell
  rw [e]
def mws (w : mW) (σ : mM) : va_W := (List.range (mz σ 0)).map fun c => (mb w + c, mcell w σ c)
theorem mws_get {w : mW} {σ : mM} {c : Nat} (h : c < mz σ 0) : (mws w σ)[c]? = some (mb w + c, mcell w σ c) := by
  unfold mws
  rw [List.getElem?_map, List.getElem?_range h]
  rfl
theorem mws_of {w : mW} {σ : mM} {k : Nat} {q : Nat × va_E} (h : (mws w σ)[k]? = some q) : k < mz σ 0 ∧ q = (mb w + k, mcell w σ k) := by
  have hl : k < (mws w σ).length := (List.getElem?_eq_some_iff.mp h).1
  have hk : k < mz σ 0 := by simpa [mws] using hl
  rw [mws_get hk] at h
  exact ⟨hk, (Option.some.inj h).symm⟩
theorem mws_D (w : mW) (σ : mM) : va_D (mAr w) (mws w σ) := by
  refine ⟨fun i j p q hi hj e => ?_, fun k q hk => ?_⟩
  · obtain ⟨-, rfl⟩ := mws_of hi
    obtain ⟨-, rfl⟩ := mws_of hj
    have e : mb w + i = mb w + j := e
    omega
  · obtain ⟨-, rfl⟩ := mws_of hk
    exact Nat.le_add_right _ _
/-- what a reference of a kind may be, where n cells are made -/
def okR (n t : Nat) (x : Int) : Prop := ∃ c : Nat, x = (c : Int) ∧ ((c < n ∧ mlay c = t ∧ 20 ≤ t ∧ (t < 4000 ∨ 9000 ≤ t)) ∨ (t = 4 ∧ c = 903) ∨ (t = 7008 ∧ c = 900) ∨ (t = 7108 ∧ c = 901) ∨ (t = 7232 ∧ c = 902))
def okV (n : Nat) (v : mV) : Prop := (v.1 = 0 → in32 v.2) ∧ (v.1 = 1 → in64 v.2) ∧ (3 < v.1 → okR n v.1 v.2)
theorem okR.mono {n n' t : Nat} {x : Int} (h : okR n t x) (hn : n ≤ n') : okR n' t x := by
  obtain ⟨c, e, h⟩ := h
  refine ⟨c, e, ?_⟩
  rcases h with ⟨h1, h2⟩ | h
  · exact Or.inl ⟨by omega, h2⟩
  · exact Or.inr h
theorem okV.mono {n n' : Nat} {v : mV} (h : okV n v) (hn : n ≤ n') : okV n' v := ⟨h.1, h.2.1, fun q => (h.2.2 q).mono hn⟩
theorem okV_i {n : Nat} {x : Int} (h : in32 x) : okV n (0, x) := ⟨fun _ => h, fun (q : 0 = 1) => by omega, fun (q : 3 < 0) => by omega⟩
theorem okV_l {n : Nat} {x : Int} (h : in64 x) : okV n (1, x) := ⟨fun (q : 1 = 0) => by omega, fun _ => h, fun (q : 3 < 1) => by omega⟩
theorem okV_r {n t : Nat} {x : Int} (ht : 3 < t) (h : okR n t x) : okV n (t, x) := ⟨fun (q : t = 0) => by omega, fun (q : t = 1) => by omega, fun _ => h⟩
def okF (n t k : Nat) (x : Int) : Prop := (t < 1000 → (mft (t - 20) k = 0 → in32 x) ∧ (mft (t - 20) k ≠ 0 → x = -1 ∨ okR n (mft (t - 20) k) x)) ∧ (1000 ≤ t → t < 3000 → in32 x) ∧ (3000 ≤ t → t < 9000 → in64 x) ∧ (9000 ≤ t → x = -1 ∨ okR n 23 x)
def okM (w : mW) (σ : mM) : Prop := (0 ≤ σ 905 0 ∧ mz σ 0 ≤ 95) ∧ (∀ c, c < mz σ 0 → ∀ k, okF (mz σ 0) (mlay c) k (σ c k)) ∧ (∀ k, k < 4 → ∀ j, σ (900 + k) j = mex w k j) ∧ σ 904 0 = (mel w 3 : Int)
def mFX (σ : mM) : Prop := (∀ c, c < mz σ 0 → mlay c < 1000 → ∀ k r, mfx (mlay c - 20) k = some r → σ c k = (c : Int) + r ∧ 0 ≤ σ c k) ∧ (∀ c, c < mz σ 0 → mlay c = 9006 → (∀ j : Nat, j < 6 → σ c j = (c : Int) + 1 + 2 * (j : Int))) ∧ mz σ 0 = 95
theorem mset_ne {σ : mM} {c i a j : Nat} {v : Int} (h : a ≠ c) : mset σ c i v a j = σ a j := by
  unfold mset
  rw [if_neg (fun q => h q.1)]
theorem mset_eq {σ : mM} {c i : Nat} {v : Int} : mset σ c i v c i = v := by
  unfold mset
  rw [if_pos ⟨rfl, rfl⟩]
theorem mset_nj {σ : mM} {c i j : Nat} {v : Int} (h : j ≠ i) : mset σ c i v c j = σ c j := by
  unfold mset
  rw [if_neg (fun q => h q.2)]
theorem mz_set {σ : mM} {c i k : Nat} {v : Int} (h : c < 900) : mz (mset σ c i v) k = mz σ k := by
  unfold mz
  rw [mset_ne (by omega)]
theorem okM_set {w : mW} {σ : mM} {c k : Nat} {v : Int} (h : okM w σ) (hc : c < mz σ 0) (hv : okF (mz σ 0) (mlay c) k v) : okM w (mset σ c k v) := by
  obtain ⟨h1, h2, h3, h4⟩ := h
  have hc9 : c < 900 := by omega
  refine ⟨⟨by rw [mset_ne (by omega)]; exact h1.1, by rw [mz_set hc9]; exact h1.2⟩, fun a ha j => ?_, fun i hi j => by rw [mset_ne (by omega)]; exact h3 i hi j, by rw [mset_ne (by omega)]; exact h4⟩
  rw [mz_set hc9] at ha ⊢
  by_cases e : a = c
  · subst e
    by_cases e2 : j = k
    · subst e2
      rw [mset_eq]
      exact hv
    · rw [mset_nj e2]
      exact h2 a ha j
  · rw [mset_ne e]
    exact h2 a ha j
theorem mFX_set {σ : mM} {c k : Nat} {v : Int} (h : mFX σ) (hc : c < 900) (h1 : mlay c < 1000 → mfx (mlay c - 20) k = none) (h2 : mlay c ≠ 9006) : mFX (mset σ c k v) := by
  refine ⟨fun a ha hl i r hr => ?_, fun a ha hl j hj => ?_, by rw [mz_set hc]; exact h.2.2⟩
  · rw [mz_set hc] at ha
    by_cases e : a = c
    · subst e
      by_cases e2 : i = k
      · subst e2
        rw [h1 hl] at hr
        cases hr
      · rw [mset_nj e2]
        exact h.1 a ha hl i r hr
    · rw [mset_ne e]
      exact h.1 a ha hl i r hr
  · rw [mz_set hc] at ha
    rw [mset_ne (fun e => h2 (by rw [← e]; exact hl))]
    exact h.2.1 a ha hl j hj
end
section
theorem mws_len (w : mW) (σ : mM) : (mws w σ).length = mz σ 0 := by
  unfold mws
  rw [List.length_map, List.length_range]
theorem mws_set {w : mW} {σ : mM} {c k : Nat} {v : Int} {x : va_E} (hc : c < 900) (he : mcell w (mset σ c k v) c = x) : (mws w σ).set c (mb w + c, x) = mws w (mset σ c k v) := by
  subst he
  apply List.ext_getElem?
  intro i
  have hz : mz (mset σ c k v) 0 = mz σ 0 := mz_set hc
  by_cases hi : i < mz σ 0
  · rw [mws_get (σ := mset σ c k v) (by rw [hz]; exact hi)]
    by_cases e : c = i
    · subst e
      exact List.getElem?_set_self (by rw [mws_len]; exact hi)
    · rw [List.getElem?_set_ne e, mws_get hi, mcell_congr w (σ := σ) (σ' := mset σ c k v) (fun j => (mset_ne (fun q => e q.symm)).symm)]
  · rw [List.getElem?_eq_none (by rw [List.length_set, mws_len]; omega), List.getElem?_eq_none (by rw [mws_len, hz]; omega)]
theorem mz_pos {w : mW} {σ : mM} (h : okM w σ) : ((mz σ 0 : Nat) : Int) = σ 905 0 := by
  have := h.1.1
  unfold mz
  omega
end
section
/-! locals -/
def mlv (w : mW) : Nat → List mV → List (Nat × Value)
  | _, [] => []
  | i, v :: t => if v.1 = 2 then mlv w (i + 1) t else (i, mrep w v) :: mlv w (i + 1) t
theorem mlv_mem {w : mW} {L : List mV} : ∀ {k : Nat} {q : Nat × Value}, q ∈ mlv w k L ↔ ∃ (j : Nat) (v : mV), L[j]? = some v ∧ v.1 ≠ 2 ∧ q = (k + j, mrep w v) := by
  induction L with
  | nil => intro k q; simp [mlv]
  | cons u t ih =>
    intro k q
    unfold mlv
    constructor
    · intro h
      by_cases hu : u.1 = 2
      · rw [if_pos hu] at h
        obtain ⟨j, v, h1, h2, h3⟩ := ih.mp h
        exact ⟨j + 1, v, by simpa using h1, h2, by rw [h3]; congr 1; omega⟩
      · rw [if_neg hu] at h
        rcases List.mem_cons.mp h with rfl | h
        · exact ⟨0, u, rfl, hu, rfl⟩
        · obtain ⟨j, v, h1, h2, h3⟩ := ih.mp h
          exact ⟨j + 1, v, by simpa using h1, h2, by rw [h3]; congr 1; omega⟩
    · rintro ⟨j, v, h1, h2, h3⟩
      cases j with
      | zero =>
        have e : u = v := by simpa using h1
        subst e
        rw [if_neg h2, h3]
        exact List.mem_cons_self
      | succ j =>
        have h4 : q ∈ mlv w (k + 1) t := ih.mpr ⟨j, v, by simpa using h1, h2, by rw [h3]; congr 1; omega⟩
        by_cases hu : u.1 = 2
        · rw [if_pos hu]; exact h4
        · rw [if_neg hu]; exact List.mem_cons_of_mem _ h4
def mLr (w : mW) (nL : Nat) (L : List mV) (ls : Array Slot) : Prop := L.length = nL ∧ lv_has ls nL (mlv w 0 L)
theorem mLr_get {w : mW} {nL : Nat} {L : List mV} {ls : Array Slot} (h : mLr w nL L ls) {i : Nat} {v : mV} (hi : L[i]? = some v) (hv : v.1 ≠ 2) : ls[i]? = some (.val (mrep w v)) :=
  h.2.2.2 (i, mrep w v) (mlv_mem.mpr ⟨i, v, hi, hv, by rw [Nat.zero_add]⟩)
theorem mcat_2 {v : mV} (h : mcat v = 2) : v.1 = 1 := by
  obtain ⟨t, x⟩ := v
  have h : (bif Nat.beq t 1 then 2 else 1) = 2 := h
  cases hb : Nat.beq t 1
  · rw [hb] at h; cases h
  · exact Nat.eq_of_beq_eq_true hb
theorem mLr_set {w : mW} {nL : Nat} {L : List mV} {ls' : Array Slot} {i : Nat} {v : mV} (hL : L.length = nL) (hi : i < nL) (hp : i = 0 ∨ (L.getD (i - 1) (2, 0)).1 ≠ 1)
    (h' : lv_has ls' nL ((i, mrep w v) :: (mlv w 0 L).filter (fun q => !(q.1 == i) && !(q.1 + 1 == i && q.2.category == 2)))) : mLr w nL (L.set i v) ls' := by
  refine ⟨by rw [List.length_set]; exact hL, h'.1, h'.2.1, fun q hq => h'.2.2 q ?_⟩
  obtain ⟨j, u, h1, h2, h3⟩ := mlv_mem.mp hq
  rw [Nat.zero_add] at h3
  by_cases e : i = j
  · subst e
    rw [List.getElem?_set_self (by omega)] at h1
    cases h1
    rw [h3]
    exact List.mem_cons_self
  · rw [List.getElem?_set_ne e] at h1
    refine List.mem_cons_of_mem _ (List.mem_filter.mpr ⟨mlv_mem.mpr ⟨j, u, h1, h2, by rw [Nat.zero_add]; exact h3⟩, ?_⟩)
    subst h3
    simp only [Bool.and_eq_true, Bool.not_eq_true', beq_eq_false_iff_ne, ne_eq, Bool.and_eq_false_iff]
    refine ⟨fun q => e q.symm, ?_⟩
    by_cases e2 : j + 1 = i
    · right
      rw [mrep_cat]
      intro q
      have h1' := mcat_2 q
      rcases hp with h | h
      · omega
      · apply h
        have e3 : i - 1 = j := by omega
        rw [e3, List.getD_eq_getElem?_getD, h1]
        exact h1'
    · left
      exact e2
theorem mLr_setJ {w : mW} {nL : Nat} {L : List mV} {ls' : Array Slot} {i : Nat} {v : mV} (hL : L.length = nL) (hi : i + 1 < nL) (hp : i = 0 ∨ (L.getD (i - 1) (2, 0)).1 ≠ 1)
    (h' : lv_has ls' nL ((i, mrep w v) :: (mlv w 0 L).filter (fun q => !(q.1 == i) && (!(q.1 == i + 1) && !(q.1 + 1 == i && q.2.category == 2))))) : mLr w nL ((L.set i v).set (i + 1) (2, 0)) ls' := by
  refine ⟨by rw [List.length_set, List.length_set]; exact hL, h'.1, h'.2.1, fun q hq => h'.2.2 q ?_⟩
  obtain ⟨j, u, h1, h2, h3⟩ := mlv_mem.mp hq
  rw [Nat.zero_add] at h3
  by_cases e1 : i + 1 = j
  · subst e1
    rw [List.getElem?_set_self (by rw [List.length_set]; omega)] at h1
    cases h1
    exact absurd rfl h2
  rw [List.getElem?_set_ne e1] at h1
  by_cases e : i = j
  · subst e
    rw [List.getElem?_set_self (by omega)] at h1
    cases h1
    rw [h3]
    exact List.mem_cons_self
  · rw [List.getElem?_set_ne e] at h1
    refine List.mem_cons_of_mem _ (List.mem_filter.mpr ⟨mlv_mem.mpr ⟨j, u, h1, h2, by rw [Nat.zero_add]; exact h3⟩, ?_⟩)
    subst h3
    simp only [Bool.and_eq_true, Bool.not_eq_true', beq_eq_false_iff_ne, ne_eq, Bool.and_eq_false_iff]
    refine ⟨fun q => e q.symm, fun q => e1 q.symm, ?_⟩
    by_cases e2 : j + 1 = i
    · right
      rw [mrep_cat]
      intro q
      have h1' := mcat_2 q
      rcases hp with h | h
      · omega
      · apply h
        have e3 : i - 1 = j := by omega
        rw [e3, List.getD_eq_getElem?_getD, h1]
        exact h1'
    · left
      exact e2
end
section
/-! SOUNDNESS 2: a method's frame; instructions of the stack alone -/
/-- the words that stay when the tables warm -/
def mWS : List Cond := lw_tbl.filter goodWord
def mEXT (w : mW) (U : State) (H : Heap) : Prop :=
  (∀ k, k < 4 → va_X (mea w k) (mel w k) (fun j => Int32.ofInt (mex w k j)) U H ∧ mea w k < mb w ∧ ∀ j, in32 (mex w k j)) ∧ (mel w 0 = 8 ∧ mel w 1 = 8 ∧ mel w 2 = 32 ∧ mel w 3 ≤ 3072) ∧
  va_Z RX9 "MOST" "[I" (.ref (mea w 0)) (mAr w) U H ∧ va_Z RX5 "ABOVE" "[I" (.ref (mea w 1)) (mAr w) U H ∧ va_Z RX5 "BODIES" "[I" (.ref (mea w 2)) (mAr w) U H
/-- a nest mate's word -/
def mNest : Cond → Bool
  | .methodLinkNest _ _ _ _ => true
  | .fieldLinkNest _ _ _ _ _ _ => true
  | _ => false
def mNW (U : State) : Prop := (∀ x ∈ lw_tbl, mNest x = true → va_Nw x U) ∧ va_AO RX3 U
/-- what holds in a method's frame: the machine, its code, the tables' words, the world's classes, the constant rows, room -/
def mF (p : Program) (R : Room) (s : State) (args : Array Value) (m : MethodId) (c : Code) (w : mW) (own : String) (cc : ByteArray) (nL : Nat) : Prop :=
  p.tables.exec = Jvm.exec ∧ c.code = cc ∧ c.maxLocals = nL ∧ s.vm.findClass own = some m.cls ∧ (∀ x ∈ mWS, x.before args s = true) ∧ mNW s ∧ va_K (mdd w) vwCl (mtys w) s ∧ mEXT w s s.heap ∧ mb w ≤ s.heap.size ∧ 1 ≤ R.frames ∧ 60 ≤ R.locals
def mWd (ct : Bool) (w : mW) (σ : mM) (H : Heap) : Prop := okM w σ ∧ (ct = false → mFX σ) ∧ va_P (mdd w) vwCl (mws w σ) H
def mAcc (ct : Bool) (R : Room) (n0 s0 : Int) (σ : mM) (cells slots : Nat) : Prop := cells ≤ R.cells ∧ slots ≤ R.slots ∧ (ct = true → (cells : Int) = σ 905 0 - n0 ∧ (slots : Int) = σ 905 1 - s0) ∧ (ct = false → cells = 0 ∧ slots = 0)
def mGoal (p : Program) (l : Launch) (e : Env) (R : Room) (s : State) (m : MethodId) (args : Array Value) (below : List Frame) (meth : Method) (c : Code) (Q : State → Prop) (w : mW) (ct : Bool) (nL : Nat) (n0 s0 : Int) (pc : Nat) (L S : List mV) (σ : mM) : Prop :=
  ∀ (H : Heap) (locs : List Loc) (cells slots : Nat) (ls : Array Slot), mLr w nL L ls → (∀ v ∈ L, okV (mz σ 0) v) → (∀ v ∈ S, okV (mz σ 0) v) → mWd ct w σ H → va_S (mAr w) s.heap H locs → mAcc ct R n0 s0 σ cells slots →
    W p l e R s m args below meth c H locs cells slots Q (F0 m pc ls (S.map (mrep w)))
section
variable {p : Program} {l : Launch} {e : Env} {R : Room} {s : State} {m : MethodId} {args : Array Value} {below : List Frame} {meth : Method} {c : Code} {Q : State → Prop} {w : mW} {ct : Bool} {nL : Nat} {n0 s0 : Int} {own : String} {cc : ByteArray} {pc pc2 : Nat} {L S S2 : List mV} {σ : mM}
/-- an instruction that moves the stack alone -/
theorem so_st (hrow : ∀ (H : Heap) (locs : List Loc) (cells slots : Nat) (ls : Array Slot), mLr w nL L ls → (∀ v ∈ S, okV (mz σ 0) v) → (∀ v ∈ L, okV (mz σ 0) v) → W p l e R s m args below meth c H locs cells slots Q (F0 m pc2 ls (S2.map (mrep w))) → W p l e R s m args below meth c H locs cells slots Q (F0 m pc ls (S.map (mrep w))))
    (hok : (∀ v ∈ S, okV (mz σ 0) v) → (∀ v ∈ L, okV (mz σ 0) v) → ∀ v ∈ S2, okV (mz σ 0) v) (k : mGoal p l e R s m args below meth c Q w ct nL n0 s0 pc2 L S2 σ) : mGoal p l e R s m args below meth c Q w ct nL n0 s0 pc L S σ :=
  fun H locs cells slots ls hL okL okS hW hS hA => hrow H locs cells slots ls hL okS okL (k H locs cells slots ls hL okL (hok okS okL) hW hS hA)
/-- a branch -/
theorem so_br {P : Prop} {pc3 : Nat} {S3 : List mV} (hrow : ∀ (H : Heap) (locs : List Loc) (cells slots : Nat) (ls : Array Slot), (∀ v ∈ S, okV (mz σ 0) v) → (P → W p l e R s m args below meth c H locs cells slots Q (F0 m pc2 ls (S3.map (mrep w)))) → (¬ P → W p l e R s m args below meth c H locs cells slots Q (F0 m pc3 ls (S3.map (mrep w)))) → W p l e R s m args below meth c H locs cells slots Q (F0 m pc ls (S.map (mrep w))))
    (hok : ∀ v ∈ S3, v ∈ S) (k1 : P → mGoal p l e R s m args below meth c Q w ct nL n0 s0 pc2 L S3 σ) (k2 : ¬ P → mGoal p l e R s m args below meth c Q w ct nL n0 s0 pc3 L S3 σ) : mGoal p l e R s m args below meth c Q w ct nL n0 s0 pc L S σ :=
  fun H locs cells slots ls hL okL okS hW hS hA => hrow H locs cells slots ls okS (fun h => k1 h H locs cells slots ls hL okL (fun v hv => okS v (hok v hv)) hW hS hA) (fun h => k2 h H locs cells slots ls hL okL (fun v hv => okS v (hok v hv)) hW hS hA)
/-- an int pushed -/
theorem so_pi {v : Int} {n : Nat} (hv : in32 v) (hrow : ∀ (H : Heap) (locs : List Loc) (cells slots : Nat) (ls : Array Slot) (rest : List Value), W p l e R s m args below meth c H locs cells slots Q (F0 m (pc + n) ls (.int (Int32.ofInt v) :: rest)) → W p l e R s m args below meth c H locs cells slots Q (F0 m pc ls rest))
    (k : mGoal p l e R s m args below meth c Q w ct nL n0 s0 (pc + n) L ((0, v) :: S) σ) : mGoal p l e R s m args below meth c Q w ct nL n0 s0 pc L S σ :=
  so_st (fun H locs cells slots ls _ _ _ h => hrow H locs cells slots ls _ h) (fun okS _ => List.forall_mem_cons.mpr ⟨okV_i hv, okS⟩) k
theorem so_pj {v : Int} {n : Nat} (hv : in64 v) (hrow : ∀ (H : Heap) (locs : List Loc) (cells slots : Nat) (ls : Array Slot) (rest : List Value), W p l e R s m args below meth c H locs cells slots Q (F0 m (pc + n) ls (.long (Int64.ofInt v) :: rest)) → W p l e R s m args below meth c H locs cells slots Q (F0 m pc ls rest))
    (k : mGoal p l e R s m args below meth c Q w ct nL n0 s0 (pc + n) L ((1, v) :: S) σ) : mGoal p l e R s m args below meth c Q w ct nL n0 s0 pc L S σ :=
  so_st (fun H locs cells slots ls _ _ _ h => hrow H locs cells slots ls _ h) (fun okS _ => List.forall_mem_cons.mpr ⟨okV_l hv, okS⟩) k
theorem ok_i {n : Nat} {x : Int} (h : ∀ v ∈ (0, x) :: S, okV n v) : in32 x := (h _ List.mem_cons_self).1 rfl
theorem ok_l {n : Nat} {x : Int} (h : ∀ v ∈ (1, x) :: S, okV n v) : in64 x := (h _ List.mem_cons_self).2.1 rfl
theorem ok_t {n : Nat} {u : mV} (h : ∀ v ∈ u :: S, okV n v) : ∀ v ∈ S, okV n v := fun v hv => h v (List.mem_cons_of_mem _ hv)
/-- two ints to one -/
theorem so_ii {f : Int32 → Int32 → Int32} {x y z : Int} (hrow : ∀ (H : Heap) (locs : List Loc) (cells slots : Nat) (ls : Array Slot) (rest : List Value) (a b : Int32), W p l e R s m args below meth c H locs cells slots Q (F0 m (pc + 1) ls (.int (f a b) :: rest)) → W p l e R s m args below meth c H locs cells slots Q (F0 m pc ls (.int b :: .int a :: rest)))
    (hz : in32 x → in32 y → Int32.ofInt z = f (Int32.ofInt x) (Int32.ofInt y) ∧ in32 z) (k : mGoal p l e R s m args below meth c Q w ct nL n0 s0 (pc + 1) L ((0, z) :: S) σ) : mGoal p l e R s m args below meth c Q w ct nL n0 s0 pc L ((0, y) :: (0, x) :: S) σ := by
  refine so_st (S2 := (0, z) :: S) (fun H locs cells slots ls _ okS _ h => ?_) (fun okS _ => List.forall_mem_cons.mpr ⟨okV_i (hz (ok_i (ok_t okS)) (ok_i okS)).2, ok_t (ok_t okS)⟩) k
  refine hrow H locs cells slots ls (S.map (mrep w)) (Int32.ofInt x) (Int32.ofInt y) ?_
  rw [← (hz (ok_i (ok_t okS)) (ok_i okS)).1]
  exact h
theorem so_jj {f : Int64 → Int64 → Int64} {x y z : Int} (hrow : ∀ (H : Heap) (locs : List Loc) (cells slots : Nat) (ls : Array Slot) (rest : List Value) (a b : Int64), W p l e R s m args below meth c H locs cells slots Q (F0 m (pc + 1) ls (.long (f a b) :: rest)) → W p l e R s m args below meth c H locs cells slots Q (F0 m pc ls (.long b :: .long a :: rest)))
    (hz : in64 x → in64 y → Int64.ofInt z = f (Int64.ofInt x) (Int64.ofInt y) ∧ in64 z) (k : mGoal p l e R s m args below meth c Q w ct nL n0 s0 (pc + 1) L ((1, z) :: S) σ) : mGoal p l e R s m args below meth c Q w ct nL n0 s0 pc L ((1, y) :: (1, x) :: S) σ := by
  refine so_st (S2 := (1, z) :: S) (fun H locs cells slots ls _ okS _ h => ?_) (fun okS _ => List.forall_mem_cons.mpr ⟨okV_l (hz (ok_l (ok_t okS)) (ok_l okS)).2, ok_t (ok_t okS)⟩) k
  refine hrow H locs cells slots ls (S.map (mrep w)) (Int64.ofInt x) (Int64.ofInt y) ?_
  rw [← (hz (ok_l (ok_t okS)) (ok_l okS)).1]
  exact h
/-- a branch on two ints -/
theorem so_b2 {P : Prop} {P' : Int32 → Int32 → Prop} {x y : Int} {pc3 : Nat} (hrow : ∀ (H : Heap) (locs : List Loc) (cells slots : Nat) (ls : Array Slot) (rest : List Value) (a b : Int32), (P' a b → W p l e R s m args below meth c H locs cells slots Q (F0 m pc2 ls rest)) → (¬ P' a b → W p l e R s m args below meth c H locs cells slots Q (F0 m pc3 ls rest)) → W p l e R s m args below meth c H locs cells slots Q (F0 m pc ls (.int b :: .int a :: rest)))
    (hz : in32 x → in32 y → (P' (Int32.ofInt x) (Int32.ofInt y) ↔ P)) (k1 : P → mGoal p l e R s m args below meth c Q w ct nL n0 s0 pc2 L S σ) (k2 : ¬ P → mGoal p l e R s m args below meth c Q w ct nL n0 s0 pc3 L S σ) : mGoal p l e R s m args below meth c Q w ct nL n0 s0 pc L ((0, y) :: (0, x) :: S) σ :=
  so_br (S3 := S) (fun H locs cells slots ls okS h1 h2 => hrow H locs cells slots ls (S.map (mrep w)) (Int32.ofInt x) (Int32.ofInt y) (fun q => h1 ((hz (ok_i (ok_t okS)) (ok_i okS)).mp q)) (fun q => h2 (fun z => q ((hz (ok_i (ok_t okS)) (ok_i okS)).mpr z)))) (fun v hv => List.mem_cons_of_mem _ (List.mem_cons_of_mem _ hv)) k1 k2
theorem so_b1 {P : Prop} {P' : Int32 → Prop} {x : Int} {pc3 : Nat} (hrow : ∀ (H : Heap) (locs : List Loc) (cells slots : Nat) (ls : Array Slot) (rest : List Value) (a : Int32), (P' a → W p l e R s m args below meth c H locs cells slots Q (F0 m pc2 ls rest)) → (¬ P' a → W p l e R s m args below meth c H locs cells slots Q (F0 m pc3 ls rest)) → W p l e R s m args below meth c H locs cells slots Q (F0 m pc ls (.int a :: rest)))
    (hz : in32 x → (P' (Int32.ofInt x) ↔ P)) (k1 : P → mGoal p l e R s m args below meth c Q w ct nL n0 s0 pc2 L S σ) (k2 : ¬ P → mGoal p l e R s m args below meth c Q w ct nL n0 s0 pc3 L S σ) : mGoal p l e R s m args below meth c Q w ct nL n0 s0 pc L ((0, x) :: S) σ :=
  so_br (S3 := S) (fun H locs cells slots ls okS h1 h2 => hrow H locs cells slots ls (S.map (mrep w)) (Int32.ofInt x) (fun q => h1 ((hz (ok_i okS)).mp q)) (fun q => h2 (fun z => q ((hz (ok_i okS)).mpr z)))) (fun v hv => List.mem_cons_of_mem _ hv) k1 k2
end
/-! what was popped -/
theorem mpop1_some {S : List mV} {k : Int → List mV → mA} {a : Int × mM} (h : mpop1 S k = some a) : ∃ x S', S = (0, x) :: S' ∧ k x S' = some a := by
  unfold mpop1 at h
  match S, h with
  | (t, x) :: S', h =>
    cases hb : Nat.beq t 0
    · simp only [hb, cond_false] at h; cases h
    · simp only [hb, cond_true] at h
      have := Nat.eq_of_beq_eq_true hb
      subst this
      exact ⟨x, S', rfl, h⟩
theorem mpopJ_some {S : List mV} {k : Int → List mV → mA} {a : Int × mM} (h : mpopJ S k = some a) : ∃ x S', S = (1, x) :: S' ∧ k x S' = some a := by
  unfold mpopJ at h
  match S, h with
  | (t, x) :: S', h =>
    cases hb : Nat.beq t 1
    · simp only [hb, cond_false] at h; cases h
    · simp only [hb, cond_true] at h
      have := Nat.eq_of_beq_eq_true hb
      subst this
      exact ⟨x, S', rfl, h⟩
theorem mpopR_some {S : List mV} {k : Nat → Int → List mV → mA} {a : Int × mM} (h : mpopR S k = some a) : ∃ t x S', S = (t, x) :: S' ∧ 3 < t ∧ k t x S' = some a := by
  unfold mpopR at h
  match S, h with
  | (t, x) :: S', h =>
    cases hb : Nat.blt 3 t
    · simp only [hb, cond_false] at h; cases h
    · simp only [hb, cond_true] at h
      exact ⟨t, x, S', rfl, Nat.blt_eq.mp hb, h⟩
theorem mpop2_some {S : List mV} {k : Int → Int → List mV → mA} {a : Int × mM} (h : mpop2 S k = some a) : ∃ x y S', S = (0, y) :: (0, x) :: S' ∧ k x y S' = some a := by
  obtain ⟨y, S1, e1, h1⟩ := mpop1_some h
  obtain ⟨x, S2, e2, h2⟩ := mpop1_some h1
  exact ⟨x, y, S2, by rw [e1, e2], h2⟩
theorem mpopJ2_some {S : List mV} {k : Int → Int → List mV → mA} {a : Int × mM} (h : mpopJ2 S k = some a) : ∃ x y S', S = (1, y) :: (1, x) :: S' ∧ k x y S' = some a := by
  obtain ⟨y, S1, e1, h1⟩ := mpopJ_some h
  obtain ⟨x, S2, e2, h2⟩ := mpopJ_some h1
  exact ⟨x, y, S2, by rw [e1, e2], h2⟩
theorem bLt_some {x y : Int} {f g : mA} {a : Int × mM} (h : bLt x y f g = some a) : (x < y → f = some a) ∧ (¬ x < y → g = some a) := by
  unfold bLt at h
  exact ⟨fun q => by rwa [if_pos q] at h, fun q => by rwa [if_neg q] at h⟩
theorem bEq_some {x y : Int} {f g : mA} {a : Int × mM} (h : bEq x y f g = some a) : (x = y → f = some a) ∧ (¬ x = y → g = some a) := by
  unfold bEq at h
  exact ⟨fun q => by rwa [if_pos q] at h, fun q => by rwa [if_neg q] at h⟩
theorem bIn_some {i n : Int} {f : mA} {a : Int × mM} (h : bIn i n f = some a) : (0 ≤ i ∧ i < n) ∧ f = some a := by
  unfold bIn at h
  by_cases q : 0 ≤ i ∧ i < n
  · rw [if_pos q] at h; exact ⟨q, h⟩
  · rw [if_neg q] at h; cases h
theorem bCp_some {x y z l1 l2 : Int} {f : mA} {a : Int × mM} (h : bCp x y z l1 l2 f = some a) : (0 ≤ x ∧ 0 ≤ y ∧ 0 ≤ z ∧ x + z ≤ l1 ∧ y + z ≤ l2) ∧ f = some a := by
  unfold bCp at h
  by_cases q : 0 ≤ x ∧ 0 ≤ y ∧ 0 ≤ z ∧ x + z ≤ l1 ∧ y + z ≤ l2
  · rw [if_pos q] at h; exact ⟨q, h⟩
  · rw [if_neg q] at h; cases h
theorem cond_some {b : Bool} {f : mA} {a : Int × mM} (h : (bif b then f else none) = some a) : b = true ∧ f = some a := by
  cases b
  · cases h
  · exact ⟨rfl, h⟩
theorem mput_some {L : List mV} {i : Nat} {v : mV} {k : List mV → mA} {a : Int × mM} (h : mput L i v k = some a) : i < L.length ∧ (i = 0 ∨ (L.getD (i - 1) (2, 0)).1 ≠ 1) ∧ k (L.set i v) = some a := by
  unfold mput at h
  obtain ⟨hb, h⟩ := cond_some h
  simp only [Bool.and_eq_true, Bool.or_eq_true, Bool.not_eq_true'] at hb
  refine ⟨Nat.blt_eq.mp hb.1, ?_, h⟩
  rcases hb.2 with q | q
  · exact Or.inl (Nat.eq_of_beq_eq_true q)
  · right
    intro z
    have z' : mkd (L.getD (i - 1) (2, 0)) = 1 := z
    rw [z'] at q
    cases q
theorem mputJ_some {L : List mV} {i : Nat} {v : mV} {k : List mV → mA} {a : Int × mM} (h : mputJ L i v k = some a) : i + 1 < L.length ∧ (i = 0 ∨ (L.getD (i - 1) (2, 0)).1 ≠ 1) ∧ k ((L.set i v).set (i + 1) (2, 0)) = some a := by
  unfold mputJ at h
  obtain ⟨hb, h⟩ := cond_some h
  simp only [Bool.and_eq_true, Bool.or_eq_true, Bool.not_eq_true'] at hb
  refine ⟨Nat.blt_eq.mp hb.1, ?_, h⟩
  rcases hb.2 with q | q
  · exact Or.inl (Nat.eq_of_beq_eq_true q)
  · right
    intro z
    have z' : mkd (L.getD (i - 1) (2, 0)) = 1 := z
    rw [z'] at q
    cases q
end
section
/-! THE METHODS: code, name, answer, kind (0 of an object, 1 static, 2 a constructor), how many values they take, the places of their words -/
def mccs : List (List ByteArray) := [[cX0_init, cX0_note, cX0_forgetOldest, cX0_stepBack, cX0_stepForth, cX1_init, cX1_takeFrom, cX1_numberAt, cX1_setNumberAt, cX1_setSquare, cX1_stuffedSquares, cX1_beside, cX1_isInside, cX1_thickBeside, cX1_passMonth, cX1_wear], [cX1_slideDown, cX1_moveRow, cX1_turn, cX1_mixAbout, cX1_ninth, cX2_init, cX2_clear, cX2_addSign, cX2_endPart, cX2_warmth, cX2_lookAt, cX2_valueOfPart, cX2_nameOf, cX2_joined, cX3_init, cX3_holdStitch], [cX3_holdRow, cX3_isRow, cX3_hasPlaces, cX3_lowestBits, cX4_init, cX4_enactDraft, cX4_isHouse, cX4_addHouse, cX4_hasNumber, cX4_numberOf, cX4_setNumber, cX4_isCold, cX4_coldBits, cX4_warmestPlace, cX5_init, cX5_isKind], [cX5_isStitch, cX5_add, cX5_isOfKind, cX5_begin, cX5_run, cX5_worked, cX6_init, cX6_take, cX6_readInto, cX6_readLine, cX6_readJoined, cX6_readOperand, cX6_readToClose, cX6_readAhead, cX6_readNumber, cX6_next], [cX6_isDigit, cX6_rankOf, cX7_init, cX7_behind, cX7_firstCold, cX7_timesCold, cX7_fewestPulls, cX7_warmByPulls, cX7_tryShakes, cX7_tryStuffings, cX7_weigh, cX7_firstWrong, cX7_firstUnlike, cX7_fitting, cX7_pullByTurns, cX7_bestFrom], [cX7_coldByDraws, cX7_draw, cX8_init, cX8_findWay, cX8_findPatches, cX8_forgetSteps, cX8_spread, cX9_init, cX9_house, cX9_houses, cX9_mend, cX9_of, cX9_feed, cX9_law, cX9_later, cX9_cold], [cX9_first, cX9_often, cX9_pulls, cX9_shakes, cX9_stuffs, cX9_judge, cX9_felt, cX9_walk, cX9_patches, cX9_byTurns, cX9_drawn, cX9_month, cX9_pull, cX9_shake, cX9_stuff, cX9_led], [cX9_image, cX9_back, cX9_undo, cX9_redo, cX9_body, cX9_act, cX9_trace, cX9_keep, cX9_row, cX9_put, cX9_element, cX9_shift, cX9_taken, cX9_count, cX9_within, cX9_isSquare], [cX9_isShelf, cX9_houseCame, cX9_refusalOfBytes, cX9_refusalOfElement, cX10_init, cX10_within, cX10_isPlace, cX10_isHouse, cX10_isTime, cX10_isShelf, cX10_newHouse, cX10_house, cX10_houses, cX10_toldAt, cX10_isOf, cX10_isFit], [cX10_get, cX10_becomes, cX10_mend, cX10_of, cX10_undo, cX10_redo, cX10_feed, cX10_sign, cX10_is, cX10_codes, cX10_isDigit, cX10_nameOf, cX10_isO, cX10_isP, cX10_isS, cX10_isB], [cX10_isA, cX10_isE, cX10_isLine, cX10_law, cX10_both, cX10_worked, cX10_beside, cX10_near, cX10_byLaw, cX10_warmth, cX10_isCold, cX10_coldOnes, cX10_slips, cX10_moves, cX10_passes, cX10_pulls], [cX10_isInner, cX10_shakesAt, cX10_keeps, cX10_again, cX10_goesOn, cX10_later, cX10_warmest, cX10_cold, cX10_first, cX10_often, cX10_isEnough, cX10_pulls_, cX10_shakes, cX10_stuffsAt, cX10_stuffs, cX10_noFelt], [cX10_unlike, cX10_judge, cX10_so, cX10_felt, cX10_spreads, cX10_walk, cX10_patches, cX10_turnFrom, cX10_byTurns, cX10_drawn, cX10_month, cX10_pull, cX10_shake, cX10_stuff, cX10_led, cX10_image], [cX10_back, cX10_above, cX10_ran, cX10_warmsBy, cX10_slipsBy, cX10_airsBy, cX10_tells, cX10_body, cX10_act, cX10_trace, cX10_keep, cX10_row, cX10_isRow, cX10_kept, cX10_put, cX10_element], [cX10_shift, cX10_taken, cX10_count, cJ6_numberOfTrailingZeros_0f7a4, cJ6_bitCount_0f7a4, cL_law, cL_law]]
def mCc (m : Nat) : ByteArray := (mccs.getD (m / 16) []).getD (m % 16) ⟨#[]⟩
def mnms : List (List MethodName) := [[yX0_init, yX0_note, yX0_forgetOldest, yX0_stepBack, yX0_stepForth, yX1_init, yX1_takeFrom, yX1_numberAt, yX1_setNumberAt, yX1_setSquare, yX1_stuffedSquares, yX1_beside, yX1_isInside, yX1_thickBeside, yX1_passMonth, yX1_wear], [yX1_slideDown, yX1_moveRow, yX1_turn, yX1_mixAbout, yX1_ninth, yX2_init, yX2_clear, yX2_addSign, yX2_endPart, yX2_warmth, yX2_lookAt, yX2_valueOfPart, yX2_nameOf, yX2_joined, yX3_init, yX3_holdStitch], [yX3_holdRow, yX3_isRow, yX3_hasPlaces, yX3_lowestBits, yX4_init, yX4_enactDraft, yX4_isHouse, yX4_addHouse, yX4_hasNumber, yX4_numberOf, yX4_setNumber, yX4_isCold, yX4_coldBits, yX4_warmestPlace, yX5_init, yX5_isKind], [yX5_isStitch, yX5_add, yX5_isOfKind, yX5_begin, yX5_run, yX5_worked, yX6_init, yX6_take, yX6_readInto, yX6_readLine, yX6_readJoined, yX6_readOperand, yX6_readToClose, yX6_readAhead, yX6_readNumber, yX6_next], [yX6_isDigit, yX6_rankOf, yX7_init, yX7_behind, yX7_firstCold, yX7_timesCold, yX7_fewestPulls, yX7_warmByPulls, yX7_tryShakes, yX7_tryStuffings, yX7_weigh, yX7_firstWrong, yX7_firstUnlike, yX7_fitting, yX7_pullByTurns, yX7_bestFrom], [yX7_coldByDraws, yX7_draw, yX8_init, yX8_findWay, yX8_findPatches, yX8_forgetSteps, yX8_spread, yX9_init, yX9_house, yX9_houses, yX9_mend, yX9_of, yX9_feed, yX9_law, yX9_later, yX9_cold], [yX9_first, yX9_often, yX9_pulls, yX9_shakes, yX9_stuffs, yX9_judge, yX9_felt, yX9_walk, yX9_patches, yX9_byTurns, yX9_drawn, yX9_month, yX9_pull, yX9_shake, yX9_stuff, yX9_led], [yX9_image, yX9_back, yX9_undo, yX9_redo, yX9_body, yX9_act, yX9_trace, yX9_keep, yX9_row, yX9_put, yX9_element, yX9_shift, yX9_taken, yX9_count, yX9_within, yX9_isSquare], [yX9_isShelf, yX9_houseCame, yX9_refusalOfBytes, yX9_refusalOfElement, yX10_init, yX10_within, yX10_isPlace, yX10_isHouse, yX10_isTime, yX10_isShelf, yX10_newHouse, yX10_house, yX10_houses, yX10_toldAt, yX10_isOf, yX10_isFit], [yX10_get, yX10_becomes, yX10_mend, yX10_of, yX10_undo, yX10_redo, yX10_feed, yX10_sign, yX10_is, yX10_codes, yX10_isDigit, yX10_nameOf, yX10_isO, yX10_isP, yX10_isS, yX10_isB], [yX10_isA, yX10_isE, yX10_isLine, yX10_law, yX10_both, yX10_worked, yX10_beside, yX10_near, yX10_byLaw, yX10_warmth, yX10_isCold, yX10_coldOnes, yX10_slips, yX10_moves, yX10_passes, yX10_pulls], [yX10_isInner, yX10_shakesAt, yX10_keeps, yX10_again, yX10_goesOn, yX10_later, yX10_warmest, yX10_cold, yX10_first, yX10_often, yX10_isEnough, yX10_pulls_, yX10_shakes, yX10_stuffsAt, yX10_stuffs, yX10_noFelt], [yX10_unlike, yX10_judge, yX10_so, yX10_felt, yX10_spreads, yX10_walk, yX10_patches, yX10_turnFrom, yX10_byTurns, yX10_drawn, yX10_month, yX10_pull, yX10_shake, yX10_stuff, yX10_led, yX10_image], [yX10_back, yX10_above, yX10_ran, yX10_warmsBy, yX10_slipsBy, yX10_airsBy, yX10_tells, yX10_body, yX10_act, yX10_trace, yX10_keep, yX10_row, yX10_isRow, yX10_kept, yX10_put, yX10_element], [yX10_shift, yX10_taken, yX10_count, yJ6_numberOfTrailingZeros_0f7a4, yJ6_bitCount_0f7a4, yL_law, yL_law]]
def mNm (m : Nat) : MethodName := (mnms.getD (m / 16) []).getD (m % 16) yL_law
def mrts : List (List (Option FieldType)) := [[none, none, none, none, none, none, none, (some .int), none, none, (some .int), (some .int), (some .boolean), (some .int), none, none], [none, none, none, none, (some .int), none, none, none, none, (some .int), none, (some .int), (some .int), (some .int), none, none], [none, (some .boolean), (some .boolean), (some .long), none, none, (some .boolean), (some .int), (some .boolean), (some .int), none, (some .boolean), (some .int), (some .int), none, (some .boolean)], [(some .boolean), (some .int), (some .boolean), (some .int), (some .int), (some .int), none, (some .boolean), (some .int), (some .boolean), (some .boolean), (some .boolean), (some .boolean), (some .boolean), none, (some .int)], [(some .boolean), (some .int), none, (some (.object "EiderClimate$Cover")), (some .int), (some .int), (some .int), (some .boolean), none, none, none, (some .int), (some .int), (some .int), (some .int), (some .int)], [(some .int), none, none, none, none, none, (some .int), none, (some .int), (some .int), (some .int), (some .int), (some .int), (some .int), (some .int), (some .int)], [(some .int), (some .int), (some .int), (some .int), (some .int), (some .int), (some .int), (some .int), (some .int), (some .int), (some .int), (some .int), (some .int), (some .int), (some .int), (some .int)], [(some .int), (some .int), (some .int), (some .int), (some .int), (some .int), (some .int), (some .int), (some .int), (some .int), (some .long), (some .int), (some .int), (some .int), (some .boolean), (some .boolean)], [(some .boolean), (some .boolean), (some .int), (some .int), none, (some .boolean), (some .boolean), (some .boolean), (some .boolean), (some .boolean), (some .int), (some .int), (some .int), (some .int), (some .boolean), (some .boolean)], [(some .int), none, (some .int), (some .int), (some .int), (some .int), (some .int), (some .int), (some .boolean), (some .boolean), (some .boolean), (some .int), (some .boolean), (some .boolean), (some .boolean), (some .boolean)], [(some .boolean), (some .boolean), (some .boolean), (some .int), (some .int), (some .int), (some .int), (some .int), (some .int), (some .int), (some .boolean), (some .int), none, none, none, none], [(some .boolean), none, none, none, none, (some .int), (some .int), (some .int), (some .int), (some .int), (some .boolean), (some .int), (some .int), none, (some .int), (some .int)], [(some .int), (some .int), (some .int), (some .int), none, (some .int), (some .int), (some .int), (some .int), (some .int), (some .int), (some .int), (some .int), (some .int), (some .int), (some .int)], [(some .int), (some .int), none, (some .int), (some .int), (some .int), (some .int), (some .int), (some .int), (some .int), (some .int), (some .int), (some .boolean), (some .long), (some .int), (some .long)], [(some .int), (some .int), (some .int), (some .int), (some .int), (some .boolean), (some .boolean)]]
def mRt (m : Nat) : Option FieldType := (mrts.getD (m / 16) []).getD (m % 16) none
def mkds : List (List Nat) := [[2, 0, 0, 0, 0, 2, 0, 0, 0, 0, 0, 1, 1, 0, 0, 0], [1, 0, 1, 0, 1, 2, 0, 0, 0, 0, 0, 0, 1, 1, 2, 0], [0, 0, 0, 1, 2, 0, 0, 0, 0, 0, 0, 0, 0, 0, 2, 1], [0, 0, 0, 0, 0, 0, 2, 0, 0, 0, 0, 0, 0, 0, 0, 0], [1, 1, 2, 0, 0, 0, 0, 0, 0, 0, 0, 0, 0, 0, 0, 0], [0, 0, 2, 0, 0, 0, 0, 2, 0, 0, 0, 0, 0, 0, 0, 0], [0, 0, 0, 0, 0, 0, 0, 0, 0, 0, 0, 0, 0, 0, 0, 0], [0, 0, 0, 0, 0, 0, 0, 0, 0, 0, 0, 0, 0, 0, 1, 1], [1, 0, 0, 0, 2, 1, 1, 0, 1, 1, 0, 0, 0, 0, 0, 1], [0, 0, 0, 0, 0, 0, 0, 0, 0, 0, 0, 1, 0, 0, 0, 0], [0, 0, 0, 0, 1, 0, 1, 0, 0, 0, 0, 0, 0, 0, 0, 0], [1, 0, 0, 0, 0, 0, 0, 0, 0, 0, 0, 0, 0, 0, 0, 0], [0, 0, 0, 0, 0, 0, 0, 0, 0, 0, 0, 0, 0, 0, 0, 0], [0, 1, 0, 0, 0, 0, 0, 0, 0, 0, 0, 0, 0, 1, 0, 0], [0, 0, 0, 1, 1, 1, 1]]
def mKd (m : Nat) : Nat := (mkds.getD (m / 16) []).getD (m % 16) 0
def mnas : List (List Nat) := [[0, 4, 0, 1, 1, 0, 1, 2, 3, 4, 0, 2, 1, 1, 1, 0], [1, 2, 3, 1, 2, 0, 0, 2, 1, 2, 2, 1, 1, 3, 0, 1], [2, 0, 2, 2, 0, 0, 1, 3, 2, 2, 3, 2, 1, 1, 0, 1], [1, 1, 2, 3, 5, 5, 0, 1, 1, 0, 2, 1, 1, 2, 0, 0], [1, 1, 1, 1, 1, 2, 1, 3, 0, 1, 1, 2, 2, 4, 3, 2], [4, 1, 0, 2, 1, 0, 1, 0, 2, 3, 3, 2, 1, 0, 3, 2], [1, 2, 2, 1, 2, 1, 3, 2, 1, 4, 3, 0, 1, 1, 2, 1], [0, 0, 0, 0, 1, 3, 1, 2, 3, 3, 2, 5, 2, 1, 2, 1], [1, 3, 1, 2, 0, 3, 1, 1, 1, 1, 3, 2, 3, 2, 2, 2], [2, 3, 3, 2, 0, 0, 1, 0, 1, 1, 0, 1, 0, 0, 0, 0], [0, 0, 0, 0, 3, 2, 2, 1, 1, 1, 1, 0, 0, 2, 0, 1], [1, 1, 1, 1, 1, 3, 0, 2, 1, 2, 3, 2, 1, 3, 2, 1], [1, 1, 5, 3, 2, 2, 1, 4, 4, 3, 0, 1, 1, 2, 1, 0], [0, 1, 1, 3, 3, 3, 3, 1, 3, 1, 2, 3, 1, 2, 3, 2], [5, 2, 1, 1, 1, 1, 1]]
def mNa (m : Nat) : Nat := (mnas.getD (m / 16) []).getD (m % 16) 0
def mras : List (List Nat) := [[0, 0, 0, 0, 0, 0, 0, 1, 0, 0, 1, 1, 1, 1, 0, 0], [0, 0, 0, 0, 1, 0, 0, 0, 0, 1, 0, 1, 1, 1, 0, 0], [0, 1, 1, 2, 0, 0, 1, 1, 1, 1, 0, 1, 1, 1, 0, 1], [1, 1, 1, 1, 1, 1, 0, 1, 1, 1, 1, 1, 1, 1, 0, 1], [1, 1, 0, 22, 1, 1, 1, 1, 0, 0, 0, 1, 1, 1, 1, 1], [1, 0, 0, 0, 0, 0, 1, 0, 1, 1, 1, 1, 1, 1, 1, 1], [1, 1, 1, 1, 1, 1, 1, 1, 1, 1, 1, 1, 1, 1, 1, 1], [1, 1, 1, 1, 1, 1, 1, 1, 1, 1, 2, 1, 1, 1, 1, 1], [1, 1, 1, 1, 0, 1, 1, 1, 1, 1, 1, 1, 1, 1, 1, 1], [1, 0, 1, 1, 1, 1, 1, 1, 1, 1, 1, 1, 1, 1, 1, 1], [1, 1, 1, 1, 1, 1, 1, 1, 1, 1, 1, 1, 0, 0, 0, 0], [1, 0, 0, 0, 0, 1, 1, 1, 1, 1, 1, 1, 1, 0, 1, 1], [1, 1, 1, 1, 0, 1, 1, 1, 1, 1, 1, 1, 1, 1, 1, 1], [1, 1, 0, 1, 1, 1, 1, 1, 1, 1, 1, 1, 1, 2, 1, 2], [1, 1, 1, 1, 1, 1, 1]]
def mRa (m : Nat) : Nat := (mras.getD (m / 16) []).getD (m % 16) 0
def mWL (a : Nat) : List Cond := match a with
  | 0 => k2_sels lw_privs
  | 1 => tables_1_1
  | 2 => tables_1_2
  | 3 => tables_1_3
  | 4 => tables_1_4
  | 5 => tables_1_5
  | _ => tables_1_6
/-- a word of the tables by its place -/
def mWd1 (k : Nat) : Option Cond := (mWL (k / 1000))[k % 1000]?
theorem mWL_in (a : Nat) : ∀ x ∈ mWL a, x ∈ lw_tbl := by
  intro x hx
  unfold lw_tbl tables_1
  have app : ∀ {l1 l2 : List Cond}, x ∈ l1 ∨ x ∈ l2 → x ∈ l1 ++ l2 := fun h => List.mem_append.mpr h
  match a, hx with
  | 0, hx => exact app (Or.inl hx)
  | 1, hx => exact app (Or.inr (app (Or.inl hx)))
  | 2, hx => exact app (Or.inr (app (Or.inr (app (Or.inl hx)))))
  | 3, hx => exact app (Or.inr (app (Or.inr (app (Or.inr (app (Or.inl hx)))))))
  | 4, hx => exact app (Or.inr (app (Or.inr (app (Or.inr (app (Or.inr (app (Or.inl hx)))))))))
  | 5, hx => exact app (Or.inr (app (Or.inr (app (Or.inr (app (Or.inr (app (Or.inr (app (Or.inl hx)))))))))))
  | (n + 6), hx => exact app (Or.inr (app (Or.inr (app (Or.inr (app (Or.inr (app (Or.inr (app (Or.inr hx)))))))))))
theorem mWd1_in {k : Nat} {x : Cond} (h : mWd1 k = some x) : x ∈ lw_tbl := mWL_in _ x (List.mem_of_getElem? h)
theorem mWd1_ws {k : Nat} {x : Cond} (h : mWd1 k = some x) (hg : goodWord x = true) : x ∈ mWS := List.mem_filter.mpr ⟨mWd1_in h, hg⟩
def mwps : List (List (List Nat)) := [[[1232, 1008, 1231, 0], [2153, 1008, 2151, 2152], [2157, 1008, 2156, 1], [4031, 1008, 4029, 4030], [4040, 1008, 4038, 4039], [1033, 1003, 1032, 0], [3006, 1003, 3004, 3005], [2141, 1003, 2139, 2140], [2149, 1003, 2147, 2148], [3140, 1003, 3138, 3139], [4141, 1003, 4139, 4140], [3193, 1003, 3192, 0], [3109, 1003, 3108, 0], [3026, 1003, 3024, 3025], [3011, 1003, 3009, 3010], [3015, 1003, 3014, 9]], [[3018, 1003, 3017, 0], [3095, 1003, 3093, 3094], [3098, 1003, 3097, 0], [3113, 1003, 3111, 3112], [3116, 1003, 3115, 0], [1067, 1004, 1066, 0], [2184, 1004, 2182, 2183], [2211, 1004, 2209, 2210], [2229, 1004, 2227, 2228], [3022, 1004, 3020, 3021], [3030, 1004, 3029, 10], [3034, 1004, 3033, 11], [2214, 1004, 2213, 0], [3037, 1004, 3036, 0], [2043, 1010, 2042, 0], [4088, 1010, 4086, 4087]], [[4096, 1010, 4094, 4095], [4108, 1010, 4106, 4107], [4112, 1010, 4110, 4111], [4115, 1010, 4114, 0], [1027, 1002, 1026, 0], [2233, 1002, 2231, 2232], [2133, 1002, 2131, 2132], [2107, 1002, 2105, 2106], [2126, 1002, 2124, 2125], [2137, 1002, 2135, 2136], [2145, 1002, 2143, 2144], [3056, 1002, 3054, 3055], [3052, 1002, 3050, 3051], [3061, 1002, 3059, 3060], [2019, 1009, 2018, 0], [4047, 1009, 4046, 0]], [[4063, 1009, 4061, 4062], [4051, 1009, 4049, 4050], [4133, 1009, 4131, 4132], [4059, 1009, 4057, 4058], [4067, 1009, 4066, 20], [4075, 1009, 4074, 21], [1133, 1005, 1132, 0], [2172, 1005, 2170, 2171], [2180, 1005, 2178, 2179], [2188, 1005, 2187, 2], [2192, 1005, 2191, 3], [2196, 1005, 2195, 4], [2218, 1005, 2217, 7], [2222, 1005, 2221, 8], [2207, 1005, 2206, 6], [2200, 1005, 2199, 5]], [[2203, 1005, 2202, 0], [2225, 1005, 2224, 0], [1153, 1006, 1152, 0], [3002, 1006, 3000, 3001], [3070, 1006, 3068, 3069], [3079, 1006, 3077, 3078], [3087, 1006, 3085, 3086], [3091, 1006, 3090, 12], [3106, 1006, 3104, 3105], [3136, 1006, 3134, 3135], [3121, 1006, 3120, 13], [3152, 1006, 3150, 3151], [3156, 1006, 3155, 15], [3166, 1006, 3164, 3165], [3211, 1006, 3209, 3210], [3215, 1006, 3214, 18]], [[3223, 1006, 3221, 3222], [3228, 1006, 3227, 19], [1196, 1007, 1195, 0], [3181, 1007, 3179, 3180], [3201, 1007, 3199, 3200], [3186, 1007, 3185, 16], [3190, 1007, 3189, 17], [1019, 1001, 1018, 0], [2098, 1001, 2096, 2097], [2111, 1001, 2109, 2110], [2122, 1001, 2120, 2121], [2164, 1001, 2162, 2163], [2168, 1001, 2166, 2167], [2176, 1001, 2174, 2175], [2237, 1001, 2235, 2236], [3048, 1001, 3046, 3047]], [[3065, 1001, 3063, 3064], [3075, 1001, 3073, 3074], [3083, 1001, 3081, 3082], [3102, 1001, 3100, 3101], [3132, 1001, 3130, 3131], [3144, 1001, 3142, 3143], [3162, 1001, 3160, 3161], [3177, 1001, 3175, 3176], [3197, 1001, 3195, 3196], [3206, 1001, 3204, 3205], [3219, 1001, 3217, 3218], [3233, 1001, 3231, 3232], [3238, 1001, 3236, 3237], [4003, 1001, 4001, 4002], [4009, 1001, 4007, 4008], [4014, 1001, 4012, 4013]], [[4018, 1001, 4016, 4017], [4023, 1001, 4021, 4022], [4027, 1001, 4025, 4026], [4036, 1001, 4034, 4035], [4044, 1001, 4042, 4043], [4055, 1001, 4053, 4054], [4079, 1001, 4077, 4078], [4083, 1001, 4081, 4082], [4092, 1001, 4090, 4091], [4100, 1001, 4098, 4099], [4119, 1001, 4117, 4118], [4124, 1001, 4122, 4123], [4129, 1001, 4127, 4128], [4137, 1001, 4135, 4136], [2103, 1001, 2102, 0], [2129, 1001, 2128, 0]], [[2114, 1001, 2113, 0], [2118, 1001, 2117, 0], [3148, 1001, 3147, 14], [4104, 1001, 4103, 22], [4146, 1011, 4145, 0], [5050, 1011, 5049, 0], [5047, 1011, 5046, 0], [5078, 1011, 5077, 26], [5163, 1011, 5162, 0], [5061, 1011, 5060, 0], [5054, 1011, 5053, 23], [5044, 1011, 5042, 5043], [5058, 1011, 5056, 5057], [5066, 1011, 5065, 24], [5074, 1011, 5073, 25], [5081, 1011, 5080, 0]], [[5085, 1011, 5084, 27], [5089, 1011, 5088, 28], [5070, 1011, 5068, 5069], [5093, 1011, 5091, 5092], [5097, 1011, 5095, 5096], [5101, 1011, 5099, 5100], [5105, 1011, 5103, 5104], [5145, 1011, 5144, 37], [5156, 1011, 5155, 39], [5149, 1011, 5148, 38], [5141, 1011, 5140, 36], [5152, 1011, 5151, 0], [5137, 1011, 5136, 35], [5133, 1011, 5132, 34], [5129, 1011, 5128, 33], [5125, 1011, 5124, 32]], [[5121, 1011, 5120, 31], [5117, 1011, 5116, 30], [5113, 1011, 5112, 29], [5109, 1011, 5107, 5108], [5205, 1011, 5204, 0], [5202, 1011, 5201, 48], [5198, 1011, 5197, 0], [5195, 1011, 5194, 47], [5191, 1011, 5190, 46], [5187, 1011, 5186, 45], [5223, 1011, 5222, 51], [5219, 1011, 5218, 50], [5179, 1011, 5178, 43], [5183, 1011, 5182, 44], [5175, 1011, 5174, 42], [6007, 1011, 6006, 54]], [[6014, 1011, 6013, 0], [6018, 1011, 6017, 55], [5167, 1011, 5166, 40], [5211, 1011, 5210, 49], [5171, 1011, 5170, 41], [5160, 1011, 5158, 5159], [5227, 1011, 5226, 52], [5215, 1011, 5213, 5214], [5231, 1011, 5229, 5230], [5235, 1011, 5233, 5234], [6003, 1011, 6002, 53], [5239, 1011, 5237, 5238], [6011, 1011, 6009, 6010], [6027, 1011, 6026, 56], [6023, 1011, 6021, 6022], [6035, 1011, 6034, 57]], [[6039, 1011, 6038, 58], [6031, 1011, 6029, 6030], [6047, 1011, 6046, 59], [6043, 1011, 6041, 6042], [6055, 1011, 6054, 60], [6051, 1011, 6049, 6050], [6059, 1011, 6057, 6058], [6068, 1011, 6067, 61], [6063, 1011, 6061, 6062], [6072, 1011, 6070, 6071], [6077, 1011, 6075, 6076], [6081, 1011, 6079, 6080], [6085, 1011, 6083, 6084], [6089, 1011, 6087, 6088], [6093, 1011, 6091, 6092], [6097, 1011, 6095, 6096]], [[6101, 1011, 6099, 6100], [6120, 1011, 6119, 0], [6117, 1011, 6116, 63], [6113, 1011, 6112, 62], [6124, 1011, 6123, 64], [6128, 1011, 6127, 65], [6132, 1011, 6131, 66], [6105, 1011, 6103, 6104], [6109, 1011, 6107, 6108], [6136, 1011, 6134, 6135], [6140, 1011, 6138, 6139], [6144, 1011, 6142, 6143], [6152, 1011, 6151, 67], [6155, 1011, 6154, 0], [6148, 1011, 6146, 6147], [6159, 1011, 6157, 6158]], [[6164, 1011, 6162, 6163], [6168, 1011, 6166, 6167], [6172, 1011, 6170, 6171], [3172, 1014, 3171, 0], [3125, 1014, 3124, 0], [0, 0, 0, 0], [0, 0, 0, 0]]]
def mwp (m k : Nat) : Nat := ((mwps.getD (m / 16) []).getD (m % 16) []).getD k 0
/-- what the tables say of a method -/
def mFa (m : Nat) : Prop := mWd1 (mwp m 0) = some (.code (mNm m) (mCc m) (mmaxL m) (mRt m)) ∧ mWd1 (mwp m 1) = some (.initialized (mNm m).cls) ∧ (mKd m = 0 → mWd1 (mwp m 2) = some (.instanceMethod (mNm m)) ∧ mWd1 (mwp m 3) = some (.selects (mNm m).cls (mNm m) (mNm m))) ∧
  (mKd m = 1 → mWd1 (mwp m 2) = some (.static (mNm m))) ∧ (mKd m = 2 → mWd1 (mwp m 2) = some (.instanceMethod (mNm m)) ∧ (mNm m).name = "<init>" ∧ mRt m = none) ∧ plainName (mNm m).cls = true ∧ ((mNm m).cls ≠ "java/lang/invoke/MethodHandle" ∧ (mNm m).cls ≠ "java/lang/invoke/VarHandle") ∧
  (parseMethodDescriptor (mNm m).desc).map (fun d => d.parameters.length) = some (mNa m) ∧ mmaxL m ≤ 20 ∧ (mRa m = 0 → mRt m = none) ∧ (mRa m = 1 → mRt m = some .int ∨ mRt m = some .boolean) ∧ (mRa m = 2 → mRt m = some .long) ∧ (3 ≤ mRa m → 20 < mRa m ∧ ∃ n, mRt m = some (.object n))
theorem mFa_0 : mFa 0 := ⟨rfl, rfl, (fun h => absurd h (by decide +kernel)), (fun h => absurd h (by decide +kernel)), (fun _ => ⟨rfl, rfl, rfl⟩), by decide +kernel, ⟨by decide +kernel, by decide +kernel⟩, by decide +kernel, by decide +kernel, (fun _ => rfl), (fun h => absurd h (by decide +kernel)), (fun h => absurd h (by decide +kernel)), (fun h => absurd h (by decide +kernel))⟩
theorem mFa_1 : mFa 1 := ⟨rfl, rfl, (fun _ => ⟨rfl, rfl⟩), (fun h => absurd h (by decide +kernel)), (fun h => absurd h (by decide +kernel)), by decide +kernel, ⟨by decide +kernel, by decide +kernel⟩, by decide +kernel, by decide +kernel, (fun _ => rfl), (fun h => absurd h (by decide +kernel)), (fun h => absurd h (by decide +kernel)), (fun h => absurd h (by decide +kernel))⟩
theorem mFa_2 : mFa 2 := ⟨rfl, rfl, (fun _ => ⟨rfl, rfl⟩), (fun h => absurd h (by decide +kernel)), (fun h => absurd h (by decide +kernel)), by decide +kernel, ⟨by decide +kernel, by decide +kernel⟩, by decide +kernel, by decide +kernel, (fun _ => rfl), (fun h => absurd h (by decide +kernel)), (fun h => absurd h (by decide +kernel)), (fun h => absurd h (by decide +kernel))⟩
theorem mFa_3 : mFa 3 := ⟨rfl, rfl, (fun _ => ⟨rfl, rfl⟩), (fun h => absurd h (by decide +kernel)), (fun h => absurd h (by decide +kernel)), by decide +kernel, ⟨by decide +kernel, by decide +kernel⟩, by decide +kernel, by decide +kernel, (fun _ => rfl), (fun h => absurd h (by decide +kernel)), (fun h => absurd h (by decide +kernel)), (fun h => absurd h (by decide +kernel))⟩
theorem mFa_4 : mFa 4 := ⟨rfl, rfl, (fun _ => ⟨rfl, rfl⟩), (fun h => absurd h (by decide +kernel)), (fun h => absurd h (by decide +kernel)), by decide +kernel, ⟨by decide +kernel, by decide +kernel⟩, by decide +kernel, by decide +kernel, (fun _ => rfl), (fun h => absurd h (by decide +kernel)), (fun h => absurd h (by decide +kernel)), (fun h => absurd h (by decide +kernel))⟩
theorem mFa_5 : mFa 5 := ⟨rfl, rfl, (fun h => absurd h (by decide +kernel)), (fun h => absurd h (by decide +kernel)), (fun _ => ⟨rfl, rfl, rfl⟩), by decide +kernel, ⟨by decide +kernel, by decide +kernel⟩, by decide +kernel, by decide +kernel, (fun _ => rfl), (fun h => absurd h (by decide +kernel)), (fun h => absurd h (by decide +kernel)), (fun h => absurd h (by decide +kernel))⟩
theorem mFa_6 : mFa 6 := ⟨rfl, rfl, (fun _ => ⟨rfl, rfl⟩), (fun h => absurd h (by decide +kernel)), (fun h => absurd h (by decide +kernel)), by decide +kernel, ⟨by decide +kernel, by decide +kernel⟩, by decide +kernel, by decide +kernel, (fun _ => rfl), (fun h => absurd h (by decide +kernel)), (fun h => absurd h (by decide +kernel)), (fun h => absurd h (by decide +kernel))⟩
theorem mFa_7 : mFa 7 := ⟨rfl, rfl, (fun _ => ⟨rfl, rfl⟩), (fun h => absurd h (by decide +kernel)), (fun h => absurd h (by decide +kernel)), by decide +kernel, ⟨by decide +kernel, by decide +kernel⟩, by decide +kernel, by decide +kernel, (fun h => absurd h (by decide +kernel)), (fun _ => Or.inl rfl), (fun h => absurd h (by decide +kernel)), (fun h => absurd h (by decide +kernel))⟩
theorem mFa_8 : mFa 8 := ⟨rfl, rfl, (fun _ => ⟨rfl, rfl⟩), (fun h => absurd h (by decide +kernel)), (fun h => absurd h (by decide +kernel)), by decide +kernel, ⟨by decide +kernel, by decide +kernel⟩, by decide +kernel, by decide +kernel, (fun _ => rfl), (fun h => absurd h (by decide +kernel)), (fun h => absurd h (by decide +kernel)), (fun h => absurd h (by decide +kernel))⟩
theorem mFa_9 : mFa 9 := ⟨rfl, rfl, (fun _ => ⟨rfl, rfl⟩), (fun h => absurd h (by decide +kernel)), (fun h => absurd h (by decide +kernel)), by decide +kernel, ⟨by decide +kernel, by decide +kernel⟩, by decide +kernel, by decide +kernel, (fun _ => rfl), (fun h => absurd h (by decide +kernel)), (fun h => absurd h (by decide +kernel)), (fun h => absurd h (by decide +kernel))⟩
theorem mFa_10 : mFa 10 := ⟨rfl, rfl, (fun _ => ⟨rfl, rfl⟩), (fun h => absurd h (by decide +kernel)), (fun h => absurd h (by decide +kernel)), by decide +kernel, ⟨by decide +kernel, by decide +kernel⟩, by decide +kernel, by decide +kernel, (fun h => absurd h (by decide +kernel)), (fun _ => Or.inl rfl), (fun h => absurd h (by decide +kernel)), (fun h => absurd h (by decide +kernel))⟩
theorem mFa_11 : mFa 11 := ⟨rfl, rfl, (fun h => absurd h (by decide +kernel)), (fun _ => rfl), (fun h => absurd h (by decide +kernel)), by decide +kernel, ⟨by decide +kernel, by decide +kernel⟩, by decide +kernel, by decide +kernel, (fun h => absurd h (by decide +kernel)), (fun _ => Or.inl rfl), (fun h => absurd h (by decide +kernel)), (fun h => absurd h (by decide +kernel))⟩
theorem mFa_12 : mFa 12 := ⟨rfl, rfl, (fun h => absurd h (by decide +kernel)), (fun _ => rfl), (fun h => absurd h (by decide +kernel)), by decide +kernel, ⟨by decide +kernel, by decide +kernel⟩, by decide +kernel, by decide +kernel, (fun h => absurd h (by decide +kernel)), (fun _ => Or.inr rfl), (fun h => absurd h (by decide +kernel)), (fun h => absurd h (by decide +kernel))⟩
theorem mFa_13 : mFa 13 := ⟨rfl, rfl, (fun _ => ⟨rfl, rfl⟩), (fun h => absurd h (by decide +kernel)), (fun h => absurd h (by decide +kernel)), by decide +kernel, ⟨by decide +kernel, by decide +kernel⟩, by decide +kernel, by decide +kernel, (fun h => absurd h (by decide +kernel)), (fun _ => Or.inl rfl), (fun h => absurd h (by decide +kernel)), (fun h => absurd h (by decide +kernel))⟩
theorem mFa_14 : mFa 14 := ⟨rfl, rfl, (fun _ => ⟨rfl, rfl⟩), (fun h => absurd h (by decide +kernel)), (fun h => absurd h (by decide +kernel)), by decide +kernel, ⟨by decide +kernel, by decide +kernel⟩, by decide +kernel, by decide +kernel, (fun _ => rfl), (fun h => absurd h (by decide +kernel)), (fun h => absurd h (by decide +kernel)), (fun h => absurd h (by decide +kernel))⟩
theorem mFa_15 : mFa 15 := ⟨rfl, rfl, (fun _ => ⟨rfl, rfl⟩), (fun h => absurd h (by decide +kernel)), (fun h => absurd h (by decide +kernel)), by decide +kernel, ⟨by decide +kernel, by decide +kernel⟩, by decide +kernel, by decide +kernel, (fun _ => rfl), (fun h => absurd h (by decide +kernel)), (fun h => absurd h (by decide +kernel)), (fun h => absurd h (by decide +kernel))⟩
theorem mFa_16 : mFa 16 := ⟨rfl, rfl, (fun h => absurd h (by decide +kernel)), (fun _ => rfl), (fun h => absurd h (by decide +kernel)), by decide +kernel, ⟨by decide +kernel, by decide +kernel⟩, by decide +kernel, by decide +kernel, (fun _ => rfl), (fun h => absurd h (by decide +kernel)), (fun h => absurd h (by decide +kernel)), (fun h => absurd h (by decide +kernel))⟩
theorem mFa_17 : mFa 17 := ⟨rfl, rfl, (fun _ => ⟨rfl, rfl⟩), (fun h => absurd h (by decide +kernel)), (fun h => absurd h (by decide +kernel)), by decide +kernel, ⟨by decide +kernel, by decide +kernel⟩, by decide +kernel, by decide +kernel, (fun _ => rfl), (fun h => absurd h (by decide +kernel)), (fun h => absurd h (by decide +kernel)), (fun h => absurd h (by decide +kernel))⟩
theorem mFa_18 : mFa 18 := ⟨rfl, rfl, (fun h => absurd h (by decide +kernel)), (fun _ => rfl), (fun h => absurd h (by decide +kernel)), by decide +kernel, ⟨by decide +kernel, by decide +kernel⟩, by decide +kernel, by decide +kernel, (fun _ => rfl), (fun h => absurd h (by decide +kernel)), (fun h => absurd h (by decide +kernel)), (fun h => absurd h (by decide +kernel))⟩
theorem mFa_19 : mFa 19 := ⟨rfl, rfl, (fun _ => ⟨rfl, rfl⟩), (fun h => absurd h (by decide +kernel)), (fun h => absurd h (by decide +kernel)), by decide +kernel, ⟨by decide +kernel, by decide +kernel⟩, by decide +kernel, by decide +kernel, (fun _ => rfl), (fun h => absurd h (by decide +kernel)), (fun h => absurd h (by decide +kernel)), (fun h => absurd h (by decide +kernel))⟩
theorem mFa_20 : mFa 20 := ⟨rfl, rfl, (fun h => absurd h (by decide +kernel)), (fun _ => rfl), (fun h => absurd h (by decide +kernel)), by decide +kernel, ⟨by decide +kernel, by decide +kernel⟩, by decide +kernel, by decide +kernel, (fun h => absurd h (by decide +kernel)), (fun _ => Or.inl rfl), (fun h => absurd h (by decide +kernel)), (fun h => absurd h (by decide +kernel))⟩
theorem mFa_21 : mFa 21 := ⟨rfl, rfl, (fun h => absurd h (by decide +kernel)), (fun h => absurd h (by decide +kernel)), (fun _ => ⟨rfl, rfl, rfl⟩), by decide +kernel, ⟨by decide +kernel, by decide +kernel⟩, by decide +kernel, by decide +kernel, (fun _ => rfl), (fun h => absurd h (by decide +kernel)), (fun h => absurd h (by decide +kernel)), (fun h => absurd h (by decide +kernel))⟩
theorem mFa_22 : mFa 22 := ⟨rfl, rfl, (fun _ => ⟨rfl, rfl⟩), (fun h => absurd h (by decide +kernel)), (fun h => absurd h (by decide +kernel)), by decide +kernel, ⟨by decide +kernel, by decide +kernel⟩, by decide +kernel, by decide +kernel, (fun _ => rfl), (fun h => absurd h (by decide +kernel)), (fun h => absurd h (by decide +kernel)), (fun h => absurd h (by decide +kernel))⟩
theorem mFa_23 : mFa 23 := ⟨rfl, rfl, (fun _ => ⟨rfl, rfl⟩), (fun h => absurd h (by decide +kernel)), (fun h => absurd h (by decide +kernel)), by decide +kernel, ⟨by decide +kernel, by decide +kernel⟩, by decide +kernel, by decide +kernel, (fun _ => rfl), (fun h => absurd h (by decide +kernel)), (fun h => absurd h (by decide +kernel)), (fun h => absurd h (by decide +kernel))⟩
theorem mFa_24 : mFa 24 := ⟨rfl, rfl, (fun _ => ⟨rfl, rfl⟩), (fun h => absurd h (by decide +kernel)), (fun h => absurd h (by decide +kernel)), by decide +kernel, ⟨by decide +kernel, by decide +kernel⟩, by decide +kernel, by decide +kernel, (fun _ => rfl), (fun h => absurd h (by decide +kernel)), (fun h => absurd h (by decide +kernel)), (fun h => absurd h (by decide +kernel))⟩
theorem mFa_25 : mFa 25 := ⟨rfl, rfl, (fun _ => ⟨rfl, rfl⟩), (fun h => absurd h (by decide +kernel)), (fun h => absurd h (by decide +kernel)), by decide +kernel, ⟨by decide +kernel, by decide +kernel⟩, by decide +kernel, by decide +kernel, (fun h => absurd h (by decide +kernel)), (fun _ => Or.inl rfl), (fun h => absurd h (by decide +kernel)), (fun h => absurd h (by decide +kernel))⟩
theorem mFa_26 : mFa 26 := ⟨rfl, rfl, (fun _ => ⟨rfl, rfl⟩), (fun h => absurd h (by decide +kernel)), (fun h => absurd h (by decide +kernel)), by decide +kernel, ⟨by decide +kernel, by decide +kernel⟩, by decide +kernel, by decide +kernel, (fun _ => rfl), (fun h => absurd h (by decide +kernel)), (fun h => absurd h (by decide +kernel)), (fun h => absurd h (by decide +kernel))⟩
theorem mFa_27 : mFa 27 := ⟨rfl, rfl, (fun _ => ⟨rfl, rfl⟩), (fun h => absurd h (by decide +kernel)), (fun h => absurd h (by decide +kernel)), by decide +kernel, ⟨by decide +kernel, by decide +kernel⟩, by decide +kernel, by decide +kernel, (fun h => absurd h (by decide +kernel)), (fun _ => Or.inl rfl), (fun h => absurd h (by decide +kernel)), (fun h => absurd h (by decide +kernel))⟩
theorem mFa_28 : mFa 28 := ⟨rfl, rfl, (fun h => absurd h (by decide +kernel)), (fun _ => rfl), (fun h => absurd h (by decide +kernel)), by decide +kernel, ⟨by decide +kernel, by decide +kernel⟩, by decide +kernel, by decide +kernel, (fun h => absurd h (by decide +kernel)), (fun _ => Or.inl rfl), (fun h => absurd h (by decide +kernel)), (fun h => absurd h (by decide +kernel))⟩
theorem mFa_29 : mFa 29 := ⟨rfl, rfl, (fun h => absurd h (by decide +kernel)), (fun _ => rfl), (fun h => absurd h (by decide +kernel)), by decide +kernel, ⟨by decide +kernel, by decide +kernel⟩, by decide +kernel, by decide +kernel, (fun h => absurd h (by decide +kernel)), (fun _ => Or.inl rfl), (fun h => absurd h (by decide +kernel)), (fun h => absurd h (by decide +kernel))⟩
theorem mFa_30 : mFa 30 := ⟨rfl, rfl, (fun h => absurd h (by decide +kernel)), (fun h => absurd h (by decide +kernel)), (fun _ => ⟨rfl, rfl, rfl⟩), by decide +kernel, ⟨by decide +kernel, by decide +kernel⟩, by decide +kernel, by decide +kernel, (fun _ => rfl), (fun h => absurd h (by decide +kernel)), (fun h => absurd h (by decide +kernel)), (fun h => absurd h (by decide +kernel))⟩
theorem mFa_31 : mFa 31 := ⟨rfl, rfl, (fun _ => ⟨rfl, rfl⟩), (fun h => absurd h (by decide +kernel)), (fun h => absurd h (by decide +kernel)), by decide +kernel, ⟨by decide +kernel, by decide +kernel⟩, by decide +kernel, by decide +kernel, (fun _ => rfl), (fun h => absurd h (by decide +kernel)), (fun h => absurd h (by decide +kernel)), (fun h => absurd h (by decide +kernel))⟩
theorem mFa_32 : mFa 32 := ⟨rfl, rfl, (fun _ => ⟨rfl, rfl⟩), (fun h => absurd h (by decide +kernel)), (fun h => absurd h (by decide +kernel)), by decide +kernel, ⟨by decide +kernel, by decide +kernel⟩, by decide +kernel, by decide +kernel, (fun _ => rfl), (fun h => absurd h (by decide +kernel)), (fun h => absurd h (by decide +kernel)), (fun h => absurd h (by decide +kernel))⟩
theorem mFa_33 : mFa 33 := ⟨rfl, rfl, (fun _ => ⟨rfl, rfl⟩), (fun h => absurd h (by decide +kernel)), (fun h => absurd h (by decide +kernel)), by decide +kernel, ⟨by decide +kernel, by decide +kernel⟩, by decide +kernel, by decide +kernel, (fun h => absurd h (by decide +kernel)), (fun _ => Or.inr rfl), (fun h => absurd h (by decide +kernel)), (fun h => absurd h (by decide +kernel))⟩
theorem mFa_34 : mFa 34 := ⟨rfl, rfl, (fun _ => ⟨rfl, rfl⟩), (fun h => absurd h (by decide +kernel)), (fun h => absurd h (by decide +kernel)), by decide +kernel, ⟨by decide +kernel, by decide +kernel⟩, by decide +kernel, by decide +kernel, (fun h => absurd h (by decide +kernel)), (fun _ => Or.inr rfl), (fun h => absurd h (by decide +kernel)), (fun h => absurd h (by decide +kernel))⟩
theorem mFa_35 : mFa 35 := ⟨rfl, rfl, (fun h => absurd h (by decide +kernel)), (fun _ => rfl), (fun h => absurd h (by decide +kernel)), by decide +kernel, ⟨by decide +kernel, by decide +kernel⟩, by decide +kernel, by decide +kernel, (fun h => absurd h (by decide +kernel)), (fun h => absurd h (by decide +kernel)), (fun _ => rfl), (fun h => absurd h (by decide +kernel))⟩
theorem mFa_36 : mFa 36 := ⟨rfl, rfl, (fun h => absurd h (by decide +kernel)), (fun h => absurd h (by decide +kernel)), (fun _ => ⟨rfl, rfl, rfl⟩), by decide +kernel, ⟨by decide +kernel, by decide +kernel⟩, by decide +kernel, by decide +kernel, (fun _ => rfl), (fun h => absurd h (by decide +kernel)), (fun h => absurd h (by decide +kernel)), (fun h => absurd h (by decide +kernel))⟩
theorem mFa_37 : mFa 37 := ⟨rfl, rfl, (fun _ => ⟨rfl, rfl⟩), (fun h => absurd h (by decide +kernel)), (fun h => absurd h (by decide +kernel)), by decide +kernel, ⟨by decide +kernel, by decide +kernel⟩, by decide +kernel, by decide +kernel, (fun _ => rfl), (fun h => absurd h (by decide +kernel)), (fun h => absurd h (by decide +kernel)), (fun h => absurd h (by decide +kernel))⟩
theorem mFa_38 : mFa 38 := ⟨rfl, rfl, (fun _ => ⟨rfl, rfl⟩), (fun h => absurd h (by decide +kernel)), (fun h => absurd h (by decide +kernel)), by decide +kernel, ⟨by decide +kernel, by decide +kernel⟩, by decide +kernel, by decide +kernel, (fun h => absurd h (by decide +kernel)), (fun _ => Or.inr rfl), (fun h => absurd h (by decide +kernel)), (fun h => absurd h (by decide +kernel))⟩
theorem mFa_39 : mFa 39 := ⟨rfl, rfl, (fun _ => ⟨rfl, rfl⟩), (fun h => absurd h (by decide +kernel)), (fun h => absurd h (by decide +kernel)), by decide +kernel, ⟨by decide +kernel, by decide +kernel⟩, by decide +kernel, by decide +kernel, (fun h => absurd h (by decide +kernel)), (fun _ => Or.inl rfl), (fun h => absurd h (by decide +kernel)), (fun h => absurd h (by decide +kernel))⟩
theorem mFa_40 : mFa 40 := ⟨rfl, rfl, (fun _ => ⟨rfl, rfl⟩), (fun h => absurd h (by decide +kernel)), (fun h => absurd h (by decide +kernel)), by decide +kernel, ⟨by decide +kernel, by decide +kernel⟩, by decide +kernel, by decide +kernel, (fun h => absurd h (by decide +kernel)), (fun _ => Or.inr rfl), (fun h => absurd h (by decide +kernel)), (fun h => absurd h (by decide +kernel))⟩
theorem mFa_41 : mFa 41 := ⟨rfl, rfl, (fun _ => ⟨rfl, rfl⟩), (fun h => absurd h (by decide +kernel)), (fun h => absurd h (by decide +kernel)), by decide +kernel, ⟨by decide +kernel, by decide +kernel⟩, by decide +kernel, by decide +kernel, (fun h => absurd h (by decide +kernel)), (fun _ => Or.inl rfl), (fun h => absurd h (by decide +kernel)), (fun h => absurd h (by decide +kernel))⟩
theorem mFa_42 : mFa 42 := ⟨rfl, rfl, (fun _ => ⟨rfl, rfl⟩), (fun h => absurd h (by decide +kernel)), (fun h => absurd h (by decide +kernel)), by decide +kernel, ⟨by decide +kernel, by decide +kernel⟩, by decide +kernel, by decide +kernel, (fun _ => rfl), (fun h => absurd h (by decide +kernel)), (fun h => absurd h (by decide +kernel)), (fun h => absurd h (by decide +kernel))⟩
theorem mFa_43 : mFa 43 := ⟨rfl, rfl, (fun _ => ⟨rfl, rfl⟩), (fun h => absurd h (by decide +kernel)), (fun h => absurd h (by decide +kernel)), by decide +kernel, ⟨by decide +kernel, by decide +kernel⟩, by decide +kernel, by decide +kernel, (fun h => absurd h (by decide +kernel)), (fun _ => Or.inr rfl), (fun h => absurd h (by decide +kernel)), (fun h => absurd h (by decide +kernel))⟩
theorem mFa_44 : mFa 44 := ⟨rfl, rfl, (fun _ => ⟨rfl, rfl⟩), (fun h => absurd h (by decide +kernel)), (fun h => absurd h (by decide +kernel)), by decide +kernel, ⟨by decide +kernel, by decide +kernel⟩, by decide +kernel, by decide +kernel, (fun h => absurd h (by decide +kernel)), (fun _ => Or.inl rfl), (fun h => absurd h (by decide +kernel)), (fun h => absurd h (by decide +kernel))⟩
theorem mFa_45 : mFa 45 := ⟨rfl, rfl, (fun _ => ⟨rfl, rfl⟩), (fun h => absurd h (by decide +kernel)), (fun h => absurd h (by decide +kernel)), by decide +kernel, ⟨by decide +kernel, by decide +kernel⟩, by decide +kernel, by decide +kernel, (fun h => absurd h (by decide +kernel)), (fun _ => Or.inl rfl), (fun h => absurd h (by decide +kernel)), (fun h => absurd h (by decide +kernel))⟩
theorem mFa_46 : mFa 46 := ⟨rfl, rfl, (fun h => absurd h (by decide +kernel)), (fun h => absurd h (by decide +kernel)), (fun _ => ⟨rfl, rfl, rfl⟩), by decide +kernel, ⟨by decide +kernel, by decide +kernel⟩, by decide +kernel, by decide +kernel, (fun _ => rfl), (fun h => absurd h (by decide +kernel)), (fun h => absurd h (by decide +kernel)), (fun h => absurd h (by decide +kernel))⟩
theorem mFa_47 : mFa 47 := ⟨rfl, rfl, (fun h => absurd h (by decide +kernel)), (fun _ => rfl), (fun h => absurd h (by decide +kernel)), by decide +kernel, ⟨by decide +kernel, by decide +kernel⟩, by decide +kernel, by decide +kernel, (fun h => absurd h (by decide +kernel)), (fun _ => Or.inr rfl), (fun h => absurd h (by decide +kernel)), (fun h => absurd h (by decide +kernel))⟩
theorem mFa_48 : mFa 48 := ⟨rfl, rfl, (fun _ => ⟨rfl, rfl⟩), (fun h => absurd h (by decide +kernel)), (fun h => absurd h (by decide +kernel)), by decide +kernel, ⟨by decide +kernel, by decide +kernel⟩, by decide +kernel, by decide +kernel, (fun h => absurd h (by decide +kernel)), (fun _ => Or.inr rfl), (fun h => absurd h (by decide +kernel)), (fun h => absurd h (by decide +kernel))⟩
theorem mFa_49 : mFa 49 := ⟨rfl, rfl, (fun _ => ⟨rfl, rfl⟩), (fun h => absurd h (by decide +kernel)), (fun h => absurd h (by decide +kernel)), by decide +kernel, ⟨by decide +kernel, by decide +kernel⟩, by decide +kernel, by decide +kernel, (fun h => absurd h (by decide +kernel)), (fun _ => Or.inl rfl), (fun h => absurd h (by decide +kernel)), (fun h => absurd h (by decide +kernel))⟩
theorem mFa_50 : mFa 50 := ⟨rfl, rfl, (fun _ => ⟨rfl, rfl⟩), (fun h => absurd h (by decide +kernel)), (fun h => absurd h (by decide +kernel)), by decide +kernel, ⟨by decide +kernel, by decide +kernel⟩, by decide +kernel, by decide +kernel, (fun h => absurd h (by decide +kernel)), (fun _ => Or.inr rfl), (fun h => absurd h (by decide +kernel)), (fun h => absurd h (by decide +kernel))⟩
theorem mFa_51 : mFa 51 := ⟨rfl, rfl, (fun _ => ⟨rfl, rfl⟩), (fun h => absurd h (by decide +kernel)), (fun h => absurd h (by decide +kernel)), by decide +kernel, ⟨by decide +kernel, by decide +kernel⟩, by decide +kernel, by decide +kernel, (fun h => absurd h (by decide +kernel)), (fun _ => Or.inl rfl), (fun h => absurd h (by decide +kernel)), (fun h => absurd h (by decide +kernel))⟩
theorem mFa_52 : mFa 52 := ⟨rfl, rfl, (fun _ => ⟨rfl, rfl⟩), (fun h => absurd h (by decide +kernel)), (fun h => absurd h (by decide +kernel)), by decide +kernel, ⟨by decide +kernel, by decide +kernel⟩, by decide +kernel, by decide +kernel, (fun h => absurd h (by decide +kernel)), (fun _ => Or.inl rfl), (fun h => absurd h (by decide +kernel)), (fun h => absurd h (by decide +kernel))⟩
theorem mFa_53 : mFa 53 := ⟨rfl, rfl, (fun _ => ⟨rfl, rfl⟩), (fun h => absurd h (by decide +kernel)), (fun h => absurd h (by decide +kernel)), by decide +kernel, ⟨by decide +kernel, by decide +kernel⟩, by decide +kernel, by decide +kernel, (fun h => absurd h (by decide +kernel)), (fun _ => Or.inl rfl), (fun h => absurd h (by decide +kernel)), (fun h => absurd h (by decide +kernel))⟩
theorem mFa_54 : mFa 54 := ⟨rfl, rfl, (fun h => absurd h (by decide +kernel)), (fun h => absurd h (by decide +kernel)), (fun _ => ⟨rfl, rfl, rfl⟩), by decide +kernel, ⟨by decide +kernel, by decide +kernel⟩, by decide +kernel, by decide +kernel, (fun _ => rfl), (fun h => absurd h (by decide +kernel)), (fun h => absurd h (by decide +kernel)), (fun h => absurd h (by decide +kernel))⟩
theorem mFa_55 : mFa 55 := ⟨rfl, rfl, (fun _ => ⟨rfl, rfl⟩), (fun h => absurd h (by decide +kernel)), (fun h => absurd h (by decide +kernel)), by decide +kernel, ⟨by decide +kernel, by decide +kernel⟩, by decide +kernel, by decide +kernel, (fun h => absurd h (by decide +kernel)), (fun _ => Or.inr rfl), (fun h => absurd h (by decide +kernel)), (fun h => absurd h (by decide +kernel))⟩
theorem mFa_56 : mFa 56 := ⟨rfl, rfl, (fun _ => ⟨rfl, rfl⟩), (fun h => absurd h (by decide +kernel)), (fun h => absurd h (by decide +kernel)), by decide +kernel, ⟨by decide +kernel, by decide +kernel⟩, by decide +kernel, by decide +kernel, (fun h => absurd h (by decide +kernel)), (fun _ => Or.inl rfl), (fun h => absurd h (by decide +kernel)), (fun h => absurd h (by decide +kernel))⟩
theorem mFa_57 : mFa 57 := ⟨rfl, rfl, (fun _ => ⟨rfl, rfl⟩), (fun h => absurd h (by decide +kernel)), (fun h => absurd h (by decide +kernel)), by decide +kernel, ⟨by decide +kernel, by decide +kernel⟩, by decide +kernel, by decide +kernel, (fun h => absurd h (by decide +kernel)), (fun _ => Or.inr rfl), (fun h => absurd h (by decide +kernel)), (fun h => absurd h (by decide +kernel))⟩
theorem mFa_58 : mFa 58 := ⟨rfl, rfl, (fun _ => ⟨rfl, rfl⟩), (fun h => absurd h (by decide +kernel)), (fun h => absurd h (by decide +kernel)), by decide +kernel, ⟨by decide +kernel, by decide +kernel⟩, by decide +kernel, by decide +kernel, (fun h => absurd h (by decide +kernel)), (fun _ => Or.inr rfl), (fun h => absurd h (by decide +kernel)), (fun h => absurd h (by decide +kernel))⟩
theorem mFa_59 : mFa 59 := ⟨rfl, rfl, (fun _ => ⟨rfl, rfl⟩), (fun h => absurd h (by decide +kernel)), (fun h => absurd h (by decide +kernel)), by decide +kernel, ⟨by decide +kernel, by decide +kernel⟩, by decide +kernel, by decide +kernel, (fun h => absurd h (by decide +kernel)), (fun _ => Or.inr rfl), (fun h => absurd h (by decide +kernel)), (fun h => absurd h (by decide +kernel))⟩
theorem mFa_60 : mFa 60 := ⟨rfl, rfl, (fun _ => ⟨rfl, rfl⟩), (fun h => absurd h (by decide +kernel)), (fun h => absurd h (by decide +kernel)), by decide +kernel, ⟨by decide +kernel, by decide +kernel⟩, by decide +kernel, by decide +kernel, (fun h => absurd h (by decide +kernel)), (fun _ => Or.inr rfl), (fun h => absurd h (by decide +kernel)), (fun h => absurd h (by decide +kernel))⟩
theorem mFa_61 : mFa 61 := ⟨rfl, rfl, (fun _ => ⟨rfl, rfl⟩), (fun h => absurd h (by decide +kernel)), (fun h => absurd h (by decide +kernel)), by decide +kernel, ⟨by decide +kernel, by decide +kernel⟩, by decide +kernel, by decide +kernel, (fun h => absurd h (by decide +kernel)), (fun _ => Or.inr rfl), (fun h => absurd h (by decide +kernel)), (fun h => absurd h (by decide +kernel))⟩
theorem mFa_62 : mFa 62 := ⟨rfl, rfl, (fun _ => ⟨rfl, rfl⟩), (fun h => absurd h (by decide +kernel)), (fun h => absurd h (by decide +kernel)), by decide +kernel, ⟨by decide +kernel, by decide +kernel⟩, by decide +kernel, by decide +kernel, (fun _ => rfl), (fun h => absurd h (by decide +kernel)), (fun h => absurd h (by decide +kernel)), (fun h => absurd h (by decide +kernel))⟩
theorem mFa_63 : mFa 63 := ⟨rfl, rfl, (fun _ => ⟨rfl, rfl⟩), (fun h => absurd h (by decide +kernel)), (fun h => absurd h (by decide +kernel)), by decide +kernel, ⟨by decide +kernel, by decide +kernel⟩, by decide +kernel, by decide +kernel, (fun h => absurd h (by decide +kernel)), (fun _ => Or.inl rfl), (fun h => absurd h (by decide +kernel)), (fun h => absurd h (by decide +kernel))⟩
theorem mFa_64 : mFa 64 := ⟨rfl, rfl, (fun h => absurd h (by decide +kernel)), (fun _ => rfl), (fun h => absurd h (by decide +kernel)), by decide +kernel, ⟨by decide +kernel, by decide +kernel⟩, by decide +kernel, by decide +kernel, (fun h => absurd h (by decide +kernel)), (fun _ => Or.inr rfl), (fun h => absurd h (by decide +kernel)), (fun h => absurd h (by decide +kernel))⟩
theorem mFa_65 : mFa 65 := ⟨rfl, rfl, (fun h => absurd h (by decide +kernel)), (fun _ => rfl), (fun h => absurd h (by decide +kernel)), by decide +kernel, ⟨by decide +kernel, by decide +kernel⟩, by decide +kernel, by decide +kernel, (fun h => absurd h (by decide +kernel)), (fun _ => Or.inl rfl), (fun h => absurd h (by decide +kernel)), (fun h => absurd h (by decide +kernel))⟩
theorem mFa_66 : mFa 66 := ⟨rfl, rfl, (fun h => absurd h (by decide +kernel)), (fun h => absurd h (by decide +kernel)), (fun _ => ⟨rfl, rfl, rfl⟩), by decide +kernel, ⟨by decide +kernel, by decide +kernel⟩, by decide +kernel, by decide +kernel, (fun _ => rfl), (fun h => absurd h (by decide +kernel)), (fun h => absurd h (by decide +kernel)), (fun h => absurd h (by decide +kernel))⟩
theorem mFa_67 : mFa 67 := ⟨rfl, rfl, (fun _ => ⟨rfl, rfl⟩), (fun h => absurd h (by decide +kernel)), (fun h => absurd h (by decide +kernel)), by decide +kernel, ⟨by decide +kernel, by decide +kernel⟩, by decide +kernel, by decide +kernel, (fun h => absurd h (by decide +kernel)), (fun h => absurd h (by decide +kernel)), (fun h => absurd h (by decide +kernel)), (fun _ => ⟨by decide +kernel, _, rfl⟩)⟩
theorem mFa_68 : mFa 68 := ⟨rfl, rfl, (fun _ => ⟨rfl, rfl⟩), (fun h => absurd h (by decide +kernel)), (fun h => absurd h (by decide +kernel)), by decide +kernel, ⟨by decide +kernel, by decide +kernel⟩, by decide +kernel, by decide +kernel, (fun h => absurd h (by decide +kernel)), (fun _ => Or.inl rfl), (fun h => absurd h (by decide +kernel)), (fun h => absurd h (by decide +kernel))⟩
theorem mFa_69 : mFa 69 := ⟨rfl, rfl, (fun _ => ⟨rfl, rfl⟩), (fun h => absurd h (by decide +kernel)), (fun h => absurd h (by decide +kernel)), by decide +kernel, ⟨by decide +kernel, by decide +kernel⟩, by decide +kernel, by decide +kernel, (fun h => absurd h (by decide +kernel)), (fun _ => Or.inl rfl), (fun h => absurd h (by decide +kernel)), (fun h => absurd h (by decide +kernel))⟩
theorem mFa_70 : mFa 70 := ⟨rfl, rfl, (fun _ => ⟨rfl, rfl⟩), (fun h => absurd h (by decide +kernel)), (fun h => absurd h (by decide +kernel)), by decide +kernel, ⟨by decide +kernel, by decide +kernel⟩, by decide +kernel, by decide +kernel, (fun h => absurd h (by decide +kernel)), (fun _ => Or.inl rfl), (fun h => absurd h (by decide +kernel)), (fun h => absurd h (by decide +kernel))⟩
theorem mFa_71 : mFa 71 := ⟨rfl, rfl, (fun _ => ⟨rfl, rfl⟩), (fun h => absurd h (by decide +kernel)), (fun h => absurd h (by decide +kernel)), by decide +kernel, ⟨by decide +kernel, by decide +kernel⟩, by decide +kernel, by decide +kernel, (fun h => absurd h (by decide +kernel)), (fun _ => Or.inr rfl), (fun h => absurd h (by decide +kernel)), (fun h => absurd h (by decide +kernel))⟩
theorem mFa_72 : mFa 72 := ⟨rfl, rfl, (fun _ => ⟨rfl, rfl⟩), (fun h => absurd h (by decide +kernel)), (fun h => absurd h (by decide +kernel)), by decide +kernel, ⟨by decide +kernel, by decide +kernel⟩, by decide +kernel, by decide +kernel, (fun _ => rfl), (fun h => absurd h (by decide +kernel)), (fun h => absurd h (by decide +kernel)), (fun h => absurd h (by decide +kernel))⟩
theorem mFa_73 : mFa 73 := ⟨rfl, rfl, (fun _ => ⟨rfl, rfl⟩), (fun h => absurd h (by decide +kernel)), (fun h => absurd h (by decide +kernel)), by decide +kernel, ⟨by decide +kernel, by decide +kernel⟩, by decide +kernel, by decide +kernel, (fun _ => rfl), (fun h => absurd h (by decide +kernel)), (fun h => absurd h (by decide +kernel)), (fun h => absurd h (by decide +kernel))⟩
theorem mFa_74 : mFa 74 := ⟨rfl, rfl, (fun _ => ⟨rfl, rfl⟩), (fun h => absurd h (by decide +kernel)), (fun h => absurd h (by decide +kernel)), by decide +kernel, ⟨by decide +kernel, by decide +kernel⟩, by decide +kernel, by decide +kernel, (fun _ => rfl), (fun h => absurd h (by decide +kernel)), (fun h => absurd h (by decide +kernel)), (fun h => absurd h (by decide +kernel))⟩
theorem mFa_75 : mFa 75 := ⟨rfl, rfl, (fun _ => ⟨rfl, rfl⟩), (fun h => absurd h (by decide +kernel)), (fun h => absurd h (by decide +kernel)), by decide +kernel, ⟨by decide +kernel, by decide +kernel⟩, by decide +kernel, by decide +kernel, (fun h => absurd h (by decide +kernel)), (fun _ => Or.inl rfl), (fun h => absurd h (by decide +kernel)), (fun h => absurd h (by decide +kernel))⟩
theorem mFa_76 : mFa 76 := ⟨rfl, rfl, (fun _ => ⟨rfl, rfl⟩), (fun h => absurd h (by decide +kernel)), (fun h => absurd h (by decide +kernel)), by decide +kernel, ⟨by decide +kernel, by decide +kernel⟩, by decide +kernel, by decide +kernel, (fun h => absurd h (by decide +kernel)), (fun _ => Or.inl rfl), (fun h => absurd h (by decide +kernel)), (fun h => absurd h (by decide +kernel))⟩
theorem mFa_77 : mFa 77 := ⟨rfl, rfl, (fun _ => ⟨rfl, rfl⟩), (fun h => absurd h (by decide +kernel)), (fun h => absurd h (by decide +kernel)), by decide +kernel, ⟨by decide +kernel, by decide +kernel⟩, by decide +kernel, by decide +kernel, (fun h => absurd h (by decide +kernel)), (fun _ => Or.inl rfl), (fun h => absurd h (by decide +kernel)), (fun h => absurd h (by decide +kernel))⟩
theorem mFa_78 : mFa 78 := ⟨rfl, rfl, (fun _ => ⟨rfl, rfl⟩), (fun h => absurd h (by decide +kernel)), (fun h => absurd h (by decide +kernel)), by decide +kernel, ⟨by decide +kernel, by decide +kernel⟩, by decide +kernel, by decide +kernel, (fun h => absurd h (by decide +kernel)), (fun _ => Or.inl rfl), (fun h => absurd h (by decide +kernel)), (fun h => absurd h (by decide +kernel))⟩
theorem mFa_79 : mFa 79 := ⟨rfl, rfl, (fun _ => ⟨rfl, rfl⟩), (fun h => absurd h (by decide +kernel)), (fun h => absurd h (by decide +kernel)), by decide +kernel, ⟨by decide +kernel, by decide +kernel⟩, by decide +kernel, by decide +kernel, (fun h => absurd h (by decide +kernel)), (fun _ => Or.inl rfl), (fun h => absurd h (by decide +kernel)), (fun h => absurd h (by decide +kernel))⟩
theorem mFa_80 : mFa 80 := ⟨rfl, rfl, (fun _ => ⟨rfl, rfl⟩), (fun h => absurd h (by decide +kernel)), (fun h => absurd h (by decide +kernel)), by decide +kernel, ⟨by decide +kernel, by decide +kernel⟩, by decide +kernel, by decide +kernel, (fun h => absurd h (by decide +kernel)), (fun _ => Or.inl rfl), (fun h => absurd h (by decide +kernel)), (fun h => absurd h (by decide +kernel))⟩
theorem mFa_81 : mFa 81 := ⟨rfl, rfl, (fun _ => ⟨rfl, rfl⟩), (fun h => absurd h (by decide +kernel)), (fun h => absurd h (by decide +kernel)), by decide +kernel, ⟨by decide +kernel, by decide +kernel⟩, by decide +kernel, by decide +kernel, (fun _ => rfl), (fun h => absurd h (by decide +kernel)), (fun h => absurd h (by decide +kernel)), (fun h => absurd h (by decide +kernel))⟩
theorem mFa_82 : mFa 82 := ⟨rfl, rfl, (fun h => absurd h (by decide +kernel)), (fun h => absurd h (by decide +kernel)), (fun _ => ⟨rfl, rfl, rfl⟩), by decide +kernel, ⟨by decide +kernel, by decide +kernel⟩, by decide +kernel, by decide +kernel, (fun _ => rfl), (fun h => absurd h (by decide +kernel)), (fun h => absurd h (by decide +kernel)), (fun h => absurd h (by decide +kernel))⟩
theorem mFa_83 : mFa 83 := ⟨rfl, rfl, (fun _ => ⟨rfl, rfl⟩), (fun h => absurd h (by decide +kernel)), (fun h => absurd h (by decide +kernel)), by decide +kernel, ⟨by decide +kernel, by decide +kernel⟩, by decide +kernel, by decide +kernel, (fun _ => rfl), (fun h => absurd h (by decide +kernel)), (fun h => absurd h (by decide +kernel)), (fun h => absurd h (by decide +kernel))⟩
theorem mFa_84 : mFa 84 := ⟨rfl, rfl, (fun _ => ⟨rfl, rfl⟩), (fun h => absurd h (by decide +kernel)), (fun h => absurd h (by decide +kernel)), by decide +kernel, ⟨by decide +kernel, by decide +kernel⟩, by decide +kernel, by decide +kernel, (fun _ => rfl), (fun h => absurd h (by decide +kernel)), (fun h => absurd h (by decide +kernel)), (fun h => absurd h (by decide +kernel))⟩
theorem mFa_85 : mFa 85 := ⟨rfl, rfl, (fun _ => ⟨rfl, rfl⟩), (fun h => absurd h (by decide +kernel)), (fun h => absurd h (by decide +kernel)), by decide +kernel, ⟨by decide +kernel, by decide +kernel⟩, by decide +kernel, by decide +kernel, (fun _ => rfl), (fun h => absurd h (by decide +kernel)), (fun h => absurd h (by decide +kernel)), (fun h => absurd h (by decide +kernel))⟩
theorem mFa_86 : mFa 86 := ⟨rfl, rfl, (fun _ => ⟨rfl, rfl⟩), (fun h => absurd h (by decide +kernel)), (fun h => absurd h (by decide +kernel)), by decide +kernel, ⟨by decide +kernel, by decide +kernel⟩, by decide +kernel, by decide +kernel, (fun h => absurd h (by decide +kernel)), (fun _ => Or.inl rfl), (fun h => absurd h (by decide +kernel)), (fun h => absurd h (by decide +kernel))⟩
theorem mFa_87 : mFa 87 := ⟨rfl, rfl, (fun h => absurd h (by decide +kernel)), (fun h => absurd h (by decide +kernel)), (fun _ => ⟨rfl, rfl, rfl⟩), by decide +kernel, ⟨by decide +kernel, by decide +kernel⟩, by decide +kernel, by decide +kernel, (fun _ => rfl), (fun h => absurd h (by decide +kernel)), (fun h => absurd h (by decide +kernel)), (fun h => absurd h (by decide +kernel))⟩
theorem mFa_88 : mFa 88 := ⟨rfl, rfl, (fun _ => ⟨rfl, rfl⟩), (fun h => absurd h (by decide +kernel)), (fun h => absurd h (by decide +kernel)), by decide +kernel, ⟨by decide +kernel, by decide +kernel⟩, by decide +kernel, by decide +kernel, (fun h => absurd h (by decide +kernel)), (fun _ => Or.inl rfl), (fun h => absurd h (by decide +kernel)), (fun h => absurd h (by decide +kernel))⟩
theorem mFa_89 : mFa 89 := ⟨rfl, rfl, (fun _ => ⟨rfl, rfl⟩), (fun h => absurd h (by decide +kernel)), (fun h => absurd h (by decide +kernel)), by decide +kernel, ⟨by decide +kernel, by decide +kernel⟩, by decide +kernel, by decide +kernel, (fun h => absurd h (by decide +kernel)), (fun _ => Or.inl rfl), (fun h => absurd h (by decide +kernel)), (fun h => absurd h (by decide +kernel))⟩
theorem mFa_90 : mFa 90 := ⟨rfl, rfl, (fun _ => ⟨rfl, rfl⟩), (fun h => absurd h (by decide +kernel)), (fun h => absurd h (by decide +kernel)), by decide +kernel, ⟨by decide +kernel, by decide +kernel⟩, by decide +kernel, by decide +kernel, (fun h => absurd h (by decide +kernel)), (fun _ => Or.inl rfl), (fun h => absurd h (by decide +kernel)), (fun h => absurd h (by decide +kernel))⟩
theorem mFa_91 : mFa 91 := ⟨rfl, rfl, (fun _ => ⟨rfl, rfl⟩), (fun h => absurd h (by decide +kernel)), (fun h => absurd h (by decide +kernel)), by decide +kernel, ⟨by decide +kernel, by decide +kernel⟩, by decide +kernel, by decide +kernel, (fun h => absurd h (by decide +kernel)), (fun _ => Or.inl rfl), (fun h => absurd h (by decide +kernel)), (fun h => absurd h (by decide +kernel))⟩
theorem mFa_92 : mFa 92 := ⟨rfl, rfl, (fun _ => ⟨rfl, rfl⟩), (fun h => absurd h (by decide +kernel)), (fun h => absurd h (by decide +kernel)), by decide +kernel, ⟨by decide +kernel, by decide +kernel⟩, by decide +kernel, by decide +kernel, (fun h => absurd h (by decide +kernel)), (fun _ => Or.inl rfl), (fun h => absurd h (by decide +kernel)), (fun h => absurd h (by decide +kernel))⟩
theorem mFa_93 : mFa 93 := ⟨rfl, rfl, (fun _ => ⟨rfl, rfl⟩), (fun h => absurd h (by decide +kernel)), (fun h => absurd h (by decide +kernel)), by decide +kernel, ⟨by decide +kernel, by decide +kernel⟩, by decide +kernel, by decide +kernel, (fun h => absurd h (by decide +kernel)), (fun _ => Or.inl rfl), (fun h => absurd h (by decide +kernel)), (fun h => absurd h (by decide +kernel))⟩
theorem mFa_94 : mFa 94 := ⟨rfl, rfl, (fun _ => ⟨rfl, rfl⟩), (fun h => absurd h (by decide +kernel)), (fun h => absurd h (by decide +kernel)), by decide +kernel, ⟨by decide +kernel, by decide +kernel⟩, by decide +kernel, by decide +kernel, (fun h => absurd h (by decide +kernel)), (fun _ => Or.inl rfl), (fun h => absurd h (by decide +kernel)), (fun h => absurd h (by decide +kernel))⟩
theorem mFa_95 : mFa 95 := ⟨rfl, rfl, (fun _ => ⟨rfl, rfl⟩), (fun h => absurd h (by decide +kernel)), (fun h => absurd h (by decide +kernel)), by decide +kernel, ⟨by decide +kernel, by decide +kernel⟩, by decide +kernel, by decide +kernel, (fun h => absurd h (by decide +kernel)), (fun _ => Or.inl rfl), (fun h => absurd h (by decide +kernel)), (fun h => absurd h (by decide +kernel))⟩
theorem mFa_96 : mFa 96 := ⟨rfl, rfl, (fun _ => ⟨rfl, rfl⟩), (fun h => absurd h (by decide +kernel)), (fun h => absurd h (by decide +kernel)), by decide +kernel, ⟨by decide +kernel, by decide +kernel⟩, by decide +kernel, by decide +kernel, (fun h => absurd h (by decide +kernel)), (fun _ => Or.inl rfl), (fun h => absurd h (by decide +kernel)), (fun h => absurd h (by decide +kernel))⟩
theorem mFa_97 : mFa 97 := ⟨rfl, rfl, (fun _ => ⟨rfl, rfl⟩), (fun h => absurd h (by decide +kernel)), (fun h => absurd h (by decide +kernel)), by decide +kernel, ⟨by decide +kernel, by decide +kernel⟩, by decide +kernel, by decide +kernel, (fun h => absurd h (by decide +kernel)), (fun _ => Or.inl rfl), (fun h => absurd h (by decide +kernel)), (fun h => absurd h (by decide +kernel))⟩
theorem mFa_98 : mFa 98 := ⟨rfl, rfl, (fun _ => ⟨rfl, rfl⟩), (fun h => absurd h (by decide +kernel)), (fun h => absurd h (by decide +kernel)), by decide +kernel, ⟨by decide +kernel, by decide +kernel⟩, by decide +kernel, by decide +kernel, (fun h => absurd h (by decide +kernel)), (fun _ => Or.inl rfl), (fun h => absurd h (by decide +kernel)), (fun h => absurd h (by decide +kernel))⟩
theorem mFa_99 : mFa 99 := ⟨rfl, rfl, (fun _ => ⟨rfl, rfl⟩), (fun h => absurd h (by decide +kernel)), (fun h => absurd h (by decide +kernel)), by decide +kernel, ⟨by decide +kernel, by decide +kernel⟩, by decide +kernel, by decide +kernel, (fun h => absurd h (by decide +kernel)), (fun _ => Or.inl rfl), (fun h => absurd h (by decide +kernel)), (fun h => absurd h (by decide +kernel))⟩
theorem mFa_100 : mFa 100 := ⟨rfl, rfl, (fun _ => ⟨rfl, rfl⟩), (fun h => absurd h (by decide +kernel)), (fun h => absurd h (by decide +kernel)), by decide +kernel, ⟨by decide +kernel, by decide +kernel⟩, by decide +kernel, by decide +kernel, (fun h => absurd h (by decide +kernel)), (fun _ => Or.inl rfl), (fun h => absurd h (by decide +kernel)), (fun h => absurd h (by decide +kernel))⟩
theorem mFa_101 : mFa 101 := ⟨rfl, rfl, (fun _ => ⟨rfl, rfl⟩), (fun h => absurd h (by decide +kernel)), (fun h => absurd h (by decide +kernel)), by decide +kernel, ⟨by decide +kernel, by decide +kernel⟩, by decide +kernel, by decide +kernel, (fun h => absurd h (by decide +kernel)), (fun _ => Or.inl rfl), (fun h => absurd h (by decide +kernel)), (fun h => absurd h (by decide +kernel))⟩
theorem mFa_102 : mFa 102 := ⟨rfl, rfl, (fun _ => ⟨rfl, rfl⟩), (fun h => absurd h (by decide +kernel)), (fun h => absurd h (by decide +kernel)), by decide +kernel, ⟨by decide +kernel, by decide +kernel⟩, by decide +kernel, by decide +kernel, (fun h => absurd h (by decide +kernel)), (fun _ => Or.inl rfl), (fun h => absurd h (by decide +kernel)), (fun h => absurd h (by decide +kernel))⟩
theorem mFa_103 : mFa 103 := ⟨rfl, rfl, (fun _ => ⟨rfl, rfl⟩), (fun h => absurd h (by decide +kernel)), (fun h => absurd h (by decide +kernel)), by decide +kernel, ⟨by decide +kernel, by decide +kernel⟩, by decide +kernel, by decide +kernel, (fun h => absurd h (by decide +kernel)), (fun _ => Or.inl rfl), (fun h => absurd h (by decide +kernel)), (fun h => absurd h (by decide +kernel))⟩
theorem mFa_104 : mFa 104 := ⟨rfl, rfl, (fun _ => ⟨rfl, rfl⟩), (fun h => absurd h (by decide +kernel)), (fun h => absurd h (by decide +kernel)), by decide +kernel, ⟨by decide +kernel, by decide +kernel⟩, by decide +kernel, by decide +kernel, (fun h => absurd h (by decide +kernel)), (fun _ => Or.inl rfl), (fun h => absurd h (by decide +kernel)), (fun h => absurd h (by decide +kernel))⟩
theorem mFa_105 : mFa 105 := ⟨rfl, rfl, (fun _ => ⟨rfl, rfl⟩), (fun h => absurd h (by decide +kernel)), (fun h => absurd h (by decide +kernel)), by decide +kernel, ⟨by decide +kernel, by decide +kernel⟩, by decide +kernel, by decide +kernel, (fun h => absurd h (by decide +kernel)), (fun _ => Or.inl rfl), (fun h => absurd h (by decide +kernel)), (fun h => absurd h (by decide +kernel))⟩
theorem mFa_106 : mFa 106 := ⟨rfl, rfl, (fun _ => ⟨rfl, rfl⟩), (fun h => absurd h (by decide +kernel)), (fun h => absurd h (by decide +kernel)), by decide +kernel, ⟨by decide +kernel, by decide +kernel⟩, by decide +kernel, by decide +kernel, (fun h => absurd h (by decide +kernel)), (fun _ => Or.inl rfl), (fun h => absurd h (by decide +kernel)), (fun h => absurd h (by decide +kernel))⟩
theorem mFa_107 : mFa 107 := ⟨rfl, rfl, (fun _ => ⟨rfl, rfl⟩), (fun h => absurd h (by decide +kernel)), (fun h => absurd h (by decide +kernel)), by decide +kernel, ⟨by decide +kernel, by decide +kernel⟩, by decide +kernel, by decide +kernel, (fun h => absurd h (by decide +kernel)), (fun _ => Or.inl rfl), (fun h => absurd h (by decide +kernel)), (fun h => absurd h (by decide +kernel))⟩
theorem mFa_108 : mFa 108 := ⟨rfl, rfl, (fun _ => ⟨rfl, rfl⟩), (fun h => absurd h (by decide +kernel)), (fun h => absurd h (by decide +kernel)), by decide +kernel, ⟨by decide +kernel, by decide +kernel⟩, by decide +kernel, by decide +kernel, (fun h => absurd h (by decide +kernel)), (fun _ => Or.inl rfl), (fun h => absurd h (by decide +kernel)), (fun h => absurd h (by decide +kernel))⟩
theorem mFa_109 : mFa 109 := ⟨rfl, rfl, (fun _ => ⟨rfl, rfl⟩), (fun h => absurd h (by decide +kernel)), (fun h => absurd h (by decide +kernel)), by decide +kernel, ⟨by decide +kernel, by decide +kernel⟩, by decide +kernel, by decide +kernel, (fun h => absurd h (by decide +kernel)), (fun _ => Or.inl rfl), (fun h => absurd h (by decide +kernel)), (fun h => absurd h (by decide +kernel))⟩
theorem mFa_110 : mFa 110 := ⟨rfl, rfl, (fun _ => ⟨rfl, rfl⟩), (fun h => absurd h (by decide +kernel)), (fun h => absurd h (by decide +kernel)), by decide +kernel, ⟨by decide +kernel, by decide +kernel⟩, by decide +kernel, by decide +kernel, (fun h => absurd h (by decide +kernel)), (fun _ => Or.inl rfl), (fun h => absurd h (by decide +kernel)), (fun h => absurd h (by decide +kernel))⟩
theorem mFa_111 : mFa 111 := ⟨rfl, rfl, (fun _ => ⟨rfl, rfl⟩), (fun h => absurd h (by decide +kernel)), (fun h => absurd h (by decide +kernel)), by decide +kernel, ⟨by decide +kernel, by decide +kernel⟩, by decide +kernel, by decide +kernel, (fun h => absurd h (by decide +kernel)), (fun _ => Or.inl rfl), (fun h => absurd h (by decide +kernel)), (fun h => absurd h (by decide +kernel))⟩
theorem mFa_112 : mFa 112 := ⟨rfl, rfl, (fun _ => ⟨rfl, rfl⟩), (fun h => absurd h (by decide +kernel)), (fun h => absurd h (by decide +kernel)), by decide +kernel, ⟨by decide +kernel, by decide +kernel⟩, by decide +kernel, by decide +kernel, (fun h => absurd h (by decide +kernel)), (fun _ => Or.inl rfl), (fun h => absurd h (by decide +kernel)), (fun h => absurd h (by decide +kernel))⟩
theorem mFa_113 : mFa 113 := ⟨rfl, rfl, (fun _ => ⟨rfl, rfl⟩), (fun h => absurd h (by decide +kernel)), (fun h => absurd h (by decide +kernel)), by decide +kernel, ⟨by decide +kernel, by decide +kernel⟩, by decide +kernel, by decide +kernel, (fun h => absurd h (by decide +kernel)), (fun _ => Or.inl rfl), (fun h => absurd h (by decide +kernel)), (fun h => absurd h (by decide +kernel))⟩
theorem mFa_114 : mFa 114 := ⟨rfl, rfl, (fun _ => ⟨rfl, rfl⟩), (fun h => absurd h (by decide +kernel)), (fun h => absurd h (by decide +kernel)), by decide +kernel, ⟨by decide +kernel, by decide +kernel⟩, by decide +kernel, by decide +kernel, (fun h => absurd h (by decide +kernel)), (fun _ => Or.inl rfl), (fun h => absurd h (by decide +kernel)), (fun h => absurd h (by decide +kernel))⟩
theorem mFa_115 : mFa 115 := ⟨rfl, rfl, (fun _ => ⟨rfl, rfl⟩), (fun h => absurd h (by decide +kernel)), (fun h => absurd h (by decide +kernel)), by decide +kernel, ⟨by decide +kernel, by decide +kernel⟩, by decide +kernel, by decide +kernel, (fun h => absurd h (by decide +kernel)), (fun _ => Or.inl rfl), (fun h => absurd h (by decide +kernel)), (fun h => absurd h (by decide +kernel))⟩
theorem mFa_116 : mFa 116 := ⟨rfl, rfl, (fun _ => ⟨rfl, rfl⟩), (fun h => absurd h (by decide +kernel)), (fun h => absurd h (by decide +kernel)), by decide +kernel, ⟨by decide +kernel, by decide +kernel⟩, by decide +kernel, by decide +kernel, (fun h => absurd h (by decide +kernel)), (fun _ => Or.inl rfl), (fun h => absurd h (by decide +kernel)), (fun h => absurd h (by decide +kernel))⟩
theorem mFa_117 : mFa 117 := ⟨rfl, rfl, (fun _ => ⟨rfl, rfl⟩), (fun h => absurd h (by decide +kernel)), (fun h => absurd h (by decide +kernel)), by decide +kernel, ⟨by decide +kernel, by decide +kernel⟩, by decide +kernel, by decide +kernel, (fun h => absurd h (by decide +kernel)), (fun _ => Or.inl rfl), (fun h => absurd h (by decide +kernel)), (fun h => absurd h (by decide +kernel))⟩
theorem mFa_118 : mFa 118 := ⟨rfl, rfl, (fun _ => ⟨rfl, rfl⟩), (fun h => absurd h (by decide +kernel)), (fun h => absurd h (by decide +kernel)), by decide +kernel, ⟨by decide +kernel, by decide +kernel⟩, by decide +kernel, by decide +kernel, (fun h => absurd h (by decide +kernel)), (fun _ => Or.inl rfl), (fun h => absurd h (by decide +kernel)), (fun h => absurd h (by decide +kernel))⟩
theorem mFa_119 : mFa 119 := ⟨rfl, rfl, (fun _ => ⟨rfl, rfl⟩), (fun h => absurd h (by decide +kernel)), (fun h => absurd h (by decide +kernel)), by decide +kernel, ⟨by decide +kernel, by decide +kernel⟩, by decide +kernel, by decide +kernel, (fun h => absurd h (by decide +kernel)), (fun _ => Or.inl rfl), (fun h => absurd h (by decide +kernel)), (fun h => absurd h (by decide +kernel))⟩
theorem mFa_120 : mFa 120 := ⟨rfl, rfl, (fun _ => ⟨rfl, rfl⟩), (fun h => absurd h (by decide +kernel)), (fun h => absurd h (by decide +kernel)), by decide +kernel, ⟨by decide +kernel, by decide +kernel⟩, by decide +kernel, by decide +kernel, (fun h => absurd h (by decide +kernel)), (fun _ => Or.inl rfl), (fun h => absurd h (by decide +kernel)), (fun h => absurd h (by decide +kernel))⟩
theorem mFa_121 : mFa 121 := ⟨rfl, rfl, (fun _ => ⟨rfl, rfl⟩), (fun h => absurd h (by decide +kernel)), (fun h => absurd h (by decide +kernel)), by decide +kernel, ⟨by decide +kernel, by decide +kernel⟩, by decide +kernel, by decide +kernel, (fun h => absurd h (by decide +kernel)), (fun _ => Or.inl rfl), (fun h => absurd h (by decide +kernel)), (fun h => absurd h (by decide +kernel))⟩
theorem mFa_122 : mFa 122 := ⟨rfl, rfl, (fun _ => ⟨rfl, rfl⟩), (fun h => absurd h (by decide +kernel)), (fun h => absurd h (by decide +kernel)), by decide +kernel, ⟨by decide +kernel, by decide +kernel⟩, by decide +kernel, by decide +kernel, (fun h => absurd h (by decide +kernel)), (fun h => absurd h (by decide +kernel)), (fun _ => rfl), (fun h => absurd h (by decide +kernel))⟩
theorem mFa_123 : mFa 123 := ⟨rfl, rfl, (fun _ => ⟨rfl, rfl⟩), (fun h => absurd h (by decide +kernel)), (fun h => absurd h (by decide +kernel)), by decide +kernel, ⟨by decide +kernel, by decide +kernel⟩, by decide +kernel, by decide +kernel, (fun h => absurd h (by decide +kernel)), (fun _ => Or.inl rfl), (fun h => absurd h (by decide +kernel)), (fun h => absurd h (by decide +kernel))⟩
theorem mFa_124 : mFa 124 := ⟨rfl, rfl, (fun _ => ⟨rfl, rfl⟩), (fun h => absurd h (by decide +kernel)), (fun h => absurd h (by decide +kernel)), by decide +kernel, ⟨by decide +kernel, by decide +kernel⟩, by decide +kernel, by decide +kernel, (fun h => absurd h (by decide +kernel)), (fun _ => Or.inl rfl), (fun h => absurd h (by decide +kernel)), (fun h => absurd h (by decide +kernel))⟩
theorem mFa_125 : mFa 125 := ⟨rfl, rfl, (fun _ => ⟨rfl, rfl⟩), (fun h => absurd h (by decide +kernel)), (fun h => absurd h (by decide +kernel)), by decide +kernel, ⟨by decide +kernel, by decide +kernel⟩, by decide +kernel, by decide +kernel, (fun h => absurd h (by decide +kernel)), (fun _ => Or.inl rfl), (fun h => absurd h (by decide +kernel)), (fun h => absurd h (by decide +kernel))⟩
theorem mFa_126 : mFa 126 := ⟨rfl, rfl, (fun h => absurd h (by decide +kernel)), (fun _ => rfl), (fun h => absurd h (by decide +kernel)), by decide +kernel, ⟨by decide +kernel, by decide +kernel⟩, by decide +kernel, by decide +kernel, (fun h => absurd h (by decide +kernel)), (fun _ => Or.inr rfl), (fun h => absurd h (by decide +kernel)), (fun h => absurd h (by decide +kernel))⟩
theorem mFa_127 : mFa 127 := ⟨rfl, rfl, (fun h => absurd h (by decide +kernel)), (fun _ => rfl), (fun h => absurd h (by decide +kernel)), by decide +kernel, ⟨by decide +kernel, by decide +kernel⟩, by decide +kernel, by decide +kernel, (fun h => absurd h (by decide +kernel)), (fun _ => Or.inr rfl), (fun h => absurd h (by decide +kernel)), (fun h => absurd h (by decide +kernel))⟩
theorem mFa_128 : mFa 128 := ⟨rfl, rfl, (fun h => absurd h (by decide +kernel)), (fun _ => rfl), (fun h => absurd h (by decide +kernel)), by decide +kernel, ⟨by decide +kernel, by decide +kernel⟩, by decide +kernel, by decide +kernel, (fun h => absurd h (by decide +kernel)), (fun _ => Or.inr rfl), (fun h => absurd h (by decide +kernel)), (fun h => absurd h (by decide +kernel))⟩
theorem mFa_129 : mFa 129 := ⟨rfl, rfl, (fun _ => ⟨rfl, rfl⟩), (fun h => absurd h (by decide +kernel)), (fun h => absurd h (by decide +kernel)), by decide +kernel, ⟨by decide +kernel, by decide +kernel⟩, by decide +kernel, by decide +kernel, (fun h => absurd h (by decide +kernel)), (fun _ => Or.inr rfl), (fun h => absurd h (by decide +kernel)), (fun h => absurd h (by decide +kernel))⟩
theorem mFa_130 : mFa 130 := ⟨rfl, rfl, (fun _ => ⟨rfl, rfl⟩), (fun h => absurd h (by decide +kernel)), (fun h => absurd h (by decide +kernel)), by decide +kernel, ⟨by decide +kernel, by decide +kernel⟩, by decide +kernel, by decide +kernel, (fun h => absurd h (by decide +kernel)), (fun _ => Or.inl rfl), (fun h => absurd h (by decide +kernel)), (fun h => absurd h (by decide +kernel))⟩
theorem mFa_131 : mFa 131 := ⟨rfl, rfl, (fun _ => ⟨rfl, rfl⟩), (fun h => absurd h (by decide +kernel)), (fun h => absurd h (by decide +kernel)), by decide +kernel, ⟨by decide +kernel, by decide +kernel⟩, by decide +kernel, by decide +kernel, (fun h => absurd h (by decide +kernel)), (fun _ => Or.inl rfl), (fun h => absurd h (by decide +kernel)), (fun h => absurd h (by decide +kernel))⟩
theorem mFa_132 : mFa 132 := ⟨rfl, rfl, (fun h => absurd h (by decide +kernel)), (fun h => absurd h (by decide +kernel)), (fun _ => ⟨rfl, rfl, rfl⟩), by decide +kernel, ⟨by decide +kernel, by decide +kernel⟩, by decide +kernel, by decide +kernel, (fun _ => rfl), (fun h => absurd h (by decide +kernel)), (fun h => absurd h (by decide +kernel)), (fun h => absurd h (by decide +kernel))⟩
theorem mFa_133 : mFa 133 := ⟨rfl, rfl, (fun h => absurd h (by decide +kernel)), (fun _ => rfl), (fun h => absurd h (by decide +kernel)), by decide +kernel, ⟨by decide +kernel, by decide +kernel⟩, by decide +kernel, by decide +kernel, (fun h => absurd h (by decide +kernel)), (fun _ => Or.inr rfl), (fun h => absurd h (by decide +kernel)), (fun h => absurd h (by decide +kernel))⟩
theorem mFa_134 : mFa 134 := ⟨rfl, rfl, (fun h => absurd h (by decide +kernel)), (fun _ => rfl), (fun h => absurd h (by decide +kernel)), by decide +kernel, ⟨by decide +kernel, by decide +kernel⟩, by decide +kernel, by decide +kernel, (fun h => absurd h (by decide +kernel)), (fun _ => Or.inr rfl), (fun h => absurd h (by decide +kernel)), (fun h => absurd h (by decide +kernel))⟩
theorem mFa_135 : mFa 135 := ⟨rfl, rfl, (fun _ => ⟨rfl, rfl⟩), (fun h => absurd h (by decide +kernel)), (fun h => absurd h (by decide +kernel)), by decide +kernel, ⟨by decide +kernel, by decide +kernel⟩, by decide +kernel, by decide +kernel, (fun h => absurd h (by decide +kernel)), (fun _ => Or.inr rfl), (fun h => absurd h (by decide +kernel)), (fun h => absurd h (by decide +kernel))⟩
theorem mFa_136 : mFa 136 := ⟨rfl, rfl, (fun h => absurd h (by decide +kernel)), (fun _ => rfl), (fun h => absurd h (by decide +kernel)), by decide +kernel, ⟨by decide +kernel, by decide +kernel⟩, by decide +kernel, by decide +kernel, (fun h => absurd h (by decide +kernel)), (fun _ => Or.inr rfl), (fun h => absurd h (by decide +kernel)), (fun h => absurd h (by decide +kernel))⟩
theorem mFa_137 : mFa 137 := ⟨rfl, rfl, (fun h => absurd h (by decide +kernel)), (fun _ => rfl), (fun h => absurd h (by decide +kernel)), by decide +kernel, ⟨by decide +kernel, by decide +kernel⟩, by decide +kernel, by decide +kernel, (fun h => absurd h (by decide +kernel)), (fun _ => Or.inr rfl), (fun h => absurd h (by decide +kernel)), (fun h => absurd h (by decide +kernel))⟩
theorem mFa_138 : mFa 138 := ⟨rfl, rfl, (fun _ => ⟨rfl, rfl⟩), (fun h => absurd h (by decide +kernel)), (fun h => absurd h (by decide +kernel)), by decide +kernel, ⟨by decide +kernel, by decide +kernel⟩, by decide +kernel, by decide +kernel, (fun h => absurd h (by decide +kernel)), (fun _ => Or.inl rfl), (fun h => absurd h (by decide +kernel)), (fun h => absurd h (by decide +kernel))⟩
theorem mFa_139 : mFa 139 := ⟨rfl, rfl, (fun _ => ⟨rfl, rfl⟩), (fun h => absurd h (by decide +kernel)), (fun h => absurd h (by decide +kernel)), by decide +kernel, ⟨by decide +kernel, by decide +kernel⟩, by decide +kernel, by decide +kernel, (fun h => absurd h (by decide +kernel)), (fun _ => Or.inl rfl), (fun h => absurd h (by decide +kernel)), (fun h => absurd h (by decide +kernel))⟩
theorem mFa_140 : mFa 140 := ⟨rfl, rfl, (fun _ => ⟨rfl, rfl⟩), (fun h => absurd h (by decide +kernel)), (fun h => absurd h (by decide +kernel)), by decide +kernel, ⟨by decide +kernel, by decide +kernel⟩, by decide +kernel, by decide +kernel, (fun h => absurd h (by decide +kernel)), (fun _ => Or.inl rfl), (fun h => absurd h (by decide +kernel)), (fun h => absurd h (by decide +kernel))⟩
theorem mFa_141 : mFa 141 := ⟨rfl, rfl, (fun _ => ⟨rfl, rfl⟩), (fun h => absurd h (by decide +kernel)), (fun h => absurd h (by decide +kernel)), by decide +kernel, ⟨by decide +kernel, by decide +kernel⟩, by decide +kernel, by decide +kernel, (fun h => absurd h (by decide +kernel)), (fun _ => Or.inl rfl), (fun h => absurd h (by decide +kernel)), (fun h => absurd h (by decide +kernel))⟩
theorem mFa_142 : mFa 142 := ⟨rfl, rfl, (fun _ => ⟨rfl, rfl⟩), (fun h => absurd h (by decide +kernel)), (fun h => absurd h (by decide +kernel)), by decide +kernel, ⟨by decide +kernel, by decide +kernel⟩, by decide +kernel, by decide +kernel, (fun h => absurd h (by decide +kernel)), (fun _ => Or.inr rfl), (fun h => absurd h (by decide +kernel)), (fun h => absurd h (by decide +kernel))⟩
theorem mFa_143 : mFa 143 := ⟨rfl, rfl, (fun h => absurd h (by decide +kernel)), (fun _ => rfl), (fun h => absurd h (by decide +kernel)), by decide +kernel, ⟨by decide +kernel, by decide +kernel⟩, by decide +kernel, by decide +kernel, (fun h => absurd h (by decide +kernel)), (fun _ => Or.inr rfl), (fun h => absurd h (by decide +kernel)), (fun h => absurd h (by decide +kernel))⟩
theorem mFa_144 : mFa 144 := ⟨rfl, rfl, (fun _ => ⟨rfl, rfl⟩), (fun h => absurd h (by decide +kernel)), (fun h => absurd h (by decide +kernel)), by decide +kernel, ⟨by decide +kernel, by decide +kernel⟩, by decide +kernel, by decide +kernel, (fun h => absurd h (by decide +kernel)), (fun _ => Or.inl rfl), (fun h => absurd h (by decide +kernel)), (fun h => absurd h (by decide +kernel))⟩
theorem mFa_145 : mFa 145 := ⟨rfl, rfl, (fun _ => ⟨rfl, rfl⟩), (fun h => absurd h (by decide +kernel)), (fun h => absurd h (by decide +kernel)), by decide +kernel, ⟨by decide +kernel, by decide +kernel⟩, by decide +kernel, by decide +kernel, (fun _ => rfl), (fun h => absurd h (by decide +kernel)), (fun h => absurd h (by decide +kernel)), (fun h => absurd h (by decide +kernel))⟩
theorem mFa_146 : mFa 146 := ⟨rfl, rfl, (fun _ => ⟨rfl, rfl⟩), (fun h => absurd h (by decide +kernel)), (fun h => absurd h (by decide +kernel)), by decide +kernel, ⟨by decide +kernel, by decide +kernel⟩, by decide +kernel, by decide +kernel, (fun h => absurd h (by decide +kernel)), (fun _ => Or.inl rfl), (fun h => absurd h (by decide +kernel)), (fun h => absurd h (by decide +kernel))⟩
theorem mFa_147 : mFa 147 := ⟨rfl, rfl, (fun _ => ⟨rfl, rfl⟩), (fun h => absurd h (by decide +kernel)), (fun h => absurd h (by decide +kernel)), by decide +kernel, ⟨by decide +kernel, by decide +kernel⟩, by decide +kernel, by decide +kernel, (fun h => absurd h (by decide +kernel)), (fun _ => Or.inl rfl), (fun h => absurd h (by decide +kernel)), (fun h => absurd h (by decide +kernel))⟩
theorem mFa_148 : mFa 148 := ⟨rfl, rfl, (fun _ => ⟨rfl, rfl⟩), (fun h => absurd h (by decide +kernel)), (fun h => absurd h (by decide +kernel)), by decide +kernel, ⟨by decide +kernel, by decide +kernel⟩, by decide +kernel, by decide +kernel, (fun h => absurd h (by decide +kernel)), (fun _ => Or.inl rfl), (fun h => absurd h (by decide +kernel)), (fun h => absurd h (by decide +kernel))⟩
theorem mFa_149 : mFa 149 := ⟨rfl, rfl, (fun _ => ⟨rfl, rfl⟩), (fun h => absurd h (by decide +kernel)), (fun h => absurd h (by decide +kernel)), by decide +kernel, ⟨by decide +kernel, by decide +kernel⟩, by decide +kernel, by decide +kernel, (fun h => absurd h (by decide +kernel)), (fun _ => Or.inl rfl), (fun h => absurd h (by decide +kernel)), (fun h => absurd h (by decide +kernel))⟩
theorem mFa_150 : mFa 150 := ⟨rfl, rfl, (fun _ => ⟨rfl, rfl⟩), (fun h => absurd h (by decide +kernel)), (fun h => absurd h (by decide +kernel)), by decide +kernel, ⟨by decide +kernel, by decide +kernel⟩, by decide +kernel, by decide +kernel, (fun h => absurd h (by decide +kernel)), (fun _ => Or.inl rfl), (fun h => absurd h (by decide +kernel)), (fun h => absurd h (by decide +kernel))⟩
theorem mFa_151 : mFa 151 := ⟨rfl, rfl, (fun _ => ⟨rfl, rfl⟩), (fun h => absurd h (by decide +kernel)), (fun h => absurd h (by decide +kernel)), by decide +kernel, ⟨by decide +kernel, by decide +kernel⟩, by decide +kernel, by decide +kernel, (fun h => absurd h (by decide +kernel)), (fun _ => Or.inl rfl), (fun h => absurd h (by decide +kernel)), (fun h => absurd h (by decide +kernel))⟩
theorem mFa_152 : mFa 152 := ⟨rfl, rfl, (fun _ => ⟨rfl, rfl⟩), (fun h => absurd h (by decide +kernel)), (fun h => absurd h (by decide +kernel)), by decide +kernel, ⟨by decide +kernel, by decide +kernel⟩, by decide +kernel, by decide +kernel, (fun h => absurd h (by decide +kernel)), (fun _ => Or.inr rfl), (fun h => absurd h (by decide +kernel)), (fun h => absurd h (by decide +kernel))⟩
theorem mFa_153 : mFa 153 := ⟨rfl, rfl, (fun _ => ⟨rfl, rfl⟩), (fun h => absurd h (by decide +kernel)), (fun h => absurd h (by decide +kernel)), by decide +kernel, ⟨by decide +kernel, by decide +kernel⟩, by decide +kernel, by decide +kernel, (fun h => absurd h (by decide +kernel)), (fun _ => Or.inr rfl), (fun h => absurd h (by decide +kernel)), (fun h => absurd h (by decide +kernel))⟩
theorem mFa_154 : mFa 154 := ⟨rfl, rfl, (fun _ => ⟨rfl, rfl⟩), (fun h => absurd h (by decide +kernel)), (fun h => absurd h (by decide +kernel)), by decide +kernel, ⟨by decide +kernel, by decide +kernel⟩, by decide +kernel, by decide +kernel, (fun h => absurd h (by decide +kernel)), (fun _ => Or.inr rfl), (fun h => absurd h (by decide +kernel)), (fun h => absurd h (by decide +kernel))⟩
theorem mFa_155 : mFa 155 := ⟨rfl, rfl, (fun h => absurd h (by decide +kernel)), (fun _ => rfl), (fun h => absurd h (by decide +kernel)), by decide +kernel, ⟨by decide +kernel, by decide +kernel⟩, by decide +kernel, by decide +kernel, (fun h => absurd h (by decide +kernel)), (fun _ => Or.inl rfl), (fun h => absurd h (by decide +kernel)), (fun h => absurd h (by decide +kernel))⟩
theorem mFa_156 : mFa 156 := ⟨rfl, rfl, (fun _ => ⟨rfl, rfl⟩), (fun h => absurd h (by decide +kernel)), (fun h => absurd h (by decide +kernel)), by decide +kernel, ⟨by decide +kernel, by decide +kernel⟩, by decide +kernel, by decide +kernel, (fun h => absurd h (by decide +kernel)), (fun _ => Or.inr rfl), (fun h => absurd h (by decide +kernel)), (fun h => absurd h (by decide +kernel))⟩
theorem mFa_157 : mFa 157 := ⟨rfl, rfl, (fun _ => ⟨rfl, rfl⟩), (fun h => absurd h (by decide +kernel)), (fun h => absurd h (by decide +kernel)), by decide +kernel, ⟨by decide +kernel, by decide +kernel⟩, by decide +kernel, by decide +kernel, (fun h => absurd h (by decide +kernel)), (fun _ => Or.inr rfl), (fun h => absurd h (by decide +kernel)), (fun h => absurd h (by decide +kernel))⟩
theorem mFa_158 : mFa 158 := ⟨rfl, rfl, (fun _ => ⟨rfl, rfl⟩), (fun h => absurd h (by decide +kernel)), (fun h => absurd h (by decide +kernel)), by decide +kernel, ⟨by decide +kernel, by decide +kernel⟩, by decide +kernel, by decide +kernel, (fun h => absurd h (by decide +kernel)), (fun _ => Or.inr rfl), (fun h => absurd h (by decide +kernel)), (fun h => absurd h (by decide +kernel))⟩
theorem mFa_159 : mFa 159 := ⟨rfl, rfl, (fun _ => ⟨rfl, rfl⟩), (fun h => absurd h (by decide +kernel)), (fun h => absurd h (by decide +kernel)), by decide +kernel, ⟨by decide +kernel, by decide +kernel⟩, by decide +kernel, by decide +kernel, (fun h => absurd h (by decide +kernel)), (fun _ => Or.inr rfl), (fun h => absurd h (by decide +kernel)), (fun h => absurd h (by decide +kernel))⟩
theorem mFa_160 : mFa 160 := ⟨rfl, rfl, (fun _ => ⟨rfl, rfl⟩), (fun h => absurd h (by decide +kernel)), (fun h => absurd h (by decide +kernel)), by decide +kernel, ⟨by decide +kernel, by decide +kernel⟩, by decide +kernel, by decide +kernel, (fun h => absurd h (by decide +kernel)), (fun _ => Or.inr rfl), (fun h => absurd h (by decide +kernel)), (fun h => absurd h (by decide +kernel))⟩
theorem mFa_161 : mFa 161 := ⟨rfl, rfl, (fun _ => ⟨rfl, rfl⟩), (fun h => absurd h (by decide +kernel)), (fun h => absurd h (by decide +kernel)), by decide +kernel, ⟨by decide +kernel, by decide +kernel⟩, by decide +kernel, by decide +kernel, (fun h => absurd h (by decide +kernel)), (fun _ => Or.inr rfl), (fun h => absurd h (by decide +kernel)), (fun h => absurd h (by decide +kernel))⟩
theorem mFa_162 : mFa 162 := ⟨rfl, rfl, (fun _ => ⟨rfl, rfl⟩), (fun h => absurd h (by decide +kernel)), (fun h => absurd h (by decide +kernel)), by decide +kernel, ⟨by decide +kernel, by decide +kernel⟩, by decide +kernel, by decide +kernel, (fun h => absurd h (by decide +kernel)), (fun _ => Or.inr rfl), (fun h => absurd h (by decide +kernel)), (fun h => absurd h (by decide +kernel))⟩
theorem mFa_163 : mFa 163 := ⟨rfl, rfl, (fun _ => ⟨rfl, rfl⟩), (fun h => absurd h (by decide +kernel)), (fun h => absurd h (by decide +kernel)), by decide +kernel, ⟨by decide +kernel, by decide +kernel⟩, by decide +kernel, by decide +kernel, (fun h => absurd h (by decide +kernel)), (fun _ => Or.inl rfl), (fun h => absurd h (by decide +kernel)), (fun h => absurd h (by decide +kernel))⟩
theorem mFa_164 : mFa 164 := ⟨rfl, rfl, (fun h => absurd h (by decide +kernel)), (fun _ => rfl), (fun h => absurd h (by decide +kernel)), by decide +kernel, ⟨by decide +kernel, by decide +kernel⟩, by decide +kernel, by decide +kernel, (fun h => absurd h (by decide +kernel)), (fun _ => Or.inl rfl), (fun h => absurd h (by decide +kernel)), (fun h => absurd h (by decide +kernel))⟩
theorem mFa_165 : mFa 165 := ⟨rfl, rfl, (fun _ => ⟨rfl, rfl⟩), (fun h => absurd h (by decide +kernel)), (fun h => absurd h (by decide +kernel)), by decide +kernel, ⟨by decide +kernel, by decide +kernel⟩, by decide +kernel, by decide +kernel, (fun h => absurd h (by decide +kernel)), (fun _ => Or.inl rfl), (fun h => absurd h (by decide +kernel)), (fun h => absurd h (by decide +kernel))⟩
theorem mFa_166 : mFa 166 := ⟨rfl, rfl, (fun h => absurd h (by decide +kernel)), (fun _ => rfl), (fun h => absurd h (by decide +kernel)), by decide +kernel, ⟨by decide +kernel, by decide +kernel⟩, by decide +kernel, by decide +kernel, (fun h => absurd h (by decide +kernel)), (fun _ => Or.inl rfl), (fun h => absurd h (by decide +kernel)), (fun h => absurd h (by decide +kernel))⟩
theorem mFa_167 : mFa 167 := ⟨rfl, rfl, (fun _ => ⟨rfl, rfl⟩), (fun h => absurd h (by decide +kernel)), (fun h => absurd h (by decide +kernel)), by decide +kernel, ⟨by decide +kernel, by decide +kernel⟩, by decide +kernel, by decide +kernel, (fun h => absurd h (by decide +kernel)), (fun _ => Or.inl rfl), (fun h => absurd h (by decide +kernel)), (fun h => absurd h (by decide +kernel))⟩
theorem mFa_168 : mFa 168 := ⟨rfl, rfl, (fun _ => ⟨rfl, rfl⟩), (fun h => absurd h (by decide +kernel)), (fun h => absurd h (by decide +kernel)), by decide +kernel, ⟨by decide +kernel, by decide +kernel⟩, by decide +kernel, by decide +kernel, (fun h => absurd h (by decide +kernel)), (fun _ => Or.inl rfl), (fun h => absurd h (by decide +kernel)), (fun h => absurd h (by decide +kernel))⟩
theorem mFa_169 : mFa 169 := ⟨rfl, rfl, (fun _ => ⟨rfl, rfl⟩), (fun h => absurd h (by decide +kernel)), (fun h => absurd h (by decide +kernel)), by decide +kernel, ⟨by decide +kernel, by decide +kernel⟩, by decide +kernel, by decide +kernel, (fun h => absurd h (by decide +kernel)), (fun _ => Or.inl rfl), (fun h => absurd h (by decide +kernel)), (fun h => absurd h (by decide +kernel))⟩
theorem mFa_170 : mFa 170 := ⟨rfl, rfl, (fun _ => ⟨rfl, rfl⟩), (fun h => absurd h (by decide +kernel)), (fun h => absurd h (by decide +kernel)), by decide +kernel, ⟨by decide +kernel, by decide +kernel⟩, by decide +kernel, by decide +kernel, (fun h => absurd h (by decide +kernel)), (fun _ => Or.inr rfl), (fun h => absurd h (by decide +kernel)), (fun h => absurd h (by decide +kernel))⟩
theorem mFa_171 : mFa 171 := ⟨rfl, rfl, (fun _ => ⟨rfl, rfl⟩), (fun h => absurd h (by decide +kernel)), (fun h => absurd h (by decide +kernel)), by decide +kernel, ⟨by decide +kernel, by decide +kernel⟩, by decide +kernel, by decide +kernel, (fun h => absurd h (by decide +kernel)), (fun _ => Or.inl rfl), (fun h => absurd h (by decide +kernel)), (fun h => absurd h (by decide +kernel))⟩
theorem mFa_172 : mFa 172 := ⟨rfl, rfl, (fun _ => ⟨rfl, rfl⟩), (fun h => absurd h (by decide +kernel)), (fun h => absurd h (by decide +kernel)), by decide +kernel, ⟨by decide +kernel, by decide +kernel⟩, by decide +kernel, by decide +kernel, (fun _ => rfl), (fun h => absurd h (by decide +kernel)), (fun h => absurd h (by decide +kernel)), (fun h => absurd h (by decide +kernel))⟩
theorem mFa_173 : mFa 173 := ⟨rfl, rfl, (fun _ => ⟨rfl, rfl⟩), (fun h => absurd h (by decide +kernel)), (fun h => absurd h (by decide +kernel)), by decide +kernel, ⟨by decide +kernel, by decide +kernel⟩, by decide +kernel, by decide +kernel, (fun _ => rfl), (fun h => absurd h (by decide +kernel)), (fun h => absurd h (by decide +kernel)), (fun h => absurd h (by decide +kernel))⟩
theorem mFa_174 : mFa 174 := ⟨rfl, rfl, (fun _ => ⟨rfl, rfl⟩), (fun h => absurd h (by decide +kernel)), (fun h => absurd h (by decide +kernel)), by decide +kernel, ⟨by decide +kernel, by decide +kernel⟩, by decide +kernel, by decide +kernel, (fun _ => rfl), (fun h => absurd h (by decide +kernel)), (fun h => absurd h (by decide +kernel)), (fun h => absurd h (by decide +kernel))⟩
theorem mFa_175 : mFa 175 := ⟨rfl, rfl, (fun _ => ⟨rfl, rfl⟩), (fun h => absurd h (by decide +kernel)), (fun h => absurd h (by decide +kernel)), by decide +kernel, ⟨by decide +kernel, by decide +kernel⟩, by decide +kernel, by decide +kernel, (fun _ => rfl), (fun h => absurd h (by decide +kernel)), (fun h => absurd h (by decide +kernel)), (fun h => absurd h (by decide +kernel))⟩
theorem mFa_176 : mFa 176 := ⟨rfl, rfl, (fun h => absurd h (by decide +kernel)), (fun _ => rfl), (fun h => absurd h (by decide +kernel)), by decide +kernel, ⟨by decide +kernel, by decide +kernel⟩, by decide +kernel, by decide +kernel, (fun h => absurd h (by decide +kernel)), (fun _ => Or.inr rfl), (fun h => absurd h (by decide +kernel)), (fun h => absurd h (by decide +kernel))⟩
theorem mFa_177 : mFa 177 := ⟨rfl, rfl, (fun _ => ⟨rfl, rfl⟩), (fun h => absurd h (by decide +kernel)), (fun h => absurd h (by decide +kernel)), by decide +kernel, ⟨by decide +kernel, by decide +kernel⟩, by decide +kernel, by decide +kernel, (fun _ => rfl), (fun h => absurd h (by decide +kernel)), (fun h => absurd h (by decide +kernel)), (fun h => absurd h (by decide +kernel))⟩
theorem mFa_178 : mFa 178 := ⟨rfl, rfl, (fun _ => ⟨rfl, rfl⟩), (fun h => absurd h (by decide +kernel)), (fun h => absurd h (by decide +kernel)), by decide +kernel, ⟨by decide +kernel, by decide +kernel⟩, by decide +kernel, by decide +kernel, (fun _ => rfl), (fun h => absurd h (by decide +kernel)), (fun h => absurd h (by decide +kernel)), (fun h => absurd h (by decide +kernel))⟩
theorem mFa_179 : mFa 179 := ⟨rfl, rfl, (fun _ => ⟨rfl, rfl⟩), (fun h => absurd h (by decide +kernel)), (fun h => absurd h (by decide +kernel)), by decide +kernel, ⟨by decide +kernel, by decide +kernel⟩, by decide +kernel, by decide +kernel, (fun _ => rfl), (fun h => absurd h (by decide +kernel)), (fun h => absurd h (by decide +kernel)), (fun h => absurd h (by decide +kernel))⟩
theorem mFa_180 : mFa 180 := ⟨rfl, rfl, (fun _ => ⟨rfl, rfl⟩), (fun h => absurd h (by decide +kernel)), (fun h => absurd h (by decide +kernel)), by decide +kernel, ⟨by decide +kernel, by decide +kernel⟩, by decide +kernel, by decide +kernel, (fun _ => rfl), (fun h => absurd h (by decide +kernel)), (fun h => absurd h (by decide +kernel)), (fun h => absurd h (by decide +kernel))⟩
theorem mFa_181 : mFa 181 := ⟨rfl, rfl, (fun _ => ⟨rfl, rfl⟩), (fun h => absurd h (by decide +kernel)), (fun h => absurd h (by decide +kernel)), by decide +kernel, ⟨by decide +kernel, by decide +kernel⟩, by decide +kernel, by decide +kernel, (fun h => absurd h (by decide +kernel)), (fun _ => Or.inl rfl), (fun h => absurd h (by decide +kernel)), (fun h => absurd h (by decide +kernel))⟩
theorem mFa_182 : mFa 182 := ⟨rfl, rfl, (fun _ => ⟨rfl, rfl⟩), (fun h => absurd h (by decide +kernel)), (fun h => absurd h (by decide +kernel)), by decide +kernel, ⟨by decide +kernel, by decide +kernel⟩, by decide +kernel, by decide +kernel, (fun h => absurd h (by decide +kernel)), (fun _ => Or.inl rfl), (fun h => absurd h (by decide +kernel)), (fun h => absurd h (by decide +kernel))⟩
theorem mFa_183 : mFa 183 := ⟨rfl, rfl, (fun _ => ⟨rfl, rfl⟩), (fun h => absurd h (by decide +kernel)), (fun h => absurd h (by decide +kernel)), by decide +kernel, ⟨by decide +kernel, by decide +kernel⟩, by decide +kernel, by decide +kernel, (fun h => absurd h (by decide +kernel)), (fun _ => Or.inl rfl), (fun h => absurd h (by decide +kernel)), (fun h => absurd h (by decide +kernel))⟩
theorem mFa_184 : mFa 184 := ⟨rfl, rfl, (fun _ => ⟨rfl, rfl⟩), (fun h => absurd h (by decide +kernel)), (fun h => absurd h (by decide +kernel)), by decide +kernel, ⟨by decide +kernel, by decide +kernel⟩, by decide +kernel, by decide +kernel, (fun h => absurd h (by decide +kernel)), (fun _ => Or.inl rfl), (fun h => absurd h (by decide +kernel)), (fun h => absurd h (by decide +kernel))⟩
theorem mFa_185 : mFa 185 := ⟨rfl, rfl, (fun _ => ⟨rfl, rfl⟩), (fun h => absurd h (by decide +kernel)), (fun h => absurd h (by decide +kernel)), by decide +kernel, ⟨by decide +kernel, by decide +kernel⟩, by decide +kernel, by decide +kernel, (fun h => absurd h (by decide +kernel)), (fun _ => Or.inl rfl), (fun h => absurd h (by decide +kernel)), (fun h => absurd h (by decide +kernel))⟩
theorem mFa_186 : mFa 186 := ⟨rfl, rfl, (fun _ => ⟨rfl, rfl⟩), (fun h => absurd h (by decide +kernel)), (fun h => absurd h (by decide +kernel)), by decide +kernel, ⟨by decide +kernel, by decide +kernel⟩, by decide +kernel, by decide +kernel, (fun h => absurd h (by decide +kernel)), (fun _ => Or.inr rfl), (fun h => absurd h (by decide +kernel)), (fun h => absurd h (by decide +kernel))⟩
theorem mFa_187 : mFa 187 := ⟨rfl, rfl, (fun _ => ⟨rfl, rfl⟩), (fun h => absurd h (by decide +kernel)), (fun h => absurd h (by decide +kernel)), by decide +kernel, ⟨by decide +kernel, by decide +kernel⟩, by decide +kernel, by decide +kernel, (fun h => absurd h (by decide +kernel)), (fun _ => Or.inl rfl), (fun h => absurd h (by decide +kernel)), (fun h => absurd h (by decide +kernel))⟩
theorem mFa_188 : mFa 188 := ⟨rfl, rfl, (fun _ => ⟨rfl, rfl⟩), (fun h => absurd h (by decide +kernel)), (fun h => absurd h (by decide +kernel)), by decide +kernel, ⟨by decide +kernel, by decide +kernel⟩, by decide +kernel, by decide +kernel, (fun h => absurd h (by decide +kernel)), (fun _ => Or.inl rfl), (fun h => absurd h (by decide +kernel)), (fun h => absurd h (by decide +kernel))⟩
theorem mFa_189 : mFa 189 := ⟨rfl, rfl, (fun _ => ⟨rfl, rfl⟩), (fun h => absurd h (by decide +kernel)), (fun h => absurd h (by decide +kernel)), by decide +kernel, ⟨by decide +kernel, by decide +kernel⟩, by decide +kernel, by decide +kernel, (fun _ => rfl), (fun h => absurd h (by decide +kernel)), (fun h => absurd h (by decide +kernel)), (fun h => absurd h (by decide +kernel))⟩
theorem mFa_190 : mFa 190 := ⟨rfl, rfl, (fun _ => ⟨rfl, rfl⟩), (fun h => absurd h (by decide +kernel)), (fun h => absurd h (by decide +kernel)), by decide +kernel, ⟨by decide +kernel, by decide +kernel⟩, by decide +kernel, by decide +kernel, (fun h => absurd h (by decide +kernel)), (fun _ => Or.inl rfl), (fun h => absurd h (by decide +kernel)), (fun h => absurd h (by decide +kernel))⟩
theorem mFa_191 : mFa 191 := ⟨rfl, rfl, (fun _ => ⟨rfl, rfl⟩), (fun h => absurd h (by decide +kernel)), (fun h => absurd h (by decide +kernel)), by decide +kernel, ⟨by decide +kernel, by decide +kernel⟩, by decide +kernel, by decide +kernel, (fun h => absurd h (by decide +kernel)), (fun _ => Or.inl rfl), (fun h => absurd h (by decide +kernel)), (fun h => absurd h (by decide +kernel))⟩
theorem mFa_192 : mFa 192 := ⟨rfl, rfl, (fun _ => ⟨rfl, rfl⟩), (fun h => absurd h (by decide +kernel)), (fun h => absurd h (by decide +kernel)), by decide +kernel, ⟨by decide +kernel, by decide +kernel⟩, by decide +kernel, by decide +kernel, (fun h => absurd h (by decide +kernel)), (fun _ => Or.inl rfl), (fun h => absurd h (by decide +kernel)), (fun h => absurd h (by decide +kernel))⟩
theorem mFa_193 : mFa 193 := ⟨rfl, rfl, (fun _ => ⟨rfl, rfl⟩), (fun h => absurd h (by decide +kernel)), (fun h => absurd h (by decide +kernel)), by decide +kernel, ⟨by decide +kernel, by decide +kernel⟩, by decide +kernel, by decide +kernel, (fun h => absurd h (by decide +kernel)), (fun _ => Or.inl rfl), (fun h => absurd h (by decide +kernel)), (fun h => absurd h (by decide +kernel))⟩
theorem mFa_194 : mFa 194 := ⟨rfl, rfl, (fun _ => ⟨rfl, rfl⟩), (fun h => absurd h (by decide +kernel)), (fun h => absurd h (by decide +kernel)), by decide +kernel, ⟨by decide +kernel, by decide +kernel⟩, by decide +kernel, by decide +kernel, (fun h => absurd h (by decide +kernel)), (fun _ => Or.inl rfl), (fun h => absurd h (by decide +kernel)), (fun h => absurd h (by decide +kernel))⟩
theorem mFa_195 : mFa 195 := ⟨rfl, rfl, (fun _ => ⟨rfl, rfl⟩), (fun h => absurd h (by decide +kernel)), (fun h => absurd h (by decide +kernel)), by decide +kernel, ⟨by decide +kernel, by decide +kernel⟩, by decide +kernel, by decide +kernel, (fun h => absurd h (by decide +kernel)), (fun _ => Or.inl rfl), (fun h => absurd h (by decide +kernel)), (fun h => absurd h (by decide +kernel))⟩
theorem mFa_196 : mFa 196 := ⟨rfl, rfl, (fun _ => ⟨rfl, rfl⟩), (fun h => absurd h (by decide +kernel)), (fun h => absurd h (by decide +kernel)), by decide +kernel, ⟨by decide +kernel, by decide +kernel⟩, by decide +kernel, by decide +kernel, (fun _ => rfl), (fun h => absurd h (by decide +kernel)), (fun h => absurd h (by decide +kernel)), (fun h => absurd h (by decide +kernel))⟩
theorem mFa_197 : mFa 197 := ⟨rfl, rfl, (fun _ => ⟨rfl, rfl⟩), (fun h => absurd h (by decide +kernel)), (fun h => absurd h (by decide +kernel)), by decide +kernel, ⟨by decide +kernel, by decide +kernel⟩, by decide +kernel, by decide +kernel, (fun h => absurd h (by decide +kernel)), (fun _ => Or.inl rfl), (fun h => absurd h (by decide +kernel)), (fun h => absurd h (by decide +kernel))⟩
theorem mFa_198 : mFa 198 := ⟨rfl, rfl, (fun _ => ⟨rfl, rfl⟩), (fun h => absurd h (by decide +kernel)), (fun h => absurd h (by decide +kernel)), by decide +kernel, ⟨by decide +kernel, by decide +kernel⟩, by decide +kernel, by decide +kernel, (fun h => absurd h (by decide +kernel)), (fun _ => Or.inl rfl), (fun h => absurd h (by decide +kernel)), (fun h => absurd h (by decide +kernel))⟩
theorem mFa_199 : mFa 199 := ⟨rfl, rfl, (fun _ => ⟨rfl, rfl⟩), (fun h => absurd h (by decide +kernel)), (fun h => absurd h (by decide +kernel)), by decide +kernel, ⟨by decide +kernel, by decide +kernel⟩, by decide +kernel, by decide +kernel, (fun h => absurd h (by decide +kernel)), (fun _ => Or.inl rfl), (fun h => absurd h (by decide +kernel)), (fun h => absurd h (by decide +kernel))⟩
theorem mFa_200 : mFa 200 := ⟨rfl, rfl, (fun _ => ⟨rfl, rfl⟩), (fun h => absurd h (by decide +kernel)), (fun h => absurd h (by decide +kernel)), by decide +kernel, ⟨by decide +kernel, by decide +kernel⟩, by decide +kernel, by decide +kernel, (fun h => absurd h (by decide +kernel)), (fun _ => Or.inl rfl), (fun h => absurd h (by decide +kernel)), (fun h => absurd h (by decide +kernel))⟩
theorem mFa_201 : mFa 201 := ⟨rfl, rfl, (fun _ => ⟨rfl, rfl⟩), (fun h => absurd h (by decide +kernel)), (fun h => absurd h (by decide +kernel)), by decide +kernel, ⟨by decide +kernel, by decide +kernel⟩, by decide +kernel, by decide +kernel, (fun h => absurd h (by decide +kernel)), (fun _ => Or.inl rfl), (fun h => absurd h (by decide +kernel)), (fun h => absurd h (by decide +kernel))⟩
theorem mFa_202 : mFa 202 := ⟨rfl, rfl, (fun _ => ⟨rfl, rfl⟩), (fun h => absurd h (by decide +kernel)), (fun h => absurd h (by decide +kernel)), by decide +kernel, ⟨by decide +kernel, by decide +kernel⟩, by decide +kernel, by decide +kernel, (fun h => absurd h (by decide +kernel)), (fun _ => Or.inl rfl), (fun h => absurd h (by decide +kernel)), (fun h => absurd h (by decide +kernel))⟩
theorem mFa_203 : mFa 203 := ⟨rfl, rfl, (fun _ => ⟨rfl, rfl⟩), (fun h => absurd h (by decide +kernel)), (fun h => absurd h (by decide +kernel)), by decide +kernel, ⟨by decide +kernel, by decide +kernel⟩, by decide +kernel, by decide +kernel, (fun h => absurd h (by decide +kernel)), (fun _ => Or.inl rfl), (fun h => absurd h (by decide +kernel)), (fun h => absurd h (by decide +kernel))⟩
theorem mFa_204 : mFa 204 := ⟨rfl, rfl, (fun _ => ⟨rfl, rfl⟩), (fun h => absurd h (by decide +kernel)), (fun h => absurd h (by decide +kernel)), by decide +kernel, ⟨by decide +kernel, by decide +kernel⟩, by decide +kernel, by decide +kernel, (fun h => absurd h (by decide +kernel)), (fun _ => Or.inl rfl), (fun h => absurd h (by decide +kernel)), (fun h => absurd h (by decide +kernel))⟩
theorem mFa_205 : mFa 205 := ⟨rfl, rfl, (fun _ => ⟨rfl, rfl⟩), (fun h => absurd h (by decide +kernel)), (fun h => absurd h (by decide +kernel)), by decide +kernel, ⟨by decide +kernel, by decide +kernel⟩, by decide +kernel, by decide +kernel, (fun h => absurd h (by decide +kernel)), (fun _ => Or.inl rfl), (fun h => absurd h (by decide +kernel)), (fun h => absurd h (by decide +kernel))⟩
theorem mFa_206 : mFa 206 := ⟨rfl, rfl, (fun _ => ⟨rfl, rfl⟩), (fun h => absurd h (by decide +kernel)), (fun h => absurd h (by decide +kernel)), by decide +kernel, ⟨by decide +kernel, by decide +kernel⟩, by decide +kernel, by decide +kernel, (fun h => absurd h (by decide +kernel)), (fun _ => Or.inl rfl), (fun h => absurd h (by decide +kernel)), (fun h => absurd h (by decide +kernel))⟩
theorem mFa_207 : mFa 207 := ⟨rfl, rfl, (fun _ => ⟨rfl, rfl⟩), (fun h => absurd h (by decide +kernel)), (fun h => absurd h (by decide +kernel)), by decide +kernel, ⟨by decide +kernel, by decide +kernel⟩, by decide +kernel, by decide +kernel, (fun h => absurd h (by decide +kernel)), (fun _ => Or.inl rfl), (fun h => absurd h (by decide +kernel)), (fun h => absurd h (by decide +kernel))⟩
theorem mFa_208 : mFa 208 := ⟨rfl, rfl, (fun _ => ⟨rfl, rfl⟩), (fun h => absurd h (by decide +kernel)), (fun h => absurd h (by decide +kernel)), by decide +kernel, ⟨by decide +kernel, by decide +kernel⟩, by decide +kernel, by decide +kernel, (fun h => absurd h (by decide +kernel)), (fun _ => Or.inl rfl), (fun h => absurd h (by decide +kernel)), (fun h => absurd h (by decide +kernel))⟩
theorem mFa_209 : mFa 209 := ⟨rfl, rfl, (fun h => absurd h (by decide +kernel)), (fun _ => rfl), (fun h => absurd h (by decide +kernel)), by decide +kernel, ⟨by decide +kernel, by decide +kernel⟩, by decide +kernel, by decide +kernel, (fun h => absurd h (by decide +kernel)), (fun _ => Or.inl rfl), (fun h => absurd h (by decide +kernel)), (fun h => absurd h (by decide +kernel))⟩
theorem mFa_210 : mFa 210 := ⟨rfl, rfl, (fun _ => ⟨rfl, rfl⟩), (fun h => absurd h (by decide +kernel)), (fun h => absurd h (by decide +kernel)), by decide +kernel, ⟨by decide +kernel, by decide +kernel⟩, by decide +kernel, by decide +kernel, (fun _ => rfl), (fun h => absurd h (by decide +kernel)), (fun h => absurd h (by decide +kernel)), (fun h => absurd h (by decide +kernel))⟩
theorem mFa_211 : mFa 211 := ⟨rfl, rfl, (fun _ => ⟨rfl, rfl⟩), (fun h => absurd h (by decide +kernel)), (fun h => absurd h (by decide +kernel)), by decide +kernel, ⟨by decide +kernel, by decide +kernel⟩, by decide +kernel, by decide +kernel, (fun h => absurd h (by decide +kernel)), (fun _ => Or.inl rfl), (fun h => absurd h (by decide +kernel)), (fun h => absurd h (by decide +kernel))⟩
theorem mFa_212 : mFa 212 := ⟨rfl, rfl, (fun _ => ⟨rfl, rfl⟩), (fun h => absurd h (by decide +kernel)), (fun h => absurd h (by decide +kernel)), by decide +kernel, ⟨by decide +kernel, by decide +kernel⟩, by decide +kernel, by decide +kernel, (fun h => absurd h (by decide +kernel)), (fun _ => Or.inl rfl), (fun h => absurd h (by decide +kernel)), (fun h => absurd h (by decide +kernel))⟩
theorem mFa_213 : mFa 213 := ⟨rfl, rfl, (fun _ => ⟨rfl, rfl⟩), (fun h => absurd h (by decide +kernel)), (fun h => absurd h (by decide +kernel)), by decide +kernel, ⟨by decide +kernel, by decide +kernel⟩, by decide +kernel, by decide +kernel, (fun h => absurd h (by decide +kernel)), (fun _ => Or.inl rfl), (fun h => absurd h (by decide +kernel)), (fun h => absurd h (by decide +kernel))⟩
theorem mFa_214 : mFa 214 := ⟨rfl, rfl, (fun _ => ⟨rfl, rfl⟩), (fun h => absurd h (by decide +kernel)), (fun h => absurd h (by decide +kernel)), by decide +kernel, ⟨by decide +kernel, by decide +kernel⟩, by decide +kernel, by decide +kernel, (fun h => absurd h (by decide +kernel)), (fun _ => Or.inl rfl), (fun h => absurd h (by decide +kernel)), (fun h => absurd h (by decide +kernel))⟩
theorem mFa_215 : mFa 215 := ⟨rfl, rfl, (fun _ => ⟨rfl, rfl⟩), (fun h => absurd h (by decide +kernel)), (fun h => absurd h (by decide +kernel)), by decide +kernel, ⟨by decide +kernel, by decide +kernel⟩, by decide +kernel, by decide +kernel, (fun h => absurd h (by decide +kernel)), (fun _ => Or.inl rfl), (fun h => absurd h (by decide +kernel)), (fun h => absurd h (by decide +kernel))⟩
theorem mFa_216 : mFa 216 := ⟨rfl, rfl, (fun _ => ⟨rfl, rfl⟩), (fun h => absurd h (by decide +kernel)), (fun h => absurd h (by decide +kernel)), by decide +kernel, ⟨by decide +kernel, by decide +kernel⟩, by decide +kernel, by decide +kernel, (fun h => absurd h (by decide +kernel)), (fun _ => Or.inl rfl), (fun h => absurd h (by decide +kernel)), (fun h => absurd h (by decide +kernel))⟩
theorem mFa_217 : mFa 217 := ⟨rfl, rfl, (fun _ => ⟨rfl, rfl⟩), (fun h => absurd h (by decide +kernel)), (fun h => absurd h (by decide +kernel)), by decide +kernel, ⟨by decide +kernel, by decide +kernel⟩, by decide +kernel, by decide +kernel, (fun h => absurd h (by decide +kernel)), (fun _ => Or.inl rfl), (fun h => absurd h (by decide +kernel)), (fun h => absurd h (by decide +kernel))⟩
theorem mFa_218 : mFa 218 := ⟨rfl, rfl, (fun _ => ⟨rfl, rfl⟩), (fun h => absurd h (by decide +kernel)), (fun h => absurd h (by decide +kernel)), by decide +kernel, ⟨by decide +kernel, by decide +kernel⟩, by decide +kernel, by decide +kernel, (fun h => absurd h (by decide +kernel)), (fun _ => Or.inl rfl), (fun h => absurd h (by decide +kernel)), (fun h => absurd h (by decide +kernel))⟩
theorem mFa_219 : mFa 219 := ⟨rfl, rfl, (fun _ => ⟨rfl, rfl⟩), (fun h => absurd h (by decide +kernel)), (fun h => absurd h (by decide +kernel)), by decide +kernel, ⟨by decide +kernel, by decide +kernel⟩, by decide +kernel, by decide +kernel, (fun h => absurd h (by decide +kernel)), (fun _ => Or.inl rfl), (fun h => absurd h (by decide +kernel)), (fun h => absurd h (by decide +kernel))⟩
theorem mFa_220 : mFa 220 := ⟨rfl, rfl, (fun _ => ⟨rfl, rfl⟩), (fun h => absurd h (by decide +kernel)), (fun h => absurd h (by decide +kernel)), by decide +kernel, ⟨by decide +kernel, by decide +kernel⟩, by decide +kernel, by decide +kernel, (fun h => absurd h (by decide +kernel)), (fun _ => Or.inr rfl), (fun h => absurd h (by decide +kernel)), (fun h => absurd h (by decide +kernel))⟩
theorem mFa_221 : mFa 221 := ⟨rfl, rfl, (fun h => absurd h (by decide +kernel)), (fun _ => rfl), (fun h => absurd h (by decide +kernel)), by decide +kernel, ⟨by decide +kernel, by decide +kernel⟩, by decide +kernel, by decide +kernel, (fun h => absurd h (by decide +kernel)), (fun h => absurd h (by decide +kernel)), (fun _ => rfl), (fun h => absurd h (by decide +kernel))⟩
theorem mFa_222 : mFa 222 := ⟨rfl, rfl, (fun _ => ⟨rfl, rfl⟩), (fun h => absurd h (by decide +kernel)), (fun h => absurd h (by decide +kernel)), by decide +kernel, ⟨by decide +kernel, by decide +kernel⟩, by decide +kernel, by decide +kernel, (fun h => absurd h (by decide +kernel)), (fun _ => Or.inl rfl), (fun h => absurd h (by decide +kernel)), (fun h => absurd h (by decide +kernel))⟩
theorem mFa_223 : mFa 223 := ⟨rfl, rfl, (fun _ => ⟨rfl, rfl⟩), (fun h => absurd h (by decide +kernel)), (fun h => absurd h (by decide +kernel)), by decide +kernel, ⟨by decide +kernel, by decide +kernel⟩, by decide +kernel, by decide +kernel, (fun h => absurd h (by decide +kernel)), (fun h => absurd h (by decide +kernel)), (fun _ => rfl), (fun h => absurd h (by decide +kernel))⟩
theorem mFa_224 : mFa 224 := ⟨rfl, rfl, (fun _ => ⟨rfl, rfl⟩), (fun h => absurd h (by decide +kernel)), (fun h => absurd h (by decide +kernel)), by decide +kernel, ⟨by decide +kernel, by decide +kernel⟩, by decide +kernel, by decide +kernel, (fun h => absurd h (by decide +kernel)), (fun _ => Or.inl rfl), (fun h => absurd h (by decide +kernel)), (fun h => absurd h (by decide +kernel))⟩
theorem mFa_225 : mFa 225 := ⟨rfl, rfl, (fun _ => ⟨rfl, rfl⟩), (fun h => absurd h (by decide +kernel)), (fun h => absurd h (by decide +kernel)), by decide +kernel, ⟨by decide +kernel, by decide +kernel⟩, by decide +kernel, by decide +kernel, (fun h => absurd h (by decide +kernel)), (fun _ => Or.inl rfl), (fun h => absurd h (by decide +kernel)), (fun h => absurd h (by decide +kernel))⟩
theorem mFa_226 : mFa 226 := ⟨rfl, rfl, (fun _ => ⟨rfl, rfl⟩), (fun h => absurd h (by decide +kernel)), (fun h => absurd h (by decide +kernel)), by decide +kernel, ⟨by decide +kernel, by decide +kernel⟩, by decide +kernel, by decide +kernel, (fun h => absurd h (by decide +kernel)), (fun _ => Or.inl rfl), (fun h => absurd h (by decide +kernel)), (fun h => absurd h (by decide +kernel))⟩
theorem mFa_227 : mFa 227 := ⟨rfl, rfl, (fun h => absurd h (by decide +kernel)), (fun _ => rfl), (fun h => absurd h (by decide +kernel)), by decide +kernel, ⟨by decide +kernel, by decide +kernel⟩, by decide +kernel, by decide +kernel, (fun h => absurd h (by decide +kernel)), (fun _ => Or.inl rfl), (fun h => absurd h (by decide +kernel)), (fun h => absurd h (by decide +kernel))⟩
theorem mFa_228 : mFa 228 := ⟨rfl, rfl, (fun h => absurd h (by decide +kernel)), (fun _ => rfl), (fun h => absurd h (by decide +kernel)), by decide +kernel, ⟨by decide +kernel, by decide +kernel⟩, by decide +kernel, by decide +kernel, (fun h => absurd h (by decide +kernel)), (fun _ => Or.inl rfl), (fun h => absurd h (by decide +kernel)), (fun h => absurd h (by decide +kernel))⟩
theorem mFa_c0 {m : Nat} (h1 : 0 ≤ m) (h2 : m < 16) : mFa m := by
  rcases (by omega : m = 0 ∨ m = 1 ∨ m = 2 ∨ m = 3 ∨ m = 4 ∨ m = 5 ∨ m = 6 ∨ m = 7 ∨ m = 8 ∨ m = 9 ∨ m = 10 ∨ m = 11 ∨ m = 12 ∨ m = 13 ∨ m = 14 ∨ m = 15) with rfl | rfl | rfl | rfl | rfl | rfl | rfl | rfl | rfl | rfl | rfl | rfl | rfl | rfl | rfl | rfl
  · exact mFa_0
  · exact mFa_1
  · exact mFa_2
  · exact mFa_3
  · exact mFa_4
  · exact mFa_5
  · exact mFa_6
  · exact mFa_7
  · exact mFa_8
  · exact mFa_9
  · exact mFa_10
  · exact mFa_11
  · exact mFa_12
  · exact mFa_13
  · exact mFa_14
  · exact mFa_15
theorem mFa_c16 {m : Nat} (h1 : 16 ≤ m) (h2 : m < 32) : mFa m := by
  rcases (by omega : m = 16 ∨ m = 17 ∨ m = 18 ∨ m = 19 ∨ m = 20 ∨ m = 21 ∨ m = 22 ∨ m = 23 ∨ m = 24 ∨ m = 25 ∨ m = 26 ∨ m = 27 ∨ m = 28 ∨ m = 29 ∨ m = 30 ∨ m = 31) with rfl | rfl | rfl | rfl | rfl | rfl | rfl | rfl | rfl | rfl | rfl | rfl | rfl | rfl | rfl | rfl
  · exact mFa_16
  · exact mFa_17
  · exact mFa_18
  · exact mFa_19
  · exact mFa_20
  · exact mFa_21
  · exact mFa_22
  · exact mFa_23
  · exact mFa_24
  · exact mFa_25
  · exact mFa_26
  · exact mFa_27
  · exact mFa_28
  · exact mFa_29
  · exact mFa_30
  · exact mFa_31
theorem mFa_c32 {m : Nat} (h1 : 32 ≤ m) (h2 : m < 48) : mFa m := by
  rcases (by omega : m = 32 ∨ m = 33 ∨ m = 34 ∨ m = 35 ∨ m = 36 ∨ m = 37 ∨ m = 38 ∨ m = 39 ∨ m = 40 ∨ m = 41 ∨ m = 42 ∨ m = 43 ∨ m = 44 ∨ m = 45 ∨ m = 46 ∨ m = 47) with rfl | rfl | rfl | rfl | rfl | rfl | rfl | rfl | rfl | rfl | rfl | rfl | rfl | rfl | rfl | rfl
  · exact mFa_32
  · exact mFa_33
  · exact mFa_34
  · exact mFa_35
  · exact mFa_36
  · exact mFa_37
  · exact mFa_38
  · exact mFa_39
  · exact mFa_40
  · exact mFa_41
  · exact mFa_42
  · exact mFa_43
  · exact mFa_44
  · exact mFa_45
  · exact mFa_46
  · exact mFa_47
theorem mFa_c48 {m : Nat} (h1 : 48 ≤ m) (h2 : m < 64) : mFa m := by
  rcases (by omega : m = 48 ∨ m = 49 ∨ m = 50 ∨ m = 51 ∨ m = 52 ∨ m = 53 ∨ m = 54 ∨ m = 55 ∨ m = 56 ∨ m = 57 ∨ m = 58 ∨ m = 59 ∨ m = 60 ∨ m = 61 ∨ m = 62 ∨ m = 63) with rfl | rfl | rfl | rfl | rfl | rfl | rfl | rfl | rfl | rfl | rfl | rfl | rfl | rfl | rfl | rfl
  · exact mFa_48
  · exact mFa_49
  · exact mFa_50
  · exact mFa_51
  · exact mFa_52
  · exact mFa_53
  · exact mFa_54
  · exact mFa_55
  · exact mFa_56
  · exact mFa_57
  · exact mFa_58
  · exact mFa_59
  · exact mFa_60
  · exact mFa_61
  · exact mFa_62
  · exact mFa_63
theorem mFa_c64 {m : Nat} (h1 : 64 ≤ m) (h2 : m < 80) : mFa m := by
  rcases (by omega : m = 64 ∨ m = 65 ∨ m = 66 ∨ m = 67 ∨ m = 68 ∨ m = 69 ∨ m = 70 ∨ m = 71 ∨ m = 72 ∨ m = 73 ∨ m = 74 ∨ m = 75 ∨ m = 76 ∨ m = 77 ∨ m = 78 ∨ m = 79) with rfl | rfl | rfl | rfl | rfl | rfl | rfl | rfl | rfl | rfl | rfl | rfl | rfl | rfl | rfl | rfl
  · exact mFa_64
  · exact mFa_65
  · exact mFa_66
  · exact mFa_67
  · exact mFa_68
  · exact mFa_69
  · exact mFa_70
  · exact mFa_71
  · exact mFa_72
  · exact mFa_73
  · exact mFa_74
  · exact mFa_75
  · exact mFa_76
  · exact mFa_77
  · exact mFa_78
  · exact mFa_79
theorem mFa_c80 {m : Nat} (h1 : 80 ≤ m) (h2 : m < 96) : mFa m := by
  rcases (by omega : m = 80 ∨ m = 81 ∨ m = 82 ∨ m = 83 ∨ m = 84 ∨ m = 85 ∨ m = 86 ∨ m = 87 ∨ m = 88 ∨ m = 89 ∨ m = 90 ∨ m = 91 ∨ m = 92 ∨ m = 93 ∨ m = 94 ∨ m = 95) with rfl | rfl | rfl | rfl | rfl | rfl | rfl | rfl | rfl | rfl | rfl | rfl | rfl | rfl | rfl | rfl
  · exact mFa_80
  · exact mFa_81
  · exact mFa_82
  · exact mFa_83
  · exact mFa_84
  · exact mFa_85
  · exact mFa_86
  · exact mFa_87
  · exact mFa_88
  · exact mFa_89
  · exact mFa_90
  · exact mFa_91
  · exact mFa_92
  · exact mFa_93
  · exact mFa_94
  · exact mFa_95
theorem mFa_c96 {m : Nat} (h1 : 96 ≤ m) (h2 : m < 112) : mFa m := by
  rcases (by omega : m = 96 ∨ m = 97 ∨ m = 98 ∨ m = 99 ∨ m = 100 ∨ m = 101 ∨ m = 102 ∨ m = 103 ∨ m = 104 ∨ m = 105 ∨ m = 106 ∨ m = 107 ∨ m = 108 ∨ m = 109 ∨ m = 110 ∨ m = 111) with rfl | rfl | rfl | rfl | rfl | rfl | rfl | rfl | rfl | rfl | rfl | rfl | rfl | rfl | rfl | rfl
  · exact mFa_96
  · exact mFa_97
  · exact mFa_98
  · exact mFa_99
  · exact mFa_100
  · exact mFa_101
  · exact mFa_102
  · exact mFa_103
  · exact mFa_104
  · exact mFa_105
  · exact mFa_106
  · exact mFa_107
  · exact mFa_108
  · exact mFa_109
  · exact mFa_110
  · exact mFa_111
theorem mFa_c112 {m : Nat} (h1 : 112 ≤ m) (h2 : m < 128) : mFa m := by
  rcases (by omega : m = 112 ∨ m = 113 ∨ m = 114 ∨ m = 115 ∨ m = 116 ∨ m = 117 ∨ m = 118 ∨ m = 119 ∨ m = 120 ∨ m = 121 ∨ m = 122 ∨ m = 123 ∨ m = 124 ∨ m = 125 ∨ m = 126 ∨ m = 127) with rfl | rfl | rfl | rfl | rfl | rfl | rfl | rfl | rfl | rfl | rfl | rfl | rfl | rfl | rfl | rfl
  · exact mFa_112
  · exact mFa_113
  · exact mFa_114
  · exact mFa_115
  · exact mFa_116
  · exact mFa_117
  · exact mFa_118
  · exact mFa_119
  · exact mFa_120
  · exact mFa_121
  · exact mFa_122
  · exact mFa_123
  · exact mFa_124
  · exact mFa_125
  · exact mFa_126
  · exact mFa_127
theorem mFa_c128 {m : Nat} (h1 : 128 ≤ m) (h2 : m < 144) : mFa m := by
  rcases (by omega : m = 128 ∨ m = 129 ∨ m = 130 ∨ m = 131 ∨ m = 132 ∨ m = 133 ∨ m = 134 ∨ m = 135 ∨ m = 136 ∨ m = 137 ∨ m = 138 ∨ m = 139 ∨ m = 140 ∨ m = 141 ∨ m = 142 ∨ m = 143) with rfl | rfl | rfl | rfl | rfl | rfl | rfl | rfl | rfl | rfl | rfl | rfl | rfl | rfl | rfl | rfl
  · exact mFa_128
  · exact mFa_129
  · exact mFa_130
  · exact mFa_131
  · exact mFa_132
  · exact mFa_133
  · exact mFa_134
  · exact mFa_135
  · exact mFa_136
  · exact mFa_137
  · exact mFa_138
  · exact mFa_139
  · exact mFa_140
  · exact mFa_141
  · exact mFa_142
  · exact mFa_143
theorem mFa_c144 {m : Nat} (h1 : 144 ≤ m) (h2 : m < 160) : mFa m := by
  rcases (by omega : m = 144 ∨ m = 145 ∨ m = 146 ∨ m = 147 ∨ m = 148 ∨ m = 149 ∨ m = 150 ∨ m = 151 ∨ m = 152 ∨ m = 153 ∨ m = 154 ∨ m = 155 ∨ m = 156 ∨ m = 157 ∨ m = 158 ∨ m = 159) with rfl | rfl | rfl | rfl | rfl | rfl | rfl | rfl | rfl | rfl | rfl | rfl | rfl | rfl | rfl | rfl
  · exact mFa_144
  · exact mFa_145
  · exact mFa_146
  · exact mFa_147
  · exact mFa_148
  · exact mFa_149
  · exact mFa_150
  · exact mFa_151
  · exact mFa_152
  · exact mFa_153
  · exact mFa_154
  · exact mFa_155
  · exact mFa_156
  · exact mFa_157
  · exact mFa_158
  · exact mFa_159
theorem mFa_c160 {m : Nat} (h1 : 160 ≤ m) (h2 : m < 176) : mFa m := by
  rcases (by omega : m = 160 ∨ m = 161 ∨ m = 162 ∨ m = 163 ∨ m = 164 ∨ m = 165 ∨ m = 166 ∨ m = 167 ∨ m = 168 ∨ m = 169 ∨ m = 170 ∨ m = 171 ∨ m = 172 ∨ m = 173 ∨ m = 174 ∨ m = 175) with rfl | rfl | rfl | rfl | rfl | rfl | rfl | rfl | rfl | rfl | rfl | rfl | rfl | rfl | rfl | rfl
  · exact mFa_160
  · exact mFa_161
  · exact mFa_162
  · exact mFa_163
  · exact mFa_164
  · exact mFa_165
  · exact mFa_166
  · exact mFa_167
  · exact mFa_168
  · exact mFa_169
  · exact mFa_170
  · exact mFa_171
  · exact mFa_172
  · exact mFa_173
  · exact mFa_174
  · exact mFa_175
theorem mFa_c176 {m : Nat} (h1 : 176 ≤ m) (h2 : m < 192) : mFa m := by
  rcases (by omega : m = 176 ∨ m = 177 ∨ m = 178 ∨ m = 179 ∨ m = 180 ∨ m = 181 ∨ m = 182 ∨ m = 183 ∨ m = 184 ∨ m = 185 ∨ m = 186 ∨ m = 187 ∨ m = 188 ∨ m = 189 ∨ m = 190 ∨ m = 191) with rfl | rfl | rfl | rfl | rfl | rfl | rfl | rfl | rfl | rfl | rfl | rfl | rfl | rfl | rfl | rfl
  · exact mFa_176
  · exact mFa_177
  · exact mFa_178
  · exact mFa_179
  · exact mFa_180
  · exact mFa_181
  · exact mFa_182
  · exact mFa_183
  · exact mFa_184
  · exact mFa_185
  · exact mFa_186
  · exact mFa_187
  · exact mFa_188
  · exact mFa_189
  · exact mFa_190
  · exact mFa_191
theorem mFa_c192 {m : Nat} (h1 : 192 ≤ m) (h2 : m < 208) : mFa m := by
  rcases (by omega : m = 192 ∨ m = 193 ∨ m = 194 ∨ m = 195 ∨ m = 196 ∨ m = 197 ∨ m = 198 ∨ m = 199 ∨ m = 200 ∨ m = 201 ∨ m = 202 ∨ m = 203 ∨ m = 204 ∨ m = 205 ∨ m = 206 ∨ m = 207) with rfl | rfl | rfl | rfl | rfl | rfl | rfl | rfl | rfl | rfl | rfl | rfl | rfl | rfl | rfl | rfl
  · exact mFa_192
  · exact mFa_193
  · exact mFa_194
  · exact mFa_195
  · exact mFa_196
  · exact mFa_197
  · exact mFa_198
  · exact mFa_199
  · exact mFa_200
  · exact mFa_201
  · exact mFa_202
  · exact mFa_203
  · exact mFa_204
  · exact mFa_205
  · exact mFa_206
  · exact mFa_207
theorem mFa_c208 {m : Nat} (h1 : 208 ≤ m) (h2 : m < 224) : mFa m := by
  rcases (by omega : m = 208 ∨ m = 209 ∨ m = 210 ∨ m = 211 ∨ m = 212 ∨ m = 213 ∨ m = 214 ∨ m = 215 ∨ m = 216 ∨ m = 217 ∨ m = 218 ∨ m = 219 ∨ m = 220 ∨ m = 221 ∨ m = 222 ∨ m = 223) with rfl | rfl | rfl | rfl | rfl | rfl | rfl | rfl | rfl | rfl | rfl | rfl | rfl | rfl | rfl | rfl
  · exact mFa_208
  · exact mFa_209
  · exact mFa_210
  · exact mFa_211
  · exact mFa_212
  · exact mFa_213
  · exact mFa_214
  · exact mFa_215
  · exact mFa_216
  · exact mFa_217
  · exact mFa_218
  · exact mFa_219
  · exact mFa_220
  · exact mFa_221
  · exact mFa_222
  · exact mFa_223
theorem mFa_c224 {m : Nat} (h1 : 224 ≤ m) (h2 : m < 229) : mFa m := by
  rcases (by omega : m = 224 ∨ m = 225 ∨ m = 226 ∨ m = 227 ∨ m = 228) with rfl | rfl | rfl | rfl | rfl
  · exact mFa_224
  · exact mFa_225
  · exact mFa_226
  · exact mFa_227
  · exact mFa_228
theorem mFa_all {m : Nat} (h : m < 229) : mFa m := by
  rcases (by omega : (0 ≤ m ∧ m < 16) ∨ (16 ≤ m ∧ m < 32) ∨ (32 ≤ m ∧ m < 48) ∨ (48 ≤ m ∧ m < 64) ∨ (64 ≤ m ∧ m < 80) ∨ (80 ≤ m ∧ m < 96) ∨ (96 ≤ m ∧ m < 112) ∨ (112 ≤ m ∧ m < 128) ∨ (128 ≤ m ∧ m < 144) ∨ (144 ≤ m ∧ m < 160) ∨ (160 ≤ m ∧ m < 176) ∨ (176 ≤ m ∧ m < 192) ∨ (192 ≤ m ∧ m < 208) ∨ (208 ≤ m ∧ m < 224) ∨ (224 ≤ m ∧ m < 229)) with h | h | h | h | h | h | h | h | h | h | h | h | h | h | h
  · exact mFa_c0 h.1 h.2
  · exact mFa_c16 h.1 h.2
  · exact mFa_c32 h.1 h.2
  · exact mFa_c48 h.1 h.2
  · exact mFa_c64 h.1 h.2
  · exact mFa_c80 h.1 h.2
  · exact mFa_c96 h.1 h.2
  · exact mFa_c112 h.1 h.2
  · exact mFa_c128 h.1 h.2
  · exact mFa_c144 h.1 h.2
  · exact mFa_c160 h.1 h.2
  · exact mFa_c176 h.1 h.2
  · exact mFa_c192 h.1 h.2
  · exact mFa_c208 h.1 h.2
  · exact mFa_c224 h.1 h.2
end
section
/-! SOUNDNESS 3: instructions of the locals and the stack -/
def mInsA (op n : Nat) (v : Int) (ps : List Nat) : Instr × Nat :=
  bif Nat.beq op 0 then (.iconst v, 1) else bif Nat.beq op 1 then (.bipush v, 2) else bif Nat.beq op 2 then (.sipush v, 3)
  else bif Nat.beq op 3 then (bif Nat.beq n 2 then (.ldc (mp ps 0), 2) else (.ldc_w (mp ps 0), 3))
  else bif Nat.beq op 4 then (.lconst ⟨v.toNat % 2, Nat.mod_lt _ (Nat.succ_pos 1)⟩, 1) else bif Nat.beq op 5 then (.ldc2_w (mp ps 0), 3)
  else bif Nat.beq op 6 then (.iload_n ⟨mp ps 0 % 4, Nat.mod_lt _ (Nat.succ_pos 3)⟩, 1) else bif Nat.beq op 7 then (.iload (mp ps 0), 2)
  else bif Nat.beq op 8 then (.aload_n ⟨mp ps 0 % 4, Nat.mod_lt _ (Nat.succ_pos 3)⟩, 1) else bif Nat.beq op 9 then (.aload (mp ps 0), 2)
  else bif Nat.beq op 10 then (.lload_n ⟨mp ps 0 % 4, Nat.mod_lt _ (Nat.succ_pos 3)⟩, 1) else bif Nat.beq op 11 then (.lload (mp ps 0), 2)
  else bif Nat.beq op 12 then (.istore_n ⟨mp ps 0 % 4, Nat.mod_lt _ (Nat.succ_pos 3)⟩, 1) else bif Nat.beq op 13 then (.istore (mp ps 0), 2)
  else bif Nat.beq op 14 then (.astore_n ⟨mp ps 0 % 4, Nat.mod_lt _ (Nat.succ_pos 3)⟩, 1) else bif Nat.beq op 15 then (.astore (mp ps 0), 2)
  else bif Nat.beq op 16 then (.lstore (mp ps 0), 2) else (.iinc (mp ps 0) v, 3)
def mLkA (own : String) (op : Nat) (v : Int) (ps : List Nat) : Bool :=
  bif Nat.beq op 0 then decide (-1 ≤ v ∧ v ≤ 5) else bif Nat.beq op 1 then decide (-128 ≤ v ∧ v < 128) else bif Nat.beq op 2 then decide (-32768 ≤ v ∧ v < 32768)
  else bif Nat.beq op 3 then decide (mWd1 (mp ps 1) = some (.constant own (mp ps 0) (Int32.ofInt v))) && decide (-2147483648 ≤ v ∧ v < 2147483648)
  else bif Nat.beq op 4 then decide (0 ≤ v ∧ v < 2) else bif Nat.beq op 5 then decide (mWd1 (mp ps 1) = some (.constantLong own (mp ps 0) (Int64.ofInt v))) && decide (-9223372036854775808 ≤ v ∧ v < 9223372036854775808)
  else bif Nat.beq op 7 || Nat.beq op 9 || Nat.beq op 11 || Nat.beq op 13 || Nat.beq op 15 || Nat.beq op 16 || Nat.beq op 17 then true else Nat.blt (mp ps 0) 4
def mInsB (op : Nat) : Instr × Nat :=
  bif Nat.beq op 20 then (.iadd, 1) else bif Nat.beq op 21 then (.isub, 1) else bif Nat.beq op 22 then (.imul, 1) else bif Nat.beq op 23 then (.idiv, 1) else bif Nat.beq op 24 then (.irem, 1) else bif Nat.beq op 25 then (.ineg, 1) else bif Nat.beq op 26 then (.iand, 1) else bif Nat.beq op 27 then (.ior, 1) else bif Nat.beq op 28 then (.ixor, 1) else bif Nat.beq op 29 then (.ishl, 1) else bif Nat.beq op 30 then (.ishr, 1) else bif Nat.beq op 31 then (.iushr, 1) else bif Nat.beq op 32 then (.ladd, 1) else bif Nat.beq op 33 then (.lmul, 1) else bif Nat.beq op 34 then (.lshl, 1) else bif Nat.beq op 35 then (.land, 1) else bif Nat.beq op 36 then (.lor, 1) else bif Nat.beq op 37 then (.lcmp, 1) else bif Nat.beq op 38 then (.i2l, 1) else bif Nat.beq op 39 then (.l2i, 1) else bif Nat.beq op 40 then (.i2b, 1) else bif Nat.beq op 41 then (.i2s, 1) else (.nop, 1)
def mpairs (pc : Nat) : List Nat → List (Int × Int)
  | a :: t :: r => ((a : Int), (t : Int) - (pc : Int)) :: mpairs pc r
  | _ => []
def moffs (pc : Nat) : List Nat → List Int
  | _ :: t :: r => ((t : Int) - (pc : Int)) :: moffs pc r
  | _ => []
def mInsC (op n : Nat) (ps : List Nat) (pc : Nat) : Instr × Nat :=
  bif Nat.beq op 42 then (.dup, 1) else bif Nat.beq op 43 then (.dup2, 1) else bif Nat.beq op 44 then (.dup_x1, 1) else bif Nat.beq op 45 then (.pop, 1)
  else bif Nat.beq op 48 then (.goto ((mp ps 0 : Int) - (pc : Int)), 3)
  else bif Nat.beq op 49 then (.tableswitch ((mp ps 0 : Int) - (pc : Int)) (mp ps 1 : Int) ((mp ps 1 : Int) + ((moffs pc (ps.drop 1)).length : Int) - 1) (moffs pc (ps.drop 1)).toArray, n)
  else bif Nat.beq op 50 then (.lookupswitch ((mp ps 0 : Int) - (pc : Int)) (mpairs pc (ps.drop 1)).toArray, n)
  else bif Nat.beq op 100 then (.ifCond .eq ((mp ps 0 : Int) - (pc : Int)), 3)
  else bif Nat.beq op 101 then (.ifCond .ne ((mp ps 0 : Int) - (pc : Int)), 3)
  else bif Nat.beq op 102 then (.ifCond .lt ((mp ps 0 : Int) - (pc : Int)), 3)
  else bif Nat.beq op 103 then (.ifCond .ge ((mp ps 0 : Int) - (pc : Int)), 3)
  else bif Nat.beq op 104 then (.ifCond .gt ((mp ps 0 : Int) - (pc : Int)), 3)
  else bif Nat.beq op 105 then (.ifCond .le ((mp ps 0 : Int) - (pc : Int)), 3)
  else bif Nat.beq op 110 then (.if_icmp .eq ((mp ps 0 : Int) - (pc : Int)), 3)
  else bif Nat.beq op 111 then (.if_icmp .ne ((mp ps 0 : Int) - (pc : Int)), 3)
  else bif Nat.beq op 112 then (.if_icmp .lt ((mp ps 0 : Int) - (pc : Int)), 3)
  else bif Nat.beq op 113 then (.if_icmp .ge ((mp ps 0 : Int) - (pc : Int)), 3)
  else bif Nat.beq op 114 then (.if_icmp .gt ((mp ps 0 : Int) - (pc : Int)), 3)
  else bif Nat.beq op 115 then (.if_icmp .le ((mp ps 0 : Int) - (pc : Int)), 3)
  else (.nop, 1)
/-- the keys of a table: one behind the other from the first on, each with a place -/
def mkeys (k : Nat) : List Nat → Bool
  | a :: _ :: r => Nat.beq a k && mkeys (k + 1) r
  | [] => true
  | _ => false
def mev : List Nat → Bool
  | _ :: _ :: r => mev r
  | [] => true
  | _ => false
def mLkC (op : Nat) (ps : List Nat) : Bool :=
  bif Nat.beq op 49 then mkeys (mp ps 1) (ps.drop 1) && Nat.blt (mp ps 1) 1000 && Nat.blt ps.length 1000
  else bif Nat.beq op 50 then mev (ps.drop 1) && ((mpairs 0 (ps.drop 1)).zip ((mpairs 0 (ps.drop 1)).drop 1)).all (fun (a, next) => a.1 < next.1) && (ps.drop 1).all (fun k => Nat.blt k 2147483648)
  else true
section
variable {p : Program} {l : Launch} {e : Env} {R : Room} {s : State} {m : MethodId} {args : Array Value} {below : List Frame} {meth : Method} {c : Code} {Q : State → Prop} {w : mW} {ct : Bool} {nL : Nat} {n0 s0 : Int} {own : String} {cc : ByteArray} {pc : Nat} {L S : List mV} {σ : mM} {a0 : Int × mM} {g : mG}
theorem so_load {i n : Nat} {u : mV} (hi : L[i]? = some u) (h2 : u.1 ≠ 2) (hrow : ∀ (H : Heap) (locs : List Loc) (cells slots : Nat) (ls : Array Slot) (rest : List Value), ls[i]? = some (.val (mrep w u)) → W p l e R s m args below meth c H locs cells slots Q (F0 m (pc + n) ls (mrep w u :: rest)) → W p l e R s m args below meth c H locs cells slots Q (F0 m pc ls rest))
    (k : mGoal p l e R s m args below meth c Q w ct nL n0 s0 (pc + n) L (u :: S) σ) : mGoal p l e R s m args below meth c Q w ct nL n0 s0 pc L S σ :=
  so_st (S2 := u :: S) (fun H locs cells slots ls hL _ _ h => hrow H locs cells slots ls _ (mLr_get hL hi h2) h) (fun okS okL => List.forall_mem_cons.mpr ⟨okL u (List.mem_of_getElem? hi), okS⟩) k
theorem so_store {i n : Nat} {u : mV} (hi : i < L.length) (hp : i = 0 ∨ (L.getD (i - 1) (2, 0)).1 ≠ 1) (hrow : ∀ (H : Heap) (locs : List Loc) (cells slots : Nat) (ls : Array Slot) (rest : List Value), lv_has ls nL (mlv w 0 L) → i < nL → (∀ ls' : Array Slot, lv_has ls' nL ((i, mrep w u) :: (mlv w 0 L).filter (fun q => !(q.1 == i) && !(q.1 + 1 == i && q.2.category == 2))) → W p l e R s m args below meth c H locs cells slots Q (F0 m (pc + n) ls' rest)) → W p l e R s m args below meth c H locs cells slots Q (F0 m pc ls (mrep w u :: rest)))
    (k : mGoal p l e R s m args below meth c Q w ct nL n0 s0 (pc + n) (L.set i u) S σ) : mGoal p l e R s m args below meth c Q w ct nL n0 s0 pc L (u :: S) σ := by
  intro H locs cells slots ls hL okL okS hW hS hA
  refine hrow H locs cells slots ls (S.map (mrep w)) hL.2 (by rw [← hL.1]; exact hi) fun ls' h' => ?_
  refine k H locs cells slots ls' (mLr_set hL.1 (by rw [← hL.1]; exact hi) hp h') (fun v hv => ?_) (ok_t okS) hW hS hA
  rcases List.mem_or_eq_of_mem_set hv with h | h
  · exact okL v h
  · rw [h]; exact okS u List.mem_cons_self
theorem so_storeJ {i n : Nat} {x : Int} (hi : i + 1 < L.length) (hp : i = 0 ∨ (L.getD (i - 1) (2, 0)).1 ≠ 1) (hrow : ∀ (H : Heap) (locs : List Loc) (cells slots : Nat) (ls : Array Slot) (rest : List Value), lv_has ls nL (mlv w 0 L) → i + 1 < nL → (∀ ls' : Array Slot, lv_has ls' nL ((i, mrep w (1, x)) :: (mlv w 0 L).filter (fun q => !(q.1 == i) && (!(q.1 == i + 1) && !(q.1 + 1 == i && q.2.category == 2)))) → W p l e R s m args below meth c H locs cells slots Q (F0 m (pc + n) ls' rest)) → W p l e R s m args below meth c H locs cells slots Q (F0 m pc ls (mrep w (1, x) :: rest)))
    (k : mGoal p l e R s m args below meth c Q w ct nL n0 s0 (pc + n) ((L.set i (1, x)).set (i + 1) (2, 0)) S σ) : mGoal p l e R s m args below meth c Q w ct nL n0 s0 pc L ((1, x) :: S) σ := by
  intro H locs cells slots ls hL okL okS hW hS hA
  refine hrow H locs cells slots ls (S.map (mrep w)) hL.2 (by rw [← hL.1]; exact hi) fun ls' h' => ?_
  refine k H locs cells slots ls' (mLr_setJ hL.1 (by rw [← hL.1]; exact hi) hp h') (fun v hv => ?_) (ok_t okS) hW hS hA
  rcases List.mem_or_eq_of_mem_set hv with h | h
  · rcases List.mem_or_eq_of_mem_set h with h | h
    · exact okL v h
    · rw [h]; exact okS _ List.mem_cons_self
  · rw [h]; exact ⟨fun (q : 2 = 0) => by omega, fun (q : 2 = 1) => by omega, fun (q : 3 < 2) => by omega⟩
theorem so_iinc {i : Nat} {x v : Int} (hx : L[i]? = some (0, x)) (hi : i < L.length) (hp : i = 0 ∨ (L.getD (i - 1) (2, 0)).1 ≠ 1) (F : mF p R s args m c w own cc nL) (hd : decode cc pc = .ok (.iinc i v, 3))
    (k : mGoal p l e R s m args below meth c Q w ct nL n0 s0 (pc + 3) (L.set i (0, w32 (x + v))) S σ) : mGoal p l e R s m args below meth c Q w ct nL n0 s0 pc L S σ := by
  intro H locs cells slots ls hL okL okS hW hS hA
  have hin : (i, mrep w (0, x)) ∈ mlv w 0 L := mlv_mem.mpr ⟨i, (0, x), hx, (by decide : (0 : Nat) ≠ 2), by rw [Nat.zero_add]⟩
  obtain ⟨j, hj⟩ := List.getElem?_of_mem hin
  refine lv_iinc (v := Int32.ofInt (w32 (x + v))) F.1 F.2.1 hd hL.2 (k := j) hj (by rw [w32_of, Int32.ofInt_add]) (by rw [← hL.1]; exact hi) rfl fun ls' h' => ?_
  refine k H locs cells slots ls' (mLr_set hL.1 (by rw [← hL.1]; exact hi) hp h') (fun u hu => ?_) okS hW hS hA
  rcases List.mem_or_eq_of_mem_set hu with h | h
  · exact okL u h
  · rw [h]; exact okV_i (w32_in _)
theorem mWS_in {own : String} (F : mF p R s args m c w own cc nL) {k : Nat} {x : Cond} (h : mWd1 k = some x) (hg : goodWord x = true) : x.before args s = true := F.2.2.2.2.1 x (mWd1_ws h hg)
theorem match_some {x : Option mV} {b : Nat → Int → Bool} {k : Nat → Int → mA} {a : Int × mM} (h : (match x with | some (t, x) => bif b t x then k t x else none | none => none) = some a) : ∃ t v, x = some (t, v) ∧ b t v = true ∧ k t v = some a := by
  match x, h with
  | some (t, v), h =>
    obtain ⟨h1, h2⟩ := cond_some h
    exact ⟨t, v, rfl, h1, h2⟩
theorem snd_A {op n : Nat} {v : Int} {ps : List Nat} (hop : op < 20) (F : mF p R s args m c w own cc nL) (hd : decode cc pc = .ok (mInsA op n v ps)) (hn : n = (mInsA op n v ps).2) (hl : mLkA own op v ps = true)
    (hg : ∀ pc L S σ, g pc L S σ = some a0 → mGoal p l e R s m args below meth c Q w ct nL n0 s0 pc L S σ) (h : mstepA g op n v ps pc L S σ = some a0) : mGoal p l e R s m args below meth c Q w ct nL n0 s0 pc L S σ := by
  have hx := F.1
  have hb := F.2.1
  have hown := F.2.2.2.1
  have fm : ∀ {k : Nat}, Nat.blt k 4 = true → k % 4 = k := fun h => Nat.mod_eq_of_lt (Nat.blt_eq.mp h)
  rcases (by omega : op = 0 ∨ op = 1 ∨ op = 2 ∨ op = 3 ∨ op = 4 ∨ op = 5 ∨ op = 6 ∨ op = 7 ∨ op = 8 ∨ op = 9 ∨ op = 10 ∨ op = 11 ∨ op = 12 ∨ op = 13 ∨ op = 14 ∨ op = 15 ∨ op = 16 ∨ op = 17 ∨ op = 18 ∨ op = 19) with rfl | rfl | rfl | rfl | rfl | rfl | rfl | rfl | rfl | rfl | rfl | rfl | rfl | rfl | rfl | rfl | rfl | rfl | rfl | rfl
  · have hn : n = 1 := hn
    subst hn
    have hv := of_decide_eq_true (p := (-1 ≤ v ∧ v ≤ 5)) hl
    exact so_pi (by unfold in32; omega) (fun H locs cells slots ls rest k => lv_iconst hx hb hd rfl k) (hg _ _ _ _ h)
  · have hn : n = 2 := hn
    subst hn
    have hv := of_decide_eq_true (p := (-128 ≤ v ∧ v < 128)) hl
    exact so_pi (by unfold in32; omega) (fun H locs cells slots ls rest k => lv_bipush hx hb hd (bi_of hv) k) (hg _ _ _ _ h)
  · have hn : n = 3 := hn
    subst hn
    have hv := of_decide_eq_true (p := (-32768 ≤ v ∧ v < 32768)) hl
    exact so_pi (by unfold in32; omega) (fun H locs cells slots ls rest k => lv_sipush hx hb hd (si_of hv) k) (hg _ _ _ _ h)
  · have hl : (decide (mWd1 (mp ps 1) = some (.constant own (mp ps 0) (Int32.ofInt v))) && decide (-2147483648 ≤ v ∧ v < 2147483648)) = true := hl
    rw [Bool.and_eq_true, decide_eq_true_eq, decide_eq_true_eq] at hl
    have hw := mWS_in F hl.1 rfl
    have hn : n = (bif Nat.beq n 2 then (Instr.ldc (mp ps 0), 2) else (Instr.ldc_w (mp ps 0), 3) : Instr × Nat).2 := hn
    have hd : decode cc pc = .ok (bif Nat.beq n 2 then (Instr.ldc (mp ps 0), 2) else (Instr.ldc_w (mp ps 0), 3)) := hd
    cases hb2 : Nat.beq n 2
    · rw [hb2] at hn hd
      have hn : n = 3 := hn
      subst hn
      exact so_pi hl.2 (fun H locs cells slots ls rest k => lv_ldcw hx hb hown hw hd k) (hg _ _ _ _ h)
    · have hn := Nat.eq_of_beq_eq_true hb2
      subst hn
      exact so_pi hl.2 (fun H locs cells slots ls rest k => lv_ldc hx hb hown hw hd k) (hg _ _ _ _ h)
  · have hn : n = 1 := hn
    subst hn
    have hv := of_decide_eq_true (p := (0 ≤ v ∧ v < 2)) hl
    refine so_pj (by unfold in64; omega) (fun H locs cells slots ls rest k => lv_lconst hx hb hd ?_ k) (hg _ _ _ _ h)
    rcases (by omega : v = 0 ∨ v = 1) with rfl | rfl <;> rfl
  · have hn : n = 3 := hn
    subst hn
    have hl : (decide (mWd1 (mp ps 1) = some (.constantLong own (mp ps 0) (Int64.ofInt v))) && decide (-9223372036854775808 ≤ v ∧ v < 9223372036854775808)) = true := hl
    rw [Bool.and_eq_true, decide_eq_true_eq, decide_eq_true_eq] at hl
    exact so_pj hl.2 (fun H locs cells slots ls rest k => lv_ldc2 hx hb hown (mWS_in F hl.1 rfl) hd k) (hg _ _ _ _ h)
  · have hn : n = 1 := hn
    subst hn
    obtain ⟨t, x, hi, hb1, h⟩ := match_some (b := fun t _ => bif Nat.blt 6 8 then Nat.beq t 0 else bif Nat.blt 6 10 then Nat.blt 3 t else Nat.beq t 1) (k := fun t x => g (pc + 1) L ((t, x) :: S) σ) h
    have ht : t = 0 := Nat.eq_of_beq_eq_true hb1
    subst ht
    refine so_load hi (by decide : (0 : Nat) ≠ 2) (fun H locs cells slots ls rest hls k => ?_) (hg _ _ _ _ h)
    exact lv_iload_n (i := mp ps 0) hx hb hd (fm hl) hls k
  · have hn : n = 2 := hn
    subst hn
    obtain ⟨t, x, hi, hb1, h⟩ := match_some (b := fun t _ => bif Nat.blt 7 8 then Nat.beq t 0 else bif Nat.blt 7 10 then Nat.blt 3 t else Nat.beq t 1) (k := fun t x => g (pc + 2) L ((t, x) :: S) σ) h
    have ht : t = 0 := Nat.eq_of_beq_eq_true hb1
    subst ht
    refine so_load hi (by decide : (0 : Nat) ≠ 2) (fun H locs cells slots ls rest hls k => ?_) (hg _ _ _ _ h)
    exact lv_iload hx hb hd hls k
  · have hn : n = 1 := hn
    subst hn
    obtain ⟨t, x, hi, hb1, h⟩ := match_some (b := fun t _ => bif Nat.blt 8 8 then Nat.beq t 0 else bif Nat.blt 8 10 then Nat.blt 3 t else Nat.beq t 1) (k := fun t x => g (pc + 1) L ((t, x) :: S) σ) h
    have ht : 3 < t := Nat.blt_eq.mp hb1
    refine so_load hi (show t ≠ 2 by omega) (fun H locs cells slots ls rest hls k => ?_) (hg _ _ _ _ h)
    rw [mrep_r w ht] at hls k
    exact lv_aload_n (i := mp ps 0) hx hb hd (fm hl) hls k
  · have hn : n = 2 := hn
    subst hn
    obtain ⟨t, x, hi, hb1, h⟩ := match_some (b := fun t _ => bif Nat.blt 9 8 then Nat.beq t 0 else bif Nat.blt 9 10 then Nat.blt 3 t else Nat.beq t 1) (k := fun t x => g (pc + 2) L ((t, x) :: S) σ) h
    have ht : 3 < t := Nat.blt_eq.mp hb1
    refine so_load hi (show t ≠ 2 by omega) (fun H locs cells slots ls rest hls k => ?_) (hg _ _ _ _ h)
    rw [mrep_r w ht] at hls k
    exact lv_aload hx hb hd hls k
  · have hn : n = 1 := hn
    subst hn
    obtain ⟨t, x, hi, hb1, h⟩ := match_some (b := fun t _ => bif Nat.blt 10 8 then Nat.beq t 0 else bif Nat.blt 10 10 then Nat.blt 3 t else Nat.beq t 1) (k := fun t x => g (pc + 1) L ((t, x) :: S) σ) h
    have ht : t = 1 := Nat.eq_of_beq_eq_true hb1
    subst ht
    refine so_load hi (by decide : (1 : Nat) ≠ 2) (fun H locs cells slots ls rest hls k => ?_) (hg _ _ _ _ h)
    exact lv_lload_n (i := mp ps 0) hx hb hd (fm hl) hls k
  · have hn : n = 2 := hn
    subst hn
    obtain ⟨t, x, hi, hb1, h⟩ := match_some (b := fun t _ => bif Nat.blt 11 8 then Nat.beq t 0 else bif Nat.blt 11 10 then Nat.blt 3 t else Nat.beq t 1) (k := fun t x => g (pc + 2) L ((t, x) :: S) σ) h
    have ht : t = 1 := Nat.eq_of_beq_eq_true hb1
    subst ht
    refine so_load hi (by decide : (1 : Nat) ≠ 2) (fun H locs cells slots ls rest hls k => ?_) (hg _ _ _ _ h)
    exact lv_lload hx hb hd hls k
  · have hn : n = 1 := hn
    subst hn
    obtain ⟨x, S, rfl, h0⟩ := mpop1_some h
    obtain ⟨h1, h2, h3⟩ := mput_some h0
    refine so_store h1 h2 (fun H locs cells slots ls rest q1 q2 k => ?_) (hg _ _ _ _ h3)
    exact lv_istore_n (i := mp ps 0) hx hb hd (fm hl) q1 q2 rfl k
  · have hn : n = 2 := hn
    subst hn
    obtain ⟨x, S, rfl, h0⟩ := mpop1_some h
    obtain ⟨h1, h2, h3⟩ := mput_some h0
    refine so_store h1 h2 (fun H locs cells slots ls rest q1 q2 k => ?_) (hg _ _ _ _ h3)
    exact lv_istore hx hb hd q1 q2 rfl k
  · have hn : n = 1 := hn
    subst hn
    obtain ⟨t, x, S, rfl, ht, h0⟩ := mpopR_some h
    obtain ⟨h1, h2, h3⟩ := mput_some h0
    refine so_store h1 h2 (fun H locs cells slots ls rest q1 q2 k => ?_) (hg _ _ _ _ h3)
    rw [mrep_r w ht] at k ⊢
    exact lv_astore_n (i := mp ps 0) hx hb hd (fm hl) q1 q2 rfl k
  · have hn : n = 2 := hn
    subst hn
    obtain ⟨t, x, S, rfl, ht, h0⟩ := mpopR_some h
    obtain ⟨h1, h2, h3⟩ := mput_some h0
    refine so_store h1 h2 (fun H locs cells slots ls rest q1 q2 k => ?_) (hg _ _ _ _ h3)
    rw [mrep_r w ht] at k ⊢
    exact lv_astore hx hb hd q1 q2 rfl k
  · have hn : n = 2 := hn
    subst hn
    obtain ⟨x, S, rfl, h0⟩ := mpopJ_some h
    obtain ⟨h1, h2, h3⟩ := mputJ_some h0
    exact so_storeJ h1 h2 (fun H locs cells slots ls rest q1 q2 k => lv_lstore hx hb hd q1 q2 rfl k) (hg _ _ _ _ h3)
  · have hn : n = 3 := hn
    subst hn
    obtain ⟨t, x, hi, hb1, h⟩ := match_some (b := fun t _ => Nat.beq t 0) (k := fun _ x => mput L (mp ps 0) (0, w32 (x + v)) fun L' => g (pc + 3) L' S σ) h
    have ht : t = 0 := Nat.eq_of_beq_eq_true hb1
    subst ht
    obtain ⟨h1, h2, h3⟩ := mput_some h
    exact so_iinc hi h1 h2 F hd (hg _ _ _ _ h3)
  · cases h
  · cases h
theorem snd_B {op n : Nat} (hop : op < 42) (hop2 : 20 ≤ op) (F : mF p R s args m c w own cc nL) (hd : decode cc pc = .ok (mInsB op)) (hn : n = (mInsB op).2)
    (hg : ∀ pc L S σ, g pc L S σ = some a0 → mGoal p l e R s m args below meth c Q w ct nL n0 s0 pc L S σ) (h : mstepB g op n pc L S σ = some a0) : mGoal p l e R s m args below meth c Q w ct nL n0 s0 pc L S σ := by
  have hx := F.1
  have hb := F.2.1
  rcases (by omega : op = 20 ∨ op = 21 ∨ op = 22 ∨ op = 23 ∨ op = 24 ∨ op = 25 ∨ op = 26 ∨ op = 27 ∨ op = 28 ∨ op = 29 ∨ op = 30 ∨ op = 31 ∨ op = 32 ∨ op = 33 ∨ op = 34 ∨ op = 35 ∨ op = 36 ∨ op = 37 ∨ op = 38 ∨ op = 39 ∨ op = 40 ∨ op = 41) with rfl | rfl | rfl | rfl | rfl | rfl | rfl | rfl | rfl | rfl | rfl | rfl | rfl | rfl | rfl | rfl | rfl | rfl | rfl | rfl | rfl | rfl
  · have hn : n = 1 := hn
    subst hn
    obtain ⟨x, y, S, rfl, h⟩ := mpop2_some h
    exact so_ii (fun H locs cells slots ls rest a b k => lv_iadd hx hb hd k) (fun hx hy => ⟨by rw [w32_of, Int32.ofInt_add], w32_in _⟩) (hg _ _ _ _ h)
  · have hn : n = 1 := hn
    subst hn
    obtain ⟨x, y, S, rfl, h⟩ := mpop2_some h
    exact so_ii (fun H locs cells slots ls rest a b k => lv_isub hx hb hd k) (fun hx hy => ⟨by rw [w32_of, Int32.ofInt_sub], w32_in _⟩) (hg _ _ _ _ h)
  · have hn : n = 1 := hn
    subst hn
    obtain ⟨x, y, S, rfl, h⟩ := mpop2_some h
    exact so_ii (fun H locs cells slots ls rest a b k => lv_imul hx hb hd k) (fun hx hy => ⟨by rw [w32_of, Int32.ofInt_mul], w32_in _⟩) (hg _ _ _ _ h)
  · have hn : n = 1 := hn
    subst hn
    obtain ⟨x, y, S, rfl, h⟩ := mpop2_some h
    by_cases hy0 : y = 0
    · have := (bEq_some h).1 hy0
      cases this
    have h := (bEq_some h).2 hy0
    refine so_st (S2 := (0, w32 (x.tdiv y)) :: S) (fun H locs cells slots ls _ okS _ k => ?_) (fun okS _ => List.forall_mem_cons.mpr ⟨okV_i (w32_in _), ok_t (ok_t okS)⟩) (hg _ _ _ _ h)
    have h1 : in32 x := ok_i (ok_t okS)
    have h2 : in32 y := ok_i okS
    refine lv_idiv (x := Int32.ofInt x) (y := Int32.ofInt y) hx hb hd (fun q => hy0 ((i32_eq h2 in32_0).mp q)) ?_
    rw [(i32_div h1 h2).symm]
    exact k
  · have hn : n = 1 := hn
    subst hn
    obtain ⟨x, y, S, rfl, h⟩ := mpop2_some h
    by_cases hy0 : y = 0
    · have := (bEq_some h).1 hy0
      cases this
    have h := (bEq_some h).2 hy0
    refine so_st (S2 := (0, x.tmod y) :: S) (fun H locs cells slots ls _ okS _ k => ?_) (fun okS _ => List.forall_mem_cons.mpr ⟨okV_i (tmod_in (ok_i (ok_t okS))), ok_t (ok_t okS)⟩) (hg _ _ _ _ h)
    have h1 : in32 x := ok_i (ok_t okS)
    have h2 : in32 y := ok_i okS
    refine lv_irem (x := Int32.ofInt x) (y := Int32.ofInt y) hx hb hd (fun q => hy0 ((i32_eq h2 in32_0).mp q)) ?_
    rw [(i32_rem h1 h2).symm]
    exact k
  · have hn : n = 1 := hn
    subst hn
    obtain ⟨x, S, rfl, h⟩ := mpop1_some h
    refine so_st (S2 := (0, w32 (-x)) :: S) (fun H locs cells slots ls _ okS _ k => ?_) (fun okS _ => List.forall_mem_cons.mpr ⟨okV_i (w32_in _), ok_t okS⟩) (hg _ _ _ _ h)
    refine lv_ineg (x := Int32.ofInt x) hx hb hd ?_
    rw [show -Int32.ofInt x = Int32.ofInt (w32 (-x)) by rw [w32_of, Int32.ofInt_neg]]
    exact k
  · have hn : n = 1 := hn
    subst hn
    obtain ⟨x, y, S, rfl, h⟩ := mpop2_some h
    exact so_ii (fun H locs cells slots ls rest a b k => lv_iand hx hb hd k) (fun hx hy => ⟨Int32.ofInt_toInt _, i32_in _⟩) (hg _ _ _ _ h)
  · have hn : n = 1 := hn
    subst hn
    obtain ⟨x, y, S, rfl, h⟩ := mpop2_some h
    exact so_ii (fun H locs cells slots ls rest a b k => lv_ior hx hb hd k) (fun hx hy => ⟨Int32.ofInt_toInt _, i32_in _⟩) (hg _ _ _ _ h)
  · have hn : n = 1 := hn
    subst hn
    obtain ⟨x, y, S, rfl, h⟩ := mpop2_some h
    exact so_ii (fun H locs cells slots ls rest a b k => lv_ixor hx hb hd k) (fun hx hy => ⟨Int32.ofInt_toInt _, i32_in _⟩) (hg _ _ _ _ h)
  · have hn : n = 1 := hn
    subst hn
    obtain ⟨x, y, S, rfl, h⟩ := mpop2_some h
    exact so_ii (fun H locs cells slots ls rest a b k => lv_ishl hx hb hd k) (fun hx hy => ⟨Int32.ofInt_toInt _, i32_in _⟩) (hg _ _ _ _ h)
  · have hn : n = 1 := hn
    subst hn
    obtain ⟨x, y, S, rfl, h⟩ := mpop2_some h
    exact so_ii (fun H locs cells slots ls rest a b k => lv_ishr hx hb hd k) (fun hx hy => ⟨Int32.ofInt_toInt _, i32_in _⟩) (hg _ _ _ _ h)
  · have hn : n = 1 := hn
    subst hn
    obtain ⟨x, y, S, rfl, h⟩ := mpop2_some h
    exact so_ii (fun H locs cells slots ls rest a b k => lv_iushr hx hb hd rfl k) (fun hx hy => ⟨Int32.ofInt_toInt _, i32_in _⟩) (hg _ _ _ _ h)
  · have hn : n = 1 := hn
    subst hn
    obtain ⟨x, y, S, rfl, h⟩ := mpopJ2_some h
    exact so_jj (fun H locs cells slots ls rest a b k => lv_ladd hx hb hd k) (fun hx hy => ⟨by rw [w64_of, Int64.ofInt_add], w64_in _⟩) (hg _ _ _ _ h)
  · have hn : n = 1 := hn
    subst hn
    obtain ⟨x, y, S, rfl, h⟩ := mpopJ2_some h
    exact so_jj (fun H locs cells slots ls rest a b k => lv_lmul hx hb hd k) (fun hx hy => ⟨by rw [w64_of, Int64.ofInt_mul], w64_in _⟩) (hg _ _ _ _ h)
  · have hn : n = 1 := hn
    subst hn
    obtain ⟨y, S1, rfl, h⟩ := mpop1_some h
    obtain ⟨x, S, rfl, h⟩ := mpopJ_some (show mpopJ S1 (fun x S'' => g (pc + 1) L ((1, (Int64.ofInt x <<< ((Int32.ofInt y).toInt64 &&& 63)).toInt) :: S'') σ) = some a0 from h)
    refine so_st (S2 := (1, (Int64.ofInt x <<< ((Int32.ofInt y).toInt64 &&& 63)).toInt) :: S) (fun H locs cells slots ls _ okS _ k => ?_) (fun okS _ => List.forall_mem_cons.mpr ⟨okV_l (i64_in _), ok_t (ok_t okS)⟩) (hg _ _ _ _ h)
    refine lv_lshl (x := Int64.ofInt x) (y := Int32.ofInt y) hx hb hd (Int64.ofInt_toInt _).symm ?_
    exact k
  · have hn : n = 1 := hn
    subst hn
    obtain ⟨x, y, S, rfl, h⟩ := mpopJ2_some h
    exact so_jj (fun H locs cells slots ls rest a b k => lv_land hx hb hd k) (fun hx hy => ⟨Int64.ofInt_toInt _, i64_in _⟩) (hg _ _ _ _ h)
  · have hn : n = 1 := hn
    subst hn
    obtain ⟨x, y, S, rfl, h⟩ := mpopJ2_some h
    exact so_jj (fun H locs cells slots ls rest a b k => lv_lor hx hb hd k) (fun hx hy => ⟨Int64.ofInt_toInt _, i64_in _⟩) (hg _ _ _ _ h)
  · have hn : n = 1 := hn
    subst hn
    obtain ⟨x, y, S, rfl, h⟩ := mpopJ2_some h
    refine so_st (S2 := (0, if x < y then -1 else if x = y then 0 else 1) :: S) (fun H locs cells slots ls _ okS _ k => ?_) (fun okS _ => List.forall_mem_cons.mpr ⟨okV_i (by unfold in32; split <;> (try split) <;> omega), ok_t (ok_t okS)⟩) (hg _ _ _ _ h)
    refine W.lcmp (x := Int64.ofInt x) (y := Int64.ofInt y) hx hb hd ?_
    have h1 : in64 x := ok_l (ok_t okS)
    have h2 : in64 y := ok_l okS
    have e : lg_cmp (Int64.ofInt x) (Int64.ofInt y) = Int32.ofInt (if x < y then -1 else if x = y then 0 else 1) := by
      unfold lg_cmp
      simp only [i64_lt h1 h2, i64_lt h2 h1, i64_eq h1 h2, i64_eq h2 h1]
      by_cases q1 : x < y
      · simp [q1, show ¬ y < x by omega, show ¬ x = y by omega]
        try rfl
      · by_cases q2 : x = y
        · simp [q2]
          try rfl
        · simp [q1, q2, show y < x by omega]
          try rfl
    rw [e]
    exact k
  · have hn : n = 1 := hn
    subst hn
    obtain ⟨x, S, rfl, h⟩ := mpop1_some h
    refine so_st (S2 := (1, x) :: S) (fun H locs cells slots ls _ okS _ k => lv_i2l (x := Int32.ofInt x) hx hb hd (i2l_of (ok_i okS)) k) (fun okS _ => List.forall_mem_cons.mpr ⟨okV_l ?_, ok_t okS⟩) (hg _ _ _ _ h)
    have := ok_i okS
    unfold in32 at this
    unfold in64
    omega
  · have hn : n = 1 := hn
    subst hn
    obtain ⟨x, S, rfl, h⟩ := mpopJ_some h
    exact so_st (S2 := (0, w32 x) :: S) (fun H locs cells slots ls _ okS _ k => lv_l2i (x := Int64.ofInt x) hx hb hd (l2i_of x) k) (fun okS _ => List.forall_mem_cons.mpr ⟨okV_i (w32_in _), ok_t okS⟩) (hg _ _ _ _ h)
  · have hn : n = 1 := hn
    subst hn
    obtain ⟨x, S, rfl, h⟩ := mpop1_some h
    exact so_st (S2 := (0, (x + 128) % 256 - 128) :: S) (fun H locs cells slots ls _ okS _ k => lv_i2b (x := Int32.ofInt x) hx hb hd (w8_of x) k) (fun okS _ => List.forall_mem_cons.mpr ⟨okV_i (by unfold in32; omega), ok_t okS⟩) (hg _ _ _ _ h)
  · have hn : n = 1 := hn
    subst hn
    obtain ⟨x, S, rfl, h⟩ := mpop1_some h
    exact so_st (S2 := (0, (x + 32768) % 65536 - 32768) :: S) (fun H locs cells slots ls _ okS _ k => lv_i2s (x := Int32.ofInt x) hx hb hd (w16_of x) k) (fun okS _ => List.forall_mem_cons.mpr ⟨okV_i (by unfold in32; omega), ok_t okS⟩) (hg _ _ _ _ h)
theorem mcat_1 {t : Nat} {x : Int} (h : Nat.beq t 1 = false) : (mrep w (t, x)).category = 1 := by
  rw [mrep_cat]
  show (bif Nat.beq t 1 then 2 else 1) = 1
  rw [h]
  rfl
theorem cond_none {b : Bool} {f : mA} {a : Int × mM} (h : (bif b then none else f) = some a) : b = false ∧ f = some a := by
  cases b
  · exact ⟨rfl, h⟩
  · cases h
theorem m_off {pc t : Nat} : (pc : Int) + ((t : Int) - (pc : Int)) = (t : Int) := by omega
theorem msw_off {x : Int} (hx : in32 x) {ps : List Nat} {d : Nat} (hS : ∀ v ∈ S, okV (mz σ 0) v) (hlt : ps.all (fun k => Nat.blt k 2147483648) = true) (hev : mev ps = true) (h : msw g L S σ x ps d = some a0) :
    ∃ t : Nat, g t L S σ = some a0 ∧ Op.lookupswitch.offset (mpairs pc ps) ((d : Int) - (pc : Int)) (Int32.ofInt x).toInt = (t : Int) - (pc : Int) := by
  rw [i32_t hx]
  induction ps using mev.induct with
  | case1 a t r ih =>
    have h : bEq x (a : Int) (g t L S σ) (msw g L S σ x r d) = some a0 := h
    unfold mpairs
    rw [Op.lookupswitch.offset_cons]
    by_cases e : x = (a : Int)
    · rw [if_pos e.symm]
      exact ⟨t, (bEq_some h).1 e, rfl⟩
    · rw [if_neg (fun q => e q.symm)]
      have h1 : (Nat.blt a 2147483648 && (Nat.blt t 2147483648 && r.all fun k => Nat.blt k 2147483648)) = true := hlt
      simp only [Bool.and_eq_true] at h1
      exact ih h1.2.2 hev ((bEq_some h).2 e)
  | case2 => exact ⟨d, h, rfl⟩
  | case3 x h1 h2 =>
    unfold mev at hev
    split at hev
    · exact absurd rfl (h1 _ _ _)
    · exact absurd rfl h2
    · cases hev
theorem msw_tab {x : Int} {d : Nat} : ∀ (ps : List Nat) (k : Nat), mkeys k ps = true → msw g L S σ x ps d = some a0 →
    (∃ (j t : Nat), x = ((k + j : Nat) : Int) ∧ j < (moffs pc ps).length ∧ (moffs pc ps)[j]? = some ((t : Int) - (pc : Int)) ∧ g t L S σ = some a0) ∨ ((x < (k : Int) ∨ ((k + (moffs pc ps).length : Nat) : Int) ≤ x) ∧ g d L S σ = some a0) := by
  intro ps k hk h
  induction ps using mev.induct generalizing k with
  | case1 a t r ih =>
    have hk : (Nat.beq a k && mkeys (k + 1) r) = true := hk
    rw [Bool.and_eq_true] at hk
    have ea := Nat.eq_of_beq_eq_true hk.1
    subst ea
    have h : bEq x (a : Int) (g t L S σ) (msw g L S σ x r d) = some a0 := h
    have hlen : (moffs pc (a :: t :: r)).length = (moffs pc r).length + 1 := rfl
    by_cases e : x = (a : Int)
    · left
      exact ⟨0, t, by omega, by omega, rfl, (bEq_some h).1 e⟩
    · rcases ih (a + 1) hk.2 ((bEq_some h).2 e) with ⟨j, t', h1, h2, h3, h4⟩ | ⟨h1, h2⟩
      · left
        exact ⟨j + 1, t', by omega, by omega, h3, h4⟩
      · right
        refine ⟨?_, h2⟩
        omega
  | case2 =>
    right
    refine ⟨?_, h⟩
    have : (moffs pc []).length = 0 := rfl
    omega
  | case3 x' h1 h2 =>
    unfold mkeys at hk
    split at hk
    · exact absurd rfl (h1 _ _ _)
    · exact absurd rfl h2
    · cases hk
theorem snd_C {op n : Nat} {ps : List Nat} (F : mF p R s args m c w own cc nL) (hd : decode cc pc = .ok (mInsC op n ps pc)) (hn : n = (mInsC op n ps pc).2) (hl : mLkC op ps = true)
    (hg : ∀ pc L S σ, g pc L S σ = some a0 → mGoal p l e R s m args below meth c Q w ct nL n0 s0 pc L S σ) (h : mstepC g op n ps pc L S σ = some a0) : mGoal p l e R s m args below meth c Q w ct nL n0 s0 pc L S σ := by
  have hx := F.1
  have hb := F.2.1
  by_cases e : op = 42
  · subst e
    have hn : n = 1 := hn
    subst hn
    match S, h with
    | (t, x) :: S', h =>
      obtain ⟨h1, h⟩ := cond_none (show (bif Nat.beq t 1 then none else g (pc + 1) L ((t, x) :: (t, x) :: S') σ) = some a0 from h)
      exact so_st (S2 := (t, x) :: (t, x) :: S') (fun H locs cells slots ls _ _ _ k => lv_dup hx hb hd (mcat_1 h1) k) (fun okS _ => List.forall_mem_cons.mpr ⟨okS _ List.mem_cons_self, okS⟩) (hg _ _ _ _ h)
  by_cases e : op = 43
  · subst e
    have hn : n = 1 := hn
    subst hn
    match S, h with
    | (t, x) :: (t2, x2) :: S', h =>
      obtain ⟨h1, h⟩ := cond_none (show (bif Nat.beq t 1 || Nat.beq t2 1 then none else g (pc + 1) L ((t, x) :: (t2, x2) :: (t, x) :: (t2, x2) :: S') σ) = some a0 from h)
      rw [Bool.or_eq_false_iff] at h1
      exact so_st (S2 := (t, x) :: (t2, x2) :: (t, x) :: (t2, x2) :: S') (fun H locs cells slots ls _ _ _ k => lv_dup2_11 hx hb hd (mcat_1 h1.1) (mcat_1 h1.2) k) (fun okS _ => List.forall_mem_cons.mpr ⟨okS _ List.mem_cons_self, List.forall_mem_cons.mpr ⟨okS _ (List.mem_cons_of_mem _ List.mem_cons_self), okS⟩⟩) (hg _ _ _ _ h)
    | [_], h => cases h
  by_cases e : op = 44
  · subst e
    have hn : n = 1 := hn
    subst hn
    match S, h with
    | (t, x) :: (t2, x2) :: S', h =>
      obtain ⟨h1, h⟩ := cond_none (show (bif Nat.beq t 1 || Nat.beq t2 1 then none else g (pc + 1) L ((t, x) :: (t2, x2) :: (t, x) :: S') σ) = some a0 from h)
      rw [Bool.or_eq_false_iff] at h1
      exact so_st (S2 := (t, x) :: (t2, x2) :: (t, x) :: S') (fun H locs cells slots ls _ _ _ k => lv_dup_x1 hx hb hd (mcat_1 h1.1) (mcat_1 h1.2) k) (fun okS _ => List.forall_mem_cons.mpr ⟨okS _ List.mem_cons_self, List.forall_mem_cons.mpr ⟨okS _ (List.mem_cons_of_mem _ List.mem_cons_self), List.forall_mem_cons.mpr ⟨okS _ List.mem_cons_self, ok_t (ok_t okS)⟩⟩⟩) (hg _ _ _ _ h)
    | [_], h => cases h
  by_cases e : op = 45
  · subst e
    have hn : n = 1 := hn
    subst hn
    match S, h with
    | (t, x) :: S', h =>
      obtain ⟨h1, h⟩ := cond_none (show (bif Nat.beq t 1 then none else g (pc + 1) L S' σ) = some a0 from h)
      exact so_st (S2 := S') (fun H locs cells slots ls _ _ _ k => lv_pop hx hb hd (mcat_1 h1) k) (fun okS _ => ok_t okS) (hg _ _ _ _ h)
  by_cases e : op = 48
  · subst e
    exact so_st (S2 := S) (fun H locs cells slots ls _ _ _ k => lv_goto hx hb hd m_off k) (fun okS _ => okS) (hg _ _ _ _ h)
  by_cases e : op = 49
  · subst e
    obtain ⟨x, S, rfl, h⟩ := mpop1_some h
    have hl : (mkeys (mp ps 1) (ps.drop 1) && Nat.blt (mp ps 1) 1000 && Nat.blt ps.length 1000) = true := hl
    simp only [Bool.and_eq_true] at hl
    have hd : decode cc pc = .ok (.tableswitch ((mp ps 0 : Int) - (pc : Int)) (mp ps 1 : Int) ((mp ps 1 : Int) + ((moffs pc (ps.drop 1)).length : Int) - 1) (moffs pc (ps.drop 1)).toArray, n) := hd
    rcases msw_tab (pc := pc) _ _ hl.1.1 h with ⟨j, t, h1, h2, h3, h4⟩ | ⟨h1, h2⟩
    · refine so_st (S2 := S) (fun H locs cells slots ls _ okS _ k => ?_) (fun okS _ => ok_t okS) (hg _ _ _ _ h4)
      have hx1 : in32 x := ok_i okS
      refine lv_tableIn (x := Int32.ofInt x) (off := (t : Int) - (pc : Int)) hx hb hd ?_ ?_ ?_ m_off k
      · rw [i32_t hx1]; omega
      · rw [i32_t hx1]; omega
      · rw [i32_t hx1, show (x - (mp ps 1 : Int)).toNat = j by omega, List.getElem?_toArray]
        exact h3
    · refine so_st (S2 := S) (fun H locs cells slots ls _ okS _ k => ?_) (fun okS _ => ok_t okS) (hg _ _ _ _ h2)
      have hx1 : in32 x := ok_i okS
      refine lv_tableOut (x := Int32.ofInt x) hx hb hd ?_ m_off k
      rw [i32_t hx1]
      omega
  by_cases e : op = 50
  · subst e
    obtain ⟨x, S, rfl, h⟩ := mpop1_some h
    have hl : (mev (ps.drop 1) && ((mpairs 0 (ps.drop 1)).zip ((mpairs 0 (ps.drop 1)).drop 1)).all (fun (a, next) => a.1 < next.1) && (ps.drop 1).all (fun k => Nat.blt k 2147483648)) = true := hl
    simp only [Bool.and_eq_true] at hl
    have hd : decode cc pc = .ok (.lookupswitch ((mp ps 0 : Int) - (pc : Int)) (mpairs pc (ps.drop 1)).toArray, n) := hd
    have hz : ∀ (ps : List Nat), (mpairs pc ps).map (fun q => q.1) = (mpairs 0 ps).map (fun q => q.1) := by
      intro ps
      induction ps using mev.induct with
      | case1 a t r ih => simpa [mpairs] using ih
      | case2 => rfl
      | case3 x h1 h2 =>
        unfold mpairs
        split
        · exact absurd rfl (h1 _ _ _)
        · rfl
    have hord : ∀ (l1 l2 : List (Int × Int)), l1.map (fun q => q.1) = l2.map (fun q => q.1) → (l1.zip (l1.drop 1)).all (fun (a, next) => a.1 < next.1) = (l2.zip (l2.drop 1)).all (fun (a, next) => a.1 < next.1) := by
      intro l1 l2 q
      have q1 : ∀ (l : List (Int × Int)), (l.zip (l.drop 1)).all (fun (a, next) => a.1 < next.1) = ((l.map (fun q => q.1)).zip ((l.map (fun q => q.1)).drop 1)).all (fun (a, next) => a < next) := by
        intro l
        rw [← List.map_drop, List.zip_map, List.all_map]
        rfl
      rw [q1, q1, q]
    by_cases hS : ∀ v ∈ (0, x) :: S, okV (mz σ 0) v
    · obtain ⟨t, h1, h2⟩ := msw_off (pc := pc) (ok_i hS) (ok_t hS) hl.2 hl.1.1 h
      exact so_st (S2 := S) (fun H locs cells slots ls _ okS _ k => lv_lookup (x := Int32.ofInt x) (off := (t : Int) - (pc : Int)) hx hb hd (by rw [hord _ _ (hz _)]; exact hl.1.2) h2 m_off k) (fun okS _ => ok_t okS) (hg _ _ _ _ h1)
    · exact fun H locs cells slots ls hL okL okS => absurd okS hS
  by_cases e : op = 100
  · subst e
    have hn : n = 3 := hn
    subst hn
    obtain ⟨x, S, rfl, h⟩ := mpop1_some h
    exact so_b1 (P := x = 0) (P' := fun a : Int32 => a = 0) (fun H locs cells slots ls rest a q1 q2 => lv_if_eq hx hb hd m_off q1 q2) (fun q => (i32_eq q in32_0)) (fun z => hg _ _ _ _ ((bEq_some h).1 z)) (fun z => hg _ _ _ _ ((bEq_some h).2 z))
  by_cases e : op = 101
  · subst e
    have hn : n = 3 := hn
    subst hn
    obtain ⟨x, S, rfl, h⟩ := mpop1_some h
    exact so_b1 (P := ¬ x = 0) (P' := fun a : Int32 => ¬ a = 0) (fun H locs cells slots ls rest a q1 q2 => lv_if_ne hx hb hd m_off q1 (fun z => q2 (fun z2 => z2 z))) (fun q => (not_congr (i32_eq q in32_0))) (fun z => hg _ _ _ _ ((bEq_some h).2 z)) (fun z => hg _ _ _ _ ((bEq_some h).1 (Decidable.not_not.mp z)))
  by_cases e : op = 102
  · subst e
    have hn : n = 3 := hn
    subst hn
    obtain ⟨x, S, rfl, h⟩ := mpop1_some h
    exact so_b1 (P := x < 0) (P' := fun a : Int32 => a < 0) (fun H locs cells slots ls rest a q1 q2 => lv_if_lt hx hb hd m_off q1 q2) (fun q => (i32_lt q in32_0)) (fun z => hg _ _ _ _ ((bLt_some h).1 z)) (fun z => hg _ _ _ _ ((bLt_some h).2 z))
  by_cases e : op = 103
  · subst e
    have hn : n = 3 := hn
    subst hn
    obtain ⟨x, S, rfl, h⟩ := mpop1_some h
    exact so_b1 (P := ¬ x < 0) (P' := fun a : Int32 => 0 ≤ a) (fun H locs cells slots ls rest a q1 q2 => lv_if_ge hx hb hd m_off q1 q2) (fun q => ((i32_le in32_0 q).trans Int.not_lt.symm)) (fun z => hg _ _ _ _ ((bLt_some h).2 z)) (fun z => hg _ _ _ _ ((bLt_some h).1 (Decidable.not_not.mp z)))
  by_cases e : op = 104
  · subst e
    have hn : n = 3 := hn
    subst hn
    obtain ⟨x, S, rfl, h⟩ := mpop1_some h
    exact so_b1 (P := 0 < x) (P' := fun a : Int32 => 0 < a) (fun H locs cells slots ls rest a q1 q2 => lv_if_gt hx hb hd m_off q1 q2) (fun q => (i32_lt in32_0 q)) (fun z => hg _ _ _ _ ((bLt_some h).1 z)) (fun z => hg _ _ _ _ ((bLt_some h).2 z))
  by_cases e : op = 105
  · subst e
    have hn : n = 3 := hn
    subst hn
    obtain ⟨x, S, rfl, h⟩ := mpop1_some h
    exact so_b1 (P := ¬ 0 < x) (P' := fun a : Int32 => a ≤ 0) (fun H locs cells slots ls rest a q1 q2 => lv_if_le hx hb hd m_off q1 q2) (fun q => ((i32_le q in32_0).trans Int.not_lt.symm)) (fun z => hg _ _ _ _ ((bLt_some h).2 z)) (fun z => hg _ _ _ _ ((bLt_some h).1 (Decidable.not_not.mp z)))
  by_cases e : op = 110
  · subst e
    have hn : n = 3 := hn
    subst hn
    obtain ⟨x, y, S, rfl, h⟩ := mpop2_some h
    exact so_b2 (P := x = y) (P' := fun a b : Int32 => a = b) (fun H locs cells slots ls rest a b q1 q2 => lv_icmp_eq hx hb hd m_off q1 q2) (fun q r => (i32_eq q r)) (fun z => hg _ _ _ _ ((bEq_some h).1 z)) (fun z => hg _ _ _ _ ((bEq_some h).2 z))
  by_cases e : op = 111
  · subst e
    have hn : n = 3 := hn
    subst hn
    obtain ⟨x, y, S, rfl, h⟩ := mpop2_some h
    exact so_b2 (P := ¬ x = y) (P' := fun a b : Int32 => ¬ a = b) (fun H locs cells slots ls rest a b q1 q2 => lv_icmp_ne hx hb hd m_off q1 (fun z => q2 (fun z2 => z2 z))) (fun q r => (not_congr (i32_eq q r))) (fun z => hg _ _ _ _ ((bEq_some h).2 z)) (fun z => hg _ _ _ _ ((bEq_some h).1 (Decidable.not_not.mp z)))
  by_cases e : op = 112
  · subst e
    have hn : n = 3 := hn
    subst hn
    obtain ⟨x, y, S, rfl, h⟩ := mpop2_some h
    exact so_b2 (P := x < y) (P' := fun a b : Int32 => a < b) (fun H locs cells slots ls rest a b q1 q2 => lv_icmp_lt hx hb hd m_off q1 q2) (fun q r => (i32_lt q r)) (fun z => hg _ _ _ _ ((bLt_some h).1 z)) (fun z => hg _ _ _ _ ((bLt_some h).2 z))
  by_cases e : op = 113
  · subst e
    have hn : n = 3 := hn
    subst hn
    obtain ⟨x, y, S, rfl, h⟩ := mpop2_some h
    exact so_b2 (P := ¬ x < y) (P' := fun a b : Int32 => b ≤ a) (fun H locs cells slots ls rest a b q1 q2 => lv_icmp_ge hx hb hd m_off q1 q2) (fun q r => ((i32_le r q).trans Int.not_lt.symm)) (fun z => hg _ _ _ _ ((bLt_some h).2 z)) (fun z => hg _ _ _ _ ((bLt_some h).1 (Decidable.not_not.mp z)))
  by_cases e : op = 114
  · subst e
    have hn : n = 3 := hn
    subst hn
    obtain ⟨x, y, S, rfl, h⟩ := mpop2_some h
    exact so_b2 (P := y < x) (P' := fun a b : Int32 => b < a) (fun H locs cells slots ls rest a b q1 q2 => lv_icmp_gt hx hb hd m_off q1 q2) (fun q r => (i32_lt r q)) (fun z => hg _ _ _ _ ((bLt_some h).1 z)) (fun z => hg _ _ _ _ ((bLt_some h).2 z))
  by_cases e : op = 115
  · subst e
    have hn : n = 3 := hn
    subst hn
    obtain ⟨x, y, S, rfl, h⟩ := mpop2_some h
    exact so_b2 (P := ¬ y < x) (P' := fun a b : Int32 => a ≤ b) (fun H locs cells slots ls rest a b q1 q2 => lv_icmp_le hx hb hd m_off q1 q2) (fun q r => ((i32_le q r).trans Int.not_lt.symm)) (fun z => hg _ _ _ _ ((bLt_some h).2 z)) (fun z => hg _ _ _ _ ((bLt_some h).1 (Decidable.not_not.mp z)))
  exfalso
  have nb : ∀ {k : Nat}, ¬ op = k → Nat.beq op k = false := fun {k} hk => by
    cases hq : Nat.beq op k
    · rfl
    · exact absurd (Nat.eq_of_beq_eq_true hq) hk
  unfold mstepC at h
  simp only [nb (by assumption : ¬ op = 42), nb (by assumption : ¬ op = 43), nb (by assumption : ¬ op = 44), nb (by assumption : ¬ op = 45), nb (by assumption : ¬ op = 48), nb (by assumption : ¬ op = 49), nb (by assumption : ¬ op = 50), nb (by assumption : ¬ op = 100), nb (by assumption : ¬ op = 101), nb (by assumption : ¬ op = 102), nb (by assumption : ¬ op = 103), nb (by assumption : ¬ op = 104), nb (by assumption : ¬ op = 105), nb (by assumption : ¬ op = 110), nb (by assumption : ¬ op = 111), nb (by assumption : ¬ op = 112), nb (by assumption : ¬ op = 113), nb (by assumption : ¬ op = 114), nb (by assumption : ¬ op = 115), Bool.or_false, cond_false] at h
  cases h
end
end
section
/-! THE CLASSES: names, fields, and what the tables say of them -/
def mC (i : Nat) : String := (vwCl.getD i (RL, TX0, 0)).1
def mTf (i k : Nat) : String × String × String × Bool := (vwCl.getD i (RL, TX0, 0)).2.1 k
def mCl (i : Nat) : Prop := ∃ ty : Nat → FieldType, vwCl[i]? = some (mC i, mTf i, mNf i) ∧ (∀ x ∈ u_ws (mC i) (mTf i) (mNf i), x ∈ mWS) ∧ (∀ k, k < mNf i → parseFieldDescriptor (mTf i k).2.2.1 = some (ty k)) ∧
  (∀ a, a < mNf i → ∀ b, b < mNf i → a ≠ b → (mTf i a).2.1 ≠ (mTf i b).2.1) ∧ (∀ k, k < mNf i → (mTf i k).1 = mC i) ∧
  (∀ k, k < mNf i → (mft i k = 0 → defaultValue (ty k) = .int 0) ∧ (mft i k ≠ 0 → defaultValue (ty k) = .null ∧ ∀ a, narrow (ty k) (.ref a) = .ref a ∧ fits (ty k) (.ref a) = true))
theorem mClw_0 : ∀ x ∈ u_ws (mC 0) (mTf 0) (mNf 0), x ∈ mWS := by
  intro x hx
  obtain ⟨k, hk, rfl⟩ := List.mem_map.mp hx
  have hk : k < 6 := List.mem_range.mp hk
  rcases (by omega : k = 0 ∨ k = 1 ∨ k = 2 ∨ k = 3 ∨ k = 4 ∨ k = 5) with rfl | rfl | rfl | rfl | rfl | rfl
  · exact mWd1_ws (k := 2002) rfl rfl
  · exact mWd1_ws (k := 2004) rfl rfl
  · exact mWd1_ws (k := 2006) rfl rfl
  · exact mWd1_ws (k := 2008) rfl rfl
  · exact mWd1_ws (k := 2010) rfl rfl
  · exact mWd1_ws (k := 2012) rfl rfl
theorem mCld_0 : ∀ k, k < mNf 0 → (mft 0 k = 0 → defaultValue (tyX0 k) = .int 0) ∧ (mft 0 k ≠ 0 → defaultValue (tyX0 k) = .null ∧ ∀ a, narrow (tyX0 k) (.ref a) = .ref a ∧ fits (tyX0 k) (.ref a) = true) := by
  intro k hk
  have hk : k < 6 := hk
  rcases (by omega : k = 0 ∨ k = 1 ∨ k = 2 ∨ k = 3 ∨ k = 4 ∨ k = 5) with rfl | rfl | rfl | rfl | rfl | rfl
  · exact ⟨fun h => absurd h (by decide +kernel), fun _ => ⟨rfl, fun _ => ⟨rfl, rfl⟩⟩⟩
  · exact ⟨fun h => absurd h (by decide +kernel), fun _ => ⟨rfl, fun _ => ⟨rfl, rfl⟩⟩⟩
  · exact ⟨fun h => absurd h (by decide +kernel), fun _ => ⟨rfl, fun _ => ⟨rfl, rfl⟩⟩⟩
  · exact ⟨fun h => absurd h (by decide +kernel), fun _ => ⟨rfl, fun _ => ⟨rfl, rfl⟩⟩⟩
  · exact ⟨fun _ => rfl, fun h => absurd rfl h⟩
  · exact ⟨fun _ => rfl, fun h => absurd rfl h⟩
theorem mCl_0 : mCl 0 := ⟨tyX0, rfl, mClw_0, tyX0_ok, nmX0, by decide +kernel, mCld_0⟩
theorem mClw_1 : ∀ x ∈ u_ws (mC 1) (mTf 1) (mNf 1), x ∈ mWS := by
  intro x hx
  obtain ⟨k, hk, rfl⟩ := List.mem_map.mp hx
  have hk : k < 5 := List.mem_range.mp hk
  rcases (by omega : k = 0 ∨ k = 1 ∨ k = 2 ∨ k = 3 ∨ k = 4) with rfl | rfl | rfl | rfl | rfl
  · exact mWd1_ws (k := 1051) rfl rfl
  · exact mWd1_ws (k := 1053) rfl rfl
  · exact mWd1_ws (k := 1055) rfl rfl
  · exact mWd1_ws (k := 1057) rfl rfl
  · exact mWd1_ws (k := 1059) rfl rfl
theorem mCld_1 : ∀ k, k < mNf 1 → (mft 1 k = 0 → defaultValue (tyX1 k) = .int 0) ∧ (mft 1 k ≠ 0 → defaultValue (tyX1 k) = .null ∧ ∀ a, narrow (tyX1 k) (.ref a) = .ref a ∧ fits (tyX1 k) (.ref a) = true) := by
  intro k hk
  have hk : k < 5 := hk
  rcases (by omega : k = 0 ∨ k = 1 ∨ k = 2 ∨ k = 3 ∨ k = 4) with rfl | rfl | rfl | rfl | rfl
  · exact ⟨fun h => absurd h (by decide +kernel), fun _ => ⟨rfl, fun _ => ⟨rfl, rfl⟩⟩⟩
  · exact ⟨fun h => absurd h (by decide +kernel), fun _ => ⟨rfl, fun _ => ⟨rfl, rfl⟩⟩⟩
  · exact ⟨fun h => absurd h (by decide +kernel), fun _ => ⟨rfl, fun _ => ⟨rfl, rfl⟩⟩⟩
  · exact ⟨fun h => absurd h (by decide +kernel), fun _ => ⟨rfl, fun _ => ⟨rfl, rfl⟩⟩⟩
  · exact ⟨fun _ => rfl, fun h => absurd rfl h⟩
theorem mCl_1 : mCl 1 := ⟨tyX1, rfl, mClw_1, tyX1_ok, nmX1, by decide +kernel, mCld_1⟩
theorem mClw_2 : ∀ x ∈ u_ws (mC 2) (mTf 2) (mNf 2), x ∈ mWS := by
  intro x hx
  obtain ⟨k, hk, rfl⟩ := List.mem_map.mp hx
  have hk : k < 8 := List.mem_range.mp hk
  rcases (by omega : k = 0 ∨ k = 1 ∨ k = 2 ∨ k = 3 ∨ k = 4 ∨ k = 5 ∨ k = 6 ∨ k = 7) with rfl | rfl | rfl | rfl | rfl | rfl | rfl | rfl
  · exact mWd1_ws (k := 1077) rfl rfl
  · exact mWd1_ws (k := 1079) rfl rfl
  · exact mWd1_ws (k := 1081) rfl rfl
  · exact mWd1_ws (k := 1083) rfl rfl
  · exact mWd1_ws (k := 1085) rfl rfl
  · exact mWd1_ws (k := 1087) rfl rfl
  · exact mWd1_ws (k := 1089) rfl rfl
  · exact mWd1_ws (k := 1091) rfl rfl
theorem mCld_2 : ∀ k, k < mNf 2 → (mft 2 k = 0 → defaultValue (tyX2 k) = .int 0) ∧ (mft 2 k ≠ 0 → defaultValue (tyX2 k) = .null ∧ ∀ a, narrow (tyX2 k) (.ref a) = .ref a ∧ fits (tyX2 k) (.ref a) = true) := by
  intro k hk
  have hk : k < 8 := hk
  rcases (by omega : k = 0 ∨ k = 1 ∨ k = 2 ∨ k = 3 ∨ k = 4 ∨ k = 5 ∨ k = 6 ∨ k = 7) with rfl | rfl | rfl | rfl | rfl | rfl | rfl | rfl
  · exact ⟨fun h => absurd h (by decide +kernel), fun _ => ⟨rfl, fun _ => ⟨rfl, rfl⟩⟩⟩
  · exact ⟨fun h => absurd h (by decide +kernel), fun _ => ⟨rfl, fun _ => ⟨rfl, rfl⟩⟩⟩
  · exact ⟨fun _ => rfl, fun h => absurd rfl h⟩
  · exact ⟨fun h => absurd h (by decide +kernel), fun _ => ⟨rfl, fun _ => ⟨rfl, rfl⟩⟩⟩
  · exact ⟨fun h => absurd h (by decide +kernel), fun _ => ⟨rfl, fun _ => ⟨rfl, rfl⟩⟩⟩
  · exact ⟨fun _ => rfl, fun h => absurd rfl h⟩
  · exact ⟨fun h => absurd h (by decide +kernel), fun _ => ⟨rfl, fun _ => ⟨rfl, rfl⟩⟩⟩
  · exact ⟨fun h => absurd h (by decide +kernel), fun _ => ⟨rfl, fun _ => ⟨rfl, rfl⟩⟩⟩
theorem mCl_2 : mCl 2 := ⟨tyX2, rfl, mClw_2, tyX2_ok, nmX2, by decide +kernel, mCld_2⟩
theorem mClw_3 : ∀ x ∈ u_ws (mC 3) (mTf 3) (mNf 3), x ∈ mWS := by
  intro x hx
  obtain ⟨k, hk, rfl⟩ := List.mem_map.mp hx
  have hk : k < 4 := List.mem_range.mp hk
  rcases (by omega : k = 0 ∨ k = 1 ∨ k = 2 ∨ k = 3) with rfl | rfl | rfl | rfl
  · exact mWd1_ws (k := 2055) rfl rfl
  · exact mWd1_ws (k := 2057) rfl rfl
  · exact mWd1_ws (k := 2059) rfl rfl
  · exact mWd1_ws (k := 2061) rfl rfl
theorem mCld_3 : ∀ k, k < mNf 3 → (mft 3 k = 0 → defaultValue (tyX3 k) = .int 0) ∧ (mft 3 k ≠ 0 → defaultValue (tyX3 k) = .null ∧ ∀ a, narrow (tyX3 k) (.ref a) = .ref a ∧ fits (tyX3 k) (.ref a) = true) := by
  intro k hk
  have hk : k < 4 := hk
  rcases (by omega : k = 0 ∨ k = 1 ∨ k = 2 ∨ k = 3) with rfl | rfl | rfl | rfl
  · exact ⟨fun h => absurd h (by decide +kernel), fun _ => ⟨rfl, fun _ => ⟨rfl, rfl⟩⟩⟩
  · exact ⟨fun _ => rfl, fun h => absurd rfl h⟩
  · exact ⟨fun _ => rfl, fun h => absurd rfl h⟩
  · exact ⟨fun _ => rfl, fun h => absurd rfl h⟩
theorem mCl_3 : mCl 3 := ⟨tyX3, rfl, mClw_3, tyX3_ok, nmX3, by decide +kernel, mCld_3⟩
theorem mClw_4 : ∀ x ∈ u_ws (mC 4) (mTf 4) (mNf 4), x ∈ mWS := by
  intro x hx
  obtain ⟨k, hk, rfl⟩ := List.mem_map.mp hx
  have hk : k < 8 := List.mem_range.mp hk
  rcases (by omega : k = 0 ∨ k = 1 ∨ k = 2 ∨ k = 3 ∨ k = 4 ∨ k = 5 ∨ k = 6 ∨ k = 7) with rfl | rfl | rfl | rfl | rfl | rfl | rfl | rfl
  · exact mWd1_ws (k := 1112) rfl rfl
  · exact mWd1_ws (k := 1114) rfl rfl
  · exact mWd1_ws (k := 1116) rfl rfl
  · exact mWd1_ws (k := 1118) rfl rfl
  · exact mWd1_ws (k := 1120) rfl rfl
  · exact mWd1_ws (k := 1122) rfl rfl
  · exact mWd1_ws (k := 1124) rfl rfl
  · exact mWd1_ws (k := 1126) rfl rfl
theorem mCld_4 : ∀ k, k < mNf 4 → (mft 4 k = 0 → defaultValue (tyX4 k) = .int 0) ∧ (mft 4 k ≠ 0 → defaultValue (tyX4 k) = .null ∧ ∀ a, narrow (tyX4 k) (.ref a) = .ref a ∧ fits (tyX4 k) (.ref a) = true) := by
  intro k hk
  have hk : k < 8 := hk
  rcases (by omega : k = 0 ∨ k = 1 ∨ k = 2 ∨ k = 3 ∨ k = 4 ∨ k = 5 ∨ k = 6 ∨ k = 7) with rfl | rfl | rfl | rfl | rfl | rfl | rfl | rfl
  · exact ⟨fun h => absurd h (by decide +kernel), fun _ => ⟨rfl, fun _ => ⟨rfl, rfl⟩⟩⟩
  · exact ⟨fun h => absurd h (by decide +kernel), fun _ => ⟨rfl, fun _ => ⟨rfl, rfl⟩⟩⟩
  · exact ⟨fun h => absurd h (by decide +kernel), fun _ => ⟨rfl, fun _ => ⟨rfl, rfl⟩⟩⟩
  · exact ⟨fun h => absurd h (by decide +kernel), fun _ => ⟨rfl, fun _ => ⟨rfl, rfl⟩⟩⟩
  · exact ⟨fun _ => rfl, fun h => absurd rfl h⟩
  · exact ⟨fun _ => rfl, fun h => absurd rfl h⟩
  · exact ⟨fun h => absurd h (by decide +kernel), fun _ => ⟨rfl, fun _ => ⟨rfl, rfl⟩⟩⟩
  · exact ⟨fun h => absurd h (by decide +kernel), fun _ => ⟨rfl, fun _ => ⟨rfl, rfl⟩⟩⟩
theorem mCl_4 : mCl 4 := ⟨tyX4, rfl, mClw_4, tyX4_ok, nmX4, by decide +kernel, mCld_4⟩
theorem mClw_5 : ∀ x ∈ u_ws (mC 5) (mTf 5) (mNf 5), x ∈ mWS := by
  intro x hx
  obtain ⟨k, hk, rfl⟩ := List.mem_map.mp hx
  have hk : k < 4 := List.mem_range.mp hk
  rcases (by omega : k = 0 ∨ k = 1 ∨ k = 2 ∨ k = 3) with rfl | rfl | rfl | rfl
  · exact mWd1_ws (k := 2029) rfl rfl
  · exact mWd1_ws (k := 2031) rfl rfl
  · exact mWd1_ws (k := 2033) rfl rfl
  · exact mWd1_ws (k := 2035) rfl rfl
theorem mCld_5 : ∀ k, k < mNf 5 → (mft 5 k = 0 → defaultValue (tyX5 k) = .int 0) ∧ (mft 5 k ≠ 0 → defaultValue (tyX5 k) = .null ∧ ∀ a, narrow (tyX5 k) (.ref a) = .ref a ∧ fits (tyX5 k) (.ref a) = true) := by
  intro k hk
  have hk : k < 4 := hk
  rcases (by omega : k = 0 ∨ k = 1 ∨ k = 2 ∨ k = 3) with rfl | rfl | rfl | rfl
  · exact ⟨fun h => absurd h (by decide +kernel), fun _ => ⟨rfl, fun _ => ⟨rfl, rfl⟩⟩⟩
  · exact ⟨fun _ => rfl, fun h => absurd rfl h⟩
  · exact ⟨fun h => absurd h (by decide +kernel), fun _ => ⟨rfl, fun _ => ⟨rfl, rfl⟩⟩⟩
  · exact ⟨fun _ => rfl, fun h => absurd rfl h⟩
theorem mCl_5 : mCl 5 := ⟨tyX5, rfl, mClw_5, tyX5_ok, nmX5, by decide +kernel, mCld_5⟩
theorem mClw_6 : ∀ x ∈ u_ws (mC 6) (mTf 6) (mNf 6), x ∈ mWS := by
  intro x hx
  obtain ⟨k, hk, rfl⟩ := List.mem_map.mp hx
  have hk : k < 4 := List.mem_range.mp hk
  rcases (by omega : k = 0 ∨ k = 1 ∨ k = 2 ∨ k = 3) with rfl | rfl | rfl | rfl
  · exact mWd1_ws (k := 1140) rfl rfl
  · exact mWd1_ws (k := 1142) rfl rfl
  · exact mWd1_ws (k := 1144) rfl rfl
  · exact mWd1_ws (k := 1146) rfl rfl
theorem mCld_6 : ∀ k, k < mNf 6 → (mft 6 k = 0 → defaultValue (tyX6 k) = .int 0) ∧ (mft 6 k ≠ 0 → defaultValue (tyX6 k) = .null ∧ ∀ a, narrow (tyX6 k) (.ref a) = .ref a ∧ fits (tyX6 k) (.ref a) = true) := by
  intro k hk
  have hk : k < 4 := hk
  rcases (by omega : k = 0 ∨ k = 1 ∨ k = 2 ∨ k = 3) with rfl | rfl | rfl | rfl
  · exact ⟨fun h => absurd h (by decide +kernel), fun _ => ⟨rfl, fun _ => ⟨rfl, rfl⟩⟩⟩
  · exact ⟨fun _ => rfl, fun h => absurd rfl h⟩
  · exact ⟨fun _ => rfl, fun h => absurd rfl h⟩
  · exact ⟨fun h => absurd h (by decide +kernel), fun _ => ⟨rfl, fun _ => ⟨rfl, rfl⟩⟩⟩
theorem mCl_6 : mCl 6 := ⟨tyX6, rfl, mClw_6, tyX6_ok, nmX6, by decide +kernel, mCld_6⟩
theorem mClw_7 : ∀ x ∈ u_ws (mC 7) (mTf 7) (mNf 7), x ∈ mWS := by
  intro x hx
  obtain ⟨k, hk, rfl⟩ := List.mem_map.mp hx
  have hk : k < 10 := List.mem_range.mp hk
  rcases (by omega : k = 0 ∨ k = 1 ∨ k = 2 ∨ k = 3 ∨ k = 4 ∨ k = 5 ∨ k = 6 ∨ k = 7 ∨ k = 8 ∨ k = 9) with rfl | rfl | rfl | rfl | rfl | rfl | rfl | rfl | rfl | rfl
  · exact mWd1_ws (k := 1171) rfl rfl
  · exact mWd1_ws (k := 1173) rfl rfl
  · exact mWd1_ws (k := 1175) rfl rfl
  · exact mWd1_ws (k := 1177) rfl rfl
  · exact mWd1_ws (k := 1179) rfl rfl
  · exact mWd1_ws (k := 1181) rfl rfl
  · exact mWd1_ws (k := 1183) rfl rfl
  · exact mWd1_ws (k := 1185) rfl rfl
  · exact mWd1_ws (k := 1187) rfl rfl
  · exact mWd1_ws (k := 1189) rfl rfl
theorem mCld_7 : ∀ k, k < mNf 7 → (mft 7 k = 0 → defaultValue (tyX7 k) = .int 0) ∧ (mft 7 k ≠ 0 → defaultValue (tyX7 k) = .null ∧ ∀ a, narrow (tyX7 k) (.ref a) = .ref a ∧ fits (tyX7 k) (.ref a) = true) := by
  intro k hk
  have hk : k < 10 := hk
  rcases (by omega : k = 0 ∨ k = 1 ∨ k = 2 ∨ k = 3 ∨ k = 4 ∨ k = 5 ∨ k = 6 ∨ k = 7 ∨ k = 8 ∨ k = 9) with rfl | rfl | rfl | rfl | rfl | rfl | rfl | rfl | rfl | rfl
  · exact ⟨fun h => absurd h (by decide +kernel), fun _ => ⟨rfl, fun _ => ⟨rfl, rfl⟩⟩⟩
  · exact ⟨fun h => absurd h (by decide +kernel), fun _ => ⟨rfl, fun _ => ⟨rfl, rfl⟩⟩⟩
  · exact ⟨fun h => absurd h (by decide +kernel), fun _ => ⟨rfl, fun _ => ⟨rfl, rfl⟩⟩⟩
  · exact ⟨fun _ => rfl, fun h => absurd rfl h⟩
  · exact ⟨fun _ => rfl, fun h => absurd rfl h⟩
  · exact ⟨fun _ => rfl, fun h => absurd rfl h⟩
  · exact ⟨fun _ => rfl, fun h => absurd rfl h⟩
  · exact ⟨fun _ => rfl, fun h => absurd rfl h⟩
  · exact ⟨fun _ => rfl, fun h => absurd rfl h⟩
  · exact ⟨fun _ => rfl, fun h => absurd rfl h⟩
theorem mCl_7 : mCl 7 := ⟨tyX7, rfl, mClw_7, tyX7_ok, nmX7, by decide +kernel, mCld_7⟩
theorem mClw_8 : ∀ x ∈ u_ws (mC 8) (mTf 8) (mNf 8), x ∈ mWS := by
  intro x hx
  obtain ⟨k, hk, rfl⟩ := List.mem_map.mp hx
  have hk : k < 8 := List.mem_range.mp hk
  rcases (by omega : k = 0 ∨ k = 1 ∨ k = 2 ∨ k = 3 ∨ k = 4 ∨ k = 5 ∨ k = 6 ∨ k = 7) with rfl | rfl | rfl | rfl | rfl | rfl | rfl | rfl
  · exact mWd1_ws (k := 1211) rfl rfl
  · exact mWd1_ws (k := 1213) rfl rfl
  · exact mWd1_ws (k := 1215) rfl rfl
  · exact mWd1_ws (k := 1217) rfl rfl
  · exact mWd1_ws (k := 1219) rfl rfl
  · exact mWd1_ws (k := 1221) rfl rfl
  · exact mWd1_ws (k := 1223) rfl rfl
  · exact mWd1_ws (k := 1225) rfl rfl
theorem mCld_8 : ∀ k, k < mNf 8 → (mft 8 k = 0 → defaultValue (tyX8 k) = .int 0) ∧ (mft 8 k ≠ 0 → defaultValue (tyX8 k) = .null ∧ ∀ a, narrow (tyX8 k) (.ref a) = .ref a ∧ fits (tyX8 k) (.ref a) = true) := by
  intro k hk
  have hk : k < 8 := hk
  rcases (by omega : k = 0 ∨ k = 1 ∨ k = 2 ∨ k = 3 ∨ k = 4 ∨ k = 5 ∨ k = 6 ∨ k = 7) with rfl | rfl | rfl | rfl | rfl | rfl | rfl | rfl
  · exact ⟨fun h => absurd h (by decide +kernel), fun _ => ⟨rfl, fun _ => ⟨rfl, rfl⟩⟩⟩
  · exact ⟨fun h => absurd h (by decide +kernel), fun _ => ⟨rfl, fun _ => ⟨rfl, rfl⟩⟩⟩
  · exact ⟨fun h => absurd h (by decide +kernel), fun _ => ⟨rfl, fun _ => ⟨rfl, rfl⟩⟩⟩
  · exact ⟨fun h => absurd h (by decide +kernel), fun _ => ⟨rfl, fun _ => ⟨rfl, rfl⟩⟩⟩
  · exact ⟨fun _ => rfl, fun h => absurd rfl h⟩
  · exact ⟨fun _ => rfl, fun h => absurd rfl h⟩
  · exact ⟨fun _ => rfl, fun h => absurd rfl h⟩
  · exact ⟨fun _ => rfl, fun h => absurd rfl h⟩
theorem mCl_8 : mCl 8 := ⟨tyX8, rfl, mClw_8, tyX8_ok, nmX8, by decide +kernel, mCld_8⟩
theorem mClw_9 : ∀ x ∈ u_ws (mC 9) (mTf 9) (mNf 9), x ∈ mWS := by
  intro x hx
  obtain ⟨k, hk, rfl⟩ := List.mem_map.mp hx
  have hk : k < 9 := List.mem_range.mp hk
  rcases (by omega : k = 0 ∨ k = 1 ∨ k = 2 ∨ k = 3 ∨ k = 4 ∨ k = 5 ∨ k = 6 ∨ k = 7 ∨ k = 8) with rfl | rfl | rfl | rfl | rfl | rfl | rfl | rfl | rfl
  · exact mWd1_ws (k := 2076) rfl rfl
  · exact mWd1_ws (k := 2078) rfl rfl
  · exact mWd1_ws (k := 2080) rfl rfl
  · exact mWd1_ws (k := 2082) rfl rfl
  · exact mWd1_ws (k := 2084) rfl rfl
  · exact mWd1_ws (k := 2086) rfl rfl
  · exact mWd1_ws (k := 2088) rfl rfl
  · exact mWd1_ws (k := 2090) rfl rfl
  · exact mWd1_ws (k := 2092) rfl rfl
theorem mCld_9 : ∀ k, k < mNf 9 → (mft 9 k = 0 → defaultValue (tyX9 k) = .int 0) ∧ (mft 9 k ≠ 0 → defaultValue (tyX9 k) = .null ∧ ∀ a, narrow (tyX9 k) (.ref a) = .ref a ∧ fits (tyX9 k) (.ref a) = true) := by
  intro k hk
  have hk : k < 9 := hk
  rcases (by omega : k = 0 ∨ k = 1 ∨ k = 2 ∨ k = 3 ∨ k = 4 ∨ k = 5 ∨ k = 6 ∨ k = 7 ∨ k = 8) with rfl | rfl | rfl | rfl | rfl | rfl | rfl | rfl | rfl
  · exact ⟨fun h => absurd h (by decide +kernel), fun _ => ⟨rfl, fun _ => ⟨rfl, rfl⟩⟩⟩
  · exact ⟨fun h => absurd h (by decide +kernel), fun _ => ⟨rfl, fun _ => ⟨rfl, rfl⟩⟩⟩
  · exact ⟨fun h => absurd h (by decide +kernel), fun _ => ⟨rfl, fun _ => ⟨rfl, rfl⟩⟩⟩
  · exact ⟨fun h => absurd h (by decide +kernel), fun _ => ⟨rfl, fun _ => ⟨rfl, rfl⟩⟩⟩
  · exact ⟨fun h => absurd h (by decide +kernel), fun _ => ⟨rfl, fun _ => ⟨rfl, rfl⟩⟩⟩
  · exact ⟨fun h => absurd h (by decide +kernel), fun _ => ⟨rfl, fun _ => ⟨rfl, rfl⟩⟩⟩
  · exact ⟨fun h => absurd h (by decide +kernel), fun _ => ⟨rfl, fun _ => ⟨rfl, rfl⟩⟩⟩
  · exact ⟨fun h => absurd h (by decide +kernel), fun _ => ⟨rfl, fun _ => ⟨rfl, rfl⟩⟩⟩
  · exact ⟨fun _ => rfl, fun h => absurd rfl h⟩
theorem mCl_9 : mCl 9 := ⟨tyX9, rfl, mClw_9, tyX9_ok, nmX9, by decide +kernel, mCld_9⟩
theorem mClw_10 : ∀ x ∈ u_ws (mC 10) (mTf 10) (mNf 10), x ∈ mWS := by
  intro x hx
  obtain ⟨k, hk, rfl⟩ := List.mem_map.mp hx
  have hk : k < 44 := List.mem_range.mp hk
  rcases (by omega : k = 0 ∨ k = 1 ∨ k = 2 ∨ k = 3 ∨ k = 4 ∨ k = 5 ∨ k = 6 ∨ k = 7 ∨ k = 8 ∨ k = 9 ∨ k = 10 ∨ k = 11 ∨ k = 12 ∨ k = 13 ∨ k = 14 ∨ k = 15 ∨ k = 16 ∨ k = 17 ∨ k = 18 ∨ k = 19 ∨ k = 20 ∨ k = 21 ∨ k = 22 ∨ k = 23 ∨ k = 24 ∨ k = 25 ∨ k = 26 ∨ k = 27 ∨ k = 28 ∨ k = 29 ∨ k = 30 ∨ k = 31 ∨ k = 32 ∨ k = 33 ∨ k = 34 ∨ k = 35 ∨ k = 36 ∨ k = 37 ∨ k = 38 ∨ k = 39 ∨ k = 40 ∨ k = 41 ∨ k = 42 ∨ k = 43) with rfl | rfl | rfl | rfl | rfl | rfl | rfl | rfl | rfl | rfl | rfl | rfl | rfl | rfl | rfl | rfl | rfl | rfl | rfl | rfl | rfl | rfl | rfl | rfl | rfl | rfl | rfl | rfl | rfl | rfl | rfl | rfl | rfl | rfl | rfl | rfl | rfl | rfl | rfl | rfl | rfl | rfl | rfl | rfl
  · exact mWd1_ws (k := 4192) rfl rfl
  · exact mWd1_ws (k := 4194) rfl rfl
  · exact mWd1_ws (k := 4196) rfl rfl
  · exact mWd1_ws (k := 4198) rfl rfl
  · exact mWd1_ws (k := 4200) rfl rfl
  · exact mWd1_ws (k := 4202) rfl rfl
  · exact mWd1_ws (k := 4204) rfl rfl
  · exact mWd1_ws (k := 4206) rfl rfl
  · exact mWd1_ws (k := 4208) rfl rfl
  · exact mWd1_ws (k := 4210) rfl rfl
  · exact mWd1_ws (k := 4212) rfl rfl
  · exact mWd1_ws (k := 4214) rfl rfl
  · exact mWd1_ws (k := 4216) rfl rfl
  · exact mWd1_ws (k := 4218) rfl rfl
  · exact mWd1_ws (k := 4220) rfl rfl
  · exact mWd1_ws (k := 4222) rfl rfl
  · exact mWd1_ws (k := 4224) rfl rfl
  · exact mWd1_ws (k := 4226) rfl rfl
  · exact mWd1_ws (k := 4228) rfl rfl
  · exact mWd1_ws (k := 4230) rfl rfl
  · exact mWd1_ws (k := 4232) rfl rfl
  · exact mWd1_ws (k := 4234) rfl rfl
  · exact mWd1_ws (k := 4236) rfl rfl
  · exact mWd1_ws (k := 4238) rfl rfl
  · exact mWd1_ws (k := 5000) rfl rfl
  · exact mWd1_ws (k := 5002) rfl rfl
  · exact mWd1_ws (k := 5004) rfl rfl
  · exact mWd1_ws (k := 5006) rfl rfl
  · exact mWd1_ws (k := 5008) rfl rfl
  · exact mWd1_ws (k := 5010) rfl rfl
  · exact mWd1_ws (k := 5012) rfl rfl
  · exact mWd1_ws (k := 5014) rfl rfl
  · exact mWd1_ws (k := 5016) rfl rfl
  · exact mWd1_ws (k := 5018) rfl rfl
  · exact mWd1_ws (k := 5020) rfl rfl
  · exact mWd1_ws (k := 5022) rfl rfl
  · exact mWd1_ws (k := 5024) rfl rfl
  · exact mWd1_ws (k := 5026) rfl rfl
  · exact mWd1_ws (k := 5028) rfl rfl
  · exact mWd1_ws (k := 5030) rfl rfl
  · exact mWd1_ws (k := 5032) rfl rfl
  · exact mWd1_ws (k := 5034) rfl rfl
  · exact mWd1_ws (k := 5036) rfl rfl
  · exact mWd1_ws (k := 5038) rfl rfl
theorem mCld_10 : ∀ k, k < mNf 10 → (mft 10 k = 0 → defaultValue (tyX10 k) = .int 0) ∧ (mft 10 k ≠ 0 → defaultValue (tyX10 k) = .null ∧ ∀ a, narrow (tyX10 k) (.ref a) = .ref a ∧ fits (tyX10 k) (.ref a) = true) := by
  intro k hk
  have hk : k < 44 := hk
  rcases (by omega : k = 0 ∨ k = 1 ∨ k = 2 ∨ k = 3 ∨ k = 4 ∨ k = 5 ∨ k = 6 ∨ k = 7 ∨ k = 8 ∨ k = 9 ∨ k = 10 ∨ k = 11 ∨ k = 12 ∨ k = 13 ∨ k = 14 ∨ k = 15 ∨ k = 16 ∨ k = 17 ∨ k = 18 ∨ k = 19 ∨ k = 20 ∨ k = 21 ∨ k = 22 ∨ k = 23 ∨ k = 24 ∨ k = 25 ∨ k = 26 ∨ k = 27 ∨ k = 28 ∨ k = 29 ∨ k = 30 ∨ k = 31 ∨ k = 32 ∨ k = 33 ∨ k = 34 ∨ k = 35 ∨ k = 36 ∨ k = 37 ∨ k = 38 ∨ k = 39 ∨ k = 40 ∨ k = 41 ∨ k = 42 ∨ k = 43) with rfl | rfl | rfl | rfl | rfl | rfl | rfl | rfl | rfl | rfl | rfl | rfl | rfl | rfl | rfl | rfl | rfl | rfl | rfl | rfl | rfl | rfl | rfl | rfl | rfl | rfl | rfl | rfl | rfl | rfl | rfl | rfl | rfl | rfl | rfl | rfl | rfl | rfl | rfl | rfl | rfl | rfl | rfl | rfl
  · exact ⟨fun h => absurd h (by decide +kernel), fun _ => ⟨rfl, fun _ => ⟨rfl, rfl⟩⟩⟩
  · exact ⟨fun h => absurd h (by decide +kernel), fun _ => ⟨rfl, fun _ => ⟨rfl, rfl⟩⟩⟩
  · exact ⟨fun h => absurd h (by decide +kernel), fun _ => ⟨rfl, fun _ => ⟨rfl, rfl⟩⟩⟩
  · exact ⟨fun _ => rfl, fun h => absurd rfl h⟩
  · exact ⟨fun h => absurd h (by decide +kernel), fun _ => ⟨rfl, fun _ => ⟨rfl, rfl⟩⟩⟩
  · exact ⟨fun h => absurd h (by decide +kernel), fun _ => ⟨rfl, fun _ => ⟨rfl, rfl⟩⟩⟩
  · exact ⟨fun _ => rfl, fun h => absurd rfl h⟩
  · exact ⟨fun _ => rfl, fun h => absurd rfl h⟩
  · exact ⟨fun h => absurd h (by decide +kernel), fun _ => ⟨rfl, fun _ => ⟨rfl, rfl⟩⟩⟩
  · exact ⟨fun _ => rfl, fun h => absurd rfl h⟩
  · exact ⟨fun _ => rfl, fun h => absurd rfl h⟩
  · exact ⟨fun h => absurd h (by decide +kernel), fun _ => ⟨rfl, fun _ => ⟨rfl, rfl⟩⟩⟩
  · exact ⟨fun h => absurd h (by decide +kernel), fun _ => ⟨rfl, fun _ => ⟨rfl, rfl⟩⟩⟩
  · exact ⟨fun h => absurd h (by decide +kernel), fun _ => ⟨rfl, fun _ => ⟨rfl, rfl⟩⟩⟩
  · exact ⟨fun h => absurd h (by decide +kernel), fun _ => ⟨rfl, fun _ => ⟨rfl, rfl⟩⟩⟩
  · exact ⟨fun _ => rfl, fun h => absurd rfl h⟩
  · exact ⟨fun _ => rfl, fun h => absurd rfl h⟩
  · exact ⟨fun _ => rfl, fun h => absurd rfl h⟩
  · exact ⟨fun _ => rfl, fun h => absurd rfl h⟩
  · exact ⟨fun h => absurd h (by decide +kernel), fun _ => ⟨rfl, fun _ => ⟨rfl, rfl⟩⟩⟩
  · exact ⟨fun h => absurd h (by decide +kernel), fun _ => ⟨rfl, fun _ => ⟨rfl, rfl⟩⟩⟩
  · exact ⟨fun h => absurd h (by decide +kernel), fun _ => ⟨rfl, fun _ => ⟨rfl, rfl⟩⟩⟩
  · exact ⟨fun h => absurd h (by decide +kernel), fun _ => ⟨rfl, fun _ => ⟨rfl, rfl⟩⟩⟩
  · exact ⟨fun h => absurd h (by decide +kernel), fun _ => ⟨rfl, fun _ => ⟨rfl, rfl⟩⟩⟩
  · exact ⟨fun h => absurd h (by decide +kernel), fun _ => ⟨rfl, fun _ => ⟨rfl, rfl⟩⟩⟩
  · exact ⟨fun h => absurd h (by decide +kernel), fun _ => ⟨rfl, fun _ => ⟨rfl, rfl⟩⟩⟩
  · exact ⟨fun _ => rfl, fun h => absurd rfl h⟩
  · exact ⟨fun h => absurd h (by decide +kernel), fun _ => ⟨rfl, fun _ => ⟨rfl, rfl⟩⟩⟩
  · exact ⟨fun h => absurd h (by decide +kernel), fun _ => ⟨rfl, fun _ => ⟨rfl, rfl⟩⟩⟩
  · exact ⟨fun _ => rfl, fun h => absurd rfl h⟩
  · exact ⟨fun _ => rfl, fun h => absurd rfl h⟩
  · exact ⟨fun h => absurd h (by decide +kernel), fun _ => ⟨rfl, fun _ => ⟨rfl, rfl⟩⟩⟩
  · exact ⟨fun _ => rfl, fun h => absurd rfl h⟩
  · exact ⟨fun h => absurd h (by decide +kernel), fun _ => ⟨rfl, fun _ => ⟨rfl, rfl⟩⟩⟩
  · exact ⟨fun _ => rfl, fun h => absurd rfl h⟩
  · exact ⟨fun h => absurd h (by decide +kernel), fun _ => ⟨rfl, fun _ => ⟨rfl, rfl⟩⟩⟩
  · exact ⟨fun h => absurd h (by decide +kernel), fun _ => ⟨rfl, fun _ => ⟨rfl, rfl⟩⟩⟩
  · exact ⟨fun h => absurd h (by decide +kernel), fun _ => ⟨rfl, fun _ => ⟨rfl, rfl⟩⟩⟩
  · exact ⟨fun h => absurd h (by decide +kernel), fun _ => ⟨rfl, fun _ => ⟨rfl, rfl⟩⟩⟩
  · exact ⟨fun h => absurd h (by decide +kernel), fun _ => ⟨rfl, fun _ => ⟨rfl, rfl⟩⟩⟩
  · exact ⟨fun h => absurd h (by decide +kernel), fun _ => ⟨rfl, fun _ => ⟨rfl, rfl⟩⟩⟩
  · exact ⟨fun h => absurd h (by decide +kernel), fun _ => ⟨rfl, fun _ => ⟨rfl, rfl⟩⟩⟩
  · exact ⟨fun h => absurd h (by decide +kernel), fun _ => ⟨rfl, fun _ => ⟨rfl, rfl⟩⟩⟩
  · exact ⟨fun h => absurd h (by decide +kernel), fun _ => ⟨rfl, fun _ => ⟨rfl, rfl⟩⟩⟩
theorem mCl_10 : mCl 10 := ⟨tyX10, rfl, mClw_10, tyX10_ok, nmX10, by decide +kernel, mCld_10⟩
theorem mCl_all {i : Nat} (h : i < 11) : mCl i := by
  rcases (by omega : i = 0 ∨ i = 1 ∨ i = 2 ∨ i = 3 ∨ i = 4 ∨ i = 5 ∨ i = 6 ∨ i = 7 ∨ i = 8 ∨ i = 9 ∨ i = 10) with rfl | rfl | rfl | rfl | rfl | rfl | rfl | rfl | rfl | rfl | rfl
  · exact mCl_0
  · exact mCl_1
  · exact mCl_2
  · exact mCl_3
  · exact mCl_4
  · exact mCl_5
  · exact mCl_6
  · exact mCl_7
  · exact mCl_8
  · exact mCl_9
  · exact mCl_10
theorem mac_i : (Cond.arrayClass .int) ∈ mWS := mWd1_ws (k := 1062) rfl rfl
theorem mac_b : (Cond.arrayClass .boolean) ∈ mWS := mWd1_ws (k := 1094) rfl rfl
theorem mac_j : (Cond.arrayClass .long) ∈ mWS := mWd1_ws (k := 2064) rfl rfl
theorem mob_i : (Cond.instanceMethod Lib.objectInit) ∈ mWS := mWd1_ws (k := 1021) rfl rfl
theorem mob_c : (Cond.code Lib.objectInit ⟨#[0xb1]⟩ 1 none) ∈ mWS := mWd1_ws (k := 1022) rfl rfl
theorem mcp_n : (Cond.native arraycopyName) ∈ mWS := mWd1_ws (k := 2160) rfl rfl
theorem mcp_s : (Cond.static arraycopyName) ∈ mWS := mWd1_ws (k := 2159) rfl rfl
theorem mcp_y : (Cond.initialized "java/lang/System") ∈ mWS := mWd1_ws (k := 1012) rfl rfl
theorem mmmax_s : (Cond.static Lib.Math.max.name) ∈ mWS := mWd1_ws (k := 3042) rfl rfl
theorem mmmax_c : (Cond.code Lib.Math.max.name Lib.Math.max.code 2 (some .int)) ∈ mWS := mWd1_ws (k := 3043) rfl rfl
theorem mmmin_s : (Cond.static Lib.Math.min.name) ∈ mWS := mWd1_ws (k := 3039) rfl rfl
theorem mmmin_c : (Cond.code Lib.Math.min.name Lib.Math.min.code 2 (some .int)) ∈ mWS := mWd1_ws (k := 3040) rfl rfl
theorem mm_y : (Cond.initialized "java/lang/Math") ∈ mWS := mWd1_ws (k := 1013) rfl rfl
end
section
/-! SOUNDNESS 4: fields and rows -/
theorem okR_cell {n t : Nat} {x : Int} (h : okR n t x) (ht : 20 ≤ t ∧ (t < 4000 ∨ 9000 ≤ t)) : ∃ k : Nat, x = (k : Int) ∧ k < n ∧ mlay k = t := by
  obtain ⟨k, e, h⟩ := h
  refine ⟨k, e, ?_⟩
  rcases h with ⟨h1, h2, -⟩ | h | h | h | h
  · exact ⟨h1, h2⟩
  all_goals omega
theorem mrep_cell (w : mW) {t k : Nat} (ht : 3 < t) (hk : k < 900) : mrep w (t, (k : Int)) = .ref (mb w + k) := by
  rw [mrep_r w ht, Int.toNat_natCast]
  unfold madr
  rw [if_pos hk]
theorem mcell_obj {w : mW} {σ : mM} {k i : Nat} (h : mlay k = 20 + i) (hi : i < 11) : mcell w σ k = .inr (i, (List.range (mNf i)).map fun j => mfv w (mft i j) (σ k j)) := by
  unfold mcell
  rw [if_pos (by omega), h, Nat.add_sub_cancel_left]
theorem mcell_i {w : mW} {σ : mM} {k t : Nat} (h : mlay k = t) (h1 : 1000 ≤ t) (h2 : t < 2000) : mcell w σ k = .inl (mty w 0, t - 1000, .inl fun j => Int32.ofInt (σ k j)) := by
  unfold mcell
  rw [if_neg (by omega), if_pos (by omega), h]
theorem mcell_b {w : mW} {σ : mM} {k t : Nat} (h : mlay k = t) (h1 : 2000 ≤ t) (h2 : t < 3000) : mcell w σ k = .inl (mty w 1, t - 2000, .inl fun j => Int32.ofInt (σ k j)) := by
  unfold mcell
  rw [if_neg (by omega), if_neg (by omega), if_pos (by omega), h]
theorem mcell_l {w : mW} {σ : mM} {k t : Nat} (h : mlay k = t) (h1 : 3000 ≤ t) (h2 : t < 4000) : mcell w σ k = .inl (mty w 2, t - 3000, .inr (.inl fun j => Int64.ofInt (σ k j))) := by
  unfold mcell
  rw [if_neg (by omega), if_neg (by omega), if_neg (by omega), if_pos (by omega), h]
theorem mcell_s {w : mW} {σ : mM} {k : Nat} (h : mlay k = 9006) : mcell w σ k = .inl (mty w 3, 6, .inr (.inr (.inr (.inr fun j => if σ k j < 0 then none else some (madr w (σ k j).toNat))))) := by
  unfold mcell
  rw [if_neg (by omega), if_neg (by omega), if_neg (by omega), if_neg (by omega), h]
theorem mlen_i {σ : mM} {t b : Nat} (hb : b = 1000 ∨ b = 2000 ∨ b = 3000) (h1 : b ≤ t) (h2 : t < b + 1000) : mlen σ t = ((t - b : Nat) : Int) := by
  unfold mlen
  have h4 : Nat.beq t 4 = false := by
    cases h : Nat.beq t 4
    · rfl
    · have := Nat.eq_of_beq_eq_true h
      omega
  have h7 : Nat.blt t 7000 = true := Nat.blt_eq.mpr (by omega)
  rw [h4, h7]
  show ((t % 1000 : Nat) : Int) = _
  omega
theorem in_row {i : Int} {n : Nat} (hi : in32 i) (h : 0 ≤ i ∧ i < (n : Int)) : vp_in (Int32.ofInt i) n := vp_in_iff.mpr (by rw [i32_t hi]; exact h)
theorem toNat_i {i : Int} (hi : in32 i) : (Int32.ofInt i).toNatClampNeg = i.toNat := by
  show (Int32.ofInt i).toInt.toNat = i.toNat
  rw [i32_t hi]
section
variable {p : Program} {l : Launch} {e : Env} {R : Room} {s : State} {m : MethodId} {args : Array Value} {below : List Frame} {meth : Method} {c : Code} {Q : State → Prop} {w : mW} {ct : Bool} {nL : Nat} {n0 s0 : Int} {own : String} {cc : ByteArray} {pc : Nat} {L S : List mV} {σ : mM} {a0 : Int × mM} {g : mG}
/-- a field read -/
theorem so_get (F : mF p R s args m c w own cc nL) {i k idx : Nat} {x : Int} {u : mV} (hi : i < 11) (hk : k < mNf i) (hl : (Cond.fieldLink own idx (mC i) (mTf i k).2.1 (mTf i k).2.2.1).before args s = true) (hd : decode cc pc = .ok (.getfield idx, 3))
    (hu : okM w σ → (ct = false → mFX σ) → ∀ q : Nat, x = (q : Int) → q < mz σ 0 → mlay q = 20 + i → mrep w u = mfv w (mft i k) (σ q k) ∧ okV (mz σ 0) u)
    (kk : mGoal p l e R s m args below meth c Q w ct nL n0 s0 (pc + 3) L (u :: S) σ) : mGoal p l e R s m args below meth c Q w ct nL n0 s0 pc L ((20 + i, x) :: S) σ := by
  intro H locs cells slots ls hL okL okS hW hS hA
  obtain ⟨q, e1, hq, hlq⟩ := okR_cell ((okS _ List.mem_cons_self).2.2 (show 3 < 20 + i by omega)) ⟨show 20 ≤ 20 + i by omega, Or.inl (show 20 + i < 4000 by omega)⟩
  obtain ⟨u1, u2⟩ := hu hW.1 hW.2.1 q e1 hq hlq
  have e1 : x = (q : Int) := e1
  subst e1
  have hq9 : q < 900 := by have := hW.1.1.2; omega
  obtain ⟨ty, h1, h2, h3, h4, h5, h6⟩ := mCl_all hi
  show W p l e R s m args below meth c H locs cells slots Q (F0 m pc ls (mrep w (20 + i, (q : Int)) :: S.map (mrep w)))
  rw [mrep_cell w (by omega) hq9]
  have hv : ((List.range (mNf i)).map fun j => mfv w (mft i j) (σ q j))[k]? = some (mrep w u) := by
    rw [List.getElem?_map, List.getElem?_range hk, u1]
    rfl
  refine va_get (Ts := mWS) F.1 F.2.1 F.2.2.2.2.1 h2 F.2.2.2.1 F.2.2.2.2.2.2.1 hW.2.2 q (by rw [mws_get hq, mcell_obj hlq hi]) h1 k hk hl (fun y h => by rw [h5 k hk] at h; exact h) hv hd ?_
  exact kk H locs cells slots ls hL okL (List.forall_mem_cons.mpr ⟨u2, ok_t okS⟩) hW hS hA
/-- after a store of one number -/
theorem so_after {q k : Nat} {v : Int} {H : Heap} {locs : List Loc} {cells slots : Nat} {ls : Array Slot} (hq : q < mz σ 0) (hM : okM w σ) (hX : ct = false → mFX σ) (hv : okF (mz σ 0) (mlay q) k v) (hx : ct = false → (mlay q < 1000 → mfx (mlay q - 20) k = none) ∧ mlay q ≠ 9006) {S' : List mV} {pc2 : Nat}
    (hL : mLr w nL L ls) (okL : ∀ v ∈ L, okV (mz σ 0) v) (okS : ∀ v ∈ S', okV (mz σ 0) v) (hS : va_S (mAr w) s.heap H locs) (hA : mAcc ct R n0 s0 σ cells slots) (hP : va_P (mdd w) vwCl (mws w (mset σ q k v)) H)
    (kk : mGoal p l e R s m args below meth c Q w ct nL n0 s0 pc2 L S' (mset σ q k v)) : W p l e R s m args below meth c H locs cells slots Q (F0 m pc2 ls (S'.map (mrep w))) := by
  have hq9 : q < 900 := by have := hM.1.2; omega
  have hz : mz (mset σ q k v) 0 = mz σ 0 := mz_set hq9
  refine kk H locs cells slots ls hL (by rw [hz]; exact okL) (by rw [hz]; exact okS) ⟨okM_set hM hq hv, fun h => mFX_set (hX h) hq9 (hx h).1 (hx h).2, hP⟩ hS ?_
  unfold mAcc
  rw [mset_ne (by omega), mset_ne (by omega)]
  exact hA
/-- a field written -/
theorem so_put (F : mF p R s args m c w own cc nL) {i k idx : Nat} {x : Int} {u : mV} (hi : i < 11) (hk : k < mNf i) (hl : (Cond.fieldLink own idx (mC i) (mTf i k).2.1 (mTf i k).2.2.1).before args s = true) (hd : decode cc pc = .ok (.putfield idx, 3))
    (hfin : (mTf i k).2.2.2 = false ∨ ((mTf i k).2.2.2 = true ∧ meth.name = "<init>" ∧ mC i = own)) (hty : okV (mz σ 0) u → ∀ ty, parseFieldDescriptor (mTf i k).2.2.1 = some ty → (mft i k ≠ 0 → ∀ a, narrow ty (.ref a) = .ref a ∧ fits ty (.ref a) = true) → narrow ty (mrep w u) = mrep w u ∧ fits ty (mrep w u) = true)
    (hval : okV (mz σ 0) u → mfv w (mft i k) u.2 = mrep w u) (hok : okV (mz σ 0) u → okF (mz σ 0) (20 + i) k u.2) (hfx : ct = false → mfx i k = none) (kk : mGoal p l e R s m args below meth c Q w ct nL n0 s0 (pc + 3) L S (mset σ x.toNat k u.2)) : mGoal p l e R s m args below meth c Q w ct nL n0 s0 pc L (u :: (20 + i, x) :: S) σ := by
  intro H locs cells slots ls hL okL okS hW hS hA
  obtain ⟨q, e1, hq, hlq⟩ := okR_cell ((ok_t okS _ List.mem_cons_self).2.2 (show 3 < 20 + i by omega)) ⟨show 20 ≤ 20 + i by omega, Or.inl (show 20 + i < 4000 by omega)⟩
  have e1 : x = (q : Int) := e1
  subst e1
  have hq9 : q < 900 := by have := hW.1.1.2; omega
  have hu := okS _ List.mem_cons_self
  obtain ⟨ty, h1, h2, h3, h4, h5, h6⟩ := mCl_all hi
  obtain ⟨t1, t2⟩ := hty hu (ty k) (h3 k hk) (fun h => ((h6 k hk).2 h).2)
  show W p l e R s m args below meth c H locs cells slots Q (F0 m pc ls (mrep w u :: mrep w (20 + i, (q : Int)) :: S.map (mrep w)))
  rw [mrep_cell w (by omega) hq9]
  have hfl : k < ((List.range (mNf i)).map fun j => mfv w (mft i j) (σ q j)).length := by rw [List.length_map, List.length_range]; exact hk
  have hset : mcell w (mset σ q k u.2) q = .inr (i, ((List.range (mNf i)).map fun j => mfv w (mft i j) (σ q j)).set k (mrep w u)) := by
    rw [mcell_obj hlq hi]
    congr 2
    apply List.ext_getElem?
    intro j
    by_cases ej : k = j
    · subst ej
      rw [List.getElem?_set_self hfl, List.getElem?_map, List.getElem?_range hk, ← hval hu]
      show some (mfv w (mft i k) (mset σ q k u.2 q k)) = _
      rw [mset_eq]
    · rw [List.getElem?_set_ne ej, List.getElem?_map, List.getElem?_map]
      by_cases hj : j < mNf i
      · rw [List.getElem?_range hj]
        show some (mfv w (mft i j) (mset σ q k u.2 q j)) = some (mfv w (mft i j) (σ q j))
        rw [mset_nj (fun z => ej z.symm)]
      · rw [List.getElem?_eq_none (by rw [List.length_range]; omega)]
        rfl
  have fin : ∀ (H1 : Heap) (locs1 : List Loc), va_P (mdd w) vwCl ((mws w σ).set q (mb w + q, .inr (i, ((List.range (mNf i)).map fun j => mfv w (mft i j) (σ q j)).set k (mrep w u)))) H1 → va_D (mAr w) ((mws w σ).set q (mb w + q, .inr (i, ((List.range (mNf i)).map fun j => mfv w (mft i j) (σ q j)).set k (mrep w u)))) → va_S (mAr w) s.heap H1 locs1 → W p l e R s m args below meth c H1 locs1 cells slots Q (F0 m (pc + 3) ls (S.map (mrep w))) := by
    intro H1 locs1 hP _ hS1
    rw [mws_set hq9 hset] at hP
    exact so_after hq hW.1 hW.2.1 (by rw [hlq]; exact hok hu) (fun h => ⟨fun _ => by rw [hlq, Nat.add_sub_cancel_left]; exact hfx h, by omega⟩) hL okL (ok_t (ok_t okS)) hS1 hA hP kk
  rcases hfin with hf | ⟨hf, hm, ho⟩
  · exact va_put (Ts := mWS) F.1 F.2.1 F.2.2.2.2.1 h2 ty h3 h4 F.2.2.2.1 F.2.2.2.2.2.2.1 hW.2.2 (mws_D w σ) hS q (by rw [mws_get hq, mcell_obj hlq hi]) h1 k hk hl (fun y h => by rw [h5 k hk] at h; exact h) hf (h3 k hk) t1 t2 hfl hd fin
  · exact va_putF (Ts := mWS) F.1 F.2.1 F.2.2.2.2.1 h2 ty h3 h4 F.2.2.2.1 F.2.2.2.2.2.2.1 hW.2.2 (mws_D w σ) hS q (by rw [mws_get hq, mcell_obj hlq hi]) h1 k hk hl (fun y h => by rw [h5 k hk] at h; exact h) hf hm ((h5 k hk).trans ho) (h3 k hk) t1 t2 hfl hd fin
theorem so_60 (F : mF p R s args m c w own cc nL) {t : Nat} {i x : Int} (h1 : 1000 ≤ t) (h2 : t < 2000) (hi : 0 ≤ i ∧ i < mlen σ t) (hd : decode cc pc = .ok (.iaload, 1)) (kk : mGoal p l e R s m args below meth c Q w ct nL n0 s0 (pc + 1) L ((0, σ x.toNat i.toNat) :: S) σ) : mGoal p l e R s m args below meth c Q w ct nL n0 s0 pc L ((0, i) :: (t, x) :: S) σ := by
  intro H locs cells slots ls hL okL okS hW hS hA
  obtain ⟨q, e1, hq, hlq⟩ := okR_cell ((ok_t okS _ List.mem_cons_self).2.2 (show 3 < t by omega)) ⟨by omega, Or.inl (by omega)⟩
  have e1 : x = (q : Int) := e1
  subst e1
  have hq9 : q < 900 := by have := hW.1.1.2; omega
  have hi32 := ok_i okS
  rw [mlen_i (b := 1000) (by omega) h1 (by omega)] at hi
  show W p l e R s m args below meth c H locs cells slots Q (F0 m pc ls (.int (Int32.ofInt i) :: mrep w (t, (q : Int)) :: S.map (mrep w)))
  rw [mrep_cell w (by omega) hq9]
  refine va_iald F.1 F.2.1 F.2.2.2.2.2.2.1 hW.2.2 q 0 (by rw [mws_get hq, mcell_i hlq h1 h2]) rfl (in_row hi32 hi) hd ?_
  rw [toNat_i hi32]
  have hv := (hW.1.2.1 q hq i.toNat).2.1
  rw [hlq] at hv
  have kk := kk H locs cells slots ls hL okL (List.forall_mem_cons.mpr ⟨okV_i (hv h1 (by omega)), ok_t (ok_t okS)⟩) hW hS hA
  exact kk
theorem so_64 (F : mF p R s args m c w own cc nL) {t : Nat} {i x : Int} (h1 : 2000 ≤ t) (h2 : t < 3000) (hi : 0 ≤ i ∧ i < mlen σ t) (hd : decode cc pc = .ok (.baload, 1)) (kk : mGoal p l e R s m args below meth c Q w ct nL n0 s0 (pc + 1) L ((0, σ x.toNat i.toNat) :: S) σ) : mGoal p l e R s m args below meth c Q w ct nL n0 s0 pc L ((0, i) :: (t, x) :: S) σ := by
  intro H locs cells slots ls hL okL okS hW hS hA
  obtain ⟨q, e1, hq, hlq⟩ := okR_cell ((ok_t okS _ List.mem_cons_self).2.2 (show 3 < t by omega)) ⟨by omega, Or.inl (by omega)⟩
  have e1 : x = (q : Int) := e1
  subst e1
  have hq9 : q < 900 := by have := hW.1.1.2; omega
  have hi32 := ok_i okS
  rw [mlen_i (b := 2000) (by omega) h1 (by omega)] at hi
  show W p l e R s m args below meth c H locs cells slots Q (F0 m pc ls (.int (Int32.ofInt i) :: mrep w (t, (q : Int)) :: S.map (mrep w)))
  rw [mrep_cell w (by omega) hq9]
  refine va_zald F.1 F.2.1 F.2.2.2.2.2.2.1 hW.2.2 q 1 (by rw [mws_get hq, mcell_b hlq h1 h2]) rfl (in_row hi32 hi) hd ?_
  rw [toNat_i hi32]
  have hv := (hW.1.2.1 q hq i.toNat).2.1
  rw [hlq] at hv
  have kk := kk H locs cells slots ls hL okL (List.forall_mem_cons.mpr ⟨okV_i (hv (by omega) h2), ok_t (ok_t okS)⟩) hW hS hA
  exact kk
theorem so_62 (F : mF p R s args m c w own cc nL) {t : Nat} {i x : Int} (h1 : 3000 ≤ t) (h2 : t < 4000) (hi : 0 ≤ i ∧ i < mlen σ t) (hd : decode cc pc = .ok (.laload, 1)) (kk : mGoal p l e R s m args below meth c Q w ct nL n0 s0 (pc + 1) L ((1, σ x.toNat i.toNat) :: S) σ) : mGoal p l e R s m args below meth c Q w ct nL n0 s0 pc L ((0, i) :: (t, x) :: S) σ := by
  intro H locs cells slots ls hL okL okS hW hS hA
  obtain ⟨q, e1, hq, hlq⟩ := okR_cell ((ok_t okS _ List.mem_cons_self).2.2 (show 3 < t by omega)) ⟨by omega, Or.inl (by omega)⟩
  have e1 : x = (q : Int) := e1
  subst e1
  have hq9 : q < 900 := by have := hW.1.1.2; omega
  have hi32 := ok_i okS
  rw [mlen_i (b := 3000) (by omega) h1 (by omega)] at hi
  show W p l e R s m args below meth c H locs cells slots Q (F0 m pc ls (.int (Int32.ofInt i) :: mrep w (t, (q : Int)) :: S.map (mrep w)))
  rw [mrep_cell w (by omega) hq9]
  refine va_lald F.1 F.2.1 F.2.2.2.2.2.2.1 hW.2.2 q 2 (by rw [mws_get hq, mcell_l hlq h1 h2]) rfl (in_row hi32 hi) hd ?_
  rw [toNat_i hi32]
  have hv := (hW.1.2.1 q hq i.toNat).2.2.1
  rw [hlq] at hv
  have kk := kk H locs cells slots ls hL okL (List.forall_mem_cons.mpr ⟨okV_l (hv h1 (by omega)), ok_t (ok_t okS)⟩) hW hS hA
  exact kk
theorem so_61 (F : mF p R s args m c w own cc nL) {t : Nat} {i x v : Int} (h1 : 1000 ≤ t) (h2 : t < 2000) (hi : 0 ≤ i ∧ i < mlen σ t) (hd : decode cc pc = .ok (.iastore, 1)) (kk : mGoal p l e R s m args below meth c Q w ct nL n0 s0 (pc + 1) L S (mset σ x.toNat i.toNat v)) : mGoal p l e R s m args below meth c Q w ct nL n0 s0 pc L ((0, v) :: (0, i) :: (t, x) :: S) σ := by
  intro H locs cells slots ls hL okL okS hW hS hA
  obtain ⟨q, e1, hq, hlq⟩ := okR_cell ((ok_t (ok_t okS) _ List.mem_cons_self).2.2 (show 3 < t by omega)) ⟨by omega, Or.inl (by omega)⟩
  have e1 : x = (q : Int) := e1
  subst e1
  have hq9 : q < 900 := by have := hW.1.1.2; omega
  have hi32 := ok_i (ok_t okS)
  have hv := ok_i okS
  rw [mlen_i (b := 1000) (by omega) h1 (by omega)] at hi
  show W p l e R s m args below meth c H locs cells slots Q (F0 m pc ls (.int (Int32.ofInt v) :: .int (Int32.ofInt i) :: mrep w (t, (q : Int)) :: S.map (mrep w)))
  rw [mrep_cell w (by omega) hq9]
  refine va_iast F.1 F.2.1 F.2.2.2.2.2.2.1 hW.2.2 (mws_D w σ) hS q 0 (by rw [mws_get hq, mcell_i hlq h1 h2]) rfl (in_row hi32 hi) hd fun H1 locs1 hP _ hS1 => ?_
  rw [toNat_i hi32] at hP
  have hset : mcell w (mset σ q i.toNat v) q = .inl (mty w 0, t - 1000, .inl (upd (fun j => Int32.ofInt (σ q j)) i.toNat (Int32.ofInt v))) := by
    rw [mcell_i hlq h1 h2]
    congr 4
    funext j
    show _ = (if j = i.toNat then _ else _)
    by_cases ej : j = i.toNat
    · rw [if_pos ej, ej, mset_eq]
    · rw [if_neg ej, mset_nj ej]
  rw [mws_set hq9 hset] at hP
  refine so_after hq hW.1 hW.2.1 ?_ (fun _ => ⟨fun h => by omega, by omega⟩) hL okL (ok_t (ok_t (ok_t okS))) hS1 hA hP kk
  rw [hlq]
  exact ⟨fun h => by omega, fun _ _ => hv, fun h => by omega, fun h => by omega⟩
theorem nar_b {v : Int} (h : 0 ≤ v ∧ v < 2) : vp_nar .boolean (Int32.ofInt v) = Int32.ofInt v := by
  rcases (by omega : v = 0 ∨ v = 1) with rfl | rfl <;> rfl
theorem so_65 (F : mF p R s args m c w own cc nL) {t : Nat} {i x v : Int} (h1 : 2000 ≤ t) (h2 : t < 3000) (hi : 0 ≤ i ∧ i < mlen σ t) (hb : 0 ≤ v ∧ v < 2) (hd : decode cc pc = .ok (.bastore, 1)) (kk : mGoal p l e R s m args below meth c Q w ct nL n0 s0 (pc + 1) L S (mset σ x.toNat i.toNat v)) : mGoal p l e R s m args below meth c Q w ct nL n0 s0 pc L ((0, v) :: (0, i) :: (t, x) :: S) σ := by
  intro H locs cells slots ls hL okL okS hW hS hA
  obtain ⟨q, e1, hq, hlq⟩ := okR_cell ((ok_t (ok_t okS) _ List.mem_cons_self).2.2 (show 3 < t by omega)) ⟨by omega, Or.inl (by omega)⟩
  have e1 : x = (q : Int) := e1
  subst e1
  have hq9 : q < 900 := by have := hW.1.1.2; omega
  have hi32 := ok_i (ok_t okS)
  have hv := ok_i okS
  rw [mlen_i (b := 2000) (by omega) h1 (by omega)] at hi
  show W p l e R s m args below meth c H locs cells slots Q (F0 m pc ls (.int (Int32.ofInt v) :: .int (Int32.ofInt i) :: mrep w (t, (q : Int)) :: S.map (mrep w)))
  rw [mrep_cell w (by omega) hq9]
  refine va_zast F.1 F.2.1 F.2.2.2.2.2.2.1 hW.2.2 (mws_D w σ) hS q 1 (by rw [mws_get hq, mcell_b hlq h1 h2]) rfl (in_row hi32 hi) hd fun H1 locs1 hP _ hS1 => ?_
  rw [toNat_i hi32, nar_b hb] at hP
  have hset : mcell w (mset σ q i.toNat v) q = .inl (mty w 1, t - 2000, .inl (upd (fun j => Int32.ofInt (σ q j)) i.toNat (Int32.ofInt v))) := by
    rw [mcell_b hlq h1 h2]
    congr 4
    funext j
    show _ = (if j = i.toNat then _ else _)
    by_cases ej : j = i.toNat
    · rw [if_pos ej, ej, mset_eq]
    · rw [if_neg ej, mset_nj ej]
  rw [mws_set hq9 hset] at hP
  refine so_after hq hW.1 hW.2.1 ?_ (fun _ => ⟨fun h => by omega, by omega⟩) hL okL (ok_t (ok_t (ok_t okS))) hS1 hA hP kk
  rw [hlq]
  exact ⟨fun h => by omega, fun _ _ => hv, fun h => by omega, fun h => by omega⟩
theorem so_63 (F : mF p R s args m c w own cc nL) {t : Nat} {i x v : Int} (h1 : 3000 ≤ t) (h2 : t < 4000) (hi : 0 ≤ i ∧ i < mlen σ t) (hd : decode cc pc = .ok (.lastore, 1)) (kk : mGoal p l e R s m args below meth c Q w ct nL n0 s0 (pc + 1) L S (mset σ x.toNat i.toNat v)) : mGoal p l e R s m args below meth c Q w ct nL n0 s0 pc L ((1, v) :: (0, i) :: (t, x) :: S) σ := by
  intro H locs cells slots ls hL okL okS hW hS hA
  obtain ⟨q, e1, hq, hlq⟩ := okR_cell ((ok_t (ok_t okS) _ List.mem_cons_self).2.2 (show 3 < t by omega)) ⟨by omega, Or.inl (by omega)⟩
  have e1 : x = (q : Int) := e1
  subst e1
  have hq9 : q < 900 := by have := hW.1.1.2; omega
  have hi32 := ok_i (ok_t okS)
  have hv := ok_l okS
  rw [mlen_i (b := 3000) (by omega) h1 (by omega)] at hi
  show W p l e R s m args below meth c H locs cells slots Q (F0 m pc ls (.long (Int64.ofInt v) :: .int (Int32.ofInt i) :: mrep w (t, (q : Int)) :: S.map (mrep w)))
  rw [mrep_cell w (by omega) hq9]
  refine va_last F.1 F.2.1 F.2.2.2.2.2.2.1 hW.2.2 (mws_D w σ) hS q 2 (by rw [mws_get hq, mcell_l hlq h1 h2]) rfl (in_row hi32 hi) hd fun H1 locs1 hP _ hS1 => ?_
  rw [toNat_i hi32] at hP
  have hset : mcell w (mset σ q i.toNat v) q = .inl (mty w 2, t - 3000, .inr (.inl (vp_updL (fun j => Int64.ofInt (σ q j)) i.toNat (Int64.ofInt v)))) := by
    rw [mcell_l hlq h1 h2]
    congr 5
    funext j
    show _ = (if j = i.toNat then _ else _)
    by_cases ej : j = i.toNat
    · rw [if_pos ej, ej, mset_eq]
    · rw [if_neg ej, mset_nj ej]
  rw [mws_set hq9 hset] at hP
  refine so_after hq hW.1 hW.2.1 ?_ (fun _ => ⟨fun h => by omega, by omega⟩) hL okL (ok_t (ok_t (ok_t okS))) hS1 hA hP kk
  rw [hlq]
  exact ⟨fun h => by omega, fun h h3 => by omega, fun _ _ => hv, fun h => by omega⟩
/-- the rows that nobody writes -/
theorem so_ext (F : mF p R s args m c w own cc nL) {k t : Nat} {i : Int} (hk : k < 4) (ht : 3 < t) (hi : 0 ≤ i ∧ i < (mel w k : Int)) (hd : decode cc pc = .ok (.iaload, 1)) (kk : mGoal p l e R s m args below meth c Q w ct nL n0 s0 (pc + 1) L ((0, σ (900 + k) i.toNat) :: S) σ) : mGoal p l e R s m args below meth c Q w ct nL n0 s0 pc L ((0, i) :: (t, ((900 + k : Nat) : Int)) :: S) σ := by
  intro H locs cells slots ls hL okL okS hW hS hA
  obtain ⟨hX, hb, hin⟩ := F.2.2.2.2.2.2.2.1.1 k hk
  have hms := F.2.2.2.2.2.2.2.2.1
  have hi32 := ok_i okS
  show W p l e R s m args below meth c H locs cells slots Q (F0 m pc ls (.int (Int32.ofInt i) :: mrep w (t, ((900 + k : Nat) : Int)) :: S.map (mrep w)))
  have e2 : mrep w (t, ((900 + k : Nat) : Int)) = .ref (mea w k) := by
    rw [mrep_r w ht, Int.toNat_natCast]
    unfold madr
    rw [if_neg (by omega), Nat.add_sub_cancel_left]
  rw [e2]
  refine va_sld F.1 F.2.1 hX (by omega) (show ¬ mb w ≤ mea w k by omega) hS (in_row hi32 hi) hd ?_
  rw [toNat_i hi32]
  have e3 := hW.1.2.2.1 k hk i.toNat
  have kk := kk H locs cells slots ls hL okL (List.forall_mem_cons.mpr ⟨okV_i (by rw [e3]; exact hin _), ok_t (ok_t okS)⟩) hW hS hA
  rw [e3] at kk
  exact kk
theorem so_58 (F : mF p R s args m c w own cc nL) {t k : Nat} (hk : (t = 7008 ∧ k = 0) ∨ (t = 7108 ∧ k = 1) ∨ (t = 7232 ∧ k = 2)) (hrow : ∀ (H : Heap) (locs : List Loc) (cells slots : Nat) (ls : Array Slot) (rest : List Value), va_S (mAr w) s.heap H locs → W p l e R s m args below meth c H locs cells slots Q (F0 m (pc + 3) ls (.ref (mea w k) :: rest)) → W p l e R s m args below meth c H locs cells slots Q (F0 m pc ls rest))
    (kk : mGoal p l e R s m args below meth c Q w ct nL n0 s0 (pc + 3) L ((t, ((900 + k : Nat) : Int)) :: S) σ) : mGoal p l e R s m args below meth c Q w ct nL n0 s0 pc L S σ := by
  intro H locs cells slots ls hL okL okS hW hS hA
  refine hrow H locs cells slots ls _ hS ?_
  have kk := kk H locs cells slots ls hL okL (List.forall_mem_cons.mpr ⟨okV_r (by omega) ⟨900 + k, rfl, by omega⟩, okS⟩) hW hS hA
  have e2 : mrep w (t, ((900 + k : Nat) : Int)) = .ref (mea w k) := by
    rw [mrep_r w (by omega), Int.toNat_natCast]
    unfold madr
    rw [if_neg (by omega), Nat.add_sub_cancel_left]
  rw [← e2]
  exact kk
theorem so_66 (F : mF p R s args m c w own cc nL) (hct : ct = false) {i x : Int} (hi : 0 ≤ i ∧ i < 6) (hd : decode cc pc = .ok (.aaload, 1)) (kk : mGoal p l e R s m args below meth c Q w ct nL n0 s0 (pc + 1) L ((23, x + 1 + 2 * i) :: S) σ) : mGoal p l e R s m args below meth c Q w ct nL n0 s0 pc L ((0, i) :: (9006, x) :: S) σ := by
  intro H locs cells slots ls hL okL okS hW hS hA
  obtain ⟨q, e1, hq, hlq⟩ := okR_cell ((ok_t okS _ List.mem_cons_self).2.2 (show 3 < 9006 by omega)) ⟨show 20 ≤ 9006 by omega, Or.inr (show 9000 ≤ 9006 by omega)⟩
  have e1 : x = (q : Int) := e1
  subst e1
  have hq9 : q < 900 := by have := hW.1.1.2; omega
  have hi32 := ok_i okS
  have hlq : mlay q = 9006 := hlq
  show W p l e R s m args below meth c H locs cells slots Q (F0 m pc ls (.int (Int32.ofInt i) :: mrep w (9006, (q : Int)) :: S.map (mrep w)))
  rw [mrep_cell w (by omega) hq9]
  refine va_aldq F.1 F.2.1 F.2.2.2.2.2.2.1 hW.2.2 q 3 (by rw [mws_get hq, mcell_s hlq]) rfl (in_row hi32 hi) hd ?_
  rw [toNat_i hi32]
  have hx := (hW.2.1 hct).2.1 q hq hlq i.toNat (by omega)
  have hv := (hW.1.2.1 q hq i.toNat).2.2.2 (by omega)
  have e3 : σ q i.toNat = (q : Int) + 1 + 2 * i := by omega
  rw [e3] at hv ⊢
  have hv : okR (mz σ 0) 23 ((q : Int) + 1 + 2 * i) := by
    rcases hv with h | h
    · omega
    · exact h
  rw [if_neg (by omega)]
  have kk := kk H locs cells slots ls hL okL (List.forall_mem_cons.mpr ⟨okV_r (by omega) hv, ok_t (ok_t okS)⟩) hW hS hA
  exact kk
theorem so_68 (F : mF p R s args m c w own cc nL) {x : Int} (hd : decode cc pc = .ok (.arraylength, 1)) (kk : mGoal p l e R s m args below meth c Q w ct nL n0 s0 (pc + 1) L ((0, σ 904 0) :: S) σ) : mGoal p l e R s m args below meth c Q w ct nL n0 s0 pc L ((4, x) :: S) σ := by
  intro H locs cells slots ls hL okL okS hW hS hA
  obtain ⟨q, e1, hq⟩ := (okS _ List.mem_cons_self).2.2 (show 3 < 4 by omega)
  have e1 : x = (q : Int) := e1
  have hq : q = 903 := by
    rcases hq with ⟨-, -, h, -⟩ | ⟨-, h⟩ | ⟨h, -⟩ | ⟨h, -⟩ | ⟨h, -⟩
    · have h : 20 ≤ 4 := h
      omega
    · exact h
    · have h : 4 = 7008 := h
      omega
    · have h : 4 = 7108 := h
      omega
    · have h : 4 = 7232 := h
      omega
  subst hq
  subst e1
  obtain ⟨hX, hb, hin⟩ := F.2.2.2.2.2.2.2.1.1 3 (by omega)
  have hms := F.2.2.2.2.2.2.2.2.1
  show W p l e R s m args below meth c H locs cells slots Q (F0 m pc ls (.ref (mea w 3) :: S.map (mrep w)))
  refine va_slen F.1 F.2.1 hX (by omega) (show ¬ mb w ≤ mea w 3 by omega) hS hd ?_
  have h4 := hW.1.2.2.2
  have hl := F.2.2.2.2.2.2.2.1.2.1.2.2.2
  have kk := kk H locs cells slots ls hL okL (List.forall_mem_cons.mpr ⟨okV_i (by rw [h4]; unfold in32; omega), ok_t okS⟩) hW hS hA
  rw [h4] at kk
  exact kk
end
end
section
/-! SOUNDNESS 5: new cells; copies -/
theorem mnew_z {w : mW} {σ : mM} {t k : Nat} (h : okM w σ) : mz (mnew σ t k) 0 = mz σ 0 + 1 := by
  have h1 := h.1.2
  have h2 := mz_pos h
  have e : mnew σ t k 905 0 = σ 905 0 + 1 := by
    unfold mnew
    rw [if_neg (by omega), if_pos rfl, if_pos rfl]
  unfold mz at *
  rw [e]
  omega
theorem mnew_s {w : mW} {σ : mM} {t k : Nat} (h : okM w σ) : mnew σ t k 905 0 = σ 905 0 + 1 ∧ mnew σ t k 905 1 = σ 905 1 + (k : Int) := by
  have h1 := h.1.2
  unfold mnew
  exact ⟨by rw [if_neg (by omega), if_pos rfl, if_pos rfl], by rw [if_neg (by omega), if_pos rfl, if_neg (by decide), if_pos rfl]⟩
theorem mnew_o {σ : mM} {t k a : Nat} (h : a ≠ mz σ 0) (h9 : a ≠ 905) (j : Nat) : mnew σ t k a j = σ a j := by
  unfold mnew
  rw [if_neg h, if_neg h9]
theorem mnew_n {σ : mM} {t k : Nat} (j : Nat) : mnew σ t k (mz σ 0) j = mdef t j := by
  unfold mnew
  rw [if_pos rfl]
theorem mws_push {w : mW} {σ : mM} {t k : Nat} (h : okM w σ) : mws w (mnew σ t k) = mws w σ ++ [(mb w + mz σ 0, mcell w (mnew σ t k) (mz σ 0))] := by
  have h1 := h.1.2
  unfold mws
  rw [mnew_z h, List.range_succ, List.map_append]
  congr 1
  apply List.map_congr_left
  intro a ha
  have ha := List.mem_range.mp ha
  rw [mcell_congr w (σ := mnew σ t k) (σ' := σ) (fun j => mnew_o (by omega) (by omega) j)]
theorem okF.mono {n n' t k : Nat} {x : Int} (h : okF n t k x) (hn : n ≤ n') : okF n' t k x := by
  obtain ⟨h1, h2, h3, h4⟩ := h
  refine ⟨fun q => ⟨(h1 q).1, fun z => ?_⟩, h2, h3, fun q => ?_⟩
  · rcases (h1 q).2 z with y | y
    · exact Or.inl y
    · exact Or.inr (y.mono hn)
  · rcases h4 q with y | y
    · exact Or.inl y
    · exact Or.inr (y.mono hn)
theorem mlay_lt {k : Nat} (h : mlay k ≠ 0) : k < 95 := by
  rcases Nat.lt_or_ge k 95 with q | q
  · exact q
  · exfalso
    apply h
    unfold mlay
    rw [List.getD_eq_getElem?_getD, List.getElem?_eq_none (by exact q)]
    rfl
theorem okM_new {w : mW} {σ : mM} {t k : Nat} (h : okM w σ) (hl : mlay (mz σ 0) = t) (ht : 20 ≤ t) : okM w (mnew σ t k) := by
  have h95 : mz σ 0 < 95 := mlay_lt (by omega)
  have hz := mnew_z (t := t) (k := k) h
  have hs := (mnew_s (t := t) (k := k) h).1
  refine ⟨⟨by rw [hs]; have := h.1.1; omega, by rw [hz]; omega⟩, fun a ha j => ?_, fun i hi j => by rw [mnew_o (by omega) (by omega)]; exact h.2.2.1 i hi j, by rw [mnew_o (by omega) (by omega)]; exact h.2.2.2⟩
  rw [hz] at ha ⊢
  by_cases e : a = mz σ 0
  · subst e
    rw [hl, mnew_n]
    have nb : ∀ {b : Bool}, (∀ {x : Int}, b = true → x = x) → True := fun _ => trivial
    unfold mdef
    refine ⟨fun q => ?_, fun q1 q2 => ?_, fun q1 q2 => ?_, fun q => ?_⟩
    · have e1 : Nat.ble 9000 t = false := by
        cases hb : Nat.ble 9000 t
        · rfl
        · have := Nat.le_of_ble_eq_true hb; omega
      have e2 : Nat.ble 1000 t = false := by
        cases hb : Nat.ble 1000 t
        · rfl
        · have := Nat.le_of_ble_eq_true hb; omega
      rw [e1, e2]
      show (_ → in32 (bif Nat.beq (mft (t - 20) j) 0 then 0 else -1)) ∧ (_ → (bif Nat.beq (mft (t - 20) j) 0 then (0 : Int) else -1) = -1 ∨ okR _ _ (bif Nat.beq (mft (t - 20) j) 0 then 0 else -1))
      refine ⟨fun z => ?_, fun z => ?_⟩
      · rw [z]; exact in32_0
      · left
        have : Nat.beq (mft (t - 20) j) 0 = false := by
          cases hb : Nat.beq (mft (t - 20) j) 0
          · rfl
          · exact absurd (Nat.eq_of_beq_eq_true hb) z
        rw [this]; rfl
    · have e1 : Nat.ble 9000 t = false := by
        cases hb : Nat.ble 9000 t
        · rfl
        · have := Nat.le_of_ble_eq_true hb; omega
      rw [e1, Nat.ble_eq.mpr q1]; exact in32_0
    · have e1 : Nat.ble 9000 t = false := by
        cases hb : Nat.ble 9000 t
        · rfl
        · have := Nat.le_of_ble_eq_true hb; omega
      rw [e1, Nat.ble_eq.mpr (by omega : 1000 ≤ t)]
      show in64 0
      unfold in64
      omega
    · rw [Nat.ble_eq.mpr q]
      exact Or.inl rfl
  · rw [mnew_o e (by omega)]
    exact (h.2.1 a (by omega) j).mono (by omega)
section
variable {p : Program} {l : Launch} {e : Env} {R : Room} {s : State} {m : MethodId} {args : Array Value} {below : List Frame} {meth : Method} {c : Code} {Q : State → Prop} {w : mW} {ct : Bool} {nL : Nat} {n0 s0 : Int} {own : String} {cc : ByteArray} {pc : Nat} {L S : List mV} {σ : mM} {a0 : Int × mM} {g : mG}

theorem W_size {H : Heap} {locs : List Loc} {cells slots : Nat} {gf : JFrame} (h : H.size ≤ s.heap.size + cells → W p l e R s m args below meth c H locs cells slots Q gf) : W p l e R s m args below meth c H locs cells slots Q gf :=
  fun T hT X => h (by rw [← hT]; exact X.heapSize) T hT X
theorem m_size {H : Heap} {locs : List Loc} {cells slots : Nat} (hct : ct = true) (hsz : (s.heap.size : Int) = mb w + n0) (hM : okM w σ) (hP : va_P (mdd w) vwCl (mws w σ) H) (hS : va_S (mAr w) s.heap H locs) (hb : mb w ≤ s.heap.size) (hA : mAcc ct R n0 s0 σ cells slots) (hz : H.size ≤ s.heap.size + cells) : H.size = mb w + mz σ 0 := by
  have h1 := (hA.2.2.1 hct).1
  have h2 := mz_pos hM
  have h3 := hS.1
  have h4 : mb w + mz σ 0 ≤ H.size := by
    by_cases e : mz σ 0 = 0
    · omega
    · have := (hP (mz σ 0 - 1) _ (mws_get (by omega))).lt
      have this : mb w + (mz σ 0 - 1) < H.size := this
      omega
  omega
theorem so_push (F : mF p R s args m c w own cc nL) (hct : ct = true) (hsz : (s.heap.size : Int) = mb w + n0) {t k n : Nat} {S0 : List mV} (hlay : mlay (mz σ 0) = t) (ht : 20 ≤ t ∧ (t < 4000 ∨ 9000 ≤ t)) (hmx : σ 905 0 + 1 ≤ n0 + (R.cells : Int) ∧ σ 905 1 + (k : Int) ≤ s0 + (R.slots : Int)) (hS0 : ∀ v ∈ S, v ∈ S0)
    (hrow : ∀ (H : Heap) (locs : List Loc) (cells slots : Nat) (ls : Array Slot), (∀ v ∈ S0, okV (mz σ 0) v) → H.size = mb w + mz σ 0 → cells + 1 ≤ R.cells → slots + k ≤ R.slots → (∀ H' : Heap, va_at (mdd w) vwCl (mb w + mz σ 0, mcell w (mnew σ t k) (mz σ 0)) H' → H'.size = H.size + 1 → (∀ q, q < H.size → H'[q]? = H[q]?) → W p l e R s m args below meth c H' locs (cells + 1) (slots + k) Q (F0 m (pc + n) ls (.ref (mb w + mz σ 0) :: S.map (mrep w)))) → W p l e R s m args below meth c H locs cells slots Q (F0 m pc ls (S0.map (mrep w))))
    (kk : mGoal p l e R s m args below meth c Q w ct nL n0 s0 (pc + n) L ((t, σ 905 0) :: S) (mnew σ t k)) : mGoal p l e R s m args below meth c Q w ct nL n0 s0 pc L S0 σ := by
  intro H locs cells slots ls hL okL okS hW hS hA
  refine W_size fun hz => ?_
  have hz := m_size hct hsz hW.1 hW.2.2 hS F.2.2.2.2.2.2.2.2.1 hA hz
  have hA2 := hA.2.2.1 hct
  refine hrow H locs cells slots ls okS hz (by omega) (by omega) fun H' h1 h2 h3 => ?_
  have hn := mnew_z (t := t) (k := k) hW.1
  have hs := mnew_s (t := t) (k := k) hW.1
  have h95 : mz σ 0 < 95 := mlay_lt (by omega)
  have e1 : mrep w (t, σ 905 0) = .ref (mb w + mz σ 0) := by
    rw [← mz_pos hW.1]
    exact mrep_cell w (by omega) (by omega)
  rw [← e1]
  refine kk H' locs (cells + 1) (slots + k) ls hL (fun v hv => (okL v hv).mono (by omega)) (List.forall_mem_cons.mpr ⟨okV_r (by omega) ⟨mz σ 0, by rw [← mz_pos hW.1], Or.inl ⟨by omega, hlay, ht⟩⟩, fun v hv => (okS v (hS0 v hv)).mono (by omega)⟩) ⟨okM_new hW.1 hlay ht.1, (fun q => by rw [hct] at q; cases q), ?_⟩ ⟨by have := hS.1; omega, fun q hq hA => by rw [h3 q (by have := hS.1; omega)]; exact hS.2.1 q hq hA, hS.2.2⟩ ⟨by omega, by omega, fun _ => ⟨by rw [hs.1]; omega, by rw [hs.2]; omega⟩, (fun q => by rw [hct] at q; cases q)⟩
  rw [mws_push hW.1]
  refine (hW.2.2.kept fun i q hq => h3 _ (hW.2.2 i q hq).lt).app fun i q hq => ?_
  have hi : i < 1 := (List.getElem?_eq_some_iff.mp hq).1
  rw [show i = 0 by omega] at hq
  cases hq
  exact h1
theorem so_newi (F : mF p R s args m c w own cc nL) (hct : ct = true) (hsz : (s.heap.size : Int) = mb w + n0) {k : Int} (hk : 0 ≤ k ∧ k < 1000) (hlay : mlay (mz σ 0) = 1000 + k.toNat) (hmx : σ 905 0 + 1 ≤ n0 + (R.cells : Int) ∧ σ 905 1 + k ≤ s0 + (R.slots : Int)) (hd : decode cc pc = .ok (.newarray .int, 2))
    (kk : mGoal p l e R s m args below meth c Q w ct nL n0 s0 (pc + 2) L ((1000 + k.toNat, σ 905 0) :: S) (mnew σ (1000 + k.toNat) k.toNat)) : mGoal p l e R s m args below meth c Q w ct nL n0 s0 pc L ((0, k) :: S) σ := by
  have hi : in32 k := by unfold in32; omega
  refine so_push (S0 := (0, k) :: S) F hct hsz hlay (by omega) ⟨hmx.1, by omega⟩ (fun v hv => List.mem_cons_of_mem _ hv) (fun H locs cells slots ls okS hz hc hs h => ?_) kk
  refine va_newaK (atype := .int) (n := Int32.ofInt k) (N := k.toNat) F.1 F.2.1 (F.2.2.2.2.1 _ mac_i) rfl hd rfl (by rw [Int32.lt_iff_toInt_lt, i32_t hi]; exact Int.not_lt.mpr hk.1) (toNat_i hi) ?_ hc hs hz fun H' cA q1 q2 q3 q4 q5 => ?_
  · have : componentBytes (newarray.typeOf .int) ≤ 8 := by decide
    have h2 : k.toNat * componentBytes (newarray.typeOf .int) ≤ k.toNat * 8 := Nat.mul_le_mul_left _ this
    omega
  · have hty : s.vm.findClass ("[" ++ (newarray.typeOf .int).toString) = some (mty w 0) := (F.2.2.2.2.2.2.1.2 0 _ rfl).2
    have ec : cA = mty w 0 := Option.some.inj (q5.symm.trans hty)
    subst ec
    refine h H' ?_ (by rw [q2, hz]) (fun q hq => q3 q (by omega))
    rw [mcell_i hlay (by omega) (by omega)]
    show H'[mb w + mz σ 0]? = some (vp_cell (mty w 0) (1000 + k.toNat - 1000, .inl fun j => Int32.ofInt (mnew σ (1000 + k.toNat) k.toNat (mz σ 0) j)))
    rw [q1, Nat.add_sub_cancel_left]
    refine congrArg some ?_
    rw [vp_cell_i]
    refine congrArg (arrV _ _) ?_
    funext j
    show defaultValue _ = .int (Int32.ofInt (mnew σ (1000 + k.toNat) k.toNat (mz σ 0) j))
    rw [mnew_n]
    have e1 : Nat.ble 9000 (1000 + k.toNat) = false := by
      cases hb : Nat.ble 9000 (1000 + k.toNat)
      · rfl
      · have := Nat.le_of_ble_eq_true hb; omega
    unfold mdef
    rw [e1, Nat.ble_eq.mpr (by omega : 1000 ≤ 1000 + k.toNat)]
    rfl
theorem so_newb (F : mF p R s args m c w own cc nL) (hct : ct = true) (hsz : (s.heap.size : Int) = mb w + n0) {k : Int} (hk : 0 ≤ k ∧ k < 1000) (hlay : mlay (mz σ 0) = 2000 + k.toNat) (hmx : σ 905 0 + 1 ≤ n0 + (R.cells : Int) ∧ σ 905 1 + k ≤ s0 + (R.slots : Int)) (hd : decode cc pc = .ok (.newarray .boolean, 2))
    (kk : mGoal p l e R s m args below meth c Q w ct nL n0 s0 (pc + 2) L ((2000 + k.toNat, σ 905 0) :: S) (mnew σ (2000 + k.toNat) k.toNat)) : mGoal p l e R s m args below meth c Q w ct nL n0 s0 pc L ((0, k) :: S) σ := by
  have hi : in32 k := by unfold in32; omega
  refine so_push (S0 := (0, k) :: S) F hct hsz hlay (by omega) ⟨hmx.1, by omega⟩ (fun v hv => List.mem_cons_of_mem _ hv) (fun H locs cells slots ls okS hz hc hs h => ?_) kk
  refine va_newaK (atype := .boolean) (n := Int32.ofInt k) (N := k.toNat) F.1 F.2.1 (F.2.2.2.2.1 _ mac_b) rfl hd rfl (by rw [Int32.lt_iff_toInt_lt, i32_t hi]; exact Int.not_lt.mpr hk.1) (toNat_i hi) ?_ hc hs hz fun H' cA q1 q2 q3 q4 q5 => ?_
  · have : componentBytes (newarray.typeOf .boolean) ≤ 8 := by decide
    have h2 : k.toNat * componentBytes (newarray.typeOf .boolean) ≤ k.toNat * 8 := Nat.mul_le_mul_left _ this
    omega
  · have hty : s.vm.findClass ("[" ++ (newarray.typeOf .boolean).toString) = some (mty w 1) := (F.2.2.2.2.2.2.1.2 1 _ rfl).2
    have ec : cA = mty w 1 := Option.some.inj (q5.symm.trans hty)
    subst ec
    refine h H' ?_ (by rw [q2, hz]) (fun q hq => q3 q (by omega))
    rw [mcell_b hlay (by omega) (by omega)]
    show H'[mb w + mz σ 0]? = some (vp_cell (mty w 1) (2000 + k.toNat - 2000, .inl fun j => Int32.ofInt (mnew σ (2000 + k.toNat) k.toNat (mz σ 0) j)))
    rw [q1, Nat.add_sub_cancel_left]
    refine congrArg some ?_
    rw [vp_cell_i]
    refine congrArg (arrV _ _) ?_
    funext j
    show defaultValue _ = .int (Int32.ofInt (mnew σ (2000 + k.toNat) k.toNat (mz σ 0) j))
    rw [mnew_n]
    have e1 : Nat.ble 9000 (2000 + k.toNat) = false := by
      cases hb : Nat.ble 9000 (2000 + k.toNat)
      · rfl
      · have := Nat.le_of_ble_eq_true hb; omega
    unfold mdef
    rw [e1, Nat.ble_eq.mpr (by omega : 1000 ≤ 2000 + k.toNat)]
    rfl
theorem so_newj (F : mF p R s args m c w own cc nL) (hct : ct = true) (hsz : (s.heap.size : Int) = mb w + n0) {k : Int} (hk : 0 ≤ k ∧ k < 1000) (hlay : mlay (mz σ 0) = 3000 + k.toNat) (hmx : σ 905 0 + 1 ≤ n0 + (R.cells : Int) ∧ σ 905 1 + k ≤ s0 + (R.slots : Int)) (hd : decode cc pc = .ok (.newarray .long, 2))
    (kk : mGoal p l e R s m args below meth c Q w ct nL n0 s0 (pc + 2) L ((3000 + k.toNat, σ 905 0) :: S) (mnew σ (3000 + k.toNat) k.toNat)) : mGoal p l e R s m args below meth c Q w ct nL n0 s0 pc L ((0, k) :: S) σ := by
  have hi : in32 k := by unfold in32; omega
  refine so_push (S0 := (0, k) :: S) F hct hsz hlay (by omega) ⟨hmx.1, by omega⟩ (fun v hv => List.mem_cons_of_mem _ hv) (fun H locs cells slots ls okS hz hc hs h => ?_) kk
  refine va_newaK (atype := .long) (n := Int32.ofInt k) (N := k.toNat) F.1 F.2.1 (F.2.2.2.2.1 _ mac_j) rfl hd rfl (by rw [Int32.lt_iff_toInt_lt, i32_t hi]; exact Int.not_lt.mpr hk.1) (toNat_i hi) ?_ hc hs hz fun H' cA q1 q2 q3 q4 q5 => ?_
  · have : componentBytes (newarray.typeOf .long) ≤ 8 := by decide
    have h2 : k.toNat * componentBytes (newarray.typeOf .long) ≤ k.toNat * 8 := Nat.mul_le_mul_left _ this
    omega
  · have hty : s.vm.findClass ("[" ++ (newarray.typeOf .long).toString) = some (mty w 2) := (F.2.2.2.2.2.2.1.2 2 _ rfl).2
    have ec : cA = mty w 2 := Option.some.inj (q5.symm.trans hty)
    subst ec
    refine h H' ?_ (by rw [q2, hz]) (fun q hq => q3 q (by omega))
    rw [mcell_l hlay (by omega) (by omega)]
    show H'[mb w + mz σ 0]? = some (vp_cell (mty w 2) (3000 + k.toNat - 3000, .inr (.inl fun j => Int64.ofInt (mnew σ (3000 + k.toNat) k.toNat (mz σ 0) j))))
    rw [q1, Nat.add_sub_cancel_left]
    refine congrArg some ?_
    rw [vp_cell_l]
    refine congrArg (arrV _ _) ?_
    funext j
    show defaultValue _ = .long (Int64.ofInt (mnew σ (3000 + k.toNat) k.toNat (mz σ 0) j))
    rw [mnew_n]
    have e1 : Nat.ble 9000 (3000 + k.toNat) = false := by
      cases hb : Nat.ble 9000 (3000 + k.toNat)
      · rfl
      · have := Nat.le_of_ble_eq_true hb; omega
    unfold mdef
    rw [e1, Nat.ble_eq.mpr (by omega : 1000 ≤ 3000 + k.toNat)]
    rfl
theorem so_newq (F : mF p R s args m c w own cc nL) (hct : ct = true) (hsz : (s.heap.size : Int) = mb w + n0) {k : Int} {idx : Nat} (hk : k = 6) (hlay : mlay (mz σ 0) = 9000 + k.toNat) (hmx : σ 905 0 + 1 ≤ n0 + (R.cells : Int) ∧ σ 905 1 + k ≤ s0 + (R.slots : Int)) (hl : (Cond.classLink own idx RX3).before args s = true) (hd : decode cc pc = .ok (.anewarray idx, 3))
    (kk : mGoal p l e R s m args below meth c Q w ct nL n0 s0 (pc + 3) L ((9000 + k.toNat, σ 905 0) :: S) (mnew σ (9000 + k.toNat) k.toNat)) : mGoal p l e R s m args below meth c Q w ct nL n0 s0 pc L ((0, k) :: S) σ := by
  subst hk
  refine so_push (S0 := (0, 6) :: S) F hct hsz hlay (by omega) hmx (fun v hv => List.mem_cons_of_mem _ hv) (fun H locs cells slots ls okS hz hc hs h => ?_) kk
  refine W.anew (n := 6) F.1 F.2.1 F.2.2.2.1 hl (va_AO.use F.2.2.2.2.2.1.2) rfl hd rfl (by decide) (by decide) hc hs fun cA kA comp q1 q2 q3 q4 => ?_
  have hty : s.vm.findClass ("[" ++ (FieldType.object RX3).toString) = some (mty w 3) := by
    obtain ⟨kA', comp', h1, h2, h3, h4⟩ := (F.2.2.2.2.2.2.1.2 3 (mty w 3, .object RX3) rfl).2
    exact h4
  have ec : cA = mty w 3 := Option.some.inj (q1.symm.trans hty)
  subst ec
  rw [hz]
  refine h _ ?_ (by simp) (fun q hq => by rw [Array.getElem?_push, if_neg (Nat.ne_of_lt hq)])
  rw [mcell_s hlay]
  show (H.push _)[mb w + mz σ 0]? = some (vp_cell (mty w 3) (6, .inr (.inr (.inr (.inr fun j => if mnew σ 9006 6 (mz σ 0) j < 0 then none else some (madr w (mnew σ 9006 6 (mz σ 0) j).toNat))))))
  rw [← hz, Array.getElem?_push_size]
  refine congrArg some ?_
  rw [vp_cell_q]
  refine (arrV_new (mty w 3) 6 Value.null).trans (congrArg (arrV _ _) ?_)
  funext j
  rw [mnew_n]
  rfl
theorem so_newo (F : mF p R s args m c w own cc nL) (hct : ct = true) (hsz : (s.heap.size : Int) = mb w + n0) {i k idx : Nat} (hi : i < 11) (hk : k = mNf i) (hlay : mlay (mz σ 0) = 20 + i) (hmx : σ 905 0 + 1 ≤ n0 + (R.cells : Int) ∧ σ 905 1 + (k : Int) ≤ s0 + (R.slots : Int))
    (hl : (Cond.classLink own idx (mC i)).before args s = true) (hl2 : (Cond.instantiable (mC i) k).before args s = true) (hl3 : (Cond.initialized (mC i)).before args s = true) (hd : decode cc pc = .ok (.new idx, 3)) (kk : mGoal p l e R s m args below meth c Q w ct nL n0 s0 (pc + 3) L ((20 + i, σ 905 0) :: S) (mnew σ (20 + i) k)) : mGoal p l e R s m args below meth c Q w ct nL n0 s0 pc L S σ := by
  subst hk
  obtain ⟨ty, h1, h2, h3, h4, h5, h6⟩ := mCl_all hi
  have hKn := F.2.2.2.2.2.2.1.1 i _ h1
  refine so_push (S0 := S) F hct hsz hlay (by omega) hmx (fun v hv => hv) (fun H locs cells slots ls okS hz hc hs h => ?_) kk
  refine W.newcK F.1 F.2.1 F.2.2.2.1 hl hl2 hl3 rfl hd hc hs hKn.2.1 hz fun H' kC hkC q1 q2 q3 => ?_
  refine h H' ?_ (by rw [q2, hz]) (fun q hq => q3 q (by omega))
  rw [mcell_obj hlay hi]
  refine ⟨_, h1, (u_born (ws := mWS) ty F.2.2.2.2.1 h2 hKn hkC q1 h3).to fun j hj => ?_⟩
  show defaultValue (ty j) = vp_V _ j
  unfold vp_V
  rw [List.getD_eq_getElem?_getD, List.getElem?_map, List.getElem?_range hj]
  show defaultValue (ty j) = mfv w (mft i j) (mnew σ (20 + i) (mNf i) (mz σ 0) j)
  rw [mnew_n]
  unfold mdef
  have e1 : Nat.ble 9000 (20 + i) = false := by
    cases hb : Nat.ble 9000 (20 + i)
    · rfl
    · have := Nat.le_of_ble_eq_true hb; omega
  have e2 : Nat.ble 1000 (20 + i) = false := by
    cases hb : Nat.ble 1000 (20 + i)
    · rfl
    · have := Nat.le_of_ble_eq_true hb; omega
  rw [e1, e2, Nat.add_sub_cancel_left]
  by_cases e : mft i j = 0
  · rw [(h6 j hj).1 e, e]
    rfl
  · rw [((h6 j hj).2 e).1]
    have e3 : Nat.beq (mft i j) 0 = false := by
      cases hb : Nat.beq (mft i j) 0
      · rfl
      · exact absurd (Nat.eq_of_beq_eq_true hb) e
    rw [e3]
    unfold mfv
    rw [if_neg e]
    rfl
theorem so_67 (F : mF p R s args m c w own cc nL) (hct : ct = true) {i x v : Int} (hi : 0 ≤ i ∧ i < 6) (hd : decode cc pc = .ok (.aastore, 1)) (kk : mGoal p l e R s m args below meth c Q w ct nL n0 s0 (pc + 1) L S (mset σ x.toNat i.toNat v)) : mGoal p l e R s m args below meth c Q w ct nL n0 s0 pc L ((23, v) :: (0, i) :: (9006, x) :: S) σ := by
  intro H locs cells slots ls hL okL okS hW hS hA
  have hvR := (okS _ List.mem_cons_self).2.2 (show 3 < 23 by omega)
  obtain ⟨q, e1, hq, hlq⟩ := okR_cell ((ok_t (ok_t okS) _ List.mem_cons_self).2.2 (show 3 < 9006 by omega)) ⟨show 20 ≤ 9006 by omega, Or.inr (show 9000 ≤ 9006 by omega)⟩
  obtain ⟨q2, e2, hq2, hlq2⟩ := okR_cell hvR ⟨show 20 ≤ 23 by omega, Or.inl (show 23 < 4000 by omega)⟩
  have e1 : x = (q : Int) := e1
  have e2 : v = (q2 : Int) := e2
  subst e1
  have hq9 : q < 900 := by have := hW.1.1.2; omega
  have hq29 : q2 < 900 := by have := hW.1.1.2; omega
  have hi32 := ok_i (ok_t okS)
  have hlq : mlay q = 9006 := hlq
  have hlq2 : mlay q2 = 20 + 3 := hlq2
  show W p l e R s m args below meth c H locs cells slots Q (F0 m pc ls (mrep w (23, v) :: .int (Int32.ofInt i) :: mrep w (9006, (q : Int)) :: S.map (mrep w)))
  rw [mrep_cell w (by omega) hq9, e2, mrep_cell w (by omega) hq29]
  refine va_astq (r := (RX3, TX3, 4)) F.1 F.2.1 F.2.2.2.2.2.2.1 hW.2.2 (mws_D w σ) hS q 3 q2 3 (by rw [mws_get hq, mcell_s hlq]) rfl (by rw [mws_get hq2, mcell_obj hlq2 (by omega)]) rfl (in_row hi32 hi) hd fun H1 locs1 hP _ hS1 => ?_
  rw [toNat_i hi32] at hP
  have hset : mcell w (mset σ q i.toNat v) q = .inl (mty w 3, 6, .inr (.inr (.inr (.inr (va_up (fun j => if σ q j < 0 then none else some (madr w (σ q j).toNat)) i.toNat (some (mb w + q2))))))) := by
    rw [mcell_s hlq]
    congr 7
    funext j
    unfold va_up
    by_cases ej : j = i.toNat
    · rw [if_pos ej, ej, mset_eq, e2, if_neg (by omega), Int.toNat_natCast]
      unfold madr
      rw [if_pos hq29]
    · rw [if_neg ej, mset_nj ej]
  rw [mws_set hq9 hset] at hP
  refine so_after hq hW.1 hW.2.1 ?_ (fun h => by rw [hct] at h; cases h) hL okL (ok_t (ok_t (ok_t okS))) hS1 hA hP kk
  rw [hlq]
  exact ⟨fun h => by omega, fun _ h => by omega, fun _ h => by omega, fun _ => Or.inr hvR⟩
theorem cat_sum (S : List mV) : ((S.map (mrep w)).map fun v => v.category).sum = (S.map mcat).sum := by
  rw [List.map_map]
  congr 1
  apply List.map_congr_left
  intro v _
  exact mrep_cat w v
theorem so_75 (F : mF p R s args m c w own cc nL) {idx t : Nat} {x : Int} (ht : 20 ≤ t ∧ t < 1000) (hS8 : (S.map mcat).sum ≤ 8) (hl : (Cond.methodLink own idx Lib.objectInit).before args s = true) (hd : decode cc pc = .ok (.invokespecial idx, 3)) (kk : mGoal p l e R s m args below meth c Q w ct nL n0 s0 (pc + 3) L S σ) : mGoal p l e R s m args below meth c Q w ct nL n0 s0 pc L ((t, x) :: S) σ := by
  refine so_st (S2 := S) (fun H locs cells slots ls hL okS _ k => ?_) (fun okS _ => ok_t okS) kk
  show W p l e R s m args below meth c H locs cells slots Q (F0 m pc ls (mrep w (t, x) :: S.map (mrep w)))
  rw [mrep_r w (by omega)]
  exact W.objInit F.1 F.2.1 F.2.2.2.1 hl (F.2.2.2.2.1 _ mob_i) (F.2.2.2.2.1 _ mob_c) rfl (by rw [F.2.2.1]; exact hL.2.1) rfl hd F.2.2.2.2.2.2.2.2.2.1 (by rw [cat_sum]; have := F.2.2.2.2.2.2.2.2.2.2; show 2 * 0 + _ + 12 ≤ _; omega) k
theorem so_mm {idx : Nat} {x y z : Int} (F : mF p R s args m c w own cc nL) (hz : in32 x → in32 y → in32 z) (hrow : ∀ (H : Heap) (locs : List Loc) (cells slots : Nat) (ls : Array Slot) (rest : List Value), in32 x → in32 y → ls.size = nL → cells ≤ R.cells → slots ≤ R.slots → (rest.map fun v => v.category).sum ≤ 8 → W p l e R s m args below meth c H locs cells slots Q (F0 m (pc + 3) ls (.int (Int32.ofInt z) :: rest)) → W p l e R s m args below meth c H locs cells slots Q (F0 m pc ls (.int (Int32.ofInt y) :: .int (Int32.ofInt x) :: rest)))
    (hS8 : (S.map mcat).sum ≤ 8) (kk : mGoal p l e R s m args below meth c Q w ct nL n0 s0 (pc + 3) L ((0, z) :: S) σ) : mGoal p l e R s m args below meth c Q w ct nL n0 s0 pc L ((0, y) :: (0, x) :: S) σ := by
  intro H locs cells slots ls hL okL okS hW hS hA
  have h1 := ok_i (ok_t okS)
  have h2 := ok_i okS
  exact hrow H locs cells slots ls (S.map (mrep w)) h1 h2 hL.2.1 hA.1 hA.2.1 (by rw [cat_sum]; exact hS8) (kk H locs cells slots ls hL okL (List.forall_mem_cons.mpr ⟨okV_i (hz h1 h2), ok_t (ok_t okS)⟩) hW hS hA)
theorem so_81 {idx : Nat} {x y : Int} (F : mF p R s args m c w own cc nL) (hl : (Cond.methodLink own idx Lib.Math.min.name).before args s = true) (hd : decode cc pc = .ok (.invokestatic idx, 3)) (hS8 : (S.map mcat).sum ≤ 8) (kk : mGoal p l e R s m args below meth c Q w ct nL n0 s0 (pc + 3) L ((0, if y < x then y else x) :: S) σ) : mGoal p l e R s m args below meth c Q w ct nL n0 s0 pc L ((0, y) :: (0, x) :: S) σ := by
  refine so_mm (idx := idx) F (fun h1 h2 => by split <;> assumption) (fun H locs cells slots ls rest h1 h2 hs hc hsl h8 k => ?_) hS8 kk
  have := F.2.2.2.2.2.2.2.2.2.2
  refine va_mmin F.1 F.2.1 (by rw [F.2.2.1, hs]) F.2.2.2.1 hl (F.2.2.2.2.1 _ mmmin_s) (F.2.2.2.2.1 _ mm_y) (F.2.2.2.2.1 _ mmmin_c) F.2.2.2.2.2.2.2.2.2.1 (by omega) hc hsl hd ?_
  have e : (if Int32.ofInt y < Int32.ofInt x then Int32.ofInt y else Int32.ofInt x) = Int32.ofInt (if y < x then y else x) := by
    simp only [i32_lt h2 h1]
    split <;> rfl
  rw [e]
  exact k
theorem so_82 {idx : Nat} {x y : Int} (F : mF p R s args m c w own cc nL) (hl : (Cond.methodLink own idx Lib.Math.max.name).before args s = true) (hd : decode cc pc = .ok (.invokestatic idx, 3)) (hS8 : (S.map mcat).sum ≤ 8) (kk : mGoal p l e R s m args below meth c Q w ct nL n0 s0 (pc + 3) L ((0, if x < y then y else x) :: S) σ) : mGoal p l e R s m args below meth c Q w ct nL n0 s0 pc L ((0, y) :: (0, x) :: S) σ := by
  refine so_mm (idx := idx) F (fun h1 h2 => by split <;> assumption) (fun H locs cells slots ls rest h1 h2 hs hc hsl h8 k => ?_) hS8 kk
  have := F.2.2.2.2.2.2.2.2.2.2
  refine va_mmax F.1 F.2.1 (by rw [F.2.2.1, hs]) F.2.2.2.1 hl (F.2.2.2.2.1 _ mmmax_s) (F.2.2.2.2.1 _ mm_y) (F.2.2.2.2.1 _ mmmax_c) F.2.2.2.2.2.2.2.2.2.1 (by omega) hc hsl hd ?_
  have e : (if Int32.ofInt x < Int32.ofInt y then Int32.ofInt y else Int32.ofInt x) = Int32.ofInt (if x < y then y else x) := by
    simp only [i32_lt h1 h2]
    split <;> rfl
  rw [e]
  exact k
end
end
section
/-! SOUNDNESS 6: copies; groups D and E -/
theorem mws_gen {w : mW} {σ σ' : mM} {q : Nat} {x : va_E} (hq : q < 900) (ho : ∀ a, a ≠ q → ∀ j, σ' a j = σ a j) (he : mcell w σ' q = x) : (mws w σ).set q (mb w + q, x) = mws w σ' := by
  subst he
  have hz : mz σ' 0 = mz σ 0 := by unfold mz; rw [ho 905 (by omega)]
  apply List.ext_getElem?
  intro i
  by_cases hi : i < mz σ 0
  · rw [mws_get (σ := σ') (by rw [hz]; exact hi)]
    by_cases e : q = i
    · subst e
      exact List.getElem?_set_self (by rw [mws_len]; exact hi)
    · rw [List.getElem?_set_ne e, mws_get hi, mcell_congr w (σ := σ) (σ' := σ') (fun j => (ho i (fun z => e z.symm) j).symm)]
  · rw [List.getElem?_eq_none (by rw [List.length_set, mws_len]; omega), List.getElem?_eq_none (by rw [mws_len, hz]; omega)]
section
variable {p : Program} {l : Launch} {e : Env} {R : Room} {s : State} {m : MethodId} {args : Array Value} {below : List Frame} {meth : Method} {c : Code} {Q : State → Prop} {w : mW} {ct : Bool} {nL : Nat} {n0 s0 : Int} {own : String} {cc : ByteArray} {pc : Nat} {L S : List mV} {σ : mM} {a0 : Int × mM} {g : mG}

theorem so_afterG {σ' : mM} {q : Nat} {H : Heap} {locs : List Loc} {cells slots : Nat} {ls : Array Slot} (hq : q < mz σ 0) (hM : okM w σ) (hX : ct = false → mFX σ) (ho : ∀ a, a ≠ q → ∀ j, σ' a j = σ a j) (hv : ∀ k, okF (mz σ 0) (mlay q) k (σ' q k)) (hx : 1000 ≤ mlay q ∧ mlay q ≠ 9006) {S' : List mV} {pc2 : Nat}
    (hL : mLr w nL L ls) (okL : ∀ v ∈ L, okV (mz σ 0) v) (okS : ∀ v ∈ S', okV (mz σ 0) v) (hS : va_S (mAr w) s.heap H locs) (hA : mAcc ct R n0 s0 σ cells slots) (hP : va_P (mdd w) vwCl (mws w σ') H)
    (kk : mGoal p l e R s m args below meth c Q w ct nL n0 s0 pc2 L S' σ') : W p l e R s m args below meth c H locs cells slots Q (F0 m pc2 ls (S'.map (mrep w))) := by
  have hq9 : q < 900 := by have := hM.1.2; omega
  have hz : mz σ' 0 = mz σ 0 := by unfold mz; rw [ho 905 (by omega)]
  have h905 := ho 905 (by omega)
  refine kk H locs cells slots ls hL (by rw [hz]; exact okL) (by rw [hz]; exact okS) ⟨⟨by rw [h905, hz]; exact hM.1, fun a ha j => ?_, fun i hi j => by rw [ho _ (by omega)]; exact hM.2.2.1 i hi j, by rw [ho _ (by omega)]; exact hM.2.2.2⟩, fun h => ⟨fun a ha h1 k r hr => ?_, fun a ha h1 j hj => ?_, by rw [hz]; exact (hX h).2.2⟩, hP⟩ hS ?_
  · rw [hz] at ha ⊢
    by_cases e : a = q
    · subst e; exact hv j
    · rw [ho a e]; exact hM.2.1 a ha j
  · rw [hz] at ha
    rw [ho a (fun e => by subst e; omega)]
    exact (hX h).1 a ha h1 k r hr
  · rw [hz] at ha
    rw [ho a (fun e => by subst e; exact hx.2 h1)]
    exact (hX h).2.1 a ha h1 j hj
  · unfold mAcc
    rw [h905, h905]
    exact hA
theorem mcopy_o {a1 a2 sp dp k a : Nat} (h : a ≠ a2) (j : Nat) : mcopy σ a1 a2 sp dp k a j = σ a j := by
  unfold mcopy
  rw [if_neg (fun z => h z.1)]
theorem so_83 (F : mF p R s args m c w own cc nL) {idx t1 t2 : Nat} {k dp sp x1 x2 : Int} (g1 : 1000 ≤ t1) (g2 : t1 < 2000) (g3 : 1000 ≤ t2) (g4 : t2 < 2000) (hS8 : (S.map mcat).sum ≤ 8) (hb : 0 ≤ sp ∧ 0 ≤ dp ∧ 0 ≤ k ∧ sp + k ≤ mlen σ t1 ∧ dp + k ≤ mlen σ t2) (hl : (Cond.methodLink own idx arraycopyName).before args s = true) (hd : decode cc pc = .ok (.invokestatic idx, 3))
    (kk : mGoal p l e R s m args below meth c Q w ct nL n0 s0 (pc + 3) L S (mcopy σ x1.toNat x2.toNat sp.toNat dp.toNat k.toNat)) : mGoal p l e R s m args below meth c Q w ct nL n0 s0 pc L ((0, k) :: (0, dp) :: (t2, x2) :: (0, sp) :: (t1, x1) :: S) σ := by
  intro H locs cells slots ls hL okL okS hW hS hA
  obtain ⟨q1, e1, hq1, hl1⟩ := okR_cell ((ok_t (ok_t (ok_t (ok_t okS))) _ List.mem_cons_self).2.2 (show 3 < t1 by omega)) ⟨by omega, Or.inl (by omega)⟩
  obtain ⟨q2, e2, hq2, hl2⟩ := okR_cell ((ok_t (ok_t okS) _ List.mem_cons_self).2.2 (show 3 < t2 by omega)) ⟨by omega, Or.inl (by omega)⟩
  have e1 : x1 = (q1 : Int) := e1
  have e2 : x2 = (q2 : Int) := e2
  subst e1
  subst e2
  have hl1 : mlay q1 = t1 := hl1
  have hl2 : mlay q2 = t2 := hl2
  have hq19 : q1 < 900 := by have := hW.1.1.2; omega
  have hq29 : q2 < 900 := by have := hW.1.1.2; omega
  have ik := ok_i okS
  have idp := ok_i (ok_t okS)
  have isp := ok_i (ok_t (ok_t (ok_t okS)))
  rw [mlen_i (b := 1000) (by omega) g1 (by omega), mlen_i (b := 1000) (by omega) g3 (by omega)] at hb
  show W p l e R s m args below meth c H locs cells slots Q (F0 m pc ls (.int (Int32.ofInt k) :: .int (Int32.ofInt dp) :: mrep w (t2, (q2 : Int)) :: .int (Int32.ofInt sp) :: mrep w (t1, (q1 : Int)) :: S.map (mrep w)))
  rw [mrep_cell w (by omega) hq29, mrep_cell w (by omega) hq19]
  have nn : ∀ {z : Int}, in32 z → 0 ≤ z → ¬ Int32.ofInt z < 0 := fun hz h0 => by rw [Int32.lt_iff_toInt_lt, i32_t hz]; exact Int.not_lt.mpr h0
  have hrl := F.2.2.2.2.2.2.2.2.2.2
  refine va_copyi F.1 F.2.1 (by rw [F.2.2.1, hL.2.1]) F.2.2.2.1 hl (F.2.2.2.2.1 _ mcp_n) (F.2.2.2.2.1 _ mcp_s) (F.2.2.2.2.1 _ mcp_y) F.2.2.2.2.2.2.1 hW.2.2 (mws_D w σ) hS q1 q2 0 0 (by rw [mws_get hq1, mcell_i hl1 g1 g2]) (by rw [mws_get hq2, mcell_i hl2 g3 g4]) rfl rfl rfl (nn isp hb.1) (nn idp hb.2.1) (nn ik hb.2.2.1) ?_ ?_ (fun i _ => rfl) F.2.2.2.2.2.2.2.2.2.1 ?_ hd fun H1 locs1 hP _ hS1 => ?_
  · rw [toNat_i isp, toNat_i ik]; omega
  · rw [toNat_i idp, toNat_i ik]; omega
  · rw [cat_sum]
    have : nativeFrameWords "java/lang/System" "arraycopy" 5 + 11 ≤ 52 := by decide
    omega
  · rw [toNat_i isp, toNat_i ik, toNat_i idp] at hP
    have ho : ∀ a, a ≠ q2 → ∀ j, mcopy σ q1 q2 sp.toNat dp.toNat k.toNat a j = σ a j := fun a h j => mcopy_o h j
    have hset : mcell w (mcopy σ q1 q2 sp.toNat dp.toNat k.toNat) q2 = .inl (mty w 0, t2 - 1000, .inl (va_cpy (fun j => Int32.ofInt (σ q1 j)) (fun j => Int32.ofInt (σ q2 j)) sp.toNat dp.toNat k.toNat)) := by
      rw [mcell_i hl2 g3 g4]
      congr 4
      funext j
      unfold mcopy va_cpy
      by_cases h : dp.toNat ≤ j ∧ j < dp.toNat + k.toNat
      · rw [if_pos ⟨rfl, h⟩, if_pos h]
      · rw [if_neg (fun z => h z.2), if_neg h]
    rw [mws_gen hq29 ho hset] at hP
    refine so_afterG hq2 hW.1 hW.2.1 ho (fun j => ?_) (by omega) hL okL (ok_t (ok_t (ok_t (ok_t (ok_t okS))))) hS1 hA hP kk
    rw [hl2]
    have in1 := fun j => (hW.1.2.1 q1 hq1 j).2.1
    have in2 := fun j => (hW.1.2.1 q2 hq2 j).2.1
    rw [hl1] at in1
    rw [hl2] at in2
    unfold mcopy
    by_cases h : dp.toNat ≤ j ∧ j < dp.toNat + k.toNat
    · rw [if_pos ⟨rfl, h⟩]
      exact ⟨fun h => by omega, fun _ _ => in1 _ (by omega) (by omega), fun h => by omega, fun h => by omega⟩
    · rw [if_neg (fun z => h z.2)]
      exact ⟨fun h => by omega, fun _ _ => in2 _ (by omega) (by omega), fun h => by omega, fun h => by omega⟩
theorem so_84 (F : mF p R s args m c w own cc nL) {idx t1 t2 : Nat} {k dp sp x1 x2 : Int} (g1 : 3000 ≤ t1) (g2 : t1 < 4000) (g3 : 3000 ≤ t2) (g4 : t2 < 4000) (hS8 : (S.map mcat).sum ≤ 8) (hb : 0 ≤ sp ∧ 0 ≤ dp ∧ 0 ≤ k ∧ sp + k ≤ mlen σ t1 ∧ dp + k ≤ mlen σ t2) (hl : (Cond.methodLink own idx arraycopyName).before args s = true) (hd : decode cc pc = .ok (.invokestatic idx, 3))
    (kk : mGoal p l e R s m args below meth c Q w ct nL n0 s0 (pc + 3) L S (mcopy σ x1.toNat x2.toNat sp.toNat dp.toNat k.toNat)) : mGoal p l e R s m args below meth c Q w ct nL n0 s0 pc L ((0, k) :: (0, dp) :: (t2, x2) :: (0, sp) :: (t1, x1) :: S) σ := by
  intro H locs cells slots ls hL okL okS hW hS hA
  obtain ⟨q1, e1, hq1, hl1⟩ := okR_cell ((ok_t (ok_t (ok_t (ok_t okS))) _ List.mem_cons_self).2.2 (show 3 < t1 by omega)) ⟨by omega, Or.inl (by omega)⟩
  obtain ⟨q2, e2, hq2, hl2⟩ := okR_cell ((ok_t (ok_t okS) _ List.mem_cons_self).2.2 (show 3 < t2 by omega)) ⟨by omega, Or.inl (by omega)⟩
  have e1 : x1 = (q1 : Int) := e1
  have e2 : x2 = (q2 : Int) := e2
  subst e1
  subst e2
  have hl1 : mlay q1 = t1 := hl1
  have hl2 : mlay q2 = t2 := hl2
  have hq19 : q1 < 900 := by have := hW.1.1.2; omega
  have hq29 : q2 < 900 := by have := hW.1.1.2; omega
  have ik := ok_i okS
  have idp := ok_i (ok_t okS)
  have isp := ok_i (ok_t (ok_t (ok_t okS)))
  rw [mlen_i (b := 3000) (by omega) g1 (by omega), mlen_i (b := 3000) (by omega) g3 (by omega)] at hb
  show W p l e R s m args below meth c H locs cells slots Q (F0 m pc ls (.int (Int32.ofInt k) :: .int (Int32.ofInt dp) :: mrep w (t2, (q2 : Int)) :: .int (Int32.ofInt sp) :: mrep w (t1, (q1 : Int)) :: S.map (mrep w)))
  rw [mrep_cell w (by omega) hq29, mrep_cell w (by omega) hq19]
  have nn : ∀ {z : Int}, in32 z → 0 ≤ z → ¬ Int32.ofInt z < 0 := fun hz h0 => by rw [Int32.lt_iff_toInt_lt, i32_t hz]; exact Int.not_lt.mpr h0
  have hrl := F.2.2.2.2.2.2.2.2.2.2
  refine va_copyl F.1 F.2.1 (by rw [F.2.2.1, hL.2.1]) F.2.2.2.1 hl (F.2.2.2.2.1 _ mcp_n) (F.2.2.2.2.1 _ mcp_s) (F.2.2.2.2.1 _ mcp_y) F.2.2.2.2.2.2.1 hW.2.2 (mws_D w σ) hS q1 q2 2 2 (by rw [mws_get hq1, mcell_l hl1 g1 g2]) (by rw [mws_get hq2, mcell_l hl2 g3 g4]) rfl rfl rfl (nn isp hb.1) (nn idp hb.2.1) (nn ik hb.2.2.1) ?_ ?_ (fun i _ => rfl) F.2.2.2.2.2.2.2.2.2.1 ?_ hd fun H1 locs1 hP _ hS1 => ?_
  · rw [toNat_i isp, toNat_i ik]; omega
  · rw [toNat_i idp, toNat_i ik]; omega
  · rw [cat_sum]
    have : nativeFrameWords "java/lang/System" "arraycopy" 5 + 11 ≤ 52 := by decide
    omega
  · rw [toNat_i isp, toNat_i ik, toNat_i idp] at hP
    have ho : ∀ a, a ≠ q2 → ∀ j, mcopy σ q1 q2 sp.toNat dp.toNat k.toNat a j = σ a j := fun a h j => mcopy_o h j
    have hset : mcell w (mcopy σ q1 q2 sp.toNat dp.toNat k.toNat) q2 = .inl (mty w 2, t2 - 3000, .inr (.inl (va_cpy (fun j => Int64.ofInt (σ q1 j)) (fun j => Int64.ofInt (σ q2 j)) sp.toNat dp.toNat k.toNat))) := by
      rw [mcell_l hl2 g3 g4]
      congr 5
      funext j
      unfold mcopy va_cpy
      by_cases h : dp.toNat ≤ j ∧ j < dp.toNat + k.toNat
      · rw [if_pos ⟨rfl, h⟩, if_pos h]
      · rw [if_neg (fun z => h z.2), if_neg h]
    rw [mws_gen hq29 ho hset] at hP
    refine so_afterG hq2 hW.1 hW.2.1 ho (fun j => ?_) (by omega) hL okL (ok_t (ok_t (ok_t (ok_t (ok_t okS))))) hS1 hA hP kk
    rw [hl2]
    have in1 := fun j => (hW.1.2.1 q1 hq1 j).2.2.1
    have in2 := fun j => (hW.1.2.1 q2 hq2 j).2.2.1
    rw [hl1] at in1
    rw [hl2] at in2
    unfold mcopy
    by_cases h : dp.toNat ≤ j ∧ j < dp.toNat + k.toNat
    · rw [if_pos ⟨rfl, h⟩]
      exact ⟨fun h => by omega, fun h h2 => by omega, fun _ _ => in1 _ (by omega) (by omega), fun h => by omega⟩
    · rw [if_neg (fun z => h z.2)]
      exact ⟨fun h => by omega, fun h h2 => by omega, fun _ _ => in2 _ (by omega) (by omega), fun h => by omega⟩
end
def mInsD (op : Nat) (ps : List Nat) : Instr × Nat :=
  bif Nat.beq op 51 || Nat.beq op 52 || Nat.beq op 53 then (.getfield (mp ps 3), 3) else bif Nat.beq op 54 || Nat.beq op 55 || Nat.beq op 56 || Nat.beq op 57 then (.putfield (mp ps 3), 3)
  else bif Nat.beq op 58 || Nat.beq op 59 then (.getstatic (mp ps 2), 3) else bif Nat.beq op 60 then (.iaload, 1) else bif Nat.beq op 61 then (.iastore, 1) else bif Nat.beq op 62 then (.laload, 1)
  else bif Nat.beq op 63 then (.lastore, 1) else bif Nat.beq op 64 then (.baload, 1) else bif Nat.beq op 65 then (.bastore, 1) else bif Nat.beq op 66 then (.aaload, 1) else (.arraylength, 1)
def mLkF (own : String) (ps : List Nat) : Bool := Nat.blt (mp ps 0) 11 && Nat.blt (mp ps 1) (mNf (mp ps 0)) && decide (mWd1 (mp ps 4) = some (.fieldLink own (mp ps 3) (mC (mp ps 0)) (mTf (mp ps 0) (mp ps 1)).2.1 (mTf (mp ps 0) (mp ps 1)).2.2.1))
def mStat (k : Nat) : String × String := bif Nat.beq k 900 then (RX9, "MOST") else bif Nat.beq k 901 then (RX5, "ABOVE") else (RX5, "BODIES")
def mLkS (ps : List Nat) : Bool := (Nat.beq (mp ps 0) 7008 && Nat.beq (mp ps 1) 900) || (Nat.beq (mp ps 0) 7108 && Nat.beq (mp ps 1) 901) || (Nat.beq (mp ps 0) 7232 && Nat.beq (mp ps 1) 902)
def mLkD (own : String) (ct ini : Bool) (op : Nat) (v : Int) (ps : List Nat) : Bool :=
  bif Nat.beq op 51 then mLkF own ps && Nat.beq (mft (mp ps 0) (mp ps 1)) 0
  else bif Nat.beq op 52 then mLkF own ps && (Nat.beq (mft (mp ps 0) (mp ps 1)) (mp ps 2) && Nat.blt 3 (mp ps 2)) && (!ct && decide (mfx (mp ps 0) (mp ps 1) = some v))
  else bif Nat.beq op 53 then mLkF own ps && (Nat.beq (mft (mp ps 0) (mp ps 1)) (mp ps 2) && Nat.blt 3 (mp ps 2))
  else bif Nat.beq op 54 then mLkF own ps && (Nat.beq (mft (mp ps 0) (mp ps 1)) 0 && decide ((mTf (mp ps 0) (mp ps 1)).2.2.1 = "I")) && (!(mTf (mp ps 0) (mp ps 1)).2.2.2 && decide (mfx (mp ps 0) (mp ps 1) = none))
  else bif Nat.beq op 55 then mLkF own ps && (Nat.beq (mft (mp ps 0) (mp ps 1)) (mp ps 2) && Nat.blt 3 (mp ps 2)) && (!(mTf (mp ps 0) (mp ps 1)).2.2.2 && (ct || decide (mfx (mp ps 0) (mp ps 1) = none)))
  else bif Nat.beq op 56 then mLkF own ps && (Nat.beq (mft (mp ps 0) (mp ps 1)) (mp ps 2) && Nat.blt 3 (mp ps 2)) && ((mTf (mp ps 0) (mp ps 1)).2.2.2 && ct && ini && decide (mC (mp ps 0) = own))
  else bif Nat.beq op 57 then mLkF own ps && (Nat.beq (mft (mp ps 0) (mp ps 1)) 0 && decide ((mTf (mp ps 0) (mp ps 1)).2.2.1 = "Z")) && (!(mTf (mp ps 0) (mp ps 1)).2.2.2 && decide (mfx (mp ps 0) (mp ps 1) = none))
  else bif Nat.beq op 58 then mLkS ps && decide (mWd1 (mp ps 3) = some (.fieldLink own (mp ps 2) (mStat (mp ps 1)).1 (mStat (mp ps 1)).2 "[I"))
  else bif Nat.beq op 59 then mLkS ps && decide (mWd1 (mp ps 3) = some (.fieldLinkNest own (mp ps 2) (mStat (mp ps 1)).1 (mStat (mp ps 1)).2 "[I" RX9))
  else bif Nat.beq op 66 then !ct else Nat.beq op 60 || Nat.beq op 61 || Nat.beq op 62 || Nat.beq op 63 || Nat.beq op 64 || Nat.beq op 65 || Nat.beq op 68
theorem mlay_q (k : Nat) : mlay k < 4000 ∨ mlay k = 9006 := by
  by_cases h : k < 95
  · have : ∀ k, k < 95 → (mlay k < 4000 ∨ mlay k = 9006) := by decide +kernel
    exact this k h
  · have : mlay k = 0 := by
      by_cases e : mlay k = 0
      · exact e
      · exact absurd (mlay_lt e) h
    omega
section
variable {p : Program} {l : Launch} {e : Env} {R : Room} {s : State} {m : MethodId} {args : Array Value} {below : List Frame} {meth : Method} {c : Code} {Q : State → Prop} {w : mW} {ct : Bool} {nL : Nat} {n0 s0 : Int} {own : String} {cc : ByteArray} {pc : Nat} {L S : List mV} {σ : mM} {a0 : Int × mM} {g : mG}

theorem mLkF_s (F : mF p R s args m c w own cc nL) {ps : List Nat} (h : mLkF own ps = true) : mp ps 0 < 11 ∧ mp ps 1 < mNf (mp ps 0) ∧ (Cond.fieldLink own (mp ps 3) (mC (mp ps 0)) (mTf (mp ps 0) (mp ps 1)).2.1 (mTf (mp ps 0) (mp ps 1)).2.2.1).before args s = true := by
  unfold mLkF at h
  simp only [Bool.and_eq_true] at h
  exact ⟨Nat.blt_eq.mp h.1.1, Nat.blt_eq.mp h.1.2, mWS_in F (of_decide_eq_true h.2) rfl⟩
theorem beq_t {t i : Nat} {f : mA} {a : Int × mM} (h : (bif Nat.beq t i then f else none) = some a) : t = i ∧ f = some a := by
  obtain ⟨h1, h2⟩ := cond_some h
  exact ⟨Nat.eq_of_beq_eq_true h1, h2⟩
theorem pf_I {d : String} {ty : FieldType} (hd : d = "I") (h : parseFieldDescriptor d = some ty) : ty = .int := by
  subst hd
  have : parseFieldDescriptor "I" = some .int := by decide +kernel
  exact (Option.some.inj (this.symm.trans h)).symm
theorem pf_Z {d : String} {ty : FieldType} (hd : d = "Z") (h : parseFieldDescriptor d = some ty) : ty = .boolean := by
  subst hd
  have : parseFieldDescriptor "Z" = some .boolean := by decide +kernel
  exact (Option.some.inj (this.symm.trans h)).symm
theorem okF_o {n i k : Nat} {x : Int} (hi : i < 11) (h0 : mft i k = 0 → in32 x) (h1 : mft i k ≠ 0 → x = -1 ∨ okR n (mft i k) x) : okF n (20 + i) k x := by
  refine ⟨fun _ => ?_, fun h => by omega, fun h => by omega, fun h => by omega⟩
  rw [Nat.add_sub_cancel_left]
  exact ⟨h0, h1⟩
theorem okR_nn {n t : Nat} {x : Int} (h : okR n t x) : 0 ≤ x := by
  obtain ⟨k, e, -⟩ := h
  omega
theorem snd_D {op n : Nat} {v : Int} {ps : List Nat} {ini : Bool} (F : mF p R s args m c w own cc nL) (hini : ini = true → meth.name = "<init>") (hd : decode cc pc = .ok (mInsD op ps)) (hn : n = (mInsD op ps).2) (hl : mLkD own ct ini op v ps = true)
    (hg : ∀ pc L S σ, g pc L S σ = some a0 → mGoal p l e R s m args below meth c Q w ct nL n0 s0 pc L S σ) (h : mstepD g op n v ps pc L S σ = some a0) : mGoal p l e R s m args below meth c Q w ct nL n0 s0 pc L S σ := by
  have hx := F.1
  have hb := F.2.1
  by_cases e : op = 51
  · subst e
    have hn : n = 3 := hn
    subst hn
    have hl : (mLkF own ps && Nat.beq (mft (mp ps 0) (mp ps 1)) 0) = true := hl
    rw [Bool.and_eq_true] at hl
    obtain ⟨q1, q2, q3⟩ := mLkF_s F hl.1
    have h0 := Nat.eq_of_beq_eq_true hl.2
    obtain ⟨t, x, S', rfl, ht, h1⟩ := mpopR_some h
    obtain ⟨rfl, h2⟩ := beq_t h1
    refine so_get F q1 q2 q3 hd (u := (0, σ x.toNat (mp ps 1))) (fun hM _ q e hq hlq => ?_) (hg _ _ _ _ h2)
    subst e
    have hv := (hM.2.1 q hq (mp ps 1)).1 (by omega)
    rw [hlq, Nat.add_sub_cancel_left] at hv
    refine ⟨?_, okV_i (hv.1 h0)⟩
    rw [h0]
    rfl
  by_cases e : op = 52
  · subst e
    have hn : n = 3 := hn
    subst hn
    have hl : (mLkF own ps && (Nat.beq (mft (mp ps 0) (mp ps 1)) (mp ps 2) && Nat.blt 3 (mp ps 2)) && (!ct && decide (mfx (mp ps 0) (mp ps 1) = some v))) = true := hl
    simp only [Bool.and_eq_true, Bool.not_eq_true', decide_eq_true_eq] at hl
    obtain ⟨q1, q2, q3⟩ := mLkF_s F hl.1.1
    have h0 := Nat.eq_of_beq_eq_true hl.1.2.1
    have h3 := Nat.blt_eq.mp hl.1.2.2
    obtain ⟨t, x, S', rfl, ht, h1⟩ := mpopR_some h
    obtain ⟨rfl, h2⟩ := beq_t h1
    refine so_get F q1 q2 q3 hd (u := (mp ps 2, x + v)) (fun hM hX q e hq hlq => ?_) (hg _ _ _ _ h2)
    subst e
    have hf := (hX hl.2.1).1 q hq (by omega) (mp ps 1) v (by rw [hlq, Nat.add_sub_cancel_left]; exact hl.2.2)
    have hv := (hM.2.1 q hq (mp ps 1)).1 (by omega)
    rw [hlq, Nat.add_sub_cancel_left] at hv
    have hv := hv.2 (by omega)
    have hv : okR (mz σ 0) (mp ps 2) (σ q (mp ps 1)) := by
      rw [← h0]
      rcases hv with z | z
      · omega
      · exact z
    refine ⟨?_, okV_r h3 (by rw [← hf.1]; exact hv)⟩
    rw [h0, ← hf.1, mrep_r w h3]
    unfold mfv
    rw [if_neg (by omega), if_neg (by omega)]
  by_cases e : op = 53
  · subst e
    have hn : n = 3 := hn
    subst hn
    have hl : (mLkF own ps && (Nat.beq (mft (mp ps 0) (mp ps 1)) (mp ps 2) && Nat.blt 3 (mp ps 2))) = true := hl
    simp only [Bool.and_eq_true] at hl
    obtain ⟨q1, q2, q3⟩ := mLkF_s F hl.1
    have h0 := Nat.eq_of_beq_eq_true hl.2.1
    have h3 := Nat.blt_eq.mp hl.2.2
    obtain ⟨t, x, S', rfl, ht, h1⟩ := mpopR_some h
    obtain ⟨rfl, h2⟩ := beq_t h1
    by_cases hneg : σ x.toNat (mp ps 1) < 0
    · have := (bLt_some h2).1 hneg
      cases this
    have h2 := (bLt_some h2).2 hneg
    refine so_get F q1 q2 q3 hd (u := (mp ps 2, σ x.toNat (mp ps 1))) (fun hM hX q e hq hlq => ?_) (hg _ _ _ _ h2)
    subst e
    have hv := (hM.2.1 q hq (mp ps 1)).1 (by omega)
    rw [hlq, Nat.add_sub_cancel_left] at hv
    have hv := hv.2 (by omega)
    have hneg : ¬ σ q (mp ps 1) < 0 := hneg
    have hv : okR (mz σ 0) (mp ps 2) (σ q (mp ps 1)) := by
      rw [← h0]
      rcases hv with z | z
      · omega
      · exact z
    refine ⟨?_, okV_r h3 hv⟩
    rw [h0, mrep_r w h3]
    unfold mfv
    rw [if_neg (by omega), if_neg hneg]
    rfl
  by_cases e : op = 54
  · subst e
    have hn : n = 3 := hn
    subst hn
    have hl : (mLkF own ps && (Nat.beq (mft (mp ps 0) (mp ps 1)) 0 && decide ((mTf (mp ps 0) (mp ps 1)).2.2.1 = "I")) && (!(mTf (mp ps 0) (mp ps 1)).2.2.2 && decide (mfx (mp ps 0) (mp ps 1) = none))) = true := hl
    simp only [Bool.and_eq_true, Bool.not_eq_true', decide_eq_true_eq] at hl
    obtain ⟨q1, q2, q3⟩ := mLkF_s F hl.1.1
    have h0 := Nat.eq_of_beq_eq_true hl.1.2.1
    obtain ⟨x, S1, rfl, h1⟩ := mpop1_some h
    obtain ⟨t, y, S', rfl, ht, h2⟩ := mpopR_some h1
    obtain ⟨rfl, h3⟩ := beq_t h2
    refine so_put F q1 q2 q3 hd (Or.inl hl.2.1) (u := (0, x)) (fun _ ty hty _ => ?_) (fun _ => by rw [h0]; rfl) (fun hu => okF_o q1 (fun _ => hu.1 rfl) (fun z => absurd h0 z)) (fun _ => hl.2.2) (hg _ _ _ _ h3)
    have := pf_I hl.1.2.2 hty
    subst this
    exact ⟨rfl, rfl⟩
  by_cases e : op = 55
  · subst e
    have hn : n = 3 := hn
    subst hn
    have hl : (mLkF own ps && (Nat.beq (mft (mp ps 0) (mp ps 1)) (mp ps 2) && Nat.blt 3 (mp ps 2)) && (!(mTf (mp ps 0) (mp ps 1)).2.2.2 && (ct || decide (mfx (mp ps 0) (mp ps 1) = none)))) = true := hl
    simp only [Bool.and_eq_true, Bool.not_eq_true', Bool.or_eq_true, decide_eq_true_eq] at hl
    obtain ⟨q1, q2, q3⟩ := mLkF_s F hl.1.1
    have h0 := Nat.eq_of_beq_eq_true hl.1.2.1
    have h3' := Nat.blt_eq.mp hl.1.2.2
    obtain ⟨t2, x, S1, rfl, ht2, h1⟩ := mpopR_some h
    obtain ⟨t, y, S', rfl, ht, h2⟩ := mpopR_some h1
    obtain ⟨hbb, h3⟩ := cond_some h2
    rw [Bool.and_eq_true] at hbb
    have e1 := Nat.eq_of_beq_eq_true hbb.1
    have e2 := Nat.eq_of_beq_eq_true hbb.2
    subst e1
    subst e2
    refine so_put F q1 q2 q3 hd (Or.inl hl.2.1) (u := (mp ps 2, x)) (fun _ ty hty hr => ?_) (fun hu => ?_) (fun hu => okF_o q1 (fun z => by omega) (fun _ => Or.inr (by rw [h0]; exact hu.2.2 h3'))) (fun hct => ?_) (hg _ _ _ _ h3)
    · rw [mrep_r w h3']
      exact hr (by omega) _
    · have := okR_nn (hu.2.2 h3')
      rw [h0, mrep_r w h3']
      unfold mfv
      rw [if_neg (by omega), if_neg (by omega)]
    · rcases hl.2.2 with z | z
      · rw [hct] at z; cases z
      · exact z
  by_cases e : op = 56
  · subst e
    have hn : n = 3 := hn
    subst hn
    have hl : (mLkF own ps && (Nat.beq (mft (mp ps 0) (mp ps 1)) (mp ps 2) && Nat.blt 3 (mp ps 2)) && ((mTf (mp ps 0) (mp ps 1)).2.2.2 && ct && ini && decide (mC (mp ps 0) = own))) = true := hl
    simp only [Bool.and_eq_true, decide_eq_true_eq] at hl
    obtain ⟨q1, q2, q3⟩ := mLkF_s F hl.1.1
    have h0 := Nat.eq_of_beq_eq_true hl.1.2.1
    have h3' := Nat.blt_eq.mp hl.1.2.2
    obtain ⟨t2, x, S1, rfl, ht2, h1⟩ := mpopR_some h
    obtain ⟨t, y, S', rfl, ht, h2⟩ := mpopR_some h1
    obtain ⟨hbb, h3⟩ := cond_some h2
    rw [Bool.and_eq_true] at hbb
    have e1 := Nat.eq_of_beq_eq_true hbb.1
    have e2 := Nat.eq_of_beq_eq_true hbb.2
    subst e1
    subst e2
    refine so_put F q1 q2 q3 hd (Or.inr ⟨hl.2.1.1.1, hini hl.2.1.2, hl.2.2⟩) (u := (mp ps 2, x)) (fun _ ty hty hr => ?_) (fun hu => ?_) (fun hu => okF_o q1 (fun z => by omega) (fun _ => Or.inr (by rw [h0]; exact hu.2.2 h3'))) (fun hct => ?_) (hg _ _ _ _ h3)
    · rw [mrep_r w h3']
      exact hr (by omega) _
    · have := okR_nn (hu.2.2 h3')
      rw [h0, mrep_r w h3']
      unfold mfv
      rw [if_neg (by omega), if_neg (by omega)]
    · rw [hl.2.1.1.2] at hct; cases hct
  by_cases e : op = 57
  · subst e
    have hn : n = 3 := hn
    subst hn
    have hl : (mLkF own ps && (Nat.beq (mft (mp ps 0) (mp ps 1)) 0 && decide ((mTf (mp ps 0) (mp ps 1)).2.2.1 = "Z")) && (!(mTf (mp ps 0) (mp ps 1)).2.2.2 && decide (mfx (mp ps 0) (mp ps 1) = none))) = true := hl
    simp only [Bool.and_eq_true, Bool.not_eq_true', decide_eq_true_eq] at hl
    obtain ⟨q1, q2, q3⟩ := mLkF_s F hl.1.1
    have h0 := Nat.eq_of_beq_eq_true hl.1.2.1
    obtain ⟨x, S1, rfl, h1⟩ := mpop1_some h
    obtain ⟨t, y, S', rfl, ht, h2⟩ := mpopR_some h1
    obtain ⟨rfl, h3⟩ := beq_t h2
    obtain ⟨hx2, h3⟩ := bIn_some h3
    refine so_put F q1 q2 q3 hd (Or.inl hl.2.1) (u := (0, x)) (fun _ ty hty _ => ?_) (fun _ => by rw [h0]; rfl) (fun hu => okF_o q1 (fun _ => hu.1 rfl) (fun z => absurd h0 z)) (fun _ => hl.2.2) (hg _ _ _ _ h3)
    have := pf_Z hl.1.2.2 hty
    subst this
    rcases (by omega : x = 0 ∨ x = 1) with rfl | rfl <;> exact ⟨rfl, rfl⟩
  have st : ∀ (hS : mLkS ps = true), (mp ps 0 = 7008 ∧ mp ps 1 = 900) ∨ (mp ps 0 = 7108 ∧ mp ps 1 = 901) ∨ (mp ps 0 = 7232 ∧ mp ps 1 = 902) := by
    intro hS
    unfold mLkS at hS
    simp only [Bool.or_eq_true, Bool.and_eq_true] at hS
    rcases hS with (⟨a, b⟩ | ⟨a, b⟩) | ⟨a, b⟩
    · exact Or.inl ⟨Nat.eq_of_beq_eq_true a, Nat.eq_of_beq_eq_true b⟩
    · exact Or.inr (Or.inl ⟨Nat.eq_of_beq_eq_true a, Nat.eq_of_beq_eq_true b⟩)
    · exact Or.inr (Or.inr ⟨Nat.eq_of_beq_eq_true a, Nat.eq_of_beq_eq_true b⟩)
  obtain ⟨z1, z2, z3⟩ := F.2.2.2.2.2.2.2.1.2.2
  by_cases e : op = 58
  · subst e
    have hn : n = 3 := hn
    subst hn
    have hl : (mLkS ps && decide (mWd1 (mp ps 3) = some (.fieldLink own (mp ps 2) (mStat (mp ps 1)).1 (mStat (mp ps 1)).2 "[I"))) = true := hl
    rw [Bool.and_eq_true, decide_eq_true_eq] at hl
    have hw := mWS_in F hl.2 rfl
    have h : g (pc + 3) L ((mp ps 0, (mp ps 1 : Int)) :: S) σ = some a0 := h
    rcases st hl.1 with ⟨a, b⟩ | ⟨a, b⟩ | ⟨a, b⟩ <;> rw [b] at hw <;> rw [a, b] at h
    · exact so_58 (k := 0) F (Or.inl ⟨rfl, rfl⟩) (fun H locs cells slots ls rest hS k => va_gets (C := RX9) hx hb z1 hS F.2.2.2.1 hw (fun _ h => h) hd k) (hg _ _ _ _ h)
    · exact so_58 (k := 1) F (Or.inr (Or.inl ⟨rfl, rfl⟩)) (fun H locs cells slots ls rest hS k => va_gets (C := RX5) hx hb z2 hS F.2.2.2.1 hw (fun _ h => h) hd k) (hg _ _ _ _ h)
    · exact so_58 (k := 2) F (Or.inr (Or.inr ⟨rfl, rfl⟩)) (fun H locs cells slots ls rest hS k => va_gets (C := RX5) hx hb z3 hS F.2.2.2.1 hw (fun _ h => h) hd k) (hg _ _ _ _ h)
  by_cases e : op = 59
  · subst e
    have hn : n = 3 := hn
    subst hn
    have hl : (mLkS ps && decide (mWd1 (mp ps 3) = some (.fieldLinkNest own (mp ps 2) (mStat (mp ps 1)).1 (mStat (mp ps 1)).2 "[I" RX9))) = true := hl
    rw [Bool.and_eq_true, decide_eq_true_eq] at hl
    have hw := va_Nw.use (A := args) rfl (F.2.2.2.2.2.1.1 _ (mWd1_in hl.2) rfl)
    have h : g (pc + 3) L ((mp ps 0, (mp ps 1 : Int)) :: S) σ = some a0 := h
    rcases st hl.1 with ⟨a, b⟩ | ⟨a, b⟩ | ⟨a, b⟩ <;> rw [b] at hw <;> rw [a, b] at h
    · exact so_58 (k := 0) F (Or.inl ⟨rfl, rfl⟩) (fun H locs cells slots ls rest hS k => va_getsN (C := RX9) hx hb z1 hS F.2.2.2.1 hw (fun _ h => h) hd k) (hg _ _ _ _ h)
    · exact so_58 (k := 1) F (Or.inr (Or.inl ⟨rfl, rfl⟩)) (fun H locs cells slots ls rest hS k => va_getsN (C := RX5) hx hb z2 hS F.2.2.2.1 hw (fun _ h => h) hd k) (hg _ _ _ _ h)
    · exact so_58 (k := 2) F (Or.inr (Or.inr ⟨rfl, rfl⟩)) (fun H locs cells slots ls rest hS k => va_getsN (C := RX5) hx hb z3 hS F.2.2.2.1 hw (fun _ h => h) hd k) (hg _ _ _ _ h)
  by_cases e : op = 60
  · subst e
    have hn : n = 1 := hn
    subst hn
    obtain ⟨i, S1, rfl, h1⟩ := mpop1_some h
    obtain ⟨t, x, S', rfl, ht, h2⟩ := mpopR_some h1
    obtain ⟨hbb, h3⟩ := cond_some h2
    obtain ⟨hi, h4⟩ := bIn_some h3
    simp only [Bool.or_eq_true, Bool.and_eq_true] at hbb
    have k4 := hg _ _ _ _ h4
    intro H locs cells slots ls hL okL okS hW hS hA
    have hR := (ok_t okS _ List.mem_cons_self).2.2 ht
    have hel := F.2.2.2.2.2.2.2.1.2.1
    obtain ⟨q, e1, hq⟩ := hR
    have e1 : x = (q : Int) := e1
    have hq : (q < mz σ 0 ∧ mlay q = t ∧ 20 ≤ t ∧ (t < 4000 ∨ 9000 ≤ t)) ∨ (t = 4 ∧ q = 903) ∨ (t = 7008 ∧ q = 900) ∨ (t = 7108 ∧ q = 901) ∨ (t = 7232 ∧ q = 902) := hq
    rcases hq with ⟨y1, y2, y3, y4⟩ | ⟨y1, y2⟩ | ⟨y1, y2⟩ | ⟨y1, y2⟩ | ⟨y1, y2⟩
    · have r1 : 1000 ≤ t ∧ t < 2000 := by
        rcases hbb with (z | z) | z
        · have := Nat.eq_of_beq_eq_true z; omega
        · exact ⟨Nat.le_of_ble_eq_true z.1, Nat.blt_eq.mp z.2⟩
        · have a1 := Nat.le_of_ble_eq_true z.1
          have a2 := Nat.blt_eq.mp z.2
          omega
      exact so_60 F r1.1 r1.2 hi hd k4 H locs cells slots ls hL okL okS hW hS hA
    · subst y1; subst y2; subst e1
      have e4 : mlen σ 4 = (mel w 3 : Int) := hW.1.2.2.2
      rw [e4] at hi
      exact so_ext (k := 3) F (by omega) ht hi hd k4 H locs cells slots ls hL okL okS hW hS hA
    · subst y1; subst y2; subst e1
      have e4 : mlen σ 7008 = (mel w 0 : Int) := by rw [hel.1]; rfl
      rw [e4] at hi
      exact so_ext (k := 0) F (by omega) ht hi hd k4 H locs cells slots ls hL okL okS hW hS hA
    · subst y1; subst y2; subst e1
      have e4 : mlen σ 7108 = (mel w 1 : Int) := by rw [hel.2.1]; rfl
      rw [e4] at hi
      exact so_ext (k := 1) F (by omega) ht hi hd k4 H locs cells slots ls hL okL okS hW hS hA
    · subst y1; subst y2; subst e1
      have e4 : mlen σ 7232 = (mel w 2 : Int) := by rw [hel.2.2.1]; rfl
      rw [e4] at hi
      exact so_ext (k := 2) F (by omega) ht hi hd k4 H locs cells slots ls hL okL okS hW hS hA
  by_cases e : op = 61
  · subst e
    have hn : n = 1 := hn
    subst hn
    obtain ⟨v, S0, rfl, h0⟩ := mpop1_some h
    obtain ⟨i, S1, rfl, h1⟩ := mpop1_some h0
    obtain ⟨t, x, S', rfl, ht, h2⟩ := mpopR_some h1
    obtain ⟨hbb, h3⟩ := cond_some h2
    obtain ⟨hi, h4⟩ := bIn_some h3
    rw [Bool.and_eq_true] at hbb
    exact so_61 F (Nat.le_of_ble_eq_true hbb.1) (Nat.blt_eq.mp hbb.2) hi hd (hg _ _ _ _ h4)
  by_cases e : op = 63
  · subst e
    have hn : n = 1 := hn
    subst hn
    obtain ⟨v, S0, rfl, h0⟩ := mpopJ_some h
    obtain ⟨i, S1, rfl, h1⟩ := mpop1_some h0
    obtain ⟨t, x, S', rfl, ht, h2⟩ := mpopR_some h1
    obtain ⟨hbb, h3⟩ := cond_some h2
    obtain ⟨hi, h4⟩ := bIn_some h3
    rw [Bool.and_eq_true] at hbb
    exact so_63 F (Nat.le_of_ble_eq_true hbb.1) (Nat.blt_eq.mp hbb.2) hi hd (hg _ _ _ _ h4)
  by_cases e : op = 62
  · subst e
    have hn : n = 1 := hn
    subst hn
    obtain ⟨i, S1, rfl, h1⟩ := mpop1_some h
    obtain ⟨t, x, S', rfl, ht, h2⟩ := mpopR_some h1
    obtain ⟨hbb, h3⟩ := cond_some h2
    obtain ⟨hi, h4⟩ := bIn_some h3
    rw [Bool.and_eq_true] at hbb
    exact so_62 F (Nat.le_of_ble_eq_true hbb.1) (Nat.blt_eq.mp hbb.2) hi hd (hg _ _ _ _ h4)
  by_cases e : op = 64
  · subst e
    have hn : n = 1 := hn
    subst hn
    obtain ⟨i, S1, rfl, h1⟩ := mpop1_some h
    obtain ⟨t, x, S', rfl, ht, h2⟩ := mpopR_some h1
    obtain ⟨hbb, h3⟩ := cond_some h2
    obtain ⟨hi, h4⟩ := bIn_some h3
    rw [Bool.and_eq_true] at hbb
    exact so_64 F (Nat.le_of_ble_eq_true hbb.1) (Nat.blt_eq.mp hbb.2) hi hd (hg _ _ _ _ h4)
  by_cases e : op = 65
  · subst e
    have hn : n = 1 := hn
    subst hn
    obtain ⟨v, S0, rfl, h0⟩ := mpop1_some h
    obtain ⟨i, S1, rfl, h1⟩ := mpop1_some h0
    obtain ⟨t, x, S', rfl, ht, h2⟩ := mpopR_some h1
    obtain ⟨hbb, h3⟩ := cond_some h2
    obtain ⟨hi, h4⟩ := bIn_some h3
    rw [Bool.and_eq_true] at hbb
    obtain ⟨hv2, h4⟩ := bIn_some h4
    exact so_65 F (Nat.le_of_ble_eq_true hbb.1) (Nat.blt_eq.mp hbb.2) hi hv2 hd (hg _ _ _ _ h4)
  by_cases e : op = 66
  · subst e
    have hn : n = 1 := hn
    subst hn
    have hl : (!ct) = true := hl
    obtain ⟨i, S1, rfl, h1⟩ := mpop1_some h
    obtain ⟨t, x, S', rfl, ht, h2⟩ := mpopR_some h1
    obtain ⟨rfl, h3⟩ := beq_t h2
    obtain ⟨hi, h4⟩ := bIn_some h3
    exact so_66 F (by simpa using hl) hi hd (hg _ _ _ _ h4)
  by_cases e : op = 68
  · subst e
    have hn : n = 1 := hn
    subst hn
    obtain ⟨t, x, S', rfl, ht, h2⟩ := mpopR_some h
    obtain ⟨rfl, h3⟩ := beq_t h2
    exact so_68 F hd (hg _ _ _ _ h3)
  exfalso
  have nb : ∀ {k : Nat}, ¬ op = k → Nat.beq op k = false := fun {k} hk => by
    cases hq : Nat.beq op k
    · rfl
    · exact absurd (Nat.eq_of_beq_eq_true hq) hk
  unfold mstepD at h
  simp only [nb (by assumption : ¬ op = 51), nb (by assumption : ¬ op = 52), nb (by assumption : ¬ op = 53), nb (by assumption : ¬ op = 54), nb (by assumption : ¬ op = 55), nb (by assumption : ¬ op = 56), nb (by assumption : ¬ op = 57), nb (by assumption : ¬ op = 58), nb (by assumption : ¬ op = 59), nb (by assumption : ¬ op = 60), nb (by assumption : ¬ op = 61), nb (by assumption : ¬ op = 62), nb (by assumption : ¬ op = 63), nb (by assumption : ¬ op = 64), nb (by assumption : ¬ op = 65), nb (by assumption : ¬ op = 66), nb (by assumption : ¬ op = 68), Bool.or_false, cond_false] at h
  cases h
end
end
section
/-! SOUNDNESS 7: group E; contracts and calls -/
def mInsE (op : Nat) (ps : List Nat) : Instr × Nat :=
  bif Nat.beq op 67 then (.aastore, 1) else bif Nat.beq op 70 then (.newarray .int, 2) else bif Nat.beq op 71 then (.newarray .boolean, 2) else bif Nat.beq op 72 then (.newarray .long, 2)
  else bif Nat.beq op 73 then (.anewarray (mp ps 1), 3) else bif Nat.beq op 74 then (.new (mp ps 2), 3) else (.invokespecial (mp ps 0), 3)
def mLkE (own : String) (ct : Bool) (op : Nat) (ps : List Nat) : Bool := ct &&
  (bif Nat.beq op 67 then true else bif Nat.beq op 70 then Nat.beq (mp ps 0) 1000 else bif Nat.beq op 71 then Nat.beq (mp ps 0) 2000 else bif Nat.beq op 72 then Nat.beq (mp ps 0) 3000
  else bif Nat.beq op 73 then Nat.beq (mp ps 0) 9000 && decide (mWd1 (mp ps 2) = some (.classLink own (mp ps 1) RX3))
  else bif Nat.beq op 74 then Nat.blt (mp ps 0) 11 && Nat.beq (mp ps 1) (mNf (mp ps 0)) && decide (mWd1 (mp ps 3) = some (.classLink own (mp ps 2) (mC (mp ps 0)))) && decide (mWd1 (mp ps 4) = some (.instantiable (mC (mp ps 0)) (mp ps 1))) && decide (mWd1 (mp ps 5) = some (.initialized (mC (mp ps 0))))
  else Nat.beq op 75 && decide (mWd1 (mp ps 1) = some (.methodLink own (mp ps 0) Lib.objectInit)))
section
variable {p : Program} {l : Launch} {e : Env} {R : Room} {s : State} {m : MethodId} {args : Array Value} {below : List Frame} {meth : Method} {c : Code} {Q : State → Prop} {w : mW} {ct : Bool} {nL : Nat} {n0 s0 : Int} {own : String} {cc : ByteArray} {pc : Nat} {L S : List mV} {σ : mM} {a0 : Int × mM} {g : mG}

theorem snd_E {op n : Nat} {ps : List Nat} {mx : Int × Int} (F : mF p R s args m c w own cc nL) (hsz : ct = true → (s.heap.size : Int) = mb w + n0) (hmx : mx = (n0 + (R.cells : Int), s0 + (R.slots : Int))) (hd : decode cc pc = .ok (mInsE op ps)) (hn : n = (mInsE op ps).2) (hl : mLkE own ct op ps = true)
    (hg : ∀ pc L S σ, g pc L S σ = some a0 → mGoal p l e R s m args below meth c Q w ct nL n0 s0 pc L S σ) (h : mstepE g op n ps mx pc L S σ = some a0) : mGoal p l e R s m args below meth c Q w ct nL n0 s0 pc L S σ := by
  subst hmx
  unfold mLkE at hl
  rw [Bool.and_eq_true] at hl
  obtain ⟨hct, hl⟩ := hl
  have hsz := hsz hct
  by_cases e : op = 67
  · subst e
    have hn : n = 1 := hn
    subst hn
    obtain ⟨t2, v, S0, rfl, ht2, h0⟩ := mpopR_some h
    obtain ⟨i, S1, rfl, h1⟩ := mpop1_some h0
    obtain ⟨t, x, S', rfl, ht, h2⟩ := mpopR_some h1
    obtain ⟨hbb, h3⟩ := cond_some h2
    rw [Bool.and_eq_true] at hbb
    have e1 := Nat.eq_of_beq_eq_true hbb.1
    have e2 := Nat.eq_of_beq_eq_true hbb.2
    subst e1
    subst e2
    obtain ⟨hi, h4⟩ := bIn_some h3
    exact so_67 F hct hi hd (hg _ _ _ _ h4)
  have na : ∀ {op : Nat} (hop : op = 70 ∨ op = 71 ∨ op = 72 ∨ op = 73) (h : mstepE g op n ps (n0 + (R.cells : Int), s0 + (R.slots : Int)) pc L S σ = some a0), ∃ k S', S = (0, k) :: S' ∧ (0 ≤ k ∧ k < 1000 ∧ mlay (mz σ 0) = mp ps 0 + k.toNat ∧ σ 905 0 + 1 ≤ n0 + (R.cells : Int) ∧ σ 905 1 + k ≤ s0 + (R.slots : Int)) ∧ g (pc + n) L ((mp ps 0 + k.toNat, σ 905 0) :: S') (mnew σ (mp ps 0 + k.toNat) k.toNat) = some a0 := by
    intro op hop h
    have h : mpop1 S (fun k S' => if 0 ≤ k ∧ k < 1000 ∧ mlay (mz σ 0) = mp ps 0 + k.toNat ∧ σ 905 0 + 1 ≤ n0 + (R.cells : Int) ∧ σ 905 1 + k ≤ s0 + (R.slots : Int) then g (pc + n) L ((mp ps 0 + k.toNat, σ 905 0) :: S') (mnew σ (mp ps 0 + k.toNat) k.toNat) else none) = some a0 := by
      rcases hop with rfl | rfl | rfl | rfl <;> exact h
    obtain ⟨k, S', e1, h1⟩ := mpop1_some h
    by_cases q : 0 ≤ k ∧ k < 1000 ∧ mlay (mz σ 0) = mp ps 0 + k.toNat ∧ σ 905 0 + 1 ≤ n0 + (R.cells : Int) ∧ σ 905 1 + k ≤ s0 + (R.slots : Int)
    · rw [if_pos q] at h1
      exact ⟨k, S', e1, q, h1⟩
    · rw [if_neg q] at h1
      cases h1
  by_cases e : op = 70
  · subst e
    have hn : n = 2 := hn
    subst hn
    have hb := Nat.eq_of_beq_eq_true (show Nat.beq (mp ps 0) 1000 = true from hl)
    obtain ⟨k, S', rfl, q, h1⟩ := na (by omega) h
    rw [hb] at q h1
    exact so_newi F hct hsz ⟨q.1, q.2.1⟩ q.2.2.1 q.2.2.2 hd (hg _ _ _ _ h1)
  by_cases e : op = 71
  · subst e
    have hn : n = 2 := hn
    subst hn
    have hb := Nat.eq_of_beq_eq_true (show Nat.beq (mp ps 0) 2000 = true from hl)
    obtain ⟨k, S', rfl, q, h1⟩ := na (by omega) h
    rw [hb] at q h1
    exact so_newb F hct hsz ⟨q.1, q.2.1⟩ q.2.2.1 q.2.2.2 hd (hg _ _ _ _ h1)
  by_cases e : op = 72
  · subst e
    have hn : n = 2 := hn
    subst hn
    have hb := Nat.eq_of_beq_eq_true (show Nat.beq (mp ps 0) 3000 = true from hl)
    obtain ⟨k, S', rfl, q, h1⟩ := na (by omega) h
    rw [hb] at q h1
    exact so_newj F hct hsz ⟨q.1, q.2.1⟩ q.2.2.1 q.2.2.2 hd (hg _ _ _ _ h1)
  by_cases e : op = 73
  · subst e
    have hn : n = 3 := hn
    subst hn
    have hl : (Nat.beq (mp ps 0) 9000 && decide (mWd1 (mp ps 2) = some (.classLink own (mp ps 1) RX3))) = true := hl
    rw [Bool.and_eq_true, decide_eq_true_eq] at hl
    have hb := Nat.eq_of_beq_eq_true hl.1
    obtain ⟨k, S', rfl, q, h1⟩ := na (by omega) h
    rw [hb] at q h1
    have hk : k = 6 := by
      have := mlay_q (mz σ 0)
      omega
    exact so_newq F hct hsz hk q.2.2.1 q.2.2.2 (mWS_in F hl.2 rfl) hd (hg _ _ _ _ h1)
  by_cases e : op = 74
  · subst e
    have hn : n = 3 := hn
    subst hn
    have hl : (Nat.blt (mp ps 0) 11 && Nat.beq (mp ps 1) (mNf (mp ps 0)) && decide (mWd1 (mp ps 3) = some (.classLink own (mp ps 2) (mC (mp ps 0)))) && decide (mWd1 (mp ps 4) = some (.instantiable (mC (mp ps 0)) (mp ps 1))) && decide (mWd1 (mp ps 5) = some (.initialized (mC (mp ps 0))))) = true := hl
    simp only [Bool.and_eq_true, decide_eq_true_eq] at hl
    have h : (if mlay (mz σ 0) = 20 + mp ps 0 ∧ σ 905 0 + 1 ≤ n0 + (R.cells : Int) ∧ σ 905 1 + (mp ps 1 : Int) ≤ s0 + (R.slots : Int) then g (pc + 3) L ((20 + mp ps 0, σ 905 0) :: S) (mnew σ (20 + mp ps 0) (mp ps 1)) else none) = some a0 := h
    by_cases q : mlay (mz σ 0) = 20 + mp ps 0 ∧ σ 905 0 + 1 ≤ n0 + (R.cells : Int) ∧ σ 905 1 + (mp ps 1 : Int) ≤ s0 + (R.slots : Int)
    · rw [if_pos q] at h
      exact so_newo F hct hsz (Nat.blt_eq.mp hl.1.1.1.1) (Nat.eq_of_beq_eq_true hl.1.1.1.2) q.1 q.2 (mWS_in F hl.1.1.2 rfl) (mWS_in F hl.1.2 rfl) (mWS_in F hl.2 rfl) hd (hg _ _ _ _ h)
    · rw [if_neg q] at h
      cases h
  by_cases e : op = 75
  · subst e
    have hn : n = 3 := hn
    subst hn
    have hl : decide (mWd1 (mp ps 1) = some (.methodLink own (mp ps 0) Lib.objectInit)) = true := hl
    rw [decide_eq_true_eq] at hl
    obtain ⟨t, x, S', rfl, ht, h1⟩ := mpopR_some h
    obtain ⟨hbb, h2⟩ := cond_some h1
    simp only [Bool.and_eq_true] at hbb
    exact so_75 F ⟨Nat.le_of_ble_eq_true hbb.1.1, Nat.blt_eq.mp hbb.1.2⟩ (Nat.le_of_ble_eq_true hbb.2) (mWS_in F hl rfl) hd (hg _ _ _ _ h2)
  exfalso
  have nb : ∀ {k : Nat}, ¬ op = k → Nat.beq op k = false := fun {k} hk => by
    cases hq : Nat.beq op k
    · rfl
    · exact absurd (Nat.eq_of_beq_eq_true hq) hk
  simp only [nb (by assumption : ¬ op = 67), nb (by assumption : ¬ op = 70), nb (by assumption : ¬ op = 71), nb (by assumption : ¬ op = 72), nb (by assumption : ¬ op = 73), nb (by assumption : ¬ op = 74), nb (by assumption : ¬ op = 75), cond_false, Bool.false_and] at hl
  cases hl
end
/-! contracts -/
def mUW (ct : Bool) (w : mW) (σ : mM) (U : State) : Prop := va_P (mdd w) vwCl (mws w σ) U.heap ∧ va_K (mdd w) vwCl (mtys w) U ∧ mEXT w U U.heap ∧ mNW U ∧ mb w ≤ U.heap.size ∧ (ct = true → U.heap.size = mb w + mz σ 0)
def mPc (ct : Bool) (w : mW) (as : List mV) (σ : mM) : Array Value → State → Prop := fun a U => a = (as.map (mrep w)).toArray ∧ mUW ct w σ U
def mrv (w : mW) (rt : Nat) (r : Int) : Option Value := if rt = 0 then none else some (mrep w (rt - 1, r))
def mQc (ct : Bool) (w : mW) (rt : Nat) (r : Int) (σ' : mM) : Array Value → State → Outcome → State → Prop := fun _ st o t =>
  o = .returned (mrv w rt r) ∧ okM w σ' ∧ (ct = false → mFX σ') ∧ (rt ≠ 0 → okV (mz σ' 0) (rt - 1, r)) ∧ va_P (mdd w) vwCl (mws w σ') t.heap ∧ (∀ q, q < mb w → t.heap[q]? = st.heap[q]?) ∧ st.heap.size ≤ t.heap.size
def mrm (d al sl : Nat) : Room := { frames := d, cells := al, slots := sl, locals := 40 * d + 60 }
def mwsl (m : Nat) : List Cond := .code (mNm m) (mCc m) (mmaxL m) (mRt m) :: mWS
/-- the contracts of all methods, by a run of the mini machine at depth d -/
def mMet (l : Launch) (w : mW) (K : mK) (d : Nat) : Prop := ∀ (k : Nat) (as : List mV) (σ : mM) (r : Int) (σ' : mM), k < 229 → K k as σ = some (r, σ') → okM w σ → (mctor k = false → mFX σ) → (∀ v ∈ as, okV (mz σ 0) v) →
  Met l (mNm k) (mwsl k) (mrm d (mal k) (msl k)) (mPc (mctor k) w as σ) (mQc (mctor k) w (mRa k) r σ') (mal k) (msl k) (mAr w)
theorem mEXT_mv {w : mW} {U V : State} {H : Heap} (hvm : U.vm.Alike V.vm) (h : mEXT w U H) : mEXT w V H :=
  ⟨fun k hk => ⟨(h.1 k hk).1.moved hvm, (h.1 k hk).2⟩, h.2.1, h.2.2.1.moved hvm, h.2.2.2.1.moved hvm, h.2.2.2.2.moved hvm⟩
theorem mEXT_kp {w : mW} {U : State} {H H1 : Heap} (h : mEXT w U H) (hb : mb w ≤ H.size) (hq : ∀ q : Nat, q < mb w → H1[q]? = H[q]?) : mEXT w U H1 := by
  have hz : ∀ {C n d : String} {v : Value}, va_Z C n d v (mAr w) U H → va_Z C n d v (mAr w) U H1 := fun h => h.kept fun a _ ha => hq a (Nat.not_le.mp ha)
  exact ⟨fun k hk => ⟨(h.1 k hk).1.kept (hq _ (h.1 k hk).2.1), (h.1 k hk).2⟩, h.2.1, hz h.2.2.1, hz h.2.2.2.1, hz h.2.2.2.2⟩
theorem mNW_vm {U V : State} (hvm : U.vm = V.vm) (h : mNW U) : mNW V := by
  refine ⟨fun x hx hn => ?_, h.2.moved (by rw [hvm]; exact Vm.Alike.refl _)⟩
  have hz := h.1 x hx hn
  cases x <;> first | exact va_Nw.same rfl hvm hz | (cases hn; done)
theorem mNW_warm {s U : State} (hW : s.WarmedH U.vm) (h : mNW s) : mNW U := by
  refine ⟨fun x hx hn => ?_, h.2.moved hW.alike⟩
  have hz := h.1 x hx hn
  cases x <;> first | exact va_Nw.warmM hW hz | exact va_Nw.warmF hW hz | (cases hn; done)
theorem mPc_blind (ct : Bool) (w : mW) (as : List mV) (σ : mM) : FrameBlind (mPc ct w as σ) := by
  intro a U g mk h
  exact ⟨h.1, h.2.1, va_K.moved (u := U) (U := U.calling g mk a) (Vm.Alike.refl U.vm) h.2.2.1, mEXT_mv (U := U) (V := U.calling g mk a) (Vm.Alike.refl U.vm) h.2.2.2.1, mNW_vm (U := U) (V := U.calling g mk a) rfl h.2.2.2.2.1, h.2.2.2.2.2⟩
section
variable {p : Program} {l : Launch} {e : Env} {R : Room} {s : State} {m : MethodId} {args : Array Value} {below : List Frame} {meth : Method} {c : Code} {Q : State → Prop} {w : mW} {ct : Bool} {nL : Nat} {n0 s0 : Int} {own : String} {cc : ByteArray} {pc : Nat} {L S : List mV} {σ : mM} {a0 : Int × mM} {g : mG}

theorem m_call {mc ms rt : Nat} {r : Int} {σ' : mM} {ct' : Bool} {H : Heap} {locs : List Loc} {cells slots : Nat} {ls : Array Slot} {st0 rest : List Value} {a : Array Value}
    (hr : va_Run p l e R s m args below meth c H locs cells slots mc ms (F0 m pc ls st0) rest (mQc ct' w rt r σ' a) (mAr w)) (hS : va_S (mAr w) s.heap H locs) (hb : mb w ≤ s.heap.size)
    (kk : ∀ (H1 : Heap) (locs1 : List Loc), okM w σ' → (ct' = false → mFX σ') → (rt ≠ 0 → okV (mz σ' 0) (rt - 1, r)) → va_P (mdd w) vwCl (mws w σ') H1 → va_S (mAr w) s.heap H1 locs1 → W p l e R s m args below meth c H1 locs1 (cells + mc) (slots + ms) Q (F0 m (pc + 3) ls ((mrv w rt r).toList ++ rest))) :
    W p l e R s m args below meth c H locs cells slots Q (F0 m pc ls st0) := by
  intro T hT X
  obtain ⟨v, st₀, t, T', L2, h0, X', hL, e1, e2, ⟨hv, q1, q2, q3, q4, q5, q6⟩, st⟩ := hr T hT X
  have hv : v = mrv w rt r := Outcome.returned.inj hv
  subst hv
  rw [h0] at q5 q6
  obtain ⟨t2, a1, b1⟩ := kk T'.heap (locs ++ L2) q1 q2 q3 (by rw [e1]; exact q4) ⟨Nat.le_trans hS.1 (by rw [e1]; exact q6), fun q h1 h2 => by
    rw [e1, q5 q (Nat.not_le.mp h2)]
    exact hS.2.1 q h1 h2, fun q hq => by
      rcases List.mem_append.mp hq with h | h
      · exact hS.2.2 q h
      · exact hL q h⟩ T' rfl X'
  exact ⟨t2, st t2 a1, b1⟩
/-- what a call needs of the world -/
theorem m_pre (F : mF p R s args m c w own cc nL) {H : Heap} {locs : List Loc} {ct' : Bool} {as : List mV} (hW : mWd ct w σ H) (hS : va_S (mAr w) s.heap H locs) (hz : ct' = true → H.size = mb w + mz σ 0) (U : State) (hU : U.heap = H) (hV : s.WarmedH U.vm) : mPc ct' w as σ (as.map (mrep w)).toArray U := by
  refine ⟨rfl, by rw [hU]; exact hW.2.2, va_K.moved hV.alike F.2.2.2.2.2.2.1, ?_, mNW_warm hV F.2.2.2.2.2.1, by rw [hU]; exact Nat.le_trans F.2.2.2.2.2.2.2.2.1 hS.1, fun h => by rw [hU]; exact hz h⟩
  rw [hU]
  exact mEXT_kp (mEXT_mv hV.alike F.2.2.2.2.2.2.2.1) F.2.2.2.2.2.2.2.2.1 (fun q hq => hS.2.1 q (Nat.lt_of_lt_of_le hq F.2.2.2.2.2.2.2.2.1) (Nat.not_le.mpr hq))
theorem m_words (F : mF p R s args m c w own cc nL) {k : Nat} (hk : k < 229) : ∀ x ∈ mwsl k, ∀ (a' : Array Value) (U : State), s.WarmedH U.vm → x.before a' U = true := by
  intro x hx a' U hV
  have hin : x ∈ mWS := by
    rcases List.mem_cons.mp hx with rfl | h
    · exact mWd1_ws (mFa_all hk).1 rfl
    · exact h
  exact word_at hV (good_of_word (List.mem_filter.mp hin).2) (F.2.2.2.2.1 x hin)
/-- behind a call -/
theorem so_behind (F : mF p R s args m c w own cc nL) {k : Nat} {r : Int} {σ' : mM} {as : List mV} (hcc : mctor k = ct) (hsz : ct = true → (s.heap.size : Int) = mb w + n0) (hc0 : ct = false → mal k = 0 ∧ msl k = 0) (hal : ct = true → σ' 905 0 = σ 905 0 + (mal k : Int) ∧ σ' 905 1 = σ 905 1 + (msl k : Int) ∧ σ' 905 0 ≤ n0 + (R.cells : Int) ∧ σ' 905 1 ≤ s0 + (R.slots : Int))
    {S0 : List mV} (hS0 : ∀ v ∈ S, v ∈ S0) (hasS : ∀ v ∈ as, v ∈ S0)
    (hrow : ∀ (H : Heap) (locs : List Loc) (cells slots : Nat) (ls : Array Slot), mLr w nL L ls → mWd ct w σ H → va_S (mAr w) s.heap H locs → (∀ v ∈ S0, okV (mz σ 0) v) → (ct = true → H.size = mb w + mz σ 0) → cells + mal k ≤ R.cells → slots + msl k ≤ R.slots →
      va_Run p l e R s m args below meth c H locs cells slots (mal k) (msl k) (F0 m pc ls (S0.map (mrep w))) (S.map (mrep w)) (mQc (mctor k) w (mRa k) r σ' (as.map (mrep w)).toArray) (mAr w))
    (kk : mGoal p l e R s m args below meth c Q w ct nL n0 s0 (pc + 3) L (mpush (mRa k) r S) σ') : mGoal p l e R s m args below meth c Q w ct nL n0 s0 pc L S0 σ := by
  intro H locs cells slots ls hL okL okS hW hS hA
  refine W_size fun hz0 => ?_
  have hz : ct = true → H.size = mb w + mz σ 0 := fun h => m_size h (hsz h) hW.1 hW.2.2 hS F.2.2.2.2.2.2.2.2.1 hA hz0
  have hroom : cells + mal k ≤ R.cells ∧ slots + msl k ≤ R.slots := by
    cases hct : ct
    · have h1 := hc0 hct
      have h2 := hA.1
      have h3 := hA.2.1
      omega
    · have h1 := hal hct
      have h2 := hA.2.2.1 hct
      omega
  refine m_call (hrow H locs cells slots ls hL hW hS okS hz hroom.1 hroom.2) hS F.2.2.2.2.2.2.2.2.1 fun H1 locs1 k1 k2 k3 k4 k5 => ?_
  rw [hcc] at k2
  have hmono : mz σ 0 ≤ mz σ' 0 := by
    cases hct : ct
    · rw [(k2 hct).2.2, (hW.2.1 hct).2.2]
      exact Nat.le_refl _
    · have h1 := (hal hct).1
      have h2 := mz_pos hW.1
      have h3 := mz_pos k1
      omega
  have e1 : (mrv w (mRa k) r).toList ++ S.map (mrep w) = (mpush (mRa k) r S).map (mrep w) := by
    unfold mrv mpush
    by_cases h : mRa k = 0
    · rw [if_pos h, h]
      rfl
    · have : Nat.beq (mRa k) 0 = false := by
        cases hb : Nat.beq (mRa k) 0
        · rfl
        · exact absurd (Nat.eq_of_beq_eq_true hb) h
      rw [if_neg h, this]
      rfl
  rw [e1]
  refine kk H1 locs1 _ _ ls hL (fun v hv => (okL v hv).mono hmono) (fun v hv => ?_) ⟨k1, k2, k4⟩ k5 ⟨hroom.1, hroom.2, fun hct => ?_, fun hct => ?_⟩
  · unfold mpush at hv
    by_cases h : mRa k = 0
    · rw [h] at hv
      exact (okS v (hS0 v hv)).mono hmono
    · have : Nat.beq (mRa k) 0 = false := by
        cases hb : Nat.beq (mRa k) 0
        · rfl
        · exact absurd (Nat.eq_of_beq_eq_true hb) h
      rw [this] at hv
      rcases List.mem_cons.mp hv with rfl | hv
      · exact k3 h
      · exact (okS v (hS0 v hv)).mono hmono
  · have h1 := hal hct
    have h2 := hA.2.2.1 hct
    omega
  · have h1 := hc0 hct
    have h2 := hA.2.2.2 hct
    omega
end
end
section
/-! SOUNDNESS 8: calls, all instructions, runs -/
def mInsF (op : Nat) (ps : List Nat) : Instr × Nat :=
  bif Nat.beq op 76 then (.invokevirtual (mp ps 4), 3) else bif Nat.beq op 77 || Nat.beq op 79 then (.invokestatic (mp ps 4), 3) else bif Nat.beq op 78 || Nat.beq op 80 then (.invokespecial (mp ps 4), 3) else (.invokestatic (mp ps 0), 3)
def mLkK (own : String) (ct : Bool) (op : Nat) (ps : List Nat) : Bool :=
  bif Nat.beq op 76 then Nat.blt (mp ps 0) 229 && Nat.beq (mKd (mp ps 0)) 0 && Nat.beq (mp ps 1) (mNa (mp ps 0) + 1) && Nat.beq (mp ps 2) (mRa (mp ps 0)) && (!ct && !mctor (mp ps 0)) && (Nat.ble 20 (mp ps 3) && Nat.blt (mp ps 3) 31) && decide (mC (mp ps 3 - 20) = (mNm (mp ps 0)).cls) && decide (mWd1 (mp ps 5) = some (.methodLink own (mp ps 4) (mNm (mp ps 0))))
  else bif Nat.beq op 77 then Nat.blt (mp ps 0) 229 && Nat.beq (mKd (mp ps 0)) 1 && Nat.beq (mp ps 1) (mNa (mp ps 0)) && Nat.beq (mp ps 2) (mRa (mp ps 0)) && (!ct && !mctor (mp ps 0)) && decide (mWd1 (mp ps 5) = some (.methodLink own (mp ps 4) (mNm (mp ps 0))))
  else bif Nat.beq op 79 then Nat.blt (mp ps 0) 229 && Nat.beq (mKd (mp ps 0)) 1 && Nat.beq (mp ps 1) (mNa (mp ps 0)) && Nat.beq (mp ps 2) (mRa (mp ps 0)) && (!ct && !mctor (mp ps 0)) && decide (mWd1 (mp ps 5) = some (.methodLinkNest own (mp ps 4) (mNm (mp ps 0)) RX9))
  else bif Nat.beq op 78 then Nat.blt (mp ps 0) 229 && Nat.beq (mKd (mp ps 0)) 2 && Nat.beq (mp ps 1) (mNa (mp ps 0) + 1) && Nat.beq (mRa (mp ps 0)) 0 && (ct && mctor (mp ps 0)) && decide (mWd1 (mp ps 5) = some (.methodLink own (mp ps 4) (mNm (mp ps 0))))
  else bif Nat.beq op 80 then Nat.blt (mp ps 0) 229 && Nat.beq (mKd (mp ps 0)) 2 && Nat.beq (mp ps 1) (mNa (mp ps 0) + 1) && Nat.beq (mRa (mp ps 0)) 0 && (ct && mctor (mp ps 0)) && decide (mWd1 (mp ps 5) = some (.methodLinkNest own (mp ps 4) (mNm (mp ps 0)) RX9))
  else bif Nat.beq op 81 then decide (mWd1 (mp ps 1) = some (.methodLink own (mp ps 0) Lib.Math.min.name)) else bif Nat.beq op 82 then decide (mWd1 (mp ps 1) = some (.methodLink own (mp ps 0) Lib.Math.max.name))
  else (Nat.beq op 83 || Nat.beq op 84) && decide (mWd1 (mp ps 1) = some (.methodLink own (mp ps 0) arraycopyName))
theorem mal_0 {k : Nat} (h : mctor k = false) : mal k = 0 ∧ msl k = 0 := by
  have h1 : mals.find? (fun q => Nat.beq q.1 k) = none := by
    rw [List.find?_eq_none]
    intro q hq hb
    have : mctor k = true := List.any_eq_true.mpr ⟨q, hq, hb⟩
    rw [h] at this
    cases this
  unfold mal msl
  rw [h1]
  exact ⟨rfl, rfl⟩
theorem as_split {S : List mV} {n : Nat} : S = (S.take n).reverse.reverse ++ S.drop n := by rw [List.reverse_reverse, List.take_append_drop]
section
variable {p : Program} {l : Launch} {e : Env} {R : Room} {s : State} {m : MethodId} {args : Array Value} {below : List Frame} {meth : Method} {c : Code} {Q : State → Prop} {w : mW} {ct : Bool} {nL : Nat} {n0 s0 : Int} {own : String} {cc : ByteArray} {pc : Nat} {L S : List mV} {σ : mM} {a0 : Int × mM} {g : mG} {K : mK} {d : Nat}
theorem so_76 (F : mF p R s args m c w own cc nL) (hKs : mMet l w K d) (hdd : d + 1 ≤ R.frames ∧ 40 * d + 99 ≤ R.locals) {k idx : Nat} (hk : k < 229) (hkd : mKd k = 0) (hct : ct = false) (hcc : mctor k = false) {i : Nat} (hi : i < 11) (hcl : mC i = (mNm k).cls) {u : mV} {As : List mV} {S0 : List mV} (hS0 : S0 = As.reverse ++ u :: S) (hu : u.1 = 20 + i) (hlen : As.length = mNa k) (h8 : (S.map mcat).sum ≤ 8) (hl : (Cond.methodLink own idx (mNm k)).before args s = true) (hd : decode cc pc = .ok (.invokevirtual idx, 3)) {r : Int} {σ' : mM} (hrun : K k (u :: As) σ = some (r, σ'))
    (kk : mGoal p l e R s m args below meth c Q w ct nL n0 s0 (pc + 3) L (mpush (mRa k) r S) σ') : mGoal p l e R s m args below meth c Q w ct nL n0 s0 pc L S0 σ := by
  obtain ⟨f1, f2, f3, f4, f5, f6, f7, f8, f9, -⟩ := mFa_all hk
  have hsub : ∀ v ∈ S, v ∈ S0 := fun v hv => by rw [hS0]; exact List.mem_append_right _ (List.mem_cons_of_mem _ hv)
  have hsub2 : ∀ v ∈ (u :: As), v ∈ S0 := fun v hv => by
    rw [hS0]
    rcases List.mem_cons.mp hv with rfl | h
    · exact List.mem_append_right _ List.mem_cons_self
    · exact List.mem_append_left _ (List.mem_reverse.mpr h)
  refine so_behind F (k := k) (as := u :: As) (by rw [hcc, hct]) (fun h => by rw [hct] at h; cases h) (fun _ => mal_0 hcc) (fun h => by rw [hct] at h; cases h) hsub hsub2 (fun H locs cells slots ls hL hW hS okS hz hc hs => ?_) kk
  have okA : ∀ v ∈ u :: As, okV (mz σ 0) v := fun v hv => okS v (hsub2 v hv)
  have hM := hKs k (u :: As) σ r σ' hk hrun hW.1 (fun h => hW.2.1 hct) okA
  obtain ⟨q, e1, hq, hlq⟩ := okR_cell ((okA u List.mem_cons_self).2.2 (by omega)) ⟨by omega, Or.inl (by omega)⟩
  rw [hu] at hlq
  have hq9 : q < 900 := by have := hW.1.1.2; omega
  have eb : mrep w u = .ref (mb w + q) := by
    obtain ⟨t, x⟩ := u
    have e1 : x = (q : Int) := e1
    have hu : t = 20 + i := hu
    subst e1
    exact mrep_cell w (by omega) hq9
  have hcode := F.2.2.2.2.1 _ (mWd1_ws f1 rfl)
  have hini := F.2.2.2.2.1 _ (mWd1_ws f2 rfl)
  have hpre := m_pre F (ct' := mctor k) (as := u :: As) hW hS (fun h => hz (hct.trans (hcc.symm.trans h)))
  have hlen2 : ∀ sig, parseMethodDescriptor (mNm k).desc = some sig → mNa k = sig.parameters.length := fun sig h => by rw [h] at f8; exact (Option.some.inj f8).symm
  have hst : S0.map (mrep w) = (As.map (mrep w)).reverse ++ .ref (mb w + q) :: S.map (mrep w) := by rw [hS0, List.map_append, List.map_reverse, List.map_cons, eb]
  have ha : ((u :: As).map (mrep w)).toArray = (Value.ref (mb w + q) :: As.map (mrep w)).toArray := by rw [List.map_cons, eb]
  rw [ha] at hpre ⊢
  have hrecv := va_recv F.2.2.2.2.2.2.1 hW.2.2 (ci := i) (q0 := q) (mCl_all hi).choose_spec.1 (by rw [mws_get hq, mcell_obj hlq hi])
  rw [hcl] at hrecv
  obtain ⟨f10, f11⟩ := f3 hkd
  exact va_runV (C := (mNm k).cls) (b := (mb w + q)) (As := As.map (mrep w)) ⟨F.1, F.2.1, F.2.2.1, F.2.2.2.1, F.2.2.2.2.1⟩ hM ⟨⟨rfl, rfl, hdd.1, (by have := hdd.2; show 8 + (mmaxL k + 11) + (40 * d + 60) ≤ R.locals; omega), m_words F hk, List.mem_cons_self, hcode, hini, f7, hlen2, hl⟩, F.2.2.2.2.1 _ (mWd1_ws f10 rfl), F.2.2.2.2.1 _ (mWd1_ws f11 rfl)⟩ ⟨mPc_blind _ _ _ _, hrecv, hpre⟩ rfl (by rw [List.length_map]; exact hlen) hL.2.1 hst (lv_room (by rw [cat_sum]; exact h8)) hd ⟨hc, hs⟩
theorem so_77 (F : mF p R s args m c w own cc nL) (hKs : mMet l w K d) (hdd : d + 1 ≤ R.frames ∧ 40 * d + 99 ≤ R.locals) {k idx : Nat} (hk : k < 229) (hkd : mKd k = 1) (hct : ct = false) (hcc : mctor k = false) {As : List mV} {S0 : List mV} (hS0 : S0 = As.reverse ++ S) (hlen : As.length = mNa k) (h8 : (S.map mcat).sum ≤ 8) (hl : (Cond.methodLink own idx (mNm k)).before args s = true) (hd : decode cc pc = .ok (.invokestatic idx, 3)) {r : Int} {σ' : mM} (hrun : K k (As) σ = some (r, σ'))
    (kk : mGoal p l e R s m args below meth c Q w ct nL n0 s0 (pc + 3) L (mpush (mRa k) r S) σ') : mGoal p l e R s m args below meth c Q w ct nL n0 s0 pc L S0 σ := by
  obtain ⟨f1, f2, f3, f4, f5, f6, f7, f8, f9, -⟩ := mFa_all hk
  have hsub : ∀ v ∈ S, v ∈ S0 := fun v hv => by rw [hS0]; exact List.mem_append_right _ (hv)
  have hsub2 : ∀ v ∈ As, v ∈ S0 := fun v hv => by
    rw [hS0]
    exact List.mem_append_left _ (List.mem_reverse.mpr hv)
  refine so_behind F (k := k) (as := As) (by rw [hcc, hct]) (fun h => by rw [hct] at h; cases h) (fun _ => mal_0 hcc) (fun h => by rw [hct] at h; cases h) hsub hsub2 (fun H locs cells slots ls hL hW hS okS hz hc hs => ?_) kk
  have okA : ∀ v ∈ As, okV (mz σ 0) v := fun v hv => okS v (hsub2 v hv)
  have hM := hKs k (As) σ r σ' hk hrun hW.1 (fun h => hW.2.1 hct) okA
  have hcode := F.2.2.2.2.1 _ (mWd1_ws f1 rfl)
  have hini := F.2.2.2.2.1 _ (mWd1_ws f2 rfl)
  have hpre := m_pre F (ct' := mctor k) (as := As) hW hS (fun h => hz (hct.trans (hcc.symm.trans h)))
  have hlen2 : ∀ sig, parseMethodDescriptor (mNm k).desc = some sig → mNa k = sig.parameters.length := fun sig h => by rw [h] at f8; exact (Option.some.inj f8).symm
  have hst : S0.map (mrep w) = (As.map (mrep w)).reverse ++ S.map (mrep w) := by rw [hS0, List.map_append, List.map_reverse]
  exact va_runS (As := As.map (mrep w)) ⟨F.1, F.2.1, F.2.2.1, F.2.2.2.1, F.2.2.2.2.1⟩ hM ⟨⟨rfl, rfl, hdd.1, (by have := hdd.2; show 8 + (mmaxL k + 11) + (40 * d + 60) ≤ R.locals; omega), m_words F hk, List.mem_cons_self, hcode, hini, f7, hlen2, hl⟩, F.2.2.2.2.1 _ (mWd1_ws (f4 hkd) rfl)⟩ ⟨mPc_blind _ _ _ _, hpre⟩ rfl (by rw [List.length_map]; exact hlen) hL.2.1 hst (lv_room (by rw [cat_sum]; exact h8)) hd ⟨hc, hs⟩
theorem so_79 (F : mF p R s args m c w own cc nL) (hKs : mMet l w K d) (hdd : d + 1 ≤ R.frames ∧ 40 * d + 99 ≤ R.locals) {k idx : Nat} (hk : k < 229) (hkd : mKd k = 1) (hct : ct = false) (hcc : mctor k = false) {As : List mV} {S0 : List mV} (hS0 : S0 = As.reverse ++ S) (hlen : As.length = mNa k) (h8 : (S.map mcat).sum ≤ 8) (hl : (Cond.methodLinkNest own idx (mNm k) RX9).before args s = true) (hd : decode cc pc = .ok (.invokestatic idx, 3)) {r : Int} {σ' : mM} (hrun : K k (As) σ = some (r, σ'))
    (kk : mGoal p l e R s m args below meth c Q w ct nL n0 s0 (pc + 3) L (mpush (mRa k) r S) σ') : mGoal p l e R s m args below meth c Q w ct nL n0 s0 pc L S0 σ := by
  obtain ⟨f1, f2, f3, f4, f5, f6, f7, f8, f9, -⟩ := mFa_all hk
  have hsub : ∀ v ∈ S, v ∈ S0 := fun v hv => by rw [hS0]; exact List.mem_append_right _ (hv)
  have hsub2 : ∀ v ∈ As, v ∈ S0 := fun v hv => by
    rw [hS0]
    exact List.mem_append_left _ (List.mem_reverse.mpr hv)
  refine so_behind F (k := k) (as := As) (by rw [hcc, hct]) (fun h => by rw [hct] at h; cases h) (fun _ => mal_0 hcc) (fun h => by rw [hct] at h; cases h) hsub hsub2 (fun H locs cells slots ls hL hW hS okS hz hc hs => ?_) kk
  have okA : ∀ v ∈ As, okV (mz σ 0) v := fun v hv => okS v (hsub2 v hv)
  have hM := hKs k (As) σ r σ' hk hrun hW.1 (fun h => hW.2.1 hct) okA
  have hcode := F.2.2.2.2.1 _ (mWd1_ws f1 rfl)
  have hini := F.2.2.2.2.1 _ (mWd1_ws f2 rfl)
  have hpre := m_pre F (ct' := mctor k) (as := As) hW hS (fun h => hz (hct.trans (hcc.symm.trans h)))
  have hlen2 : ∀ sig, parseMethodDescriptor (mNm k).desc = some sig → mNa k = sig.parameters.length := fun sig h => by rw [h] at f8; exact (Option.some.inj f8).symm
  have hst : S0.map (mrep w) = (As.map (mrep w)).reverse ++ S.map (mrep w) := by rw [hS0, List.map_append, List.map_reverse]
  exact va_runSN (As := As.map (mrep w)) ⟨F.1, F.2.1, F.2.2.1, F.2.2.2.1, F.2.2.2.2.1⟩ hM ⟨⟨⟨rfl, rfl, hdd.1, (by have := hdd.2; show 8 + (mmaxL k + 11) + (40 * d + 60) ≤ R.locals; omega), m_words F hk, List.mem_cons_self⟩, hcode, hini, f7, hlen2, hl⟩, F.2.2.2.2.1 _ (mWd1_ws (f4 hkd) rfl), trivial⟩ ⟨mPc_blind _ _ _ _, hpre⟩ rfl (by rw [List.length_map]; exact hlen) hL.2.1 hst (lv_room (by rw [cat_sum]; exact h8)) hd ⟨hc, hs⟩
theorem so_78 (F : mF p R s args m c w own cc nL) (hKs : mMet l w K d) (hdd : d + 1 ≤ R.frames ∧ 40 * d + 99 ≤ R.locals) {k idx : Nat} (hk : k < 229) (hkd : mKd k = 2) (hct : ct = true) (hcc : mctor k = true) {u : mV} {As : List mV} {S0 : List mV} (hS0 : S0 = As.reverse ++ u :: S) (hu : 3 < u.1) (hlen : As.length = mNa k) (h8 : (S.map mcat).sum ≤ 8) (hl : (Cond.methodLink own idx (mNm k)).before args s = true) (hd : decode cc pc = .ok (.invokespecial idx, 3)) {r : Int} {σ' : mM} (hrun : K k (u :: As) σ = some (r, σ')) (hsz : ct = true → (s.heap.size : Int) = mb w + n0) (hal : σ' 905 0 = σ 905 0 + (mal k : Int) ∧ σ' 905 1 = σ 905 1 + (msl k : Int) ∧ σ' 905 0 ≤ n0 + (R.cells : Int) ∧ σ' 905 1 ≤ s0 + (R.slots : Int))
    (kk : mGoal p l e R s m args below meth c Q w ct nL n0 s0 (pc + 3) L (mpush (mRa k) r S) σ') : mGoal p l e R s m args below meth c Q w ct nL n0 s0 pc L S0 σ := by
  obtain ⟨f1, f2, f3, f4, f5, f6, f7, f8, f9, -⟩ := mFa_all hk
  have hsub : ∀ v ∈ S, v ∈ S0 := fun v hv => by rw [hS0]; exact List.mem_append_right _ (List.mem_cons_of_mem _ hv)
  have hsub2 : ∀ v ∈ (u :: As), v ∈ S0 := fun v hv => by
    rw [hS0]
    rcases List.mem_cons.mp hv with rfl | h
    · exact List.mem_append_right _ List.mem_cons_self
    · exact List.mem_append_left _ (List.mem_reverse.mpr h)
  refine so_behind F (k := k) (as := u :: As) (by rw [hcc, hct]) hsz (fun _ => (by rw [hct] at *; contradiction)) (fun _ => hal) hsub hsub2 (fun H locs cells slots ls hL hW hS okS hz hc hs => ?_) kk
  have okA : ∀ v ∈ u :: As, okV (mz σ 0) v := fun v hv => okS v (hsub2 v hv)
  have hM := hKs k (u :: As) σ r σ' hk hrun hW.1 (fun h => by rw [hcc] at h; cases h) okA
  have eb : mrep w u = .ref (madr w u.2.toNat) := by
    obtain ⟨t, x⟩ := u
    exact mrep_r w hu x
  have hcode := F.2.2.2.2.1 _ (mWd1_ws f1 rfl)
  have hini := F.2.2.2.2.1 _ (mWd1_ws f2 rfl)
  have hpre := m_pre F (ct' := mctor k) (as := u :: As) hW hS (fun h => hz (hct.trans (hcc.symm.trans h)))
  have hlen2 : ∀ sig, parseMethodDescriptor (mNm k).desc = some sig → mNa k = sig.parameters.length := fun sig h => by rw [h] at f8; exact (Option.some.inj f8).symm
  have hst : S0.map (mrep w) = (As.map (mrep w)).reverse ++ .ref (madr w u.2.toNat) :: S.map (mrep w) := by rw [hS0, List.map_append, List.map_reverse, List.map_cons, eb]
  have ha : ((u :: As).map (mrep w)).toArray = (Value.ref (madr w u.2.toNat) :: As.map (mrep w)).toArray := by rw [List.map_cons, eb]
  rw [ha] at hpre ⊢
  obtain ⟨f10, f11, f12⟩ := f5 hkd
  have hmem : Cond.code (mNm k) (mCc k) (mmaxL k) none ∈ mwsl k := by rw [← f12]; exact List.mem_cons_self
  rw [f12] at hcode
  exact va_runI (b := (madr w u.2.toNat)) (As := As.map (mrep w)) ⟨F.1, F.2.1, F.2.2.1, F.2.2.2.1, F.2.2.2.2.1⟩ hM ⟨⟨rfl, rfl, hdd.1, (by have := hdd.2; show 8 + (mmaxL k + 11) + (40 * d + 60) ≤ R.locals; omega), m_words F hk, hmem, hcode, hini, f7, hlen2, hl⟩, f11, F.2.2.2.2.1 _ (mWd1_ws f10 rfl)⟩ ⟨mPc_blind _ _ _ _, hpre⟩ rfl (by rw [List.length_map]; exact hlen) hL.2.1 hst (lv_room (by rw [cat_sum]; exact h8)) hd ⟨hc, hs⟩
theorem so_80 (F : mF p R s args m c w own cc nL) (hKs : mMet l w K d) (hdd : d + 1 ≤ R.frames ∧ 40 * d + 99 ≤ R.locals) {k idx : Nat} (hk : k < 229) (hkd : mKd k = 2) (hct : ct = true) (hcc : mctor k = true) {u : mV} {As : List mV} {S0 : List mV} (hS0 : S0 = As.reverse ++ u :: S) (hu : 3 < u.1) (hlen : As.length = mNa k) (h8 : (S.map mcat).sum ≤ 8) (hl : (Cond.methodLinkNest own idx (mNm k) RX9).before args s = true) (hd : decode cc pc = .ok (.invokespecial idx, 3)) {r : Int} {σ' : mM} (hrun : K k (u :: As) σ = some (r, σ')) (hsz : ct = true → (s.heap.size : Int) = mb w + n0) (hal : σ' 905 0 = σ 905 0 + (mal k : Int) ∧ σ' 905 1 = σ 905 1 + (msl k : Int) ∧ σ' 905 0 ≤ n0 + (R.cells : Int) ∧ σ' 905 1 ≤ s0 + (R.slots : Int))
    (kk : mGoal p l e R s m args below meth c Q w ct nL n0 s0 (pc + 3) L (mpush (mRa k) r S) σ') : mGoal p l e R s m args below meth c Q w ct nL n0 s0 pc L S0 σ := by
  obtain ⟨f1, f2, f3, f4, f5, f6, f7, f8, f9, -⟩ := mFa_all hk
  have hsub : ∀ v ∈ S, v ∈ S0 := fun v hv => by rw [hS0]; exact List.mem_append_right _ (List.mem_cons_of_mem _ hv)
  have hsub2 : ∀ v ∈ (u :: As), v ∈ S0 := fun v hv => by
    rw [hS0]
    rcases List.mem_cons.mp hv with rfl | h
    · exact List.mem_append_right _ List.mem_cons_self
    · exact List.mem_append_left _ (List.mem_reverse.mpr h)
  refine so_behind F (k := k) (as := u :: As) (by rw [hcc, hct]) hsz (fun _ => (by rw [hct] at *; contradiction)) (fun _ => hal) hsub hsub2 (fun H locs cells slots ls hL hW hS okS hz hc hs => ?_) kk
  have okA : ∀ v ∈ u :: As, okV (mz σ 0) v := fun v hv => okS v (hsub2 v hv)
  have hM := hKs k (u :: As) σ r σ' hk hrun hW.1 (fun h => by rw [hcc] at h; cases h) okA
  have eb : mrep w u = .ref (madr w u.2.toNat) := by
    obtain ⟨t, x⟩ := u
    exact mrep_r w hu x
  have hcode := F.2.2.2.2.1 _ (mWd1_ws f1 rfl)
  have hini := F.2.2.2.2.1 _ (mWd1_ws f2 rfl)
  have hpre := m_pre F (ct' := mctor k) (as := u :: As) hW hS (fun h => hz (hct.trans (hcc.symm.trans h)))
  have hlen2 : ∀ sig, parseMethodDescriptor (mNm k).desc = some sig → mNa k = sig.parameters.length := fun sig h => by rw [h] at f8; exact (Option.some.inj f8).symm
  have hst : S0.map (mrep w) = (As.map (mrep w)).reverse ++ .ref (madr w u.2.toNat) :: S.map (mrep w) := by rw [hS0, List.map_append, List.map_reverse, List.map_cons, eb]
  have ha : ((u :: As).map (mrep w)).toArray = (Value.ref (madr w u.2.toNat) :: As.map (mrep w)).toArray := by rw [List.map_cons, eb]
  rw [ha] at hpre ⊢
  obtain ⟨f10, f11, f12⟩ := f5 hkd
  have hmem : Cond.code (mNm k) (mCc k) (mmaxL k) none ∈ mwsl k := by rw [← f12]; exact List.mem_cons_self
  rw [f12] at hcode
  exact va_runIN (b := (madr w u.2.toNat)) (As := As.map (mrep w)) ⟨F.1, F.2.1, F.2.2.1, F.2.2.2.1, F.2.2.2.2.1⟩ hM ⟨⟨⟨rfl, rfl, hdd.1, (by have := hdd.2; show 8 + (mmaxL k + 11) + (40 * d + 60) ≤ R.locals; omega), m_words F hk, hmem⟩, hcode, hini, f7, hlen2, hl⟩, f11, F.2.2.2.2.1 _ (mWd1_ws f10 rfl)⟩ ⟨mPc_blind _ _ _ _, hpre⟩ rfl (by rw [List.length_map]; exact hlen) hL.2.1 hst (lv_room (by rw [cat_sum]; exact h8)) hd ⟨hc, hs⟩
theorem snd_F {op n : Nat} {ps : List Nat} {mx : Int × Int} (hop : op < 90) (F : mF p R s args m c w own cc nL) (hsz : ct = true → (s.heap.size : Int) = mb w + n0) (hmx : mx = (n0 + (R.cells : Int), s0 + (R.slots : Int))) (hKs : mMet l w K d) (hdd : d + 1 ≤ R.frames ∧ 40 * d + 99 ≤ R.locals) (hd : decode cc pc = .ok (mInsF op ps)) (hn : n = (mInsF op ps).2) (hl : mLkK own ct op ps = true)
    (hg : ∀ pc L S σ, g pc L S σ = some a0 → mGoal p l e R s m args below meth c Q w ct nL n0 s0 pc L S σ) (h : mstepF K g op n ps mx pc L S σ = some a0) : mGoal p l e R s m args below meth c Q w ct nL n0 s0 pc L S σ := by
  subst hmx
  have lenr : Nat.ble (mp ps 1) S.length = true → (S.take (mp ps 1)).reverse.length = mp ps 1 := fun h => by rw [List.length_reverse, List.length_take]; have := Nat.le_of_ble_eq_true h; omega
  have opt : ∀ {x : mA} {f : Int → mM → mA}, bK x f = some a0 → ∃ q : Int × mM, x = some q ∧ f q.1 q.2 = some a0 := by
    intro x f h
    cases x with
    | none => cases h
    | some q => exact ⟨q, rfl, h⟩
  by_cases e : op = 76
  · subst e
    have hn : n = 3 := hn
    subst hn
    have hl : (Nat.blt (mp ps 0) 229 && Nat.beq (mKd (mp ps 0)) 0 && Nat.beq (mp ps 1) (mNa (mp ps 0) + 1) && Nat.beq (mp ps 2) (mRa (mp ps 0)) && (!ct && !mctor (mp ps 0)) && (Nat.ble 20 (mp ps 3) && Nat.blt (mp ps 3) 31) && decide (mC (mp ps 3 - 20) = (mNm (mp ps 0)).cls) && decide (mWd1 (mp ps 5) = some (.methodLink own (mp ps 4) (mNm (mp ps 0))))) = true := hl
    simp only [Bool.and_eq_true, Bool.not_eq_true', decide_eq_true_eq] at hl
    obtain ⟨⟨⟨⟨⟨⟨⟨l1, l2⟩, l3⟩, l4⟩, l5, l6⟩, l7, l8⟩, l9⟩, l10⟩ := hl
    have l3 := Nat.eq_of_beq_eq_true l3
    have l4 := Nat.eq_of_beq_eq_true l4
    have h : (bif Nat.ble (mp ps 1) S.length && Nat.ble ((S.drop (mp ps 1)).map mcat).sum 8 && Nat.beq (mkd ((S.take (mp ps 1)).reverse.headD (2, 0))) (mp ps 3) then (bK (K (mp ps 0) (S.take (mp ps 1)).reverse σ) fun r σ' => g (pc + 3) L (mpush (mp ps 2) r (S.drop (mp ps 1))) σ') else none) = some a0 := h
    obtain ⟨hb, h⟩ := cond_some h
    simp only [Bool.and_eq_true] at hb
    obtain ⟨q, hq, h⟩ := opt h
    have hlr := lenr hb.1.1
    have hsp := as_split (S := S) (n := mp ps 1)
    generalize (S.take (mp ps 1)).reverse = as at hq hlr hsp hb
    match as, hq, hlr, hsp, hb with
    | u :: As, hq, hlr, hsp, hb =>
      have hu : u.1 = mp ps 3 := Nat.eq_of_beq_eq_true hb.2
      have n1 := Nat.le_of_ble_eq_true l7
      rw [l4] at h
      exact so_76 F hKs hdd (Nat.blt_eq.mp l1) (Nat.eq_of_beq_eq_true l2) l5 l6 (i := mp ps 3 - 20) (by have := Nat.blt_eq.mp l8; omega) l9 (hsp.trans (by rw [List.reverse_cons, List.append_assoc]; rfl)) (by omega) (by have : (u :: As).length = mp ps 1 := hlr; rw [List.length_cons] at this; omega) (Nat.le_of_ble_eq_true hb.1.2) (mWS_in F l10 rfl) hd hq (hg _ _ _ _ h)
    | [], hq, hlr, hsp, hb =>
      have : 0 = mp ps 1 := hlr
      omega
  by_cases e : op = 77
  · subst e
    have hn : n = 3 := hn
    subst hn
    have hl : (Nat.blt (mp ps 0) 229 && Nat.beq (mKd (mp ps 0)) 1 && Nat.beq (mp ps 1) (mNa (mp ps 0)) && Nat.beq (mp ps 2) (mRa (mp ps 0)) && (!ct && !mctor (mp ps 0)) && decide (mWd1 (mp ps 5) = some (.methodLink own (mp ps 4) (mNm (mp ps 0))))) = true := hl
    simp only [Bool.and_eq_true, Bool.not_eq_true', decide_eq_true_eq] at hl
    obtain ⟨⟨⟨⟨⟨l1, l2⟩, l3⟩, l4⟩, l5, l6⟩, l10⟩ := hl
    have l3 := Nat.eq_of_beq_eq_true l3
    have l4 := Nat.eq_of_beq_eq_true l4
    have h : (bif Nat.ble (mp ps 1) S.length && Nat.ble ((S.drop (mp ps 1)).map mcat).sum 8 then (bK (K (mp ps 0) (S.take (mp ps 1)).reverse σ) fun r σ' => g (pc + 3) L (mpush (mp ps 2) r (S.drop (mp ps 1))) σ') else none) = some a0 := h
    obtain ⟨hb, h⟩ := cond_some h
    simp only [Bool.and_eq_true] at hb
    obtain ⟨q, hq, h⟩ := opt h
    have hlr := lenr hb.1
    rw [l4] at h
    exact so_77 F hKs hdd (Nat.blt_eq.mp l1) (Nat.eq_of_beq_eq_true l2) l5 l6 (as_split (n := mp ps 1)) (by rw [hlr, l3]) (Nat.le_of_ble_eq_true hb.2) (mWS_in F l10 rfl) hd hq (hg _ _ _ _ h)
  by_cases e : op = 79
  · subst e
    have hn : n = 3 := hn
    subst hn
    have hl : (Nat.blt (mp ps 0) 229 && Nat.beq (mKd (mp ps 0)) 1 && Nat.beq (mp ps 1) (mNa (mp ps 0)) && Nat.beq (mp ps 2) (mRa (mp ps 0)) && (!ct && !mctor (mp ps 0)) && decide (mWd1 (mp ps 5) = some (.methodLinkNest own (mp ps 4) (mNm (mp ps 0)) RX9))) = true := hl
    simp only [Bool.and_eq_true, Bool.not_eq_true', decide_eq_true_eq] at hl
    obtain ⟨⟨⟨⟨⟨l1, l2⟩, l3⟩, l4⟩, l5, l6⟩, l10⟩ := hl
    have l3 := Nat.eq_of_beq_eq_true l3
    have l4 := Nat.eq_of_beq_eq_true l4
    have h : (bif Nat.ble (mp ps 1) S.length && Nat.ble ((S.drop (mp ps 1)).map mcat).sum 8 then (bK (K (mp ps 0) (S.take (mp ps 1)).reverse σ) fun r σ' => g (pc + 3) L (mpush (mp ps 2) r (S.drop (mp ps 1))) σ') else none) = some a0 := h
    obtain ⟨hb, h⟩ := cond_some h
    simp only [Bool.and_eq_true] at hb
    obtain ⟨q, hq, h⟩ := opt h
    have hlr := lenr hb.1
    rw [l4] at h
    exact so_79 F hKs hdd (Nat.blt_eq.mp l1) (Nat.eq_of_beq_eq_true l2) l5 l6 (as_split (n := mp ps 1)) (by rw [hlr, l3]) (Nat.le_of_ble_eq_true hb.2) (va_Nw.use (A := args) rfl (F.2.2.2.2.2.1.1 _ (mWd1_in l10) rfl)) hd hq (hg _ _ _ _ h)
  by_cases e : op = 78
  · subst e
    have hn : n = 3 := hn
    subst hn
    have hl : (Nat.blt (mp ps 0) 229 && Nat.beq (mKd (mp ps 0)) 2 && Nat.beq (mp ps 1) (mNa (mp ps 0) + 1) && Nat.beq (mRa (mp ps 0)) 0 && (ct && mctor (mp ps 0)) && decide (mWd1 (mp ps 5) = some (.methodLink own (mp ps 4) (mNm (mp ps 0))))) = true := hl
    simp only [Bool.and_eq_true, decide_eq_true_eq] at hl
    obtain ⟨⟨⟨⟨⟨l1, l2⟩, l3⟩, l4⟩, l5, l6⟩, l10⟩ := hl
    have l3 := Nat.eq_of_beq_eq_true l3
    have l4 := Nat.eq_of_beq_eq_true l4
    have h : (bif Nat.ble (mp ps 1) S.length && Nat.ble ((S.drop (mp ps 1)).map mcat).sum 8 && Nat.blt 3 (mkd ((S.take (mp ps 1)).reverse.headD (2, 0))) then (bK (K (mp ps 0) (S.take (mp ps 1)).reverse σ) fun _ σ' => if σ' 905 0 = σ 905 0 + (mal (mp ps 0) : Int) ∧ σ' 905 1 = σ 905 1 + (msl (mp ps 0) : Int) ∧ σ' 905 0 ≤ n0 + (R.cells : Int) ∧ σ' 905 1 ≤ s0 + (R.slots : Int) then g (pc + 3) L (S.drop (mp ps 1)) σ' else none) else none) = some a0 := h
    obtain ⟨hb, h⟩ := cond_some h
    simp only [Bool.and_eq_true] at hb
    obtain ⟨q, hq, h⟩ := opt h
    by_cases hal : q.2 905 0 = σ 905 0 + (mal (mp ps 0) : Int) ∧ q.2 905 1 = σ 905 1 + (msl (mp ps 0) : Int) ∧ q.2 905 0 ≤ n0 + (R.cells : Int) ∧ q.2 905 1 ≤ s0 + (R.slots : Int)
    · rw [if_pos hal] at h
      have hlr := lenr hb.1.1
      have hsp := as_split (S := S) (n := mp ps 1)
      generalize (S.take (mp ps 1)).reverse = as at hq hlr hsp hb
      match as, hq, hlr, hsp, hb with
      | u :: As, hq, hlr, hsp, hb =>
        have hu : 3 < u.1 := Nat.blt_eq.mp hb.2
        have h : g (pc + 3) L (mpush (mRa (mp ps 0)) q.1 (S.drop (mp ps 1))) q.2 = some a0 := by rw [l4]; exact h
        exact so_78 F hKs hdd (Nat.blt_eq.mp l1) (Nat.eq_of_beq_eq_true l2) l5 l6 (hsp.trans (by rw [List.reverse_cons, List.append_assoc]; rfl)) hu (by have : (u :: As).length = mp ps 1 := hlr; rw [List.length_cons] at this; omega) (Nat.le_of_ble_eq_true hb.1.2) (mWS_in F l10 rfl) hd hq hsz hal (hg _ _ _ _ h)
      | [], hq, hlr, hsp, hb =>
        have : 0 = mp ps 1 := hlr
        omega
    · rw [if_neg hal] at h
      cases h
  by_cases e : op = 80
  · subst e
    have hn : n = 3 := hn
    subst hn
    have hl : (Nat.blt (mp ps 0) 229 && Nat.beq (mKd (mp ps 0)) 2 && Nat.beq (mp ps 1) (mNa (mp ps 0) + 1) && Nat.beq (mRa (mp ps 0)) 0 && (ct && mctor (mp ps 0)) && decide (mWd1 (mp ps 5) = some (.methodLinkNest own (mp ps 4) (mNm (mp ps 0)) RX9))) = true := hl
    simp only [Bool.and_eq_true, decide_eq_true_eq] at hl
    obtain ⟨⟨⟨⟨⟨l1, l2⟩, l3⟩, l4⟩, l5, l6⟩, l10⟩ := hl
    have l3 := Nat.eq_of_beq_eq_true l3
    have l4 := Nat.eq_of_beq_eq_true l4
    have h : (bif Nat.ble (mp ps 1) S.length && Nat.ble ((S.drop (mp ps 1)).map mcat).sum 8 && Nat.blt 3 (mkd ((S.take (mp ps 1)).reverse.headD (2, 0))) then (bK (K (mp ps 0) (S.take (mp ps 1)).reverse σ) fun _ σ' => if σ' 905 0 = σ 905 0 + (mal (mp ps 0) : Int) ∧ σ' 905 1 = σ 905 1 + (msl (mp ps 0) : Int) ∧ σ' 905 0 ≤ n0 + (R.cells : Int) ∧ σ' 905 1 ≤ s0 + (R.slots : Int) then g (pc + 3) L (S.drop (mp ps 1)) σ' else none) else none) = some a0 := h
    obtain ⟨hb, h⟩ := cond_some h
    simp only [Bool.and_eq_true] at hb
    obtain ⟨q, hq, h⟩ := opt h
    by_cases hal : q.2 905 0 = σ 905 0 + (mal (mp ps 0) : Int) ∧ q.2 905 1 = σ 905 1 + (msl (mp ps 0) : Int) ∧ q.2 905 0 ≤ n0 + (R.cells : Int) ∧ q.2 905 1 ≤ s0 + (R.slots : Int)
    · rw [if_pos hal] at h
      have hlr := lenr hb.1.1
      have hsp := as_split (S := S) (n := mp ps 1)
      generalize (S.take (mp ps 1)).reverse = as at hq hlr hsp hb
      match as, hq, hlr, hsp, hb with
      | u :: As, hq, hlr, hsp, hb =>
        have hu : 3 < u.1 := Nat.blt_eq.mp hb.2
        have h : g (pc + 3) L (mpush (mRa (mp ps 0)) q.1 (S.drop (mp ps 1))) q.2 = some a0 := by rw [l4]; exact h
        exact so_80 F hKs hdd (Nat.blt_eq.mp l1) (Nat.eq_of_beq_eq_true l2) l5 l6 (hsp.trans (by rw [List.reverse_cons, List.append_assoc]; rfl)) hu (by have : (u :: As).length = mp ps 1 := hlr; rw [List.length_cons] at this; omega) (Nat.le_of_ble_eq_true hb.1.2) (va_Nw.use (A := args) rfl (F.2.2.2.2.2.1.1 _ (mWd1_in l10) rfl)) hd hq hsz hal (hg _ _ _ _ h)
      | [], hq, hlr, hsp, hb =>
        have : 0 = mp ps 1 := hlr
        omega
    · rw [if_neg hal] at h
      cases h
  by_cases e : op = 81
  · subst e
    have hn : n = 3 := hn
    subst hn
    have hl := of_decide_eq_true (p := (mWd1 (mp ps 1) = some (.methodLink own (mp ps 0) Lib.Math.min.name))) hl
    obtain ⟨x, y, S', rfl, h1⟩ := mpop2_some h
    obtain ⟨hb, h1⟩ := cond_some h1
    exact so_81 F (mWS_in F hl rfl) hd (Nat.le_of_ble_eq_true hb) (hg _ _ _ _ h1)
  by_cases e : op = 82
  · subst e
    have hn : n = 3 := hn
    subst hn
    have hl := of_decide_eq_true (p := (mWd1 (mp ps 1) = some (.methodLink own (mp ps 0) Lib.Math.max.name))) hl
    obtain ⟨x, y, S', rfl, h1⟩ := mpop2_some h
    obtain ⟨hb, h1⟩ := cond_some h1
    exact so_82 F (mWS_in F hl rfl) hd (Nat.le_of_ble_eq_true hb) (hg _ _ _ _ h1)
  by_cases e : op = 83
  · subst e
    have hn : n = 3 := hn
    subst hn
    have hl := of_decide_eq_true (p := (mWd1 (mp ps 1) = some (.methodLink own (mp ps 0) arraycopyName))) hl
    obtain ⟨k, S1, rfl, h1⟩ := mpop1_some h
    obtain ⟨dp, S2, rfl, h2⟩ := mpop1_some h1
    obtain ⟨t2, x2, S3, rfl, ht2, h3⟩ := mpopR_some h2
    obtain ⟨sp, S4, rfl, h4⟩ := mpop1_some h3
    obtain ⟨t1, x1, S5, rfl, ht1, h5⟩ := mpopR_some h4
    obtain ⟨hb, h6⟩ := cond_some h5
    have hb : ((Nat.ble 1000 t1 && Nat.blt t1 2000 && Nat.ble 1000 t2 && Nat.blt t2 2000) && Nat.ble (S5.map mcat).sum 8) = true := hb
    simp only [Bool.and_eq_true] at hb
    obtain ⟨hc, h7⟩ := bCp_some h6
    exact so_83 F (Nat.le_of_ble_eq_true hb.1.1.1.1) (Nat.blt_eq.mp hb.1.1.1.2) (Nat.le_of_ble_eq_true hb.1.1.2) (Nat.blt_eq.mp hb.1.2) (Nat.le_of_ble_eq_true hb.2) hc (mWS_in F hl rfl) hd (hg _ _ _ _ h7)
  by_cases e : op = 84
  · subst e
    have hn : n = 3 := hn
    subst hn
    have hl := of_decide_eq_true (p := (mWd1 (mp ps 1) = some (.methodLink own (mp ps 0) arraycopyName))) hl
    obtain ⟨k, S1, rfl, h1⟩ := mpop1_some h
    obtain ⟨dp, S2, rfl, h2⟩ := mpop1_some h1
    obtain ⟨t2, x2, S3, rfl, ht2, h3⟩ := mpopR_some h2
    obtain ⟨sp, S4, rfl, h4⟩ := mpop1_some h3
    obtain ⟨t1, x1, S5, rfl, ht1, h5⟩ := mpopR_some h4
    obtain ⟨hb, h6⟩ := cond_some h5
    have hb : ((Nat.ble 3000 t1 && Nat.blt t1 4000 && Nat.ble 3000 t2 && Nat.blt t2 4000) && Nat.ble (S5.map mcat).sum 8) = true := hb
    simp only [Bool.and_eq_true] at hb
    obtain ⟨hc, h7⟩ := bCp_some h6
    exact so_84 F (Nat.le_of_ble_eq_true hb.1.1.1.1) (Nat.blt_eq.mp hb.1.1.1.2) (Nat.le_of_ble_eq_true hb.1.1.2) (Nat.blt_eq.mp hb.1.2) (Nat.le_of_ble_eq_true hb.2) hc (mWS_in F hl rfl) hd (hg _ _ _ _ h7)
  exfalso
  have nb : ∀ {k : Nat}, ¬ op = k → Nat.beq op k = false := fun {k} hk => by
    cases hq : Nat.beq op k
    · rfl
    · exact absurd (Nat.eq_of_beq_eq_true hq) hk
  unfold mstepF at h
  simp only [nb (by assumption : ¬ op = 76), nb (by assumption : ¬ op = 77), nb (by assumption : ¬ op = 79), nb (by assumption : ¬ op = 78), nb (by assumption : ¬ op = 80), nb (by assumption : ¬ op = 81), nb (by assumption : ¬ op = 82), nb (by assumption : ¬ op = 83), nb (by assumption : ¬ op = 84), Bool.or_false, cond_false] at h
  cases h
end
def mInsR (op : Nat) : Instr × Nat := bif Nat.beq op 90 || Nat.beq op 94 then (.ireturn, 1) else bif Nat.beq op 91 then (.lreturn, 1) else bif Nat.beq op 92 then (.areturn, 1) else (.return_, 1)
def mIns (i : mI) (pc : Nat) : Instr × Nat :=
  bif Nat.blt i.1 20 then mInsA i.1 i.2.1 i.2.2.1 i.2.2.2 else bif Nat.blt i.1 42 then mInsB i.1 else bif Nat.blt i.1 51 || Nat.ble 100 i.1 then mInsC i.1 i.2.1 i.2.2.2 pc
  else bif Nat.blt i.1 67 || Nat.beq i.1 68 then mInsD i.1 i.2.2.2 else bif Nat.blt i.1 76 then mInsE i.1 i.2.2.2 else bif Nat.blt i.1 90 then mInsF i.1 i.2.2.2 else mInsR i.1
def mLk (own : String) (ct ini : Bool) (i : mI) : Bool :=
  bif Nat.blt i.1 20 then mLkA own i.1 i.2.2.1 i.2.2.2 else bif Nat.blt i.1 42 then true else bif Nat.blt i.1 51 || Nat.ble 100 i.1 then mLkC i.1 i.2.2.2
  else bif Nat.blt i.1 67 || Nat.beq i.1 68 then mLkD own ct ini i.1 i.2.2.1 i.2.2.2 else bif Nat.blt i.1 76 then mLkE own ct i.1 i.2.2.2 else bif Nat.blt i.1 90 then mLkK own ct i.1 i.2.2.2 else true
section
variable {p : Program} {l : Launch} {e : Env} {R : Room} {s : State} {m : MethodId} {args : Array Value} {below : List Frame} {meth : Method} {c : Code} {Q : State → Prop} {w : mW} {ct : Bool} {nL : Nat} {n0 s0 : Int} {own : String} {cc : ByteArray} {pc : Nat} {L S : List mV} {σ : mM} {a0 : Int × mM} {g : mG} {K : mK} {d : Nat}

theorem snd_step {i : mI} {mx : Int × Int} {ini : Bool} (F : mF p R s args m c w own cc nL) (hini : ini = true → meth.name = "<init>") (hsz : ct = true → (s.heap.size : Int) = mb w + n0) (hmx : mx = (n0 + (R.cells : Int), s0 + (R.slots : Int))) (hKs : mMet l w K d) (hdd : d + 1 ≤ R.frames ∧ 40 * d + 99 ≤ R.locals)
    (hd : decode cc pc = .ok (mIns i pc)) (hn : i.2.1 = (mIns i pc).2) (hl : mLk own ct ini i = true) (hfin : 90 ≤ i.1 → i.1 < 100 → mstepR i.1 i.2.2.2 S σ = some a0 → mGoal p l e R s m args below meth c Q w ct nL n0 s0 pc L S σ)
    (hg : ∀ pc L S σ, g pc L S σ = some a0 → mGoal p l e R s m args below meth c Q w ct nL n0 s0 pc L S σ) (h : mstep K g mx i pc L S σ = some a0) : mGoal p l e R s m args below meth c Q w ct nL n0 s0 pc L S σ := by
  obtain ⟨op, n, v, ps⟩ := i
  have bl : ∀ {k : Nat}, op < k → Nat.blt op k = true := fun h => Nat.blt_eq.mpr h
  have bn : ∀ {k : Nat}, ¬ op < k → Nat.blt op k = false := fun {k} h => by
    cases hb : Nat.blt op k
    · rfl
    · exact absurd (Nat.blt_eq.mp hb) h
  have h : (bif Nat.blt op 20 then mstepA g op n v ps pc L S σ else bif Nat.blt op 42 then mstepB g op n pc L S σ else bif Nat.blt op 51 || Nat.ble 100 op then mstepC g op n ps pc L S σ else bif Nat.blt op 67 || Nat.beq op 68 then mstepD g op n v ps pc L S σ else bif Nat.blt op 76 then mstepE g op n ps mx pc L S σ else bif Nat.blt op 90 then mstepF K g op n ps mx pc L S σ else mstepR op ps S σ) = some a0 := h
  have hd : decode cc pc = .ok (bif Nat.blt op 20 then mInsA op n v ps else bif Nat.blt op 42 then mInsB op else bif Nat.blt op 51 || Nat.ble 100 op then mInsC op n ps pc else bif Nat.blt op 67 || Nat.beq op 68 then mInsD op ps else bif Nat.blt op 76 then mInsE op ps else bif Nat.blt op 90 then mInsF op ps else mInsR op) := hd
  have hn : n = (bif Nat.blt op 20 then mInsA op n v ps else bif Nat.blt op 42 then mInsB op else bif Nat.blt op 51 || Nat.ble 100 op then mInsC op n ps pc else bif Nat.blt op 67 || Nat.beq op 68 then mInsD op ps else bif Nat.blt op 76 then mInsE op ps else bif Nat.blt op 90 then mInsF op ps else mInsR op).2 := hn
  have hl : (bif Nat.blt op 20 then mLkA own op v ps else bif Nat.blt op 42 then true else bif Nat.blt op 51 || Nat.ble 100 op then mLkC op ps else bif Nat.blt op 67 || Nat.beq op 68 then mLkD own ct ini op v ps else bif Nat.blt op 76 then mLkE own ct op ps else bif Nat.blt op 90 then mLkK own ct op ps else true) = true := hl
  by_cases e : op < 20
  · rw [bl e] at h hd hn hl
    exact snd_A e F hd hn hl hg h
  rw [bn e] at h hd hn hl
  by_cases e2 : op < 42
  · rw [bl e2] at h hd hn hl
    exact snd_B e2 (by omega) F hd hn hg h
  rw [bn e2] at h hd hn hl
  cases e3 : Nat.blt op 51 || Nat.ble 100 op
  · rw [e3] at h hd hn hl
    rw [Bool.or_eq_false_iff] at e3
    cases e4 : Nat.blt op 67 || Nat.beq op 68
    · rw [e4] at h hd hn hl
      by_cases e5 : op < 76
      · rw [bl e5] at h hd hn hl
        exact snd_E F hsz hmx hd hn hl hg h
      rw [bn e5] at h hd hn hl
      by_cases e6 : op < 90
      · rw [bl e6] at h hd hn hl
        exact snd_F e6 F hsz hmx hKs hdd hd hn hl hg h
      rw [bn e6] at h
      refine hfin (by omega) ?_ h
      rcases Nat.lt_or_ge op 100 with z | z
      · exact z
      · have := Nat.ble_eq.mpr z
        rw [this] at e3
        exact absurd e3.2 (by decide)
    · rw [e4] at h hd hn hl
      exact snd_D F hini hd hn hl hg h
  · rw [e3] at h hd hn hl
    exact snd_C F hd hn hl hg h
end
end
section
/-! THE CHECK: every row of the tables against the code and the tables' words -/
def mLkR (m op : Nat) (ps : List Nat) : Bool :=
  bif Nat.beq op 90 then decide (mRt m = some .int) && Nat.beq (mRa m) 1 else bif Nat.beq op 94 then decide (mRt m = some .boolean) && Nat.beq (mRa m) 1 else bif Nat.beq op 91 then decide (mRt m = some .long) && Nat.beq (mRa m) 2
  else bif Nat.beq op 92 then Nat.beq (mRa m) (mp ps 0 + 1) && Nat.ble 20 (mp ps 0) else bif Nat.beq op 93 then decide (mRt m = none) && Nat.beq (mRa m) 0 else Nat.blt op 90 || Nat.ble 100 op
def mCt (m : Nat) : Bool := mctor m || Nat.beq m 230
def mChk1 (m : Nat) (q : Nat × mI) : Bool := decide (decode (mCc m) q.1 = .ok (mIns q.2 q.1)) && Nat.beq q.2.2.1 (mIns q.2 q.1).2 && mLk (mNm m).cls (mCt m) (mctor m) q.2 && mLkR m q.2.1 q.2.2.2.2
def mChk (m : Nat) : Bool := (mcd m).all (mChk1 m)
theorem mck_0 : mChk 0 = true := by decide +kernel
theorem mck_1 : mChk 1 = true := by decide +kernel
theorem mck_2 : mChk 2 = true := by decide +kernel
theorem mck_3 : mChk 3 = true := by decide +kernel
theorem mck_4 : mChk 4 = true := by decide +kernel
theorem mck_5 : mChk 5 = true := by decide +kernel
theorem mck_6 : mChk 6 = true := by decide +kernel
theorem mck_7 : mChk 7 = true := by decide +kernel
theorem mck_8 : mChk 8 = true := by decide +kernel
theorem mck_9 : mChk 9 = true := by decide +kernel
theorem mck_10 : mChk 10 = true := by decide +kernel
theorem mck_11 : mChk 11 = true := by decide +kernel
theorem mck_12 : mChk 12 = true := by decide +kernel
theorem mck_13 : mChk 13 = true := by decide +kernel
theorem mck_14 : mChk 14 = true := by decide +kernel
theorem mck_15 : mChk 15 = true := by decide +kernel
theorem mck_16 : mChk 16 = true := by decide +kernel
theorem mck_17 : mChk 17 = true := by decide +kernel
theorem mck_18 : mChk 18 = true := by decide +kernel
theorem mck_19 : mChk 19 = true := by decide +kernel
theorem mck_20 : mChk 20 = true := by decide +kernel
theorem mck_21 : mChk 21 = true := by decide +kernel
theorem mck_22 : mChk 22 = true := by decide +kernel
theorem mck_23 : mChk 23 = true := by decide +kernel
theorem mck_24 : mChk 24 = true := by decide +kernel
theorem mck_25 : mChk 25 = true := by decide +kernel
theorem mck_26 : mChk 26 = true := by decide +kernel
theorem mck_27 : mChk 27 = true := by decide +kernel
theorem mck_28 : mChk 28 = true := by decide +kernel
theorem mck_29 : mChk 29 = true := by decide +kernel
theorem mck_30 : mChk 30 = true := by decide +kernel
theorem mck_31 : mChk 31 = true := by decide +kernel
theorem mck_32 : mChk 32 = true := by decide +kernel
theorem mck_33 : mChk 33 = true := by decide +kernel
theorem mck_34 : mChk 34 = true := by decide +kernel
theorem mck_35 : mChk 35 = true := by decide +kernel
theorem mck_36 : mChk 36 = true := by decide +kernel
theorem mck_37 : mChk 37 = true := by decide +kernel
theorem mck_38 : mChk 38 = true := by decide +kernel
theorem mck_39 : mChk 39 = true := by decide +kernel
theorem mck_40 : mChk 40 = true := by decide +kernel
theorem mck_41 : mChk 41 = true := by decide +kernel
theorem mck_42 : mChk 42 = true := by decide +kernel
theorem mck_43 : mChk 43 = true := by decide +kernel
theorem mck_44 : mChk 44 = true := by decide +kernel
theorem mck_45 : mChk 45 = true := by decide +kernel
theorem mck_46 : mChk 46 = true := by decide +kernel
theorem mck_47 : mChk 47 = true := by decide +kernel
theorem mck_48 : mChk 48 = true := by decide +kernel
theorem mck_49 : mChk 49 = true := by decide +kernel
theorem mck_50 : mChk 50 = true := by decide +kernel
theorem mck_51 : mChk 51 = true := by decide +kernel
theorem mck_52 : mChk 52 = true := by decide +kernel
theorem mck_53 : mChk 53 = true := by decide +kernel
theorem mck_54 : mChk 54 = true := by decide +kernel
theorem mck_55 : mChk 55 = true := by decide +kernel
theorem mck_56 : mChk 56 = true := by decide +kernel
theorem mck_57 : mChk 57 = true := by decide +kernel
theorem mck_58 : mChk 58 = true := by decide +kernel
theorem mck_59 : mChk 59 = true := by decide +kernel
theorem mck_60 : mChk 60 = true := by decide +kernel
theorem mck_61 : mChk 61 = true := by decide +kernel
theorem mck_62 : mChk 62 = true := by decide +kernel
theorem mck_63 : mChk 63 = true := by decide +kernel
theorem mck_64 : mChk 64 = true := by decide +kernel
theorem mck_65 : mChk 65 = true := by decide +kernel
theorem mck_66 : mChk 66 = true := by decide +kernel
theorem mck_67 : mChk 67 = true := by decide +kernel
theorem mck_68 : mChk 68 = true := by decide +kernel
theorem mck_69 : mChk 69 = true := by decide +kernel
theorem mck_70 : mChk 70 = true := by decide +kernel
theorem mck_71 : mChk 71 = true := by decide +kernel
theorem mck_72 : mChk 72 = true := by decide +kernel
theorem mck_73 : mChk 73 = true := by decide +kernel
theorem mck_74 : mChk 74 = true := by decide +kernel
theorem mck_75 : mChk 75 = true := by decide +kernel
theorem mck_76 : mChk 76 = true := by decide +kernel
theorem mck_77 : mChk 77 = true := by decide +kernel
theorem mck_78 : mChk 78 = true := by decide +kernel
theorem mck_79 : mChk 79 = true := by decide +kernel
theorem mck_80 : mChk 80 = true := by decide +kernel
theorem mck_81 : mChk 81 = true := by decide +kernel
theorem mck_82 : mChk 82 = true := by decide +kernel
theorem mck_83 : mChk 83 = true := by decide +kernel
theorem mck_84 : mChk 84 = true := by decide +kernel
theorem mck_85 : mChk 85 = true := by decide +kernel
theorem mck_86 : mChk 86 = true := by decide +kernel
theorem mck_87 : mChk 87 = true := by decide +kernel
theorem mck_88 : mChk 88 = true := by decide +kernel
theorem mck_89 : mChk 89 = true := by decide +kernel
theorem mck_90 : mChk 90 = true := by decide +kernel
theorem mck_91 : mChk 91 = true := by decide +kernel
theorem mck_92 : mChk 92 = true := by decide +kernel
theorem mck_93 : mChk 93 = true := by decide +kernel
theorem mck_94 : mChk 94 = true := by decide +kernel
theorem mck_95 : mChk 95 = true := by decide +kernel
theorem mck_96 : mChk 96 = true := by decide +kernel
theorem mck_97 : mChk 97 = true := by decide +kernel
theorem mck_98 : mChk 98 = true := by decide +kernel
theorem mck_99 : mChk 99 = true := by decide +kernel
theorem mck_100 : mChk 100 = true := by decide +kernel
theorem mck_101 : mChk 101 = true := by decide +kernel
theorem mck_102 : mChk 102 = true := by decide +kernel
theorem mck_103 : mChk 103 = true := by decide +kernel
theorem mck_104 : mChk 104 = true := by decide +kernel
theorem mck_105 : mChk 105 = true := by decide +kernel
theorem mck_106 : mChk 106 = true := by decide +kernel
theorem mck_107 : mChk 107 = true := by decide +kernel
theorem mck_108 : mChk 108 = true := by decide +kernel
theorem mck_109 : mChk 109 = true := by decide +kernel
theorem mck_110 : mChk 110 = true := by decide +kernel
theorem mck_111 : mChk 111 = true := by decide +kernel
theorem mck_112 : mChk 112 = true := by decide +kernel
theorem mck_113 : mChk 113 = true := by decide +kernel
theorem mck_114 : mChk 114 = true := by decide +kernel
theorem mck_115 : mChk 115 = true := by decide +kernel
theorem mck_116 : mChk 116 = true := by decide +kernel
theorem mck_117 : mChk 117 = true := by decide +kernel
theorem mck_118 : mChk 118 = true := by decide +kernel
theorem mck_119 : mChk 119 = true := by decide +kernel
theorem mck_120 : mChk 120 = true := by decide +kernel
theorem mck_121 : mChk 121 = true := by decide +kernel
theorem mck_122 : mChk 122 = true := by decide +kernel
theorem mck_123 : mChk 123 = true := by decide +kernel
theorem mck_124 : mChk 124 = true := by decide +kernel
theorem mck_125 : mChk 125 = true := by decide +kernel
theorem mck_126 : mChk 126 = true := by decide +kernel
theorem mck_127 : mChk 127 = true := by decide +kernel
theorem mck_128 : mChk 128 = true := by decide +kernel
theorem mck_129 : mChk 129 = true := by decide +kernel
theorem mck_130 : mChk 130 = true := by decide +kernel
theorem mck_131 : mChk 131 = true := by decide +kernel
theorem mck_132 : mChk 132 = true := by decide +kernel
theorem mck_133 : mChk 133 = true := by decide +kernel
theorem mck_134 : mChk 134 = true := by decide +kernel
theorem mck_135 : mChk 135 = true := by decide +kernel
theorem mck_136 : mChk 136 = true := by decide +kernel
theorem mck_137 : mChk 137 = true := by decide +kernel
theorem mck_138 : mChk 138 = true := by decide +kernel
theorem mck_139 : mChk 139 = true := by decide +kernel
theorem mck_140 : mChk 140 = true := by decide +kernel
theorem mck_141 : mChk 141 = true := by decide +kernel
theorem mck_142 : mChk 142 = true := by decide +kernel
theorem mck_143 : mChk 143 = true := by decide +kernel
theorem mck_144 : mChk 144 = true := by decide +kernel
theorem mck_145 : mChk 145 = true := by decide +kernel
theorem mck_146 : mChk 146 = true := by decide +kernel
theorem mck_147 : mChk 147 = true := by decide +kernel
theorem mck_148 : mChk 148 = true := by decide +kernel
theorem mck_149 : mChk 149 = true := by decide +kernel
theorem mck_150 : mChk 150 = true := by decide +kernel
theorem mck_151 : mChk 151 = true := by decide +kernel
theorem mck_152 : mChk 152 = true := by decide +kernel
theorem mck_153 : mChk 153 = true := by decide +kernel
theorem mck_154 : mChk 154 = true := by decide +kernel
theorem mck_155 : mChk 155 = true := by decide +kernel
theorem mck_156 : mChk 156 = true := by decide +kernel
theorem mck_157 : mChk 157 = true := by decide +kernel
theorem mck_158 : mChk 158 = true := by decide +kernel
theorem mck_159 : mChk 159 = true := by decide +kernel
theorem mck_160 : mChk 160 = true := by decide +kernel
theorem mck_161 : mChk 161 = true := by decide +kernel
theorem mck_162 : mChk 162 = true := by decide +kernel
theorem mck_163 : mChk 163 = true := by decide +kernel
theorem mck_164 : mChk 164 = true := by decide +kernel
theorem mck_165 : mChk 165 = true := by decide +kernel
theorem mck_166 : mChk 166 = true := by decide +kernel
theorem mck_167 : mChk 167 = true := by decide +kernel
theorem mck_168 : mChk 168 = true := by decide +kernel
theorem mck_169 : mChk 169 = true := by decide +kernel
theorem mck_170 : mChk 170 = true := by decide +kernel
theorem mck_171 : mChk 171 = true := by decide +kernel
theorem mck_172 : mChk 172 = true := by decide +kernel
theorem mck_173 : mChk 173 = true := by decide +kernel
theorem mck_174 : mChk 174 = true := by decide +kernel
theorem mck_175 : mChk 175 = true := by decide +kernel
theorem mck_176 : mChk 176 = true := by decide +kernel
theorem mck_177 : mChk 177 = true := by decide +kernel
theorem mck_178 : mChk 178 = true := by decide +kernel
theorem mck_179 : mChk 179 = true := by decide +kernel
theorem mck_180 : mChk 180 = true := by decide +kernel
theorem mck_181 : mChk 181 = true := by decide +kernel
theorem mck_182 : mChk 182 = true := by decide +kernel
theorem mck_183 : mChk 183 = true := by decide +kernel
theorem mck_184 : mChk 184 = true := by decide +kernel
theorem mck_185 : mChk 185 = true := by decide +kernel
theorem mck_186 : mChk 186 = true := by decide +kernel
theorem mck_187 : mChk 187 = true := by decide +kernel
theorem mck_188 : mChk 188 = true := by decide +kernel
theorem mck_189 : mChk 189 = true := by decide +kernel
theorem mck_190 : mChk 190 = true := by decide +kernel
theorem mck_191 : mChk 191 = true := by decide +kernel
theorem mck_192 : mChk 192 = true := by decide +kernel
theorem mck_193 : mChk 193 = true := by decide +kernel
theorem mck_194 : mChk 194 = true := by decide +kernel
theorem mck_195 : mChk 195 = true := by decide +kernel
theorem mck_196 : mChk 196 = true := by decide +kernel
theorem mck_197 : mChk 197 = true := by decide +kernel
theorem mck_198 : mChk 198 = true := by decide +kernel
theorem mck_199 : mChk 199 = true := by decide +kernel
theorem mck_200 : mChk 200 = true := by decide +kernel
theorem mck_201 : mChk 201 = true := by decide +kernel
theorem mck_202 : mChk 202 = true := by decide +kernel
theorem mck_203 : mChk 203 = true := by decide +kernel
theorem mck_204 : mChk 204 = true := by decide +kernel
theorem mck_205 : mChk 205 = true := by decide +kernel
theorem mck_206 : mChk 206 = true := by decide +kernel
theorem mck_207 : mChk 207 = true := by decide +kernel
theorem mck_208 : mChk 208 = true := by decide +kernel
theorem mck_209 : mChk 209 = true := by decide +kernel
theorem mck_210 : mChk 210 = true := by decide +kernel
theorem mck_211 : mChk 211 = true := by decide +kernel
theorem mck_212 : mChk 212 = true := by decide +kernel
theorem mck_213 : mChk 213 = true := by decide +kernel
theorem mck_214 : mChk 214 = true := by decide +kernel
theorem mck_215 : mChk 215 = true := by decide +kernel
theorem mck_216 : mChk 216 = true := by decide +kernel
theorem mck_217 : mChk 217 = true := by decide +kernel
theorem mck_218 : mChk 218 = true := by decide +kernel
theorem mck_219 : mChk 219 = true := by decide +kernel
theorem mck_220 : mChk 220 = true := by decide +kernel
theorem mck_221 : mChk 221 = true := by decide +kernel
theorem mck_222 : mChk 222 = true := by decide +kernel
theorem mck_223 : mChk 223 = true := by decide +kernel
theorem mck_224 : mChk 224 = true := by decide +kernel
theorem mck_225 : mChk 225 = true := by decide +kernel
theorem mck_226 : mChk 226 = true := by decide +kernel
theorem mck_227 : mChk 227 = true := by decide +kernel
theorem mck_228 : mChk 228 = true := by decide +kernel
theorem mck_230 : mChk 230 = true := by decide +kernel
end
section
theorem mckl_0 : mcl_0.all (mChk1 229) = true := by decide +kernel
theorem mckl_1 : mcl_1.all (mChk1 229) = true := by decide +kernel
theorem mckl_2 : mcl_2.all (mChk1 229) = true := by decide +kernel
theorem mckl_3 : mcl_3.all (mChk1 229) = true := by decide +kernel
end
section
theorem mckl_4 : mcl_4.all (mChk1 229) = true := by decide +kernel
theorem mckl_5 : mcl_5.all (mChk1 229) = true := by decide +kernel
theorem mckl_6 : mcl_6.all (mChk1 229) = true := by decide +kernel
theorem mckl_7 : mcl_7.all (mChk1 229) = true := by decide +kernel
end
section
theorem mckl_8 : mcl_8.all (mChk1 229) = true := by decide +kernel
theorem mckl_9 : mcl_9.all (mChk1 229) = true := by decide +kernel
theorem mckl_10 : mcl_10.all (mChk1 229) = true := by decide +kernel
theorem mckl_11 : mcl_11.all (mChk1 229) = true := by decide +kernel
end
section
theorem mckl_12 : mcl_12.all (mChk1 229) = true := by decide +kernel
theorem mckl_13 : mcl_13.all (mChk1 229) = true := by decide +kernel
theorem mckl_14 : mcl_14.all (mChk1 229) = true := by decide +kernel
theorem mckl_15 : mcl_15.all (mChk1 229) = true := by decide +kernel
end
section
theorem mckl_16 : mcl_16.all (mChk1 229) = true := by decide +kernel
theorem mckl_17 : mcl_17.all (mChk1 229) = true := by decide +kernel
theorem mckl_18 : mcl_18.all (mChk1 229) = true := by decide +kernel
theorem mckl_19 : mcl_19.all (mChk1 229) = true := by decide +kernel
end
section
theorem mckl_20 : mcl_20.all (mChk1 229) = true := by decide +kernel
end
section
theorem mck_229 : mChk 229 = true := by
  show (mcl_0 ++ (mcl_1 ++ (mcl_2 ++ (mcl_3 ++ (mcl_4 ++ (mcl_5 ++ (mcl_6 ++ (mcl_7 ++ (mcl_8 ++ (mcl_9 ++ (mcl_10 ++ (mcl_11 ++ (mcl_12 ++ (mcl_13 ++ (mcl_14 ++ (mcl_15 ++ (mcl_16 ++ (mcl_17 ++ (mcl_18 ++ (mcl_19 ++ (mcl_20))))))))))))))))))))).all (mChk1 229) = true
  rw [List.all_append, List.all_append, List.all_append, List.all_append, List.all_append, List.all_append, List.all_append, List.all_append, List.all_append, List.all_append, List.all_append, List.all_append, List.all_append, List.all_append, List.all_append, List.all_append, List.all_append, List.all_append, List.all_append, List.all_append, mckl_0, mckl_1, mckl_2, mckl_3, mckl_4, mckl_5, mckl_6, mckl_7, mckl_8, mckl_9, mckl_10, mckl_11, mckl_12, mckl_13, mckl_14, mckl_15, mckl_16, mckl_17, mckl_18, mckl_19, mckl_20]
  rfl
theorem mck_c0 {m : Nat} (h1 : 0 ≤ m) (h2 : m < 16) : mChk m = true := by
  rcases (by omega : m = 0 ∨ m = 1 ∨ m = 2 ∨ m = 3 ∨ m = 4 ∨ m = 5 ∨ m = 6 ∨ m = 7 ∨ m = 8 ∨ m = 9 ∨ m = 10 ∨ m = 11 ∨ m = 12 ∨ m = 13 ∨ m = 14 ∨ m = 15) with rfl | rfl | rfl | rfl | rfl | rfl | rfl | rfl | rfl | rfl | rfl | rfl | rfl | rfl | rfl | rfl
  · exact mck_0
  · exact mck_1
  · exact mck_2
  · exact mck_3
  · exact mck_4
  · exact mck_5
  · exact mck_6
  · exact mck_7
  · exact mck_8
  · exact mck_9
  · exact mck_10
  · exact mck_11
  · exact mck_12
  · exact mck_13
  · exact mck_14
  · exact mck_15
theorem mck_c16 {m : Nat} (h1 : 16 ≤ m) (h2 : m < 32) : mChk m = true := by
  rcases (by omega : m = 16 ∨ m = 17 ∨ m = 18 ∨ m = 19 ∨ m = 20 ∨ m = 21 ∨ m = 22 ∨ m = 23 ∨ m = 24 ∨ m = 25 ∨ m = 26 ∨ m = 27 ∨ m = 28 ∨ m = 29 ∨ m = 30 ∨ m = 31) with rfl | rfl | rfl | rfl | rfl | rfl | rfl | rfl | rfl | rfl | rfl | rfl | rfl | rfl | rfl | rfl
  · exact mck_16
  · exact mck_17
  · exact mck_18
  · exact mck_19
  · exact mck_20
  · exact mck_21
  · exact mck_22
  · exact mck_23
  · exact mck_24
  · exact mck_25
  · exact mck_26
  · exact mck_27
  · exact mck_28
  · exact mck_29
  · exact mck_30
  · exact mck_31
theorem mck_c32 {m : Nat} (h1 : 32 ≤ m) (h2 : m < 48) : mChk m = true := by
  rcases (by omega : m = 32 ∨ m = 33 ∨ m = 34 ∨ m = 35 ∨ m = 36 ∨ m = 37 ∨ m = 38 ∨ m = 39 ∨ m = 40 ∨ m = 41 ∨ m = 42 ∨ m = 43 ∨ m = 44 ∨ m = 45 ∨ m = 46 ∨ m = 47) with rfl | rfl | rfl | rfl | rfl | rfl | rfl | rfl | rfl | rfl | rfl | rfl | rfl | rfl | rfl | rfl
  · exact mck_32
  · exact mck_33
  · exact mck_34
  · exact mck_35
  · exact mck_36
  · exact mck_37
  · exact mck_38
  · exact mck_39
  · exact mck_40
  · exact mck_41
  · exact mck_42
  · exact mck_43
  · exact mck_44
  · exact mck_45
  · exact mck_46
  · exact mck_47
theorem mck_c48 {m : Nat} (h1 : 48 ≤ m) (h2 : m < 64) : mChk m = true := by
  rcases (by omega : m = 48 ∨ m = 49 ∨ m = 50 ∨ m = 51 ∨ m = 52 ∨ m = 53 ∨ m = 54 ∨ m = 55 ∨ m = 56 ∨ m = 57 ∨ m = 58 ∨ m = 59 ∨ m = 60 ∨ m = 61 ∨ m = 62 ∨ m = 63) with rfl | rfl | rfl | rfl | rfl | rfl | rfl | rfl | rfl | rfl | rfl | rfl | rfl | rfl | rfl | rfl
  · exact mck_48
  · exact mck_49
  · exact mck_50
  · exact mck_51
  · exact mck_52
  · exact mck_53
  · exact mck_54
  · exact mck_55
  · exact mck_56
  · exact mck_57
  · exact mck_58
  · exact mck_59
  · exact mck_60
  · exact mck_61
  · exact mck_62
  · exact mck_63
theorem mck_c64 {m : Nat} (h1 : 64 ≤ m) (h2 : m < 80) : mChk m = true := by
  rcases (by omega : m = 64 ∨ m = 65 ∨ m = 66 ∨ m = 67 ∨ m = 68 ∨ m = 69 ∨ m = 70 ∨ m = 71 ∨ m = 72 ∨ m = 73 ∨ m = 74 ∨ m = 75 ∨ m = 76 ∨ m = 77 ∨ m = 78 ∨ m = 79) with rfl | rfl | rfl | rfl | rfl | rfl | rfl | rfl | rfl | rfl | rfl | rfl | rfl | rfl | rfl | rfl
  · exact mck_64
  · exact mck_65
  · exact mck_66
  · exact mck_67
  · exact mck_68
  · exact mck_69
  · exact mck_70
  · exact mck_71
  · exact mck_72
  · exact mck_73
  · exact mck_74
  · exact mck_75
  · exact mck_76
  · exact mck_77
  · exact mck_78
  · exact mck_79
theorem mck_c80 {m : Nat} (h1 : 80 ≤ m) (h2 : m < 96) : mChk m = true := by
  rcases (by omega : m = 80 ∨ m = 81 ∨ m = 82 ∨ m = 83 ∨ m = 84 ∨ m = 85 ∨ m = 86 ∨ m = 87 ∨ m = 88 ∨ m = 89 ∨ m = 90 ∨ m = 91 ∨ m = 92 ∨ m = 93 ∨ m = 94 ∨ m = 95) with rfl | rfl | rfl | rfl | rfl | rfl | rfl | rfl | rfl | rfl | rfl | rfl | rfl | rfl | rfl | rfl
  · exact mck_80
  · exact mck_81
  · exact mck_82
  · exact mck_83
  · exact mck_84
  · exact mck_85
  · exact mck_86
  · exact mck_87
  · exact mck_88
  · exact mck_89
  · exact mck_90
  · exact mck_91
  · exact mck_92
  · exact mck_93
  · exact mck_94
  · exact mck_95
theorem mck_c96 {m : Nat} (h1 : 96 ≤ m) (h2 : m < 112) : mChk m = true := by
  rcases (by omega : m = 96 ∨ m = 97 ∨ m = 98 ∨ m = 99 ∨ m = 100 ∨ m = 101 ∨ m = 102 ∨ m = 103 ∨ m = 104 ∨ m = 105 ∨ m = 106 ∨ m = 107 ∨ m = 108 ∨ m = 109 ∨ m = 110 ∨ m = 111) with rfl | rfl | rfl | rfl | rfl | rfl | rfl | rfl | rfl | rfl | rfl | rfl | rfl | rfl | rfl | rfl
  · exact mck_96
  · exact mck_97
  · exact mck_98
  · exact mck_99
  · exact mck_100
  · exact mck_101
  · exact mck_102
  · exact mck_103
  · exact mck_104
  · exact mck_105
  · exact mck_106
  · exact mck_107
  · exact mck_108
  · exact mck_109
  · exact mck_110
  · exact mck_111
theorem mck_c112 {m : Nat} (h1 : 112 ≤ m) (h2 : m < 128) : mChk m = true := by
  rcases (by omega : m = 112 ∨ m = 113 ∨ m = 114 ∨ m = 115 ∨ m = 116 ∨ m = 117 ∨ m = 118 ∨ m = 119 ∨ m = 120 ∨ m = 121 ∨ m = 122 ∨ m = 123 ∨ m = 124 ∨ m = 125 ∨ m = 126 ∨ m = 127) with rfl | rfl | rfl | rfl | rfl | rfl | rfl | rfl | rfl | rfl | rfl | rfl | rfl | rfl | rfl | rfl
  · exact mck_112
  · exact mck_113
  · exact mck_114
  · exact mck_115
  · exact mck_116
  · exact mck_117
  · exact mck_118
  · exact mck_119
  · exact mck_120
  · exact mck_121
  · exact mck_122
  · exact mck_123
  · exact mck_124
  · exact mck_125
  · exact mck_126
  · exact mck_127
theorem mck_c128 {m : Nat} (h1 : 128 ≤ m) (h2 : m < 144) : mChk m = true := by
  rcases (by omega : m = 128 ∨ m = 129 ∨ m = 130 ∨ m = 131 ∨ m = 132 ∨ m = 133 ∨ m = 134 ∨ m = 135 ∨ m = 136 ∨ m = 137 ∨ m = 138 ∨ m = 139 ∨ m = 140 ∨ m = 141 ∨ m = 142 ∨ m = 143) with rfl | rfl | rfl | rfl | rfl | rfl | rfl | rfl | rfl | rfl | rfl | rfl | rfl | rfl | rfl | rfl
  · exact mck_128
  · exact mck_129
  · exact mck_130
  · exact mck_131
  · exact mck_132
  · exact mck_133
  · exact mck_134
  · exact mck_135
  · exact mck_136
  · exact mck_137
  · exact mck_138
  · exact mck_139
  · exact mck_140
  · exact mck_141
  · exact mck_142
  · exact mck_143
theorem mck_c144 {m : Nat} (h1 : 144 ≤ m) (h2 : m < 160) : mChk m = true := by
  rcases (by omega : m = 144 ∨ m = 145 ∨ m = 146 ∨ m = 147 ∨ m = 148 ∨ m = 149 ∨ m = 150 ∨ m = 151 ∨ m = 152 ∨ m = 153 ∨ m = 154 ∨ m = 155 ∨ m = 156 ∨ m = 157 ∨ m = 158 ∨ m = 159) with rfl | rfl | rfl | rfl | rfl | rfl | rfl | rfl | rfl | rfl | rfl | rfl | rfl | rfl | rfl | rfl
  · exact mck_144
  · exact mck_145
  · exact mck_146
  · exact mck_147
  · exact mck_148
  · exact mck_149
  · exact mck_150
  · exact mck_151
  · exact mck_152
  · exact mck_153
  · exact mck_154
  · exact mck_155
  · exact mck_156
  · exact mck_157
  · exact mck_158
  · exact mck_159
theorem mck_c160 {m : Nat} (h1 : 160 ≤ m) (h2 : m < 176) : mChk m = true := by
  rcases (by omega : m = 160 ∨ m = 161 ∨ m = 162 ∨ m = 163 ∨ m = 164 ∨ m = 165 ∨ m = 166 ∨ m = 167 ∨ m = 168 ∨ m = 169 ∨ m = 170 ∨ m = 171 ∨ m = 172 ∨ m = 173 ∨ m = 174 ∨ m = 175) with rfl | rfl | rfl | rfl | rfl | rfl | rfl | rfl | rfl | rfl | rfl | rfl | rfl | rfl | rfl | rfl
  · exact mck_160
  · exact mck_161
  · exact mck_162
  · exact mck_163
  · exact mck_164
  · exact mck_165
  · exact mck_166
  · exact mck_167
  · exact mck_168
  · exact mck_169
  · exact mck_170
  · exact mck_171
  · exact mck_172
  · exact mck_173
  · exact mck_174
  · exact mck_175
theorem mck_c176 {m : Nat} (h1 : 176 ≤ m) (h2 : m < 192) : mChk m = true := by
  rcases (by omega : m = 176 ∨ m = 177 ∨ m = 178 ∨ m = 179 ∨ m = 180 ∨ m = 181 ∨ m = 182 ∨ m = 183 ∨ m = 184 ∨ m = 185 ∨ m = 186 ∨ m = 187 ∨ m = 188 ∨ m = 189 ∨ m = 190 ∨ m = 191) with rfl | rfl | rfl | rfl | rfl | rfl | rfl | rfl | rfl | rfl | rfl | rfl | rfl | rfl | rfl | rfl
  · exact mck_176
  · exact mck_177
  · exact mck_178
  · exact mck_179
  · exact mck_180
  · exact mck_181
  · exact mck_182
  · exact mck_183
  · exact mck_184
  · exact mck_185
  · exact mck_186
  · exact mck_187
  · exact mck_188
  · exact mck_189
  · exact mck_190
  · exact mck_191
theorem mck_c192 {m : Nat} (h1 : 192 ≤ m) (h2 : m < 208) : mChk m = true := by
  rcases (by omega : m = 192 ∨ m = 193 ∨ m = 194 ∨ m = 195 ∨ m = 196 ∨ m = 197 ∨ m = 198 ∨ m = 199 ∨ m = 200 ∨ m = 201 ∨ m = 202 ∨ m = 203 ∨ m = 204 ∨ m = 205 ∨ m = 206 ∨ m = 207) with rfl | rfl | rfl | rfl | rfl | rfl | rfl | rfl | rfl | rfl | rfl | rfl | rfl | rfl | rfl | rfl
  · exact mck_192
  · exact mck_193
  · exact mck_194
  · exact mck_195
  · exact mck_196
  · exact mck_197
  · exact mck_198
  · exact mck_199
  · exact mck_200
  · exact mck_201
  · exact mck_202
  · exact mck_203
  · exact mck_204
  · exact mck_205
  · exact mck_206
  · exact mck_207
theorem mck_c208 {m : Nat} (h1 : 208 ≤ m) (h2 : m < 224) : mChk m = true := by
  rcases (by omega : m = 208 ∨ m = 209 ∨ m = 210 ∨ m = 211 ∨ m = 212 ∨ m = 213 ∨ m = 214 ∨ m = 215 ∨ m = 216 ∨ m = 217 ∨ m = 218 ∨ m = 219 ∨ m = 220 ∨ m = 221 ∨ m = 222 ∨ m = 223) with rfl | rfl | rfl | rfl | rfl | rfl | rfl | rfl | rfl | rfl | rfl | rfl | rfl | rfl | rfl | rfl
  · exact mck_208
  · exact mck_209
  · exact mck_210
  · exact mck_211
  · exact mck_212
  · exact mck_213
  · exact mck_214
  · exact mck_215
  · exact mck_216
  · exact mck_217
  · exact mck_218
  · exact mck_219
  · exact mck_220
  · exact mck_221
  · exact mck_222
  · exact mck_223
theorem mck_c224 {m : Nat} (h1 : 224 ≤ m) (h2 : m < 231) : mChk m = true := by
  rcases (by omega : m = 224 ∨ m = 225 ∨ m = 226 ∨ m = 227 ∨ m = 228 ∨ m = 229 ∨ m = 230) with rfl | rfl | rfl | rfl | rfl | rfl | rfl
  · exact mck_224
  · exact mck_225
  · exact mck_226
  · exact mck_227
  · exact mck_228
  · exact mck_229
  · exact mck_230
theorem mck_all {m : Nat} (h : m < 231) : mChk m = true := by
  rcases (by omega : (0 ≤ m ∧ m < 16) ∨ (16 ≤ m ∧ m < 32) ∨ (32 ≤ m ∧ m < 48) ∨ (48 ≤ m ∧ m < 64) ∨ (64 ≤ m ∧ m < 80) ∨ (80 ≤ m ∧ m < 96) ∨ (96 ≤ m ∧ m < 112) ∨ (112 ≤ m ∧ m < 128) ∨ (128 ≤ m ∧ m < 144) ∨ (144 ≤ m ∧ m < 160) ∨ (160 ≤ m ∧ m < 176) ∨ (176 ≤ m ∧ m < 192) ∨ (192 ≤ m ∧ m < 208) ∨ (208 ≤ m ∧ m < 224) ∨ (224 ≤ m ∧ m < 231)) with h | h | h | h | h | h | h | h | h | h | h | h | h | h | h
  · exact mck_c0 h.1 h.2
  · exact mck_c16 h.1 h.2
  · exact mck_c32 h.1 h.2
  · exact mck_c48 h.1 h.2
  · exact mck_c64 h.1 h.2
  · exact mck_c80 h.1 h.2
  · exact mck_c96 h.1 h.2
  · exact mck_c112 h.1 h.2
  · exact mck_c128 h.1 h.2
  · exact mck_c144 h.1 h.2
  · exact mck_c160 h.1 h.2
  · exact mck_c176 h.1 h.2
  · exact mck_c192 h.1 h.2
  · exact mck_c208 h.1 h.2
  · exact mck_c224 h.1 h.2
end
