section
-- ===== PART A: goes FIRST, ahead of the names: the tables' words, and 'selects' of the private methods out of them =====
/-- a private method of a class that the tables say can be made, by its rows of tables_1 -/
def lw_okq (q : MethodName × Nat) : Prop := (q.1.cls ≠ "java/lang/invoke/MethodHandle" ∧ q.1.cls ≠ "java/lang/invoke/VarHandle") ∧ Cond.instantiable q.1.cls q.2 ∈ tables_1 ∧ Cond.privateMethod q.1 ∈ tables_1 ∧ Cond.instanceMethod q.1 ∈ tables_1
theorem lw_p0 : lw_okq (⟨"EiderClimate", "houseCame", "(LEiderClimate$Shelf;II)Z"⟩, 9) := ⟨⟨by decide +kernel, by decide +kernel⟩, List.mem_of_getElem? (i := 16) (by decide +kernel), List.mem_of_getElem? (i := 356) (by decide +kernel), List.mem_of_getElem? (i := 357) (by decide +kernel)⟩
theorem lw_p1 : lw_okq (⟨"EiderClimate$Changes", "forgetOldest", "()V"⟩, 6) := ⟨⟨by decide +kernel, by decide +kernel⟩, List.mem_of_getElem? (i := 229) (by decide +kernel), List.mem_of_getElem? (i := 395) (by decide +kernel), List.mem_of_getElem? (i := 396) (by decide +kernel)⟩
theorem lw_p2 : lw_okq (⟨"EiderClimate$Tape", "readLine", "()Z"⟩, 4) := ⟨⟨by decide +kernel, by decide +kernel⟩, List.mem_of_getElem? (i := 130) (by decide +kernel), List.mem_of_getElem? (i := 426) (by decide +kernel), List.mem_of_getElem? (i := 427) (by decide +kernel)⟩
theorem lw_p3 : lw_okq (⟨"EiderClimate$Tape", "readJoined", "(II)Z"⟩, 4) := ⟨⟨by decide +kernel, by decide +kernel⟩, List.mem_of_getElem? (i := 130) (by decide +kernel), List.mem_of_getElem? (i := 430) (by decide +kernel), List.mem_of_getElem? (i := 431) (by decide +kernel)⟩
theorem lw_p4 : lw_okq (⟨"EiderClimate$Tape", "readOperand", "(I)Z"⟩, 4) := ⟨⟨by decide +kernel, by decide +kernel⟩, List.mem_of_getElem? (i := 130) (by decide +kernel), List.mem_of_getElem? (i := 434) (by decide +kernel), List.mem_of_getElem? (i := 435) (by decide +kernel)⟩
theorem lw_p5 : lw_okq (⟨"EiderClimate$Tape", "next", "()I"⟩, 4) := ⟨⟨by decide +kernel, by decide +kernel⟩, List.mem_of_getElem? (i := 130) (by decide +kernel), List.mem_of_getElem? (i := 438) (by decide +kernel), List.mem_of_getElem? (i := 439) (by decide +kernel)⟩
theorem lw_p6 : lw_okq (⟨"EiderClimate$Tape", "readNumber", "()V"⟩, 4) := ⟨⟨by decide +kernel, by decide +kernel⟩, List.mem_of_getElem? (i := 130) (by decide +kernel), List.mem_of_getElem? (i := 445) (by decide +kernel), List.mem_of_getElem? (i := 446) (by decide +kernel)⟩
theorem lw_p7 : lw_okq (⟨"EiderClimate$Tape", "readToClose", "(I)Z"⟩, 4) := ⟨⟨by decide +kernel, by decide +kernel⟩, List.mem_of_getElem? (i := 130) (by decide +kernel), List.mem_of_getElem? (i := 456) (by decide +kernel), List.mem_of_getElem? (i := 457) (by decide +kernel)⟩
theorem lw_p8 : lw_okq (⟨"EiderClimate$Tape", "readAhead", "(II)Z"⟩, 4) := ⟨⟨by decide +kernel, by decide +kernel⟩, List.mem_of_getElem? (i := 130) (by decide +kernel), List.mem_of_getElem? (i := 460) (by decide +kernel), List.mem_of_getElem? (i := 461) (by decide +kernel)⟩
theorem lw_p9 : lw_okq (⟨"EiderClimate$Cover", "wear", "()V"⟩, 5) := ⟨⟨by decide +kernel, by decide +kernel⟩, List.mem_of_getElem? (i := 30) (by decide +kernel), List.mem_of_getElem? (i := 493) (by decide +kernel), List.mem_of_getElem? (i := 494) (by decide +kernel)⟩
theorem lw_p10 : lw_okq (⟨"EiderClimate$Law", "lookAt", "(LEiderClimate$Cover;I)V"⟩, 8) := ⟨⟨by decide +kernel, by decide +kernel⟩, List.mem_of_getElem? (i := 64) (by decide +kernel), List.mem_of_getElem? (i := 508) (by decide +kernel), List.mem_of_getElem? (i := 509) (by decide +kernel)⟩
theorem lw_p11 : lw_okq (⟨"EiderClimate$Law", "valueOfPart", "(I)I"⟩, 8) := ⟨⟨by decide +kernel, by decide +kernel⟩, List.mem_of_getElem? (i := 64) (by decide +kernel), List.mem_of_getElem? (i := 512) (by decide +kernel), List.mem_of_getElem? (i := 513) (by decide +kernel)⟩
theorem lw_p12 : lw_okq (⟨"EiderClimate$Thought", "warmByPulls", "(III)Z"⟩, 10) := ⟨⟨by decide +kernel, by decide +kernel⟩, List.mem_of_getElem? (i := 150) (by decide +kernel), List.mem_of_getElem? (i := 569) (by decide +kernel), List.mem_of_getElem? (i := 570) (by decide +kernel)⟩
theorem lw_p13 : lw_okq (⟨"EiderClimate$Thought", "weigh", "(I)V"⟩, 10) := ⟨⟨by decide +kernel, by decide +kernel⟩, List.mem_of_getElem? (i := 150) (by decide +kernel), List.mem_of_getElem? (i := 599) (by decide +kernel), List.mem_of_getElem? (i := 600) (by decide +kernel)⟩
theorem lw_p14 : lw_okq (⟨"EiderClimate", "refusalOfBytes", "(I)I"⟩, 9) := ⟨⟨by decide +kernel, by decide +kernel⟩, List.mem_of_getElem? (i := 16) (by decide +kernel), List.mem_of_getElem? (i := 626) (by decide +kernel), List.mem_of_getElem? (i := 627) (by decide +kernel)⟩
theorem lw_p15 : lw_okq (⟨"EiderClimate$Thought", "firstUnlike", "(LEiderClimate$Shelf;I)I"⟩, 10) := ⟨⟨by decide +kernel, by decide +kernel⟩, List.mem_of_getElem? (i := 150) (by decide +kernel), List.mem_of_getElem? (i := 634) (by decide +kernel), List.mem_of_getElem? (i := 635) (by decide +kernel)⟩
def lw_privs_1 : List (MethodName × Nat) := [(⟨"EiderClimate", "houseCame", "(LEiderClimate$Shelf;II)Z"⟩, 9), (⟨"EiderClimate$Changes", "forgetOldest", "()V"⟩, 6), (⟨"EiderClimate$Tape", "readLine", "()Z"⟩, 4), (⟨"EiderClimate$Tape", "readJoined", "(II)Z"⟩, 4), (⟨"EiderClimate$Tape", "readOperand", "(I)Z"⟩, 4), (⟨"EiderClimate$Tape", "next", "()I"⟩, 4), (⟨"EiderClimate$Tape", "readNumber", "()V"⟩, 4), (⟨"EiderClimate$Tape", "readToClose", "(I)Z"⟩, 4), (⟨"EiderClimate$Tape", "readAhead", "(II)Z"⟩, 4), (⟨"EiderClimate$Cover", "wear", "()V"⟩, 5), (⟨"EiderClimate$Law", "lookAt", "(LEiderClimate$Cover;I)V"⟩, 8), (⟨"EiderClimate$Law", "valueOfPart", "(I)I"⟩, 8), (⟨"EiderClimate$Thought", "warmByPulls", "(III)Z"⟩, 10), (⟨"EiderClimate$Thought", "weigh", "(I)V"⟩, 10), (⟨"EiderClimate", "refusalOfBytes", "(I)I"⟩, 9), (⟨"EiderClimate$Thought", "firstUnlike", "(LEiderClimate$Shelf;I)I"⟩, 10)]
theorem lw_r1 : ∀ q ∈ lw_privs_1, lw_okq q := List.forall_mem_cons.mpr ⟨lw_p0, List.forall_mem_cons.mpr ⟨lw_p1, List.forall_mem_cons.mpr ⟨lw_p2, List.forall_mem_cons.mpr ⟨lw_p3, List.forall_mem_cons.mpr ⟨lw_p4, List.forall_mem_cons.mpr ⟨lw_p5, List.forall_mem_cons.mpr ⟨lw_p6, List.forall_mem_cons.mpr ⟨lw_p7, List.forall_mem_cons.mpr ⟨lw_p8, List.forall_mem_cons.mpr ⟨lw_p9, List.forall_mem_cons.mpr ⟨lw_p10, List.forall_mem_cons.mpr ⟨lw_p11, List.forall_mem_cons.mpr ⟨lw_p12, List.forall_mem_cons.mpr ⟨lw_p13, List.forall_mem_cons.mpr ⟨lw_p14, List.forall_mem_cons.mpr ⟨lw_p15, fun _ h => absurd h List.not_mem_nil⟩⟩⟩⟩⟩⟩⟩⟩⟩⟩⟩⟩⟩⟩⟩⟩
theorem lw_p16 : lw_okq (⟨"EiderClimate$Ways", "forgetSteps", "()V"⟩, 8) := ⟨⟨by decide +kernel, by decide +kernel⟩, List.mem_of_getElem? (i := 193) (by decide +kernel), List.mem_of_getElem? (i := 664) (by decide +kernel), List.mem_of_getElem? (i := 665) (by decide +kernel)⟩
theorem lw_p17 : lw_okq (⟨"EiderClimate$Ways", "spread", "(I)I"⟩, 8) := ⟨⟨by decide +kernel, by decide +kernel⟩, List.mem_of_getElem? (i := 193) (by decide +kernel), List.mem_of_getElem? (i := 668) (by decide +kernel), List.mem_of_getElem? (i := 669) (by decide +kernel)⟩
theorem lw_p18 : lw_okq (⟨"EiderClimate$Thought", "bestFrom", "(II)I"⟩, 10) := ⟨⟨by decide +kernel, by decide +kernel⟩, List.mem_of_getElem? (i := 150) (by decide +kernel), List.mem_of_getElem? (i := 693) (by decide +kernel), List.mem_of_getElem? (i := 694) (by decide +kernel)⟩
theorem lw_p19 : lw_okq (⟨"EiderClimate$Thought", "draw", "(I)V"⟩, 10) := ⟨⟨by decide +kernel, by decide +kernel⟩, List.mem_of_getElem? (i := 150) (by decide +kernel), List.mem_of_getElem? (i := 706) (by decide +kernel), List.mem_of_getElem? (i := 707) (by decide +kernel)⟩
theorem lw_p20 : lw_okq (⟨"EiderClimate$Stitches", "run", "(IIIII)I"⟩, 4) := ⟨⟨by decide +kernel, by decide +kernel⟩, List.mem_of_getElem? (i := 256) (by decide +kernel), List.mem_of_getElem? (i := 785) (by decide +kernel), List.mem_of_getElem? (i := 786) (by decide +kernel)⟩
theorem lw_p21 : lw_okq (⟨"EiderClimate$Stitches", "worked", "(IIIII)I"⟩, 4) := ⟨⟨by decide +kernel, by decide +kernel⟩, List.mem_of_getElem? (i := 256) (by decide +kernel), List.mem_of_getElem? (i := 793) (by decide +kernel), List.mem_of_getElem? (i := 794) (by decide +kernel)⟩
theorem lw_p22 : lw_okq (⟨"EiderClimate", "refusalOfElement", "(II)I"⟩, 9) := ⟨⟨by decide +kernel, by decide +kernel⟩, List.mem_of_getElem? (i := 16) (by decide +kernel), List.mem_of_getElem? (i := 822) (by decide +kernel), List.mem_of_getElem? (i := 823) (by decide +kernel)⟩
theorem lw_p23 : lw_okq (⟨"EiderClimateModel", "newHouse", "(III)I"⟩, 44) := ⟨⟨by decide +kernel, by decide +kernel⟩, List.mem_of_getElem? (i := 863) (by decide +kernel), List.mem_of_getElem? (i := 1012) (by decide +kernel), List.mem_of_getElem? (i := 1013) (by decide +kernel)⟩
theorem lw_p24 : lw_okq (⟨"EiderClimateModel", "toldAt", "(II)I"⟩, 44) := ⟨⟨by decide +kernel, by decide +kernel⟩, List.mem_of_getElem? (i := 863) (by decide +kernel), List.mem_of_getElem? (i := 1024) (by decide +kernel), List.mem_of_getElem? (i := 1025) (by decide +kernel)⟩
theorem lw_p25 : lw_okq (⟨"EiderClimateModel", "isOf", "(II)Z"⟩, 44) := ⟨⟨by decide +kernel, by decide +kernel⟩, List.mem_of_getElem? (i := 863) (by decide +kernel), List.mem_of_getElem? (i := 1032) (by decide +kernel), List.mem_of_getElem? (i := 1033) (by decide +kernel)⟩
theorem lw_p26 : lw_okq (⟨"EiderClimateModel", "isHouse", "(I)Z"⟩, 44) := ⟨⟨by decide +kernel, by decide +kernel⟩, List.mem_of_getElem? (i := 863) (by decide +kernel), List.mem_of_getElem? (i := 1036) (by decide +kernel), List.mem_of_getElem? (i := 1037) (by decide +kernel)⟩
theorem lw_p27 : lw_okq (⟨"EiderClimateModel", "get", "(II)I"⟩, 44) := ⟨⟨by decide +kernel, by decide +kernel⟩, List.mem_of_getElem? (i := 863) (by decide +kernel), List.mem_of_getElem? (i := 1043) (by decide +kernel), List.mem_of_getElem? (i := 1044) (by decide +kernel)⟩
theorem lw_p28 : lw_okq (⟨"EiderClimateModel", "becomes", "(III)V"⟩, 44) := ⟨⟨by decide +kernel, by decide +kernel⟩, List.mem_of_getElem? (i := 863) (by decide +kernel), List.mem_of_getElem? (i := 1047) (by decide +kernel), List.mem_of_getElem? (i := 1048) (by decide +kernel)⟩
theorem lw_p29 : lw_okq (⟨"EiderClimateModel", "isLine", "()Z"⟩, 44) := ⟨⟨by decide +kernel, by decide +kernel⟩, List.mem_of_getElem? (i := 863) (by decide +kernel), List.mem_of_getElem? (i := 1071) (by decide +kernel), List.mem_of_getElem? (i := 1072) (by decide +kernel)⟩
theorem lw_p30 : lw_okq (⟨"EiderClimateModel", "isE", "()Z"⟩, 44) := ⟨⟨by decide +kernel, by decide +kernel⟩, List.mem_of_getElem? (i := 863) (by decide +kernel), List.mem_of_getElem? (i := 1075) (by decide +kernel), List.mem_of_getElem? (i := 1076) (by decide +kernel)⟩
theorem lw_p31 : lw_okq (⟨"EiderClimateModel", "isA", "()Z"⟩, 44) := ⟨⟨by decide +kernel, by decide +kernel⟩, List.mem_of_getElem? (i := 863) (by decide +kernel), List.mem_of_getElem? (i := 1079) (by decide +kernel), List.mem_of_getElem? (i := 1080) (by decide +kernel)⟩
def lw_privs_2 : List (MethodName × Nat) := [(⟨"EiderClimate$Ways", "forgetSteps", "()V"⟩, 8), (⟨"EiderClimate$Ways", "spread", "(I)I"⟩, 8), (⟨"EiderClimate$Thought", "bestFrom", "(II)I"⟩, 10), (⟨"EiderClimate$Thought", "draw", "(I)V"⟩, 10), (⟨"EiderClimate$Stitches", "run", "(IIIII)I"⟩, 4), (⟨"EiderClimate$Stitches", "worked", "(IIIII)I"⟩, 4), (⟨"EiderClimate", "refusalOfElement", "(II)I"⟩, 9), (⟨"EiderClimateModel", "newHouse", "(III)I"⟩, 44), (⟨"EiderClimateModel", "toldAt", "(II)I"⟩, 44), (⟨"EiderClimateModel", "isOf", "(II)Z"⟩, 44), (⟨"EiderClimateModel", "isHouse", "(I)Z"⟩, 44), (⟨"EiderClimateModel", "get", "(II)I"⟩, 44), (⟨"EiderClimateModel", "becomes", "(III)V"⟩, 44), (⟨"EiderClimateModel", "isLine", "()Z"⟩, 44), (⟨"EiderClimateModel", "isE", "()Z"⟩, 44), (⟨"EiderClimateModel", "isA", "()Z"⟩, 44)]
theorem lw_r2 : ∀ q ∈ lw_privs_2, lw_okq q := List.forall_mem_cons.mpr ⟨lw_p16, List.forall_mem_cons.mpr ⟨lw_p17, List.forall_mem_cons.mpr ⟨lw_p18, List.forall_mem_cons.mpr ⟨lw_p19, List.forall_mem_cons.mpr ⟨lw_p20, List.forall_mem_cons.mpr ⟨lw_p21, List.forall_mem_cons.mpr ⟨lw_p22, List.forall_mem_cons.mpr ⟨lw_p23, List.forall_mem_cons.mpr ⟨lw_p24, List.forall_mem_cons.mpr ⟨lw_p25, List.forall_mem_cons.mpr ⟨lw_p26, List.forall_mem_cons.mpr ⟨lw_p27, List.forall_mem_cons.mpr ⟨lw_p28, List.forall_mem_cons.mpr ⟨lw_p29, List.forall_mem_cons.mpr ⟨lw_p30, List.forall_mem_cons.mpr ⟨lw_p31, fun _ h => absurd h List.not_mem_nil⟩⟩⟩⟩⟩⟩⟩⟩⟩⟩⟩⟩⟩⟩⟩⟩
theorem lw_p32 : lw_okq (⟨"EiderClimateModel", "isB", "()Z"⟩, 44) := ⟨⟨by decide +kernel, by decide +kernel⟩, List.mem_of_getElem? (i := 863) (by decide +kernel), List.mem_of_getElem? (i := 1083) (by decide +kernel), List.mem_of_getElem? (i := 1084) (by decide +kernel)⟩
theorem lw_p33 : lw_okq (⟨"EiderClimateModel", "isS", "()Z"⟩, 44) := ⟨⟨by decide +kernel, by decide +kernel⟩, List.mem_of_getElem? (i := 863) (by decide +kernel), List.mem_of_getElem? (i := 1087) (by decide +kernel), List.mem_of_getElem? (i := 1088) (by decide +kernel)⟩
theorem lw_p34 : lw_okq (⟨"EiderClimateModel", "isP", "()Z"⟩, 44) := ⟨⟨by decide +kernel, by decide +kernel⟩, List.mem_of_getElem? (i := 863) (by decide +kernel), List.mem_of_getElem? (i := 1091) (by decide +kernel), List.mem_of_getElem? (i := 1092) (by decide +kernel)⟩
theorem lw_p35 : lw_okq (⟨"EiderClimateModel", "isO", "()Z"⟩, 44) := ⟨⟨by decide +kernel, by decide +kernel⟩, List.mem_of_getElem? (i := 863) (by decide +kernel), List.mem_of_getElem? (i := 1095) (by decide +kernel), List.mem_of_getElem? (i := 1096) (by decide +kernel)⟩
theorem lw_p36 : lw_okq (⟨"EiderClimateModel", "isDigit", "()Z"⟩, 44) := ⟨⟨by decide +kernel, by decide +kernel⟩, List.mem_of_getElem? (i := 863) (by decide +kernel), List.mem_of_getElem? (i := 1099) (by decide +kernel), List.mem_of_getElem? (i := 1100) (by decide +kernel)⟩
theorem lw_p37 : lw_okq (⟨"EiderClimateModel", "sign", "()I"⟩, 44) := ⟨⟨by decide +kernel, by decide +kernel⟩, List.mem_of_getElem? (i := 863) (by decide +kernel), List.mem_of_getElem? (i := 1103) (by decide +kernel), List.mem_of_getElem? (i := 1104) (by decide +kernel)⟩
theorem lw_p38 : lw_okq (⟨"EiderClimateModel", "codes", "(I)Z"⟩, 44) := ⟨⟨by decide +kernel, by decide +kernel⟩, List.mem_of_getElem? (i := 863) (by decide +kernel), List.mem_of_getElem? (i := 1107) (by decide +kernel), List.mem_of_getElem? (i := 1108) (by decide +kernel)⟩
theorem lw_p39 : lw_okq (⟨"EiderClimateModel", "is", "(I)Z"⟩, 44) := ⟨⟨by decide +kernel, by decide +kernel⟩, List.mem_of_getElem? (i := 863) (by decide +kernel), List.mem_of_getElem? (i := 1114) (by decide +kernel), List.mem_of_getElem? (i := 1115) (by decide +kernel)⟩
theorem lw_p40 : lw_okq (⟨"EiderClimateModel", "keeps", "([I)V"⟩, 44) := ⟨⟨by decide +kernel, by decide +kernel⟩, List.mem_of_getElem? (i := 863) (by decide +kernel), List.mem_of_getElem? (i := 1125) (by decide +kernel), List.mem_of_getElem? (i := 1126) (by decide +kernel)⟩
theorem lw_p41 : lw_okq (⟨"EiderClimateModel", "goesOn", "(I)V"⟩, 44) := ⟨⟨by decide +kernel, by decide +kernel⟩, List.mem_of_getElem? (i := 863) (by decide +kernel), List.mem_of_getElem? (i := 1129) (by decide +kernel), List.mem_of_getElem? (i := 1130) (by decide +kernel)⟩
theorem lw_p42 : lw_okq (⟨"EiderClimateModel", "passes", "()V"⟩, 44) := ⟨⟨by decide +kernel, by decide +kernel⟩, List.mem_of_getElem? (i := 863) (by decide +kernel), List.mem_of_getElem? (i := 1133) (by decide +kernel), List.mem_of_getElem? (i := 1134) (by decide +kernel)⟩
theorem lw_p43 : lw_okq (⟨"EiderClimateModel", "slips", "()V"⟩, 44) := ⟨⟨by decide +kernel, by decide +kernel⟩, List.mem_of_getElem? (i := 863) (by decide +kernel), List.mem_of_getElem? (i := 1137) (by decide +kernel), List.mem_of_getElem? (i := 1138) (by decide +kernel)⟩
theorem lw_p44 : lw_okq (⟨"EiderClimateModel", "moves", "(II)V"⟩, 44) := ⟨⟨by decide +kernel, by decide +kernel⟩, List.mem_of_getElem? (i := 863) (by decide +kernel), List.mem_of_getElem? (i := 1141) (by decide +kernel), List.mem_of_getElem? (i := 1142) (by decide +kernel)⟩
theorem lw_p45 : lw_okq (⟨"EiderClimateModel", "warmth", "(I)I"⟩, 44) := ⟨⟨by decide +kernel, by decide +kernel⟩, List.mem_of_getElem? (i := 863) (by decide +kernel), List.mem_of_getElem? (i := 1145) (by decide +kernel), List.mem_of_getElem? (i := 1146) (by decide +kernel)⟩
theorem lw_p46 : lw_okq (⟨"EiderClimateModel", "byLaw", "(I)I"⟩, 44) := ⟨⟨by decide +kernel, by decide +kernel⟩, List.mem_of_getElem? (i := 863) (by decide +kernel), List.mem_of_getElem? (i := 1149) (by decide +kernel), List.mem_of_getElem? (i := 1150) (by decide +kernel)⟩
theorem lw_p47 : lw_okq (⟨"EiderClimateModel", "near", "(I)I"⟩, 44) := ⟨⟨by decide +kernel, by decide +kernel⟩, List.mem_of_getElem? (i := 863) (by decide +kernel), List.mem_of_getElem? (i := 1153) (by decide +kernel), List.mem_of_getElem? (i := 1154) (by decide +kernel)⟩
def lw_privs_3 : List (MethodName × Nat) := [(⟨"EiderClimateModel", "isB", "()Z"⟩, 44), (⟨"EiderClimateModel", "isS", "()Z"⟩, 44), (⟨"EiderClimateModel", "isP", "()Z"⟩, 44), (⟨"EiderClimateModel", "isO", "()Z"⟩, 44), (⟨"EiderClimateModel", "isDigit", "()Z"⟩, 44), (⟨"EiderClimateModel", "sign", "()I"⟩, 44), (⟨"EiderClimateModel", "codes", "(I)Z"⟩, 44), (⟨"EiderClimateModel", "is", "(I)Z"⟩, 44), (⟨"EiderClimateModel", "keeps", "([I)V"⟩, 44), (⟨"EiderClimateModel", "goesOn", "(I)V"⟩, 44), (⟨"EiderClimateModel", "passes", "()V"⟩, 44), (⟨"EiderClimateModel", "slips", "()V"⟩, 44), (⟨"EiderClimateModel", "moves", "(II)V"⟩, 44), (⟨"EiderClimateModel", "warmth", "(I)I"⟩, 44), (⟨"EiderClimateModel", "byLaw", "(I)I"⟩, 44), (⟨"EiderClimateModel", "near", "(I)I"⟩, 44)]
theorem lw_r3 : ∀ q ∈ lw_privs_3, lw_okq q := List.forall_mem_cons.mpr ⟨lw_p32, List.forall_mem_cons.mpr ⟨lw_p33, List.forall_mem_cons.mpr ⟨lw_p34, List.forall_mem_cons.mpr ⟨lw_p35, List.forall_mem_cons.mpr ⟨lw_p36, List.forall_mem_cons.mpr ⟨lw_p37, List.forall_mem_cons.mpr ⟨lw_p38, List.forall_mem_cons.mpr ⟨lw_p39, List.forall_mem_cons.mpr ⟨lw_p40, List.forall_mem_cons.mpr ⟨lw_p41, List.forall_mem_cons.mpr ⟨lw_p42, List.forall_mem_cons.mpr ⟨lw_p43, List.forall_mem_cons.mpr ⟨lw_p44, List.forall_mem_cons.mpr ⟨lw_p45, List.forall_mem_cons.mpr ⟨lw_p46, List.forall_mem_cons.mpr ⟨lw_p47, fun _ h => absurd h List.not_mem_nil⟩⟩⟩⟩⟩⟩⟩⟩⟩⟩⟩⟩⟩⟩⟩⟩
theorem lw_p48 : lw_okq (⟨"EiderClimateModel", "worked", "(II)I"⟩, 44) := ⟨⟨by decide +kernel, by decide +kernel⟩, List.mem_of_getElem? (i := 863) (by decide +kernel), List.mem_of_getElem? (i := 1160) (by decide +kernel), List.mem_of_getElem? (i := 1161) (by decide +kernel)⟩
theorem lw_p49 : lw_okq (⟨"EiderClimateModel", "again", "([I)V"⟩, 44) := ⟨⟨by decide +kernel, by decide +kernel⟩, List.mem_of_getElem? (i := 863) (by decide +kernel), List.mem_of_getElem? (i := 1169) (by decide +kernel), List.mem_of_getElem? (i := 1170) (by decide +kernel)⟩
theorem lw_p50 : lw_okq (⟨"EiderClimateModel", "coldOnes", "()I"⟩, 44) := ⟨⟨by decide +kernel, by decide +kernel⟩, List.mem_of_getElem? (i := 863) (by decide +kernel), List.mem_of_getElem? (i := 1177) (by decide +kernel), List.mem_of_getElem? (i := 1178) (by decide +kernel)⟩
theorem lw_p51 : lw_okq (⟨"EiderClimateModel", "isCold", "(I)Z"⟩, 44) := ⟨⟨by decide +kernel, by decide +kernel⟩, List.mem_of_getElem? (i := 863) (by decide +kernel), List.mem_of_getElem? (i := 1181) (by decide +kernel), List.mem_of_getElem? (i := 1182) (by decide +kernel)⟩
theorem lw_p52 : lw_okq (⟨"EiderClimateModel", "warmest", "()I"⟩, 44) := ⟨⟨by decide +kernel, by decide +kernel⟩, List.mem_of_getElem? (i := 863) (by decide +kernel), List.mem_of_getElem? (i := 1185) (by decide +kernel), List.mem_of_getElem? (i := 1186) (by decide +kernel)⟩
theorem lw_p53 : lw_okq (⟨"EiderClimateModel", "isEnough", "(III)Z"⟩, 44) := ⟨⟨by decide +kernel, by decide +kernel⟩, List.mem_of_getElem? (i := 863) (by decide +kernel), List.mem_of_getElem? (i := 1201) (by decide +kernel), List.mem_of_getElem? (i := 1202) (by decide +kernel)⟩
theorem lw_p54 : lw_okq (⟨"EiderClimateModel", "pulls", "(I)V"⟩, 44) := ⟨⟨by decide +kernel, by decide +kernel⟩, List.mem_of_getElem? (i := 863) (by decide +kernel), List.mem_of_getElem? (i := 1205) (by decide +kernel), List.mem_of_getElem? (i := 1206) (by decide +kernel)⟩
theorem lw_p55 : lw_okq (⟨"EiderClimateModel", "shakesAt", "(I)V"⟩, 44) := ⟨⟨by decide +kernel, by decide +kernel⟩, List.mem_of_getElem? (i := 863) (by decide +kernel), List.mem_of_getElem? (i := 1216) (by decide +kernel), List.mem_of_getElem? (i := 1217) (by decide +kernel)⟩
theorem lw_p56 : lw_okq (⟨"EiderClimateModel", "stuffsAt", "(III)V"⟩, 44) := ⟨⟨by decide +kernel, by decide +kernel⟩, List.mem_of_getElem? (i := 863) (by decide +kernel), List.mem_of_getElem? (i := 1225) (by decide +kernel), List.mem_of_getElem? (i := 1226) (by decide +kernel)⟩
theorem lw_p57 : lw_okq (⟨"EiderClimateModel", "noFelt", "(I)I"⟩, 44) := ⟨⟨by decide +kernel, by decide +kernel⟩, List.mem_of_getElem? (i := 863) (by decide +kernel), List.mem_of_getElem? (i := 1233) (by decide +kernel), List.mem_of_getElem? (i := 1234) (by decide +kernel)⟩
theorem lw_p58 : lw_okq (⟨"EiderClimateModel", "unlike", "(I)I"⟩, 44) := ⟨⟨by decide +kernel, by decide +kernel⟩, List.mem_of_getElem? (i := 863) (by decide +kernel), List.mem_of_getElem? (i := 1237) (by decide +kernel), List.mem_of_getElem? (i := 1238) (by decide +kernel)⟩
theorem lw_p59 : lw_okq (⟨"EiderClimateModel", "so", "(IIIII)I"⟩, 44) := ⟨⟨by decide +kernel, by decide +kernel⟩, List.mem_of_getElem? (i := 863) (by decide +kernel), List.mem_of_getElem? (i := 1245) (by decide +kernel), List.mem_of_getElem? (i := 1246) (by decide +kernel)⟩
theorem lw_p60 : lw_okq (⟨"EiderClimateModel", "spreads", "(II)V"⟩, 44) := ⟨⟨by decide +kernel, by decide +kernel⟩, List.mem_of_getElem? (i := 863) (by decide +kernel), List.mem_of_getElem? (i := 1253) (by decide +kernel), List.mem_of_getElem? (i := 1254) (by decide +kernel)⟩
theorem lw_p61 : lw_okq (⟨"EiderClimateModel", "turnFrom", "(IIII)I"⟩, 44) := ⟨⟨by decide +kernel, by decide +kernel⟩, List.mem_of_getElem? (i := 863) (by decide +kernel), List.mem_of_getElem? (i := 1266) (by decide +kernel), List.mem_of_getElem? (i := 1267) (by decide +kernel)⟩
theorem lw_p62 : lw_okq (⟨"EiderClimateModel", "warmsBy", "(III)I"⟩, 44) := ⟨⟨by decide +kernel, by decide +kernel⟩, List.mem_of_getElem? (i := 863) (by decide +kernel), List.mem_of_getElem? (i := 1311) (by decide +kernel), List.mem_of_getElem? (i := 1312) (by decide +kernel)⟩
theorem lw_p63 : lw_okq (⟨"EiderClimateModel", "ran", "(I)V"⟩, 44) := ⟨⟨by decide +kernel, by decide +kernel⟩, List.mem_of_getElem? (i := 863) (by decide +kernel), List.mem_of_getElem? (i := 1315) (by decide +kernel), List.mem_of_getElem? (i := 1316) (by decide +kernel)⟩
def lw_privs_4 : List (MethodName × Nat) := [(⟨"EiderClimateModel", "worked", "(II)I"⟩, 44), (⟨"EiderClimateModel", "again", "([I)V"⟩, 44), (⟨"EiderClimateModel", "coldOnes", "()I"⟩, 44), (⟨"EiderClimateModel", "isCold", "(I)Z"⟩, 44), (⟨"EiderClimateModel", "warmest", "()I"⟩, 44), (⟨"EiderClimateModel", "isEnough", "(III)Z"⟩, 44), (⟨"EiderClimateModel", "pulls", "(I)V"⟩, 44), (⟨"EiderClimateModel", "shakesAt", "(I)V"⟩, 44), (⟨"EiderClimateModel", "stuffsAt", "(III)V"⟩, 44), (⟨"EiderClimateModel", "noFelt", "(I)I"⟩, 44), (⟨"EiderClimateModel", "unlike", "(I)I"⟩, 44), (⟨"EiderClimateModel", "so", "(IIIII)I"⟩, 44), (⟨"EiderClimateModel", "spreads", "(II)V"⟩, 44), (⟨"EiderClimateModel", "turnFrom", "(IIII)I"⟩, 44), (⟨"EiderClimateModel", "warmsBy", "(III)I"⟩, 44), (⟨"EiderClimateModel", "ran", "(I)V"⟩, 44)]
theorem lw_r4 : ∀ q ∈ lw_privs_4, lw_okq q := List.forall_mem_cons.mpr ⟨lw_p48, List.forall_mem_cons.mpr ⟨lw_p49, List.forall_mem_cons.mpr ⟨lw_p50, List.forall_mem_cons.mpr ⟨lw_p51, List.forall_mem_cons.mpr ⟨lw_p52, List.forall_mem_cons.mpr ⟨lw_p53, List.forall_mem_cons.mpr ⟨lw_p54, List.forall_mem_cons.mpr ⟨lw_p55, List.forall_mem_cons.mpr ⟨lw_p56, List.forall_mem_cons.mpr ⟨lw_p57, List.forall_mem_cons.mpr ⟨lw_p58, List.forall_mem_cons.mpr ⟨lw_p59, List.forall_mem_cons.mpr ⟨lw_p60, List.forall_mem_cons.mpr ⟨lw_p61, List.forall_mem_cons.mpr ⟨lw_p62, List.forall_mem_cons.mpr ⟨lw_p63, fun _ h => absurd h List.not_mem_nil⟩⟩⟩⟩⟩⟩⟩⟩⟩⟩⟩⟩⟩⟩⟩⟩
theorem lw_p64 : lw_okq (⟨"EiderClimateModel", "slipsBy", "(III)I"⟩, 44) := ⟨⟨by decide +kernel, by decide +kernel⟩, List.mem_of_getElem? (i := 863) (by decide +kernel), List.mem_of_getElem? (i := 1322) (by decide +kernel), List.mem_of_getElem? (i := 1323) (by decide +kernel)⟩
theorem lw_p65 : lw_okq (⟨"EiderClimateModel", "airsBy", "(III)I"⟩, 44) := ⟨⟨by decide +kernel, by decide +kernel⟩, List.mem_of_getElem? (i := 863) (by decide +kernel), List.mem_of_getElem? (i := 1326) (by decide +kernel), List.mem_of_getElem? (i := 1327) (by decide +kernel)⟩
theorem lw_p66 : lw_okq (⟨"EiderClimateModel", "tells", "(III)I"⟩, 44) := ⟨⟨by decide +kernel, by decide +kernel⟩, List.mem_of_getElem? (i := 863) (by decide +kernel), List.mem_of_getElem? (i := 1330) (by decide +kernel), List.mem_of_getElem? (i := 1331) (by decide +kernel)⟩
theorem lw_p67 : lw_okq (⟨"EiderClimateModel", "isRow", "(I)Z"⟩, 44) := ⟨⟨by decide +kernel, by decide +kernel⟩, List.mem_of_getElem? (i := 863) (by decide +kernel), List.mem_of_getElem? (i := 1350) (by decide +kernel), List.mem_of_getElem? (i := 1351) (by decide +kernel)⟩
def lw_privs_5 : List (MethodName × Nat) := [(⟨"EiderClimateModel", "slipsBy", "(III)I"⟩, 44), (⟨"EiderClimateModel", "airsBy", "(III)I"⟩, 44), (⟨"EiderClimateModel", "tells", "(III)I"⟩, 44), (⟨"EiderClimateModel", "isRow", "(I)Z"⟩, 44)]
theorem lw_r5 : ∀ q ∈ lw_privs_5, lw_okq q := List.forall_mem_cons.mpr ⟨lw_p64, List.forall_mem_cons.mpr ⟨lw_p65, List.forall_mem_cons.mpr ⟨lw_p66, List.forall_mem_cons.mpr ⟨lw_p67, fun _ h => absurd h List.not_mem_nil⟩⟩⟩⟩
def lw_privs : List (MethodName × Nat) := lw_privs_1 ++ (lw_privs_2 ++ (lw_privs_3 ++ (lw_privs_4 ++ (lw_privs_5))))
def lw_tbl : List Cond := k2_sels lw_privs ++ tables_1
theorem lw_privs_ok : ∀ q ∈ lw_privs, lw_okq q := by
  show ∀ q ∈ lw_privs_1 ++ (lw_privs_2 ++ (lw_privs_3 ++ (lw_privs_4 ++ (lw_privs_5)))), lw_okq q
  exact List.forall_mem_append.mpr ⟨lw_r1, List.forall_mem_append.mpr ⟨lw_r2, List.forall_mem_append.mpr ⟨lw_r3, List.forall_mem_append.mpr ⟨lw_r4, lw_r5⟩⟩⟩⟩
end
section
/-! ===== BEGIN words of one list among another's, by their places ===== -/
theorem goodIn_r {big : List Cond} (ws : List Cond) (ps : List Nat) (hp : ws = ps.filterMap (fun i => big[i]?)) (h : ws.all goodWord = true) : GoodIn big ws := by
  intro w hw
  have h1 := List.all_eq_true.mp h w hw
  rw [hp] at hw
  obtain ⟨i, -, hi⟩ := List.mem_filterMap.mp hw
  have hm : w ∈ big := by first | exact List.mem_of_getElem? hi | exact List.getElem?_mem hi
  exact ⟨hm, good_of_word h1⟩
theorem goodIn_app {big a b : List Cond} (ha : GoodIn big a) (hb : GoodIn big b) : GoodIn big (a ++ b) := fun w h => (List.mem_append.mp h).elim (ha w) (hb w)
theorem goodIn_ca {big a b : List Cond} {c : Cond} (ha : GoodIn big (c :: a)) (hb : GoodIn big b) : GoodIn big (c :: (a ++ b)) := fun w h => (List.mem_cons.mp h).elim (fun e => ha w (List.mem_cons.mpr (Or.inl e))) (fun h => (List.mem_append.mp h).elim (fun h => ha w (List.mem_cons.mpr (Or.inr h))) (hb w))
theorem goodIn_sub {big ws : List Cond} (hm : ∀ w ∈ ws, w ∈ big) (h : ws.all goodWord = true) : GoodIn big ws := fun w hw => ⟨hm w hw, good_of_word (List.all_eq_true.mp h w hw)⟩
/-! ===== END ===== -/

/-! ===== BEGIN printed: names, fields, word lists, decode rows ===== -/
def RX0 : String := "EiderClimate$Changes"
def TX0 : u_T := fun k => match k with
  | 0 => ("EiderClimate$Changes", "number", "[I", true)
  | 1 => ("EiderClimate$Changes", "what", "[I", true)
  | 2 => ("EiderClimate$Changes", "was", "[I", true)
  | 3 => ("EiderClimate$Changes", "became", "[I", true)
  | 4 => ("EiderClimate$Changes", "done", "I", false)
  | _ => ("EiderClimate$Changes", "undone", "I", false)
def tyX0 : Nat → FieldType := fun k => match k with
  | 0 => .array .int
  | 1 => .array .int
  | 2 => .array .int
  | 3 => .array .int
  | 4 => .int
  | _ => .int
abbrev wsX00 : List Cond := u_ws RX0 TX0 6
theorem nmX0 : ∀ a, a < 6 → ∀ b, b < 6 → a ≠ b → (TX0 a).2.1 ≠ (TX0 b).2.1 := by decide +kernel
theorem tyX0_ok : ∀ k, k < 6 → parseFieldDescriptor (TX0 k).2.2.1 = some (tyX0 k) := by decide +kernel
abbrev cX0_init : ByteArray := prog_2_method_1_code
def yX0_init : MethodName := ⟨RX0, "<init>", "()V"⟩
abbrev cX0_note : ByteArray := prog_2_method_2_code
def yX0_note : MethodName := ⟨RX0, "note", "(IIII)V"⟩
abbrev cX0_forgetOldest : ByteArray := prog_2_method_3_code
def yX0_forgetOldest : MethodName := ⟨RX0, "forgetOldest", "()V"⟩
abbrev cX0_stepBack : ByteArray := prog_2_method_4_code
def yX0_stepBack : MethodName := ⟨RX0, "stepBack", "(LEiderClimate$Shore;)V"⟩
abbrev cX0_stepForth : ByteArray := prog_2_method_5_code
def yX0_stepForth : MethodName := ⟨RX0, "stepForth", "(LEiderClimate$Shore;)V"⟩
def RX1 : String := "EiderClimate$Cover"
def TX1 : u_T := fun k => match k with
  | 0 => ("EiderClimate$Cover", "sort", "[I", true)
  | 1 => ("EiderClimate$Cover", "thick", "[I", true)
  | 2 => ("EiderClimate$Cover", "worn", "[I", true)
  | 3 => ("EiderClimate$Cover", "led", "[I", true)
  | _ => ("EiderClimate$Cover", "monthNow", "I", false)
def tyX1 : Nat → FieldType := fun k => match k with
  | 0 => .array .int
  | 1 => .array .int
  | 2 => .array .int
  | 3 => .array .int
  | _ => .int
abbrev wsX10 : List Cond := u_ws RX1 TX1 5
theorem nmX1 : ∀ a, a < 5 → ∀ b, b < 5 → a ≠ b → (TX1 a).2.1 ≠ (TX1 b).2.1 := by decide +kernel
theorem tyX1_ok : ∀ k, k < 5 → parseFieldDescriptor (TX1 k).2.2.1 = some (tyX1 k) := by decide +kernel
abbrev cX1_init : ByteArray := prog_3_method_1_code
def yX1_init : MethodName := ⟨RX1, "<init>", "()V"⟩
abbrev cX1_takeFrom : ByteArray := prog_3_method_2_code
def yX1_takeFrom : MethodName := ⟨RX1, "takeFrom", "(LEiderClimate$Cover;)V"⟩
abbrev cX1_numberAt : ByteArray := prog_3_method_3_code
def yX1_numberAt : MethodName := ⟨RX1, "numberAt", "(II)I"⟩
abbrev cX1_setNumberAt : ByteArray := prog_3_method_4_code
def yX1_setNumberAt : MethodName := ⟨RX1, "setNumberAt", "(III)V"⟩
abbrev cX1_setSquare : ByteArray := prog_3_method_5_code
def yX1_setSquare : MethodName := ⟨RX1, "setSquare", "(IIII)V"⟩
abbrev cX1_stuffedSquares : ByteArray := prog_3_method_6_code
def yX1_stuffedSquares : MethodName := ⟨RX1, "stuffedSquares", "()I"⟩
abbrev cX1_beside : ByteArray := prog_3_method_7_code
def yX1_beside : MethodName := ⟨RX1, "beside", "(II)I"⟩
abbrev cX1_isInside : ByteArray := prog_3_method_8_code
def yX1_isInside : MethodName := ⟨RX1, "isInside", "(I)Z"⟩
abbrev cX1_thickBeside : ByteArray := prog_3_method_9_code
def yX1_thickBeside : MethodName := ⟨RX1, "thickBeside", "(I)I"⟩
abbrev cX1_passMonth : ByteArray := prog_3_method_10_code
def yX1_passMonth : MethodName := ⟨RX1, "passMonth", "(I)V"⟩
abbrev cX1_wear : ByteArray := prog_3_method_11_code
def yX1_wear : MethodName := ⟨RX1, "wear", "()V"⟩
abbrev cX1_slideDown : ByteArray := prog_3_method_12_code
def yX1_slideDown : MethodName := ⟨RX1, "slideDown", "([I)V"⟩
abbrev cX1_moveRow : ByteArray := prog_3_method_13_code
def yX1_moveRow : MethodName := ⟨RX1, "moveRow", "(II)V"⟩
abbrev cX1_turn : ByteArray := prog_3_method_14_code
def yX1_turn : MethodName := ⟨RX1, "turn", "([III)V"⟩
abbrev cX1_mixAbout : ByteArray := prog_3_method_15_code
def yX1_mixAbout : MethodName := ⟨RX1, "mixAbout", "(I)V"⟩
abbrev cX1_ninth : ByteArray := prog_3_method_16_code
def yX1_ninth : MethodName := ⟨RX1, "ninth", "(II)I"⟩
def RX2 : String := "EiderClimate$Law"
def TX2 : u_T := fun k => match k with
  | 0 => ("EiderClimate$Law", "signs", "[I", true)
  | 1 => ("EiderClimate$Law", "numbers", "[I", true)
  | 2 => ("EiderClimate$Law", "length", "I", false)
  | 3 => ("EiderClimate$Law", "ends", "[I", true)
  | 4 => ("EiderClimate$Law", "asks", "[Z", true)
  | 5 => ("EiderClimate$Law", "parts", "I", false)
  | 6 => ("EiderClimate$Law", "stack", "[I", true)
  | _ => ("EiderClimate$Law", "named", "[I", true)
def tyX2 : Nat → FieldType := fun k => match k with
  | 0 => .array .int
  | 1 => .array .int
  | 2 => .int
  | 3 => .array .int
  | 4 => .array .boolean
  | 5 => .int
  | 6 => .array .int
  | _ => .array .int
abbrev wsX20 : List Cond := u_ws RX2 TX2 8
theorem nmX2 : ∀ a, a < 8 → ∀ b, b < 8 → a ≠ b → (TX2 a).2.1 ≠ (TX2 b).2.1 := by decide +kernel
theorem tyX2_ok : ∀ k, k < 8 → parseFieldDescriptor (TX2 k).2.2.1 = some (tyX2 k) := by decide +kernel
abbrev cX2_init : ByteArray := prog_4_method_1_code
def yX2_init : MethodName := ⟨RX2, "<init>", "()V"⟩
abbrev cX2_clear : ByteArray := prog_4_method_2_code
def yX2_clear : MethodName := ⟨RX2, "clear", "()V"⟩
abbrev cX2_addSign : ByteArray := prog_4_method_3_code
def yX2_addSign : MethodName := ⟨RX2, "addSign", "(II)V"⟩
abbrev cX2_endPart : ByteArray := prog_4_method_4_code
def yX2_endPart : MethodName := ⟨RX2, "endPart", "(Z)V"⟩
abbrev cX2_warmth : ByteArray := prog_4_method_5_code
def yX2_warmth : MethodName := ⟨RX2, "warmth", "(LEiderClimate$Cover;I)I"⟩
abbrev cX2_lookAt : ByteArray := prog_4_method_6_code
def yX2_lookAt : MethodName := ⟨RX2, "lookAt", "(LEiderClimate$Cover;I)V"⟩
abbrev cX2_valueOfPart : ByteArray := prog_4_method_7_code
def yX2_valueOfPart : MethodName := ⟨RX2, "valueOfPart", "(I)I"⟩
abbrev cX2_nameOf : ByteArray := prog_4_method_8_code
def yX2_nameOf : MethodName := ⟨RX2, "nameOf", "(I)I"⟩
abbrev cX2_joined : ByteArray := prog_4_method_9_code
def yX2_joined : MethodName := ⟨RX2, "joined", "(III)I"⟩
def RX3 : String := "EiderClimate$Shelf"
def TX3 : u_T := fun k => match k with
  | 0 => ("EiderClimate$Shelf", "elements", "[J", true)
  | 1 => ("EiderClimate$Shelf", "holds", "I", false)
  | 2 => ("EiderClimate$Shelf", "length", "I", false)
  | _ => ("EiderClimate$Shelf", "stitch", "I", false)
def tyX3 : Nat → FieldType := fun k => match k with
  | 0 => .array .long
  | 1 => .int
  | 2 => .int
  | _ => .int
abbrev wsX30 : List Cond := u_ws RX3 TX3 4
theorem nmX3 : ∀ a, a < 4 → ∀ b, b < 4 → a ≠ b → (TX3 a).2.1 ≠ (TX3 b).2.1 := by decide +kernel
theorem tyX3_ok : ∀ k, k < 4 → parseFieldDescriptor (TX3 k).2.2.1 = some (tyX3 k) := by decide +kernel
abbrev cX3_init : ByteArray := prog_5_method_1_code
def yX3_init : MethodName := ⟨RX3, "<init>", "()V"⟩
abbrev cX3_holdStitch : ByteArray := prog_5_method_2_code
def yX3_holdStitch : MethodName := ⟨RX3, "holdStitch", "(I)V"⟩
abbrev cX3_holdRow : ByteArray := prog_5_method_3_code
def yX3_holdRow : MethodName := ⟨RX3, "holdRow", "(II)V"⟩
abbrev cX3_isRow : ByteArray := prog_5_method_4_code
def yX3_isRow : MethodName := ⟨RX3, "isRow", "()Z"⟩
abbrev cX3_hasPlaces : ByteArray := prog_5_method_5_code
def yX3_hasPlaces : MethodName := ⟨RX3, "hasPlaces", "(II)Z"⟩
abbrev cX3_lowestBits : ByteArray := prog_5_method_6_code
def yX3_lowestBits : MethodName := ⟨RX3, "lowestBits", "(IJ)J"⟩
def RX4 : String := "EiderClimate$Shore"
def TX4 : u_T := fun k => match k with
  | 0 => ("EiderClimate$Shore", "cover", "LEiderClimate$Cover;", true)
  | 1 => ("EiderClimate$Shore", "places", "[I", true)
  | 2 => ("EiderClimate$Shore", "needs", "[I", true)
  | 3 => ("EiderClimate$Shore", "inMonths", "[I", true)
  | 4 => ("EiderClimate$Shore", "housesBuilt", "I", false)
  | 5 => ("EiderClimate$Shore", "slip", "I", false)
  | 6 => ("EiderClimate$Shore", "inForce", "LEiderClimate$Law;", false)
  | _ => ("EiderClimate$Shore", "draft", "LEiderClimate$Law;", false)
def tyX4 : Nat → FieldType := fun k => match k with
  | 0 => .object "EiderClimate$Cover"
  | 1 => .array .int
  | 2 => .array .int
  | 3 => .array .int
  | 4 => .int
  | 5 => .int
  | 6 => .object "EiderClimate$Law"
  | _ => .object "EiderClimate$Law"
abbrev wsX40 : List Cond := u_ws RX4 TX4 8
theorem nmX4 : ∀ a, a < 8 → ∀ b, b < 8 → a ≠ b → (TX4 a).2.1 ≠ (TX4 b).2.1 := by decide +kernel
theorem tyX4_ok : ∀ k, k < 8 → parseFieldDescriptor (TX4 k).2.2.1 = some (tyX4 k) := by decide +kernel
abbrev cX4_init : ByteArray := prog_6_method_1_code
def yX4_init : MethodName := ⟨RX4, "<init>", "()V"⟩
abbrev cX4_enactDraft : ByteArray := prog_6_method_2_code
def yX4_enactDraft : MethodName := ⟨RX4, "enactDraft", "()V"⟩
abbrev cX4_isHouse : ByteArray := prog_6_method_3_code
def yX4_isHouse : MethodName := ⟨RX4, "isHouse", "(I)Z"⟩
abbrev cX4_addHouse : ByteArray := prog_6_method_4_code
def yX4_addHouse : MethodName := ⟨RX4, "addHouse", "(III)I"⟩
abbrev cX4_hasNumber : ByteArray := prog_6_method_5_code
def yX4_hasNumber : MethodName := ⟨RX4, "hasNumber", "(II)Z"⟩
abbrev cX4_numberOf : ByteArray := prog_6_method_6_code
def yX4_numberOf : MethodName := ⟨RX4, "numberOf", "(II)I"⟩
abbrev cX4_setNumber : ByteArray := prog_6_method_7_code
def yX4_setNumber : MethodName := ⟨RX4, "setNumber", "(III)V"⟩
abbrev cX4_isCold : ByteArray := prog_6_method_8_code
def yX4_isCold : MethodName := ⟨RX4, "isCold", "(LEiderClimate$Cover;I)Z"⟩
abbrev cX4_coldBits : ByteArray := prog_6_method_9_code
def yX4_coldBits : MethodName := ⟨RX4, "coldBits", "(LEiderClimate$Cover;)I"⟩
abbrev cX4_warmestPlace : ByteArray := prog_6_method_10_code
def yX4_warmestPlace : MethodName := ⟨RX4, "warmestPlace", "(LEiderClimate$Cover;)I"⟩
def RX5 : String := "EiderClimate$Stitches"
def TX5 : u_T := fun k => match k with
  | 0 => ("EiderClimate$Stitches", "kinds", "[I", true)
  | 1 => ("EiderClimate$Stitches", "kept", "I", false)
  | 2 => ("EiderClimate$Stitches", "traced", "[I", true)
  | _ => ("EiderClimate$Stitches", "ran", "I", false)
def tyX5 : Nat → FieldType := fun k => match k with
  | 0 => .array .int
  | 1 => .int
  | 2 => .array .int
  | _ => .int
abbrev wsX50 : List Cond := u_ws RX5 TX5 4
theorem nmX5 : ∀ a, a < 4 → ∀ b, b < 4 → a ≠ b → (TX5 a).2.1 ≠ (TX5 b).2.1 := by decide +kernel
theorem tyX5_ok : ∀ k, k < 4 → parseFieldDescriptor (TX5 k).2.2.1 = some (tyX5 k) := by decide +kernel
abbrev cX5_init : ByteArray := prog_7_method_1_code
def yX5_init : MethodName := ⟨RX5, "<init>", "()V"⟩
abbrev cX5_isKind : ByteArray := prog_7_method_2_code
def yX5_isKind : MethodName := ⟨RX5, "isKind", "(I)Z"⟩
abbrev cX5_isStitch : ByteArray := prog_7_method_3_code
def yX5_isStitch : MethodName := ⟨RX5, "isStitch", "(I)Z"⟩
abbrev cX5_add : ByteArray := prog_7_method_4_code
def yX5_add : MethodName := ⟨RX5, "add", "(I)I"⟩
abbrev cX5_isOfKind : ByteArray := prog_7_method_5_code
def yX5_isOfKind : MethodName := ⟨RX5, "isOfKind", "(II)Z"⟩
abbrev cX5_begin : ByteArray := prog_7_method_6_code
def yX5_begin : MethodName := ⟨RX5, "begin", "(III)I"⟩
abbrev cX5_run : ByteArray := prog_7_method_7_code
def yX5_run : MethodName := ⟨RX5, "run", "(IIIII)I"⟩
abbrev cX5_worked : ByteArray := prog_7_method_8_code
def yX5_worked : MethodName := ⟨RX5, "worked", "(IIIII)I"⟩
def RX6 : String := "EiderClimate$Tape"
def TX6 : u_T := fun k => match k with
  | 0 => ("EiderClimate$Tape", "bytes", "[I", true)
  | 1 => ("EiderClimate$Tape", "length", "I", false)
  | 2 => ("EiderClimate$Tape", "at", "I", false)
  | _ => ("EiderClimate$Tape", "draft", "LEiderClimate$Law;", false)
def tyX6 : Nat → FieldType := fun k => match k with
  | 0 => .array .int
  | 1 => .int
  | 2 => .int
  | _ => .object "EiderClimate$Law"
abbrev wsX60 : List Cond := u_ws RX6 TX6 4
theorem nmX6 : ∀ a, a < 4 → ∀ b, b < 4 → a ≠ b → (TX6 a).2.1 ≠ (TX6 b).2.1 := by decide +kernel
theorem tyX6_ok : ∀ k, k < 4 → parseFieldDescriptor (TX6 k).2.2.1 = some (tyX6 k) := by decide +kernel
abbrev cX6_init : ByteArray := prog_8_method_1_code
def yX6_init : MethodName := ⟨RX6, "<init>", "()V"⟩
abbrev cX6_take : ByteArray := prog_8_method_2_code
def yX6_take : MethodName := ⟨RX6, "take", "(I)Z"⟩
abbrev cX6_readInto : ByteArray := prog_8_method_3_code
def yX6_readInto : MethodName := ⟨RX6, "readInto", "(LEiderClimate$Law;)I"⟩
abbrev cX6_readLine : ByteArray := prog_8_method_4_code
def yX6_readLine : MethodName := ⟨RX6, "readLine", "()Z"⟩
abbrev cX6_readJoined : ByteArray := prog_8_method_5_code
def yX6_readJoined : MethodName := ⟨RX6, "readJoined", "(II)Z"⟩
abbrev cX6_readOperand : ByteArray := prog_8_method_6_code
def yX6_readOperand : MethodName := ⟨RX6, "readOperand", "(I)Z"⟩
abbrev cX6_readToClose : ByteArray := prog_8_method_7_code
def yX6_readToClose : MethodName := ⟨RX6, "readToClose", "(I)Z"⟩
abbrev cX6_readAhead : ByteArray := prog_8_method_8_code
def yX6_readAhead : MethodName := ⟨RX6, "readAhead", "(II)Z"⟩
abbrev cX6_readNumber : ByteArray := prog_8_method_9_code
def yX6_readNumber : MethodName := ⟨RX6, "readNumber", "()V"⟩
abbrev cX6_next : ByteArray := prog_8_method_10_code
def yX6_next : MethodName := ⟨RX6, "next", "()I"⟩
abbrev cX6_isDigit : ByteArray := prog_8_method_11_code
def yX6_isDigit : MethodName := ⟨RX6, "isDigit", "(I)Z"⟩
abbrev cX6_rankOf : ByteArray := prog_8_method_12_code
def yX6_rankOf : MethodName := ⟨RX6, "rankOf", "(I)I"⟩
def RX7 : String := "EiderClimate$Thought"
def TX7 : u_T := fun k => match k with
  | 0 => ("EiderClimate$Thought", "shore", "LEiderClimate$Shore;", true)
  | 1 => ("EiderClimate$Thought", "ahead", "LEiderClimate$Cover;", true)
  | 2 => ("EiderClimate$Thought", "chosen", "[I", true)
  | 3 => ("EiderClimate$Thought", "bestAnswer", "I", false)
  | 4 => ("EiderClimate$Thought", "fewestCold", "I", false)
  | 5 => ("EiderClimate$Thought", "ownHouse", "I", false)
  | 6 => ("EiderClimate$Thought", "otherHouse", "I", false)
  | 7 => ("EiderClimate$Thought", "ownRow", "I", false)
  | 8 => ("EiderClimate$Thought", "otherRow", "I", false)
  | _ => ("EiderClimate$Thought", "firstDeed", "I", false)
def tyX7 : Nat → FieldType := fun k => match k with
  | 0 => .object "EiderClimate$Shore"
  | 1 => .object "EiderClimate$Cover"
  | 2 => .array .int
  | 3 => .int
  | 4 => .int
  | 5 => .int
  | 6 => .int
  | 7 => .int
  | 8 => .int
  | _ => .int
abbrev wsX70 : List Cond := u_ws RX7 TX7 10
theorem nmX7 : ∀ a, a < 10 → ∀ b, b < 10 → a ≠ b → (TX7 a).2.1 ≠ (TX7 b).2.1 := by decide +kernel
theorem tyX7_ok : ∀ k, k < 10 → parseFieldDescriptor (TX7 k).2.2.1 = some (tyX7 k) := by decide +kernel
abbrev cX7_init : ByteArray := prog_9_method_1_code
def yX7_init : MethodName := ⟨RX7, "<init>", "(LEiderClimate$Shore;)V"⟩
abbrev cX7_behind : ByteArray := prog_9_method_2_code
def yX7_behind : MethodName := ⟨RX7, "behind", "(I)LEiderClimate$Cover;"⟩
abbrev cX7_firstCold : ByteArray := prog_9_method_3_code
def yX7_firstCold : MethodName := ⟨RX7, "firstCold", "(I)I"⟩
abbrev cX7_timesCold : ByteArray := prog_9_method_4_code
def yX7_timesCold : MethodName := ⟨RX7, "timesCold", "(II)I"⟩
abbrev cX7_fewestPulls : ByteArray := prog_9_method_5_code
def yX7_fewestPulls : MethodName := ⟨RX7, "fewestPulls", "(I)I"⟩
abbrev cX7_warmByPulls : ByteArray := prog_9_method_6_code
def yX7_warmByPulls : MethodName := ⟨RX7, "warmByPulls", "(III)Z"⟩
abbrev cX7_tryShakes : ByteArray := prog_9_method_7_code
def yX7_tryShakes : MethodName := ⟨RX7, "tryShakes", "()V"⟩
abbrev cX7_tryStuffings : ByteArray := prog_9_method_8_code
def yX7_tryStuffings : MethodName := ⟨RX7, "tryStuffings", "(I)V"⟩
abbrev cX7_weigh : ByteArray := prog_9_method_9_code
def yX7_weigh : MethodName := ⟨RX7, "weigh", "(I)V"⟩
abbrev cX7_firstWrong : ByteArray := prog_9_method_10_code
def yX7_firstWrong : MethodName := ⟨RX7, "firstWrong", "(LEiderClimate$Shelf;I)I"⟩
abbrev cX7_firstUnlike : ByteArray := prog_9_method_11_code
def yX7_firstUnlike : MethodName := ⟨RX7, "firstUnlike", "(LEiderClimate$Shelf;I)I"⟩
abbrev cX7_fitting : ByteArray := prog_9_method_12_code
def yX7_fitting : MethodName := ⟨RX7, "fitting", "(LEiderClimate$Shelf;III)I"⟩
abbrev cX7_pullByTurns : ByteArray := prog_9_method_13_code
def yX7_pullByTurns : MethodName := ⟨RX7, "pullByTurns", "(III)I"⟩
abbrev cX7_bestFrom : ByteArray := prog_9_method_14_code
def yX7_bestFrom : MethodName := ⟨RX7, "bestFrom", "(II)I"⟩
abbrev cX7_coldByDraws : ByteArray := prog_9_method_15_code
def yX7_coldByDraws : MethodName := ⟨RX7, "coldByDraws", "(IIII)I"⟩
abbrev cX7_draw : ByteArray := prog_9_method_16_code
def yX7_draw : MethodName := ⟨RX7, "draw", "(I)V"⟩
def RX8 : String := "EiderClimate$Ways"
def TX8 : u_T := fun k => match k with
  | 0 => ("EiderClimate$Ways", "warm", "[I", true)
  | 1 => ("EiderClimate$Ways", "group", "[I", true)
  | 2 => ("EiderClimate$Ways", "steps", "[I", true)
  | 3 => ("EiderClimate$Ways", "reached", "[I", true)
  | 4 => ("EiderClimate$Ways", "warmest", "I", false)
  | 5 => ("EiderClimate$Ways", "fewestSteps", "I", false)
  | 6 => ("EiderClimate$Ways", "patchesFound", "I", false)
  | _ => ("EiderClimate$Ways", "greatestPatch", "I", false)
def tyX8 : Nat → FieldType := fun k => match k with
  | 0 => .array .int
  | 1 => .array .int
  | 2 => .array .int
  | 3 => .array .int
  | 4 => .int
  | 5 => .int
  | 6 => .int
  | _ => .int
abbrev wsX80 : List Cond := u_ws RX8 TX8 8
theorem nmX8 : ∀ a, a < 8 → ∀ b, b < 8 → a ≠ b → (TX8 a).2.1 ≠ (TX8 b).2.1 := by decide +kernel
theorem tyX8_ok : ∀ k, k < 8 → parseFieldDescriptor (TX8 k).2.2.1 = some (tyX8 k) := by decide +kernel
abbrev cX8_init : ByteArray := prog_10_method_1_code
def yX8_init : MethodName := ⟨RX8, "<init>", "()V"⟩
abbrev cX8_findWay : ByteArray := prog_10_method_2_code
def yX8_findWay : MethodName := ⟨RX8, "findWay", "(II)V"⟩
abbrev cX8_findPatches : ByteArray := prog_10_method_3_code
def yX8_findPatches : MethodName := ⟨RX8, "findPatches", "(LEiderClimate$Cover;)V"⟩
abbrev cX8_forgetSteps : ByteArray := prog_10_method_4_code
def yX8_forgetSteps : MethodName := ⟨RX8, "forgetSteps", "()V"⟩
abbrev cX8_spread : ByteArray := prog_10_method_5_code
def yX8_spread : MethodName := ⟨RX8, "spread", "(I)I"⟩
def RX9 : String := "EiderClimate"
def TX9 : u_T := fun k => match k with
  | 0 => ("EiderClimate", "shore", "LEiderClimate$Shore;", true)
  | 1 => ("EiderClimate", "tape", "LEiderClimate$Tape;", true)
  | 2 => ("EiderClimate", "thought", "LEiderClimate$Thought;", true)
  | 3 => ("EiderClimate", "ways", "LEiderClimate$Ways;", true)
  | 4 => ("EiderClimate", "changes", "LEiderClimate$Changes;", true)
  | 5 => ("EiderClimate", "stitches", "LEiderClimate$Stitches;", true)
  | 6 => ("EiderClimate", "shelves", "[LEiderClimate$Shelf;", true)
  | 7 => ("EiderClimate", "imageKept", "LEiderClimate$Cover;", true)
  | _ => ("EiderClimate", "hasImage", "Z", false)
def tyX9 : Nat → FieldType := fun k => match k with
  | 0 => .object "EiderClimate$Shore"
  | 1 => .object "EiderClimate$Tape"
  | 2 => .object "EiderClimate$Thought"
  | 3 => .object "EiderClimate$Ways"
  | 4 => .object "EiderClimate$Changes"
  | 5 => .object "EiderClimate$Stitches"
  | 6 => .array (.object "EiderClimate$Shelf")
  | 7 => .object "EiderClimate$Cover"
  | _ => .boolean
abbrev wsX90 : List Cond := u_ws RX9 TX9 9
theorem nmX9 : ∀ a, a < 9 → ∀ b, b < 9 → a ≠ b → (TX9 a).2.1 ≠ (TX9 b).2.1 := by decide +kernel
theorem tyX9_ok : ∀ k, k < 9 → parseFieldDescriptor (TX9 k).2.2.1 = some (tyX9 k) := by decide +kernel
abbrev cX9_init : ByteArray := prog_1_method_1_code
def yX9_init : MethodName := ⟨RX9, "<init>", "()V"⟩
abbrev cX9_house : ByteArray := prog_1_method_2_code
def yX9_house : MethodName := ⟨RX9, "house", "(II)I"⟩
abbrev cX9_houses : ByteArray := prog_1_method_3_code
def yX9_houses : MethodName := ⟨RX9, "houses", "(III)I"⟩
abbrev cX9_mend : ByteArray := prog_1_method_4_code
def yX9_mend : MethodName := ⟨RX9, "mend", "(III)I"⟩
abbrev cX9_of : ByteArray := prog_1_method_5_code
def yX9_of : MethodName := ⟨RX9, "of", "(II)I"⟩
abbrev cX9_feed : ByteArray := prog_1_method_6_code
def yX9_feed : MethodName := ⟨RX9, "feed", "(I)I"⟩
abbrev cX9_law : ByteArray := prog_1_method_7_code
def yX9_law : MethodName := ⟨RX9, "law", "()I"⟩
abbrev cX9_later : ByteArray := prog_1_method_8_code
def yX9_later : MethodName := ⟨RX9, "later", "(III)I"⟩
abbrev cX9_cold : ByteArray := prog_1_method_9_code
def yX9_cold : MethodName := ⟨RX9, "cold", "(II)I"⟩
abbrev cX9_first : ByteArray := prog_1_method_10_code
def yX9_first : MethodName := ⟨RX9, "first", "(I)I"⟩
abbrev cX9_often : ByteArray := prog_1_method_11_code
def yX9_often : MethodName := ⟨RX9, "often", "(II)I"⟩
abbrev cX9_pulls : ByteArray := prog_1_method_12_code
def yX9_pulls : MethodName := ⟨RX9, "pulls", "(II)I"⟩
abbrev cX9_shakes : ByteArray := prog_1_method_13_code
def yX9_shakes : MethodName := ⟨RX9, "shakes", "(I)I"⟩
abbrev cX9_stuffs : ByteArray := prog_1_method_14_code
def yX9_stuffs : MethodName := ⟨RX9, "stuffs", "(II)I"⟩
abbrev cX9_judge : ByteArray := prog_1_method_15_code
def yX9_judge : MethodName := ⟨RX9, "judge", "(I)I"⟩
abbrev cX9_felt : ByteArray := prog_1_method_16_code
def yX9_felt : MethodName := ⟨RX9, "felt", "(III)I"⟩
abbrev cX9_walk : ByteArray := prog_1_method_17_code
def yX9_walk : MethodName := ⟨RX9, "walk", "(II)I"⟩
abbrev cX9_patches : ByteArray := prog_1_method_18_code
def yX9_patches : MethodName := ⟨RX9, "patches", "(I)I"⟩
abbrev cX9_byTurns : ByteArray := prog_1_method_19_code
def yX9_byTurns : MethodName := ⟨RX9, "byTurns", "(IIII)I"⟩
abbrev cX9_drawn : ByteArray := prog_1_method_20_code
def yX9_drawn : MethodName := ⟨RX9, "drawn", "(III)I"⟩
abbrev cX9_month : ByteArray := prog_1_method_21_code
def yX9_month : MethodName := ⟨RX9, "month", "()I"⟩
abbrev cX9_pull : ByteArray := prog_1_method_22_code
def yX9_pull : MethodName := ⟨RX9, "pull", "(I)I"⟩
abbrev cX9_shake : ByteArray := prog_1_method_23_code
def yX9_shake : MethodName := ⟨RX9, "shake", "(I)I"⟩
abbrev cX9_stuff : ByteArray := prog_1_method_24_code
def yX9_stuff : MethodName := ⟨RX9, "stuff", "(II)I"⟩
abbrev cX9_led : ByteArray := prog_1_method_25_code
def yX9_led : MethodName := ⟨RX9, "led", "(I)I"⟩
abbrev cX9_image : ByteArray := prog_1_method_26_code
def yX9_image : MethodName := ⟨RX9, "image", "()I"⟩
abbrev cX9_back : ByteArray := prog_1_method_27_code
def yX9_back : MethodName := ⟨RX9, "back", "()I"⟩
abbrev cX9_undo : ByteArray := prog_1_method_28_code
def yX9_undo : MethodName := ⟨RX9, "undo", "()I"⟩
abbrev cX9_redo : ByteArray := prog_1_method_29_code
def yX9_redo : MethodName := ⟨RX9, "redo", "()I"⟩
abbrev cX9_body : ByteArray := prog_1_method_30_code
def yX9_body : MethodName := ⟨RX9, "body", "(I)I"⟩
abbrev cX9_act : ByteArray := prog_1_method_31_code
def yX9_act : MethodName := ⟨RX9, "act", "(III)I"⟩
abbrev cX9_trace : ByteArray := prog_1_method_32_code
def yX9_trace : MethodName := ⟨RX9, "trace", "(I)I"⟩
abbrev cX9_keep : ByteArray := prog_1_method_33_code
def yX9_keep : MethodName := ⟨RX9, "keep", "(II)I"⟩
abbrev cX9_row : ByteArray := prog_1_method_34_code
def yX9_row : MethodName := ⟨RX9, "row", "(III)I"⟩
abbrev cX9_put : ByteArray := prog_1_method_35_code
def yX9_put : MethodName := ⟨RX9, "put", "(IIJ)I"⟩
abbrev cX9_element : ByteArray := prog_1_method_36_code
def yX9_element : MethodName := ⟨RX9, "element", "(II)J"⟩
abbrev cX9_shift : ByteArray := prog_1_method_37_code
def yX9_shift : MethodName := ⟨RX9, "shift", "(IIIII)I"⟩
abbrev cX9_taken : ByteArray := prog_1_method_38_code
def yX9_taken : MethodName := ⟨RX9, "taken", "(II)I"⟩
abbrev cX9_count : ByteArray := prog_1_method_39_code
def yX9_count : MethodName := ⟨RX9, "count", "(I)I"⟩
abbrev cX9_within : ByteArray := prog_1_method_40_code
def yX9_within : MethodName := ⟨RX9, "within", "(II)Z"⟩
abbrev cX9_isSquare : ByteArray := prog_1_method_41_code
def yX9_isSquare : MethodName := ⟨RX9, "isSquare", "(I)Z"⟩
abbrev cX9_isShelf : ByteArray := prog_1_method_42_code
def yX9_isShelf : MethodName := ⟨RX9, "isShelf", "(I)Z"⟩
abbrev cX9_houseCame : ByteArray := prog_1_method_43_code
def yX9_houseCame : MethodName := ⟨RX9, "houseCame", "(LEiderClimate$Shelf;II)Z"⟩
abbrev cX9_refusalOfBytes : ByteArray := prog_1_method_44_code
def yX9_refusalOfBytes : MethodName := ⟨RX9, "refusalOfBytes", "(I)I"⟩
abbrev cX9_refusalOfElement : ByteArray := prog_1_method_45_code
def yX9_refusalOfElement : MethodName := ⟨RX9, "refusalOfElement", "(II)I"⟩
def RX10 : String := "EiderClimateModel"
def TX10 : u_T := fun k => match k with
  | 0 => ("EiderClimateModel", "sort", "[I", true)
  | 1 => ("EiderClimateModel", "thick", "[I", true)
  | 2 => ("EiderClimateModel", "worn", "[I", true)
  | 3 => ("EiderClimateModel", "houses", "I", false)
  | 4 => ("EiderClimateModel", "ways", "[I", true)
  | 5 => ("EiderClimateModel", "other", "[I", true)
  | 6 => ("EiderClimateModel", "passed", "I", false)
  | 7 => ("EiderClimateModel", "taped", "I", false)
  | 8 => ("EiderClimateModel", "tape", "[I", true)
  | 9 => ("EiderClimateModel", "isTold", "Z", false)
  | 10 => ("EiderClimateModel", "lines", "I", false)
  | 11 => ("EiderClimateModel", "asks", "[I", true)
  | 12 => ("EiderClimateModel", "says", "[I", true)
  | 13 => ("EiderClimateModel", "ends", "[I", true)
  | 14 => ("EiderClimateModel", "code", "[I", true)
  | 15 => ("EiderClimateModel", "at", "I", false)
  | 16 => ("EiderClimateModel", "open", "I", false)
  | 17 => ("EiderClimateModel", "coded", "I", false)
  | 18 => ("EiderClimateModel", "newLines", "I", false)
  | 19 => ("EiderClimateModel", "newAsks", "[I", true)
  | 20 => ("EiderClimateModel", "newSays", "[I", true)
  | 21 => ("EiderClimateModel", "newEnds", "[I", true)
  | 22 => ("EiderClimateModel", "newCode", "[I", true)
  | 23 => ("EiderClimateModel", "stack", "[I", true)
  | 24 => ("EiderClimateModel", "names", "[I", true)
  | 25 => ("EiderClimateModel", "led", "[I", true)
  | 26 => ("EiderClimateModel", "imaged", "Z", false)
  | 27 => ("EiderClimateModel", "old", "[I", true)
  | 28 => ("EiderClimateModel", "oldLed", "[I", true)
  | 29 => ("EiderClimateModel", "changes", "I", false)
  | 30 => ("EiderClimateModel", "done", "I", false)
  | 31 => ("EiderClimateModel", "changed", "[I", true)
  | 32 => ("EiderClimateModel", "bodies", "I", false)
  | 33 => ("EiderClimateModel", "bodyKind", "[I", true)
  | 34 => ("EiderClimateModel", "traced", "I", false)
  | 35 => ("EiderClimateModel", "traces", "[I", true)
  | 36 => ("EiderClimateModel", "holding", "[I", true)
  | 37 => ("EiderClimateModel", "rowLength", "[I", true)
  | 38 => ("EiderClimateModel", "rowOf", "[J", true)
  | 39 => ("EiderClimateModel", "was", "[I", true)
  | 40 => ("EiderClimateModel", "begun", "[I", true)
  | 41 => ("EiderClimateModel", "given", "[I", true)
  | 42 => ("EiderClimateModel", "far", "[I", true)
  | _ => ("EiderClimateModel", "patch", "[I", true)
def tyX10 : Nat → FieldType := fun k => match k with
  | 0 => .array .int
  | 1 => .array .int
  | 2 => .array .int
  | 3 => .int
  | 4 => .array .int
  | 5 => .array .int
  | 6 => .int
  | 7 => .int
  | 8 => .array .int
  | 9 => .boolean
  | 10 => .int
  | 11 => .array .int
  | 12 => .array .int
  | 13 => .array .int
  | 14 => .array .int
  | 15 => .int
  | 16 => .int
  | 17 => .int
  | 18 => .int
  | 19 => .array .int
  | 20 => .array .int
  | 21 => .array .int
  | 22 => .array .int
  | 23 => .array .int
  | 24 => .array .int
  | 25 => .array .int
  | 26 => .boolean
  | 27 => .array .int
  | 28 => .array .int
  | 29 => .int
  | 30 => .int
  | 31 => .array .int
  | 32 => .int
  | 33 => .array .int
  | 34 => .int
  | 35 => .array .int
  | 36 => .array .int
  | 37 => .array .int
  | 38 => .array .long
  | 39 => .array .int
  | 40 => .array .int
  | 41 => .array .int
  | 42 => .array .int
  | _ => .array .int
abbrev wsX100 : List Cond := u_ws RX10 TX10 44
theorem nmX10 : ∀ a, a < 44 → ∀ b, b < 44 → a ≠ b → (TX10 a).2.1 ≠ (TX10 b).2.1 := by decide +kernel
theorem tyX10_ok : ∀ k, k < 44 → parseFieldDescriptor (TX10 k).2.2.1 = some (tyX10 k) := by decide +kernel
abbrev cX10_init : ByteArray := prog_12_method_1_code
def yX10_init : MethodName := ⟨RX10, "<init>", "()V"⟩
abbrev cX10_within : ByteArray := prog_12_method_2_code
def yX10_within : MethodName := ⟨RX10, "within", "(III)Z"⟩
abbrev cX10_isPlace : ByteArray := prog_12_method_3_code
def yX10_isPlace : MethodName := ⟨RX10, "isPlace", "(I)Z"⟩
abbrev cX10_isHouse : ByteArray := prog_12_method_4_code
def yX10_isHouse : MethodName := ⟨RX10, "isHouse", "(I)Z"⟩
abbrev cX10_isTime : ByteArray := prog_12_method_5_code
def yX10_isTime : MethodName := ⟨RX10, "isTime", "(I)Z"⟩
abbrev cX10_isShelf : ByteArray := prog_12_method_6_code
def yX10_isShelf : MethodName := ⟨RX10, "isShelf", "(I)Z"⟩
abbrev cX10_newHouse : ByteArray := prog_12_method_7_code
def yX10_newHouse : MethodName := ⟨RX10, "newHouse", "(III)I"⟩
abbrev cX10_house : ByteArray := prog_12_method_8_code
def yX10_house : MethodName := ⟨RX10, "house", "(II)I"⟩
abbrev cX10_houses : ByteArray := prog_12_method_9_code
def yX10_houses : MethodName := ⟨RX10, "houses", "(III)I"⟩
abbrev cX10_toldAt : ByteArray := prog_12_method_10_code
def yX10_toldAt : MethodName := ⟨RX10, "toldAt", "(II)I"⟩
abbrev cX10_isOf : ByteArray := prog_12_method_11_code
def yX10_isOf : MethodName := ⟨RX10, "isOf", "(II)Z"⟩
abbrev cX10_isFit : ByteArray := prog_12_method_12_code
def yX10_isFit : MethodName := ⟨RX10, "isFit", "(II)Z"⟩
abbrev cX10_get : ByteArray := prog_12_method_13_code
def yX10_get : MethodName := ⟨RX10, "get", "(II)I"⟩
abbrev cX10_becomes : ByteArray := prog_12_method_14_code
def yX10_becomes : MethodName := ⟨RX10, "becomes", "(III)V"⟩
abbrev cX10_mend : ByteArray := prog_12_method_15_code
def yX10_mend : MethodName := ⟨RX10, "mend", "(III)I"⟩
abbrev cX10_of : ByteArray := prog_12_method_16_code
def yX10_of : MethodName := ⟨RX10, "of", "(II)I"⟩
abbrev cX10_undo : ByteArray := prog_12_method_17_code
def yX10_undo : MethodName := ⟨RX10, "undo", "()I"⟩
abbrev cX10_redo : ByteArray := prog_12_method_18_code
def yX10_redo : MethodName := ⟨RX10, "redo", "()I"⟩
abbrev cX10_feed : ByteArray := prog_12_method_19_code
def yX10_feed : MethodName := ⟨RX10, "feed", "(I)I"⟩
abbrev cX10_sign : ByteArray := prog_12_method_20_code
def yX10_sign : MethodName := ⟨RX10, "sign", "()I"⟩
abbrev cX10_is : ByteArray := prog_12_method_21_code
def yX10_is : MethodName := ⟨RX10, "is", "(I)Z"⟩
abbrev cX10_codes : ByteArray := prog_12_method_22_code
def yX10_codes : MethodName := ⟨RX10, "codes", "(I)Z"⟩
abbrev cX10_isDigit : ByteArray := prog_12_method_23_code
def yX10_isDigit : MethodName := ⟨RX10, "isDigit", "()Z"⟩
abbrev cX10_nameOf : ByteArray := prog_12_method_24_code
def yX10_nameOf : MethodName := ⟨RX10, "nameOf", "(I)I"⟩
abbrev cX10_isO : ByteArray := prog_12_method_25_code
def yX10_isO : MethodName := ⟨RX10, "isO", "()Z"⟩
abbrev cX10_isP : ByteArray := prog_12_method_26_code
def yX10_isP : MethodName := ⟨RX10, "isP", "()Z"⟩
abbrev cX10_isS : ByteArray := prog_12_method_27_code
def yX10_isS : MethodName := ⟨RX10, "isS", "()Z"⟩
abbrev cX10_isB : ByteArray := prog_12_method_28_code
def yX10_isB : MethodName := ⟨RX10, "isB", "()Z"⟩
abbrev cX10_isA : ByteArray := prog_12_method_29_code
def yX10_isA : MethodName := ⟨RX10, "isA", "()Z"⟩
abbrev cX10_isE : ByteArray := prog_12_method_30_code
def yX10_isE : MethodName := ⟨RX10, "isE", "()Z"⟩
abbrev cX10_isLine : ByteArray := prog_12_method_31_code
def yX10_isLine : MethodName := ⟨RX10, "isLine", "()Z"⟩
abbrev cX10_law : ByteArray := prog_12_method_32_code
def yX10_law : MethodName := ⟨RX10, "law", "()I"⟩
abbrev cX10_both : ByteArray := prog_12_method_33_code
def yX10_both : MethodName := ⟨RX10, "both", "(III)I"⟩
abbrev cX10_worked : ByteArray := prog_12_method_34_code
def yX10_worked : MethodName := ⟨RX10, "worked", "(II)I"⟩
abbrev cX10_beside : ByteArray := prog_12_method_35_code
def yX10_beside : MethodName := ⟨RX10, "beside", "(II)I"⟩
abbrev cX10_near : ByteArray := prog_12_method_36_code
def yX10_near : MethodName := ⟨RX10, "near", "(I)I"⟩
abbrev cX10_byLaw : ByteArray := prog_12_method_37_code
def yX10_byLaw : MethodName := ⟨RX10, "byLaw", "(I)I"⟩
abbrev cX10_warmth : ByteArray := prog_12_method_38_code
def yX10_warmth : MethodName := ⟨RX10, "warmth", "(I)I"⟩
abbrev cX10_isCold : ByteArray := prog_12_method_39_code
def yX10_isCold : MethodName := ⟨RX10, "isCold", "(I)Z"⟩
abbrev cX10_coldOnes : ByteArray := prog_12_method_40_code
def yX10_coldOnes : MethodName := ⟨RX10, "coldOnes", "()I"⟩
abbrev cX10_slips : ByteArray := prog_12_method_41_code
def yX10_slips : MethodName := ⟨RX10, "slips", "()V"⟩
abbrev cX10_moves : ByteArray := prog_12_method_42_code
def yX10_moves : MethodName := ⟨RX10, "moves", "(II)V"⟩
abbrev cX10_passes : ByteArray := prog_12_method_43_code
def yX10_passes : MethodName := ⟨RX10, "passes", "()V"⟩
abbrev cX10_pulls : ByteArray := prog_12_method_44_code
def yX10_pulls : MethodName := ⟨RX10, "pulls", "(I)V"⟩
abbrev cX10_isInner : ByteArray := prog_12_method_45_code
def yX10_isInner : MethodName := ⟨RX10, "isInner", "(I)Z"⟩
abbrev cX10_shakesAt : ByteArray := prog_12_method_46_code
def yX10_shakesAt : MethodName := ⟨RX10, "shakesAt", "(I)V"⟩
abbrev cX10_keeps : ByteArray := prog_12_method_47_code
def yX10_keeps : MethodName := ⟨RX10, "keeps", "([I)V"⟩
abbrev cX10_again : ByteArray := prog_12_method_48_code
def yX10_again : MethodName := ⟨RX10, "again", "([I)V"⟩
abbrev cX10_goesOn : ByteArray := prog_12_method_49_code
def yX10_goesOn : MethodName := ⟨RX10, "goesOn", "(I)V"⟩
abbrev cX10_later : ByteArray := prog_12_method_50_code
def yX10_later : MethodName := ⟨RX10, "later", "(III)I"⟩
abbrev cX10_warmest : ByteArray := prog_12_method_51_code
def yX10_warmest : MethodName := ⟨RX10, "warmest", "()I"⟩
abbrev cX10_cold : ByteArray := prog_12_method_52_code
def yX10_cold : MethodName := ⟨RX10, "cold", "(II)I"⟩
abbrev cX10_first : ByteArray := prog_12_method_53_code
def yX10_first : MethodName := ⟨RX10, "first", "(I)I"⟩
abbrev cX10_often : ByteArray := prog_12_method_54_code
def yX10_often : MethodName := ⟨RX10, "often", "(II)I"⟩
abbrev cX10_isEnough : ByteArray := prog_12_method_55_code
def yX10_isEnough : MethodName := ⟨RX10, "isEnough", "(III)Z"⟩
abbrev cX10_pulls_ : ByteArray := prog_12_method_56_code
def yX10_pulls_ : MethodName := ⟨RX10, "pulls", "(II)I"⟩
abbrev cX10_shakes : ByteArray := prog_12_method_57_code
def yX10_shakes : MethodName := ⟨RX10, "shakes", "(I)I"⟩
abbrev cX10_stuffsAt : ByteArray := prog_12_method_58_code
def yX10_stuffsAt : MethodName := ⟨RX10, "stuffsAt", "(III)V"⟩
abbrev cX10_stuffs : ByteArray := prog_12_method_59_code
def yX10_stuffs : MethodName := ⟨RX10, "stuffs", "(II)I"⟩
abbrev cX10_noFelt : ByteArray := prog_12_method_60_code
def yX10_noFelt : MethodName := ⟨RX10, "noFelt", "(I)I"⟩
abbrev cX10_unlike : ByteArray := prog_12_method_61_code
def yX10_unlike : MethodName := ⟨RX10, "unlike", "(I)I"⟩
abbrev cX10_judge : ByteArray := prog_12_method_62_code
def yX10_judge : MethodName := ⟨RX10, "judge", "(I)I"⟩
abbrev cX10_so : ByteArray := prog_12_method_63_code
def yX10_so : MethodName := ⟨RX10, "so", "(IIIII)I"⟩
abbrev cX10_felt : ByteArray := prog_12_method_64_code
def yX10_felt : MethodName := ⟨RX10, "felt", "(III)I"⟩
abbrev cX10_spreads : ByteArray := prog_12_method_65_code
def yX10_spreads : MethodName := ⟨RX10, "spreads", "(II)V"⟩
abbrev cX10_walk : ByteArray := prog_12_method_66_code
def yX10_walk : MethodName := ⟨RX10, "walk", "(II)I"⟩
abbrev cX10_patches : ByteArray := prog_12_method_67_code
def yX10_patches : MethodName := ⟨RX10, "patches", "(I)I"⟩
abbrev cX10_turnFrom : ByteArray := prog_12_method_68_code
def yX10_turnFrom : MethodName := ⟨RX10, "turnFrom", "(IIII)I"⟩
abbrev cX10_byTurns : ByteArray := prog_12_method_69_code
def yX10_byTurns : MethodName := ⟨RX10, "byTurns", "(IIII)I"⟩
abbrev cX10_drawn : ByteArray := prog_12_method_70_code
def yX10_drawn : MethodName := ⟨RX10, "drawn", "(III)I"⟩
abbrev cX10_month : ByteArray := prog_12_method_71_code
def yX10_month : MethodName := ⟨RX10, "month", "()I"⟩
abbrev cX10_pull : ByteArray := prog_12_method_72_code
def yX10_pull : MethodName := ⟨RX10, "pull", "(I)I"⟩
abbrev cX10_shake : ByteArray := prog_12_method_73_code
def yX10_shake : MethodName := ⟨RX10, "shake", "(I)I"⟩
abbrev cX10_stuff : ByteArray := prog_12_method_74_code
def yX10_stuff : MethodName := ⟨RX10, "stuff", "(II)I"⟩
abbrev cX10_led : ByteArray := prog_12_method_75_code
def yX10_led : MethodName := ⟨RX10, "led", "(I)I"⟩
abbrev cX10_image : ByteArray := prog_12_method_76_code
def yX10_image : MethodName := ⟨RX10, "image", "()I"⟩
abbrev cX10_back : ByteArray := prog_12_method_77_code
def yX10_back : MethodName := ⟨RX10, "back", "()I"⟩
abbrev cX10_above : ByteArray := prog_12_method_78_code
def yX10_above : MethodName := ⟨RX10, "above", "(I)I"⟩
abbrev cX10_ran : ByteArray := prog_12_method_79_code
def yX10_ran : MethodName := ⟨RX10, "ran", "(I)V"⟩
abbrev cX10_warmsBy : ByteArray := prog_12_method_80_code
def yX10_warmsBy : MethodName := ⟨RX10, "warmsBy", "(III)I"⟩
abbrev cX10_slipsBy : ByteArray := prog_12_method_81_code
def yX10_slipsBy : MethodName := ⟨RX10, "slipsBy", "(III)I"⟩
abbrev cX10_airsBy : ByteArray := prog_12_method_82_code
def yX10_airsBy : MethodName := ⟨RX10, "airsBy", "(III)I"⟩
abbrev cX10_tells : ByteArray := prog_12_method_83_code
def yX10_tells : MethodName := ⟨RX10, "tells", "(III)I"⟩
abbrev cX10_body : ByteArray := prog_12_method_84_code
def yX10_body : MethodName := ⟨RX10, "body", "(I)I"⟩
abbrev cX10_act : ByteArray := prog_12_method_85_code
def yX10_act : MethodName := ⟨RX10, "act", "(III)I"⟩
abbrev cX10_trace : ByteArray := prog_12_method_86_code
def yX10_trace : MethodName := ⟨RX10, "trace", "(I)I"⟩
abbrev cX10_keep : ByteArray := prog_12_method_87_code
def yX10_keep : MethodName := ⟨RX10, "keep", "(II)I"⟩
abbrev cX10_row : ByteArray := prog_12_method_88_code
def yX10_row : MethodName := ⟨RX10, "row", "(III)I"⟩
abbrev cX10_isRow : ByteArray := prog_12_method_89_code
def yX10_isRow : MethodName := ⟨RX10, "isRow", "(I)Z"⟩
abbrev cX10_kept : ByteArray := prog_12_method_90_code
def yX10_kept : MethodName := ⟨RX10, "kept", "(IJ)J"⟩
abbrev cX10_put : ByteArray := prog_12_method_91_code
def yX10_put : MethodName := ⟨RX10, "put", "(IIJ)I"⟩
abbrev cX10_element : ByteArray := prog_12_method_92_code
def yX10_element : MethodName := ⟨RX10, "element", "(II)J"⟩
abbrev cX10_shift : ByteArray := prog_12_method_93_code
def yX10_shift : MethodName := ⟨RX10, "shift", "(IIIII)I"⟩
abbrev cX10_taken : ByteArray := prog_12_method_94_code
def yX10_taken : MethodName := ⟨RX10, "taken", "(II)I"⟩
abbrev cX10_count : ByteArray := prog_12_method_95_code
def yX10_count : MethodName := ⟨RX10, "count", "(I)I"⟩
def RJ6 : String := "java/lang/Integer"
def TJ6 : u_T := fun k => match k with
  | _ => ("", "", "", false)
def tyJ6 : Nat → FieldType := fun k => match k with
  | _ => .int
abbrev wsJ60 : List Cond := u_ws RJ6 TJ6 0
theorem nmJ6 : ∀ a, a < 0 → ∀ b, b < 0 → a ≠ b → (TJ6 a).2.1 ≠ (TJ6 b).2.1 := by decide +kernel
theorem tyJ6_ok : ∀ k, k < 0 → parseFieldDescriptor (TJ6 k).2.2.1 = some (tyJ6 k) := by decide +kernel
abbrev cJ6_numberOfTrailingZeros_0f7a4 : ByteArray := prog_13_method_48_code
def yJ6_numberOfTrailingZeros_0f7a4 : MethodName := ⟨RJ6, "numberOfTrailingZeros", "(I)I"⟩
abbrev cJ6_bitCount_0f7a4 : ByteArray := prog_13_method_49_code
def yJ6_bitCount_0f7a4 : MethodName := ⟨RJ6, "bitCount", "(I)I"⟩
def RJ9 : String := "java/lang/Math"
def TJ9 : u_T := fun k => match k with
  | _ => ("", "", "", false)
def tyJ9 : Nat → FieldType := fun k => match k with
  | _ => .int
abbrev wsJ90 : List Cond := u_ws RJ9 TJ9 0
theorem nmJ9 : ∀ a, a < 0 → ∀ b, b < 0 → a ≠ b → (TJ9 a).2.1 ≠ (TJ9 b).2.1 := by decide +kernel
theorem tyJ9_ok : ∀ k, k < 0 → parseFieldDescriptor (TJ9 k).2.2.1 = some (tyJ9 k) := by decide +kernel
abbrev cJ9_max_7cf53 : ByteArray := prog_14_method_65_code
def yJ9_max_7cf53 : MethodName := ⟨RJ9, "max", "(II)I"⟩
abbrev cJ9_min_7cf53 : ByteArray := prog_14_method_69_code
def yJ9_min_7cf53 : MethodName := ⟨RJ9, "min", "(II)I"⟩
def RJ10 : String := "java/lang/System"
def TJ10 : u_T := fun k => match k with
  | _ => ("", "", "", false)
def tyJ10 : Nat → FieldType := fun k => match k with
  | _ => .int
abbrev wsJ100 : List Cond := u_ws RJ10 TJ10 0
theorem nmJ10 : ∀ a, a < 0 → ∀ b, b < 0 → a ≠ b → (TJ10 a).2.1 ≠ (TJ10 b).2.1 := by decide +kernel
theorem tyJ10_ok : ∀ k, k < 0 → parseFieldDescriptor (TJ10 k).2.2.1 = some (tyJ10 k) := by decide +kernel
def RL : String := "EiderClimateLaw"
abbrev cL_law : ByteArray := code
def yL_law : MethodName := ⟨RL, "law", "([I)Z"⟩
abbrev vwCl : List vw_C := [(RX0, TX0, 6), (RX1, TX1, 5), (RX2, TX2, 8), (RX3, TX3, 4), (RX4, TX4, 8), (RX5, TX5, 4), (RX6, TX6, 4), (RX7, TX7, 10), (RX8, TX8, 8), (RX9, TX9, 9), (RX10, TX10, 44)]
end
section
theorem dX0_init_0 : decode cX0_init 0 = .ok (.aload_n 0, 1) := by decide +kernel
theorem dX0_init_1 : decode cX0_init 1 = .ok (.invokespecial 1, 3) := by decide +kernel
theorem dX0_init_4 : decode cX0_init 4 = .ok (.aload_n 0, 1) := by decide +kernel
theorem dX0_init_5 : decode cX0_init 5 = .ok (.bipush 40, 2) := by decide +kernel
theorem dX0_init_7 : decode cX0_init 7 = .ok (.newarray .int, 2) := by decide +kernel
theorem dX0_init_9 : decode cX0_init 9 = .ok (.putfield 9, 3) := by decide +kernel
theorem dX0_init_12 : decode cX0_init 12 = .ok (.aload_n 0, 1) := by decide +kernel
theorem dX0_init_13 : decode cX0_init 13 = .ok (.bipush 40, 2) := by decide +kernel
theorem dX0_init_15 : decode cX0_init 15 = .ok (.newarray .int, 2) := by decide +kernel
theorem dX0_init_17 : decode cX0_init 17 = .ok (.putfield 13, 3) := by decide +kernel
theorem dX0_init_20 : decode cX0_init 20 = .ok (.aload_n 0, 1) := by decide +kernel
theorem dX0_init_21 : decode cX0_init 21 = .ok (.bipush 40, 2) := by decide +kernel
theorem dX0_init_23 : decode cX0_init 23 = .ok (.newarray .int, 2) := by decide +kernel
theorem dX0_init_25 : decode cX0_init 25 = .ok (.putfield 16, 3) := by decide +kernel
theorem dX0_init_28 : decode cX0_init 28 = .ok (.aload_n 0, 1) := by decide +kernel
theorem dX0_init_29 : decode cX0_init 29 = .ok (.bipush 40, 2) := by decide +kernel
theorem dX0_init_31 : decode cX0_init 31 = .ok (.newarray .int, 2) := by decide +kernel
theorem dX0_init_33 : decode cX0_init 33 = .ok (.putfield 19, 3) := by decide +kernel
theorem dX0_init_36 : decode cX0_init 36 = .ok (.return_, 1) := by decide +kernel
theorem dX0_note_0 : decode cX0_note 0 = .ok (.aload_n 0, 1) := by decide +kernel
theorem dX0_note_1 : decode cX0_note 1 = .ok (.getfield 22, 3) := by decide +kernel
theorem dX0_note_4 : decode cX0_note 4 = .ok (.bipush 40, 2) := by decide +kernel
theorem dX0_note_6 : decode cX0_note 6 = .ok (.if_icmp .lt 7, 3) := by decide +kernel
theorem dX0_note_9 : decode cX0_note 9 = .ok (.aload_n 0, 1) := by decide +kernel
theorem dX0_note_10 : decode cX0_note 10 = .ok (.invokevirtual 26, 3) := by decide +kernel
theorem dX0_note_13 : decode cX0_note 13 = .ok (.aload_n 0, 1) := by decide +kernel
theorem dX0_note_14 : decode cX0_note 14 = .ok (.getfield 9, 3) := by decide +kernel
theorem dX0_note_17 : decode cX0_note 17 = .ok (.aload_n 0, 1) := by decide +kernel
theorem dX0_note_18 : decode cX0_note 18 = .ok (.getfield 22, 3) := by decide +kernel
theorem dX0_note_21 : decode cX0_note 21 = .ok (.iload_n 1, 1) := by decide +kernel
theorem dX0_note_22 : decode cX0_note 22 = .ok (.iastore, 1) := by decide +kernel
theorem dX0_note_23 : decode cX0_note 23 = .ok (.aload_n 0, 1) := by decide +kernel
theorem dX0_note_24 : decode cX0_note 24 = .ok (.getfield 13, 3) := by decide +kernel
theorem dX0_note_27 : decode cX0_note 27 = .ok (.aload_n 0, 1) := by decide +kernel
theorem dX0_note_28 : decode cX0_note 28 = .ok (.getfield 22, 3) := by decide +kernel
theorem dX0_note_31 : decode cX0_note 31 = .ok (.iload_n 2, 1) := by decide +kernel
theorem dX0_note_32 : decode cX0_note 32 = .ok (.iastore, 1) := by decide +kernel
theorem dX0_note_33 : decode cX0_note 33 = .ok (.aload_n 0, 1) := by decide +kernel
theorem dX0_note_34 : decode cX0_note 34 = .ok (.getfield 16, 3) := by decide +kernel
theorem dX0_note_37 : decode cX0_note 37 = .ok (.aload_n 0, 1) := by decide +kernel
theorem dX0_note_38 : decode cX0_note 38 = .ok (.getfield 22, 3) := by decide +kernel
theorem dX0_note_41 : decode cX0_note 41 = .ok (.iload_n 3, 1) := by decide +kernel
theorem dX0_note_42 : decode cX0_note 42 = .ok (.iastore, 1) := by decide +kernel
theorem dX0_note_43 : decode cX0_note 43 = .ok (.aload_n 0, 1) := by decide +kernel
theorem dX0_note_44 : decode cX0_note 44 = .ok (.getfield 19, 3) := by decide +kernel
theorem dX0_note_47 : decode cX0_note 47 = .ok (.aload_n 0, 1) := by decide +kernel
theorem dX0_note_48 : decode cX0_note 48 = .ok (.getfield 22, 3) := by decide +kernel
theorem dX0_note_51 : decode cX0_note 51 = .ok (.iload 4, 2) := by decide +kernel
theorem dX0_note_53 : decode cX0_note 53 = .ok (.iastore, 1) := by decide +kernel
theorem dX0_note_54 : decode cX0_note 54 = .ok (.aload_n 0, 1) := by decide +kernel
theorem dX0_note_55 : decode cX0_note 55 = .ok (.dup, 1) := by decide +kernel
theorem dX0_note_56 : decode cX0_note 56 = .ok (.getfield 22, 3) := by decide +kernel
theorem dX0_note_59 : decode cX0_note 59 = .ok (.iconst 1, 1) := by decide +kernel
theorem dX0_note_60 : decode cX0_note 60 = .ok (.iadd, 1) := by decide +kernel
theorem dX0_note_61 : decode cX0_note 61 = .ok (.putfield 22, 3) := by decide +kernel
theorem dX0_note_64 : decode cX0_note 64 = .ok (.aload_n 0, 1) := by decide +kernel
theorem dX0_note_65 : decode cX0_note 65 = .ok (.iconst 0, 1) := by decide +kernel
theorem dX0_note_66 : decode cX0_note 66 = .ok (.putfield 29, 3) := by decide +kernel
theorem dX0_note_69 : decode cX0_note 69 = .ok (.return_, 1) := by decide +kernel
theorem dX0_forgetOldest_0 : decode cX0_forgetOldest 0 = .ok (.aload_n 0, 1) := by decide +kernel
theorem dX0_forgetOldest_1 : decode cX0_forgetOldest 1 = .ok (.getfield 9, 3) := by decide +kernel
theorem dX0_forgetOldest_4 : decode cX0_forgetOldest 4 = .ok (.iconst 1, 1) := by decide +kernel
theorem dX0_forgetOldest_5 : decode cX0_forgetOldest 5 = .ok (.aload_n 0, 1) := by decide +kernel
theorem dX0_forgetOldest_6 : decode cX0_forgetOldest 6 = .ok (.getfield 9, 3) := by decide +kernel
theorem dX0_forgetOldest_9 : decode cX0_forgetOldest 9 = .ok (.iconst 0, 1) := by decide +kernel
theorem dX0_forgetOldest_10 : decode cX0_forgetOldest 10 = .ok (.bipush 39, 2) := by decide +kernel
theorem dX0_forgetOldest_12 : decode cX0_forgetOldest 12 = .ok (.invokestatic 32, 3) := by decide +kernel
theorem dX0_forgetOldest_15 : decode cX0_forgetOldest 15 = .ok (.aload_n 0, 1) := by decide +kernel
theorem dX0_forgetOldest_16 : decode cX0_forgetOldest 16 = .ok (.getfield 13, 3) := by decide +kernel
theorem dX0_forgetOldest_19 : decode cX0_forgetOldest 19 = .ok (.iconst 1, 1) := by decide +kernel
theorem dX0_forgetOldest_20 : decode cX0_forgetOldest 20 = .ok (.aload_n 0, 1) := by decide +kernel
theorem dX0_forgetOldest_21 : decode cX0_forgetOldest 21 = .ok (.getfield 13, 3) := by decide +kernel
theorem dX0_forgetOldest_24 : decode cX0_forgetOldest 24 = .ok (.iconst 0, 1) := by decide +kernel
theorem dX0_forgetOldest_25 : decode cX0_forgetOldest 25 = .ok (.bipush 39, 2) := by decide +kernel
theorem dX0_forgetOldest_27 : decode cX0_forgetOldest 27 = .ok (.invokestatic 32, 3) := by decide +kernel
theorem dX0_forgetOldest_30 : decode cX0_forgetOldest 30 = .ok (.aload_n 0, 1) := by decide +kernel
theorem dX0_forgetOldest_31 : decode cX0_forgetOldest 31 = .ok (.getfield 16, 3) := by decide +kernel
theorem dX0_forgetOldest_34 : decode cX0_forgetOldest 34 = .ok (.iconst 1, 1) := by decide +kernel
theorem dX0_forgetOldest_35 : decode cX0_forgetOldest 35 = .ok (.aload_n 0, 1) := by decide +kernel
theorem dX0_forgetOldest_36 : decode cX0_forgetOldest 36 = .ok (.getfield 16, 3) := by decide +kernel
theorem dX0_forgetOldest_39 : decode cX0_forgetOldest 39 = .ok (.iconst 0, 1) := by decide +kernel
theorem dX0_forgetOldest_40 : decode cX0_forgetOldest 40 = .ok (.bipush 39, 2) := by decide +kernel
theorem dX0_forgetOldest_42 : decode cX0_forgetOldest 42 = .ok (.invokestatic 32, 3) := by decide +kernel
theorem dX0_forgetOldest_45 : decode cX0_forgetOldest 45 = .ok (.aload_n 0, 1) := by decide +kernel
theorem dX0_forgetOldest_46 : decode cX0_forgetOldest 46 = .ok (.getfield 19, 3) := by decide +kernel
theorem dX0_forgetOldest_49 : decode cX0_forgetOldest 49 = .ok (.iconst 1, 1) := by decide +kernel
theorem dX0_forgetOldest_50 : decode cX0_forgetOldest 50 = .ok (.aload_n 0, 1) := by decide +kernel
theorem dX0_forgetOldest_51 : decode cX0_forgetOldest 51 = .ok (.getfield 19, 3) := by decide +kernel
theorem dX0_forgetOldest_54 : decode cX0_forgetOldest 54 = .ok (.iconst 0, 1) := by decide +kernel
theorem dX0_forgetOldest_55 : decode cX0_forgetOldest 55 = .ok (.bipush 39, 2) := by decide +kernel
theorem dX0_forgetOldest_57 : decode cX0_forgetOldest 57 = .ok (.invokestatic 32, 3) := by decide +kernel
theorem dX0_forgetOldest_60 : decode cX0_forgetOldest 60 = .ok (.aload_n 0, 1) := by decide +kernel
theorem dX0_forgetOldest_61 : decode cX0_forgetOldest 61 = .ok (.bipush 39, 2) := by decide +kernel
theorem dX0_forgetOldest_63 : decode cX0_forgetOldest 63 = .ok (.putfield 22, 3) := by decide +kernel
theorem dX0_forgetOldest_66 : decode cX0_forgetOldest 66 = .ok (.return_, 1) := by decide +kernel
theorem dX0_stepBack_0 : decode cX0_stepBack 0 = .ok (.aload_n 0, 1) := by decide +kernel
theorem dX0_stepBack_1 : decode cX0_stepBack 1 = .ok (.getfield 22, 3) := by decide +kernel
theorem dX0_stepBack_4 : decode cX0_stepBack 4 = .ok (.ifCond .le 54, 3) := by decide +kernel
theorem dX0_stepBack_7 : decode cX0_stepBack 7 = .ok (.aload_n 0, 1) := by decide +kernel
theorem dX0_stepBack_8 : decode cX0_stepBack 8 = .ok (.dup, 1) := by decide +kernel
theorem dX0_stepBack_9 : decode cX0_stepBack 9 = .ok (.getfield 22, 3) := by decide +kernel
theorem dX0_stepBack_12 : decode cX0_stepBack 12 = .ok (.iconst 1, 1) := by decide +kernel
theorem dX0_stepBack_13 : decode cX0_stepBack 13 = .ok (.isub, 1) := by decide +kernel
theorem dX0_stepBack_14 : decode cX0_stepBack 14 = .ok (.putfield 22, 3) := by decide +kernel
theorem dX0_stepBack_17 : decode cX0_stepBack 17 = .ok (.aload_n 0, 1) := by decide +kernel
theorem dX0_stepBack_18 : decode cX0_stepBack 18 = .ok (.dup, 1) := by decide +kernel
theorem dX0_stepBack_19 : decode cX0_stepBack 19 = .ok (.getfield 29, 3) := by decide +kernel
theorem dX0_stepBack_22 : decode cX0_stepBack 22 = .ok (.iconst 1, 1) := by decide +kernel
theorem dX0_stepBack_23 : decode cX0_stepBack 23 = .ok (.iadd, 1) := by decide +kernel
theorem dX0_stepBack_24 : decode cX0_stepBack 24 = .ok (.putfield 29, 3) := by decide +kernel
theorem dX0_stepBack_27 : decode cX0_stepBack 27 = .ok (.aload_n 1, 1) := by decide +kernel
theorem dX0_stepBack_28 : decode cX0_stepBack 28 = .ok (.aload_n 0, 1) := by decide +kernel
theorem dX0_stepBack_29 : decode cX0_stepBack 29 = .ok (.getfield 9, 3) := by decide +kernel
theorem dX0_stepBack_32 : decode cX0_stepBack 32 = .ok (.aload_n 0, 1) := by decide +kernel
theorem dX0_stepBack_33 : decode cX0_stepBack 33 = .ok (.getfield 22, 3) := by decide +kernel
theorem dX0_stepBack_36 : decode cX0_stepBack 36 = .ok (.iaload, 1) := by decide +kernel
theorem dX0_stepBack_37 : decode cX0_stepBack 37 = .ok (.aload_n 0, 1) := by decide +kernel
theorem dX0_stepBack_38 : decode cX0_stepBack 38 = .ok (.getfield 13, 3) := by decide +kernel
theorem dX0_stepBack_41 : decode cX0_stepBack 41 = .ok (.aload_n 0, 1) := by decide +kernel
theorem dX0_stepBack_42 : decode cX0_stepBack 42 = .ok (.getfield 22, 3) := by decide +kernel
theorem dX0_stepBack_45 : decode cX0_stepBack 45 = .ok (.iaload, 1) := by decide +kernel
theorem dX0_stepBack_46 : decode cX0_stepBack 46 = .ok (.aload_n 0, 1) := by decide +kernel
theorem dX0_stepBack_47 : decode cX0_stepBack 47 = .ok (.getfield 16, 3) := by decide +kernel
theorem dX0_stepBack_50 : decode cX0_stepBack 50 = .ok (.aload_n 0, 1) := by decide +kernel
theorem dX0_stepBack_51 : decode cX0_stepBack 51 = .ok (.getfield 22, 3) := by decide +kernel
theorem dX0_stepBack_54 : decode cX0_stepBack 54 = .ok (.iaload, 1) := by decide +kernel
theorem dX0_stepBack_55 : decode cX0_stepBack 55 = .ok (.invokevirtual 38, 3) := by decide +kernel
theorem dX0_stepBack_58 : decode cX0_stepBack 58 = .ok (.return_, 1) := by decide +kernel
theorem dX0_stepForth_0 : decode cX0_stepForth 0 = .ok (.aload_n 0, 1) := by decide +kernel
theorem dX0_stepForth_1 : decode cX0_stepForth 1 = .ok (.getfield 29, 3) := by decide +kernel
theorem dX0_stepForth_4 : decode cX0_stepForth 4 = .ok (.ifCond .le 63, 3) := by decide +kernel
theorem dX0_stepForth_7 : decode cX0_stepForth 7 = .ok (.aload_n 0, 1) := by decide +kernel
theorem dX0_stepForth_8 : decode cX0_stepForth 8 = .ok (.getfield 22, 3) := by decide +kernel
theorem dX0_stepForth_11 : decode cX0_stepForth 11 = .ok (.bipush 40, 2) := by decide +kernel
theorem dX0_stepForth_13 : decode cX0_stepForth 13 = .ok (.if_icmp .ge 54, 3) := by decide +kernel
theorem dX0_stepForth_16 : decode cX0_stepForth 16 = .ok (.aload_n 1, 1) := by decide +kernel
theorem dX0_stepForth_17 : decode cX0_stepForth 17 = .ok (.aload_n 0, 1) := by decide +kernel
theorem dX0_stepForth_18 : decode cX0_stepForth 18 = .ok (.getfield 9, 3) := by decide +kernel
theorem dX0_stepForth_21 : decode cX0_stepForth 21 = .ok (.aload_n 0, 1) := by decide +kernel
theorem dX0_stepForth_22 : decode cX0_stepForth 22 = .ok (.getfield 22, 3) := by decide +kernel
theorem dX0_stepForth_25 : decode cX0_stepForth 25 = .ok (.iaload, 1) := by decide +kernel
theorem dX0_stepForth_26 : decode cX0_stepForth 26 = .ok (.aload_n 0, 1) := by decide +kernel
theorem dX0_stepForth_27 : decode cX0_stepForth 27 = .ok (.getfield 13, 3) := by decide +kernel
theorem dX0_stepForth_30 : decode cX0_stepForth 30 = .ok (.aload_n 0, 1) := by decide +kernel
theorem dX0_stepForth_31 : decode cX0_stepForth 31 = .ok (.getfield 22, 3) := by decide +kernel
theorem dX0_stepForth_34 : decode cX0_stepForth 34 = .ok (.iaload, 1) := by decide +kernel
theorem dX0_stepForth_35 : decode cX0_stepForth 35 = .ok (.aload_n 0, 1) := by decide +kernel
theorem dX0_stepForth_36 : decode cX0_stepForth 36 = .ok (.getfield 19, 3) := by decide +kernel
theorem dX0_stepForth_39 : decode cX0_stepForth 39 = .ok (.aload_n 0, 1) := by decide +kernel
theorem dX0_stepForth_40 : decode cX0_stepForth 40 = .ok (.getfield 22, 3) := by decide +kernel
theorem dX0_stepForth_43 : decode cX0_stepForth 43 = .ok (.iaload, 1) := by decide +kernel
theorem dX0_stepForth_44 : decode cX0_stepForth 44 = .ok (.invokevirtual 38, 3) := by decide +kernel
theorem dX0_stepForth_47 : decode cX0_stepForth 47 = .ok (.aload_n 0, 1) := by decide +kernel
theorem dX0_stepForth_48 : decode cX0_stepForth 48 = .ok (.dup, 1) := by decide +kernel
theorem dX0_stepForth_49 : decode cX0_stepForth 49 = .ok (.getfield 22, 3) := by decide +kernel
theorem dX0_stepForth_52 : decode cX0_stepForth 52 = .ok (.iconst 1, 1) := by decide +kernel
theorem dX0_stepForth_53 : decode cX0_stepForth 53 = .ok (.iadd, 1) := by decide +kernel
theorem dX0_stepForth_54 : decode cX0_stepForth 54 = .ok (.putfield 22, 3) := by decide +kernel
theorem dX0_stepForth_57 : decode cX0_stepForth 57 = .ok (.aload_n 0, 1) := by decide +kernel
theorem dX0_stepForth_58 : decode cX0_stepForth 58 = .ok (.dup, 1) := by decide +kernel
theorem dX0_stepForth_59 : decode cX0_stepForth 59 = .ok (.getfield 29, 3) := by decide +kernel
theorem dX0_stepForth_62 : decode cX0_stepForth 62 = .ok (.iconst 1, 1) := by decide +kernel
theorem dX0_stepForth_63 : decode cX0_stepForth 63 = .ok (.isub, 1) := by decide +kernel
theorem dX0_stepForth_64 : decode cX0_stepForth 64 = .ok (.putfield 29, 3) := by decide +kernel
theorem dX0_stepForth_67 : decode cX0_stepForth 67 = .ok (.return_, 1) := by decide +kernel
theorem dX1_init_0 : decode cX1_init 0 = .ok (.aload_n 0, 1) := by decide +kernel
theorem dX1_init_1 : decode cX1_init 1 = .ok (.invokespecial 3, 3) := by decide +kernel
theorem dX1_init_4 : decode cX1_init 4 = .ok (.aload_n 0, 1) := by decide +kernel
theorem dX1_init_5 : decode cX1_init 5 = .ok (.bipush 30, 2) := by decide +kernel
theorem dX1_init_7 : decode cX1_init 7 = .ok (.newarray .int, 2) := by decide +kernel
theorem dX1_init_9 : decode cX1_init 9 = .ok (.putfield 9, 3) := by decide +kernel
theorem dX1_init_12 : decode cX1_init 12 = .ok (.aload_n 0, 1) := by decide +kernel
theorem dX1_init_13 : decode cX1_init 13 = .ok (.bipush 30, 2) := by decide +kernel
theorem dX1_init_15 : decode cX1_init 15 = .ok (.newarray .int, 2) := by decide +kernel
theorem dX1_init_17 : decode cX1_init 17 = .ok (.putfield 15, 3) := by decide +kernel
theorem dX1_init_20 : decode cX1_init 20 = .ok (.aload_n 0, 1) := by decide +kernel
theorem dX1_init_21 : decode cX1_init 21 = .ok (.bipush 30, 2) := by decide +kernel
theorem dX1_init_23 : decode cX1_init 23 = .ok (.newarray .int, 2) := by decide +kernel
theorem dX1_init_25 : decode cX1_init 25 = .ok (.putfield 18, 3) := by decide +kernel
theorem dX1_init_28 : decode cX1_init 28 = .ok (.aload_n 0, 1) := by decide +kernel
theorem dX1_init_29 : decode cX1_init 29 = .ok (.iconst 5, 1) := by decide +kernel
theorem dX1_init_30 : decode cX1_init 30 = .ok (.newarray .int, 2) := by decide +kernel
theorem dX1_init_32 : decode cX1_init 32 = .ok (.putfield 21, 3) := by decide +kernel
theorem dX1_init_35 : decode cX1_init 35 = .ok (.return_, 1) := by decide +kernel
theorem dX1_takeFrom_0 : decode cX1_takeFrom 0 = .ok (.aload_n 1, 1) := by decide +kernel
theorem dX1_takeFrom_1 : decode cX1_takeFrom 1 = .ok (.getfield 9, 3) := by decide +kernel
theorem dX1_takeFrom_4 : decode cX1_takeFrom 4 = .ok (.iconst 0, 1) := by decide +kernel
theorem dX1_takeFrom_5 : decode cX1_takeFrom 5 = .ok (.aload_n 0, 1) := by decide +kernel
theorem dX1_takeFrom_6 : decode cX1_takeFrom 6 = .ok (.getfield 9, 3) := by decide +kernel
theorem dX1_takeFrom_9 : decode cX1_takeFrom 9 = .ok (.iconst 0, 1) := by decide +kernel
theorem dX1_takeFrom_10 : decode cX1_takeFrom 10 = .ok (.bipush 30, 2) := by decide +kernel
theorem dX1_takeFrom_12 : decode cX1_takeFrom 12 = .ok (.invokestatic 24, 3) := by decide +kernel
theorem dX1_takeFrom_15 : decode cX1_takeFrom 15 = .ok (.aload_n 1, 1) := by decide +kernel
theorem dX1_takeFrom_16 : decode cX1_takeFrom 16 = .ok (.getfield 15, 3) := by decide +kernel
theorem dX1_takeFrom_19 : decode cX1_takeFrom 19 = .ok (.iconst 0, 1) := by decide +kernel
theorem dX1_takeFrom_20 : decode cX1_takeFrom 20 = .ok (.aload_n 0, 1) := by decide +kernel
theorem dX1_takeFrom_21 : decode cX1_takeFrom 21 = .ok (.getfield 15, 3) := by decide +kernel
theorem dX1_takeFrom_24 : decode cX1_takeFrom 24 = .ok (.iconst 0, 1) := by decide +kernel
theorem dX1_takeFrom_25 : decode cX1_takeFrom 25 = .ok (.bipush 30, 2) := by decide +kernel
theorem dX1_takeFrom_27 : decode cX1_takeFrom 27 = .ok (.invokestatic 24, 3) := by decide +kernel
theorem dX1_takeFrom_30 : decode cX1_takeFrom 30 = .ok (.aload_n 1, 1) := by decide +kernel
theorem dX1_takeFrom_31 : decode cX1_takeFrom 31 = .ok (.getfield 18, 3) := by decide +kernel
theorem dX1_takeFrom_34 : decode cX1_takeFrom 34 = .ok (.iconst 0, 1) := by decide +kernel
theorem dX1_takeFrom_35 : decode cX1_takeFrom 35 = .ok (.aload_n 0, 1) := by decide +kernel
theorem dX1_takeFrom_36 : decode cX1_takeFrom 36 = .ok (.getfield 18, 3) := by decide +kernel
theorem dX1_takeFrom_39 : decode cX1_takeFrom 39 = .ok (.iconst 0, 1) := by decide +kernel
theorem dX1_takeFrom_40 : decode cX1_takeFrom 40 = .ok (.bipush 30, 2) := by decide +kernel
theorem dX1_takeFrom_42 : decode cX1_takeFrom 42 = .ok (.invokestatic 24, 3) := by decide +kernel
theorem dX1_takeFrom_45 : decode cX1_takeFrom 45 = .ok (.aload_n 1, 1) := by decide +kernel
theorem dX1_takeFrom_46 : decode cX1_takeFrom 46 = .ok (.getfield 21, 3) := by decide +kernel
theorem dX1_takeFrom_49 : decode cX1_takeFrom 49 = .ok (.iconst 0, 1) := by decide +kernel
theorem dX1_takeFrom_50 : decode cX1_takeFrom 50 = .ok (.aload_n 0, 1) := by decide +kernel
theorem dX1_takeFrom_51 : decode cX1_takeFrom 51 = .ok (.getfield 21, 3) := by decide +kernel
theorem dX1_takeFrom_54 : decode cX1_takeFrom 54 = .ok (.iconst 0, 1) := by decide +kernel
theorem dX1_takeFrom_55 : decode cX1_takeFrom 55 = .ok (.iconst 5, 1) := by decide +kernel
theorem dX1_takeFrom_56 : decode cX1_takeFrom 56 = .ok (.invokestatic 24, 3) := by decide +kernel
theorem dX1_takeFrom_59 : decode cX1_takeFrom 59 = .ok (.aload_n 0, 1) := by decide +kernel
theorem dX1_takeFrom_60 : decode cX1_takeFrom 60 = .ok (.aload_n 1, 1) := by decide +kernel
theorem dX1_takeFrom_61 : decode cX1_takeFrom 61 = .ok (.getfield 30, 3) := by decide +kernel
theorem dX1_takeFrom_64 : decode cX1_takeFrom 64 = .ok (.putfield 30, 3) := by decide +kernel
theorem dX1_takeFrom_67 : decode cX1_takeFrom 67 = .ok (.return_, 1) := by decide +kernel
theorem dX1_numberAt_0 : decode cX1_numberAt 0 = .ok (.iload_n 2, 1) := by decide +kernel
theorem dX1_numberAt_1 : decode cX1_numberAt 1 = .ok (.ifCond .ne 12, 3) := by decide +kernel
theorem dX1_numberAt_4 : decode cX1_numberAt 4 = .ok (.aload_n 0, 1) := by decide +kernel
theorem dX1_numberAt_5 : decode cX1_numberAt 5 = .ok (.getfield 9, 3) := by decide +kernel
theorem dX1_numberAt_8 : decode cX1_numberAt 8 = .ok (.iload_n 1, 1) := by decide +kernel
theorem dX1_numberAt_9 : decode cX1_numberAt 9 = .ok (.iaload, 1) := by decide +kernel
theorem dX1_numberAt_10 : decode cX1_numberAt 10 = .ok (.goto 23, 3) := by decide +kernel
theorem dX1_numberAt_13 : decode cX1_numberAt 13 = .ok (.iload_n 2, 1) := by decide +kernel
theorem dX1_numberAt_14 : decode cX1_numberAt 14 = .ok (.iconst 1, 1) := by decide +kernel
theorem dX1_numberAt_15 : decode cX1_numberAt 15 = .ok (.if_icmp .ne 12, 3) := by decide +kernel
theorem dX1_numberAt_18 : decode cX1_numberAt 18 = .ok (.aload_n 0, 1) := by decide +kernel
theorem dX1_numberAt_19 : decode cX1_numberAt 19 = .ok (.getfield 15, 3) := by decide +kernel
theorem dX1_numberAt_22 : decode cX1_numberAt 22 = .ok (.iload_n 1, 1) := by decide +kernel
theorem dX1_numberAt_23 : decode cX1_numberAt 23 = .ok (.iaload, 1) := by decide +kernel
theorem dX1_numberAt_24 : decode cX1_numberAt 24 = .ok (.goto 9, 3) := by decide +kernel
theorem dX1_numberAt_27 : decode cX1_numberAt 27 = .ok (.aload_n 0, 1) := by decide +kernel
theorem dX1_numberAt_28 : decode cX1_numberAt 28 = .ok (.getfield 18, 3) := by decide +kernel
theorem dX1_numberAt_31 : decode cX1_numberAt 31 = .ok (.iload_n 1, 1) := by decide +kernel
theorem dX1_numberAt_32 : decode cX1_numberAt 32 = .ok (.iaload, 1) := by decide +kernel
theorem dX1_numberAt_33 : decode cX1_numberAt 33 = .ok (.ireturn, 1) := by decide +kernel
theorem dX1_setNumberAt_0 : decode cX1_setNumberAt 0 = .ok (.iload_n 2, 1) := by decide +kernel
theorem dX1_setNumberAt_1 : decode cX1_setNumberAt 1 = .ok (.ifCond .ne 13, 3) := by decide +kernel
theorem dX1_setNumberAt_4 : decode cX1_setNumberAt 4 = .ok (.aload_n 0, 1) := by decide +kernel
theorem dX1_setNumberAt_5 : decode cX1_setNumberAt 5 = .ok (.getfield 9, 3) := by decide +kernel
theorem dX1_setNumberAt_8 : decode cX1_setNumberAt 8 = .ok (.iload_n 1, 1) := by decide +kernel
theorem dX1_setNumberAt_9 : decode cX1_setNumberAt 9 = .ok (.iload_n 3, 1) := by decide +kernel
theorem dX1_setNumberAt_10 : decode cX1_setNumberAt 10 = .ok (.iastore, 1) := by decide +kernel
theorem dX1_setNumberAt_11 : decode cX1_setNumberAt 11 = .ok (.goto 25, 3) := by decide +kernel
theorem dX1_setNumberAt_14 : decode cX1_setNumberAt 14 = .ok (.iload_n 2, 1) := by decide +kernel
theorem dX1_setNumberAt_15 : decode cX1_setNumberAt 15 = .ok (.iconst 1, 1) := by decide +kernel
theorem dX1_setNumberAt_16 : decode cX1_setNumberAt 16 = .ok (.if_icmp .ne 13, 3) := by decide +kernel
theorem dX1_setNumberAt_19 : decode cX1_setNumberAt 19 = .ok (.aload_n 0, 1) := by decide +kernel
theorem dX1_setNumberAt_20 : decode cX1_setNumberAt 20 = .ok (.getfield 15, 3) := by decide +kernel
theorem dX1_setNumberAt_23 : decode cX1_setNumberAt 23 = .ok (.iload_n 1, 1) := by decide +kernel
theorem dX1_setNumberAt_24 : decode cX1_setNumberAt 24 = .ok (.iload_n 3, 1) := by decide +kernel
theorem dX1_setNumberAt_25 : decode cX1_setNumberAt 25 = .ok (.iastore, 1) := by decide +kernel
theorem dX1_setNumberAt_26 : decode cX1_setNumberAt 26 = .ok (.goto 10, 3) := by decide +kernel
theorem dX1_setNumberAt_29 : decode cX1_setNumberAt 29 = .ok (.aload_n 0, 1) := by decide +kernel
theorem dX1_setNumberAt_30 : decode cX1_setNumberAt 30 = .ok (.getfield 18, 3) := by decide +kernel
theorem dX1_setNumberAt_33 : decode cX1_setNumberAt 33 = .ok (.iload_n 1, 1) := by decide +kernel
theorem dX1_setNumberAt_34 : decode cX1_setNumberAt 34 = .ok (.iload_n 3, 1) := by decide +kernel
theorem dX1_setNumberAt_35 : decode cX1_setNumberAt 35 = .ok (.iastore, 1) := by decide +kernel
theorem dX1_setNumberAt_36 : decode cX1_setNumberAt 36 = .ok (.return_, 1) := by decide +kernel
theorem dX1_setSquare_0 : decode cX1_setSquare 0 = .ok (.aload_n 0, 1) := by decide +kernel
theorem dX1_setSquare_1 : decode cX1_setSquare 1 = .ok (.getfield 9, 3) := by decide +kernel
theorem dX1_setSquare_4 : decode cX1_setSquare 4 = .ok (.iload_n 1, 1) := by decide +kernel
theorem dX1_setSquare_5 : decode cX1_setSquare 5 = .ok (.iload_n 2, 1) := by decide +kernel
theorem dX1_setSquare_6 : decode cX1_setSquare 6 = .ok (.iastore, 1) := by decide +kernel
theorem dX1_setSquare_7 : decode cX1_setSquare 7 = .ok (.aload_n 0, 1) := by decide +kernel
theorem dX1_setSquare_8 : decode cX1_setSquare 8 = .ok (.getfield 15, 3) := by decide +kernel
theorem dX1_setSquare_11 : decode cX1_setSquare 11 = .ok (.iload_n 1, 1) := by decide +kernel
theorem dX1_setSquare_12 : decode cX1_setSquare 12 = .ok (.iload_n 3, 1) := by decide +kernel
theorem dX1_setSquare_13 : decode cX1_setSquare 13 = .ok (.iastore, 1) := by decide +kernel
theorem dX1_setSquare_14 : decode cX1_setSquare 14 = .ok (.aload_n 0, 1) := by decide +kernel
theorem dX1_setSquare_15 : decode cX1_setSquare 15 = .ok (.getfield 18, 3) := by decide +kernel
theorem dX1_setSquare_18 : decode cX1_setSquare 18 = .ok (.iload_n 1, 1) := by decide +kernel
theorem dX1_setSquare_19 : decode cX1_setSquare 19 = .ok (.iload 4, 2) := by decide +kernel
theorem dX1_setSquare_21 : decode cX1_setSquare 21 = .ok (.iastore, 1) := by decide +kernel
theorem dX1_setSquare_22 : decode cX1_setSquare 22 = .ok (.return_, 1) := by decide +kernel
theorem dX1_stuffedSquares_0 : decode cX1_stuffedSquares 0 = .ok (.iconst 0, 1) := by decide +kernel
theorem dX1_stuffedSquares_1 : decode cX1_stuffedSquares 1 = .ok (.istore_n 1, 1) := by decide +kernel
theorem dX1_stuffedSquares_2 : decode cX1_stuffedSquares 2 = .ok (.iconst 0, 1) := by decide +kernel
theorem dX1_stuffedSquares_3 : decode cX1_stuffedSquares 3 = .ok (.istore_n 2, 1) := by decide +kernel
theorem dX1_stuffedSquares_4 : decode cX1_stuffedSquares 4 = .ok (.iload_n 2, 1) := by decide +kernel
theorem dX1_stuffedSquares_5 : decode cX1_stuffedSquares 5 = .ok (.bipush 30, 2) := by decide +kernel
theorem dX1_stuffedSquares_7 : decode cX1_stuffedSquares 7 = .ok (.if_icmp .ge 21, 3) := by decide +kernel
theorem dX1_stuffedSquares_10 : decode cX1_stuffedSquares 10 = .ok (.aload_n 0, 1) := by decide +kernel
theorem dX1_stuffedSquares_11 : decode cX1_stuffedSquares 11 = .ok (.getfield 15, 3) := by decide +kernel
theorem dX1_stuffedSquares_14 : decode cX1_stuffedSquares 14 = .ok (.iload_n 2, 1) := by decide +kernel
theorem dX1_stuffedSquares_15 : decode cX1_stuffedSquares 15 = .ok (.iaload, 1) := by decide +kernel
theorem dX1_stuffedSquares_16 : decode cX1_stuffedSquares 16 = .ok (.ifCond .le 6, 3) := by decide +kernel
theorem dX1_stuffedSquares_19 : decode cX1_stuffedSquares 19 = .ok (.iinc 1 1, 3) := by decide +kernel
theorem dX1_stuffedSquares_22 : decode cX1_stuffedSquares 22 = .ok (.iinc 2 1, 3) := by decide +kernel
theorem dX1_stuffedSquares_25 : decode cX1_stuffedSquares 25 = .ok (.goto (-21), 3) := by decide +kernel
theorem dX1_stuffedSquares_28 : decode cX1_stuffedSquares 28 = .ok (.iload_n 1, 1) := by decide +kernel
theorem dX1_stuffedSquares_29 : decode cX1_stuffedSquares 29 = .ok (.ireturn, 1) := by decide +kernel
theorem dX1_beside_0 : decode cX1_beside 0 = .ok (.iload_n 1, 1) := by decide +kernel
theorem dX1_beside_1 : decode cX1_beside 1 = .ok (.tableswitch 73 0 2 #[27, 42, 58], 27) := by decide +kernel
theorem dX1_beside_28 : decode cX1_beside 28 = .ok (.iload_n 0, 1) := by decide +kernel
theorem dX1_beside_29 : decode cX1_beside 29 = .ok (.bipush 6, 2) := by decide +kernel
theorem dX1_beside_31 : decode cX1_beside 31 = .ok (.if_icmp .lt 10, 3) := by decide +kernel
theorem dX1_beside_34 : decode cX1_beside 34 = .ok (.iload_n 0, 1) := by decide +kernel
theorem dX1_beside_35 : decode cX1_beside 35 = .ok (.bipush 6, 2) := by decide +kernel
theorem dX1_beside_37 : decode cX1_beside 37 = .ok (.isub, 1) := by decide +kernel
theorem dX1_beside_38 : decode cX1_beside 38 = .ok (.goto 4, 3) := by decide +kernel
theorem dX1_beside_41 : decode cX1_beside 41 = .ok (.iconst (-1), 1) := by decide +kernel
theorem dX1_beside_42 : decode cX1_beside 42 = .ok (.ireturn, 1) := by decide +kernel
theorem dX1_beside_43 : decode cX1_beside 43 = .ok (.iload_n 0, 1) := by decide +kernel
theorem dX1_beside_44 : decode cX1_beside 44 = .ok (.bipush 6, 2) := by decide +kernel
theorem dX1_beside_46 : decode cX1_beside 46 = .ok (.irem, 1) := by decide +kernel
theorem dX1_beside_47 : decode cX1_beside 47 = .ok (.iconst 5, 1) := by decide +kernel
theorem dX1_beside_48 : decode cX1_beside 48 = .ok (.if_icmp .ge 9, 3) := by decide +kernel
theorem dX1_beside_51 : decode cX1_beside 51 = .ok (.iload_n 0, 1) := by decide +kernel
theorem dX1_beside_52 : decode cX1_beside 52 = .ok (.iconst 1, 1) := by decide +kernel
theorem dX1_beside_53 : decode cX1_beside 53 = .ok (.iadd, 1) := by decide +kernel
theorem dX1_beside_54 : decode cX1_beside 54 = .ok (.goto 4, 3) := by decide +kernel
theorem dX1_beside_57 : decode cX1_beside 57 = .ok (.iconst (-1), 1) := by decide +kernel
theorem dX1_beside_58 : decode cX1_beside 58 = .ok (.ireturn, 1) := by decide +kernel
theorem dX1_beside_59 : decode cX1_beside 59 = .ok (.iload_n 0, 1) := by decide +kernel
theorem dX1_beside_60 : decode cX1_beside 60 = .ok (.bipush 24, 2) := by decide +kernel
theorem dX1_beside_62 : decode cX1_beside 62 = .ok (.if_icmp .ge 10, 3) := by decide +kernel
theorem dX1_beside_65 : decode cX1_beside 65 = .ok (.iload_n 0, 1) := by decide +kernel
theorem dX1_beside_66 : decode cX1_beside 66 = .ok (.bipush 6, 2) := by decide +kernel
theorem dX1_beside_68 : decode cX1_beside 68 = .ok (.iadd, 1) := by decide +kernel
theorem dX1_beside_69 : decode cX1_beside 69 = .ok (.goto 4, 3) := by decide +kernel
theorem dX1_beside_72 : decode cX1_beside 72 = .ok (.iconst (-1), 1) := by decide +kernel
theorem dX1_beside_73 : decode cX1_beside 73 = .ok (.ireturn, 1) := by decide +kernel
theorem dX1_beside_74 : decode cX1_beside 74 = .ok (.iload_n 0, 1) := by decide +kernel
theorem dX1_beside_75 : decode cX1_beside 75 = .ok (.bipush 6, 2) := by decide +kernel
theorem dX1_beside_77 : decode cX1_beside 77 = .ok (.irem, 1) := by decide +kernel
theorem dX1_beside_78 : decode cX1_beside 78 = .ok (.ifCond .le 9, 3) := by decide +kernel
theorem dX1_beside_81 : decode cX1_beside 81 = .ok (.iload_n 0, 1) := by decide +kernel
theorem dX1_beside_82 : decode cX1_beside 82 = .ok (.iconst 1, 1) := by decide +kernel
theorem dX1_beside_83 : decode cX1_beside 83 = .ok (.isub, 1) := by decide +kernel
theorem dX1_beside_84 : decode cX1_beside 84 = .ok (.goto 4, 3) := by decide +kernel
theorem dX1_beside_87 : decode cX1_beside 87 = .ok (.iconst (-1), 1) := by decide +kernel
theorem dX1_beside_88 : decode cX1_beside 88 = .ok (.ireturn, 1) := by decide +kernel
theorem dX1_isInside_0 : decode cX1_isInside 0 = .ok (.iload_n 0, 1) := by decide +kernel
theorem dX1_isInside_1 : decode cX1_isInside 1 = .ok (.bipush 6, 2) := by decide +kernel
theorem dX1_isInside_3 : decode cX1_isInside 3 = .ok (.irem, 1) := by decide +kernel
theorem dX1_isInside_4 : decode cX1_isInside 4 = .ok (.istore_n 1, 1) := by decide +kernel
theorem dX1_isInside_5 : decode cX1_isInside 5 = .ok (.iload_n 0, 1) := by decide +kernel
theorem dX1_isInside_6 : decode cX1_isInside 6 = .ok (.bipush 6, 2) := by decide +kernel
theorem dX1_isInside_8 : decode cX1_isInside 8 = .ok (.idiv, 1) := by decide +kernel
theorem dX1_isInside_9 : decode cX1_isInside 9 = .ok (.istore_n 2, 1) := by decide +kernel
theorem dX1_isInside_10 : decode cX1_isInside 10 = .ok (.iload_n 1, 1) := by decide +kernel
theorem dX1_isInside_11 : decode cX1_isInside 11 = .ok (.ifCond .le 21, 3) := by decide +kernel
theorem dX1_isInside_14 : decode cX1_isInside 14 = .ok (.iload_n 1, 1) := by decide +kernel
theorem dX1_isInside_15 : decode cX1_isInside 15 = .ok (.iconst 5, 1) := by decide +kernel
theorem dX1_isInside_16 : decode cX1_isInside 16 = .ok (.if_icmp .ge 16, 3) := by decide +kernel
theorem dX1_isInside_19 : decode cX1_isInside 19 = .ok (.iload_n 2, 1) := by decide +kernel
theorem dX1_isInside_20 : decode cX1_isInside 20 = .ok (.ifCond .le 12, 3) := by decide +kernel
theorem dX1_isInside_23 : decode cX1_isInside 23 = .ok (.iload_n 2, 1) := by decide +kernel
theorem dX1_isInside_24 : decode cX1_isInside 24 = .ok (.iconst 4, 1) := by decide +kernel
theorem dX1_isInside_25 : decode cX1_isInside 25 = .ok (.if_icmp .ge 7, 3) := by decide +kernel
theorem dX1_isInside_28 : decode cX1_isInside 28 = .ok (.iconst 1, 1) := by decide +kernel
theorem dX1_isInside_29 : decode cX1_isInside 29 = .ok (.goto 4, 3) := by decide +kernel
theorem dX1_isInside_32 : decode cX1_isInside 32 = .ok (.iconst 0, 1) := by decide +kernel
theorem dX1_isInside_33 : decode cX1_isInside 33 = .ok (.ireturn, 1) := by decide +kernel
theorem dX1_thickBeside_0 : decode cX1_thickBeside 0 = .ok (.iload_n 1, 1) := by decide +kernel
theorem dX1_thickBeside_1 : decode cX1_thickBeside 1 = .ok (.bipush 6, 2) := by decide +kernel
theorem dX1_thickBeside_3 : decode cX1_thickBeside 3 = .ok (.irem, 1) := by decide +kernel
theorem dX1_thickBeside_4 : decode cX1_thickBeside 4 = .ok (.istore_n 2, 1) := by decide +kernel
theorem dX1_thickBeside_5 : decode cX1_thickBeside 5 = .ok (.iload_n 1, 1) := by decide +kernel
theorem dX1_thickBeside_6 : decode cX1_thickBeside 6 = .ok (.bipush 6, 2) := by decide +kernel
theorem dX1_thickBeside_8 : decode cX1_thickBeside 8 = .ok (.if_icmp .lt 15, 3) := by decide +kernel
theorem dX1_thickBeside_11 : decode cX1_thickBeside 11 = .ok (.aload_n 0, 1) := by decide +kernel
theorem dX1_thickBeside_12 : decode cX1_thickBeside 12 = .ok (.getfield 15, 3) := by decide +kernel
theorem dX1_thickBeside_15 : decode cX1_thickBeside 15 = .ok (.iload_n 1, 1) := by decide +kernel
theorem dX1_thickBeside_16 : decode cX1_thickBeside 16 = .ok (.bipush 6, 2) := by decide +kernel
theorem dX1_thickBeside_18 : decode cX1_thickBeside 18 = .ok (.isub, 1) := by decide +kernel
theorem dX1_thickBeside_19 : decode cX1_thickBeside 19 = .ok (.iaload, 1) := by decide +kernel
theorem dX1_thickBeside_20 : decode cX1_thickBeside 20 = .ok (.goto 4, 3) := by decide +kernel
theorem dX1_thickBeside_23 : decode cX1_thickBeside 23 = .ok (.iconst 0, 1) := by decide +kernel
theorem dX1_thickBeside_24 : decode cX1_thickBeside 24 = .ok (.istore_n 3, 1) := by decide +kernel
theorem dX1_thickBeside_25 : decode cX1_thickBeside 25 = .ok (.iload_n 2, 1) := by decide +kernel
theorem dX1_thickBeside_26 : decode cX1_thickBeside 26 = .ok (.iconst 5, 1) := by decide +kernel
theorem dX1_thickBeside_27 : decode cX1_thickBeside 27 = .ok (.if_icmp .ge 14, 3) := by decide +kernel
theorem dX1_thickBeside_30 : decode cX1_thickBeside 30 = .ok (.aload_n 0, 1) := by decide +kernel
theorem dX1_thickBeside_31 : decode cX1_thickBeside 31 = .ok (.getfield 15, 3) := by decide +kernel
theorem dX1_thickBeside_34 : decode cX1_thickBeside 34 = .ok (.iload_n 1, 1) := by decide +kernel
theorem dX1_thickBeside_35 : decode cX1_thickBeside 35 = .ok (.iconst 1, 1) := by decide +kernel
theorem dX1_thickBeside_36 : decode cX1_thickBeside 36 = .ok (.iadd, 1) := by decide +kernel
theorem dX1_thickBeside_37 : decode cX1_thickBeside 37 = .ok (.iaload, 1) := by decide +kernel
theorem dX1_thickBeside_38 : decode cX1_thickBeside 38 = .ok (.goto 4, 3) := by decide +kernel
theorem dX1_thickBeside_41 : decode cX1_thickBeside 41 = .ok (.iconst 0, 1) := by decide +kernel
theorem dX1_thickBeside_42 : decode cX1_thickBeside 42 = .ok (.istore 4, 2) := by decide +kernel
theorem dX1_thickBeside_44 : decode cX1_thickBeside 44 = .ok (.iload_n 1, 1) := by decide +kernel
theorem dX1_thickBeside_45 : decode cX1_thickBeside 45 = .ok (.bipush 24, 2) := by decide +kernel
theorem dX1_thickBeside_47 : decode cX1_thickBeside 47 = .ok (.if_icmp .ge 15, 3) := by decide +kernel
theorem dX1_thickBeside_50 : decode cX1_thickBeside 50 = .ok (.aload_n 0, 1) := by decide +kernel
theorem dX1_thickBeside_51 : decode cX1_thickBeside 51 = .ok (.getfield 15, 3) := by decide +kernel
theorem dX1_thickBeside_54 : decode cX1_thickBeside 54 = .ok (.iload_n 1, 1) := by decide +kernel
theorem dX1_thickBeside_55 : decode cX1_thickBeside 55 = .ok (.bipush 6, 2) := by decide +kernel
theorem dX1_thickBeside_57 : decode cX1_thickBeside 57 = .ok (.iadd, 1) := by decide +kernel
theorem dX1_thickBeside_58 : decode cX1_thickBeside 58 = .ok (.iaload, 1) := by decide +kernel
theorem dX1_thickBeside_59 : decode cX1_thickBeside 59 = .ok (.goto 4, 3) := by decide +kernel
theorem dX1_thickBeside_62 : decode cX1_thickBeside 62 = .ok (.iconst 0, 1) := by decide +kernel
theorem dX1_thickBeside_63 : decode cX1_thickBeside 63 = .ok (.istore 5, 2) := by decide +kernel
theorem dX1_thickBeside_65 : decode cX1_thickBeside 65 = .ok (.iload_n 2, 1) := by decide +kernel
theorem dX1_thickBeside_66 : decode cX1_thickBeside 66 = .ok (.ifCond .le 14, 3) := by decide +kernel
theorem dX1_thickBeside_69 : decode cX1_thickBeside 69 = .ok (.aload_n 0, 1) := by decide +kernel
theorem dX1_thickBeside_70 : decode cX1_thickBeside 70 = .ok (.getfield 15, 3) := by decide +kernel
theorem dX1_thickBeside_73 : decode cX1_thickBeside 73 = .ok (.iload_n 1, 1) := by decide +kernel
theorem dX1_thickBeside_74 : decode cX1_thickBeside 74 = .ok (.iconst 1, 1) := by decide +kernel
theorem dX1_thickBeside_75 : decode cX1_thickBeside 75 = .ok (.isub, 1) := by decide +kernel
theorem dX1_thickBeside_76 : decode cX1_thickBeside 76 = .ok (.iaload, 1) := by decide +kernel
theorem dX1_thickBeside_77 : decode cX1_thickBeside 77 = .ok (.goto 4, 3) := by decide +kernel
theorem dX1_thickBeside_80 : decode cX1_thickBeside 80 = .ok (.iconst 0, 1) := by decide +kernel
theorem dX1_thickBeside_81 : decode cX1_thickBeside 81 = .ok (.istore 6, 2) := by decide +kernel
theorem dX1_thickBeside_83 : decode cX1_thickBeside 83 = .ok (.iload_n 3, 1) := by decide +kernel
theorem dX1_thickBeside_84 : decode cX1_thickBeside 84 = .ok (.iload 4, 2) := by decide +kernel
theorem dX1_thickBeside_86 : decode cX1_thickBeside 86 = .ok (.iadd, 1) := by decide +kernel
theorem dX1_thickBeside_87 : decode cX1_thickBeside 87 = .ok (.iload 5, 2) := by decide +kernel
theorem dX1_thickBeside_89 : decode cX1_thickBeside 89 = .ok (.iadd, 1) := by decide +kernel
theorem dX1_thickBeside_90 : decode cX1_thickBeside 90 = .ok (.iload 6, 2) := by decide +kernel
theorem dX1_thickBeside_92 : decode cX1_thickBeside 92 = .ok (.iadd, 1) := by decide +kernel
theorem dX1_thickBeside_93 : decode cX1_thickBeside 93 = .ok (.ireturn, 1) := by decide +kernel
theorem dX1_passMonth_0 : decode cX1_passMonth 0 = .ok (.aload_n 0, 1) := by decide +kernel
theorem dX1_passMonth_1 : decode cX1_passMonth 1 = .ok (.invokevirtual 34, 3) := by decide +kernel
theorem dX1_passMonth_4 : decode cX1_passMonth 4 = .ok (.aload_n 0, 1) := by decide +kernel
theorem dX1_passMonth_5 : decode cX1_passMonth 5 = .ok (.getfield 21, 3) := by decide +kernel
theorem dX1_passMonth_8 : decode cX1_passMonth 8 = .ok (.iconst 0, 1) := by decide +kernel
theorem dX1_passMonth_9 : decode cX1_passMonth 9 = .ok (.dup2, 1) := by decide +kernel
theorem dX1_passMonth_10 : decode cX1_passMonth 10 = .ok (.iaload, 1) := by decide +kernel
theorem dX1_passMonth_11 : decode cX1_passMonth 11 = .ok (.iconst 1, 1) := by decide +kernel
theorem dX1_passMonth_12 : decode cX1_passMonth 12 = .ok (.iadd, 1) := by decide +kernel
theorem dX1_passMonth_13 : decode cX1_passMonth 13 = .ok (.iastore, 1) := by decide +kernel
theorem dX1_passMonth_14 : decode cX1_passMonth 14 = .ok (.iload_n 1, 1) := by decide +kernel
theorem dX1_passMonth_15 : decode cX1_passMonth 15 = .ok (.ifCond .le 35, 3) := by decide +kernel
theorem dX1_passMonth_18 : decode cX1_passMonth 18 = .ok (.aload_n 0, 1) := by decide +kernel
theorem dX1_passMonth_19 : decode cX1_passMonth 19 = .ok (.getfield 21, 3) := by decide +kernel
theorem dX1_passMonth_22 : decode cX1_passMonth 22 = .ok (.iconst 0, 1) := by decide +kernel
theorem dX1_passMonth_23 : decode cX1_passMonth 23 = .ok (.iaload, 1) := by decide +kernel
theorem dX1_passMonth_24 : decode cX1_passMonth 24 = .ok (.iload_n 1, 1) := by decide +kernel
theorem dX1_passMonth_25 : decode cX1_passMonth 25 = .ok (.irem, 1) := by decide +kernel
theorem dX1_passMonth_26 : decode cX1_passMonth 26 = .ok (.ifCond .ne 24, 3) := by decide +kernel
theorem dX1_passMonth_29 : decode cX1_passMonth 29 = .ok (.aload_n 0, 1) := by decide +kernel
theorem dX1_passMonth_30 : decode cX1_passMonth 30 = .ok (.getfield 9, 3) := by decide +kernel
theorem dX1_passMonth_33 : decode cX1_passMonth 33 = .ok (.invokestatic 37, 3) := by decide +kernel
theorem dX1_passMonth_36 : decode cX1_passMonth 36 = .ok (.aload_n 0, 1) := by decide +kernel
theorem dX1_passMonth_37 : decode cX1_passMonth 37 = .ok (.getfield 15, 3) := by decide +kernel
theorem dX1_passMonth_40 : decode cX1_passMonth 40 = .ok (.invokestatic 37, 3) := by decide +kernel
theorem dX1_passMonth_43 : decode cX1_passMonth 43 = .ok (.aload_n 0, 1) := by decide +kernel
theorem dX1_passMonth_44 : decode cX1_passMonth 44 = .ok (.getfield 18, 3) := by decide +kernel
theorem dX1_passMonth_47 : decode cX1_passMonth 47 = .ok (.invokestatic 37, 3) := by decide +kernel
theorem dX1_passMonth_50 : decode cX1_passMonth 50 = .ok (.aload_n 0, 1) := by decide +kernel
theorem dX1_passMonth_51 : decode cX1_passMonth 51 = .ok (.aload_n 0, 1) := by decide +kernel
theorem dX1_passMonth_52 : decode cX1_passMonth 52 = .ok (.getfield 30, 3) := by decide +kernel
theorem dX1_passMonth_55 : decode cX1_passMonth 55 = .ok (.iconst 1, 1) := by decide +kernel
theorem dX1_passMonth_56 : decode cX1_passMonth 56 = .ok (.iadd, 1) := by decide +kernel
theorem dX1_passMonth_57 : decode cX1_passMonth 57 = .ok (.bipush 12, 2) := by decide +kernel
theorem dX1_passMonth_59 : decode cX1_passMonth 59 = .ok (.irem, 1) := by decide +kernel
theorem dX1_passMonth_60 : decode cX1_passMonth 60 = .ok (.putfield 30, 3) := by decide +kernel
theorem dX1_passMonth_63 : decode cX1_passMonth 63 = .ok (.return_, 1) := by decide +kernel
theorem dX1_wear_0 : decode cX1_wear 0 = .ok (.iconst 0, 1) := by decide +kernel
theorem dX1_wear_1 : decode cX1_wear 1 = .ok (.istore_n 1, 1) := by decide +kernel
theorem dX1_wear_2 : decode cX1_wear 2 = .ok (.iload_n 1, 1) := by decide +kernel
theorem dX1_wear_3 : decode cX1_wear 3 = .ok (.bipush 30, 2) := by decide +kernel
theorem dX1_wear_5 : decode cX1_wear 5 = .ok (.if_icmp .ge 56, 3) := by decide +kernel
theorem dX1_wear_8 : decode cX1_wear 8 = .ok (.aload_n 0, 1) := by decide +kernel
theorem dX1_wear_9 : decode cX1_wear 9 = .ok (.getfield 15, 3) := by decide +kernel
theorem dX1_wear_12 : decode cX1_wear 12 = .ok (.iload_n 1, 1) := by decide +kernel
theorem dX1_wear_13 : decode cX1_wear 13 = .ok (.iaload, 1) := by decide +kernel
theorem dX1_wear_14 : decode cX1_wear 14 = .ok (.ifCond .le 41, 3) := by decide +kernel
theorem dX1_wear_17 : decode cX1_wear 17 = .ok (.aload_n 0, 1) := by decide +kernel
theorem dX1_wear_18 : decode cX1_wear 18 = .ok (.getfield 18, 3) := by decide +kernel
theorem dX1_wear_21 : decode cX1_wear 21 = .ok (.iload_n 1, 1) := by decide +kernel
theorem dX1_wear_22 : decode cX1_wear 22 = .ok (.dup2, 1) := by decide +kernel
theorem dX1_wear_23 : decode cX1_wear 23 = .ok (.iaload, 1) := by decide +kernel
theorem dX1_wear_24 : decode cX1_wear 24 = .ok (.iconst 1, 1) := by decide +kernel
theorem dX1_wear_25 : decode cX1_wear 25 = .ok (.iadd, 1) := by decide +kernel
theorem dX1_wear_26 : decode cX1_wear 26 = .ok (.iastore, 1) := by decide +kernel
theorem dX1_wear_27 : decode cX1_wear 27 = .ok (.aload_n 0, 1) := by decide +kernel
theorem dX1_wear_28 : decode cX1_wear 28 = .ok (.getfield 18, 3) := by decide +kernel
theorem dX1_wear_31 : decode cX1_wear 31 = .ok (.iload_n 1, 1) := by decide +kernel
theorem dX1_wear_32 : decode cX1_wear 32 = .ok (.iaload, 1) := by decide +kernel
theorem dX1_wear_33 : decode cX1_wear 33 = .ok (.bipush 12, 2) := by decide +kernel
theorem dX1_wear_35 : decode cX1_wear 35 = .ok (.if_icmp .lt 20, 3) := by decide +kernel
theorem dX1_wear_38 : decode cX1_wear 38 = .ok (.aload_n 0, 1) := by decide +kernel
theorem dX1_wear_39 : decode cX1_wear 39 = .ok (.getfield 15, 3) := by decide +kernel
theorem dX1_wear_42 : decode cX1_wear 42 = .ok (.iload_n 1, 1) := by decide +kernel
theorem dX1_wear_43 : decode cX1_wear 43 = .ok (.dup2, 1) := by decide +kernel
theorem dX1_wear_44 : decode cX1_wear 44 = .ok (.iaload, 1) := by decide +kernel
theorem dX1_wear_45 : decode cX1_wear 45 = .ok (.iconst 1, 1) := by decide +kernel
theorem dX1_wear_46 : decode cX1_wear 46 = .ok (.isub, 1) := by decide +kernel
theorem dX1_wear_47 : decode cX1_wear 47 = .ok (.iastore, 1) := by decide +kernel
theorem dX1_wear_48 : decode cX1_wear 48 = .ok (.aload_n 0, 1) := by decide +kernel
theorem dX1_wear_49 : decode cX1_wear 49 = .ok (.getfield 18, 3) := by decide +kernel
theorem dX1_wear_52 : decode cX1_wear 52 = .ok (.iload_n 1, 1) := by decide +kernel
theorem dX1_wear_53 : decode cX1_wear 53 = .ok (.iconst 0, 1) := by decide +kernel
theorem dX1_wear_54 : decode cX1_wear 54 = .ok (.iastore, 1) := by decide +kernel
theorem dX1_wear_55 : decode cX1_wear 55 = .ok (.iinc 1 1, 3) := by decide +kernel
theorem dX1_wear_58 : decode cX1_wear 58 = .ok (.goto (-56), 3) := by decide +kernel
theorem dX1_wear_61 : decode cX1_wear 61 = .ok (.return_, 1) := by decide +kernel
theorem dX1_slideDown_0 : decode cX1_slideDown 0 = .ok (.iconst 0, 1) := by decide +kernel
theorem dX1_slideDown_1 : decode cX1_slideDown 1 = .ok (.istore_n 1, 1) := by decide +kernel
theorem dX1_slideDown_2 : decode cX1_slideDown 2 = .ok (.iload_n 1, 1) := by decide +kernel
theorem dX1_slideDown_3 : decode cX1_slideDown 3 = .ok (.bipush 6, 2) := by decide +kernel
theorem dX1_slideDown_5 : decode cX1_slideDown 5 = .ok (.if_icmp .ge 46, 3) := by decide +kernel
theorem dX1_slideDown_8 : decode cX1_slideDown 8 = .ok (.aload_n 0, 1) := by decide +kernel
theorem dX1_slideDown_9 : decode cX1_slideDown 9 = .ok (.bipush 24, 2) := by decide +kernel
theorem dX1_slideDown_11 : decode cX1_slideDown 11 = .ok (.iload_n 1, 1) := by decide +kernel
theorem dX1_slideDown_12 : decode cX1_slideDown 12 = .ok (.iadd, 1) := by decide +kernel
theorem dX1_slideDown_13 : decode cX1_slideDown 13 = .ok (.iaload, 1) := by decide +kernel
theorem dX1_slideDown_14 : decode cX1_slideDown 14 = .ok (.istore_n 2, 1) := by decide +kernel
theorem dX1_slideDown_15 : decode cX1_slideDown 15 = .ok (.bipush 24, 2) := by decide +kernel
theorem dX1_slideDown_17 : decode cX1_slideDown 17 = .ok (.iload_n 1, 1) := by decide +kernel
theorem dX1_slideDown_18 : decode cX1_slideDown 18 = .ok (.iadd, 1) := by decide +kernel
theorem dX1_slideDown_19 : decode cX1_slideDown 19 = .ok (.istore_n 3, 1) := by decide +kernel
theorem dX1_slideDown_20 : decode cX1_slideDown 20 = .ok (.iload_n 3, 1) := by decide +kernel
theorem dX1_slideDown_21 : decode cX1_slideDown 21 = .ok (.bipush 6, 2) := by decide +kernel
theorem dX1_slideDown_23 : decode cX1_slideDown 23 = .ok (.if_icmp .lt 18, 3) := by decide +kernel
theorem dX1_slideDown_26 : decode cX1_slideDown 26 = .ok (.aload_n 0, 1) := by decide +kernel
theorem dX1_slideDown_27 : decode cX1_slideDown 27 = .ok (.iload_n 3, 1) := by decide +kernel
theorem dX1_slideDown_28 : decode cX1_slideDown 28 = .ok (.aload_n 0, 1) := by decide +kernel
theorem dX1_slideDown_29 : decode cX1_slideDown 29 = .ok (.iload_n 3, 1) := by decide +kernel
theorem dX1_slideDown_30 : decode cX1_slideDown 30 = .ok (.bipush 6, 2) := by decide +kernel
theorem dX1_slideDown_32 : decode cX1_slideDown 32 = .ok (.isub, 1) := by decide +kernel
theorem dX1_slideDown_33 : decode cX1_slideDown 33 = .ok (.iaload, 1) := by decide +kernel
theorem dX1_slideDown_34 : decode cX1_slideDown 34 = .ok (.iastore, 1) := by decide +kernel
theorem dX1_slideDown_35 : decode cX1_slideDown 35 = .ok (.iinc 3 (-6), 3) := by decide +kernel
theorem dX1_slideDown_38 : decode cX1_slideDown 38 = .ok (.goto (-18), 3) := by decide +kernel
theorem dX1_slideDown_41 : decode cX1_slideDown 41 = .ok (.aload_n 0, 1) := by decide +kernel
theorem dX1_slideDown_42 : decode cX1_slideDown 42 = .ok (.iload_n 1, 1) := by decide +kernel
theorem dX1_slideDown_43 : decode cX1_slideDown 43 = .ok (.iload_n 2, 1) := by decide +kernel
theorem dX1_slideDown_44 : decode cX1_slideDown 44 = .ok (.iastore, 1) := by decide +kernel
theorem dX1_slideDown_45 : decode cX1_slideDown 45 = .ok (.iinc 1 1, 3) := by decide +kernel
theorem dX1_slideDown_48 : decode cX1_slideDown 48 = .ok (.goto (-46), 3) := by decide +kernel
theorem dX1_slideDown_51 : decode cX1_slideDown 51 = .ok (.return_, 1) := by decide +kernel
theorem dX1_moveRow_0 : decode cX1_moveRow 0 = .ok (.aload_n 0, 1) := by decide +kernel
theorem dX1_moveRow_1 : decode cX1_moveRow 1 = .ok (.getfield 9, 3) := by decide +kernel
theorem dX1_moveRow_4 : decode cX1_moveRow 4 = .ok (.iload_n 1, 1) := by decide +kernel
theorem dX1_moveRow_5 : decode cX1_moveRow 5 = .ok (.bipush 6, 2) := by decide +kernel
theorem dX1_moveRow_7 : decode cX1_moveRow 7 = .ok (.imul, 1) := by decide +kernel
theorem dX1_moveRow_8 : decode cX1_moveRow 8 = .ok (.iload_n 2, 1) := by decide +kernel
theorem dX1_moveRow_9 : decode cX1_moveRow 9 = .ok (.invokestatic 41, 3) := by decide +kernel
theorem dX1_moveRow_12 : decode cX1_moveRow 12 = .ok (.aload_n 0, 1) := by decide +kernel
theorem dX1_moveRow_13 : decode cX1_moveRow 13 = .ok (.getfield 15, 3) := by decide +kernel
theorem dX1_moveRow_16 : decode cX1_moveRow 16 = .ok (.iload_n 1, 1) := by decide +kernel
theorem dX1_moveRow_17 : decode cX1_moveRow 17 = .ok (.bipush 6, 2) := by decide +kernel
theorem dX1_moveRow_19 : decode cX1_moveRow 19 = .ok (.imul, 1) := by decide +kernel
theorem dX1_moveRow_20 : decode cX1_moveRow 20 = .ok (.iload_n 2, 1) := by decide +kernel
theorem dX1_moveRow_21 : decode cX1_moveRow 21 = .ok (.invokestatic 41, 3) := by decide +kernel
theorem dX1_moveRow_24 : decode cX1_moveRow 24 = .ok (.aload_n 0, 1) := by decide +kernel
theorem dX1_moveRow_25 : decode cX1_moveRow 25 = .ok (.getfield 18, 3) := by decide +kernel
theorem dX1_moveRow_28 : decode cX1_moveRow 28 = .ok (.iload_n 1, 1) := by decide +kernel
theorem dX1_moveRow_29 : decode cX1_moveRow 29 = .ok (.bipush 6, 2) := by decide +kernel
theorem dX1_moveRow_31 : decode cX1_moveRow 31 = .ok (.imul, 1) := by decide +kernel
theorem dX1_moveRow_32 : decode cX1_moveRow 32 = .ok (.iload_n 2, 1) := by decide +kernel
theorem dX1_moveRow_33 : decode cX1_moveRow 33 = .ok (.invokestatic 41, 3) := by decide +kernel
theorem dX1_moveRow_36 : decode cX1_moveRow 36 = .ok (.return_, 1) := by decide +kernel
theorem dX1_turn_0 : decode cX1_turn 0 = .ok (.iload_n 1, 1) := by decide +kernel
theorem dX1_turn_1 : decode cX1_turn 1 = .ok (.bipush 6, 2) := by decide +kernel
theorem dX1_turn_3 : decode cX1_turn 3 = .ok (.iadd, 1) := by decide +kernel
theorem dX1_turn_4 : decode cX1_turn 4 = .ok (.iconst 1, 1) := by decide +kernel
theorem dX1_turn_5 : decode cX1_turn 5 = .ok (.isub, 1) := by decide +kernel
theorem dX1_turn_6 : decode cX1_turn 6 = .ok (.istore_n 3, 1) := by decide +kernel
theorem dX1_turn_7 : decode cX1_turn 7 = .ok (.iload_n 2, 1) := by decide +kernel
theorem dX1_turn_8 : decode cX1_turn 8 = .ok (.ifCond .ne 26, 3) := by decide +kernel
theorem dX1_turn_11 : decode cX1_turn 11 = .ok (.aload_n 0, 1) := by decide +kernel
theorem dX1_turn_12 : decode cX1_turn 12 = .ok (.iload_n 3, 1) := by decide +kernel
theorem dX1_turn_13 : decode cX1_turn 13 = .ok (.iaload, 1) := by decide +kernel
theorem dX1_turn_14 : decode cX1_turn 14 = .ok (.istore 4, 2) := by decide +kernel
theorem dX1_turn_16 : decode cX1_turn 16 = .ok (.aload_n 0, 1) := by decide +kernel
theorem dX1_turn_17 : decode cX1_turn 17 = .ok (.iload_n 1, 1) := by decide +kernel
theorem dX1_turn_18 : decode cX1_turn 18 = .ok (.aload_n 0, 1) := by decide +kernel
theorem dX1_turn_19 : decode cX1_turn 19 = .ok (.iload_n 1, 1) := by decide +kernel
theorem dX1_turn_20 : decode cX1_turn 20 = .ok (.iconst 1, 1) := by decide +kernel
theorem dX1_turn_21 : decode cX1_turn 21 = .ok (.iadd, 1) := by decide +kernel
theorem dX1_turn_22 : decode cX1_turn 22 = .ok (.iconst 5, 1) := by decide +kernel
theorem dX1_turn_23 : decode cX1_turn 23 = .ok (.invokestatic 24, 3) := by decide +kernel
theorem dX1_turn_26 : decode cX1_turn 26 = .ok (.aload_n 0, 1) := by decide +kernel
theorem dX1_turn_27 : decode cX1_turn 27 = .ok (.iload_n 1, 1) := by decide +kernel
theorem dX1_turn_28 : decode cX1_turn 28 = .ok (.iload 4, 2) := by decide +kernel
theorem dX1_turn_30 : decode cX1_turn 30 = .ok (.iastore, 1) := by decide +kernel
theorem dX1_turn_31 : decode cX1_turn 31 = .ok (.goto 23, 3) := by decide +kernel
theorem dX1_turn_34 : decode cX1_turn 34 = .ok (.aload_n 0, 1) := by decide +kernel
theorem dX1_turn_35 : decode cX1_turn 35 = .ok (.iload_n 1, 1) := by decide +kernel
theorem dX1_turn_36 : decode cX1_turn 36 = .ok (.iaload, 1) := by decide +kernel
theorem dX1_turn_37 : decode cX1_turn 37 = .ok (.istore 4, 2) := by decide +kernel
theorem dX1_turn_39 : decode cX1_turn 39 = .ok (.aload_n 0, 1) := by decide +kernel
theorem dX1_turn_40 : decode cX1_turn 40 = .ok (.iload_n 1, 1) := by decide +kernel
theorem dX1_turn_41 : decode cX1_turn 41 = .ok (.iconst 1, 1) := by decide +kernel
theorem dX1_turn_42 : decode cX1_turn 42 = .ok (.iadd, 1) := by decide +kernel
theorem dX1_turn_43 : decode cX1_turn 43 = .ok (.aload_n 0, 1) := by decide +kernel
theorem dX1_turn_44 : decode cX1_turn 44 = .ok (.iload_n 1, 1) := by decide +kernel
theorem dX1_turn_45 : decode cX1_turn 45 = .ok (.iconst 5, 1) := by decide +kernel
theorem dX1_turn_46 : decode cX1_turn 46 = .ok (.invokestatic 24, 3) := by decide +kernel
theorem dX1_turn_49 : decode cX1_turn 49 = .ok (.aload_n 0, 1) := by decide +kernel
theorem dX1_turn_50 : decode cX1_turn 50 = .ok (.iload_n 3, 1) := by decide +kernel
theorem dX1_turn_51 : decode cX1_turn 51 = .ok (.iload 4, 2) := by decide +kernel
theorem dX1_turn_53 : decode cX1_turn 53 = .ok (.iastore, 1) := by decide +kernel
theorem dX1_turn_54 : decode cX1_turn 54 = .ok (.return_, 1) := by decide +kernel
theorem dX1_mixAbout_0 : decode cX1_mixAbout 0 = .ok (.iconst 0, 1) := by decide +kernel
theorem dX1_mixAbout_1 : decode cX1_mixAbout 1 = .ok (.istore_n 2, 1) := by decide +kernel
theorem dX1_mixAbout_2 : decode cX1_mixAbout 2 = .ok (.iconst 0, 1) := by decide +kernel
theorem dX1_mixAbout_3 : decode cX1_mixAbout 3 = .ok (.istore_n 3, 1) := by decide +kernel
theorem dX1_mixAbout_4 : decode cX1_mixAbout 4 = .ok (.iload_n 3, 1) := by decide +kernel
theorem dX1_mixAbout_5 : decode cX1_mixAbout 5 = .ok (.bipush 9, 2) := by decide +kernel
theorem dX1_mixAbout_7 : decode cX1_mixAbout 7 = .ok (.if_icmp .ge 22, 3) := by decide +kernel
theorem dX1_mixAbout_10 : decode cX1_mixAbout 10 = .ok (.iload_n 2, 1) := by decide +kernel
theorem dX1_mixAbout_11 : decode cX1_mixAbout 11 = .ok (.aload_n 0, 1) := by decide +kernel
theorem dX1_mixAbout_12 : decode cX1_mixAbout 12 = .ok (.getfield 15, 3) := by decide +kernel
theorem dX1_mixAbout_15 : decode cX1_mixAbout 15 = .ok (.iload_n 1, 1) := by decide +kernel
theorem dX1_mixAbout_16 : decode cX1_mixAbout 16 = .ok (.iload_n 3, 1) := by decide +kernel
theorem dX1_mixAbout_17 : decode cX1_mixAbout 17 = .ok (.invokestatic 45, 3) := by decide +kernel
theorem dX1_mixAbout_20 : decode cX1_mixAbout 20 = .ok (.iaload, 1) := by decide +kernel
theorem dX1_mixAbout_21 : decode cX1_mixAbout 21 = .ok (.iadd, 1) := by decide +kernel
theorem dX1_mixAbout_22 : decode cX1_mixAbout 22 = .ok (.istore_n 2, 1) := by decide +kernel
theorem dX1_mixAbout_23 : decode cX1_mixAbout 23 = .ok (.iinc 3 1, 3) := by decide +kernel
theorem dX1_mixAbout_26 : decode cX1_mixAbout 26 = .ok (.goto (-22), 3) := by decide +kernel
theorem dX1_mixAbout_29 : decode cX1_mixAbout 29 = .ok (.iconst 0, 1) := by decide +kernel
theorem dX1_mixAbout_30 : decode cX1_mixAbout 30 = .ok (.istore_n 3, 1) := by decide +kernel
theorem dX1_mixAbout_31 : decode cX1_mixAbout 31 = .ok (.iload_n 3, 1) := by decide +kernel
theorem dX1_mixAbout_32 : decode cX1_mixAbout 32 = .ok (.bipush 9, 2) := by decide +kernel
theorem dX1_mixAbout_34 : decode cX1_mixAbout 34 = .ok (.if_icmp .ge 23, 3) := by decide +kernel
theorem dX1_mixAbout_37 : decode cX1_mixAbout 37 = .ok (.aload_n 0, 1) := by decide +kernel
theorem dX1_mixAbout_38 : decode cX1_mixAbout 38 = .ok (.getfield 15, 3) := by decide +kernel
theorem dX1_mixAbout_41 : decode cX1_mixAbout 41 = .ok (.iload_n 1, 1) := by decide +kernel
theorem dX1_mixAbout_42 : decode cX1_mixAbout 42 = .ok (.iload_n 3, 1) := by decide +kernel
theorem dX1_mixAbout_43 : decode cX1_mixAbout 43 = .ok (.invokestatic 45, 3) := by decide +kernel
theorem dX1_mixAbout_46 : decode cX1_mixAbout 46 = .ok (.iload_n 2, 1) := by decide +kernel
theorem dX1_mixAbout_47 : decode cX1_mixAbout 47 = .ok (.bipush 9, 2) := by decide +kernel
theorem dX1_mixAbout_49 : decode cX1_mixAbout 49 = .ok (.idiv, 1) := by decide +kernel
theorem dX1_mixAbout_50 : decode cX1_mixAbout 50 = .ok (.iastore, 1) := by decide +kernel
theorem dX1_mixAbout_51 : decode cX1_mixAbout 51 = .ok (.iinc 3 1, 3) := by decide +kernel
theorem dX1_mixAbout_54 : decode cX1_mixAbout 54 = .ok (.goto (-23), 3) := by decide +kernel
theorem dX1_mixAbout_57 : decode cX1_mixAbout 57 = .ok (.aload_n 0, 1) := by decide +kernel
theorem dX1_mixAbout_58 : decode cX1_mixAbout 58 = .ok (.getfield 15, 3) := by decide +kernel
theorem dX1_mixAbout_61 : decode cX1_mixAbout 61 = .ok (.iload_n 1, 1) := by decide +kernel
theorem dX1_mixAbout_62 : decode cX1_mixAbout 62 = .ok (.bipush 9, 2) := by decide +kernel
theorem dX1_mixAbout_64 : decode cX1_mixAbout 64 = .ok (.iload_n 2, 1) := by decide +kernel
theorem dX1_mixAbout_65 : decode cX1_mixAbout 65 = .ok (.bipush 9, 2) := by decide +kernel
theorem dX1_mixAbout_67 : decode cX1_mixAbout 67 = .ok (.idiv, 1) := by decide +kernel
theorem dX1_mixAbout_68 : decode cX1_mixAbout 68 = .ok (.iload_n 2, 1) := by decide +kernel
theorem dX1_mixAbout_69 : decode cX1_mixAbout 69 = .ok (.bipush 9, 2) := by decide +kernel
theorem dX1_mixAbout_71 : decode cX1_mixAbout 71 = .ok (.irem, 1) := by decide +kernel
theorem dX1_mixAbout_72 : decode cX1_mixAbout 72 = .ok (.iadd, 1) := by decide +kernel
theorem dX1_mixAbout_73 : decode cX1_mixAbout 73 = .ok (.invokestatic 49, 3) := by decide +kernel
theorem dX1_mixAbout_76 : decode cX1_mixAbout 76 = .ok (.iastore, 1) := by decide +kernel
theorem dX1_mixAbout_77 : decode cX1_mixAbout 77 = .ok (.return_, 1) := by decide +kernel
theorem dX1_ninth_0 : decode cX1_ninth 0 = .ok (.iload_n 0, 1) := by decide +kernel
theorem dX1_ninth_1 : decode cX1_ninth 1 = .ok (.iload_n 1, 1) := by decide +kernel
theorem dX1_ninth_2 : decode cX1_ninth 2 = .ok (.iconst 3, 1) := by decide +kernel
theorem dX1_ninth_3 : decode cX1_ninth 3 = .ok (.idiv, 1) := by decide +kernel
theorem dX1_ninth_4 : decode cX1_ninth 4 = .ok (.iconst 1, 1) := by decide +kernel
theorem dX1_ninth_5 : decode cX1_ninth 5 = .ok (.isub, 1) := by decide +kernel
theorem dX1_ninth_6 : decode cX1_ninth 6 = .ok (.bipush 6, 2) := by decide +kernel
theorem dX1_ninth_8 : decode cX1_ninth 8 = .ok (.imul, 1) := by decide +kernel
theorem dX1_ninth_9 : decode cX1_ninth 9 = .ok (.iadd, 1) := by decide +kernel
theorem dX1_ninth_10 : decode cX1_ninth 10 = .ok (.iload_n 1, 1) := by decide +kernel
theorem dX1_ninth_11 : decode cX1_ninth 11 = .ok (.iconst 3, 1) := by decide +kernel
theorem dX1_ninth_12 : decode cX1_ninth 12 = .ok (.irem, 1) := by decide +kernel
theorem dX1_ninth_13 : decode cX1_ninth 13 = .ok (.iadd, 1) := by decide +kernel
theorem dX1_ninth_14 : decode cX1_ninth 14 = .ok (.iconst 1, 1) := by decide +kernel
theorem dX1_ninth_15 : decode cX1_ninth 15 = .ok (.isub, 1) := by decide +kernel
theorem dX1_ninth_16 : decode cX1_ninth 16 = .ok (.ireturn, 1) := by decide +kernel
theorem dX2_init_0 : decode cX2_init 0 = .ok (.aload_n 0, 1) := by decide +kernel
theorem dX2_init_1 : decode cX2_init 1 = .ok (.invokespecial 3, 3) := by decide +kernel
theorem dX2_init_4 : decode cX2_init 4 = .ok (.aload_n 0, 1) := by decide +kernel
theorem dX2_init_5 : decode cX2_init 5 = .ok (.bipush 120, 2) := by decide +kernel
theorem dX2_init_7 : decode cX2_init 7 = .ok (.newarray .int, 2) := by decide +kernel
theorem dX2_init_9 : decode cX2_init 9 = .ok (.putfield 9, 3) := by decide +kernel
theorem dX2_init_12 : decode cX2_init 12 = .ok (.aload_n 0, 1) := by decide +kernel
theorem dX2_init_13 : decode cX2_init 13 = .ok (.bipush 120, 2) := by decide +kernel
theorem dX2_init_15 : decode cX2_init 15 = .ok (.newarray .int, 2) := by decide +kernel
theorem dX2_init_17 : decode cX2_init 17 = .ok (.putfield 15, 3) := by decide +kernel
theorem dX2_init_20 : decode cX2_init 20 = .ok (.aload_n 0, 1) := by decide +kernel
theorem dX2_init_21 : decode cX2_init 21 = .ok (.bipush 120, 2) := by decide +kernel
theorem dX2_init_23 : decode cX2_init 23 = .ok (.newarray .int, 2) := by decide +kernel
theorem dX2_init_25 : decode cX2_init 25 = .ok (.putfield 18, 3) := by decide +kernel
theorem dX2_init_28 : decode cX2_init 28 = .ok (.aload_n 0, 1) := by decide +kernel
theorem dX2_init_29 : decode cX2_init 29 = .ok (.bipush 120, 2) := by decide +kernel
theorem dX2_init_31 : decode cX2_init 31 = .ok (.newarray .boolean, 2) := by decide +kernel
theorem dX2_init_33 : decode cX2_init 33 = .ok (.putfield 21, 3) := by decide +kernel
theorem dX2_init_36 : decode cX2_init 36 = .ok (.aload_n 0, 1) := by decide +kernel
theorem dX2_init_37 : decode cX2_init 37 = .ok (.bipush 120, 2) := by decide +kernel
theorem dX2_init_39 : decode cX2_init 39 = .ok (.newarray .int, 2) := by decide +kernel
theorem dX2_init_41 : decode cX2_init 41 = .ok (.putfield 25, 3) := by decide +kernel
theorem dX2_init_44 : decode cX2_init 44 = .ok (.aload_n 0, 1) := by decide +kernel
theorem dX2_init_45 : decode cX2_init 45 = .ok (.bipush 6, 2) := by decide +kernel
theorem dX2_init_47 : decode cX2_init 47 = .ok (.newarray .int, 2) := by decide +kernel
theorem dX2_init_49 : decode cX2_init 49 = .ok (.putfield 28, 3) := by decide +kernel
theorem dX2_init_52 : decode cX2_init 52 = .ok (.return_, 1) := by decide +kernel
theorem dX2_clear_0 : decode cX2_clear 0 = .ok (.aload_n 0, 1) := by decide +kernel
theorem dX2_clear_1 : decode cX2_clear 1 = .ok (.iconst 0, 1) := by decide +kernel
theorem dX2_clear_2 : decode cX2_clear 2 = .ok (.putfield 31, 3) := by decide +kernel
theorem dX2_clear_5 : decode cX2_clear 5 = .ok (.aload_n 0, 1) := by decide +kernel
theorem dX2_clear_6 : decode cX2_clear 6 = .ok (.iconst 0, 1) := by decide +kernel
theorem dX2_clear_7 : decode cX2_clear 7 = .ok (.putfield 35, 3) := by decide +kernel
theorem dX2_clear_10 : decode cX2_clear 10 = .ok (.return_, 1) := by decide +kernel
theorem dX2_addSign_0 : decode cX2_addSign 0 = .ok (.aload_n 0, 1) := by decide +kernel
theorem dX2_addSign_1 : decode cX2_addSign 1 = .ok (.getfield 31, 3) := by decide +kernel
theorem dX2_addSign_4 : decode cX2_addSign 4 = .ok (.bipush 120, 2) := by decide +kernel
theorem dX2_addSign_6 : decode cX2_addSign 6 = .ok (.if_icmp .ge 33, 3) := by decide +kernel
theorem dX2_addSign_9 : decode cX2_addSign 9 = .ok (.aload_n 0, 1) := by decide +kernel
theorem dX2_addSign_10 : decode cX2_addSign 10 = .ok (.getfield 9, 3) := by decide +kernel
theorem dX2_addSign_13 : decode cX2_addSign 13 = .ok (.aload_n 0, 1) := by decide +kernel
theorem dX2_addSign_14 : decode cX2_addSign 14 = .ok (.getfield 31, 3) := by decide +kernel
theorem dX2_addSign_17 : decode cX2_addSign 17 = .ok (.iload_n 1, 1) := by decide +kernel
theorem dX2_addSign_18 : decode cX2_addSign 18 = .ok (.iastore, 1) := by decide +kernel
theorem dX2_addSign_19 : decode cX2_addSign 19 = .ok (.aload_n 0, 1) := by decide +kernel
theorem dX2_addSign_20 : decode cX2_addSign 20 = .ok (.getfield 15, 3) := by decide +kernel
theorem dX2_addSign_23 : decode cX2_addSign 23 = .ok (.aload_n 0, 1) := by decide +kernel
theorem dX2_addSign_24 : decode cX2_addSign 24 = .ok (.getfield 31, 3) := by decide +kernel
theorem dX2_addSign_27 : decode cX2_addSign 27 = .ok (.iload_n 2, 1) := by decide +kernel
theorem dX2_addSign_28 : decode cX2_addSign 28 = .ok (.iastore, 1) := by decide +kernel
theorem dX2_addSign_29 : decode cX2_addSign 29 = .ok (.aload_n 0, 1) := by decide +kernel
theorem dX2_addSign_30 : decode cX2_addSign 30 = .ok (.dup, 1) := by decide +kernel
theorem dX2_addSign_31 : decode cX2_addSign 31 = .ok (.getfield 31, 3) := by decide +kernel
theorem dX2_addSign_34 : decode cX2_addSign 34 = .ok (.iconst 1, 1) := by decide +kernel
theorem dX2_addSign_35 : decode cX2_addSign 35 = .ok (.iadd, 1) := by decide +kernel
theorem dX2_addSign_36 : decode cX2_addSign 36 = .ok (.putfield 31, 3) := by decide +kernel
theorem dX2_addSign_39 : decode cX2_addSign 39 = .ok (.return_, 1) := by decide +kernel
theorem dX2_endPart_0 : decode cX2_endPart 0 = .ok (.aload_n 0, 1) := by decide +kernel
theorem dX2_endPart_1 : decode cX2_endPart 1 = .ok (.getfield 35, 3) := by decide +kernel
theorem dX2_endPart_4 : decode cX2_endPart 4 = .ok (.bipush 120, 2) := by decide +kernel
theorem dX2_endPart_6 : decode cX2_endPart 6 = .ok (.if_icmp .ge 36, 3) := by decide +kernel
theorem dX2_endPart_9 : decode cX2_endPart 9 = .ok (.aload_n 0, 1) := by decide +kernel
theorem dX2_endPart_10 : decode cX2_endPart 10 = .ok (.getfield 18, 3) := by decide +kernel
theorem dX2_endPart_13 : decode cX2_endPart 13 = .ok (.aload_n 0, 1) := by decide +kernel
theorem dX2_endPart_14 : decode cX2_endPart 14 = .ok (.getfield 35, 3) := by decide +kernel
theorem dX2_endPart_17 : decode cX2_endPart 17 = .ok (.aload_n 0, 1) := by decide +kernel
theorem dX2_endPart_18 : decode cX2_endPart 18 = .ok (.getfield 31, 3) := by decide +kernel
theorem dX2_endPart_21 : decode cX2_endPart 21 = .ok (.iastore, 1) := by decide +kernel
theorem dX2_endPart_22 : decode cX2_endPart 22 = .ok (.aload_n 0, 1) := by decide +kernel
theorem dX2_endPart_23 : decode cX2_endPart 23 = .ok (.getfield 21, 3) := by decide +kernel
theorem dX2_endPart_26 : decode cX2_endPart 26 = .ok (.aload_n 0, 1) := by decide +kernel
theorem dX2_endPart_27 : decode cX2_endPart 27 = .ok (.getfield 35, 3) := by decide +kernel
theorem dX2_endPart_30 : decode cX2_endPart 30 = .ok (.iload_n 1, 1) := by decide +kernel
theorem dX2_endPart_31 : decode cX2_endPart 31 = .ok (.bastore, 1) := by decide +kernel
theorem dX2_endPart_32 : decode cX2_endPart 32 = .ok (.aload_n 0, 1) := by decide +kernel
theorem dX2_endPart_33 : decode cX2_endPart 33 = .ok (.dup, 1) := by decide +kernel
theorem dX2_endPart_34 : decode cX2_endPart 34 = .ok (.getfield 35, 3) := by decide +kernel
theorem dX2_endPart_37 : decode cX2_endPart 37 = .ok (.iconst 1, 1) := by decide +kernel
theorem dX2_endPart_38 : decode cX2_endPart 38 = .ok (.iadd, 1) := by decide +kernel
theorem dX2_endPart_39 : decode cX2_endPart 39 = .ok (.putfield 35, 3) := by decide +kernel
theorem dX2_endPart_42 : decode cX2_endPart 42 = .ok (.return_, 1) := by decide +kernel
theorem dX2_warmth_0 : decode cX2_warmth 0 = .ok (.iconst 0, 1) := by decide +kernel
theorem dX2_warmth_1 : decode cX2_warmth 1 = .ok (.istore_n 3, 1) := by decide +kernel
theorem dX2_warmth_2 : decode cX2_warmth 2 = .ok (.aload_n 0, 1) := by decide +kernel
theorem dX2_warmth_3 : decode cX2_warmth 3 = .ok (.getfield 35, 3) := by decide +kernel
theorem dX2_warmth_6 : decode cX2_warmth 6 = .ok (.ifCond .ne 35, 3) := by decide +kernel
theorem dX2_warmth_9 : decode cX2_warmth 9 = .ok (.aload_n 1, 1) := by decide +kernel
theorem dX2_warmth_10 : decode cX2_warmth 10 = .ok (.getfield 38, 3) := by decide +kernel
theorem dX2_warmth_13 : decode cX2_warmth 13 = .ok (.iload_n 2, 1) := by decide +kernel
theorem dX2_warmth_14 : decode cX2_warmth 14 = .ok (.iaload, 1) := by decide +kernel
theorem dX2_warmth_15 : decode cX2_warmth 15 = .ok (.aload_n 1, 1) := by decide +kernel
theorem dX2_warmth_16 : decode cX2_warmth 16 = .ok (.getfield 43, 3) := by decide +kernel
theorem dX2_warmth_19 : decode cX2_warmth 19 = .ok (.iload_n 2, 1) := by decide +kernel
theorem dX2_warmth_20 : decode cX2_warmth 20 = .ok (.iaload, 1) := by decide +kernel
theorem dX2_warmth_21 : decode cX2_warmth 21 = .ok (.imul, 1) := by decide +kernel
theorem dX2_warmth_22 : decode cX2_warmth 22 = .ok (.aload_n 1, 1) := by decide +kernel
theorem dX2_warmth_23 : decode cX2_warmth 23 = .ok (.iload_n 2, 1) := by decide +kernel
theorem dX2_warmth_24 : decode cX2_warmth 24 = .ok (.invokevirtual 46, 3) := by decide +kernel
theorem dX2_warmth_27 : decode cX2_warmth 27 = .ok (.iconst 4, 1) := by decide +kernel
theorem dX2_warmth_28 : decode cX2_warmth 28 = .ok (.idiv, 1) := by decide +kernel
theorem dX2_warmth_29 : decode cX2_warmth 29 = .ok (.iadd, 1) := by decide +kernel
theorem dX2_warmth_30 : decode cX2_warmth 30 = .ok (.aload_n 1, 1) := by decide +kernel
theorem dX2_warmth_31 : decode cX2_warmth 31 = .ok (.getfield 50, 3) := by decide +kernel
theorem dX2_warmth_34 : decode cX2_warmth 34 = .ok (.iload_n 2, 1) := by decide +kernel
theorem dX2_warmth_35 : decode cX2_warmth 35 = .ok (.iaload, 1) := by decide +kernel
theorem dX2_warmth_36 : decode cX2_warmth 36 = .ok (.isub, 1) := by decide +kernel
theorem dX2_warmth_37 : decode cX2_warmth 37 = .ok (.istore_n 3, 1) := by decide +kernel
theorem dX2_warmth_38 : decode cX2_warmth 38 = .ok (.goto 9, 3) := by decide +kernel
theorem dX2_warmth_41 : decode cX2_warmth 41 = .ok (.aload_n 0, 1) := by decide +kernel
theorem dX2_warmth_42 : decode cX2_warmth 42 = .ok (.aload_n 1, 1) := by decide +kernel
theorem dX2_warmth_43 : decode cX2_warmth 43 = .ok (.iload_n 2, 1) := by decide +kernel
theorem dX2_warmth_44 : decode cX2_warmth 44 = .ok (.invokevirtual 53, 3) := by decide +kernel
theorem dX2_warmth_47 : decode cX2_warmth 47 = .ok (.iconst 0, 1) := by decide +kernel
theorem dX2_warmth_48 : decode cX2_warmth 48 = .ok (.istore 4, 2) := by decide +kernel
theorem dX2_warmth_50 : decode cX2_warmth 50 = .ok (.iload 4, 2) := by decide +kernel
theorem dX2_warmth_52 : decode cX2_warmth 52 = .ok (.aload_n 0, 1) := by decide +kernel
theorem dX2_warmth_53 : decode cX2_warmth 53 = .ok (.getfield 35, 3) := by decide +kernel
theorem dX2_warmth_56 : decode cX2_warmth 56 = .ok (.if_icmp .ge 36, 3) := by decide +kernel
theorem dX2_warmth_59 : decode cX2_warmth 59 = .ok (.aload_n 0, 1) := by decide +kernel
theorem dX2_warmth_60 : decode cX2_warmth 60 = .ok (.iload 4, 2) := by decide +kernel
theorem dX2_warmth_62 : decode cX2_warmth 62 = .ok (.invokevirtual 57, 3) := by decide +kernel
theorem dX2_warmth_65 : decode cX2_warmth 65 = .ok (.istore_n 3, 1) := by decide +kernel
theorem dX2_warmth_66 : decode cX2_warmth 66 = .ok (.aload_n 0, 1) := by decide +kernel
theorem dX2_warmth_67 : decode cX2_warmth 67 = .ok (.getfield 21, 3) := by decide +kernel
theorem dX2_warmth_70 : decode cX2_warmth 70 = .ok (.iload 4, 2) := by decide +kernel
theorem dX2_warmth_72 : decode cX2_warmth 72 = .ok (.baload, 1) := by decide +kernel
theorem dX2_warmth_73 : decode cX2_warmth 73 = .ok (.ifCond .ne 6, 3) := by decide +kernel
theorem dX2_warmth_76 : decode cX2_warmth 76 = .ok (.goto 16, 3) := by decide +kernel
theorem dX2_warmth_79 : decode cX2_warmth 79 = .ok (.iload_n 3, 1) := by decide +kernel
theorem dX2_warmth_80 : decode cX2_warmth 80 = .ok (.ifCond .ne 6, 3) := by decide +kernel
theorem dX2_warmth_83 : decode cX2_warmth 83 = .ok (.iinc 4 1, 3) := by decide +kernel
theorem dX2_warmth_86 : decode cX2_warmth 86 = .ok (.iinc 4 1, 3) := by decide +kernel
theorem dX2_warmth_89 : decode cX2_warmth 89 = .ok (.goto (-39), 3) := by decide +kernel
theorem dX2_warmth_92 : decode cX2_warmth 92 = .ok (.iconst 0, 1) := by decide +kernel
theorem dX2_warmth_93 : decode cX2_warmth 93 = .ok (.bipush 99, 2) := by decide +kernel
theorem dX2_warmth_95 : decode cX2_warmth 95 = .ok (.iload_n 3, 1) := by decide +kernel
theorem dX2_warmth_96 : decode cX2_warmth 96 = .ok (.invokestatic 60, 3) := by decide +kernel
theorem dX2_warmth_99 : decode cX2_warmth 99 = .ok (.invokestatic 66, 3) := by decide +kernel
theorem dX2_warmth_102 : decode cX2_warmth 102 = .ok (.ireturn, 1) := by decide +kernel
theorem dX2_lookAt_0 : decode cX2_lookAt 0 = .ok (.aload_n 0, 1) := by decide +kernel
theorem dX2_lookAt_1 : decode cX2_lookAt 1 = .ok (.getfield 28, 3) := by decide +kernel
theorem dX2_lookAt_4 : decode cX2_lookAt 4 = .ok (.iconst 0, 1) := by decide +kernel
theorem dX2_lookAt_5 : decode cX2_lookAt 5 = .ok (.aload_n 1, 1) := by decide +kernel
theorem dX2_lookAt_6 : decode cX2_lookAt 6 = .ok (.getfield 38, 3) := by decide +kernel
theorem dX2_lookAt_9 : decode cX2_lookAt 9 = .ok (.iload_n 2, 1) := by decide +kernel
theorem dX2_lookAt_10 : decode cX2_lookAt 10 = .ok (.iaload, 1) := by decide +kernel
theorem dX2_lookAt_11 : decode cX2_lookAt 11 = .ok (.iastore, 1) := by decide +kernel
theorem dX2_lookAt_12 : decode cX2_lookAt 12 = .ok (.aload_n 0, 1) := by decide +kernel
theorem dX2_lookAt_13 : decode cX2_lookAt 13 = .ok (.getfield 28, 3) := by decide +kernel
theorem dX2_lookAt_16 : decode cX2_lookAt 16 = .ok (.iconst 1, 1) := by decide +kernel
theorem dX2_lookAt_17 : decode cX2_lookAt 17 = .ok (.aload_n 1, 1) := by decide +kernel
theorem dX2_lookAt_18 : decode cX2_lookAt 18 = .ok (.getfield 43, 3) := by decide +kernel
theorem dX2_lookAt_21 : decode cX2_lookAt 21 = .ok (.iload_n 2, 1) := by decide +kernel
theorem dX2_lookAt_22 : decode cX2_lookAt 22 = .ok (.iaload, 1) := by decide +kernel
theorem dX2_lookAt_23 : decode cX2_lookAt 23 = .ok (.iastore, 1) := by decide +kernel
theorem dX2_lookAt_24 : decode cX2_lookAt 24 = .ok (.aload_n 0, 1) := by decide +kernel
theorem dX2_lookAt_25 : decode cX2_lookAt 25 = .ok (.getfield 28, 3) := by decide +kernel
theorem dX2_lookAt_28 : decode cX2_lookAt 28 = .ok (.iconst 2, 1) := by decide +kernel
theorem dX2_lookAt_29 : decode cX2_lookAt 29 = .ok (.aload_n 1, 1) := by decide +kernel
theorem dX2_lookAt_30 : decode cX2_lookAt 30 = .ok (.getfield 50, 3) := by decide +kernel
theorem dX2_lookAt_33 : decode cX2_lookAt 33 = .ok (.iload_n 2, 1) := by decide +kernel
theorem dX2_lookAt_34 : decode cX2_lookAt 34 = .ok (.iaload, 1) := by decide +kernel
theorem dX2_lookAt_35 : decode cX2_lookAt 35 = .ok (.iastore, 1) := by decide +kernel
theorem dX2_lookAt_36 : decode cX2_lookAt 36 = .ok (.aload_n 0, 1) := by decide +kernel
theorem dX2_lookAt_37 : decode cX2_lookAt 37 = .ok (.getfield 28, 3) := by decide +kernel
theorem dX2_lookAt_40 : decode cX2_lookAt 40 = .ok (.iconst 3, 1) := by decide +kernel
theorem dX2_lookAt_41 : decode cX2_lookAt 41 = .ok (.aload_n 1, 1) := by decide +kernel
theorem dX2_lookAt_42 : decode cX2_lookAt 42 = .ok (.getfield 69, 3) := by decide +kernel
theorem dX2_lookAt_45 : decode cX2_lookAt 45 = .ok (.iastore, 1) := by decide +kernel
theorem dX2_lookAt_46 : decode cX2_lookAt 46 = .ok (.aload_n 0, 1) := by decide +kernel
theorem dX2_lookAt_47 : decode cX2_lookAt 47 = .ok (.getfield 28, 3) := by decide +kernel
theorem dX2_lookAt_50 : decode cX2_lookAt 50 = .ok (.iconst 4, 1) := by decide +kernel
theorem dX2_lookAt_51 : decode cX2_lookAt 51 = .ok (.aload_n 1, 1) := by decide +kernel
theorem dX2_lookAt_52 : decode cX2_lookAt 52 = .ok (.iload_n 2, 1) := by decide +kernel
theorem dX2_lookAt_53 : decode cX2_lookAt 53 = .ok (.invokevirtual 46, 3) := by decide +kernel
theorem dX2_lookAt_56 : decode cX2_lookAt 56 = .ok (.iastore, 1) := by decide +kernel
theorem dX2_lookAt_57 : decode cX2_lookAt 57 = .ok (.aload_n 0, 1) := by decide +kernel
theorem dX2_lookAt_58 : decode cX2_lookAt 58 = .ok (.getfield 28, 3) := by decide +kernel
theorem dX2_lookAt_61 : decode cX2_lookAt 61 = .ok (.iconst 5, 1) := by decide +kernel
theorem dX2_lookAt_62 : decode cX2_lookAt 62 = .ok (.iload_n 2, 1) := by decide +kernel
theorem dX2_lookAt_63 : decode cX2_lookAt 63 = .ok (.bipush 6, 2) := by decide +kernel
theorem dX2_lookAt_65 : decode cX2_lookAt 65 = .ok (.idiv, 1) := by decide +kernel
theorem dX2_lookAt_66 : decode cX2_lookAt 66 = .ok (.iastore, 1) := by decide +kernel
theorem dX2_lookAt_67 : decode cX2_lookAt 67 = .ok (.return_, 1) := by decide +kernel
theorem dX2_valueOfPart_0 : decode cX2_valueOfPart 0 = .ok (.iconst 0, 1) := by decide +kernel
theorem dX2_valueOfPart_1 : decode cX2_valueOfPart 1 = .ok (.istore_n 2, 1) := by decide +kernel
theorem dX2_valueOfPart_2 : decode cX2_valueOfPart 2 = .ok (.iload_n 1, 1) := by decide +kernel
theorem dX2_valueOfPart_3 : decode cX2_valueOfPart 3 = .ok (.ifCond .ne 7, 3) := by decide +kernel
theorem dX2_valueOfPart_6 : decode cX2_valueOfPart 6 = .ok (.iconst 0, 1) := by decide +kernel
theorem dX2_valueOfPart_7 : decode cX2_valueOfPart 7 = .ok (.goto 11, 3) := by decide +kernel
theorem dX2_valueOfPart_10 : decode cX2_valueOfPart 10 = .ok (.aload_n 0, 1) := by decide +kernel
theorem dX2_valueOfPart_11 : decode cX2_valueOfPart 11 = .ok (.getfield 18, 3) := by decide +kernel
theorem dX2_valueOfPart_14 : decode cX2_valueOfPart 14 = .ok (.iload_n 1, 1) := by decide +kernel
theorem dX2_valueOfPart_15 : decode cX2_valueOfPart 15 = .ok (.iconst 1, 1) := by decide +kernel
theorem dX2_valueOfPart_16 : decode cX2_valueOfPart 16 = .ok (.isub, 1) := by decide +kernel
theorem dX2_valueOfPart_17 : decode cX2_valueOfPart 17 = .ok (.iaload, 1) := by decide +kernel
theorem dX2_valueOfPart_18 : decode cX2_valueOfPart 18 = .ok (.istore_n 3, 1) := by decide +kernel
theorem dX2_valueOfPart_19 : decode cX2_valueOfPart 19 = .ok (.iload_n 3, 1) := by decide +kernel
theorem dX2_valueOfPart_20 : decode cX2_valueOfPart 20 = .ok (.aload_n 0, 1) := by decide +kernel
theorem dX2_valueOfPart_21 : decode cX2_valueOfPart 21 = .ok (.getfield 18, 3) := by decide +kernel
theorem dX2_valueOfPart_24 : decode cX2_valueOfPart 24 = .ok (.iload_n 1, 1) := by decide +kernel
theorem dX2_valueOfPart_25 : decode cX2_valueOfPart 25 = .ok (.iaload, 1) := by decide +kernel
theorem dX2_valueOfPart_26 : decode cX2_valueOfPart 26 = .ok (.if_icmp .ge 175, 3) := by decide +kernel
theorem dX2_valueOfPart_29 : decode cX2_valueOfPart 29 = .ok (.aload_n 0, 1) := by decide +kernel
theorem dX2_valueOfPart_30 : decode cX2_valueOfPart 30 = .ok (.getfield 9, 3) := by decide +kernel
theorem dX2_valueOfPart_33 : decode cX2_valueOfPart 33 = .ok (.iload_n 3, 1) := by decide +kernel
theorem dX2_valueOfPart_34 : decode cX2_valueOfPart 34 = .ok (.iaload, 1) := by decide +kernel
theorem dX2_valueOfPart_35 : decode cX2_valueOfPart 35 = .ok (.istore 4, 2) := by decide +kernel
theorem dX2_valueOfPart_37 : decode cX2_valueOfPart 37 = .ok (.iload 4, 2) := by decide +kernel
theorem dX2_valueOfPart_39 : decode cX2_valueOfPart 39 = .ok (.bipush 48, 2) := by decide +kernel
theorem dX2_valueOfPart_41 : decode cX2_valueOfPart 41 = .ok (.if_icmp .eq 10, 3) := by decide +kernel
theorem dX2_valueOfPart_44 : decode cX2_valueOfPart 44 = .ok (.iload 4, 2) := by decide +kernel
theorem dX2_valueOfPart_46 : decode cX2_valueOfPart 46 = .ok (.bipush 97, 2) := by decide +kernel
theorem dX2_valueOfPart_48 : decode cX2_valueOfPart 48 = .ok (.if_icmp .ne 48, 3) := by decide +kernel
theorem dX2_valueOfPart_51 : decode cX2_valueOfPart 51 = .ok (.iload_n 2, 1) := by decide +kernel
theorem dX2_valueOfPart_52 : decode cX2_valueOfPart 52 = .ok (.bipush 120, 2) := by decide +kernel
theorem dX2_valueOfPart_54 : decode cX2_valueOfPart 54 = .ok (.if_icmp .ge 141, 3) := by decide +kernel
theorem dX2_valueOfPart_57 : decode cX2_valueOfPart 57 = .ok (.aload_n 0, 1) := by decide +kernel
theorem dX2_valueOfPart_58 : decode cX2_valueOfPart 58 = .ok (.getfield 25, 3) := by decide +kernel
theorem dX2_valueOfPart_61 : decode cX2_valueOfPart 61 = .ok (.iload_n 2, 1) := by decide +kernel
theorem dX2_valueOfPart_62 : decode cX2_valueOfPart 62 = .ok (.iload 4, 2) := by decide +kernel
theorem dX2_valueOfPart_64 : decode cX2_valueOfPart 64 = .ok (.bipush 48, 2) := by decide +kernel
theorem dX2_valueOfPart_66 : decode cX2_valueOfPart 66 = .ok (.if_icmp .ne 12, 3) := by decide +kernel
theorem dX2_valueOfPart_69 : decode cX2_valueOfPart 69 = .ok (.aload_n 0, 1) := by decide +kernel
theorem dX2_valueOfPart_70 : decode cX2_valueOfPart 70 = .ok (.getfield 15, 3) := by decide +kernel
theorem dX2_valueOfPart_73 : decode cX2_valueOfPart 73 = .ok (.iload_n 3, 1) := by decide +kernel
theorem dX2_valueOfPart_74 : decode cX2_valueOfPart 74 = .ok (.iaload, 1) := by decide +kernel
theorem dX2_valueOfPart_75 : decode cX2_valueOfPart 75 = .ok (.goto 14, 3) := by decide +kernel
theorem dX2_valueOfPart_78 : decode cX2_valueOfPart 78 = .ok (.aload_n 0, 1) := by decide +kernel
theorem dX2_valueOfPart_79 : decode cX2_valueOfPart 79 = .ok (.getfield 28, 3) := by decide +kernel
theorem dX2_valueOfPart_82 : decode cX2_valueOfPart 82 = .ok (.aload_n 0, 1) := by decide +kernel
theorem dX2_valueOfPart_83 : decode cX2_valueOfPart 83 = .ok (.getfield 15, 3) := by decide +kernel
theorem dX2_valueOfPart_86 : decode cX2_valueOfPart 86 = .ok (.iload_n 3, 1) := by decide +kernel
theorem dX2_valueOfPart_87 : decode cX2_valueOfPart 87 = .ok (.iaload, 1) := by decide +kernel
theorem dX2_valueOfPart_88 : decode cX2_valueOfPart 88 = .ok (.iaload, 1) := by decide +kernel
theorem dX2_valueOfPart_89 : decode cX2_valueOfPart 89 = .ok (.iastore, 1) := by decide +kernel
theorem dX2_valueOfPart_90 : decode cX2_valueOfPart 90 = .ok (.iinc 2 1, 3) := by decide +kernel
theorem dX2_valueOfPart_93 : decode cX2_valueOfPart 93 = .ok (.goto 102, 3) := by decide +kernel
theorem dX2_valueOfPart_96 : decode cX2_valueOfPart 96 = .ok (.iload 4, 2) := by decide +kernel
theorem dX2_valueOfPart_98 : decode cX2_valueOfPart 98 = .ok (.bipush 33, 2) := by decide +kernel
theorem dX2_valueOfPart_100 : decode cX2_valueOfPart 100 = .ok (.if_icmp .eq 10, 3) := by decide +kernel
theorem dX2_valueOfPart_103 : decode cX2_valueOfPart 103 = .ok (.iload 4, 2) := by decide +kernel
theorem dX2_valueOfPart_105 : decode cX2_valueOfPart 105 = .ok (.bipush 126, 2) := by decide +kernel
theorem dX2_valueOfPart_107 : decode cX2_valueOfPart 107 = .ok (.if_icmp .ne 53, 3) := by decide +kernel
theorem dX2_valueOfPart_110 : decode cX2_valueOfPart 110 = .ok (.iload_n 2, 1) := by decide +kernel
theorem dX2_valueOfPart_111 : decode cX2_valueOfPart 111 = .ok (.ifCond .le 84, 3) := by decide +kernel
theorem dX2_valueOfPart_114 : decode cX2_valueOfPart 114 = .ok (.aload_n 0, 1) := by decide +kernel
theorem dX2_valueOfPart_115 : decode cX2_valueOfPart 115 = .ok (.getfield 25, 3) := by decide +kernel
theorem dX2_valueOfPart_118 : decode cX2_valueOfPart 118 = .ok (.iload_n 2, 1) := by decide +kernel
theorem dX2_valueOfPart_119 : decode cX2_valueOfPart 119 = .ok (.iconst 1, 1) := by decide +kernel
theorem dX2_valueOfPart_120 : decode cX2_valueOfPart 120 = .ok (.isub, 1) := by decide +kernel
theorem dX2_valueOfPart_121 : decode cX2_valueOfPart 121 = .ok (.iload 4, 2) := by decide +kernel
theorem dX2_valueOfPart_123 : decode cX2_valueOfPart 123 = .ok (.bipush 33, 2) := by decide +kernel
theorem dX2_valueOfPart_125 : decode cX2_valueOfPart 125 = .ok (.if_icmp .eq 15, 3) := by decide +kernel
theorem dX2_valueOfPart_128 : decode cX2_valueOfPart 128 = .ok (.aload_n 0, 1) := by decide +kernel
theorem dX2_valueOfPart_129 : decode cX2_valueOfPart 129 = .ok (.getfield 25, 3) := by decide +kernel
theorem dX2_valueOfPart_132 : decode cX2_valueOfPart 132 = .ok (.iload_n 2, 1) := by decide +kernel
theorem dX2_valueOfPart_133 : decode cX2_valueOfPart 133 = .ok (.iconst 1, 1) := by decide +kernel
theorem dX2_valueOfPart_134 : decode cX2_valueOfPart 134 = .ok (.isub, 1) := by decide +kernel
theorem dX2_valueOfPart_135 : decode cX2_valueOfPart 135 = .ok (.iaload, 1) := by decide +kernel
theorem dX2_valueOfPart_136 : decode cX2_valueOfPart 136 = .ok (.ineg, 1) := by decide +kernel
theorem dX2_valueOfPart_137 : decode cX2_valueOfPart 137 = .ok (.goto 19, 3) := by decide +kernel
theorem dX2_valueOfPart_140 : decode cX2_valueOfPart 140 = .ok (.aload_n 0, 1) := by decide +kernel
theorem dX2_valueOfPart_141 : decode cX2_valueOfPart 141 = .ok (.getfield 25, 3) := by decide +kernel
theorem dX2_valueOfPart_144 : decode cX2_valueOfPart 144 = .ok (.iload_n 2, 1) := by decide +kernel
theorem dX2_valueOfPart_145 : decode cX2_valueOfPart 145 = .ok (.iconst 1, 1) := by decide +kernel
theorem dX2_valueOfPart_146 : decode cX2_valueOfPart 146 = .ok (.isub, 1) := by decide +kernel
theorem dX2_valueOfPart_147 : decode cX2_valueOfPart 147 = .ok (.iaload, 1) := by decide +kernel
theorem dX2_valueOfPart_148 : decode cX2_valueOfPart 148 = .ok (.ifCond .ne 7, 3) := by decide +kernel
theorem dX2_valueOfPart_151 : decode cX2_valueOfPart 151 = .ok (.iconst 1, 1) := by decide +kernel
theorem dX2_valueOfPart_152 : decode cX2_valueOfPart 152 = .ok (.goto 4, 3) := by decide +kernel
theorem dX2_valueOfPart_155 : decode cX2_valueOfPart 155 = .ok (.iconst 0, 1) := by decide +kernel
theorem dX2_valueOfPart_156 : decode cX2_valueOfPart 156 = .ok (.iastore, 1) := by decide +kernel
theorem dX2_valueOfPart_157 : decode cX2_valueOfPart 157 = .ok (.goto 38, 3) := by decide +kernel
theorem dX2_valueOfPart_160 : decode cX2_valueOfPart 160 = .ok (.iload_n 2, 1) := by decide +kernel
theorem dX2_valueOfPart_161 : decode cX2_valueOfPart 161 = .ok (.iconst 1, 1) := by decide +kernel
theorem dX2_valueOfPart_162 : decode cX2_valueOfPart 162 = .ok (.if_icmp .le 33, 3) := by decide +kernel
theorem dX2_valueOfPart_165 : decode cX2_valueOfPart 165 = .ok (.iinc 2 (-1), 3) := by decide +kernel
theorem dX2_valueOfPart_168 : decode cX2_valueOfPart 168 = .ok (.aload_n 0, 1) := by decide +kernel
theorem dX2_valueOfPart_169 : decode cX2_valueOfPart 169 = .ok (.getfield 25, 3) := by decide +kernel
theorem dX2_valueOfPart_172 : decode cX2_valueOfPart 172 = .ok (.iload_n 2, 1) := by decide +kernel
theorem dX2_valueOfPart_173 : decode cX2_valueOfPart 173 = .ok (.iconst 1, 1) := by decide +kernel
theorem dX2_valueOfPart_174 : decode cX2_valueOfPart 174 = .ok (.isub, 1) := by decide +kernel
theorem dX2_valueOfPart_175 : decode cX2_valueOfPart 175 = .ok (.iload 4, 2) := by decide +kernel
theorem dX2_valueOfPart_177 : decode cX2_valueOfPart 177 = .ok (.aload_n 0, 1) := by decide +kernel
theorem dX2_valueOfPart_178 : decode cX2_valueOfPart 178 = .ok (.getfield 25, 3) := by decide +kernel
theorem dX2_valueOfPart_181 : decode cX2_valueOfPart 181 = .ok (.iload_n 2, 1) := by decide +kernel
theorem dX2_valueOfPart_182 : decode cX2_valueOfPart 182 = .ok (.iconst 1, 1) := by decide +kernel
theorem dX2_valueOfPart_183 : decode cX2_valueOfPart 183 = .ok (.isub, 1) := by decide +kernel
theorem dX2_valueOfPart_184 : decode cX2_valueOfPart 184 = .ok (.iaload, 1) := by decide +kernel
theorem dX2_valueOfPart_185 : decode cX2_valueOfPart 185 = .ok (.aload_n 0, 1) := by decide +kernel
theorem dX2_valueOfPart_186 : decode cX2_valueOfPart 186 = .ok (.getfield 25, 3) := by decide +kernel
theorem dX2_valueOfPart_189 : decode cX2_valueOfPart 189 = .ok (.iload_n 2, 1) := by decide +kernel
theorem dX2_valueOfPart_190 : decode cX2_valueOfPart 190 = .ok (.iaload, 1) := by decide +kernel
theorem dX2_valueOfPart_191 : decode cX2_valueOfPart 191 = .ok (.invokestatic 72, 3) := by decide +kernel
theorem dX2_valueOfPart_194 : decode cX2_valueOfPart 194 = .ok (.iastore, 1) := by decide +kernel
theorem dX2_valueOfPart_195 : decode cX2_valueOfPart 195 = .ok (.iinc 3 1, 3) := by decide +kernel
theorem dX2_valueOfPart_198 : decode cX2_valueOfPart 198 = .ok (.goto (-179), 3) := by decide +kernel
theorem dX2_valueOfPart_201 : decode cX2_valueOfPart 201 = .ok (.iload_n 2, 1) := by decide +kernel
theorem dX2_valueOfPart_202 : decode cX2_valueOfPart 202 = .ok (.ifCond .le 12, 3) := by decide +kernel
theorem dX2_valueOfPart_205 : decode cX2_valueOfPart 205 = .ok (.aload_n 0, 1) := by decide +kernel
theorem dX2_valueOfPart_206 : decode cX2_valueOfPart 206 = .ok (.getfield 25, 3) := by decide +kernel
theorem dX2_valueOfPart_209 : decode cX2_valueOfPart 209 = .ok (.iconst 0, 1) := by decide +kernel
theorem dX2_valueOfPart_210 : decode cX2_valueOfPart 210 = .ok (.iaload, 1) := by decide +kernel
theorem dX2_valueOfPart_211 : decode cX2_valueOfPart 211 = .ok (.goto 4, 3) := by decide +kernel
theorem dX2_valueOfPart_214 : decode cX2_valueOfPart 214 = .ok (.iconst 0, 1) := by decide +kernel
theorem dX2_valueOfPart_215 : decode cX2_valueOfPart 215 = .ok (.ireturn, 1) := by decide +kernel
theorem dX2_nameOf_0 : decode cX2_nameOf 0 = .ok (.iload_n 0, 1) := by decide +kernel
theorem dX2_nameOf_1 : decode cX2_nameOf 1 = .ok (.tableswitch 79 109 121 #[73, 75, 79, 79, 79, 79, 67, 69, 79, 79, 71, 79, 77], 67) := by decide +kernel
theorem dX2_nameOf_68 : decode cX2_nameOf 68 = .ok (.iconst 0, 1) := by decide +kernel
theorem dX2_nameOf_69 : decode cX2_nameOf 69 = .ok (.ireturn, 1) := by decide +kernel
theorem dX2_nameOf_70 : decode cX2_nameOf 70 = .ok (.iconst 1, 1) := by decide +kernel
theorem dX2_nameOf_71 : decode cX2_nameOf 71 = .ok (.ireturn, 1) := by decide +kernel
theorem dX2_nameOf_72 : decode cX2_nameOf 72 = .ok (.iconst 2, 1) := by decide +kernel
theorem dX2_nameOf_73 : decode cX2_nameOf 73 = .ok (.ireturn, 1) := by decide +kernel
theorem dX2_nameOf_74 : decode cX2_nameOf 74 = .ok (.iconst 3, 1) := by decide +kernel
theorem dX2_nameOf_75 : decode cX2_nameOf 75 = .ok (.ireturn, 1) := by decide +kernel
theorem dX2_nameOf_76 : decode cX2_nameOf 76 = .ok (.iconst 4, 1) := by decide +kernel
theorem dX2_nameOf_77 : decode cX2_nameOf 77 = .ok (.ireturn, 1) := by decide +kernel
theorem dX2_nameOf_78 : decode cX2_nameOf 78 = .ok (.iconst 5, 1) := by decide +kernel
theorem dX2_nameOf_79 : decode cX2_nameOf 79 = .ok (.ireturn, 1) := by decide +kernel
theorem dX2_nameOf_80 : decode cX2_nameOf 80 = .ok (.iconst (-1), 1) := by decide +kernel
theorem dX2_nameOf_81 : decode cX2_nameOf 81 = .ok (.ireturn, 1) := by decide +kernel
theorem dX2_joined_0 : decode cX2_joined 0 = .ok (.iload_n 0, 1) := by decide +kernel
theorem dX2_joined_1 : decode cX2_joined 1 = .ok (.lookupswitch 168 #[(38, 97), (42, 152), (43, 144), (45, 148), (47, 156), (60, 111), (61, 122), (62, 133), (124, 83)], 83) := by decide +kernel
theorem dX2_joined_84 : decode cX2_joined 84 = .ok (.iload_n 1, 1) := by decide +kernel
theorem dX2_joined_85 : decode cX2_joined 85 = .ok (.ifCond .ne 7, 3) := by decide +kernel
theorem dX2_joined_88 : decode cX2_joined 88 = .ok (.iload_n 2, 1) := by decide +kernel
theorem dX2_joined_89 : decode cX2_joined 89 = .ok (.ifCond .eq 7, 3) := by decide +kernel
theorem dX2_joined_92 : decode cX2_joined 92 = .ok (.iconst 1, 1) := by decide +kernel
theorem dX2_joined_93 : decode cX2_joined 93 = .ok (.goto 4, 3) := by decide +kernel
theorem dX2_joined_96 : decode cX2_joined 96 = .ok (.iconst 0, 1) := by decide +kernel
theorem dX2_joined_97 : decode cX2_joined 97 = .ok (.ireturn, 1) := by decide +kernel
theorem dX2_joined_98 : decode cX2_joined 98 = .ok (.iload_n 1, 1) := by decide +kernel
theorem dX2_joined_99 : decode cX2_joined 99 = .ok (.ifCond .eq 11, 3) := by decide +kernel
theorem dX2_joined_102 : decode cX2_joined 102 = .ok (.iload_n 2, 1) := by decide +kernel
theorem dX2_joined_103 : decode cX2_joined 103 = .ok (.ifCond .eq 7, 3) := by decide +kernel
theorem dX2_joined_106 : decode cX2_joined 106 = .ok (.iconst 1, 1) := by decide +kernel
theorem dX2_joined_107 : decode cX2_joined 107 = .ok (.goto 4, 3) := by decide +kernel
theorem dX2_joined_110 : decode cX2_joined 110 = .ok (.iconst 0, 1) := by decide +kernel
theorem dX2_joined_111 : decode cX2_joined 111 = .ok (.ireturn, 1) := by decide +kernel
theorem dX2_joined_112 : decode cX2_joined 112 = .ok (.iload_n 1, 1) := by decide +kernel
theorem dX2_joined_113 : decode cX2_joined 113 = .ok (.iload_n 2, 1) := by decide +kernel
theorem dX2_joined_114 : decode cX2_joined 114 = .ok (.if_icmp .ge 7, 3) := by decide +kernel
theorem dX2_joined_117 : decode cX2_joined 117 = .ok (.iconst 1, 1) := by decide +kernel
theorem dX2_joined_118 : decode cX2_joined 118 = .ok (.goto 4, 3) := by decide +kernel
theorem dX2_joined_121 : decode cX2_joined 121 = .ok (.iconst 0, 1) := by decide +kernel
theorem dX2_joined_122 : decode cX2_joined 122 = .ok (.ireturn, 1) := by decide +kernel
theorem dX2_joined_123 : decode cX2_joined 123 = .ok (.iload_n 1, 1) := by decide +kernel
theorem dX2_joined_124 : decode cX2_joined 124 = .ok (.iload_n 2, 1) := by decide +kernel
theorem dX2_joined_125 : decode cX2_joined 125 = .ok (.if_icmp .ne 7, 3) := by decide +kernel
theorem dX2_joined_128 : decode cX2_joined 128 = .ok (.iconst 1, 1) := by decide +kernel
theorem dX2_joined_129 : decode cX2_joined 129 = .ok (.goto 4, 3) := by decide +kernel
theorem dX2_joined_132 : decode cX2_joined 132 = .ok (.iconst 0, 1) := by decide +kernel
theorem dX2_joined_133 : decode cX2_joined 133 = .ok (.ireturn, 1) := by decide +kernel
theorem dX2_joined_134 : decode cX2_joined 134 = .ok (.iload_n 1, 1) := by decide +kernel
theorem dX2_joined_135 : decode cX2_joined 135 = .ok (.iload_n 2, 1) := by decide +kernel
theorem dX2_joined_136 : decode cX2_joined 136 = .ok (.if_icmp .le 7, 3) := by decide +kernel
theorem dX2_joined_139 : decode cX2_joined 139 = .ok (.iconst 1, 1) := by decide +kernel
theorem dX2_joined_140 : decode cX2_joined 140 = .ok (.goto 4, 3) := by decide +kernel
theorem dX2_joined_143 : decode cX2_joined 143 = .ok (.iconst 0, 1) := by decide +kernel
theorem dX2_joined_144 : decode cX2_joined 144 = .ok (.ireturn, 1) := by decide +kernel
theorem dX2_joined_145 : decode cX2_joined 145 = .ok (.iload_n 1, 1) := by decide +kernel
theorem dX2_joined_146 : decode cX2_joined 146 = .ok (.iload_n 2, 1) := by decide +kernel
theorem dX2_joined_147 : decode cX2_joined 147 = .ok (.iadd, 1) := by decide +kernel
theorem dX2_joined_148 : decode cX2_joined 148 = .ok (.ireturn, 1) := by decide +kernel
theorem dX2_joined_149 : decode cX2_joined 149 = .ok (.iload_n 1, 1) := by decide +kernel
theorem dX2_joined_150 : decode cX2_joined 150 = .ok (.iload_n 2, 1) := by decide +kernel
theorem dX2_joined_151 : decode cX2_joined 151 = .ok (.isub, 1) := by decide +kernel
theorem dX2_joined_152 : decode cX2_joined 152 = .ok (.ireturn, 1) := by decide +kernel
theorem dX2_joined_153 : decode cX2_joined 153 = .ok (.iload_n 1, 1) := by decide +kernel
theorem dX2_joined_154 : decode cX2_joined 154 = .ok (.iload_n 2, 1) := by decide +kernel
theorem dX2_joined_155 : decode cX2_joined 155 = .ok (.imul, 1) := by decide +kernel
theorem dX2_joined_156 : decode cX2_joined 156 = .ok (.ireturn, 1) := by decide +kernel
theorem dX2_joined_157 : decode cX2_joined 157 = .ok (.iload_n 2, 1) := by decide +kernel
theorem dX2_joined_158 : decode cX2_joined 158 = .ok (.ifCond .ne 7, 3) := by decide +kernel
theorem dX2_joined_161 : decode cX2_joined 161 = .ok (.iconst 0, 1) := by decide +kernel
theorem dX2_joined_162 : decode cX2_joined 162 = .ok (.goto 6, 3) := by decide +kernel
theorem dX2_joined_165 : decode cX2_joined 165 = .ok (.iload_n 1, 1) := by decide +kernel
theorem dX2_joined_166 : decode cX2_joined 166 = .ok (.iload_n 2, 1) := by decide +kernel
theorem dX2_joined_167 : decode cX2_joined 167 = .ok (.idiv, 1) := by decide +kernel
theorem dX2_joined_168 : decode cX2_joined 168 = .ok (.ireturn, 1) := by decide +kernel
theorem dX2_joined_169 : decode cX2_joined 169 = .ok (.iload_n 2, 1) := by decide +kernel
theorem dX2_joined_170 : decode cX2_joined 170 = .ok (.ifCond .ne 7, 3) := by decide +kernel
theorem dX2_joined_173 : decode cX2_joined 173 = .ok (.iconst 0, 1) := by decide +kernel
theorem dX2_joined_174 : decode cX2_joined 174 = .ok (.goto 6, 3) := by decide +kernel
theorem dX2_joined_177 : decode cX2_joined 177 = .ok (.iload_n 1, 1) := by decide +kernel
theorem dX2_joined_178 : decode cX2_joined 178 = .ok (.iload_n 2, 1) := by decide +kernel
theorem dX2_joined_179 : decode cX2_joined 179 = .ok (.irem, 1) := by decide +kernel
theorem dX2_joined_180 : decode cX2_joined 180 = .ok (.ireturn, 1) := by decide +kernel
theorem dX3_init_0 : decode cX3_init 0 = .ok (.aload_n 0, 1) := by decide +kernel
theorem dX3_init_1 : decode cX3_init 1 = .ok (.invokespecial 3, 3) := by decide +kernel
theorem dX3_init_4 : decode cX3_init 4 = .ok (.aload_n 0, 1) := by decide +kernel
theorem dX3_init_5 : decode cX3_init 5 = .ok (.bipush 60, 2) := by decide +kernel
theorem dX3_init_7 : decode cX3_init 7 = .ok (.newarray .long, 2) := by decide +kernel
theorem dX3_init_9 : decode cX3_init 9 = .ok (.putfield 9, 3) := by decide +kernel
theorem dX3_init_12 : decode cX3_init 12 = .ok (.aload_n 0, 1) := by decide +kernel
theorem dX3_init_13 : decode cX3_init 13 = .ok (.bipush (-2), 2) := by decide +kernel
theorem dX3_init_15 : decode cX3_init 15 = .ok (.putfield 15, 3) := by decide +kernel
theorem dX3_init_18 : decode cX3_init 18 = .ok (.return_, 1) := by decide +kernel
theorem dX3_holdStitch_0 : decode cX3_holdStitch 0 = .ok (.aload_n 0, 1) := by decide +kernel
theorem dX3_holdStitch_1 : decode cX3_holdStitch 1 = .ok (.iload_n 1, 1) := by decide +kernel
theorem dX3_holdStitch_2 : decode cX3_holdStitch 2 = .ok (.ifCond .ge 8, 3) := by decide +kernel
theorem dX3_holdStitch_5 : decode cX3_holdStitch 5 = .ok (.bipush (-2), 2) := by decide +kernel
theorem dX3_holdStitch_7 : decode cX3_holdStitch 7 = .ok (.goto 4, 3) := by decide +kernel
theorem dX3_holdStitch_10 : decode cX3_holdStitch 10 = .ok (.iconst (-1), 1) := by decide +kernel
theorem dX3_holdStitch_11 : decode cX3_holdStitch 11 = .ok (.putfield 15, 3) := by decide +kernel
theorem dX3_holdStitch_14 : decode cX3_holdStitch 14 = .ok (.aload_n 0, 1) := by decide +kernel
theorem dX3_holdStitch_15 : decode cX3_holdStitch 15 = .ok (.iload_n 1, 1) := by decide +kernel
theorem dX3_holdStitch_16 : decode cX3_holdStitch 16 = .ok (.putfield 19, 3) := by decide +kernel
theorem dX3_holdStitch_19 : decode cX3_holdStitch 19 = .ok (.aload_n 0, 1) := by decide +kernel
theorem dX3_holdStitch_20 : decode cX3_holdStitch 20 = .ok (.iconst 0, 1) := by decide +kernel
theorem dX3_holdStitch_21 : decode cX3_holdStitch 21 = .ok (.putfield 22, 3) := by decide +kernel
theorem dX3_holdStitch_24 : decode cX3_holdStitch 24 = .ok (.return_, 1) := by decide +kernel
theorem dX3_holdRow_0 : decode cX3_holdRow 0 = .ok (.aload_n 0, 1) := by decide +kernel
theorem dX3_holdRow_1 : decode cX3_holdRow 1 = .ok (.iload_n 1, 1) := by decide +kernel
theorem dX3_holdRow_2 : decode cX3_holdRow 2 = .ok (.putfield 15, 3) := by decide +kernel
theorem dX3_holdRow_5 : decode cX3_holdRow 5 = .ok (.aload_n 0, 1) := by decide +kernel
theorem dX3_holdRow_6 : decode cX3_holdRow 6 = .ok (.iload_n 2, 1) := by decide +kernel
theorem dX3_holdRow_7 : decode cX3_holdRow 7 = .ok (.putfield 22, 3) := by decide +kernel
theorem dX3_holdRow_10 : decode cX3_holdRow 10 = .ok (.iconst 0, 1) := by decide +kernel
theorem dX3_holdRow_11 : decode cX3_holdRow 11 = .ok (.istore_n 3, 1) := by decide +kernel
theorem dX3_holdRow_12 : decode cX3_holdRow 12 = .ok (.iload_n 3, 1) := by decide +kernel
theorem dX3_holdRow_13 : decode cX3_holdRow 13 = .ok (.iload_n 2, 1) := by decide +kernel
theorem dX3_holdRow_14 : decode cX3_holdRow 14 = .ok (.if_icmp .ge 22, 3) := by decide +kernel
theorem dX3_holdRow_17 : decode cX3_holdRow 17 = .ok (.iload_n 3, 1) := by decide +kernel
theorem dX3_holdRow_18 : decode cX3_holdRow 18 = .ok (.bipush 60, 2) := by decide +kernel
theorem dX3_holdRow_20 : decode cX3_holdRow 20 = .ok (.if_icmp .ge 16, 3) := by decide +kernel
theorem dX3_holdRow_23 : decode cX3_holdRow 23 = .ok (.aload_n 0, 1) := by decide +kernel
theorem dX3_holdRow_24 : decode cX3_holdRow 24 = .ok (.getfield 9, 3) := by decide +kernel
theorem dX3_holdRow_27 : decode cX3_holdRow 27 = .ok (.iload_n 3, 1) := by decide +kernel
theorem dX3_holdRow_28 : decode cX3_holdRow 28 = .ok (.lconst 0, 1) := by decide +kernel
theorem dX3_holdRow_29 : decode cX3_holdRow 29 = .ok (.lastore, 1) := by decide +kernel
theorem dX3_holdRow_30 : decode cX3_holdRow 30 = .ok (.iinc 3 1, 3) := by decide +kernel
theorem dX3_holdRow_33 : decode cX3_holdRow 33 = .ok (.goto (-21), 3) := by decide +kernel
theorem dX3_holdRow_36 : decode cX3_holdRow 36 = .ok (.return_, 1) := by decide +kernel
theorem dX3_isRow_0 : decode cX3_isRow 0 = .ok (.aload_n 0, 1) := by decide +kernel
theorem dX3_isRow_1 : decode cX3_isRow 1 = .ok (.getfield 15, 3) := by decide +kernel
theorem dX3_isRow_4 : decode cX3_isRow 4 = .ok (.ifCond .lt 7, 3) := by decide +kernel
theorem dX3_isRow_7 : decode cX3_isRow 7 = .ok (.iconst 1, 1) := by decide +kernel
theorem dX3_isRow_8 : decode cX3_isRow 8 = .ok (.goto 4, 3) := by decide +kernel
theorem dX3_isRow_11 : decode cX3_isRow 11 = .ok (.iconst 0, 1) := by decide +kernel
theorem dX3_isRow_12 : decode cX3_isRow 12 = .ok (.ireturn, 1) := by decide +kernel
theorem dX3_hasPlaces_0 : decode cX3_hasPlaces 0 = .ok (.iload_n 1, 1) := by decide +kernel
theorem dX3_hasPlaces_1 : decode cX3_hasPlaces 1 = .ok (.ifCond .lt 29, 3) := by decide +kernel
theorem dX3_hasPlaces_4 : decode cX3_hasPlaces 4 = .ok (.iload_n 2, 1) := by decide +kernel
theorem dX3_hasPlaces_5 : decode cX3_hasPlaces 5 = .ok (.ifCond .lt 25, 3) := by decide +kernel
theorem dX3_hasPlaces_8 : decode cX3_hasPlaces 8 = .ok (.iload_n 2, 1) := by decide +kernel
theorem dX3_hasPlaces_9 : decode cX3_hasPlaces 9 = .ok (.aload_n 0, 1) := by decide +kernel
theorem dX3_hasPlaces_10 : decode cX3_hasPlaces 10 = .ok (.getfield 22, 3) := by decide +kernel
theorem dX3_hasPlaces_13 : decode cX3_hasPlaces 13 = .ok (.if_icmp .gt 17, 3) := by decide +kernel
theorem dX3_hasPlaces_16 : decode cX3_hasPlaces 16 = .ok (.iload_n 1, 1) := by decide +kernel
theorem dX3_hasPlaces_17 : decode cX3_hasPlaces 17 = .ok (.aload_n 0, 1) := by decide +kernel
theorem dX3_hasPlaces_18 : decode cX3_hasPlaces 18 = .ok (.getfield 22, 3) := by decide +kernel
theorem dX3_hasPlaces_21 : decode cX3_hasPlaces 21 = .ok (.iload_n 2, 1) := by decide +kernel
theorem dX3_hasPlaces_22 : decode cX3_hasPlaces 22 = .ok (.isub, 1) := by decide +kernel
theorem dX3_hasPlaces_23 : decode cX3_hasPlaces 23 = .ok (.if_icmp .gt 7, 3) := by decide +kernel
theorem dX3_hasPlaces_26 : decode cX3_hasPlaces 26 = .ok (.iconst 1, 1) := by decide +kernel
theorem dX3_hasPlaces_27 : decode cX3_hasPlaces 27 = .ok (.goto 4, 3) := by decide +kernel
theorem dX3_hasPlaces_30 : decode cX3_hasPlaces 30 = .ok (.iconst 0, 1) := by decide +kernel
theorem dX3_hasPlaces_31 : decode cX3_hasPlaces 31 = .ok (.ireturn, 1) := by decide +kernel
theorem dX3_lowestBits_0 : decode cX3_lowestBits 0 = .ok (.iload_n 0, 1) := by decide +kernel
theorem dX3_lowestBits_1 : decode cX3_lowestBits 1 = .ok (.tableswitch 47 0 3 #[31, 36, 41, 45], 31) := by decide +kernel
theorem dX3_lowestBits_32 : decode cX3_lowestBits 32 = .ok (.lload_n 1, 1) := by decide +kernel
theorem dX3_lowestBits_33 : decode cX3_lowestBits 33 = .ok (.l2i, 1) := by decide +kernel
theorem dX3_lowestBits_34 : decode cX3_lowestBits 34 = .ok (.i2b, 1) := by decide +kernel
theorem dX3_lowestBits_35 : decode cX3_lowestBits 35 = .ok (.i2l, 1) := by decide +kernel
theorem dX3_lowestBits_36 : decode cX3_lowestBits 36 = .ok (.lreturn, 1) := by decide +kernel
theorem dX3_lowestBits_37 : decode cX3_lowestBits 37 = .ok (.lload_n 1, 1) := by decide +kernel
theorem dX3_lowestBits_38 : decode cX3_lowestBits 38 = .ok (.l2i, 1) := by decide +kernel
theorem dX3_lowestBits_39 : decode cX3_lowestBits 39 = .ok (.i2s, 1) := by decide +kernel
theorem dX3_lowestBits_40 : decode cX3_lowestBits 40 = .ok (.i2l, 1) := by decide +kernel
theorem dX3_lowestBits_41 : decode cX3_lowestBits 41 = .ok (.lreturn, 1) := by decide +kernel
theorem dX3_lowestBits_42 : decode cX3_lowestBits 42 = .ok (.lload_n 1, 1) := by decide +kernel
theorem dX3_lowestBits_43 : decode cX3_lowestBits 43 = .ok (.l2i, 1) := by decide +kernel
theorem dX3_lowestBits_44 : decode cX3_lowestBits 44 = .ok (.i2l, 1) := by decide +kernel
theorem dX3_lowestBits_45 : decode cX3_lowestBits 45 = .ok (.lreturn, 1) := by decide +kernel
theorem dX3_lowestBits_46 : decode cX3_lowestBits 46 = .ok (.lload_n 1, 1) := by decide +kernel
theorem dX3_lowestBits_47 : decode cX3_lowestBits 47 = .ok (.lreturn, 1) := by decide +kernel
theorem dX3_lowestBits_48 : decode cX3_lowestBits 48 = .ok (.lload_n 1, 1) := by decide +kernel
theorem dX3_lowestBits_49 : decode cX3_lowestBits 49 = .ok (.lconst 0, 1) := by decide +kernel
theorem dX3_lowestBits_50 : decode cX3_lowestBits 50 = .ok (.lcmp, 1) := by decide +kernel
theorem dX3_lowestBits_51 : decode cX3_lowestBits 51 = .ok (.ifCond .eq 7, 3) := by decide +kernel
theorem dX3_lowestBits_54 : decode cX3_lowestBits 54 = .ok (.lconst 1, 1) := by decide +kernel
theorem dX3_lowestBits_55 : decode cX3_lowestBits 55 = .ok (.goto 4, 3) := by decide +kernel
theorem dX3_lowestBits_58 : decode cX3_lowestBits 58 = .ok (.lconst 0, 1) := by decide +kernel
theorem dX3_lowestBits_59 : decode cX3_lowestBits 59 = .ok (.lreturn, 1) := by decide +kernel
theorem dX4_init_0 : decode cX4_init 0 = .ok (.aload_n 0, 1) := by decide +kernel
theorem dX4_init_1 : decode cX4_init 1 = .ok (.invokespecial 3, 3) := by decide +kernel
theorem dX4_init_4 : decode cX4_init 4 = .ok (.aload_n 0, 1) := by decide +kernel
theorem dX4_init_5 : decode cX4_init 5 = .ok (.new 9, 3) := by decide +kernel
theorem dX4_init_8 : decode cX4_init 8 = .ok (.dup, 1) := by decide +kernel
theorem dX4_init_9 : decode cX4_init 9 = .ok (.invokespecial 11, 3) := by decide +kernel
theorem dX4_init_12 : decode cX4_init 12 = .ok (.putfield 12, 3) := by decide +kernel
theorem dX4_init_15 : decode cX4_init 15 = .ok (.aload_n 0, 1) := by decide +kernel
theorem dX4_init_16 : decode cX4_init 16 = .ok (.bipush 8, 2) := by decide +kernel
theorem dX4_init_18 : decode cX4_init 18 = .ok (.newarray .int, 2) := by decide +kernel
theorem dX4_init_20 : decode cX4_init 20 = .ok (.putfield 18, 3) := by decide +kernel
theorem dX4_init_23 : decode cX4_init 23 = .ok (.aload_n 0, 1) := by decide +kernel
theorem dX4_init_24 : decode cX4_init 24 = .ok (.bipush 8, 2) := by decide +kernel
theorem dX4_init_26 : decode cX4_init 26 = .ok (.newarray .int, 2) := by decide +kernel
theorem dX4_init_28 : decode cX4_init 28 = .ok (.putfield 22, 3) := by decide +kernel
theorem dX4_init_31 : decode cX4_init 31 = .ok (.aload_n 0, 1) := by decide +kernel
theorem dX4_init_32 : decode cX4_init 32 = .ok (.bipush 8, 2) := by decide +kernel
theorem dX4_init_34 : decode cX4_init 34 = .ok (.newarray .int, 2) := by decide +kernel
theorem dX4_init_36 : decode cX4_init 36 = .ok (.putfield 25, 3) := by decide +kernel
theorem dX4_init_39 : decode cX4_init 39 = .ok (.aload_n 0, 1) := by decide +kernel
theorem dX4_init_40 : decode cX4_init 40 = .ok (.new 28, 3) := by decide +kernel
theorem dX4_init_43 : decode cX4_init 43 = .ok (.dup, 1) := by decide +kernel
theorem dX4_init_44 : decode cX4_init 44 = .ok (.invokespecial 30, 3) := by decide +kernel
theorem dX4_init_47 : decode cX4_init 47 = .ok (.putfield 31, 3) := by decide +kernel
theorem dX4_init_50 : decode cX4_init 50 = .ok (.aload_n 0, 1) := by decide +kernel
theorem dX4_init_51 : decode cX4_init 51 = .ok (.new 28, 3) := by decide +kernel
theorem dX4_init_54 : decode cX4_init 54 = .ok (.dup, 1) := by decide +kernel
theorem dX4_init_55 : decode cX4_init 55 = .ok (.invokespecial 30, 3) := by decide +kernel
theorem dX4_init_58 : decode cX4_init 58 = .ok (.putfield 35, 3) := by decide +kernel
theorem dX4_init_61 : decode cX4_init 61 = .ok (.return_, 1) := by decide +kernel
theorem dX4_enactDraft_0 : decode cX4_enactDraft 0 = .ok (.aload_n 0, 1) := by decide +kernel
theorem dX4_enactDraft_1 : decode cX4_enactDraft 1 = .ok (.getfield 31, 3) := by decide +kernel
theorem dX4_enactDraft_4 : decode cX4_enactDraft 4 = .ok (.astore_n 1, 1) := by decide +kernel
theorem dX4_enactDraft_5 : decode cX4_enactDraft 5 = .ok (.aload_n 0, 1) := by decide +kernel
theorem dX4_enactDraft_6 : decode cX4_enactDraft 6 = .ok (.aload_n 0, 1) := by decide +kernel
theorem dX4_enactDraft_7 : decode cX4_enactDraft 7 = .ok (.getfield 35, 3) := by decide +kernel
theorem dX4_enactDraft_10 : decode cX4_enactDraft 10 = .ok (.putfield 31, 3) := by decide +kernel
theorem dX4_enactDraft_13 : decode cX4_enactDraft 13 = .ok (.aload_n 0, 1) := by decide +kernel
theorem dX4_enactDraft_14 : decode cX4_enactDraft 14 = .ok (.aload_n 1, 1) := by decide +kernel
theorem dX4_enactDraft_15 : decode cX4_enactDraft 15 = .ok (.putfield 35, 3) := by decide +kernel
theorem dX4_enactDraft_18 : decode cX4_enactDraft 18 = .ok (.return_, 1) := by decide +kernel
theorem dX4_isHouse_0 : decode cX4_isHouse 0 = .ok (.iload_n 1, 1) := by decide +kernel
theorem dX4_isHouse_1 : decode cX4_isHouse 1 = .ok (.ifCond .lt 15, 3) := by decide +kernel
theorem dX4_isHouse_4 : decode cX4_isHouse 4 = .ok (.iload_n 1, 1) := by decide +kernel
theorem dX4_isHouse_5 : decode cX4_isHouse 5 = .ok (.aload_n 0, 1) := by decide +kernel
theorem dX4_isHouse_6 : decode cX4_isHouse 6 = .ok (.getfield 38, 3) := by decide +kernel
theorem dX4_isHouse_9 : decode cX4_isHouse 9 = .ok (.if_icmp .ge 7, 3) := by decide +kernel
theorem dX4_isHouse_12 : decode cX4_isHouse 12 = .ok (.iconst 1, 1) := by decide +kernel
theorem dX4_isHouse_13 : decode cX4_isHouse 13 = .ok (.goto 4, 3) := by decide +kernel
theorem dX4_isHouse_16 : decode cX4_isHouse 16 = .ok (.iconst 0, 1) := by decide +kernel
theorem dX4_isHouse_17 : decode cX4_isHouse 17 = .ok (.ireturn, 1) := by decide +kernel
theorem dX4_addHouse_0 : decode cX4_addHouse 0 = .ok (.aload_n 0, 1) := by decide +kernel
theorem dX4_addHouse_1 : decode cX4_addHouse 1 = .ok (.getfield 38, 3) := by decide +kernel
theorem dX4_addHouse_4 : decode cX4_addHouse 4 = .ok (.bipush 8, 2) := by decide +kernel
theorem dX4_addHouse_6 : decode cX4_addHouse 6 = .ok (.if_icmp .lt 6, 3) := by decide +kernel
theorem dX4_addHouse_9 : decode cX4_addHouse 9 = .ok (.bipush (-3), 2) := by decide +kernel
theorem dX4_addHouse_11 : decode cX4_addHouse 11 = .ok (.ireturn, 1) := by decide +kernel
theorem dX4_addHouse_12 : decode cX4_addHouse 12 = .ok (.aload_n 0, 1) := by decide +kernel
theorem dX4_addHouse_13 : decode cX4_addHouse 13 = .ok (.getfield 18, 3) := by decide +kernel
theorem dX4_addHouse_16 : decode cX4_addHouse 16 = .ok (.aload_n 0, 1) := by decide +kernel
theorem dX4_addHouse_17 : decode cX4_addHouse 17 = .ok (.getfield 38, 3) := by decide +kernel
theorem dX4_addHouse_20 : decode cX4_addHouse 20 = .ok (.iload_n 1, 1) := by decide +kernel
theorem dX4_addHouse_21 : decode cX4_addHouse 21 = .ok (.iastore, 1) := by decide +kernel
theorem dX4_addHouse_22 : decode cX4_addHouse 22 = .ok (.aload_n 0, 1) := by decide +kernel
theorem dX4_addHouse_23 : decode cX4_addHouse 23 = .ok (.getfield 22, 3) := by decide +kernel
theorem dX4_addHouse_26 : decode cX4_addHouse 26 = .ok (.aload_n 0, 1) := by decide +kernel
theorem dX4_addHouse_27 : decode cX4_addHouse 27 = .ok (.getfield 38, 3) := by decide +kernel
theorem dX4_addHouse_30 : decode cX4_addHouse 30 = .ok (.iload_n 2, 1) := by decide +kernel
theorem dX4_addHouse_31 : decode cX4_addHouse 31 = .ok (.iastore, 1) := by decide +kernel
theorem dX4_addHouse_32 : decode cX4_addHouse 32 = .ok (.aload_n 0, 1) := by decide +kernel
theorem dX4_addHouse_33 : decode cX4_addHouse 33 = .ok (.getfield 25, 3) := by decide +kernel
theorem dX4_addHouse_36 : decode cX4_addHouse 36 = .ok (.aload_n 0, 1) := by decide +kernel
theorem dX4_addHouse_37 : decode cX4_addHouse 37 = .ok (.getfield 38, 3) := by decide +kernel
theorem dX4_addHouse_40 : decode cX4_addHouse 40 = .ok (.iload_n 3, 1) := by decide +kernel
theorem dX4_addHouse_41 : decode cX4_addHouse 41 = .ok (.iastore, 1) := by decide +kernel
theorem dX4_addHouse_42 : decode cX4_addHouse 42 = .ok (.aload_n 0, 1) := by decide +kernel
theorem dX4_addHouse_43 : decode cX4_addHouse 43 = .ok (.dup, 1) := by decide +kernel
theorem dX4_addHouse_44 : decode cX4_addHouse 44 = .ok (.getfield 38, 3) := by decide +kernel
theorem dX4_addHouse_47 : decode cX4_addHouse 47 = .ok (.iconst 1, 1) := by decide +kernel
theorem dX4_addHouse_48 : decode cX4_addHouse 48 = .ok (.iadd, 1) := by decide +kernel
theorem dX4_addHouse_49 : decode cX4_addHouse 49 = .ok (.putfield 38, 3) := by decide +kernel
theorem dX4_addHouse_52 : decode cX4_addHouse 52 = .ok (.aload_n 0, 1) := by decide +kernel
theorem dX4_addHouse_53 : decode cX4_addHouse 53 = .ok (.getfield 38, 3) := by decide +kernel
theorem dX4_addHouse_56 : decode cX4_addHouse 56 = .ok (.iconst 1, 1) := by decide +kernel
theorem dX4_addHouse_57 : decode cX4_addHouse 57 = .ok (.isub, 1) := by decide +kernel
theorem dX4_addHouse_58 : decode cX4_addHouse 58 = .ok (.ireturn, 1) := by decide +kernel
theorem dX4_hasNumber_0 : decode cX4_hasNumber 0 = .ok (.iload_n 2, 1) := by decide +kernel
theorem dX4_hasNumber_1 : decode cX4_hasNumber 1 = .ok (.ifCond .lt 9, 3) := by decide +kernel
theorem dX4_hasNumber_4 : decode cX4_hasNumber 4 = .ok (.iload_n 2, 1) := by decide +kernel
theorem dX4_hasNumber_5 : decode cX4_hasNumber 5 = .ok (.bipush 7, 2) := by decide +kernel
theorem dX4_hasNumber_7 : decode cX4_hasNumber 7 = .ok (.if_icmp .le 5, 3) := by decide +kernel
theorem dX4_hasNumber_10 : decode cX4_hasNumber 10 = .ok (.iconst 0, 1) := by decide +kernel
theorem dX4_hasNumber_11 : decode cX4_hasNumber 11 = .ok (.ireturn, 1) := by decide +kernel
theorem dX4_hasNumber_12 : decode cX4_hasNumber 12 = .ok (.iload_n 2, 1) := by decide +kernel
theorem dX4_hasNumber_13 : decode cX4_hasNumber 13 = .ok (.iconst 2, 1) := by decide +kernel
theorem dX4_hasNumber_14 : decode cX4_hasNumber 14 = .ok (.if_icmp .gt 8, 3) := by decide +kernel
theorem dX4_hasNumber_17 : decode cX4_hasNumber 17 = .ok (.iload_n 1, 1) := by decide +kernel
theorem dX4_hasNumber_18 : decode cX4_hasNumber 18 = .ok (.invokestatic 42, 3) := by decide +kernel
theorem dX4_hasNumber_21 : decode cX4_hasNumber 21 = .ok (.ireturn, 1) := by decide +kernel
theorem dX4_hasNumber_22 : decode cX4_hasNumber 22 = .ok (.iload_n 2, 1) := by decide +kernel
theorem dX4_hasNumber_23 : decode cX4_hasNumber 23 = .ok (.iconst 5, 1) := by decide +kernel
theorem dX4_hasNumber_24 : decode cX4_hasNumber 24 = .ok (.if_icmp .gt 11, 3) := by decide +kernel
theorem dX4_hasNumber_27 : decode cX4_hasNumber 27 = .ok (.aload_n 0, 1) := by decide +kernel
theorem dX4_hasNumber_28 : decode cX4_hasNumber 28 = .ok (.iload_n 1, 1) := by decide +kernel
theorem dX4_hasNumber_29 : decode cX4_hasNumber 29 = .ok (.invokevirtual 46, 3) := by decide +kernel
theorem dX4_hasNumber_32 : decode cX4_hasNumber 32 = .ok (.goto 12, 3) := by decide +kernel
theorem dX4_hasNumber_35 : decode cX4_hasNumber 35 = .ok (.iload_n 1, 1) := by decide +kernel
theorem dX4_hasNumber_36 : decode cX4_hasNumber 36 = .ok (.ifCond .ne 7, 3) := by decide +kernel
theorem dX4_hasNumber_39 : decode cX4_hasNumber 39 = .ok (.iconst 1, 1) := by decide +kernel
theorem dX4_hasNumber_40 : decode cX4_hasNumber 40 = .ok (.goto 4, 3) := by decide +kernel
theorem dX4_hasNumber_43 : decode cX4_hasNumber 43 = .ok (.iconst 0, 1) := by decide +kernel
theorem dX4_hasNumber_44 : decode cX4_hasNumber 44 = .ok (.ireturn, 1) := by decide +kernel
theorem dX4_numberOf_0 : decode cX4_numberOf 0 = .ok (.iload_n 2, 1) := by decide +kernel
theorem dX4_numberOf_1 : decode cX4_numberOf 1 = .ok (.tableswitch 69 3 7 #[35, 42, 49, 56, 64], 35) := by decide +kernel
theorem dX4_numberOf_36 : decode cX4_numberOf 36 = .ok (.aload_n 0, 1) := by decide +kernel
theorem dX4_numberOf_37 : decode cX4_numberOf 37 = .ok (.getfield 18, 3) := by decide +kernel
theorem dX4_numberOf_40 : decode cX4_numberOf 40 = .ok (.iload_n 1, 1) := by decide +kernel
theorem dX4_numberOf_41 : decode cX4_numberOf 41 = .ok (.iaload, 1) := by decide +kernel
theorem dX4_numberOf_42 : decode cX4_numberOf 42 = .ok (.ireturn, 1) := by decide +kernel
theorem dX4_numberOf_43 : decode cX4_numberOf 43 = .ok (.aload_n 0, 1) := by decide +kernel
theorem dX4_numberOf_44 : decode cX4_numberOf 44 = .ok (.getfield 22, 3) := by decide +kernel
theorem dX4_numberOf_47 : decode cX4_numberOf 47 = .ok (.iload_n 1, 1) := by decide +kernel
theorem dX4_numberOf_48 : decode cX4_numberOf 48 = .ok (.iaload, 1) := by decide +kernel
theorem dX4_numberOf_49 : decode cX4_numberOf 49 = .ok (.ireturn, 1) := by decide +kernel
theorem dX4_numberOf_50 : decode cX4_numberOf 50 = .ok (.aload_n 0, 1) := by decide +kernel
theorem dX4_numberOf_51 : decode cX4_numberOf 51 = .ok (.getfield 25, 3) := by decide +kernel
theorem dX4_numberOf_54 : decode cX4_numberOf 54 = .ok (.iload_n 1, 1) := by decide +kernel
theorem dX4_numberOf_55 : decode cX4_numberOf 55 = .ok (.iaload, 1) := by decide +kernel
theorem dX4_numberOf_56 : decode cX4_numberOf 56 = .ok (.ireturn, 1) := by decide +kernel
theorem dX4_numberOf_57 : decode cX4_numberOf 57 = .ok (.aload_n 0, 1) := by decide +kernel
theorem dX4_numberOf_58 : decode cX4_numberOf 58 = .ok (.getfield 12, 3) := by decide +kernel
theorem dX4_numberOf_61 : decode cX4_numberOf 61 = .ok (.getfield 49, 3) := by decide +kernel
theorem dX4_numberOf_64 : decode cX4_numberOf 64 = .ok (.ireturn, 1) := by decide +kernel
theorem dX4_numberOf_65 : decode cX4_numberOf 65 = .ok (.aload_n 0, 1) := by decide +kernel
theorem dX4_numberOf_66 : decode cX4_numberOf 66 = .ok (.getfield 52, 3) := by decide +kernel
theorem dX4_numberOf_69 : decode cX4_numberOf 69 = .ok (.ireturn, 1) := by decide +kernel
theorem dX4_numberOf_70 : decode cX4_numberOf 70 = .ok (.aload_n 0, 1) := by decide +kernel
theorem dX4_numberOf_71 : decode cX4_numberOf 71 = .ok (.getfield 12, 3) := by decide +kernel
theorem dX4_numberOf_74 : decode cX4_numberOf 74 = .ok (.iload_n 1, 1) := by decide +kernel
theorem dX4_numberOf_75 : decode cX4_numberOf 75 = .ok (.iload_n 2, 1) := by decide +kernel
theorem dX4_numberOf_76 : decode cX4_numberOf 76 = .ok (.invokevirtual 55, 3) := by decide +kernel
theorem dX4_numberOf_79 : decode cX4_numberOf 79 = .ok (.ireturn, 1) := by decide +kernel
theorem dX4_setNumber_0 : decode cX4_setNumber 0 = .ok (.iload_n 2, 1) := by decide +kernel
theorem dX4_setNumber_1 : decode cX4_setNumber 1 = .ok (.tableswitch 84 3 7 #[35, 45, 55, 65, 76], 35) := by decide +kernel
theorem dX4_setNumber_36 : decode cX4_setNumber 36 = .ok (.aload_n 0, 1) := by decide +kernel
theorem dX4_setNumber_37 : decode cX4_setNumber 37 = .ok (.getfield 18, 3) := by decide +kernel
theorem dX4_setNumber_40 : decode cX4_setNumber 40 = .ok (.iload_n 1, 1) := by decide +kernel
theorem dX4_setNumber_41 : decode cX4_setNumber 41 = .ok (.iload_n 3, 1) := by decide +kernel
theorem dX4_setNumber_42 : decode cX4_setNumber 42 = .ok (.iastore, 1) := by decide +kernel
theorem dX4_setNumber_43 : decode cX4_setNumber 43 = .ok (.goto 52, 3) := by decide +kernel
theorem dX4_setNumber_46 : decode cX4_setNumber 46 = .ok (.aload_n 0, 1) := by decide +kernel
theorem dX4_setNumber_47 : decode cX4_setNumber 47 = .ok (.getfield 22, 3) := by decide +kernel
theorem dX4_setNumber_50 : decode cX4_setNumber 50 = .ok (.iload_n 1, 1) := by decide +kernel
theorem dX4_setNumber_51 : decode cX4_setNumber 51 = .ok (.iload_n 3, 1) := by decide +kernel
theorem dX4_setNumber_52 : decode cX4_setNumber 52 = .ok (.iastore, 1) := by decide +kernel
theorem dX4_setNumber_53 : decode cX4_setNumber 53 = .ok (.goto 42, 3) := by decide +kernel
theorem dX4_setNumber_56 : decode cX4_setNumber 56 = .ok (.aload_n 0, 1) := by decide +kernel
theorem dX4_setNumber_57 : decode cX4_setNumber 57 = .ok (.getfield 25, 3) := by decide +kernel
theorem dX4_setNumber_60 : decode cX4_setNumber 60 = .ok (.iload_n 1, 1) := by decide +kernel
theorem dX4_setNumber_61 : decode cX4_setNumber 61 = .ok (.iload_n 3, 1) := by decide +kernel
theorem dX4_setNumber_62 : decode cX4_setNumber 62 = .ok (.iastore, 1) := by decide +kernel
theorem dX4_setNumber_63 : decode cX4_setNumber 63 = .ok (.goto 32, 3) := by decide +kernel
theorem dX4_setNumber_66 : decode cX4_setNumber 66 = .ok (.aload_n 0, 1) := by decide +kernel
theorem dX4_setNumber_67 : decode cX4_setNumber 67 = .ok (.getfield 12, 3) := by decide +kernel
theorem dX4_setNumber_70 : decode cX4_setNumber 70 = .ok (.iload_n 3, 1) := by decide +kernel
theorem dX4_setNumber_71 : decode cX4_setNumber 71 = .ok (.putfield 49, 3) := by decide +kernel
theorem dX4_setNumber_74 : decode cX4_setNumber 74 = .ok (.goto 21, 3) := by decide +kernel
theorem dX4_setNumber_77 : decode cX4_setNumber 77 = .ok (.aload_n 0, 1) := by decide +kernel
theorem dX4_setNumber_78 : decode cX4_setNumber 78 = .ok (.iload_n 3, 1) := by decide +kernel
theorem dX4_setNumber_79 : decode cX4_setNumber 79 = .ok (.putfield 52, 3) := by decide +kernel
theorem dX4_setNumber_82 : decode cX4_setNumber 82 = .ok (.goto 13, 3) := by decide +kernel
theorem dX4_setNumber_85 : decode cX4_setNumber 85 = .ok (.aload_n 0, 1) := by decide +kernel
theorem dX4_setNumber_86 : decode cX4_setNumber 86 = .ok (.getfield 12, 3) := by decide +kernel
theorem dX4_setNumber_89 : decode cX4_setNumber 89 = .ok (.iload_n 1, 1) := by decide +kernel
theorem dX4_setNumber_90 : decode cX4_setNumber 90 = .ok (.iload_n 2, 1) := by decide +kernel
theorem dX4_setNumber_91 : decode cX4_setNumber 91 = .ok (.iload_n 3, 1) := by decide +kernel
theorem dX4_setNumber_92 : decode cX4_setNumber 92 = .ok (.invokevirtual 59, 3) := by decide +kernel
theorem dX4_setNumber_95 : decode cX4_setNumber 95 = .ok (.return_, 1) := by decide +kernel
theorem dX4_isCold_0 : decode cX4_isCold 0 = .ok (.aload_n 0, 1) := by decide +kernel
theorem dX4_isCold_1 : decode cX4_isCold 1 = .ok (.getfield 25, 3) := by decide +kernel
theorem dX4_isCold_4 : decode cX4_isCold 4 = .ok (.iload_n 2, 1) := by decide +kernel
theorem dX4_isCold_5 : decode cX4_isCold 5 = .ok (.iaload, 1) := by decide +kernel
theorem dX4_isCold_6 : decode cX4_isCold 6 = .ok (.aload_n 1, 1) := by decide +kernel
theorem dX4_isCold_7 : decode cX4_isCold 7 = .ok (.getfield 49, 3) := by decide +kernel
theorem dX4_isCold_10 : decode cX4_isCold 10 = .ok (.ishr, 1) := by decide +kernel
theorem dX4_isCold_11 : decode cX4_isCold 11 = .ok (.iconst 1, 1) := by decide +kernel
theorem dX4_isCold_12 : decode cX4_isCold 12 = .ok (.iand, 1) := by decide +kernel
theorem dX4_isCold_13 : decode cX4_isCold 13 = .ok (.iconst 1, 1) := by decide +kernel
theorem dX4_isCold_14 : decode cX4_isCold 14 = .ok (.if_icmp .ne 7, 3) := by decide +kernel
theorem dX4_isCold_17 : decode cX4_isCold 17 = .ok (.iconst 1, 1) := by decide +kernel
theorem dX4_isCold_18 : decode cX4_isCold 18 = .ok (.goto 4, 3) := by decide +kernel
theorem dX4_isCold_21 : decode cX4_isCold 21 = .ok (.iconst 0, 1) := by decide +kernel
theorem dX4_isCold_22 : decode cX4_isCold 22 = .ok (.istore_n 3, 1) := by decide +kernel
theorem dX4_isCold_23 : decode cX4_isCold 23 = .ok (.iload_n 3, 1) := by decide +kernel
theorem dX4_isCold_24 : decode cX4_isCold 24 = .ok (.ifCond .eq 30, 3) := by decide +kernel
theorem dX4_isCold_27 : decode cX4_isCold 27 = .ok (.aload_n 0, 1) := by decide +kernel
theorem dX4_isCold_28 : decode cX4_isCold 28 = .ok (.getfield 31, 3) := by decide +kernel
theorem dX4_isCold_31 : decode cX4_isCold 31 = .ok (.aload_n 1, 1) := by decide +kernel
theorem dX4_isCold_32 : decode cX4_isCold 32 = .ok (.aload_n 0, 1) := by decide +kernel
theorem dX4_isCold_33 : decode cX4_isCold 33 = .ok (.getfield 18, 3) := by decide +kernel
theorem dX4_isCold_36 : decode cX4_isCold 36 = .ok (.iload_n 2, 1) := by decide +kernel
theorem dX4_isCold_37 : decode cX4_isCold 37 = .ok (.iaload, 1) := by decide +kernel
theorem dX4_isCold_38 : decode cX4_isCold 38 = .ok (.invokevirtual 63, 3) := by decide +kernel
theorem dX4_isCold_41 : decode cX4_isCold 41 = .ok (.aload_n 0, 1) := by decide +kernel
theorem dX4_isCold_42 : decode cX4_isCold 42 = .ok (.getfield 22, 3) := by decide +kernel
theorem dX4_isCold_45 : decode cX4_isCold 45 = .ok (.iload_n 2, 1) := by decide +kernel
theorem dX4_isCold_46 : decode cX4_isCold 46 = .ok (.iaload, 1) := by decide +kernel
theorem dX4_isCold_47 : decode cX4_isCold 47 = .ok (.if_icmp .ge 7, 3) := by decide +kernel
theorem dX4_isCold_50 : decode cX4_isCold 50 = .ok (.iconst 1, 1) := by decide +kernel
theorem dX4_isCold_51 : decode cX4_isCold 51 = .ok (.goto 4, 3) := by decide +kernel
theorem dX4_isCold_54 : decode cX4_isCold 54 = .ok (.iconst 0, 1) := by decide +kernel
theorem dX4_isCold_55 : decode cX4_isCold 55 = .ok (.ireturn, 1) := by decide +kernel
theorem dX4_coldBits_0 : decode cX4_coldBits 0 = .ok (.iconst 0, 1) := by decide +kernel
theorem dX4_coldBits_1 : decode cX4_coldBits 1 = .ok (.istore_n 2, 1) := by decide +kernel
theorem dX4_coldBits_2 : decode cX4_coldBits 2 = .ok (.iconst 0, 1) := by decide +kernel
theorem dX4_coldBits_3 : decode cX4_coldBits 3 = .ok (.istore_n 3, 1) := by decide +kernel
theorem dX4_coldBits_4 : decode cX4_coldBits 4 = .ok (.iload_n 3, 1) := by decide +kernel
theorem dX4_coldBits_5 : decode cX4_coldBits 5 = .ok (.aload_n 0, 1) := by decide +kernel
theorem dX4_coldBits_6 : decode cX4_coldBits 6 = .ok (.getfield 38, 3) := by decide +kernel
theorem dX4_coldBits_9 : decode cX4_coldBits 9 = .ok (.if_icmp .ge 24, 3) := by decide +kernel
theorem dX4_coldBits_12 : decode cX4_coldBits 12 = .ok (.aload_n 0, 1) := by decide +kernel
theorem dX4_coldBits_13 : decode cX4_coldBits 13 = .ok (.aload_n 1, 1) := by decide +kernel
theorem dX4_coldBits_14 : decode cX4_coldBits 14 = .ok (.iload_n 3, 1) := by decide +kernel
theorem dX4_coldBits_15 : decode cX4_coldBits 15 = .ok (.invokevirtual 67, 3) := by decide +kernel
theorem dX4_coldBits_18 : decode cX4_coldBits 18 = .ok (.ifCond .eq 9, 3) := by decide +kernel
theorem dX4_coldBits_21 : decode cX4_coldBits 21 = .ok (.iload_n 2, 1) := by decide +kernel
theorem dX4_coldBits_22 : decode cX4_coldBits 22 = .ok (.iconst 1, 1) := by decide +kernel
theorem dX4_coldBits_23 : decode cX4_coldBits 23 = .ok (.iload_n 3, 1) := by decide +kernel
theorem dX4_coldBits_24 : decode cX4_coldBits 24 = .ok (.ishl, 1) := by decide +kernel
theorem dX4_coldBits_25 : decode cX4_coldBits 25 = .ok (.ior, 1) := by decide +kernel
theorem dX4_coldBits_26 : decode cX4_coldBits 26 = .ok (.istore_n 2, 1) := by decide +kernel
theorem dX4_coldBits_27 : decode cX4_coldBits 27 = .ok (.iinc 3 1, 3) := by decide +kernel
theorem dX4_coldBits_30 : decode cX4_coldBits 30 = .ok (.goto (-26), 3) := by decide +kernel
theorem dX4_coldBits_33 : decode cX4_coldBits 33 = .ok (.iload_n 2, 1) := by decide +kernel
theorem dX4_coldBits_34 : decode cX4_coldBits 34 = .ok (.ireturn, 1) := by decide +kernel
theorem dX4_warmestPlace_0 : decode cX4_warmestPlace 0 = .ok (.iconst 0, 1) := by decide +kernel
theorem dX4_warmestPlace_1 : decode cX4_warmestPlace 1 = .ok (.istore_n 2, 1) := by decide +kernel
theorem dX4_warmestPlace_2 : decode cX4_warmestPlace 2 = .ok (.iconst (-1), 1) := by decide +kernel
theorem dX4_warmestPlace_3 : decode cX4_warmestPlace 3 = .ok (.istore_n 3, 1) := by decide +kernel
theorem dX4_warmestPlace_4 : decode cX4_warmestPlace 4 = .ok (.iconst 0, 1) := by decide +kernel
theorem dX4_warmestPlace_5 : decode cX4_warmestPlace 5 = .ok (.istore 4, 2) := by decide +kernel
theorem dX4_warmestPlace_7 : decode cX4_warmestPlace 7 = .ok (.iload 4, 2) := by decide +kernel
theorem dX4_warmestPlace_9 : decode cX4_warmestPlace 9 = .ok (.bipush 30, 2) := by decide +kernel
theorem dX4_warmestPlace_11 : decode cX4_warmestPlace 11 = .ok (.if_icmp .ge 33, 3) := by decide +kernel
theorem dX4_warmestPlace_14 : decode cX4_warmestPlace 14 = .ok (.aload_n 0, 1) := by decide +kernel
theorem dX4_warmestPlace_15 : decode cX4_warmestPlace 15 = .ok (.getfield 31, 3) := by decide +kernel
theorem dX4_warmestPlace_18 : decode cX4_warmestPlace 18 = .ok (.aload_n 1, 1) := by decide +kernel
theorem dX4_warmestPlace_19 : decode cX4_warmestPlace 19 = .ok (.iload 4, 2) := by decide +kernel
theorem dX4_warmestPlace_21 : decode cX4_warmestPlace 21 = .ok (.invokevirtual 63, 3) := by decide +kernel
theorem dX4_warmestPlace_24 : decode cX4_warmestPlace 24 = .ok (.istore 5, 2) := by decide +kernel
theorem dX4_warmestPlace_26 : decode cX4_warmestPlace 26 = .ok (.iload 5, 2) := by decide +kernel
theorem dX4_warmestPlace_28 : decode cX4_warmestPlace 28 = .ok (.iload_n 3, 1) := by decide +kernel
theorem dX4_warmestPlace_29 : decode cX4_warmestPlace 29 = .ok (.if_icmp .le 9, 3) := by decide +kernel
theorem dX4_warmestPlace_32 : decode cX4_warmestPlace 32 = .ok (.iload 4, 2) := by decide +kernel
theorem dX4_warmestPlace_34 : decode cX4_warmestPlace 34 = .ok (.istore_n 2, 1) := by decide +kernel
theorem dX4_warmestPlace_35 : decode cX4_warmestPlace 35 = .ok (.iload 5, 2) := by decide +kernel
theorem dX4_warmestPlace_37 : decode cX4_warmestPlace 37 = .ok (.istore_n 3, 1) := by decide +kernel
theorem dX4_warmestPlace_38 : decode cX4_warmestPlace 38 = .ok (.iinc 4 1, 3) := by decide +kernel
theorem dX4_warmestPlace_41 : decode cX4_warmestPlace 41 = .ok (.goto (-34), 3) := by decide +kernel
theorem dX4_warmestPlace_44 : decode cX4_warmestPlace 44 = .ok (.iload_n 2, 1) := by decide +kernel
theorem dX4_warmestPlace_45 : decode cX4_warmestPlace 45 = .ok (.ireturn, 1) := by decide +kernel
theorem dX5_init_0 : decode cX5_init 0 = .ok (.aload_n 0, 1) := by decide +kernel
theorem dX5_init_1 : decode cX5_init 1 = .ok (.invokespecial 3, 3) := by decide +kernel
theorem dX5_init_4 : decode cX5_init 4 = .ok (.aload_n 0, 1) := by decide +kernel
theorem dX5_init_5 : decode cX5_init 5 = .ok (.bipush 50, 2) := by decide +kernel
theorem dX5_init_7 : decode cX5_init 7 = .ok (.newarray .int, 2) := by decide +kernel
theorem dX5_init_9 : decode cX5_init 9 = .ok (.putfield 11, 3) := by decide +kernel
theorem dX5_init_12 : decode cX5_init 12 = .ok (.aload_n 0, 1) := by decide +kernel
theorem dX5_init_13 : decode cX5_init 13 = .ok (.bipush 24, 2) := by decide +kernel
theorem dX5_init_15 : decode cX5_init 15 = .ok (.newarray .int, 2) := by decide +kernel
theorem dX5_init_17 : decode cX5_init 17 = .ok (.putfield 15, 3) := by decide +kernel
theorem dX5_init_20 : decode cX5_init 20 = .ok (.return_, 1) := by decide +kernel
theorem dX5_isKind_0 : decode cX5_isKind 0 = .ok (.iload_n 0, 1) := by decide +kernel
theorem dX5_isKind_1 : decode cX5_isKind 1 = .ok (.ifCond .lt 13, 3) := by decide +kernel
theorem dX5_isKind_4 : decode cX5_isKind 4 = .ok (.iload_n 0, 1) := by decide +kernel
theorem dX5_isKind_5 : decode cX5_isKind 5 = .ok (.bipush 8, 2) := by decide +kernel
theorem dX5_isKind_7 : decode cX5_isKind 7 = .ok (.if_icmp .ge 7, 3) := by decide +kernel
theorem dX5_isKind_10 : decode cX5_isKind 10 = .ok (.iconst 1, 1) := by decide +kernel
theorem dX5_isKind_11 : decode cX5_isKind 11 = .ok (.goto 4, 3) := by decide +kernel
theorem dX5_isKind_14 : decode cX5_isKind 14 = .ok (.iconst 0, 1) := by decide +kernel
theorem dX5_isKind_15 : decode cX5_isKind 15 = .ok (.ireturn, 1) := by decide +kernel
theorem dX5_isStitch_0 : decode cX5_isStitch 0 = .ok (.iload_n 1, 1) := by decide +kernel
theorem dX5_isStitch_1 : decode cX5_isStitch 1 = .ok (.ifCond .lt 15, 3) := by decide +kernel
theorem dX5_isStitch_4 : decode cX5_isStitch 4 = .ok (.iload_n 1, 1) := by decide +kernel
theorem dX5_isStitch_5 : decode cX5_isStitch 5 = .ok (.aload_n 0, 1) := by decide +kernel
theorem dX5_isStitch_6 : decode cX5_isStitch 6 = .ok (.getfield 18, 3) := by decide +kernel
theorem dX5_isStitch_9 : decode cX5_isStitch 9 = .ok (.if_icmp .ge 7, 3) := by decide +kernel
theorem dX5_isStitch_12 : decode cX5_isStitch 12 = .ok (.iconst 1, 1) := by decide +kernel
theorem dX5_isStitch_13 : decode cX5_isStitch 13 = .ok (.goto 4, 3) := by decide +kernel
theorem dX5_isStitch_16 : decode cX5_isStitch 16 = .ok (.iconst 0, 1) := by decide +kernel
theorem dX5_isStitch_17 : decode cX5_isStitch 17 = .ok (.ireturn, 1) := by decide +kernel
theorem dX5_add_0 : decode cX5_add 0 = .ok (.aload_n 0, 1) := by decide +kernel
theorem dX5_add_1 : decode cX5_add 1 = .ok (.getfield 18, 3) := by decide +kernel
theorem dX5_add_4 : decode cX5_add 4 = .ok (.bipush 50, 2) := by decide +kernel
theorem dX5_add_6 : decode cX5_add 6 = .ok (.if_icmp .lt 6, 3) := by decide +kernel
theorem dX5_add_9 : decode cX5_add 9 = .ok (.bipush (-3), 2) := by decide +kernel
theorem dX5_add_11 : decode cX5_add 11 = .ok (.ireturn, 1) := by decide +kernel
theorem dX5_add_12 : decode cX5_add 12 = .ok (.aload_n 0, 1) := by decide +kernel
theorem dX5_add_13 : decode cX5_add 13 = .ok (.getfield 11, 3) := by decide +kernel
theorem dX5_add_16 : decode cX5_add 16 = .ok (.aload_n 0, 1) := by decide +kernel
theorem dX5_add_17 : decode cX5_add 17 = .ok (.getfield 18, 3) := by decide +kernel
theorem dX5_add_20 : decode cX5_add 20 = .ok (.iload_n 1, 1) := by decide +kernel
theorem dX5_add_21 : decode cX5_add 21 = .ok (.iastore, 1) := by decide +kernel
theorem dX5_add_22 : decode cX5_add 22 = .ok (.aload_n 0, 1) := by decide +kernel
theorem dX5_add_23 : decode cX5_add 23 = .ok (.dup, 1) := by decide +kernel
theorem dX5_add_24 : decode cX5_add 24 = .ok (.getfield 18, 3) := by decide +kernel
theorem dX5_add_27 : decode cX5_add 27 = .ok (.iconst 1, 1) := by decide +kernel
theorem dX5_add_28 : decode cX5_add 28 = .ok (.iadd, 1) := by decide +kernel
theorem dX5_add_29 : decode cX5_add 29 = .ok (.putfield 18, 3) := by decide +kernel
theorem dX5_add_32 : decode cX5_add 32 = .ok (.aload_n 0, 1) := by decide +kernel
theorem dX5_add_33 : decode cX5_add 33 = .ok (.getfield 18, 3) := by decide +kernel
theorem dX5_add_36 : decode cX5_add 36 = .ok (.iconst 1, 1) := by decide +kernel
theorem dX5_add_37 : decode cX5_add 37 = .ok (.isub, 1) := by decide +kernel
theorem dX5_add_38 : decode cX5_add 38 = .ok (.ireturn, 1) := by decide +kernel
theorem dX5_isOfKind_0 : decode cX5_isOfKind 0 = .ok (.aload_n 0, 1) := by decide +kernel
theorem dX5_isOfKind_1 : decode cX5_isOfKind 1 = .ok (.iload_n 1, 1) := by decide +kernel
theorem dX5_isOfKind_2 : decode cX5_isOfKind 2 = .ok (.invokevirtual 22, 3) := by decide +kernel
theorem dX5_isOfKind_5 : decode cX5_isOfKind 5 = .ok (.ifCond .ne 5, 3) := by decide +kernel
theorem dX5_isOfKind_8 : decode cX5_isOfKind 8 = .ok (.iconst 0, 1) := by decide +kernel
theorem dX5_isOfKind_9 : decode cX5_isOfKind 9 = .ok (.ireturn, 1) := by decide +kernel
theorem dX5_isOfKind_10 : decode cX5_isOfKind 10 = .ok (.aload_n 0, 1) := by decide +kernel
theorem dX5_isOfKind_11 : decode cX5_isOfKind 11 = .ok (.getfield 11, 3) := by decide +kernel
theorem dX5_isOfKind_14 : decode cX5_isOfKind 14 = .ok (.iload_n 1, 1) := by decide +kernel
theorem dX5_isOfKind_15 : decode cX5_isOfKind 15 = .ok (.iaload, 1) := by decide +kernel
theorem dX5_isOfKind_16 : decode cX5_isOfKind 16 = .ok (.istore_n 3, 1) := by decide +kernel
theorem dX5_isOfKind_17 : decode cX5_isOfKind 17 = .ok (.iconst 0, 1) := by decide +kernel
theorem dX5_isOfKind_18 : decode cX5_isOfKind 18 = .ok (.istore 4, 2) := by decide +kernel
theorem dX5_isOfKind_20 : decode cX5_isOfKind 20 = .ok (.iload 4, 2) := by decide +kernel
theorem dX5_isOfKind_22 : decode cX5_isOfKind 22 = .ok (.bipush 8, 2) := by decide +kernel
theorem dX5_isOfKind_24 : decode cX5_isOfKind 24 = .ok (.if_icmp .ge 24, 3) := by decide +kernel
theorem dX5_isOfKind_27 : decode cX5_isOfKind 27 = .ok (.iload_n 3, 1) := by decide +kernel
theorem dX5_isOfKind_28 : decode cX5_isOfKind 28 = .ok (.ifCond .lt 20, 3) := by decide +kernel
theorem dX5_isOfKind_31 : decode cX5_isOfKind 31 = .ok (.iload_n 3, 1) := by decide +kernel
theorem dX5_isOfKind_32 : decode cX5_isOfKind 32 = .ok (.iload_n 2, 1) := by decide +kernel
theorem dX5_isOfKind_33 : decode cX5_isOfKind 33 = .ok (.if_icmp .eq 15, 3) := by decide +kernel
theorem dX5_isOfKind_36 : decode cX5_isOfKind 36 = .ok (.getstatic 26, 3) := by decide +kernel
theorem dX5_isOfKind_39 : decode cX5_isOfKind 39 = .ok (.iload_n 3, 1) := by decide +kernel
theorem dX5_isOfKind_40 : decode cX5_isOfKind 40 = .ok (.iaload, 1) := by decide +kernel
theorem dX5_isOfKind_41 : decode cX5_isOfKind 41 = .ok (.istore_n 3, 1) := by decide +kernel
theorem dX5_isOfKind_42 : decode cX5_isOfKind 42 = .ok (.iinc 4 1, 3) := by decide +kernel
theorem dX5_isOfKind_45 : decode cX5_isOfKind 45 = .ok (.goto (-25), 3) := by decide +kernel
theorem dX5_isOfKind_48 : decode cX5_isOfKind 48 = .ok (.iload_n 3, 1) := by decide +kernel
theorem dX5_isOfKind_49 : decode cX5_isOfKind 49 = .ok (.iload_n 2, 1) := by decide +kernel
theorem dX5_isOfKind_50 : decode cX5_isOfKind 50 = .ok (.if_icmp .ne 7, 3) := by decide +kernel
theorem dX5_isOfKind_53 : decode cX5_isOfKind 53 = .ok (.iconst 1, 1) := by decide +kernel
theorem dX5_isOfKind_54 : decode cX5_isOfKind 54 = .ok (.goto 4, 3) := by decide +kernel
theorem dX5_isOfKind_57 : decode cX5_isOfKind 57 = .ok (.iconst 0, 1) := by decide +kernel
theorem dX5_isOfKind_58 : decode cX5_isOfKind 58 = .ok (.ireturn, 1) := by decide +kernel
theorem dX5_begin_0 : decode cX5_begin 0 = .ok (.aload_n 0, 1) := by decide +kernel
theorem dX5_begin_1 : decode cX5_begin 1 = .ok (.iconst 0, 1) := by decide +kernel
theorem dX5_begin_2 : decode cX5_begin 2 = .ok (.putfield 29, 3) := by decide +kernel
theorem dX5_begin_5 : decode cX5_begin 5 = .ok (.aload_n 0, 1) := by decide +kernel
theorem dX5_begin_6 : decode cX5_begin 6 = .ok (.iload_n 1, 1) := by decide +kernel
theorem dX5_begin_7 : decode cX5_begin 7 = .ok (.invokevirtual 22, 3) := by decide +kernel
theorem dX5_begin_10 : decode cX5_begin 10 = .ok (.ifCond .eq 12, 3) := by decide +kernel
theorem dX5_begin_13 : decode cX5_begin 13 = .ok (.iload_n 2, 1) := by decide +kernel
theorem dX5_begin_14 : decode cX5_begin 14 = .ok (.ifCond .lt 8, 3) := by decide +kernel
theorem dX5_begin_17 : decode cX5_begin 17 = .ok (.iload_n 2, 1) := by decide +kernel
theorem dX5_begin_18 : decode cX5_begin 18 = .ok (.iconst 3, 1) := by decide +kernel
theorem dX5_begin_19 : decode cX5_begin 19 = .ok (.if_icmp .le 5, 3) := by decide +kernel
theorem dX5_begin_22 : decode cX5_begin 22 = .ok (.iconst 0, 1) := by decide +kernel
theorem dX5_begin_23 : decode cX5_begin 23 = .ok (.ireturn, 1) := by decide +kernel
theorem dX5_begin_24 : decode cX5_begin 24 = .ok (.aload_n 0, 1) := by decide +kernel
theorem dX5_begin_25 : decode cX5_begin 25 = .ok (.iload_n 1, 1) := by decide +kernel
theorem dX5_begin_26 : decode cX5_begin 26 = .ok (.aload_n 0, 1) := by decide +kernel
theorem dX5_begin_27 : decode cX5_begin 27 = .ok (.getfield 11, 3) := by decide +kernel
theorem dX5_begin_30 : decode cX5_begin 30 = .ok (.iload_n 1, 1) := by decide +kernel
theorem dX5_begin_31 : decode cX5_begin 31 = .ok (.iaload, 1) := by decide +kernel
theorem dX5_begin_32 : decode cX5_begin 32 = .ok (.iload_n 2, 1) := by decide +kernel
theorem dX5_begin_33 : decode cX5_begin 33 = .ok (.iload_n 3, 1) := by decide +kernel
theorem dX5_begin_34 : decode cX5_begin 34 = .ok (.iconst 0, 1) := by decide +kernel
theorem dX5_begin_35 : decode cX5_begin 35 = .ok (.invokevirtual 32, 3) := by decide +kernel
theorem dX5_begin_38 : decode cX5_begin 38 = .ok (.ireturn, 1) := by decide +kernel
theorem dX5_run_0 : decode cX5_run 0 = .ok (.iload_n 2, 1) := by decide +kernel
theorem dX5_run_1 : decode cX5_run 1 = .ok (.istore 6, 2) := by decide +kernel
theorem dX5_run_3 : decode cX5_run 3 = .ok (.iconst 0, 1) := by decide +kernel
theorem dX5_run_4 : decode cX5_run 4 = .ok (.istore 7, 2) := by decide +kernel
theorem dX5_run_6 : decode cX5_run 6 = .ok (.iload 7, 2) := by decide +kernel
theorem dX5_run_8 : decode cX5_run 8 = .ok (.bipush 8, 2) := by decide +kernel
theorem dX5_run_10 : decode cX5_run 10 = .ok (.if_icmp .ge 35, 3) := by decide +kernel
theorem dX5_run_13 : decode cX5_run 13 = .ok (.iload 6, 2) := by decide +kernel
theorem dX5_run_15 : decode cX5_run 15 = .ok (.ifCond .lt 30, 3) := by decide +kernel
theorem dX5_run_18 : decode cX5_run 18 = .ok (.getstatic 36, 3) := by decide +kernel
theorem dX5_run_21 : decode cX5_run 21 = .ok (.iload 6, 2) := by decide +kernel
theorem dX5_run_23 : decode cX5_run 23 = .ok (.iconst 4, 1) := by decide +kernel
theorem dX5_run_24 : decode cX5_run 24 = .ok (.imul, 1) := by decide +kernel
theorem dX5_run_25 : decode cX5_run 25 = .ok (.iload_n 3, 1) := by decide +kernel
theorem dX5_run_26 : decode cX5_run 26 = .ok (.iadd, 1) := by decide +kernel
theorem dX5_run_27 : decode cX5_run 27 = .ok (.iaload, 1) := by decide +kernel
theorem dX5_run_28 : decode cX5_run 28 = .ok (.ifCond .ne 17, 3) := by decide +kernel
theorem dX5_run_31 : decode cX5_run 31 = .ok (.getstatic 26, 3) := by decide +kernel
theorem dX5_run_34 : decode cX5_run 34 = .ok (.iload 6, 2) := by decide +kernel
theorem dX5_run_36 : decode cX5_run 36 = .ok (.iaload, 1) := by decide +kernel
theorem dX5_run_37 : decode cX5_run 37 = .ok (.istore 6, 2) := by decide +kernel
theorem dX5_run_39 : decode cX5_run 39 = .ok (.iinc 7 1, 3) := by decide +kernel
theorem dX5_run_42 : decode cX5_run 42 = .ok (.goto (-36), 3) := by decide +kernel
theorem dX5_run_45 : decode cX5_run 45 = .ok (.iload 6, 2) := by decide +kernel
theorem dX5_run_47 : decode cX5_run 47 = .ok (.ifCond .lt 10, 3) := by decide +kernel
theorem dX5_run_50 : decode cX5_run 50 = .ok (.iload 5, 2) := by decide +kernel
theorem dX5_run_52 : decode cX5_run 52 = .ok (.bipush 40, 2) := by decide +kernel
theorem dX5_run_54 : decode cX5_run 54 = .ok (.if_icmp .le 5, 3) := by decide +kernel
theorem dX5_run_57 : decode cX5_run 57 = .ok (.iconst 0, 1) := by decide +kernel
theorem dX5_run_58 : decode cX5_run 58 = .ok (.ireturn, 1) := by decide +kernel
theorem dX5_run_59 : decode cX5_run 59 = .ok (.getstatic 36, 3) := by decide +kernel
theorem dX5_run_62 : decode cX5_run 62 = .ok (.iload 6, 2) := by decide +kernel
theorem dX5_run_64 : decode cX5_run 64 = .ok (.iconst 4, 1) := by decide +kernel
theorem dX5_run_65 : decode cX5_run 65 = .ok (.imul, 1) := by decide +kernel
theorem dX5_run_66 : decode cX5_run 66 = .ok (.iload_n 3, 1) := by decide +kernel
theorem dX5_run_67 : decode cX5_run 67 = .ok (.iadd, 1) := by decide +kernel
theorem dX5_run_68 : decode cX5_run 68 = .ok (.iaload, 1) := by decide +kernel
theorem dX5_run_69 : decode cX5_run 69 = .ok (.istore 7, 2) := by decide +kernel
theorem dX5_run_71 : decode cX5_run 71 = .ok (.aload_n 0, 1) := by decide +kernel
theorem dX5_run_72 : decode cX5_run 72 = .ok (.getfield 29, 3) := by decide +kernel
theorem dX5_run_75 : decode cX5_run 75 = .ok (.bipush 24, 2) := by decide +kernel
theorem dX5_run_77 : decode cX5_run 77 = .ok (.if_icmp .ge 14, 3) := by decide +kernel
theorem dX5_run_80 : decode cX5_run 80 = .ok (.aload_n 0, 1) := by decide +kernel
theorem dX5_run_81 : decode cX5_run 81 = .ok (.getfield 15, 3) := by decide +kernel
theorem dX5_run_84 : decode cX5_run 84 = .ok (.aload_n 0, 1) := by decide +kernel
theorem dX5_run_85 : decode cX5_run 85 = .ok (.getfield 29, 3) := by decide +kernel
theorem dX5_run_88 : decode cX5_run 88 = .ok (.iload 7, 2) := by decide +kernel
theorem dX5_run_90 : decode cX5_run 90 = .ok (.iastore, 1) := by decide +kernel
theorem dX5_run_91 : decode cX5_run 91 = .ok (.aload_n 0, 1) := by decide +kernel
theorem dX5_run_92 : decode cX5_run 92 = .ok (.dup, 1) := by decide +kernel
theorem dX5_run_93 : decode cX5_run 93 = .ok (.getfield 29, 3) := by decide +kernel
theorem dX5_run_96 : decode cX5_run 96 = .ok (.iconst 1, 1) := by decide +kernel
theorem dX5_run_97 : decode cX5_run 97 = .ok (.iadd, 1) := by decide +kernel
theorem dX5_run_98 : decode cX5_run 98 = .ok (.putfield 29, 3) := by decide +kernel
theorem dX5_run_101 : decode cX5_run 101 = .ok (.aload_n 0, 1) := by decide +kernel
theorem dX5_run_102 : decode cX5_run 102 = .ok (.iload 7, 2) := by decide +kernel
theorem dX5_run_104 : decode cX5_run 104 = .ok (.iload_n 1, 1) := by decide +kernel
theorem dX5_run_105 : decode cX5_run 105 = .ok (.getstatic 26, 3) := by decide +kernel
theorem dX5_run_108 : decode cX5_run 108 = .ok (.iload 6, 2) := by decide +kernel
theorem dX5_run_110 : decode cX5_run 110 = .ok (.iaload, 1) := by decide +kernel
theorem dX5_run_111 : decode cX5_run 111 = .ok (.iload 4, 2) := by decide +kernel
theorem dX5_run_113 : decode cX5_run 113 = .ok (.iload 5, 2) := by decide +kernel
theorem dX5_run_115 : decode cX5_run 115 = .ok (.iconst 1, 1) := by decide +kernel
theorem dX5_run_116 : decode cX5_run 116 = .ok (.iadd, 1) := by decide +kernel
theorem dX5_run_117 : decode cX5_run 117 = .ok (.invokevirtual 39, 3) := by decide +kernel
theorem dX5_run_120 : decode cX5_run 120 = .ok (.ireturn, 1) := by decide +kernel
theorem dX5_worked_0 : decode cX5_worked 0 = .ok (.aload_n 0, 1) := by decide +kernel
theorem dX5_worked_1 : decode cX5_worked 1 = .ok (.getfield 11, 3) := by decide +kernel
theorem dX5_worked_4 : decode cX5_worked 4 = .ok (.iload_n 2, 1) := by decide +kernel
theorem dX5_worked_5 : decode cX5_worked 5 = .ok (.iaload, 1) := by decide +kernel
theorem dX5_worked_6 : decode cX5_worked 6 = .ok (.istore 6, 2) := by decide +kernel
theorem dX5_worked_8 : decode cX5_worked 8 = .ok (.iload_n 1, 1) := by decide +kernel
theorem dX5_worked_9 : decode cX5_worked 9 = .ok (.lookupswitch 310 #[(1, 115), (2, 120), (10, 145), (11, 160), (20, 165), (30, 179), (40, 192), (41, 206), (50, 220), (60, 244), (70, 258), (80, 272), (81, 296)], 115) := by decide +kernel
theorem dX5_worked_124 : decode cX5_worked 124 = .ok (.iload 4, 2) := by decide +kernel
theorem dX5_worked_126 : decode cX5_worked 126 = .ok (.iload_n 2, 1) := by decide +kernel
theorem dX5_worked_127 : decode cX5_worked 127 = .ok (.iadd, 1) := by decide +kernel
theorem dX5_worked_128 : decode cX5_worked 128 = .ok (.ireturn, 1) := by decide +kernel
theorem dX5_worked_129 : decode cX5_worked 129 = .ok (.aload_n 0, 1) := by decide +kernel
theorem dX5_worked_130 : decode cX5_worked 130 = .ok (.iload_n 2, 1) := by decide +kernel
theorem dX5_worked_131 : decode cX5_worked 131 = .ok (.iload 6, 2) := by decide +kernel
theorem dX5_worked_133 : decode cX5_worked 133 = .ok (.iconst 1, 1) := by decide +kernel
theorem dX5_worked_134 : decode cX5_worked 134 = .ok (.iload 4, 2) := by decide +kernel
theorem dX5_worked_136 : decode cX5_worked 136 = .ok (.iload 5, 2) := by decide +kernel
theorem dX5_worked_138 : decode cX5_worked 138 = .ok (.invokevirtual 32, 3) := by decide +kernel
theorem dX5_worked_141 : decode cX5_worked 141 = .ok (.aload_n 0, 1) := by decide +kernel
theorem dX5_worked_142 : decode cX5_worked 142 = .ok (.iload_n 2, 1) := by decide +kernel
theorem dX5_worked_143 : decode cX5_worked 143 = .ok (.iload 6, 2) := by decide +kernel
theorem dX5_worked_145 : decode cX5_worked 145 = .ok (.iconst 2, 1) := by decide +kernel
theorem dX5_worked_146 : decode cX5_worked 146 = .ok (.iconst 1, 1) := by decide +kernel
theorem dX5_worked_147 : decode cX5_worked 147 = .ok (.iload 5, 2) := by decide +kernel
theorem dX5_worked_149 : decode cX5_worked 149 = .ok (.invokevirtual 32, 3) := by decide +kernel
theorem dX5_worked_152 : decode cX5_worked 152 = .ok (.isub, 1) := by decide +kernel
theorem dX5_worked_153 : decode cX5_worked 153 = .ok (.ireturn, 1) := by decide +kernel
theorem dX5_worked_154 : decode cX5_worked 154 = .ok (.aload_n 0, 1) := by decide +kernel
theorem dX5_worked_155 : decode cX5_worked 155 = .ok (.iload_n 2, 1) := by decide +kernel
theorem dX5_worked_156 : decode cX5_worked 156 = .ok (.iload 6, 2) := by decide +kernel
theorem dX5_worked_158 : decode cX5_worked 158 = .ok (.iconst 0, 1) := by decide +kernel
theorem dX5_worked_159 : decode cX5_worked 159 = .ok (.iload 4, 2) := by decide +kernel
theorem dX5_worked_161 : decode cX5_worked 161 = .ok (.iload 5, 2) := by decide +kernel
theorem dX5_worked_163 : decode cX5_worked 163 = .ok (.invokevirtual 32, 3) := by decide +kernel
theorem dX5_worked_166 : decode cX5_worked 166 = .ok (.iconst 2, 1) := by decide +kernel
theorem dX5_worked_167 : decode cX5_worked 167 = .ok (.imul, 1) := by decide +kernel
theorem dX5_worked_168 : decode cX5_worked 168 = .ok (.ireturn, 1) := by decide +kernel
theorem dX5_worked_169 : decode cX5_worked 169 = .ok (.iload 4, 2) := by decide +kernel
theorem dX5_worked_171 : decode cX5_worked 171 = .ok (.iload_n 2, 1) := by decide +kernel
theorem dX5_worked_172 : decode cX5_worked 172 = .ok (.ixor, 1) := by decide +kernel
theorem dX5_worked_173 : decode cX5_worked 173 = .ok (.ireturn, 1) := by decide +kernel
theorem dX5_worked_174 : decode cX5_worked 174 = .ok (.aload_n 0, 1) := by decide +kernel
theorem dX5_worked_175 : decode cX5_worked 175 = .ok (.iload_n 2, 1) := by decide +kernel
theorem dX5_worked_176 : decode cX5_worked 176 = .ok (.iload_n 3, 1) := by decide +kernel
theorem dX5_worked_177 : decode cX5_worked 177 = .ok (.iconst 0, 1) := by decide +kernel
theorem dX5_worked_178 : decode cX5_worked 178 = .ok (.iload 4, 2) := by decide +kernel
theorem dX5_worked_180 : decode cX5_worked 180 = .ok (.iload 5, 2) := by decide +kernel
theorem dX5_worked_182 : decode cX5_worked 182 = .ok (.invokevirtual 32, 3) := by decide +kernel
theorem dX5_worked_185 : decode cX5_worked 185 = .ok (.iconst 3, 1) := by decide +kernel
theorem dX5_worked_186 : decode cX5_worked 186 = .ok (.iadd, 1) := by decide +kernel
theorem dX5_worked_187 : decode cX5_worked 187 = .ok (.ireturn, 1) := by decide +kernel
theorem dX5_worked_188 : decode cX5_worked 188 = .ok (.aload_n 0, 1) := by decide +kernel
theorem dX5_worked_189 : decode cX5_worked 189 = .ok (.iload_n 2, 1) := by decide +kernel
theorem dX5_worked_190 : decode cX5_worked 190 = .ok (.iload_n 3, 1) := by decide +kernel
theorem dX5_worked_191 : decode cX5_worked 191 = .ok (.iconst 1, 1) := by decide +kernel
theorem dX5_worked_192 : decode cX5_worked 192 = .ok (.iload 4, 2) := by decide +kernel
theorem dX5_worked_194 : decode cX5_worked 194 = .ok (.iload 5, 2) := by decide +kernel
theorem dX5_worked_196 : decode cX5_worked 196 = .ok (.invokevirtual 32, 3) := by decide +kernel
theorem dX5_worked_199 : decode cX5_worked 199 = .ok (.ineg, 1) := by decide +kernel
theorem dX5_worked_200 : decode cX5_worked 200 = .ok (.ireturn, 1) := by decide +kernel
theorem dX5_worked_201 : decode cX5_worked 201 = .ok (.aload_n 0, 1) := by decide +kernel
theorem dX5_worked_202 : decode cX5_worked 202 = .ok (.iload_n 2, 1) := by decide +kernel
theorem dX5_worked_203 : decode cX5_worked 203 = .ok (.iload_n 3, 1) := by decide +kernel
theorem dX5_worked_204 : decode cX5_worked 204 = .ok (.iconst 2, 1) := by decide +kernel
theorem dX5_worked_205 : decode cX5_worked 205 = .ok (.iload 4, 2) := by decide +kernel
theorem dX5_worked_207 : decode cX5_worked 207 = .ok (.iload 5, 2) := by decide +kernel
theorem dX5_worked_209 : decode cX5_worked 209 = .ok (.invokevirtual 32, 3) := by decide +kernel
theorem dX5_worked_212 : decode cX5_worked 212 = .ok (.iconst 3, 1) := by decide +kernel
theorem dX5_worked_213 : decode cX5_worked 213 = .ok (.imul, 1) := by decide +kernel
theorem dX5_worked_214 : decode cX5_worked 214 = .ok (.ireturn, 1) := by decide +kernel
theorem dX5_worked_215 : decode cX5_worked 215 = .ok (.aload_n 0, 1) := by decide +kernel
theorem dX5_worked_216 : decode cX5_worked 216 = .ok (.iload_n 2, 1) := by decide +kernel
theorem dX5_worked_217 : decode cX5_worked 217 = .ok (.iload_n 3, 1) := by decide +kernel
theorem dX5_worked_218 : decode cX5_worked 218 = .ok (.iconst 1, 1) := by decide +kernel
theorem dX5_worked_219 : decode cX5_worked 219 = .ok (.iload 4, 2) := by decide +kernel
theorem dX5_worked_221 : decode cX5_worked 221 = .ok (.iconst 1, 1) := by decide +kernel
theorem dX5_worked_222 : decode cX5_worked 222 = .ok (.iadd, 1) := by decide +kernel
theorem dX5_worked_223 : decode cX5_worked 223 = .ok (.iload 5, 2) := by decide +kernel
theorem dX5_worked_225 : decode cX5_worked 225 = .ok (.invokevirtual 32, 3) := by decide +kernel
theorem dX5_worked_228 : decode cX5_worked 228 = .ok (.ireturn, 1) := by decide +kernel
theorem dX5_worked_229 : decode cX5_worked 229 = .ok (.aload_n 0, 1) := by decide +kernel
theorem dX5_worked_230 : decode cX5_worked 230 = .ok (.iload_n 2, 1) := by decide +kernel
theorem dX5_worked_231 : decode cX5_worked 231 = .ok (.iload_n 3, 1) := by decide +kernel
theorem dX5_worked_232 : decode cX5_worked 232 = .ok (.iconst 2, 1) := by decide +kernel
theorem dX5_worked_233 : decode cX5_worked 233 = .ok (.iload 4, 2) := by decide +kernel
theorem dX5_worked_235 : decode cX5_worked 235 = .ok (.iload 5, 2) := by decide +kernel
theorem dX5_worked_237 : decode cX5_worked 237 = .ok (.invokevirtual 32, 3) := by decide +kernel
theorem dX5_worked_240 : decode cX5_worked 240 = .ok (.aload_n 0, 1) := by decide +kernel
theorem dX5_worked_241 : decode cX5_worked 241 = .ok (.iload_n 2, 1) := by decide +kernel
theorem dX5_worked_242 : decode cX5_worked 242 = .ok (.iload 6, 2) := by decide +kernel
theorem dX5_worked_244 : decode cX5_worked 244 = .ok (.iconst 0, 1) := by decide +kernel
theorem dX5_worked_245 : decode cX5_worked 245 = .ok (.iconst 2, 1) := by decide +kernel
theorem dX5_worked_246 : decode cX5_worked 246 = .ok (.iload 5, 2) := by decide +kernel
theorem dX5_worked_248 : decode cX5_worked 248 = .ok (.invokevirtual 32, 3) := by decide +kernel
theorem dX5_worked_251 : decode cX5_worked 251 = .ok (.isub, 1) := by decide +kernel
theorem dX5_worked_252 : decode cX5_worked 252 = .ok (.ireturn, 1) := by decide +kernel
theorem dX5_worked_253 : decode cX5_worked 253 = .ok (.aload_n 0, 1) := by decide +kernel
theorem dX5_worked_254 : decode cX5_worked 254 = .ok (.iload_n 2, 1) := by decide +kernel
theorem dX5_worked_255 : decode cX5_worked 255 = .ok (.iload_n 3, 1) := by decide +kernel
theorem dX5_worked_256 : decode cX5_worked 256 = .ok (.iconst 3, 1) := by decide +kernel
theorem dX5_worked_257 : decode cX5_worked 257 = .ok (.iload 4, 2) := by decide +kernel
theorem dX5_worked_259 : decode cX5_worked 259 = .ok (.iload 5, 2) := by decide +kernel
theorem dX5_worked_261 : decode cX5_worked 261 = .ok (.invokevirtual 32, 3) := by decide +kernel
theorem dX5_worked_264 : decode cX5_worked 264 = .ok (.iconst 5, 1) := by decide +kernel
theorem dX5_worked_265 : decode cX5_worked 265 = .ok (.ixor, 1) := by decide +kernel
theorem dX5_worked_266 : decode cX5_worked 266 = .ok (.ireturn, 1) := by decide +kernel
theorem dX5_worked_267 : decode cX5_worked 267 = .ok (.aload_n 0, 1) := by decide +kernel
theorem dX5_worked_268 : decode cX5_worked 268 = .ok (.iload_n 2, 1) := by decide +kernel
theorem dX5_worked_269 : decode cX5_worked 269 = .ok (.iload_n 3, 1) := by decide +kernel
theorem dX5_worked_270 : decode cX5_worked 270 = .ok (.iconst 0, 1) := by decide +kernel
theorem dX5_worked_271 : decode cX5_worked 271 = .ok (.iload 4, 2) := by decide +kernel
theorem dX5_worked_273 : decode cX5_worked 273 = .ok (.iload 5, 2) := by decide +kernel
theorem dX5_worked_275 : decode cX5_worked 275 = .ok (.invokevirtual 32, 3) := by decide +kernel
theorem dX5_worked_278 : decode cX5_worked 278 = .ok (.iconst 2, 1) := by decide +kernel
theorem dX5_worked_279 : decode cX5_worked 279 = .ok (.imul, 1) := by decide +kernel
theorem dX5_worked_280 : decode cX5_worked 280 = .ok (.ireturn, 1) := by decide +kernel
theorem dX5_worked_281 : decode cX5_worked 281 = .ok (.aload_n 0, 1) := by decide +kernel
theorem dX5_worked_282 : decode cX5_worked 282 = .ok (.iload_n 2, 1) := by decide +kernel
theorem dX5_worked_283 : decode cX5_worked 283 = .ok (.iload_n 3, 1) := by decide +kernel
theorem dX5_worked_284 : decode cX5_worked 284 = .ok (.iconst 1, 1) := by decide +kernel
theorem dX5_worked_285 : decode cX5_worked 285 = .ok (.iload 4, 2) := by decide +kernel
theorem dX5_worked_287 : decode cX5_worked 287 = .ok (.iload 5, 2) := by decide +kernel
theorem dX5_worked_289 : decode cX5_worked 289 = .ok (.invokevirtual 32, 3) := by decide +kernel
theorem dX5_worked_292 : decode cX5_worked 292 = .ok (.aload_n 0, 1) := by decide +kernel
theorem dX5_worked_293 : decode cX5_worked 293 = .ok (.iload_n 2, 1) := by decide +kernel
theorem dX5_worked_294 : decode cX5_worked 294 = .ok (.iload 6, 2) := by decide +kernel
theorem dX5_worked_296 : decode cX5_worked 296 = .ok (.iconst 2, 1) := by decide +kernel
theorem dX5_worked_297 : decode cX5_worked 297 = .ok (.iconst 2, 1) := by decide +kernel
theorem dX5_worked_298 : decode cX5_worked 298 = .ok (.iload 5, 2) := by decide +kernel
theorem dX5_worked_300 : decode cX5_worked 300 = .ok (.invokevirtual 32, 3) := by decide +kernel
theorem dX5_worked_303 : decode cX5_worked 303 = .ok (.iadd, 1) := by decide +kernel
theorem dX5_worked_304 : decode cX5_worked 304 = .ok (.ireturn, 1) := by decide +kernel
theorem dX5_worked_305 : decode cX5_worked 305 = .ok (.aload_n 0, 1) := by decide +kernel
theorem dX5_worked_306 : decode cX5_worked 306 = .ok (.iload_n 2, 1) := by decide +kernel
theorem dX5_worked_307 : decode cX5_worked 307 = .ok (.iload_n 3, 1) := by decide +kernel
theorem dX5_worked_308 : decode cX5_worked 308 = .ok (.iconst 3, 1) := by decide +kernel
theorem dX5_worked_309 : decode cX5_worked 309 = .ok (.iload 4, 2) := by decide +kernel
theorem dX5_worked_311 : decode cX5_worked 311 = .ok (.iload 5, 2) := by decide +kernel
theorem dX5_worked_313 : decode cX5_worked 313 = .ok (.invokevirtual 32, 3) := by decide +kernel
theorem dX5_worked_316 : decode cX5_worked 316 = .ok (.iconst 1, 1) := by decide +kernel
theorem dX5_worked_317 : decode cX5_worked 317 = .ok (.isub, 1) := by decide +kernel
theorem dX5_worked_318 : decode cX5_worked 318 = .ok (.ireturn, 1) := by decide +kernel
theorem dX5_worked_319 : decode cX5_worked 319 = .ok (.iconst 0, 1) := by decide +kernel
theorem dX5_worked_320 : decode cX5_worked 320 = .ok (.ireturn, 1) := by decide +kernel
theorem dX6_init_0 : decode cX6_init 0 = .ok (.aload_n 0, 1) := by decide +kernel
theorem dX6_init_1 : decode cX6_init 1 = .ok (.invokespecial 3, 3) := by decide +kernel
theorem dX6_init_4 : decode cX6_init 4 = .ok (.aload_n 0, 1) := by decide +kernel
theorem dX6_init_5 : decode cX6_init 5 = .ok (.bipush 120, 2) := by decide +kernel
theorem dX6_init_7 : decode cX6_init 7 = .ok (.newarray .int, 2) := by decide +kernel
theorem dX6_init_9 : decode cX6_init 9 = .ok (.putfield 9, 3) := by decide +kernel
theorem dX6_init_12 : decode cX6_init 12 = .ok (.return_, 1) := by decide +kernel
theorem dX6_take_0 : decode cX6_take 0 = .ok (.aload_n 0, 1) := by decide +kernel
theorem dX6_take_1 : decode cX6_take 1 = .ok (.getfield 15, 3) := by decide +kernel
theorem dX6_take_4 : decode cX6_take 4 = .ok (.bipush 120, 2) := by decide +kernel
theorem dX6_take_6 : decode cX6_take 6 = .ok (.if_icmp .lt 5, 3) := by decide +kernel
theorem dX6_take_9 : decode cX6_take 9 = .ok (.iconst 0, 1) := by decide +kernel
theorem dX6_take_10 : decode cX6_take 10 = .ok (.ireturn, 1) := by decide +kernel
theorem dX6_take_11 : decode cX6_take 11 = .ok (.aload_n 0, 1) := by decide +kernel
theorem dX6_take_12 : decode cX6_take 12 = .ok (.getfield 9, 3) := by decide +kernel
theorem dX6_take_15 : decode cX6_take 15 = .ok (.aload_n 0, 1) := by decide +kernel
theorem dX6_take_16 : decode cX6_take 16 = .ok (.getfield 15, 3) := by decide +kernel
theorem dX6_take_19 : decode cX6_take 19 = .ok (.iload_n 1, 1) := by decide +kernel
theorem dX6_take_20 : decode cX6_take 20 = .ok (.iastore, 1) := by decide +kernel
theorem dX6_take_21 : decode cX6_take 21 = .ok (.aload_n 0, 1) := by decide +kernel
theorem dX6_take_22 : decode cX6_take 22 = .ok (.dup, 1) := by decide +kernel
theorem dX6_take_23 : decode cX6_take 23 = .ok (.getfield 15, 3) := by decide +kernel
theorem dX6_take_26 : decode cX6_take 26 = .ok (.iconst 1, 1) := by decide +kernel
theorem dX6_take_27 : decode cX6_take 27 = .ok (.iadd, 1) := by decide +kernel
theorem dX6_take_28 : decode cX6_take 28 = .ok (.putfield 15, 3) := by decide +kernel
theorem dX6_take_31 : decode cX6_take 31 = .ok (.iconst 1, 1) := by decide +kernel
theorem dX6_take_32 : decode cX6_take 32 = .ok (.ireturn, 1) := by decide +kernel
theorem dX6_readInto_0 : decode cX6_readInto 0 = .ok (.aload_n 0, 1) := by decide +kernel
theorem dX6_readInto_1 : decode cX6_readInto 1 = .ok (.aload_n 1, 1) := by decide +kernel
theorem dX6_readInto_2 : decode cX6_readInto 2 = .ok (.putfield 19, 3) := by decide +kernel
theorem dX6_readInto_5 : decode cX6_readInto 5 = .ok (.aload_n 0, 1) := by decide +kernel
theorem dX6_readInto_6 : decode cX6_readInto 6 = .ok (.getfield 19, 3) := by decide +kernel
theorem dX6_readInto_9 : decode cX6_readInto 9 = .ok (.invokevirtual 23, 3) := by decide +kernel
theorem dX6_readInto_12 : decode cX6_readInto 12 = .ok (.aload_n 0, 1) := by decide +kernel
theorem dX6_readInto_13 : decode cX6_readInto 13 = .ok (.iconst 0, 1) := by decide +kernel
theorem dX6_readInto_14 : decode cX6_readInto 14 = .ok (.putfield 28, 3) := by decide +kernel
theorem dX6_readInto_17 : decode cX6_readInto 17 = .ok (.iconst 0, 1) := by decide +kernel
theorem dX6_readInto_18 : decode cX6_readInto 18 = .ok (.istore_n 2, 1) := by decide +kernel
theorem dX6_readInto_19 : decode cX6_readInto 19 = .ok (.iload_n 2, 1) := by decide +kernel
theorem dX6_readInto_20 : decode cX6_readInto 20 = .ok (.aload_n 0, 1) := by decide +kernel
theorem dX6_readInto_21 : decode cX6_readInto 21 = .ok (.getfield 15, 3) := by decide +kernel
theorem dX6_readInto_24 : decode cX6_readInto 24 = .ok (.if_icmp .gt 58, 3) := by decide +kernel
theorem dX6_readInto_27 : decode cX6_readInto 27 = .ok (.aload_n 0, 1) := by decide +kernel
theorem dX6_readInto_28 : decode cX6_readInto 28 = .ok (.invokevirtual 31, 3) := by decide +kernel
theorem dX6_readInto_31 : decode cX6_readInto 31 = .ok (.ifCond .ne 8, 3) := by decide +kernel
theorem dX6_readInto_34 : decode cX6_readInto 34 = .ok (.aload_n 0, 1) := by decide +kernel
theorem dX6_readInto_35 : decode cX6_readInto 35 = .ok (.getfield 28, 3) := by decide +kernel
theorem dX6_readInto_38 : decode cX6_readInto 38 = .ok (.ireturn, 1) := by decide +kernel
theorem dX6_readInto_39 : decode cX6_readInto 39 = .ok (.aload_n 0, 1) := by decide +kernel
theorem dX6_readInto_40 : decode cX6_readInto 40 = .ok (.getfield 28, 3) := by decide +kernel
theorem dX6_readInto_43 : decode cX6_readInto 43 = .ok (.aload_n 0, 1) := by decide +kernel
theorem dX6_readInto_44 : decode cX6_readInto 44 = .ok (.getfield 15, 3) := by decide +kernel
theorem dX6_readInto_47 : decode cX6_readInto 47 = .ok (.if_icmp .lt 5, 3) := by decide +kernel
theorem dX6_readInto_50 : decode cX6_readInto 50 = .ok (.iconst (-1), 1) := by decide +kernel
theorem dX6_readInto_51 : decode cX6_readInto 51 = .ok (.ireturn, 1) := by decide +kernel
theorem dX6_readInto_52 : decode cX6_readInto 52 = .ok (.aload_n 0, 1) := by decide +kernel
theorem dX6_readInto_53 : decode cX6_readInto 53 = .ok (.invokevirtual 35, 3) := by decide +kernel
theorem dX6_readInto_56 : decode cX6_readInto 56 = .ok (.bipush 59, 2) := by decide +kernel
theorem dX6_readInto_58 : decode cX6_readInto 58 = .ok (.if_icmp .eq 8, 3) := by decide +kernel
theorem dX6_readInto_61 : decode cX6_readInto 61 = .ok (.aload_n 0, 1) := by decide +kernel
theorem dX6_readInto_62 : decode cX6_readInto 62 = .ok (.getfield 28, 3) := by decide +kernel
theorem dX6_readInto_65 : decode cX6_readInto 65 = .ok (.ireturn, 1) := by decide +kernel
theorem dX6_readInto_66 : decode cX6_readInto 66 = .ok (.aload_n 0, 1) := by decide +kernel
theorem dX6_readInto_67 : decode cX6_readInto 67 = .ok (.dup, 1) := by decide +kernel
theorem dX6_readInto_68 : decode cX6_readInto 68 = .ok (.getfield 28, 3) := by decide +kernel
theorem dX6_readInto_71 : decode cX6_readInto 71 = .ok (.iconst 1, 1) := by decide +kernel
theorem dX6_readInto_72 : decode cX6_readInto 72 = .ok (.iadd, 1) := by decide +kernel
theorem dX6_readInto_73 : decode cX6_readInto 73 = .ok (.putfield 28, 3) := by decide +kernel
theorem dX6_readInto_76 : decode cX6_readInto 76 = .ok (.iinc 2 1, 3) := by decide +kernel
theorem dX6_readInto_79 : decode cX6_readInto 79 = .ok (.goto (-60), 3) := by decide +kernel
theorem dX6_readInto_82 : decode cX6_readInto 82 = .ok (.aload_n 0, 1) := by decide +kernel
theorem dX6_readInto_83 : decode cX6_readInto 83 = .ok (.getfield 28, 3) := by decide +kernel
theorem dX6_readInto_86 : decode cX6_readInto 86 = .ok (.ireturn, 1) := by decide +kernel
theorem dX6_readLine_0 : decode cX6_readLine 0 = .ok (.aload_n 0, 1) := by decide +kernel
theorem dX6_readLine_1 : decode cX6_readLine 1 = .ok (.iconst 0, 1) := by decide +kernel
theorem dX6_readLine_2 : decode cX6_readLine 2 = .ok (.iconst 0, 1) := by decide +kernel
theorem dX6_readLine_3 : decode cX6_readLine 3 = .ok (.invokevirtual 39, 3) := by decide +kernel
theorem dX6_readLine_6 : decode cX6_readLine 6 = .ok (.ifCond .ne 5, 3) := by decide +kernel
theorem dX6_readLine_9 : decode cX6_readLine 9 = .ok (.iconst 0, 1) := by decide +kernel
theorem dX6_readLine_10 : decode cX6_readLine 10 = .ok (.ireturn, 1) := by decide +kernel
theorem dX6_readLine_11 : decode cX6_readLine 11 = .ok (.aload_n 0, 1) := by decide +kernel
theorem dX6_readLine_12 : decode cX6_readLine 12 = .ok (.invokevirtual 35, 3) := by decide +kernel
theorem dX6_readLine_15 : decode cX6_readLine 15 = .ok (.bipush 63, 2) := by decide +kernel
theorem dX6_readLine_17 : decode cX6_readLine 17 = .ok (.if_icmp .ne 7, 3) := by decide +kernel
theorem dX6_readLine_20 : decode cX6_readLine 20 = .ok (.iconst 1, 1) := by decide +kernel
theorem dX6_readLine_21 : decode cX6_readLine 21 = .ok (.goto 4, 3) := by decide +kernel
theorem dX6_readLine_24 : decode cX6_readLine 24 = .ok (.iconst 0, 1) := by decide +kernel
theorem dX6_readLine_25 : decode cX6_readLine 25 = .ok (.istore_n 1, 1) := by decide +kernel
theorem dX6_readLine_26 : decode cX6_readLine 26 = .ok (.aload_n 0, 1) := by decide +kernel
theorem dX6_readLine_27 : decode cX6_readLine 27 = .ok (.getfield 19, 3) := by decide +kernel
theorem dX6_readLine_30 : decode cX6_readLine 30 = .ok (.iload_n 1, 1) := by decide +kernel
theorem dX6_readLine_31 : decode cX6_readLine 31 = .ok (.invokevirtual 43, 3) := by decide +kernel
theorem dX6_readLine_34 : decode cX6_readLine 34 = .ok (.iload_n 1, 1) := by decide +kernel
theorem dX6_readLine_35 : decode cX6_readLine 35 = .ok (.ifCond .ne 5, 3) := by decide +kernel
theorem dX6_readLine_38 : decode cX6_readLine 38 = .ok (.iconst 1, 1) := by decide +kernel
theorem dX6_readLine_39 : decode cX6_readLine 39 = .ok (.ireturn, 1) := by decide +kernel
theorem dX6_readLine_40 : decode cX6_readLine 40 = .ok (.aload_n 0, 1) := by decide +kernel
theorem dX6_readLine_41 : decode cX6_readLine 41 = .ok (.dup, 1) := by decide +kernel
theorem dX6_readLine_42 : decode cX6_readLine 42 = .ok (.getfield 28, 3) := by decide +kernel
theorem dX6_readLine_45 : decode cX6_readLine 45 = .ok (.iconst 1, 1) := by decide +kernel
theorem dX6_readLine_46 : decode cX6_readLine 46 = .ok (.iadd, 1) := by decide +kernel
theorem dX6_readLine_47 : decode cX6_readLine 47 = .ok (.putfield 28, 3) := by decide +kernel
theorem dX6_readLine_50 : decode cX6_readLine 50 = .ok (.aload_n 0, 1) := by decide +kernel
theorem dX6_readLine_51 : decode cX6_readLine 51 = .ok (.iconst 0, 1) := by decide +kernel
theorem dX6_readLine_52 : decode cX6_readLine 52 = .ok (.iconst 0, 1) := by decide +kernel
theorem dX6_readLine_53 : decode cX6_readLine 53 = .ok (.invokevirtual 39, 3) := by decide +kernel
theorem dX6_readLine_56 : decode cX6_readLine 56 = .ok (.ifCond .ne 5, 3) := by decide +kernel
theorem dX6_readLine_59 : decode cX6_readLine 59 = .ok (.iconst 0, 1) := by decide +kernel
theorem dX6_readLine_60 : decode cX6_readLine 60 = .ok (.ireturn, 1) := by decide +kernel
theorem dX6_readLine_61 : decode cX6_readLine 61 = .ok (.aload_n 0, 1) := by decide +kernel
theorem dX6_readLine_62 : decode cX6_readLine 62 = .ok (.getfield 19, 3) := by decide +kernel
theorem dX6_readLine_65 : decode cX6_readLine 65 = .ok (.iconst 0, 1) := by decide +kernel
theorem dX6_readLine_66 : decode cX6_readLine 66 = .ok (.invokevirtual 43, 3) := by decide +kernel
theorem dX6_readLine_69 : decode cX6_readLine 69 = .ok (.iconst 1, 1) := by decide +kernel
theorem dX6_readLine_70 : decode cX6_readLine 70 = .ok (.ireturn, 1) := by decide +kernel
theorem dX6_readJoined_0 : decode cX6_readJoined 0 = .ok (.iload_n 1, 1) := by decide +kernel
theorem dX6_readJoined_1 : decode cX6_readJoined 1 = .ok (.iconst 5, 1) := by decide +kernel
theorem dX6_readJoined_2 : decode cX6_readJoined 2 = .ok (.if_icmp .lt 9, 3) := by decide +kernel
theorem dX6_readJoined_5 : decode cX6_readJoined 5 = .ok (.aload_n 0, 1) := by decide +kernel
theorem dX6_readJoined_6 : decode cX6_readJoined 6 = .ok (.iload_n 2, 1) := by decide +kernel
theorem dX6_readJoined_7 : decode cX6_readJoined 7 = .ok (.invokevirtual 47, 3) := by decide +kernel
theorem dX6_readJoined_10 : decode cX6_readJoined 10 = .ok (.ireturn, 1) := by decide +kernel
theorem dX6_readJoined_11 : decode cX6_readJoined 11 = .ok (.aload_n 0, 1) := by decide +kernel
theorem dX6_readJoined_12 : decode cX6_readJoined 12 = .ok (.iload_n 1, 1) := by decide +kernel
theorem dX6_readJoined_13 : decode cX6_readJoined 13 = .ok (.iconst 1, 1) := by decide +kernel
theorem dX6_readJoined_14 : decode cX6_readJoined 14 = .ok (.iadd, 1) := by decide +kernel
theorem dX6_readJoined_15 : decode cX6_readJoined 15 = .ok (.iload_n 2, 1) := by decide +kernel
theorem dX6_readJoined_16 : decode cX6_readJoined 16 = .ok (.invokevirtual 39, 3) := by decide +kernel
theorem dX6_readJoined_19 : decode cX6_readJoined 19 = .ok (.ifCond .ne 5, 3) := by decide +kernel
theorem dX6_readJoined_22 : decode cX6_readJoined 22 = .ok (.iconst 0, 1) := by decide +kernel
theorem dX6_readJoined_23 : decode cX6_readJoined 23 = .ok (.ireturn, 1) := by decide +kernel
theorem dX6_readJoined_24 : decode cX6_readJoined 24 = .ok (.iload_n 1, 1) := by decide +kernel
theorem dX6_readJoined_25 : decode cX6_readJoined 25 = .ok (.iconst 2, 1) := by decide +kernel
theorem dX6_readJoined_26 : decode cX6_readJoined 26 = .ok (.if_icmp .ne 7, 3) := by decide +kernel
theorem dX6_readJoined_29 : decode cX6_readJoined 29 = .ok (.iconst 1, 1) := by decide +kernel
theorem dX6_readJoined_30 : decode cX6_readJoined 30 = .ok (.goto 7, 3) := by decide +kernel
theorem dX6_readJoined_33 : decode cX6_readJoined 33 = .ok (.aload_n 0, 1) := by decide +kernel
theorem dX6_readJoined_34 : decode cX6_readJoined 34 = .ok (.getfield 15, 3) := by decide +kernel
theorem dX6_readJoined_37 : decode cX6_readJoined 37 = .ok (.istore_n 3, 1) := by decide +kernel
theorem dX6_readJoined_38 : decode cX6_readJoined 38 = .ok (.iconst 0, 1) := by decide +kernel
theorem dX6_readJoined_39 : decode cX6_readJoined 39 = .ok (.istore 4, 2) := by decide +kernel
theorem dX6_readJoined_41 : decode cX6_readJoined 41 = .ok (.iload 4, 2) := by decide +kernel
theorem dX6_readJoined_43 : decode cX6_readJoined 43 = .ok (.iload_n 3, 1) := by decide +kernel
theorem dX6_readJoined_44 : decode cX6_readJoined 44 = .ok (.if_icmp .ge 59, 3) := by decide +kernel
theorem dX6_readJoined_47 : decode cX6_readJoined 47 = .ok (.aload_n 0, 1) := by decide +kernel
theorem dX6_readJoined_48 : decode cX6_readJoined 48 = .ok (.invokevirtual 35, 3) := by decide +kernel
theorem dX6_readJoined_51 : decode cX6_readJoined 51 = .ok (.invokestatic 51, 3) := by decide +kernel
theorem dX6_readJoined_54 : decode cX6_readJoined 54 = .ok (.iload_n 1, 1) := by decide +kernel
theorem dX6_readJoined_55 : decode cX6_readJoined 55 = .ok (.if_icmp .ne 48, 3) := by decide +kernel
theorem dX6_readJoined_58 : decode cX6_readJoined 58 = .ok (.aload_n 0, 1) := by decide +kernel
theorem dX6_readJoined_59 : decode cX6_readJoined 59 = .ok (.invokevirtual 35, 3) := by decide +kernel
theorem dX6_readJoined_62 : decode cX6_readJoined 62 = .ok (.istore 5, 2) := by decide +kernel
theorem dX6_readJoined_64 : decode cX6_readJoined 64 = .ok (.aload_n 0, 1) := by decide +kernel
theorem dX6_readJoined_65 : decode cX6_readJoined 65 = .ok (.dup, 1) := by decide +kernel
theorem dX6_readJoined_66 : decode cX6_readJoined 66 = .ok (.getfield 28, 3) := by decide +kernel
theorem dX6_readJoined_69 : decode cX6_readJoined 69 = .ok (.iconst 1, 1) := by decide +kernel
theorem dX6_readJoined_70 : decode cX6_readJoined 70 = .ok (.iadd, 1) := by decide +kernel
theorem dX6_readJoined_71 : decode cX6_readJoined 71 = .ok (.putfield 28, 3) := by decide +kernel
theorem dX6_readJoined_74 : decode cX6_readJoined 74 = .ok (.aload_n 0, 1) := by decide +kernel
theorem dX6_readJoined_75 : decode cX6_readJoined 75 = .ok (.iload_n 1, 1) := by decide +kernel
theorem dX6_readJoined_76 : decode cX6_readJoined 76 = .ok (.iconst 1, 1) := by decide +kernel
theorem dX6_readJoined_77 : decode cX6_readJoined 77 = .ok (.iadd, 1) := by decide +kernel
theorem dX6_readJoined_78 : decode cX6_readJoined 78 = .ok (.iload_n 2, 1) := by decide +kernel
theorem dX6_readJoined_79 : decode cX6_readJoined 79 = .ok (.invokevirtual 39, 3) := by decide +kernel
theorem dX6_readJoined_82 : decode cX6_readJoined 82 = .ok (.ifCond .ne 5, 3) := by decide +kernel
theorem dX6_readJoined_85 : decode cX6_readJoined 85 = .ok (.iconst 0, 1) := by decide +kernel
theorem dX6_readJoined_86 : decode cX6_readJoined 86 = .ok (.ireturn, 1) := by decide +kernel
theorem dX6_readJoined_87 : decode cX6_readJoined 87 = .ok (.aload_n 0, 1) := by decide +kernel
theorem dX6_readJoined_88 : decode cX6_readJoined 88 = .ok (.getfield 19, 3) := by decide +kernel
theorem dX6_readJoined_91 : decode cX6_readJoined 91 = .ok (.iload 5, 2) := by decide +kernel
theorem dX6_readJoined_93 : decode cX6_readJoined 93 = .ok (.iconst 0, 1) := by decide +kernel
theorem dX6_readJoined_94 : decode cX6_readJoined 94 = .ok (.invokevirtual 55, 3) := by decide +kernel
theorem dX6_readJoined_97 : decode cX6_readJoined 97 = .ok (.iinc 4 1, 3) := by decide +kernel
theorem dX6_readJoined_100 : decode cX6_readJoined 100 = .ok (.goto (-59), 3) := by decide +kernel
theorem dX6_readJoined_103 : decode cX6_readJoined 103 = .ok (.iconst 1, 1) := by decide +kernel
theorem dX6_readJoined_104 : decode cX6_readJoined 104 = .ok (.ireturn, 1) := by decide +kernel
theorem dX6_readOperand_0 : decode cX6_readOperand 0 = .ok (.aload_n 0, 1) := by decide +kernel
theorem dX6_readOperand_1 : decode cX6_readOperand 1 = .ok (.invokevirtual 35, 3) := by decide +kernel
theorem dX6_readOperand_4 : decode cX6_readOperand 4 = .ok (.istore_n 2, 1) := by decide +kernel
theorem dX6_readOperand_5 : decode cX6_readOperand 5 = .ok (.iload_n 2, 1) := by decide +kernel
theorem dX6_readOperand_6 : decode cX6_readOperand 6 = .ok (.invokestatic 59, 3) := by decide +kernel
theorem dX6_readOperand_9 : decode cX6_readOperand 9 = .ok (.ifCond .eq 9, 3) := by decide +kernel
theorem dX6_readOperand_12 : decode cX6_readOperand 12 = .ok (.aload_n 0, 1) := by decide +kernel
theorem dX6_readOperand_13 : decode cX6_readOperand 13 = .ok (.invokevirtual 62, 3) := by decide +kernel
theorem dX6_readOperand_16 : decode cX6_readOperand 16 = .ok (.iconst 1, 1) := by decide +kernel
theorem dX6_readOperand_17 : decode cX6_readOperand 17 = .ok (.ireturn, 1) := by decide +kernel
theorem dX6_readOperand_18 : decode cX6_readOperand 18 = .ok (.iload_n 2, 1) := by decide +kernel
theorem dX6_readOperand_19 : decode cX6_readOperand 19 = .ok (.invokestatic 65, 3) := by decide +kernel
theorem dX6_readOperand_22 : decode cX6_readOperand 22 = .ok (.ifCond .lt 28, 3) := by decide +kernel
theorem dX6_readOperand_25 : decode cX6_readOperand 25 = .ok (.aload_n 0, 1) := by decide +kernel
theorem dX6_readOperand_26 : decode cX6_readOperand 26 = .ok (.dup, 1) := by decide +kernel
theorem dX6_readOperand_27 : decode cX6_readOperand 27 = .ok (.getfield 28, 3) := by decide +kernel
theorem dX6_readOperand_30 : decode cX6_readOperand 30 = .ok (.iconst 1, 1) := by decide +kernel
theorem dX6_readOperand_31 : decode cX6_readOperand 31 = .ok (.iadd, 1) := by decide +kernel
theorem dX6_readOperand_32 : decode cX6_readOperand 32 = .ok (.putfield 28, 3) := by decide +kernel
theorem dX6_readOperand_35 : decode cX6_readOperand 35 = .ok (.aload_n 0, 1) := by decide +kernel
theorem dX6_readOperand_36 : decode cX6_readOperand 36 = .ok (.getfield 19, 3) := by decide +kernel
theorem dX6_readOperand_39 : decode cX6_readOperand 39 = .ok (.bipush 97, 2) := by decide +kernel
theorem dX6_readOperand_41 : decode cX6_readOperand 41 = .ok (.iload_n 2, 1) := by decide +kernel
theorem dX6_readOperand_42 : decode cX6_readOperand 42 = .ok (.invokestatic 65, 3) := by decide +kernel
theorem dX6_readOperand_45 : decode cX6_readOperand 45 = .ok (.invokevirtual 55, 3) := by decide +kernel
theorem dX6_readOperand_48 : decode cX6_readOperand 48 = .ok (.iconst 1, 1) := by decide +kernel
theorem dX6_readOperand_49 : decode cX6_readOperand 49 = .ok (.ireturn, 1) := by decide +kernel
theorem dX6_readOperand_50 : decode cX6_readOperand 50 = .ok (.iload_n 2, 1) := by decide +kernel
theorem dX6_readOperand_51 : decode cX6_readOperand 51 = .ok (.bipush 33, 2) := by decide +kernel
theorem dX6_readOperand_53 : decode cX6_readOperand 53 = .ok (.if_icmp .eq 15, 3) := by decide +kernel
theorem dX6_readOperand_56 : decode cX6_readOperand 56 = .ok (.iload_n 2, 1) := by decide +kernel
theorem dX6_readOperand_57 : decode cX6_readOperand 57 = .ok (.bipush 45, 2) := by decide +kernel
theorem dX6_readOperand_59 : decode cX6_readOperand 59 = .ok (.if_icmp .eq 9, 3) := by decide +kernel
theorem dX6_readOperand_62 : decode cX6_readOperand 62 = .ok (.iload_n 2, 1) := by decide +kernel
theorem dX6_readOperand_63 : decode cX6_readOperand 63 = .ok (.bipush 40, 2) := by decide +kernel
theorem dX6_readOperand_65 : decode cX6_readOperand 65 = .ok (.if_icmp .ne 9, 3) := by decide +kernel
theorem dX6_readOperand_68 : decode cX6_readOperand 68 = .ok (.iload_n 1, 1) := by decide +kernel
theorem dX6_readOperand_69 : decode cX6_readOperand 69 = .ok (.bipush 6, 2) := by decide +kernel
theorem dX6_readOperand_71 : decode cX6_readOperand 71 = .ok (.if_icmp .lt 5, 3) := by decide +kernel
theorem dX6_readOperand_74 : decode cX6_readOperand 74 = .ok (.iconst 0, 1) := by decide +kernel
theorem dX6_readOperand_75 : decode cX6_readOperand 75 = .ok (.ireturn, 1) := by decide +kernel
theorem dX6_readOperand_76 : decode cX6_readOperand 76 = .ok (.aload_n 0, 1) := by decide +kernel
theorem dX6_readOperand_77 : decode cX6_readOperand 77 = .ok (.dup, 1) := by decide +kernel
theorem dX6_readOperand_78 : decode cX6_readOperand 78 = .ok (.getfield 28, 3) := by decide +kernel
theorem dX6_readOperand_81 : decode cX6_readOperand 81 = .ok (.iconst 1, 1) := by decide +kernel
theorem dX6_readOperand_82 : decode cX6_readOperand 82 = .ok (.iadd, 1) := by decide +kernel
theorem dX6_readOperand_83 : decode cX6_readOperand 83 = .ok (.putfield 28, 3) := by decide +kernel
theorem dX6_readOperand_86 : decode cX6_readOperand 86 = .ok (.iload_n 2, 1) := by decide +kernel
theorem dX6_readOperand_87 : decode cX6_readOperand 87 = .ok (.bipush 40, 2) := by decide +kernel
theorem dX6_readOperand_89 : decode cX6_readOperand 89 = .ok (.if_icmp .ne 13, 3) := by decide +kernel
theorem dX6_readOperand_92 : decode cX6_readOperand 92 = .ok (.aload_n 0, 1) := by decide +kernel
theorem dX6_readOperand_93 : decode cX6_readOperand 93 = .ok (.iload_n 1, 1) := by decide +kernel
theorem dX6_readOperand_94 : decode cX6_readOperand 94 = .ok (.iconst 1, 1) := by decide +kernel
theorem dX6_readOperand_95 : decode cX6_readOperand 95 = .ok (.iadd, 1) := by decide +kernel
theorem dX6_readOperand_96 : decode cX6_readOperand 96 = .ok (.invokevirtual 68, 3) := by decide +kernel
theorem dX6_readOperand_99 : decode cX6_readOperand 99 = .ok (.goto 11, 3) := by decide +kernel
theorem dX6_readOperand_102 : decode cX6_readOperand 102 = .ok (.aload_n 0, 1) := by decide +kernel
theorem dX6_readOperand_103 : decode cX6_readOperand 103 = .ok (.iload_n 2, 1) := by decide +kernel
theorem dX6_readOperand_104 : decode cX6_readOperand 104 = .ok (.iload_n 1, 1) := by decide +kernel
theorem dX6_readOperand_105 : decode cX6_readOperand 105 = .ok (.iconst 1, 1) := by decide +kernel
theorem dX6_readOperand_106 : decode cX6_readOperand 106 = .ok (.iadd, 1) := by decide +kernel
theorem dX6_readOperand_107 : decode cX6_readOperand 107 = .ok (.invokevirtual 71, 3) := by decide +kernel
theorem dX6_readOperand_110 : decode cX6_readOperand 110 = .ok (.ireturn, 1) := by decide +kernel
theorem dX6_readToClose_0 : decode cX6_readToClose 0 = .ok (.aload_n 0, 1) := by decide +kernel
theorem dX6_readToClose_1 : decode cX6_readToClose 1 = .ok (.iconst 0, 1) := by decide +kernel
theorem dX6_readToClose_2 : decode cX6_readToClose 2 = .ok (.iload_n 1, 1) := by decide +kernel
theorem dX6_readToClose_3 : decode cX6_readToClose 3 = .ok (.invokevirtual 39, 3) := by decide +kernel
theorem dX6_readToClose_6 : decode cX6_readToClose 6 = .ok (.ifCond .eq 12, 3) := by decide +kernel
theorem dX6_readToClose_9 : decode cX6_readToClose 9 = .ok (.aload_n 0, 1) := by decide +kernel
theorem dX6_readToClose_10 : decode cX6_readToClose 10 = .ok (.invokevirtual 35, 3) := by decide +kernel
theorem dX6_readToClose_13 : decode cX6_readToClose 13 = .ok (.bipush 41, 2) := by decide +kernel
theorem dX6_readToClose_15 : decode cX6_readToClose 15 = .ok (.if_icmp .eq 5, 3) := by decide +kernel
theorem dX6_readToClose_18 : decode cX6_readToClose 18 = .ok (.iconst 0, 1) := by decide +kernel
theorem dX6_readToClose_19 : decode cX6_readToClose 19 = .ok (.ireturn, 1) := by decide +kernel
theorem dX6_readToClose_20 : decode cX6_readToClose 20 = .ok (.aload_n 0, 1) := by decide +kernel
theorem dX6_readToClose_21 : decode cX6_readToClose 21 = .ok (.dup, 1) := by decide +kernel
theorem dX6_readToClose_22 : decode cX6_readToClose 22 = .ok (.getfield 28, 3) := by decide +kernel
theorem dX6_readToClose_25 : decode cX6_readToClose 25 = .ok (.iconst 1, 1) := by decide +kernel
theorem dX6_readToClose_26 : decode cX6_readToClose 26 = .ok (.iadd, 1) := by decide +kernel
theorem dX6_readToClose_27 : decode cX6_readToClose 27 = .ok (.putfield 28, 3) := by decide +kernel
theorem dX6_readToClose_30 : decode cX6_readToClose 30 = .ok (.iconst 1, 1) := by decide +kernel
theorem dX6_readToClose_31 : decode cX6_readToClose 31 = .ok (.ireturn, 1) := by decide +kernel
theorem dX6_readAhead_0 : decode cX6_readAhead 0 = .ok (.aload_n 0, 1) := by decide +kernel
theorem dX6_readAhead_1 : decode cX6_readAhead 1 = .ok (.iload_n 2, 1) := by decide +kernel
theorem dX6_readAhead_2 : decode cX6_readAhead 2 = .ok (.invokevirtual 47, 3) := by decide +kernel
theorem dX6_readAhead_5 : decode cX6_readAhead 5 = .ok (.ifCond .ne 5, 3) := by decide +kernel
theorem dX6_readAhead_8 : decode cX6_readAhead 8 = .ok (.iconst 0, 1) := by decide +kernel
theorem dX6_readAhead_9 : decode cX6_readAhead 9 = .ok (.ireturn, 1) := by decide +kernel
theorem dX6_readAhead_10 : decode cX6_readAhead 10 = .ok (.aload_n 0, 1) := by decide +kernel
theorem dX6_readAhead_11 : decode cX6_readAhead 11 = .ok (.getfield 19, 3) := by decide +kernel
theorem dX6_readAhead_14 : decode cX6_readAhead 14 = .ok (.iload_n 1, 1) := by decide +kernel
theorem dX6_readAhead_15 : decode cX6_readAhead 15 = .ok (.bipush 45, 2) := by decide +kernel
theorem dX6_readAhead_17 : decode cX6_readAhead 17 = .ok (.if_icmp .ne 8, 3) := by decide +kernel
theorem dX6_readAhead_20 : decode cX6_readAhead 20 = .ok (.bipush 126, 2) := by decide +kernel
theorem dX6_readAhead_22 : decode cX6_readAhead 22 = .ok (.goto 4, 3) := by decide +kernel
theorem dX6_readAhead_25 : decode cX6_readAhead 25 = .ok (.iload_n 1, 1) := by decide +kernel
theorem dX6_readAhead_26 : decode cX6_readAhead 26 = .ok (.iconst 0, 1) := by decide +kernel
theorem dX6_readAhead_27 : decode cX6_readAhead 27 = .ok (.invokevirtual 55, 3) := by decide +kernel
theorem dX6_readAhead_30 : decode cX6_readAhead 30 = .ok (.iconst 1, 1) := by decide +kernel
theorem dX6_readAhead_31 : decode cX6_readAhead 31 = .ok (.ireturn, 1) := by decide +kernel
theorem dX6_readNumber_0 : decode cX6_readNumber 0 = .ok (.iconst 0, 1) := by decide +kernel
theorem dX6_readNumber_1 : decode cX6_readNumber 1 = .ok (.istore_n 1, 1) := by decide +kernel
theorem dX6_readNumber_2 : decode cX6_readNumber 2 = .ok (.iconst 0, 1) := by decide +kernel
theorem dX6_readNumber_3 : decode cX6_readNumber 3 = .ok (.istore_n 2, 1) := by decide +kernel
theorem dX6_readNumber_4 : decode cX6_readNumber 4 = .ok (.iload_n 2, 1) := by decide +kernel
theorem dX6_readNumber_5 : decode cX6_readNumber 5 = .ok (.iconst 4, 1) := by decide +kernel
theorem dX6_readNumber_6 : decode cX6_readNumber 6 = .ok (.if_icmp .ge 42, 3) := by decide +kernel
theorem dX6_readNumber_9 : decode cX6_readNumber 9 = .ok (.aload_n 0, 1) := by decide +kernel
theorem dX6_readNumber_10 : decode cX6_readNumber 10 = .ok (.invokevirtual 35, 3) := by decide +kernel
theorem dX6_readNumber_13 : decode cX6_readNumber 13 = .ok (.invokestatic 59, 3) := by decide +kernel
theorem dX6_readNumber_16 : decode cX6_readNumber 16 = .ok (.ifCond .eq 32, 3) := by decide +kernel
theorem dX6_readNumber_19 : decode cX6_readNumber 19 = .ok (.iload_n 1, 1) := by decide +kernel
theorem dX6_readNumber_20 : decode cX6_readNumber 20 = .ok (.bipush 10, 2) := by decide +kernel
theorem dX6_readNumber_22 : decode cX6_readNumber 22 = .ok (.imul, 1) := by decide +kernel
theorem dX6_readNumber_23 : decode cX6_readNumber 23 = .ok (.aload_n 0, 1) := by decide +kernel
theorem dX6_readNumber_24 : decode cX6_readNumber 24 = .ok (.invokevirtual 35, 3) := by decide +kernel
theorem dX6_readNumber_27 : decode cX6_readNumber 27 = .ok (.iadd, 1) := by decide +kernel
theorem dX6_readNumber_28 : decode cX6_readNumber 28 = .ok (.bipush 48, 2) := by decide +kernel
theorem dX6_readNumber_30 : decode cX6_readNumber 30 = .ok (.isub, 1) := by decide +kernel
theorem dX6_readNumber_31 : decode cX6_readNumber 31 = .ok (.istore_n 1, 1) := by decide +kernel
theorem dX6_readNumber_32 : decode cX6_readNumber 32 = .ok (.aload_n 0, 1) := by decide +kernel
theorem dX6_readNumber_33 : decode cX6_readNumber 33 = .ok (.dup, 1) := by decide +kernel
theorem dX6_readNumber_34 : decode cX6_readNumber 34 = .ok (.getfield 28, 3) := by decide +kernel
theorem dX6_readNumber_37 : decode cX6_readNumber 37 = .ok (.iconst 1, 1) := by decide +kernel
theorem dX6_readNumber_38 : decode cX6_readNumber 38 = .ok (.iadd, 1) := by decide +kernel
theorem dX6_readNumber_39 : decode cX6_readNumber 39 = .ok (.putfield 28, 3) := by decide +kernel
theorem dX6_readNumber_42 : decode cX6_readNumber 42 = .ok (.iinc 2 1, 3) := by decide +kernel
theorem dX6_readNumber_45 : decode cX6_readNumber 45 = .ok (.goto (-41), 3) := by decide +kernel
theorem dX6_readNumber_48 : decode cX6_readNumber 48 = .ok (.aload_n 0, 1) := by decide +kernel
theorem dX6_readNumber_49 : decode cX6_readNumber 49 = .ok (.getfield 19, 3) := by decide +kernel
theorem dX6_readNumber_52 : decode cX6_readNumber 52 = .ok (.bipush 48, 2) := by decide +kernel
theorem dX6_readNumber_54 : decode cX6_readNumber 54 = .ok (.iload_n 1, 1) := by decide +kernel
theorem dX6_readNumber_55 : decode cX6_readNumber 55 = .ok (.invokevirtual 55, 3) := by decide +kernel
theorem dX6_readNumber_58 : decode cX6_readNumber 58 = .ok (.return_, 1) := by decide +kernel
theorem dX6_next_0 : decode cX6_next 0 = .ok (.aload_n 0, 1) := by decide +kernel
theorem dX6_next_1 : decode cX6_next 1 = .ok (.getfield 28, 3) := by decide +kernel
theorem dX6_next_4 : decode cX6_next 4 = .ok (.ifCond .lt 26, 3) := by decide +kernel
theorem dX6_next_7 : decode cX6_next 7 = .ok (.aload_n 0, 1) := by decide +kernel
theorem dX6_next_8 : decode cX6_next 8 = .ok (.getfield 28, 3) := by decide +kernel
theorem dX6_next_11 : decode cX6_next 11 = .ok (.aload_n 0, 1) := by decide +kernel
theorem dX6_next_12 : decode cX6_next 12 = .ok (.getfield 15, 3) := by decide +kernel
theorem dX6_next_15 : decode cX6_next 15 = .ok (.if_icmp .ge 15, 3) := by decide +kernel
theorem dX6_next_18 : decode cX6_next 18 = .ok (.aload_n 0, 1) := by decide +kernel
theorem dX6_next_19 : decode cX6_next 19 = .ok (.getfield 9, 3) := by decide +kernel
theorem dX6_next_22 : decode cX6_next 22 = .ok (.aload_n 0, 1) := by decide +kernel
theorem dX6_next_23 : decode cX6_next 23 = .ok (.getfield 28, 3) := by decide +kernel
theorem dX6_next_26 : decode cX6_next 26 = .ok (.iaload, 1) := by decide +kernel
theorem dX6_next_27 : decode cX6_next 27 = .ok (.goto 4, 3) := by decide +kernel
theorem dX6_next_30 : decode cX6_next 30 = .ok (.iconst (-1), 1) := by decide +kernel
theorem dX6_next_31 : decode cX6_next 31 = .ok (.ireturn, 1) := by decide +kernel
theorem dX6_isDigit_0 : decode cX6_isDigit 0 = .ok (.iload_n 0, 1) := by decide +kernel
theorem dX6_isDigit_1 : decode cX6_isDigit 1 = .ok (.bipush 48, 2) := by decide +kernel
theorem dX6_isDigit_3 : decode cX6_isDigit 3 = .ok (.if_icmp .lt 13, 3) := by decide +kernel
theorem dX6_isDigit_6 : decode cX6_isDigit 6 = .ok (.iload_n 0, 1) := by decide +kernel
theorem dX6_isDigit_7 : decode cX6_isDigit 7 = .ok (.bipush 57, 2) := by decide +kernel
theorem dX6_isDigit_9 : decode cX6_isDigit 9 = .ok (.if_icmp .gt 7, 3) := by decide +kernel
theorem dX6_isDigit_12 : decode cX6_isDigit 12 = .ok (.iconst 1, 1) := by decide +kernel
theorem dX6_isDigit_13 : decode cX6_isDigit 13 = .ok (.goto 4, 3) := by decide +kernel
theorem dX6_isDigit_16 : decode cX6_isDigit 16 = .ok (.iconst 0, 1) := by decide +kernel
theorem dX6_isDigit_17 : decode cX6_isDigit 17 = .ok (.ireturn, 1) := by decide +kernel
theorem dX6_rankOf_0 : decode cX6_rankOf 0 = .ok (.iload_n 0, 1) := by decide +kernel
theorem dX6_rankOf_1 : decode cX6_rankOf 1 = .ok (.lookupswitch 101 #[(37, 99), (38, 93), (42, 99), (43, 97), (45, 97), (47, 99), (60, 95), (61, 95), (62, 95), (124, 91)], 91) := by decide +kernel
theorem dX6_rankOf_92 : decode cX6_rankOf 92 = .ok (.iconst 0, 1) := by decide +kernel
theorem dX6_rankOf_93 : decode cX6_rankOf 93 = .ok (.ireturn, 1) := by decide +kernel
theorem dX6_rankOf_94 : decode cX6_rankOf 94 = .ok (.iconst 1, 1) := by decide +kernel
theorem dX6_rankOf_95 : decode cX6_rankOf 95 = .ok (.ireturn, 1) := by decide +kernel
theorem dX6_rankOf_96 : decode cX6_rankOf 96 = .ok (.iconst 2, 1) := by decide +kernel
theorem dX6_rankOf_97 : decode cX6_rankOf 97 = .ok (.ireturn, 1) := by decide +kernel
theorem dX6_rankOf_98 : decode cX6_rankOf 98 = .ok (.iconst 3, 1) := by decide +kernel
theorem dX6_rankOf_99 : decode cX6_rankOf 99 = .ok (.ireturn, 1) := by decide +kernel
theorem dX6_rankOf_100 : decode cX6_rankOf 100 = .ok (.iconst 4, 1) := by decide +kernel
theorem dX6_rankOf_101 : decode cX6_rankOf 101 = .ok (.ireturn, 1) := by decide +kernel
theorem dX6_rankOf_102 : decode cX6_rankOf 102 = .ok (.iconst (-1), 1) := by decide +kernel
theorem dX6_rankOf_103 : decode cX6_rankOf 103 = .ok (.ireturn, 1) := by decide +kernel
end
section
theorem dX7_init_0 : decode cX7_init 0 = .ok (.aload_n 0, 1) := by decide +kernel
theorem dX7_init_1 : decode cX7_init 1 = .ok (.invokespecial 3, 3) := by decide +kernel
theorem dX7_init_4 : decode cX7_init 4 = .ok (.aload_n 0, 1) := by decide +kernel
theorem dX7_init_5 : decode cX7_init 5 = .ok (.new 9, 3) := by decide +kernel
theorem dX7_init_8 : decode cX7_init 8 = .ok (.dup, 1) := by decide +kernel
theorem dX7_init_9 : decode cX7_init 9 = .ok (.invokespecial 11, 3) := by decide +kernel
theorem dX7_init_12 : decode cX7_init 12 = .ok (.putfield 12, 3) := by decide +kernel
theorem dX7_init_15 : decode cX7_init 15 = .ok (.aload_n 0, 1) := by decide +kernel
theorem dX7_init_16 : decode cX7_init 16 = .ok (.iconst 3, 1) := by decide +kernel
theorem dX7_init_17 : decode cX7_init 17 = .ok (.newarray .int, 2) := by decide +kernel
theorem dX7_init_19 : decode cX7_init 19 = .ok (.putfield 18, 3) := by decide +kernel
theorem dX7_init_22 : decode cX7_init 22 = .ok (.aload_n 0, 1) := by decide +kernel
theorem dX7_init_23 : decode cX7_init 23 = .ok (.aload_n 1, 1) := by decide +kernel
theorem dX7_init_24 : decode cX7_init 24 = .ok (.putfield 22, 3) := by decide +kernel
theorem dX7_init_27 : decode cX7_init 27 = .ok (.return_, 1) := by decide +kernel
theorem dX7_behind_0 : decode cX7_behind 0 = .ok (.aload_n 0, 1) := by decide +kernel
theorem dX7_behind_1 : decode cX7_behind 1 = .ok (.getfield 12, 3) := by decide +kernel
theorem dX7_behind_4 : decode cX7_behind 4 = .ok (.aload_n 0, 1) := by decide +kernel
theorem dX7_behind_5 : decode cX7_behind 5 = .ok (.getfield 22, 3) := by decide +kernel
theorem dX7_behind_8 : decode cX7_behind 8 = .ok (.getfield 26, 3) := by decide +kernel
theorem dX7_behind_11 : decode cX7_behind 11 = .ok (.invokevirtual 31, 3) := by decide +kernel
theorem dX7_behind_14 : decode cX7_behind 14 = .ok (.iconst 0, 1) := by decide +kernel
theorem dX7_behind_15 : decode cX7_behind 15 = .ok (.istore_n 2, 1) := by decide +kernel
theorem dX7_behind_16 : decode cX7_behind 16 = .ok (.iload_n 2, 1) := by decide +kernel
theorem dX7_behind_17 : decode cX7_behind 17 = .ok (.iload_n 1, 1) := by decide +kernel
theorem dX7_behind_18 : decode cX7_behind 18 = .ok (.if_icmp .ge 23, 3) := by decide +kernel
theorem dX7_behind_21 : decode cX7_behind 21 = .ok (.aload_n 0, 1) := by decide +kernel
theorem dX7_behind_22 : decode cX7_behind 22 = .ok (.getfield 12, 3) := by decide +kernel
theorem dX7_behind_25 : decode cX7_behind 25 = .ok (.aload_n 0, 1) := by decide +kernel
theorem dX7_behind_26 : decode cX7_behind 26 = .ok (.getfield 22, 3) := by decide +kernel
theorem dX7_behind_29 : decode cX7_behind 29 = .ok (.getfield 35, 3) := by decide +kernel
theorem dX7_behind_32 : decode cX7_behind 32 = .ok (.invokevirtual 39, 3) := by decide +kernel
theorem dX7_behind_35 : decode cX7_behind 35 = .ok (.iinc 2 1, 3) := by decide +kernel
theorem dX7_behind_38 : decode cX7_behind 38 = .ok (.goto (-22), 3) := by decide +kernel
theorem dX7_behind_41 : decode cX7_behind 41 = .ok (.aload_n 0, 1) := by decide +kernel
theorem dX7_behind_42 : decode cX7_behind 42 = .ok (.getfield 12, 3) := by decide +kernel
theorem dX7_behind_45 : decode cX7_behind 45 = .ok (.areturn, 1) := by decide +kernel
theorem dX7_firstCold_0 : decode cX7_firstCold 0 = .ok (.aload_n 0, 1) := by decide +kernel
theorem dX7_firstCold_1 : decode cX7_firstCold 1 = .ok (.getfield 12, 3) := by decide +kernel
theorem dX7_firstCold_4 : decode cX7_firstCold 4 = .ok (.aload_n 0, 1) := by decide +kernel
theorem dX7_firstCold_5 : decode cX7_firstCold 5 = .ok (.getfield 22, 3) := by decide +kernel
theorem dX7_firstCold_8 : decode cX7_firstCold 8 = .ok (.getfield 26, 3) := by decide +kernel
theorem dX7_firstCold_11 : decode cX7_firstCold 11 = .ok (.invokevirtual 31, 3) := by decide +kernel
theorem dX7_firstCold_14 : decode cX7_firstCold 14 = .ok (.iconst 0, 1) := by decide +kernel
theorem dX7_firstCold_15 : decode cX7_firstCold 15 = .ok (.istore_n 2, 1) := by decide +kernel
theorem dX7_firstCold_16 : decode cX7_firstCold 16 = .ok (.iload_n 2, 1) := by decide +kernel
theorem dX7_firstCold_17 : decode cX7_firstCold 17 = .ok (.bipush 48, 2) := by decide +kernel
theorem dX7_firstCold_19 : decode cX7_firstCold 19 = .ok (.if_icmp .gt 40, 3) := by decide +kernel
theorem dX7_firstCold_22 : decode cX7_firstCold 22 = .ok (.aload_n 0, 1) := by decide +kernel
theorem dX7_firstCold_23 : decode cX7_firstCold 23 = .ok (.getfield 22, 3) := by decide +kernel
theorem dX7_firstCold_26 : decode cX7_firstCold 26 = .ok (.aload_n 0, 1) := by decide +kernel
theorem dX7_firstCold_27 : decode cX7_firstCold 27 = .ok (.getfield 12, 3) := by decide +kernel
theorem dX7_firstCold_30 : decode cX7_firstCold 30 = .ok (.iload_n 1, 1) := by decide +kernel
theorem dX7_firstCold_31 : decode cX7_firstCold 31 = .ok (.invokevirtual 43, 3) := by decide +kernel
theorem dX7_firstCold_34 : decode cX7_firstCold 34 = .ok (.ifCond .eq 5, 3) := by decide +kernel
theorem dX7_firstCold_37 : decode cX7_firstCold 37 = .ok (.iload_n 2, 1) := by decide +kernel
theorem dX7_firstCold_38 : decode cX7_firstCold 38 = .ok (.ireturn, 1) := by decide +kernel
theorem dX7_firstCold_39 : decode cX7_firstCold 39 = .ok (.aload_n 0, 1) := by decide +kernel
theorem dX7_firstCold_40 : decode cX7_firstCold 40 = .ok (.getfield 12, 3) := by decide +kernel
theorem dX7_firstCold_43 : decode cX7_firstCold 43 = .ok (.aload_n 0, 1) := by decide +kernel
theorem dX7_firstCold_44 : decode cX7_firstCold 44 = .ok (.getfield 22, 3) := by decide +kernel
theorem dX7_firstCold_47 : decode cX7_firstCold 47 = .ok (.getfield 35, 3) := by decide +kernel
theorem dX7_firstCold_50 : decode cX7_firstCold 50 = .ok (.invokevirtual 39, 3) := by decide +kernel
theorem dX7_firstCold_53 : decode cX7_firstCold 53 = .ok (.iinc 2 1, 3) := by decide +kernel
theorem dX7_firstCold_56 : decode cX7_firstCold 56 = .ok (.goto (-40), 3) := by decide +kernel
theorem dX7_firstCold_59 : decode cX7_firstCold 59 = .ok (.bipush (-2), 2) := by decide +kernel
theorem dX7_firstCold_61 : decode cX7_firstCold 61 = .ok (.ireturn, 1) := by decide +kernel
theorem dX7_timesCold_0 : decode cX7_timesCold 0 = .ok (.aload_n 0, 1) := by decide +kernel
theorem dX7_timesCold_1 : decode cX7_timesCold 1 = .ok (.getfield 12, 3) := by decide +kernel
theorem dX7_timesCold_4 : decode cX7_timesCold 4 = .ok (.aload_n 0, 1) := by decide +kernel
theorem dX7_timesCold_5 : decode cX7_timesCold 5 = .ok (.getfield 22, 3) := by decide +kernel
theorem dX7_timesCold_8 : decode cX7_timesCold 8 = .ok (.getfield 26, 3) := by decide +kernel
theorem dX7_timesCold_11 : decode cX7_timesCold 11 = .ok (.invokevirtual 31, 3) := by decide +kernel
theorem dX7_timesCold_14 : decode cX7_timesCold 14 = .ok (.iconst 0, 1) := by decide +kernel
theorem dX7_timesCold_15 : decode cX7_timesCold 15 = .ok (.istore_n 3, 1) := by decide +kernel
theorem dX7_timesCold_16 : decode cX7_timesCold 16 = .ok (.iconst 0, 1) := by decide +kernel
theorem dX7_timesCold_17 : decode cX7_timesCold 17 = .ok (.istore 4, 2) := by decide +kernel
theorem dX7_timesCold_19 : decode cX7_timesCold 19 = .ok (.iload 4, 2) := by decide +kernel
theorem dX7_timesCold_21 : decode cX7_timesCold 21 = .ok (.iload_n 2, 1) := by decide +kernel
theorem dX7_timesCold_22 : decode cX7_timesCold 22 = .ok (.if_icmp .gt 41, 3) := by decide +kernel
theorem dX7_timesCold_25 : decode cX7_timesCold 25 = .ok (.aload_n 0, 1) := by decide +kernel
theorem dX7_timesCold_26 : decode cX7_timesCold 26 = .ok (.getfield 22, 3) := by decide +kernel
theorem dX7_timesCold_29 : decode cX7_timesCold 29 = .ok (.aload_n 0, 1) := by decide +kernel
theorem dX7_timesCold_30 : decode cX7_timesCold 30 = .ok (.getfield 12, 3) := by decide +kernel
theorem dX7_timesCold_33 : decode cX7_timesCold 33 = .ok (.iload_n 1, 1) := by decide +kernel
theorem dX7_timesCold_34 : decode cX7_timesCold 34 = .ok (.invokevirtual 43, 3) := by decide +kernel
theorem dX7_timesCold_37 : decode cX7_timesCold 37 = .ok (.ifCond .eq 6, 3) := by decide +kernel
theorem dX7_timesCold_40 : decode cX7_timesCold 40 = .ok (.iinc 3 1, 3) := by decide +kernel
theorem dX7_timesCold_43 : decode cX7_timesCold 43 = .ok (.aload_n 0, 1) := by decide +kernel
theorem dX7_timesCold_44 : decode cX7_timesCold 44 = .ok (.getfield 12, 3) := by decide +kernel
theorem dX7_timesCold_47 : decode cX7_timesCold 47 = .ok (.aload_n 0, 1) := by decide +kernel
theorem dX7_timesCold_48 : decode cX7_timesCold 48 = .ok (.getfield 22, 3) := by decide +kernel
theorem dX7_timesCold_51 : decode cX7_timesCold 51 = .ok (.getfield 35, 3) := by decide +kernel
theorem dX7_timesCold_54 : decode cX7_timesCold 54 = .ok (.invokevirtual 39, 3) := by decide +kernel
theorem dX7_timesCold_57 : decode cX7_timesCold 57 = .ok (.iinc 4 1, 3) := by decide +kernel
theorem dX7_timesCold_60 : decode cX7_timesCold 60 = .ok (.goto (-41), 3) := by decide +kernel
theorem dX7_timesCold_63 : decode cX7_timesCold 63 = .ok (.iload_n 3, 1) := by decide +kernel
theorem dX7_timesCold_64 : decode cX7_timesCold 64 = .ok (.ireturn, 1) := by decide +kernel
theorem dX7_fewestPulls_0 : decode cX7_fewestPulls 0 = .ok (.aload_n 0, 1) := by decide +kernel
theorem dX7_fewestPulls_1 : decode cX7_fewestPulls 1 = .ok (.getfield 12, 3) := by decide +kernel
theorem dX7_fewestPulls_4 : decode cX7_fewestPulls 4 = .ok (.aload_n 0, 1) := by decide +kernel
theorem dX7_fewestPulls_5 : decode cX7_fewestPulls 5 = .ok (.getfield 22, 3) := by decide +kernel
theorem dX7_fewestPulls_8 : decode cX7_fewestPulls 8 = .ok (.getfield 26, 3) := by decide +kernel
theorem dX7_fewestPulls_11 : decode cX7_fewestPulls 11 = .ok (.invokevirtual 31, 3) := by decide +kernel
theorem dX7_fewestPulls_14 : decode cX7_fewestPulls 14 = .ok (.iconst 0, 1) := by decide +kernel
theorem dX7_fewestPulls_15 : decode cX7_fewestPulls 15 = .ok (.istore_n 2, 1) := by decide +kernel
theorem dX7_fewestPulls_16 : decode cX7_fewestPulls 16 = .ok (.iload_n 2, 1) := by decide +kernel
theorem dX7_fewestPulls_17 : decode cX7_fewestPulls 17 = .ok (.iconst 3, 1) := by decide +kernel
theorem dX7_fewestPulls_18 : decode cX7_fewestPulls 18 = .ok (.if_icmp .gt 21, 3) := by decide +kernel
theorem dX7_fewestPulls_21 : decode cX7_fewestPulls 21 = .ok (.aload_n 0, 1) := by decide +kernel
theorem dX7_fewestPulls_22 : decode cX7_fewestPulls 22 = .ok (.iload_n 1, 1) := by decide +kernel
theorem dX7_fewestPulls_23 : decode cX7_fewestPulls 23 = .ok (.iconst 0, 1) := by decide +kernel
theorem dX7_fewestPulls_24 : decode cX7_fewestPulls 24 = .ok (.iload_n 2, 1) := by decide +kernel
theorem dX7_fewestPulls_25 : decode cX7_fewestPulls 25 = .ok (.invokevirtual 47, 3) := by decide +kernel
theorem dX7_fewestPulls_28 : decode cX7_fewestPulls 28 = .ok (.ifCond .eq 5, 3) := by decide +kernel
theorem dX7_fewestPulls_31 : decode cX7_fewestPulls 31 = .ok (.iload_n 2, 1) := by decide +kernel
theorem dX7_fewestPulls_32 : decode cX7_fewestPulls 32 = .ok (.ireturn, 1) := by decide +kernel
theorem dX7_fewestPulls_33 : decode cX7_fewestPulls 33 = .ok (.iinc 2 1, 3) := by decide +kernel
theorem dX7_fewestPulls_36 : decode cX7_fewestPulls 36 = .ok (.goto (-20), 3) := by decide +kernel
theorem dX7_fewestPulls_39 : decode cX7_fewestPulls 39 = .ok (.bipush (-2), 2) := by decide +kernel
theorem dX7_fewestPulls_41 : decode cX7_fewestPulls 41 = .ok (.ireturn, 1) := by decide +kernel
theorem dX7_warmByPulls_0 : decode cX7_warmByPulls 0 = .ok (.iload_n 2, 1) := by decide +kernel
theorem dX7_warmByPulls_1 : decode cX7_warmByPulls 1 = .ok (.iload_n 3, 1) := by decide +kernel
theorem dX7_warmByPulls_2 : decode cX7_warmByPulls 2 = .ok (.if_icmp .ge 8, 3) := by decide +kernel
theorem dX7_warmByPulls_5 : decode cX7_warmByPulls 5 = .ok (.iload_n 2, 1) := by decide +kernel
theorem dX7_warmByPulls_6 : decode cX7_warmByPulls 6 = .ok (.iconst 3, 1) := by decide +kernel
theorem dX7_warmByPulls_7 : decode cX7_warmByPulls 7 = .ok (.if_icmp .lt 24, 3) := by decide +kernel
theorem dX7_warmByPulls_10 : decode cX7_warmByPulls 10 = .ok (.aload_n 0, 1) := by decide +kernel
theorem dX7_warmByPulls_11 : decode cX7_warmByPulls 11 = .ok (.getfield 22, 3) := by decide +kernel
theorem dX7_warmByPulls_14 : decode cX7_warmByPulls 14 = .ok (.aload_n 0, 1) := by decide +kernel
theorem dX7_warmByPulls_15 : decode cX7_warmByPulls 15 = .ok (.getfield 12, 3) := by decide +kernel
theorem dX7_warmByPulls_18 : decode cX7_warmByPulls 18 = .ok (.iload_n 1, 1) := by decide +kernel
theorem dX7_warmByPulls_19 : decode cX7_warmByPulls 19 = .ok (.invokevirtual 43, 3) := by decide +kernel
theorem dX7_warmByPulls_22 : decode cX7_warmByPulls 22 = .ok (.ifCond .ne 7, 3) := by decide +kernel
theorem dX7_warmByPulls_25 : decode cX7_warmByPulls 25 = .ok (.iconst 1, 1) := by decide +kernel
theorem dX7_warmByPulls_26 : decode cX7_warmByPulls 26 = .ok (.goto 4, 3) := by decide +kernel
theorem dX7_warmByPulls_29 : decode cX7_warmByPulls 29 = .ok (.iconst 0, 1) := by decide +kernel
theorem dX7_warmByPulls_30 : decode cX7_warmByPulls 30 = .ok (.ireturn, 1) := by decide +kernel
theorem dX7_warmByPulls_31 : decode cX7_warmByPulls 31 = .ok (.iconst 0, 1) := by decide +kernel
theorem dX7_warmByPulls_32 : decode cX7_warmByPulls 32 = .ok (.istore 4, 2) := by decide +kernel
theorem dX7_warmByPulls_34 : decode cX7_warmByPulls 34 = .ok (.iconst 0, 1) := by decide +kernel
theorem dX7_warmByPulls_35 : decode cX7_warmByPulls 35 = .ok (.istore 5, 2) := by decide +kernel
theorem dX7_warmByPulls_37 : decode cX7_warmByPulls 37 = .ok (.iload 5, 2) := by decide +kernel
theorem dX7_warmByPulls_39 : decode cX7_warmByPulls 39 = .ok (.bipush 10, 2) := by decide +kernel
theorem dX7_warmByPulls_41 : decode cX7_warmByPulls 41 = .ok (.if_icmp .ge 65, 3) := by decide +kernel
theorem dX7_warmByPulls_44 : decode cX7_warmByPulls 44 = .ok (.iload 4, 2) := by decide +kernel
theorem dX7_warmByPulls_46 : decode cX7_warmByPulls 46 = .ok (.ifCond .ne 60, 3) := by decide +kernel
theorem dX7_warmByPulls_49 : decode cX7_warmByPulls 49 = .ok (.aload_n 0, 1) := by decide +kernel
theorem dX7_warmByPulls_50 : decode cX7_warmByPulls 50 = .ok (.getfield 18, 3) := by decide +kernel
theorem dX7_warmByPulls_53 : decode cX7_warmByPulls 53 = .ok (.iload_n 2, 1) := by decide +kernel
theorem dX7_warmByPulls_54 : decode cX7_warmByPulls 54 = .ok (.iload 5, 2) := by decide +kernel
theorem dX7_warmByPulls_56 : decode cX7_warmByPulls 56 = .ok (.iastore, 1) := by decide +kernel
theorem dX7_warmByPulls_57 : decode cX7_warmByPulls 57 = .ok (.aload_n 0, 1) := by decide +kernel
theorem dX7_warmByPulls_58 : decode cX7_warmByPulls 58 = .ok (.getfield 12, 3) := by decide +kernel
theorem dX7_warmByPulls_61 : decode cX7_warmByPulls 61 = .ok (.iload 5, 2) := by decide +kernel
theorem dX7_warmByPulls_63 : decode cX7_warmByPulls 63 = .ok (.iconst 2, 1) := by decide +kernel
theorem dX7_warmByPulls_64 : decode cX7_warmByPulls 64 = .ok (.idiv, 1) := by decide +kernel
theorem dX7_warmByPulls_65 : decode cX7_warmByPulls 65 = .ok (.iload 5, 2) := by decide +kernel
theorem dX7_warmByPulls_67 : decode cX7_warmByPulls 67 = .ok (.iconst 2, 1) := by decide +kernel
theorem dX7_warmByPulls_68 : decode cX7_warmByPulls 68 = .ok (.irem, 1) := by decide +kernel
theorem dX7_warmByPulls_69 : decode cX7_warmByPulls 69 = .ok (.invokevirtual 51, 3) := by decide +kernel
theorem dX7_warmByPulls_72 : decode cX7_warmByPulls 72 = .ok (.aload_n 0, 1) := by decide +kernel
theorem dX7_warmByPulls_73 : decode cX7_warmByPulls 73 = .ok (.iload_n 1, 1) := by decide +kernel
theorem dX7_warmByPulls_74 : decode cX7_warmByPulls 74 = .ok (.iload_n 2, 1) := by decide +kernel
theorem dX7_warmByPulls_75 : decode cX7_warmByPulls 75 = .ok (.iconst 1, 1) := by decide +kernel
theorem dX7_warmByPulls_76 : decode cX7_warmByPulls 76 = .ok (.iadd, 1) := by decide +kernel
theorem dX7_warmByPulls_77 : decode cX7_warmByPulls 77 = .ok (.iload_n 3, 1) := by decide +kernel
theorem dX7_warmByPulls_78 : decode cX7_warmByPulls 78 = .ok (.invokevirtual 47, 3) := by decide +kernel
theorem dX7_warmByPulls_81 : decode cX7_warmByPulls 81 = .ok (.istore 4, 2) := by decide +kernel
theorem dX7_warmByPulls_83 : decode cX7_warmByPulls 83 = .ok (.aload_n 0, 1) := by decide +kernel
theorem dX7_warmByPulls_84 : decode cX7_warmByPulls 84 = .ok (.getfield 12, 3) := by decide +kernel
theorem dX7_warmByPulls_87 : decode cX7_warmByPulls 87 = .ok (.iload 5, 2) := by decide +kernel
theorem dX7_warmByPulls_89 : decode cX7_warmByPulls 89 = .ok (.iconst 2, 1) := by decide +kernel
theorem dX7_warmByPulls_90 : decode cX7_warmByPulls 90 = .ok (.idiv, 1) := by decide +kernel
theorem dX7_warmByPulls_91 : decode cX7_warmByPulls 91 = .ok (.iconst 1, 1) := by decide +kernel
theorem dX7_warmByPulls_92 : decode cX7_warmByPulls 92 = .ok (.iload 5, 2) := by decide +kernel
theorem dX7_warmByPulls_94 : decode cX7_warmByPulls 94 = .ok (.iconst 2, 1) := by decide +kernel
theorem dX7_warmByPulls_95 : decode cX7_warmByPulls 95 = .ok (.irem, 1) := by decide +kernel
theorem dX7_warmByPulls_96 : decode cX7_warmByPulls 96 = .ok (.isub, 1) := by decide +kernel
theorem dX7_warmByPulls_97 : decode cX7_warmByPulls 97 = .ok (.invokevirtual 51, 3) := by decide +kernel
theorem dX7_warmByPulls_100 : decode cX7_warmByPulls 100 = .ok (.iinc 5 1, 3) := by decide +kernel
theorem dX7_warmByPulls_103 : decode cX7_warmByPulls 103 = .ok (.goto (-66), 3) := by decide +kernel
theorem dX7_warmByPulls_106 : decode cX7_warmByPulls 106 = .ok (.iload 4, 2) := by decide +kernel
theorem dX7_warmByPulls_108 : decode cX7_warmByPulls 108 = .ok (.ireturn, 1) := by decide +kernel
theorem dX7_tryShakes_0 : decode cX7_tryShakes 0 = .ok (.aload_n 0, 1) := by decide +kernel
theorem dX7_tryShakes_1 : decode cX7_tryShakes 1 = .ok (.bipush 9, 2) := by decide +kernel
theorem dX7_tryShakes_3 : decode cX7_tryShakes 3 = .ok (.putfield 55, 3) := by decide +kernel
theorem dX7_tryShakes_6 : decode cX7_tryShakes 6 = .ok (.iconst 0, 1) := by decide +kernel
theorem dX7_tryShakes_7 : decode cX7_tryShakes 7 = .ok (.istore_n 1, 1) := by decide +kernel
theorem dX7_tryShakes_8 : decode cX7_tryShakes 8 = .ok (.iload_n 1, 1) := by decide +kernel
theorem dX7_tryShakes_9 : decode cX7_tryShakes 9 = .ok (.bipush 30, 2) := by decide +kernel
theorem dX7_tryShakes_11 : decode cX7_tryShakes 11 = .ok (.if_icmp .ge 43, 3) := by decide +kernel
theorem dX7_tryShakes_14 : decode cX7_tryShakes 14 = .ok (.iload_n 1, 1) := by decide +kernel
theorem dX7_tryShakes_15 : decode cX7_tryShakes 15 = .ok (.invokestatic 58, 3) := by decide +kernel
theorem dX7_tryShakes_18 : decode cX7_tryShakes 18 = .ok (.ifCond .eq 30, 3) := by decide +kernel
theorem dX7_tryShakes_21 : decode cX7_tryShakes 21 = .ok (.aload_n 0, 1) := by decide +kernel
theorem dX7_tryShakes_22 : decode cX7_tryShakes 22 = .ok (.getfield 12, 3) := by decide +kernel
theorem dX7_tryShakes_25 : decode cX7_tryShakes 25 = .ok (.aload_n 0, 1) := by decide +kernel
theorem dX7_tryShakes_26 : decode cX7_tryShakes 26 = .ok (.getfield 22, 3) := by decide +kernel
theorem dX7_tryShakes_29 : decode cX7_tryShakes 29 = .ok (.getfield 26, 3) := by decide +kernel
theorem dX7_tryShakes_32 : decode cX7_tryShakes 32 = .ok (.invokevirtual 31, 3) := by decide +kernel
theorem dX7_tryShakes_35 : decode cX7_tryShakes 35 = .ok (.aload_n 0, 1) := by decide +kernel
theorem dX7_tryShakes_36 : decode cX7_tryShakes 36 = .ok (.getfield 12, 3) := by decide +kernel
theorem dX7_tryShakes_39 : decode cX7_tryShakes 39 = .ok (.iload_n 1, 1) := by decide +kernel
theorem dX7_tryShakes_40 : decode cX7_tryShakes 40 = .ok (.invokevirtual 62, 3) := by decide +kernel
theorem dX7_tryShakes_43 : decode cX7_tryShakes 43 = .ok (.aload_n 0, 1) := by decide +kernel
theorem dX7_tryShakes_44 : decode cX7_tryShakes 44 = .ok (.iload_n 1, 1) := by decide +kernel
theorem dX7_tryShakes_45 : decode cX7_tryShakes 45 = .ok (.invokevirtual 65, 3) := by decide +kernel
theorem dX7_tryShakes_48 : decode cX7_tryShakes 48 = .ok (.iinc 1 1, 3) := by decide +kernel
theorem dX7_tryShakes_51 : decode cX7_tryShakes 51 = .ok (.goto (-43), 3) := by decide +kernel
theorem dX7_tryShakes_54 : decode cX7_tryShakes 54 = .ok (.return_, 1) := by decide +kernel
theorem dX7_tryStuffings_0 : decode cX7_tryStuffings 0 = .ok (.aload_n 0, 1) := by decide +kernel
theorem dX7_tryStuffings_1 : decode cX7_tryStuffings 1 = .ok (.bipush 9, 2) := by decide +kernel
theorem dX7_tryStuffings_3 : decode cX7_tryStuffings 3 = .ok (.putfield 55, 3) := by decide +kernel
theorem dX7_tryStuffings_6 : decode cX7_tryStuffings 6 = .ok (.iload_n 1, 1) := by decide +kernel
theorem dX7_tryStuffings_7 : decode cX7_tryStuffings 7 = .ok (.ifCond .ne 24, 3) := by decide +kernel
theorem dX7_tryStuffings_10 : decode cX7_tryStuffings 10 = .ok (.aload_n 0, 1) := by decide +kernel
theorem dX7_tryStuffings_11 : decode cX7_tryStuffings 11 = .ok (.getfield 12, 3) := by decide +kernel
theorem dX7_tryStuffings_14 : decode cX7_tryStuffings 14 = .ok (.aload_n 0, 1) := by decide +kernel
theorem dX7_tryStuffings_15 : decode cX7_tryStuffings 15 = .ok (.getfield 22, 3) := by decide +kernel
theorem dX7_tryStuffings_18 : decode cX7_tryStuffings 18 = .ok (.getfield 26, 3) := by decide +kernel
theorem dX7_tryStuffings_21 : decode cX7_tryStuffings 21 = .ok (.invokevirtual 31, 3) := by decide +kernel
theorem dX7_tryStuffings_24 : decode cX7_tryStuffings 24 = .ok (.aload_n 0, 1) := by decide +kernel
theorem dX7_tryStuffings_25 : decode cX7_tryStuffings 25 = .ok (.bipush (-9), 2) := by decide +kernel
theorem dX7_tryStuffings_27 : decode cX7_tryStuffings 27 = .ok (.invokevirtual 65, 3) := by decide +kernel
theorem dX7_tryStuffings_30 : decode cX7_tryStuffings 30 = .ok (.return_, 1) := by decide +kernel
theorem dX7_tryStuffings_31 : decode cX7_tryStuffings 31 = .ok (.iconst 0, 1) := by decide +kernel
theorem dX7_tryStuffings_32 : decode cX7_tryStuffings 32 = .ok (.istore_n 2, 1) := by decide +kernel
theorem dX7_tryStuffings_33 : decode cX7_tryStuffings 33 = .ok (.iload_n 2, 1) := by decide +kernel
theorem dX7_tryStuffings_34 : decode cX7_tryStuffings 34 = .ok (.bipush 30, 2) := by decide +kernel
theorem dX7_tryStuffings_36 : decode cX7_tryStuffings 36 = .ok (.if_icmp .ge 110, 3) := by decide +kernel
theorem dX7_tryStuffings_39 : decode cX7_tryStuffings 39 = .ok (.iload_n 1, 1) := by decide +kernel
theorem dX7_tryStuffings_40 : decode cX7_tryStuffings 40 = .ok (.iconst 1, 1) := by decide +kernel
theorem dX7_tryStuffings_41 : decode cX7_tryStuffings 41 = .ok (.if_icmp .ne 7, 3) := by decide +kernel
theorem dX7_tryStuffings_44 : decode cX7_tryStuffings 44 = .ok (.iload_n 2, 1) := by decide +kernel
theorem dX7_tryStuffings_45 : decode cX7_tryStuffings 45 = .ok (.goto 6, 3) := by decide +kernel
theorem dX7_tryStuffings_48 : decode cX7_tryStuffings 48 = .ok (.iload_n 2, 1) := by decide +kernel
theorem dX7_tryStuffings_49 : decode cX7_tryStuffings 49 = .ok (.iconst 1, 1) := by decide +kernel
theorem dX7_tryStuffings_50 : decode cX7_tryStuffings 50 = .ok (.iadd, 1) := by decide +kernel
theorem dX7_tryStuffings_51 : decode cX7_tryStuffings 51 = .ok (.istore_n 3, 1) := by decide +kernel
theorem dX7_tryStuffings_52 : decode cX7_tryStuffings 52 = .ok (.iload_n 1, 1) := by decide +kernel
theorem dX7_tryStuffings_53 : decode cX7_tryStuffings 53 = .ok (.iconst 1, 1) := by decide +kernel
theorem dX7_tryStuffings_54 : decode cX7_tryStuffings 54 = .ok (.if_icmp .ne 7, 3) := by decide +kernel
theorem dX7_tryStuffings_57 : decode cX7_tryStuffings 57 = .ok (.iload_n 2, 1) := by decide +kernel
theorem dX7_tryStuffings_58 : decode cX7_tryStuffings 58 = .ok (.goto 5, 3) := by decide +kernel
theorem dX7_tryStuffings_61 : decode cX7_tryStuffings 61 = .ok (.bipush 29, 2) := by decide +kernel
theorem dX7_tryStuffings_63 : decode cX7_tryStuffings 63 = .ok (.istore 4, 2) := by decide +kernel
theorem dX7_tryStuffings_65 : decode cX7_tryStuffings 65 = .ok (.iload_n 3, 1) := by decide +kernel
theorem dX7_tryStuffings_66 : decode cX7_tryStuffings 66 = .ok (.istore 5, 2) := by decide +kernel
theorem dX7_tryStuffings_68 : decode cX7_tryStuffings 68 = .ok (.iload 5, 2) := by decide +kernel
theorem dX7_tryStuffings_70 : decode cX7_tryStuffings 70 = .ok (.iload 4, 2) := by decide +kernel
theorem dX7_tryStuffings_72 : decode cX7_tryStuffings 72 = .ok (.if_icmp .gt 68, 3) := by decide +kernel
theorem dX7_tryStuffings_75 : decode cX7_tryStuffings 75 = .ok (.aload_n 0, 1) := by decide +kernel
theorem dX7_tryStuffings_76 : decode cX7_tryStuffings 76 = .ok (.getfield 12, 3) := by decide +kernel
theorem dX7_tryStuffings_79 : decode cX7_tryStuffings 79 = .ok (.aload_n 0, 1) := by decide +kernel
theorem dX7_tryStuffings_80 : decode cX7_tryStuffings 80 = .ok (.getfield 22, 3) := by decide +kernel
theorem dX7_tryStuffings_83 : decode cX7_tryStuffings 83 = .ok (.getfield 26, 3) := by decide +kernel
theorem dX7_tryStuffings_86 : decode cX7_tryStuffings 86 = .ok (.invokevirtual 31, 3) := by decide +kernel
theorem dX7_tryStuffings_89 : decode cX7_tryStuffings 89 = .ok (.aload_n 0, 1) := by decide +kernel
theorem dX7_tryStuffings_90 : decode cX7_tryStuffings 90 = .ok (.getfield 12, 3) := by decide +kernel
theorem dX7_tryStuffings_93 : decode cX7_tryStuffings 93 = .ok (.iload_n 2, 1) := by decide +kernel
theorem dX7_tryStuffings_94 : decode cX7_tryStuffings 94 = .ok (.iconst 2, 1) := by decide +kernel
theorem dX7_tryStuffings_95 : decode cX7_tryStuffings 95 = .ok (.bipush 9, 2) := by decide +kernel
theorem dX7_tryStuffings_97 : decode cX7_tryStuffings 97 = .ok (.iconst 0, 1) := by decide +kernel
theorem dX7_tryStuffings_98 : decode cX7_tryStuffings 98 = .ok (.invokevirtual 68, 3) := by decide +kernel
theorem dX7_tryStuffings_101 : decode cX7_tryStuffings 101 = .ok (.aload_n 0, 1) := by decide +kernel
theorem dX7_tryStuffings_102 : decode cX7_tryStuffings 102 = .ok (.getfield 12, 3) := by decide +kernel
theorem dX7_tryStuffings_105 : decode cX7_tryStuffings 105 = .ok (.iload 5, 2) := by decide +kernel
theorem dX7_tryStuffings_107 : decode cX7_tryStuffings 107 = .ok (.iconst 2, 1) := by decide +kernel
theorem dX7_tryStuffings_108 : decode cX7_tryStuffings 108 = .ok (.bipush 9, 2) := by decide +kernel
theorem dX7_tryStuffings_110 : decode cX7_tryStuffings 110 = .ok (.iconst 0, 1) := by decide +kernel
theorem dX7_tryStuffings_111 : decode cX7_tryStuffings 111 = .ok (.invokevirtual 68, 3) := by decide +kernel
theorem dX7_tryStuffings_114 : decode cX7_tryStuffings 114 = .ok (.aload_n 0, 1) := by decide +kernel
theorem dX7_tryStuffings_115 : decode cX7_tryStuffings 115 = .ok (.iload_n 1, 1) := by decide +kernel
theorem dX7_tryStuffings_116 : decode cX7_tryStuffings 116 = .ok (.iconst 1, 1) := by decide +kernel
theorem dX7_tryStuffings_117 : decode cX7_tryStuffings 117 = .ok (.if_icmp .ne 7, 3) := by decide +kernel
theorem dX7_tryStuffings_120 : decode cX7_tryStuffings 120 = .ok (.iload_n 2, 1) := by decide +kernel
theorem dX7_tryStuffings_121 : decode cX7_tryStuffings 121 = .ok (.goto 10, 3) := by decide +kernel
theorem dX7_tryStuffings_124 : decode cX7_tryStuffings 124 = .ok (.bipush 30, 2) := by decide +kernel
theorem dX7_tryStuffings_126 : decode cX7_tryStuffings 126 = .ok (.iload_n 2, 1) := by decide +kernel
theorem dX7_tryStuffings_127 : decode cX7_tryStuffings 127 = .ok (.imul, 1) := by decide +kernel
theorem dX7_tryStuffings_128 : decode cX7_tryStuffings 128 = .ok (.iload 5, 2) := by decide +kernel
theorem dX7_tryStuffings_130 : decode cX7_tryStuffings 130 = .ok (.iadd, 1) := by decide +kernel
theorem dX7_tryStuffings_131 : decode cX7_tryStuffings 131 = .ok (.invokevirtual 65, 3) := by decide +kernel
theorem dX7_tryStuffings_134 : decode cX7_tryStuffings 134 = .ok (.iinc 5 1, 3) := by decide +kernel
theorem dX7_tryStuffings_137 : decode cX7_tryStuffings 137 = .ok (.goto (-69), 3) := by decide +kernel
theorem dX7_tryStuffings_140 : decode cX7_tryStuffings 140 = .ok (.iinc 2 1, 3) := by decide +kernel
theorem dX7_tryStuffings_143 : decode cX7_tryStuffings 143 = .ok (.goto (-110), 3) := by decide +kernel
theorem dX7_tryStuffings_146 : decode cX7_tryStuffings 146 = .ok (.return_, 1) := by decide +kernel
theorem dX7_weigh_0 : decode cX7_weigh 0 = .ok (.aload_n 0, 1) := by decide +kernel
theorem dX7_weigh_1 : decode cX7_weigh 1 = .ok (.getfield 22, 3) := by decide +kernel
theorem dX7_weigh_4 : decode cX7_weigh 4 = .ok (.aload_n 0, 1) := by decide +kernel
theorem dX7_weigh_5 : decode cX7_weigh 5 = .ok (.getfield 12, 3) := by decide +kernel
theorem dX7_weigh_8 : decode cX7_weigh 8 = .ok (.invokevirtual 72, 3) := by decide +kernel
theorem dX7_weigh_11 : decode cX7_weigh 11 = .ok (.invokestatic 76, 3) := by decide +kernel
theorem dX7_weigh_14 : decode cX7_weigh 14 = .ok (.istore_n 2, 1) := by decide +kernel
theorem dX7_weigh_15 : decode cX7_weigh 15 = .ok (.iload_n 2, 1) := by decide +kernel
theorem dX7_weigh_16 : decode cX7_weigh 16 = .ok (.aload_n 0, 1) := by decide +kernel
theorem dX7_weigh_17 : decode cX7_weigh 17 = .ok (.getfield 55, 3) := by decide +kernel
theorem dX7_weigh_20 : decode cX7_weigh 20 = .ok (.if_icmp .ge 13, 3) := by decide +kernel
theorem dX7_weigh_23 : decode cX7_weigh 23 = .ok (.aload_n 0, 1) := by decide +kernel
theorem dX7_weigh_24 : decode cX7_weigh 24 = .ok (.iload_n 2, 1) := by decide +kernel
theorem dX7_weigh_25 : decode cX7_weigh 25 = .ok (.putfield 55, 3) := by decide +kernel
theorem dX7_weigh_28 : decode cX7_weigh 28 = .ok (.aload_n 0, 1) := by decide +kernel
theorem dX7_weigh_29 : decode cX7_weigh 29 = .ok (.iload_n 1, 1) := by decide +kernel
theorem dX7_weigh_30 : decode cX7_weigh 30 = .ok (.putfield 82, 3) := by decide +kernel
theorem dX7_weigh_33 : decode cX7_weigh 33 = .ok (.return_, 1) := by decide +kernel
theorem dX7_firstWrong_0 : decode cX7_firstWrong 0 = .ok (.aload_n 0, 1) := by decide +kernel
theorem dX7_firstWrong_1 : decode cX7_firstWrong 1 = .ok (.getfield 12, 3) := by decide +kernel
theorem dX7_firstWrong_4 : decode cX7_firstWrong 4 = .ok (.aload_n 0, 1) := by decide +kernel
theorem dX7_firstWrong_5 : decode cX7_firstWrong 5 = .ok (.getfield 22, 3) := by decide +kernel
theorem dX7_firstWrong_8 : decode cX7_firstWrong 8 = .ok (.getfield 26, 3) := by decide +kernel
theorem dX7_firstWrong_11 : decode cX7_firstWrong 11 = .ok (.invokevirtual 31, 3) := by decide +kernel
theorem dX7_firstWrong_14 : decode cX7_firstWrong 14 = .ok (.aload_n 0, 1) := by decide +kernel
theorem dX7_firstWrong_15 : decode cX7_firstWrong 15 = .ok (.aload_n 1, 1) := by decide +kernel
theorem dX7_firstWrong_16 : decode cX7_firstWrong 16 = .ok (.iload_n 2, 1) := by decide +kernel
theorem dX7_firstWrong_17 : decode cX7_firstWrong 17 = .ok (.invokevirtual 85, 3) := by decide +kernel
theorem dX7_firstWrong_20 : decode cX7_firstWrong 20 = .ok (.ireturn, 1) := by decide +kernel
theorem dX7_firstUnlike_0 : decode cX7_firstUnlike 0 = .ok (.aload_n 1, 1) := by decide +kernel
theorem dX7_firstUnlike_1 : decode cX7_firstUnlike 1 = .ok (.getfield 89, 3) := by decide +kernel
theorem dX7_firstUnlike_4 : decode cX7_firstUnlike 4 = .ok (.bipush 49, 2) := by decide +kernel
theorem dX7_firstUnlike_6 : decode cX7_firstUnlike 6 = .ok (.invokestatic 94, 3) := by decide +kernel
theorem dX7_firstUnlike_9 : decode cX7_firstUnlike 9 = .ok (.istore_n 3, 1) := by decide +kernel
theorem dX7_firstUnlike_10 : decode cX7_firstUnlike 10 = .ok (.iconst 0, 1) := by decide +kernel
theorem dX7_firstUnlike_11 : decode cX7_firstUnlike 11 = .ok (.istore 4, 2) := by decide +kernel
theorem dX7_firstUnlike_13 : decode cX7_firstUnlike 13 = .ok (.iload 4, 2) := by decide +kernel
theorem dX7_firstUnlike_15 : decode cX7_firstUnlike 15 = .ok (.iload_n 3, 1) := by decide +kernel
theorem dX7_firstUnlike_16 : decode cX7_firstUnlike 16 = .ok (.if_icmp .ge 53, 3) := by decide +kernel
theorem dX7_firstUnlike_19 : decode cX7_firstUnlike 19 = .ok (.aload_n 0, 1) := by decide +kernel
theorem dX7_firstUnlike_20 : decode cX7_firstUnlike 20 = .ok (.getfield 22, 3) := by decide +kernel
theorem dX7_firstUnlike_23 : decode cX7_firstUnlike 23 = .ok (.getfield 100, 3) := by decide +kernel
theorem dX7_firstUnlike_26 : decode cX7_firstUnlike 26 = .ok (.aload_n 0, 1) := by decide +kernel
theorem dX7_firstUnlike_27 : decode cX7_firstUnlike 27 = .ok (.getfield 12, 3) := by decide +kernel
theorem dX7_firstUnlike_30 : decode cX7_firstUnlike 30 = .ok (.iload_n 2, 1) := by decide +kernel
theorem dX7_firstUnlike_31 : decode cX7_firstUnlike 31 = .ok (.invokevirtual 104, 3) := by decide +kernel
theorem dX7_firstUnlike_34 : decode cX7_firstUnlike 34 = .ok (.i2l, 1) := by decide +kernel
theorem dX7_firstUnlike_35 : decode cX7_firstUnlike 35 = .ok (.aload_n 1, 1) := by decide +kernel
theorem dX7_firstUnlike_36 : decode cX7_firstUnlike 36 = .ok (.getfield 110, 3) := by decide +kernel
theorem dX7_firstUnlike_39 : decode cX7_firstUnlike 39 = .ok (.iload 4, 2) := by decide +kernel
theorem dX7_firstUnlike_41 : decode cX7_firstUnlike 41 = .ok (.laload, 1) := by decide +kernel
theorem dX7_firstUnlike_42 : decode cX7_firstUnlike 42 = .ok (.lcmp, 1) := by decide +kernel
theorem dX7_firstUnlike_43 : decode cX7_firstUnlike 43 = .ok (.ifCond .eq 6, 3) := by decide +kernel
theorem dX7_firstUnlike_46 : decode cX7_firstUnlike 46 = .ok (.iload 4, 2) := by decide +kernel
theorem dX7_firstUnlike_48 : decode cX7_firstUnlike 48 = .ok (.ireturn, 1) := by decide +kernel
theorem dX7_firstUnlike_49 : decode cX7_firstUnlike 49 = .ok (.aload_n 0, 1) := by decide +kernel
theorem dX7_firstUnlike_50 : decode cX7_firstUnlike 50 = .ok (.getfield 12, 3) := by decide +kernel
theorem dX7_firstUnlike_53 : decode cX7_firstUnlike 53 = .ok (.aload_n 0, 1) := by decide +kernel
theorem dX7_firstUnlike_54 : decode cX7_firstUnlike 54 = .ok (.getfield 22, 3) := by decide +kernel
theorem dX7_firstUnlike_57 : decode cX7_firstUnlike 57 = .ok (.getfield 35, 3) := by decide +kernel
theorem dX7_firstUnlike_60 : decode cX7_firstUnlike 60 = .ok (.invokevirtual 39, 3) := by decide +kernel
theorem dX7_firstUnlike_63 : decode cX7_firstUnlike 63 = .ok (.iinc 4 1, 3) := by decide +kernel
theorem dX7_firstUnlike_66 : decode cX7_firstUnlike 66 = .ok (.goto (-53), 3) := by decide +kernel
theorem dX7_firstUnlike_69 : decode cX7_firstUnlike 69 = .ok (.bipush (-2), 2) := by decide +kernel
theorem dX7_firstUnlike_71 : decode cX7_firstUnlike 71 = .ok (.ireturn, 1) := by decide +kernel
theorem dX7_fitting_0 : decode cX7_fitting 0 = .ok (.iconst 0, 1) := by decide +kernel
theorem dX7_fitting_1 : decode cX7_fitting 1 = .ok (.istore 5, 2) := by decide +kernel
theorem dX7_fitting_3 : decode cX7_fitting 3 = .ok (.iconst 0, 1) := by decide +kernel
theorem dX7_fitting_4 : decode cX7_fitting 4 = .ok (.istore 6, 2) := by decide +kernel
theorem dX7_fitting_6 : decode cX7_fitting 6 = .ok (.iload 6, 2) := by decide +kernel
theorem dX7_fitting_8 : decode cX7_fitting 8 = .ok (.getstatic 114, 3) := by decide +kernel
theorem dX7_fitting_11 : decode cX7_fitting 11 = .ok (.iload 4, 2) := by decide +kernel
theorem dX7_fitting_13 : decode cX7_fitting 13 = .ok (.iaload, 1) := by decide +kernel
theorem dX7_fitting_14 : decode cX7_fitting 14 = .ok (.if_icmp .gt 55, 3) := by decide +kernel
theorem dX7_fitting_17 : decode cX7_fitting 17 = .ok (.aload_n 0, 1) := by decide +kernel
theorem dX7_fitting_18 : decode cX7_fitting 18 = .ok (.getfield 12, 3) := by decide +kernel
theorem dX7_fitting_21 : decode cX7_fitting 21 = .ok (.aload_n 0, 1) := by decide +kernel
theorem dX7_fitting_22 : decode cX7_fitting 22 = .ok (.getfield 22, 3) := by decide +kernel
theorem dX7_fitting_25 : decode cX7_fitting 25 = .ok (.getfield 26, 3) := by decide +kernel
theorem dX7_fitting_28 : decode cX7_fitting 28 = .ok (.invokevirtual 31, 3) := by decide +kernel
theorem dX7_fitting_31 : decode cX7_fitting 31 = .ok (.aload_n 0, 1) := by decide +kernel
theorem dX7_fitting_32 : decode cX7_fitting 32 = .ok (.getfield 12, 3) := by decide +kernel
theorem dX7_fitting_35 : decode cX7_fitting 35 = .ok (.iload_n 3, 1) := by decide +kernel
theorem dX7_fitting_36 : decode cX7_fitting 36 = .ok (.iload 4, 2) := by decide +kernel
theorem dX7_fitting_38 : decode cX7_fitting 38 = .ok (.iload 6, 2) := by decide +kernel
theorem dX7_fitting_40 : decode cX7_fitting 40 = .ok (.invokevirtual 117, 3) := by decide +kernel
theorem dX7_fitting_43 : decode cX7_fitting 43 = .ok (.aload_n 0, 1) := by decide +kernel
theorem dX7_fitting_44 : decode cX7_fitting 44 = .ok (.aload_n 1, 1) := by decide +kernel
theorem dX7_fitting_45 : decode cX7_fitting 45 = .ok (.iload_n 2, 1) := by decide +kernel
theorem dX7_fitting_46 : decode cX7_fitting 46 = .ok (.invokevirtual 85, 3) := by decide +kernel
theorem dX7_fitting_49 : decode cX7_fitting 49 = .ok (.bipush (-2), 2) := by decide +kernel
theorem dX7_fitting_51 : decode cX7_fitting 51 = .ok (.if_icmp .ne 12, 3) := by decide +kernel
theorem dX7_fitting_54 : decode cX7_fitting 54 = .ok (.iload 5, 2) := by decide +kernel
theorem dX7_fitting_56 : decode cX7_fitting 56 = .ok (.iconst 1, 1) := by decide +kernel
theorem dX7_fitting_57 : decode cX7_fitting 57 = .ok (.iload 6, 2) := by decide +kernel
theorem dX7_fitting_59 : decode cX7_fitting 59 = .ok (.ishl, 1) := by decide +kernel
theorem dX7_fitting_60 : decode cX7_fitting 60 = .ok (.ior, 1) := by decide +kernel
theorem dX7_fitting_61 : decode cX7_fitting 61 = .ok (.istore 5, 2) := by decide +kernel
theorem dX7_fitting_63 : decode cX7_fitting 63 = .ok (.iinc 6 1, 3) := by decide +kernel
theorem dX7_fitting_66 : decode cX7_fitting 66 = .ok (.goto (-60), 3) := by decide +kernel
theorem dX7_fitting_69 : decode cX7_fitting 69 = .ok (.iload 5, 2) := by decide +kernel
theorem dX7_fitting_71 : decode cX7_fitting 71 = .ok (.ireturn, 1) := by decide +kernel
theorem dX7_pullByTurns_0 : decode cX7_pullByTurns 0 = .ok (.aload_n 0, 1) := by decide +kernel
theorem dX7_pullByTurns_1 : decode cX7_pullByTurns 1 = .ok (.getfield 12, 3) := by decide +kernel
theorem dX7_pullByTurns_4 : decode cX7_pullByTurns 4 = .ok (.aload_n 0, 1) := by decide +kernel
theorem dX7_pullByTurns_5 : decode cX7_pullByTurns 5 = .ok (.getfield 22, 3) := by decide +kernel
theorem dX7_pullByTurns_8 : decode cX7_pullByTurns 8 = .ok (.getfield 26, 3) := by decide +kernel
theorem dX7_pullByTurns_11 : decode cX7_pullByTurns 11 = .ok (.invokevirtual 31, 3) := by decide +kernel
theorem dX7_pullByTurns_14 : decode cX7_pullByTurns 14 = .ok (.aload_n 0, 1) := by decide +kernel
theorem dX7_pullByTurns_15 : decode cX7_pullByTurns 15 = .ok (.iload_n 1, 1) := by decide +kernel
theorem dX7_pullByTurns_16 : decode cX7_pullByTurns 16 = .ok (.bipush 10, 2) := by decide +kernel
theorem dX7_pullByTurns_18 : decode cX7_pullByTurns 18 = .ok (.idiv, 1) := by decide +kernel
theorem dX7_pullByTurns_19 : decode cX7_pullByTurns 19 = .ok (.putfield 121, 3) := by decide +kernel
theorem dX7_pullByTurns_22 : decode cX7_pullByTurns 22 = .ok (.aload_n 0, 1) := by decide +kernel
theorem dX7_pullByTurns_23 : decode cX7_pullByTurns 23 = .ok (.iload_n 1, 1) := by decide +kernel
theorem dX7_pullByTurns_24 : decode cX7_pullByTurns 24 = .ok (.bipush 10, 2) := by decide +kernel
theorem dX7_pullByTurns_26 : decode cX7_pullByTurns 26 = .ok (.irem, 1) := by decide +kernel
theorem dX7_pullByTurns_27 : decode cX7_pullByTurns 27 = .ok (.putfield 124, 3) := by decide +kernel
theorem dX7_pullByTurns_30 : decode cX7_pullByTurns 30 = .ok (.aload_n 0, 1) := by decide +kernel
theorem dX7_pullByTurns_31 : decode cX7_pullByTurns 31 = .ok (.iload_n 2, 1) := by decide +kernel
theorem dX7_pullByTurns_32 : decode cX7_pullByTurns 32 = .ok (.bipush 10, 2) := by decide +kernel
theorem dX7_pullByTurns_34 : decode cX7_pullByTurns 34 = .ok (.idiv, 1) := by decide +kernel
theorem dX7_pullByTurns_35 : decode cX7_pullByTurns 35 = .ok (.putfield 127, 3) := by decide +kernel
theorem dX7_pullByTurns_38 : decode cX7_pullByTurns 38 = .ok (.aload_n 0, 1) := by decide +kernel
theorem dX7_pullByTurns_39 : decode cX7_pullByTurns 39 = .ok (.iload_n 2, 1) := by decide +kernel
theorem dX7_pullByTurns_40 : decode cX7_pullByTurns 40 = .ok (.bipush 10, 2) := by decide +kernel
theorem dX7_pullByTurns_42 : decode cX7_pullByTurns 42 = .ok (.irem, 1) := by decide +kernel
theorem dX7_pullByTurns_43 : decode cX7_pullByTurns 43 = .ok (.putfield 130, 3) := by decide +kernel
theorem dX7_pullByTurns_46 : decode cX7_pullByTurns 46 = .ok (.aload_n 0, 1) := by decide +kernel
theorem dX7_pullByTurns_47 : decode cX7_pullByTurns 47 = .ok (.iconst 0, 1) := by decide +kernel
theorem dX7_pullByTurns_48 : decode cX7_pullByTurns 48 = .ok (.iload_n 3, 1) := by decide +kernel
theorem dX7_pullByTurns_49 : decode cX7_pullByTurns 49 = .ok (.invokevirtual 133, 3) := by decide +kernel
theorem dX7_pullByTurns_52 : decode cX7_pullByTurns 52 = .ok (.ireturn, 1) := by decide +kernel
theorem dX7_bestFrom_0 : decode cX7_bestFrom 0 = .ok (.iload_n 1, 1) := by decide +kernel
theorem dX7_bestFrom_1 : decode cX7_bestFrom 1 = .ok (.iload_n 2, 1) := by decide +kernel
theorem dX7_bestFrom_2 : decode cX7_bestFrom 2 = .ok (.if_icmp .lt 59, 3) := by decide +kernel
theorem dX7_bestFrom_5 : decode cX7_bestFrom 5 = .ok (.aload_n 0, 1) := by decide +kernel
theorem dX7_bestFrom_6 : decode cX7_bestFrom 6 = .ok (.getfield 22, 3) := by decide +kernel
theorem dX7_bestFrom_9 : decode cX7_bestFrom 9 = .ok (.getfield 100, 3) := by decide +kernel
theorem dX7_bestFrom_12 : decode cX7_bestFrom 12 = .ok (.aload_n 0, 1) := by decide +kernel
theorem dX7_bestFrom_13 : decode cX7_bestFrom 13 = .ok (.getfield 12, 3) := by decide +kernel
theorem dX7_bestFrom_16 : decode cX7_bestFrom 16 = .ok (.aload_n 0, 1) := by decide +kernel
theorem dX7_bestFrom_17 : decode cX7_bestFrom 17 = .ok (.getfield 22, 3) := by decide +kernel
theorem dX7_bestFrom_20 : decode cX7_bestFrom 20 = .ok (.getfield 136, 3) := by decide +kernel
theorem dX7_bestFrom_23 : decode cX7_bestFrom 23 = .ok (.aload_n 0, 1) := by decide +kernel
theorem dX7_bestFrom_24 : decode cX7_bestFrom 24 = .ok (.getfield 121, 3) := by decide +kernel
theorem dX7_bestFrom_27 : decode cX7_bestFrom 27 = .ok (.iaload, 1) := by decide +kernel
theorem dX7_bestFrom_28 : decode cX7_bestFrom 28 = .ok (.invokevirtual 104, 3) := by decide +kernel
theorem dX7_bestFrom_31 : decode cX7_bestFrom 31 = .ok (.istore_n 3, 1) := by decide +kernel
theorem dX7_bestFrom_32 : decode cX7_bestFrom 32 = .ok (.iload_n 3, 1) := by decide +kernel
theorem dX7_bestFrom_33 : decode cX7_bestFrom 33 = .ok (.aload_n 0, 1) := by decide +kernel
theorem dX7_bestFrom_34 : decode cX7_bestFrom 34 = .ok (.getfield 22, 3) := by decide +kernel
theorem dX7_bestFrom_37 : decode cX7_bestFrom 37 = .ok (.getfield 100, 3) := by decide +kernel
theorem dX7_bestFrom_40 : decode cX7_bestFrom 40 = .ok (.aload_n 0, 1) := by decide +kernel
theorem dX7_bestFrom_41 : decode cX7_bestFrom 41 = .ok (.getfield 12, 3) := by decide +kernel
theorem dX7_bestFrom_44 : decode cX7_bestFrom 44 = .ok (.aload_n 0, 1) := by decide +kernel
theorem dX7_bestFrom_45 : decode cX7_bestFrom 45 = .ok (.getfield 22, 3) := by decide +kernel
theorem dX7_bestFrom_48 : decode cX7_bestFrom 48 = .ok (.getfield 136, 3) := by decide +kernel
theorem dX7_bestFrom_51 : decode cX7_bestFrom 51 = .ok (.aload_n 0, 1) := by decide +kernel
theorem dX7_bestFrom_52 : decode cX7_bestFrom 52 = .ok (.getfield 124, 3) := by decide +kernel
theorem dX7_bestFrom_55 : decode cX7_bestFrom 55 = .ok (.iaload, 1) := by decide +kernel
theorem dX7_bestFrom_56 : decode cX7_bestFrom 56 = .ok (.invokevirtual 104, 3) := by decide +kernel
theorem dX7_bestFrom_59 : decode cX7_bestFrom 59 = .ok (.isub, 1) := by decide +kernel
theorem dX7_bestFrom_60 : decode cX7_bestFrom 60 = .ok (.ireturn, 1) := by decide +kernel
theorem dX7_bestFrom_61 : decode cX7_bestFrom 61 = .ok (.iload_n 1, 1) := by decide +kernel
theorem dX7_bestFrom_62 : decode cX7_bestFrom 62 = .ok (.iconst 2, 1) := by decide +kernel
theorem dX7_bestFrom_63 : decode cX7_bestFrom 63 = .ok (.irem, 1) := by decide +kernel
theorem dX7_bestFrom_64 : decode cX7_bestFrom 64 = .ok (.ifCond .ne 7, 3) := by decide +kernel
theorem dX7_bestFrom_67 : decode cX7_bestFrom 67 = .ok (.iconst 1, 1) := by decide +kernel
theorem dX7_bestFrom_68 : decode cX7_bestFrom 68 = .ok (.goto 4, 3) := by decide +kernel
theorem dX7_bestFrom_71 : decode cX7_bestFrom 71 = .ok (.iconst 0, 1) := by decide +kernel
theorem dX7_bestFrom_72 : decode cX7_bestFrom 72 = .ok (.istore_n 3, 1) := by decide +kernel
theorem dX7_bestFrom_73 : decode cX7_bestFrom 73 = .ok (.iload_n 3, 1) := by decide +kernel
theorem dX7_bestFrom_74 : decode cX7_bestFrom 74 = .ok (.ifCond .eq 10, 3) := by decide +kernel
theorem dX7_bestFrom_77 : decode cX7_bestFrom 77 = .ok (.aload_n 0, 1) := by decide +kernel
theorem dX7_bestFrom_78 : decode cX7_bestFrom 78 = .ok (.getfield 127, 3) := by decide +kernel
theorem dX7_bestFrom_81 : decode cX7_bestFrom 81 = .ok (.goto 7, 3) := by decide +kernel
theorem dX7_bestFrom_84 : decode cX7_bestFrom 84 = .ok (.aload_n 0, 1) := by decide +kernel
theorem dX7_bestFrom_85 : decode cX7_bestFrom 85 = .ok (.getfield 130, 3) := by decide +kernel
theorem dX7_bestFrom_88 : decode cX7_bestFrom 88 = .ok (.istore 4, 2) := by decide +kernel
theorem dX7_bestFrom_90 : decode cX7_bestFrom 90 = .ok (.aload_n 0, 1) := by decide +kernel
theorem dX7_bestFrom_91 : decode cX7_bestFrom 91 = .ok (.iload_n 1, 1) := by decide +kernel
theorem dX7_bestFrom_92 : decode cX7_bestFrom 92 = .ok (.iconst 1, 1) := by decide +kernel
theorem dX7_bestFrom_93 : decode cX7_bestFrom 93 = .ok (.iadd, 1) := by decide +kernel
theorem dX7_bestFrom_94 : decode cX7_bestFrom 94 = .ok (.iload_n 2, 1) := by decide +kernel
theorem dX7_bestFrom_95 : decode cX7_bestFrom 95 = .ok (.invokevirtual 133, 3) := by decide +kernel
theorem dX7_bestFrom_98 : decode cX7_bestFrom 98 = .ok (.istore 5, 2) := by decide +kernel
theorem dX7_bestFrom_100 : decode cX7_bestFrom 100 = .ok (.iconst 2, 1) := by decide +kernel
theorem dX7_bestFrom_101 : decode cX7_bestFrom 101 = .ok (.istore 6, 2) := by decide +kernel
theorem dX7_bestFrom_103 : decode cX7_bestFrom 103 = .ok (.iconst 0, 1) := by decide +kernel
theorem dX7_bestFrom_104 : decode cX7_bestFrom 104 = .ok (.istore 7, 2) := by decide +kernel
theorem dX7_bestFrom_106 : decode cX7_bestFrom 106 = .ok (.iload 7, 2) := by decide +kernel
theorem dX7_bestFrom_108 : decode cX7_bestFrom 108 = .ok (.iconst 2, 1) := by decide +kernel
theorem dX7_bestFrom_109 : decode cX7_bestFrom 109 = .ok (.if_icmp .ge 72, 3) := by decide +kernel
theorem dX7_bestFrom_112 : decode cX7_bestFrom 112 = .ok (.aload_n 0, 1) := by decide +kernel
theorem dX7_bestFrom_113 : decode cX7_bestFrom 113 = .ok (.getfield 12, 3) := by decide +kernel
theorem dX7_bestFrom_116 : decode cX7_bestFrom 116 = .ok (.iload 4, 2) := by decide +kernel
theorem dX7_bestFrom_118 : decode cX7_bestFrom 118 = .ok (.iload 7, 2) := by decide +kernel
theorem dX7_bestFrom_120 : decode cX7_bestFrom 120 = .ok (.invokevirtual 51, 3) := by decide +kernel
theorem dX7_bestFrom_123 : decode cX7_bestFrom 123 = .ok (.aload_n 0, 1) := by decide +kernel
theorem dX7_bestFrom_124 : decode cX7_bestFrom 124 = .ok (.iload_n 1, 1) := by decide +kernel
theorem dX7_bestFrom_125 : decode cX7_bestFrom 125 = .ok (.iconst 1, 1) := by decide +kernel
theorem dX7_bestFrom_126 : decode cX7_bestFrom 126 = .ok (.iadd, 1) := by decide +kernel
theorem dX7_bestFrom_127 : decode cX7_bestFrom 127 = .ok (.iload_n 2, 1) := by decide +kernel
theorem dX7_bestFrom_128 : decode cX7_bestFrom 128 = .ok (.invokevirtual 133, 3) := by decide +kernel
theorem dX7_bestFrom_131 : decode cX7_bestFrom 131 = .ok (.istore 8, 2) := by decide +kernel
theorem dX7_bestFrom_133 : decode cX7_bestFrom 133 = .ok (.aload_n 0, 1) := by decide +kernel
theorem dX7_bestFrom_134 : decode cX7_bestFrom 134 = .ok (.getfield 12, 3) := by decide +kernel
theorem dX7_bestFrom_137 : decode cX7_bestFrom 137 = .ok (.iload 4, 2) := by decide +kernel
theorem dX7_bestFrom_139 : decode cX7_bestFrom 139 = .ok (.iconst 1, 1) := by decide +kernel
theorem dX7_bestFrom_140 : decode cX7_bestFrom 140 = .ok (.iload 7, 2) := by decide +kernel
theorem dX7_bestFrom_142 : decode cX7_bestFrom 142 = .ok (.isub, 1) := by decide +kernel
theorem dX7_bestFrom_143 : decode cX7_bestFrom 143 = .ok (.invokevirtual 51, 3) := by decide +kernel
theorem dX7_bestFrom_146 : decode cX7_bestFrom 146 = .ok (.iload_n 3, 1) := by decide +kernel
theorem dX7_bestFrom_147 : decode cX7_bestFrom 147 = .ok (.ifCond .eq 13, 3) := by decide +kernel
theorem dX7_bestFrom_150 : decode cX7_bestFrom 150 = .ok (.iload 8, 2) := by decide +kernel
theorem dX7_bestFrom_152 : decode cX7_bestFrom 152 = .ok (.iload 5, 2) := by decide +kernel
theorem dX7_bestFrom_154 : decode cX7_bestFrom 154 = .ok (.if_icmp .le 21, 3) := by decide +kernel
theorem dX7_bestFrom_157 : decode cX7_bestFrom 157 = .ok (.goto 10, 3) := by decide +kernel
theorem dX7_bestFrom_160 : decode cX7_bestFrom 160 = .ok (.iload 8, 2) := by decide +kernel
theorem dX7_bestFrom_162 : decode cX7_bestFrom 162 = .ok (.iload 5, 2) := by decide +kernel
theorem dX7_bestFrom_164 : decode cX7_bestFrom 164 = .ok (.if_icmp .ge 11, 3) := by decide +kernel
theorem dX7_bestFrom_167 : decode cX7_bestFrom 167 = .ok (.iload 8, 2) := by decide +kernel
theorem dX7_bestFrom_169 : decode cX7_bestFrom 169 = .ok (.istore 5, 2) := by decide +kernel
theorem dX7_bestFrom_171 : decode cX7_bestFrom 171 = .ok (.iload 7, 2) := by decide +kernel
theorem dX7_bestFrom_173 : decode cX7_bestFrom 173 = .ok (.istore 6, 2) := by decide +kernel
theorem dX7_bestFrom_175 : decode cX7_bestFrom 175 = .ok (.iinc 7 1, 3) := by decide +kernel
theorem dX7_bestFrom_178 : decode cX7_bestFrom 178 = .ok (.goto (-72), 3) := by decide +kernel
theorem dX7_bestFrom_181 : decode cX7_bestFrom 181 = .ok (.iload_n 1, 1) := by decide +kernel
theorem dX7_bestFrom_182 : decode cX7_bestFrom 182 = .ok (.ifCond .ne 9, 3) := by decide +kernel
theorem dX7_bestFrom_185 : decode cX7_bestFrom 185 = .ok (.aload_n 0, 1) := by decide +kernel
theorem dX7_bestFrom_186 : decode cX7_bestFrom 186 = .ok (.iload 6, 2) := by decide +kernel
theorem dX7_bestFrom_188 : decode cX7_bestFrom 188 = .ok (.putfield 139, 3) := by decide +kernel
theorem dX7_bestFrom_191 : decode cX7_bestFrom 191 = .ok (.iload 5, 2) := by decide +kernel
theorem dX7_bestFrom_193 : decode cX7_bestFrom 193 = .ok (.ireturn, 1) := by decide +kernel
theorem dX7_coldByDraws_0 : decode cX7_coldByDraws 0 = .ok (.iload_n 1, 1) := by decide +kernel
theorem dX7_coldByDraws_1 : decode cX7_coldByDraws 1 = .ok (.istore 5, 2) := by decide +kernel
theorem dX7_coldByDraws_3 : decode cX7_coldByDraws 3 = .ok (.iconst 0, 1) := by decide +kernel
theorem dX7_coldByDraws_4 : decode cX7_coldByDraws 4 = .ok (.istore 6, 2) := by decide +kernel
theorem dX7_coldByDraws_6 : decode cX7_coldByDraws 6 = .ok (.iconst 0, 1) := by decide +kernel
theorem dX7_coldByDraws_7 : decode cX7_coldByDraws 7 = .ok (.istore 7, 2) := by decide +kernel
theorem dX7_coldByDraws_9 : decode cX7_coldByDraws 9 = .ok (.iload 7, 2) := by decide +kernel
theorem dX7_coldByDraws_11 : decode cX7_coldByDraws 11 = .ok (.iload_n 2, 1) := by decide +kernel
theorem dX7_coldByDraws_12 : decode cX7_coldByDraws 12 = .ok (.if_icmp .ge 117, 3) := by decide +kernel
theorem dX7_coldByDraws_15 : decode cX7_coldByDraws 15 = .ok (.aload_n 0, 1) := by decide +kernel
theorem dX7_coldByDraws_16 : decode cX7_coldByDraws 16 = .ok (.getfield 12, 3) := by decide +kernel
theorem dX7_coldByDraws_19 : decode cX7_coldByDraws 19 = .ok (.aload_n 0, 1) := by decide +kernel
theorem dX7_coldByDraws_20 : decode cX7_coldByDraws 20 = .ok (.getfield 22, 3) := by decide +kernel
theorem dX7_coldByDraws_23 : decode cX7_coldByDraws 23 = .ok (.getfield 26, 3) := by decide +kernel
theorem dX7_coldByDraws_26 : decode cX7_coldByDraws 26 = .ok (.invokevirtual 31, 3) := by decide +kernel
theorem dX7_coldByDraws_29 : decode cX7_coldByDraws 29 = .ok (.iconst 0, 1) := by decide +kernel
theorem dX7_coldByDraws_30 : decode cX7_coldByDraws 30 = .ok (.istore 8, 2) := by decide +kernel
theorem dX7_coldByDraws_32 : decode cX7_coldByDraws 32 = .ok (.iload 8, 2) := by decide +kernel
theorem dX7_coldByDraws_34 : decode cX7_coldByDraws 34 = .ok (.iload_n 3, 1) := by decide +kernel
theorem dX7_coldByDraws_35 : decode cX7_coldByDraws 35 = .ok (.if_icmp .ge 88, 3) := by decide +kernel
theorem dX7_coldByDraws_38 : decode cX7_coldByDraws 38 = .ok (.iload 5, 2) := by decide +kernel
theorem dX7_coldByDraws_40 : decode cX7_coldByDraws 40 = .ok (.ldc 142, 2) := by decide +kernel
theorem dX7_coldByDraws_42 : decode cX7_coldByDraws 42 = .ok (.imul, 1) := by decide +kernel
theorem dX7_coldByDraws_43 : decode cX7_coldByDraws 43 = .ok (.sipush 12345, 3) := by decide +kernel
theorem dX7_coldByDraws_46 : decode cX7_coldByDraws 46 = .ok (.iadd, 1) := by decide +kernel
theorem dX7_coldByDraws_47 : decode cX7_coldByDraws 47 = .ok (.istore 5, 2) := by decide +kernel
theorem dX7_coldByDraws_49 : decode cX7_coldByDraws 49 = .ok (.aload_n 0, 1) := by decide +kernel
theorem dX7_coldByDraws_50 : decode cX7_coldByDraws 50 = .ok (.iload 5, 2) := by decide +kernel
theorem dX7_coldByDraws_52 : decode cX7_coldByDraws 52 = .ok (.invokevirtual 143, 3) := by decide +kernel
theorem dX7_coldByDraws_55 : decode cX7_coldByDraws 55 = .ok (.iload 6, 2) := by decide +kernel
theorem dX7_coldByDraws_57 : decode cX7_coldByDraws 57 = .ok (.iload 4, 2) := by decide +kernel
theorem dX7_coldByDraws_59 : decode cX7_coldByDraws 59 = .ok (.ifCond .ge 20, 3) := by decide +kernel
theorem dX7_coldByDraws_62 : decode cX7_coldByDraws 62 = .ok (.aload_n 0, 1) := by decide +kernel
theorem dX7_coldByDraws_63 : decode cX7_coldByDraws 63 = .ok (.getfield 22, 3) := by decide +kernel
theorem dX7_coldByDraws_66 : decode cX7_coldByDraws 66 = .ok (.aload_n 0, 1) := by decide +kernel
theorem dX7_coldByDraws_67 : decode cX7_coldByDraws 67 = .ok (.getfield 12, 3) := by decide +kernel
theorem dX7_coldByDraws_70 : decode cX7_coldByDraws 70 = .ok (.invokevirtual 72, 3) := by decide +kernel
theorem dX7_coldByDraws_73 : decode cX7_coldByDraws 73 = .ok (.invokestatic 76, 3) := by decide +kernel
theorem dX7_coldByDraws_76 : decode cX7_coldByDraws 76 = .ok (.goto 24, 3) := by decide +kernel
theorem dX7_coldByDraws_79 : decode cX7_coldByDraws 79 = .ok (.aload_n 0, 1) := by decide +kernel
theorem dX7_coldByDraws_80 : decode cX7_coldByDraws 80 = .ok (.getfield 22, 3) := by decide +kernel
theorem dX7_coldByDraws_83 : decode cX7_coldByDraws 83 = .ok (.aload_n 0, 1) := by decide +kernel
theorem dX7_coldByDraws_84 : decode cX7_coldByDraws 84 = .ok (.getfield 12, 3) := by decide +kernel
theorem dX7_coldByDraws_87 : decode cX7_coldByDraws 87 = .ok (.iload 4, 2) := by decide +kernel
theorem dX7_coldByDraws_89 : decode cX7_coldByDraws 89 = .ok (.invokevirtual 43, 3) := by decide +kernel
theorem dX7_coldByDraws_92 : decode cX7_coldByDraws 92 = .ok (.ifCond .eq 7, 3) := by decide +kernel
theorem dX7_coldByDraws_95 : decode cX7_coldByDraws 95 = .ok (.iconst 1, 1) := by decide +kernel
theorem dX7_coldByDraws_96 : decode cX7_coldByDraws 96 = .ok (.goto 4, 3) := by decide +kernel
theorem dX7_coldByDraws_99 : decode cX7_coldByDraws 99 = .ok (.iconst 0, 1) := by decide +kernel
theorem dX7_coldByDraws_100 : decode cX7_coldByDraws 100 = .ok (.iadd, 1) := by decide +kernel
theorem dX7_coldByDraws_101 : decode cX7_coldByDraws 101 = .ok (.istore 6, 2) := by decide +kernel
theorem dX7_coldByDraws_103 : decode cX7_coldByDraws 103 = .ok (.aload_n 0, 1) := by decide +kernel
theorem dX7_coldByDraws_104 : decode cX7_coldByDraws 104 = .ok (.getfield 12, 3) := by decide +kernel
theorem dX7_coldByDraws_107 : decode cX7_coldByDraws 107 = .ok (.aload_n 0, 1) := by decide +kernel
theorem dX7_coldByDraws_108 : decode cX7_coldByDraws 108 = .ok (.getfield 22, 3) := by decide +kernel
theorem dX7_coldByDraws_111 : decode cX7_coldByDraws 111 = .ok (.getfield 35, 3) := by decide +kernel
theorem dX7_coldByDraws_114 : decode cX7_coldByDraws 114 = .ok (.invokevirtual 39, 3) := by decide +kernel
theorem dX7_coldByDraws_117 : decode cX7_coldByDraws 117 = .ok (.iinc 8 1, 3) := by decide +kernel
theorem dX7_coldByDraws_120 : decode cX7_coldByDraws 120 = .ok (.goto (-88), 3) := by decide +kernel
theorem dX7_coldByDraws_123 : decode cX7_coldByDraws 123 = .ok (.iinc 7 1, 3) := by decide +kernel
theorem dX7_coldByDraws_126 : decode cX7_coldByDraws 126 = .ok (.goto (-117), 3) := by decide +kernel
theorem dX7_coldByDraws_129 : decode cX7_coldByDraws 129 = .ok (.iload 6, 2) := by decide +kernel
theorem dX7_coldByDraws_131 : decode cX7_coldByDraws 131 = .ok (.ireturn, 1) := by decide +kernel
theorem dX7_draw_0 : decode cX7_draw 0 = .ok (.iload_n 1, 1) := by decide +kernel
theorem dX7_draw_1 : decode cX7_draw 1 = .ok (.bipush 8, 2) := by decide +kernel
theorem dX7_draw_3 : decode cX7_draw 3 = .ok (.iushr, 1) := by decide +kernel
theorem dX7_draw_4 : decode cX7_draw 4 = .ok (.iconst 3, 1) := by decide +kernel
theorem dX7_draw_5 : decode cX7_draw 5 = .ok (.irem, 1) := by decide +kernel
theorem dX7_draw_6 : decode cX7_draw 6 = .ok (.istore_n 2, 1) := by decide +kernel
theorem dX7_draw_7 : decode cX7_draw 7 = .ok (.iload_n 2, 1) := by decide +kernel
theorem dX7_draw_8 : decode cX7_draw 8 = .ok (.ifCond .ne 20, 3) := by decide +kernel
theorem dX7_draw_11 : decode cX7_draw 11 = .ok (.aload_n 0, 1) := by decide +kernel
theorem dX7_draw_12 : decode cX7_draw 12 = .ok (.getfield 12, 3) := by decide +kernel
theorem dX7_draw_15 : decode cX7_draw 15 = .ok (.iload_n 1, 1) := by decide +kernel
theorem dX7_draw_16 : decode cX7_draw 16 = .ok (.bipush 16, 2) := by decide +kernel
theorem dX7_draw_18 : decode cX7_draw 18 = .ok (.iushr, 1) := by decide +kernel
theorem dX7_draw_19 : decode cX7_draw 19 = .ok (.iconst 5, 1) := by decide +kernel
theorem dX7_draw_20 : decode cX7_draw 20 = .ok (.irem, 1) := by decide +kernel
theorem dX7_draw_21 : decode cX7_draw 21 = .ok (.iconst 0, 1) := by decide +kernel
theorem dX7_draw_22 : decode cX7_draw 22 = .ok (.invokevirtual 51, 3) := by decide +kernel
theorem dX7_draw_25 : decode cX7_draw 25 = .ok (.goto 40, 3) := by decide +kernel
theorem dX7_draw_28 : decode cX7_draw 28 = .ok (.iload_n 2, 1) := by decide +kernel
theorem dX7_draw_29 : decode cX7_draw 29 = .ok (.iconst 1, 1) := by decide +kernel
theorem dX7_draw_30 : decode cX7_draw 30 = .ok (.if_icmp .ne 35, 3) := by decide +kernel
theorem dX7_draw_33 : decode cX7_draw 33 = .ok (.iload_n 1, 1) := by decide +kernel
theorem dX7_draw_34 : decode cX7_draw 34 = .ok (.bipush 16, 2) := by decide +kernel
theorem dX7_draw_36 : decode cX7_draw 36 = .ok (.iushr, 1) := by decide +kernel
theorem dX7_draw_37 : decode cX7_draw 37 = .ok (.bipush 30, 2) := by decide +kernel
theorem dX7_draw_39 : decode cX7_draw 39 = .ok (.irem, 1) := by decide +kernel
theorem dX7_draw_40 : decode cX7_draw 40 = .ok (.istore_n 3, 1) := by decide +kernel
theorem dX7_draw_41 : decode cX7_draw 41 = .ok (.aload_n 0, 1) := by decide +kernel
theorem dX7_draw_42 : decode cX7_draw 42 = .ok (.getfield 12, 3) := by decide +kernel
theorem dX7_draw_45 : decode cX7_draw 45 = .ok (.getfield 146, 3) := by decide +kernel
theorem dX7_draw_48 : decode cX7_draw 48 = .ok (.iload_n 3, 1) := by decide +kernel
theorem dX7_draw_49 : decode cX7_draw 49 = .ok (.iconst 0, 1) := by decide +kernel
theorem dX7_draw_50 : decode cX7_draw 50 = .ok (.aload_n 0, 1) := by decide +kernel
theorem dX7_draw_51 : decode cX7_draw 51 = .ok (.getfield 12, 3) := by decide +kernel
theorem dX7_draw_54 : decode cX7_draw 54 = .ok (.getfield 146, 3) := by decide +kernel
theorem dX7_draw_57 : decode cX7_draw 57 = .ok (.iload_n 3, 1) := by decide +kernel
theorem dX7_draw_58 : decode cX7_draw 58 = .ok (.iaload, 1) := by decide +kernel
theorem dX7_draw_59 : decode cX7_draw 59 = .ok (.iconst 1, 1) := by decide +kernel
theorem dX7_draw_60 : decode cX7_draw 60 = .ok (.isub, 1) := by decide +kernel
theorem dX7_draw_61 : decode cX7_draw 61 = .ok (.invokestatic 149, 3) := by decide +kernel
theorem dX7_draw_64 : decode cX7_draw 64 = .ok (.iastore, 1) := by decide +kernel
theorem dX7_draw_65 : decode cX7_draw 65 = .ok (.return_, 1) := by decide +kernel
theorem dX8_init_0 : decode cX8_init 0 = .ok (.aload_n 0, 1) := by decide +kernel
theorem dX8_init_1 : decode cX8_init 1 = .ok (.invokespecial 3, 3) := by decide +kernel
theorem dX8_init_4 : decode cX8_init 4 = .ok (.aload_n 0, 1) := by decide +kernel
theorem dX8_init_5 : decode cX8_init 5 = .ok (.bipush 30, 2) := by decide +kernel
theorem dX8_init_7 : decode cX8_init 7 = .ok (.newarray .int, 2) := by decide +kernel
theorem dX8_init_9 : decode cX8_init 9 = .ok (.putfield 9, 3) := by decide +kernel
theorem dX8_init_12 : decode cX8_init 12 = .ok (.aload_n 0, 1) := by decide +kernel
theorem dX8_init_13 : decode cX8_init 13 = .ok (.bipush 30, 2) := by decide +kernel
theorem dX8_init_15 : decode cX8_init 15 = .ok (.newarray .int, 2) := by decide +kernel
theorem dX8_init_17 : decode cX8_init 17 = .ok (.putfield 15, 3) := by decide +kernel
theorem dX8_init_20 : decode cX8_init 20 = .ok (.aload_n 0, 1) := by decide +kernel
theorem dX8_init_21 : decode cX8_init 21 = .ok (.bipush 30, 2) := by decide +kernel
theorem dX8_init_23 : decode cX8_init 23 = .ok (.newarray .int, 2) := by decide +kernel
theorem dX8_init_25 : decode cX8_init 25 = .ok (.putfield 18, 3) := by decide +kernel
theorem dX8_init_28 : decode cX8_init 28 = .ok (.aload_n 0, 1) := by decide +kernel
theorem dX8_init_29 : decode cX8_init 29 = .ok (.bipush 30, 2) := by decide +kernel
theorem dX8_init_31 : decode cX8_init 31 = .ok (.newarray .int, 2) := by decide +kernel
theorem dX8_init_33 : decode cX8_init 33 = .ok (.putfield 21, 3) := by decide +kernel
theorem dX8_init_36 : decode cX8_init 36 = .ok (.return_, 1) := by decide +kernel
theorem dX8_findWay_0 : decode cX8_findWay 0 = .ok (.aload_n 0, 1) := by decide +kernel
theorem dX8_findWay_1 : decode cX8_findWay 1 = .ok (.getfield 9, 3) := by decide +kernel
theorem dX8_findWay_4 : decode cX8_findWay 4 = .ok (.iload_n 1, 1) := by decide +kernel
theorem dX8_findWay_5 : decode cX8_findWay 5 = .ok (.iaload, 1) := by decide +kernel
theorem dX8_findWay_6 : decode cX8_findWay 6 = .ok (.aload_n 0, 1) := by decide +kernel
theorem dX8_findWay_7 : decode cX8_findWay 7 = .ok (.getfield 9, 3) := by decide +kernel
theorem dX8_findWay_10 : decode cX8_findWay 10 = .ok (.iload_n 2, 1) := by decide +kernel
theorem dX8_findWay_11 : decode cX8_findWay 11 = .ok (.iaload, 1) := by decide +kernel
theorem dX8_findWay_12 : decode cX8_findWay 12 = .ok (.invokestatic 24, 3) := by decide +kernel
theorem dX8_findWay_15 : decode cX8_findWay 15 = .ok (.istore_n 3, 1) := by decide +kernel
theorem dX8_findWay_16 : decode cX8_findWay 16 = .ok (.iload_n 3, 1) := by decide +kernel
theorem dX8_findWay_17 : decode cX8_findWay 17 = .ok (.ifCond .lt 83, 3) := by decide +kernel
theorem dX8_findWay_20 : decode cX8_findWay 20 = .ok (.aload_n 0, 1) := by decide +kernel
theorem dX8_findWay_21 : decode cX8_findWay 21 = .ok (.invokevirtual 30, 3) := by decide +kernel
theorem dX8_findWay_24 : decode cX8_findWay 24 = .ok (.iconst 0, 1) := by decide +kernel
theorem dX8_findWay_25 : decode cX8_findWay 25 = .ok (.istore 4, 2) := by decide +kernel
theorem dX8_findWay_27 : decode cX8_findWay 27 = .ok (.iload 4, 2) := by decide +kernel
theorem dX8_findWay_29 : decode cX8_findWay 29 = .ok (.bipush 30, 2) := by decide +kernel
theorem dX8_findWay_31 : decode cX8_findWay 31 = .ok (.if_icmp .ge 32, 3) := by decide +kernel
theorem dX8_findWay_34 : decode cX8_findWay 34 = .ok (.aload_n 0, 1) := by decide +kernel
theorem dX8_findWay_35 : decode cX8_findWay 35 = .ok (.getfield 15, 3) := by decide +kernel
theorem dX8_findWay_38 : decode cX8_findWay 38 = .ok (.iload 4, 2) := by decide +kernel
theorem dX8_findWay_40 : decode cX8_findWay 40 = .ok (.aload_n 0, 1) := by decide +kernel
theorem dX8_findWay_41 : decode cX8_findWay 41 = .ok (.getfield 9, 3) := by decide +kernel
theorem dX8_findWay_44 : decode cX8_findWay 44 = .ok (.iload 4, 2) := by decide +kernel
theorem dX8_findWay_46 : decode cX8_findWay 46 = .ok (.iaload, 1) := by decide +kernel
theorem dX8_findWay_47 : decode cX8_findWay 47 = .ok (.iload_n 3, 1) := by decide +kernel
theorem dX8_findWay_48 : decode cX8_findWay 48 = .ok (.if_icmp .lt 7, 3) := by decide +kernel
theorem dX8_findWay_51 : decode cX8_findWay 51 = .ok (.iconst 1, 1) := by decide +kernel
theorem dX8_findWay_52 : decode cX8_findWay 52 = .ok (.goto 4, 3) := by decide +kernel
theorem dX8_findWay_55 : decode cX8_findWay 55 = .ok (.iconst 0, 1) := by decide +kernel
theorem dX8_findWay_56 : decode cX8_findWay 56 = .ok (.iastore, 1) := by decide +kernel
theorem dX8_findWay_57 : decode cX8_findWay 57 = .ok (.iinc 4 1, 3) := by decide +kernel
theorem dX8_findWay_60 : decode cX8_findWay 60 = .ok (.goto (-33), 3) := by decide +kernel
theorem dX8_findWay_63 : decode cX8_findWay 63 = .ok (.aload_n 0, 1) := by decide +kernel
theorem dX8_findWay_64 : decode cX8_findWay 64 = .ok (.iload_n 1, 1) := by decide +kernel
theorem dX8_findWay_65 : decode cX8_findWay 65 = .ok (.invokevirtual 33, 3) := by decide +kernel
theorem dX8_findWay_68 : decode cX8_findWay 68 = .ok (.pop, 1) := by decide +kernel
theorem dX8_findWay_69 : decode cX8_findWay 69 = .ok (.aload_n 0, 1) := by decide +kernel
theorem dX8_findWay_70 : decode cX8_findWay 70 = .ok (.getfield 18, 3) := by decide +kernel
theorem dX8_findWay_73 : decode cX8_findWay 73 = .ok (.iload_n 2, 1) := by decide +kernel
theorem dX8_findWay_74 : decode cX8_findWay 74 = .ok (.iaload, 1) := by decide +kernel
theorem dX8_findWay_75 : decode cX8_findWay 75 = .ok (.ifCond .lt 19, 3) := by decide +kernel
theorem dX8_findWay_78 : decode cX8_findWay 78 = .ok (.aload_n 0, 1) := by decide +kernel
theorem dX8_findWay_79 : decode cX8_findWay 79 = .ok (.iload_n 3, 1) := by decide +kernel
theorem dX8_findWay_80 : decode cX8_findWay 80 = .ok (.putfield 37, 3) := by decide +kernel
theorem dX8_findWay_83 : decode cX8_findWay 83 = .ok (.aload_n 0, 1) := by decide +kernel
theorem dX8_findWay_84 : decode cX8_findWay 84 = .ok (.aload_n 0, 1) := by decide +kernel
theorem dX8_findWay_85 : decode cX8_findWay 85 = .ok (.getfield 18, 3) := by decide +kernel
theorem dX8_findWay_88 : decode cX8_findWay 88 = .ok (.iload_n 2, 1) := by decide +kernel
theorem dX8_findWay_89 : decode cX8_findWay 89 = .ok (.iaload, 1) := by decide +kernel
theorem dX8_findWay_90 : decode cX8_findWay 90 = .ok (.putfield 41, 3) := by decide +kernel
theorem dX8_findWay_93 : decode cX8_findWay 93 = .ok (.return_, 1) := by decide +kernel
theorem dX8_findWay_94 : decode cX8_findWay 94 = .ok (.iinc 3 (-1), 3) := by decide +kernel
theorem dX8_findWay_97 : decode cX8_findWay 97 = .ok (.goto (-81), 3) := by decide +kernel
theorem dX8_findWay_100 : decode cX8_findWay 100 = .ok (.return_, 1) := by decide +kernel
theorem dX8_findPatches_0 : decode cX8_findPatches 0 = .ok (.aload_n 0, 1) := by decide +kernel
theorem dX8_findPatches_1 : decode cX8_findPatches 1 = .ok (.iconst 0, 1) := by decide +kernel
theorem dX8_findPatches_2 : decode cX8_findPatches 2 = .ok (.putfield 44, 3) := by decide +kernel
theorem dX8_findPatches_5 : decode cX8_findPatches 5 = .ok (.aload_n 0, 1) := by decide +kernel
theorem dX8_findPatches_6 : decode cX8_findPatches 6 = .ok (.iconst 0, 1) := by decide +kernel
theorem dX8_findPatches_7 : decode cX8_findPatches 7 = .ok (.putfield 47, 3) := by decide +kernel
theorem dX8_findPatches_10 : decode cX8_findPatches 10 = .ok (.aload_n 0, 1) := by decide +kernel
theorem dX8_findPatches_11 : decode cX8_findPatches 11 = .ok (.invokevirtual 30, 3) := by decide +kernel
theorem dX8_findPatches_14 : decode cX8_findPatches 14 = .ok (.iconst 0, 1) := by decide +kernel
theorem dX8_findPatches_15 : decode cX8_findPatches 15 = .ok (.istore_n 2, 1) := by decide +kernel
theorem dX8_findPatches_16 : decode cX8_findPatches 16 = .ok (.iload_n 2, 1) := by decide +kernel
theorem dX8_findPatches_17 : decode cX8_findPatches 17 = .ok (.bipush 30, 2) := by decide +kernel
theorem dX8_findPatches_19 : decode cX8_findPatches 19 = .ok (.if_icmp .ge 36, 3) := by decide +kernel
theorem dX8_findPatches_22 : decode cX8_findPatches 22 = .ok (.aload_n 0, 1) := by decide +kernel
theorem dX8_findPatches_23 : decode cX8_findPatches 23 = .ok (.getfield 15, 3) := by decide +kernel
theorem dX8_findPatches_26 : decode cX8_findPatches 26 = .ok (.iload_n 2, 1) := by decide +kernel
theorem dX8_findPatches_27 : decode cX8_findPatches 27 = .ok (.aload_n 1, 1) := by decide +kernel
theorem dX8_findPatches_28 : decode cX8_findPatches 28 = .ok (.getfield 50, 3) := by decide +kernel
theorem dX8_findPatches_31 : decode cX8_findPatches 31 = .ok (.iload_n 2, 1) := by decide +kernel
theorem dX8_findPatches_32 : decode cX8_findPatches 32 = .ok (.iaload, 1) := by decide +kernel
theorem dX8_findPatches_33 : decode cX8_findPatches 33 = .ok (.ifCond .le 14, 3) := by decide +kernel
theorem dX8_findPatches_36 : decode cX8_findPatches 36 = .ok (.aload_n 1, 1) := by decide +kernel
theorem dX8_findPatches_37 : decode cX8_findPatches 37 = .ok (.getfield 55, 3) := by decide +kernel
theorem dX8_findPatches_40 : decode cX8_findPatches 40 = .ok (.iload_n 2, 1) := by decide +kernel
theorem dX8_findPatches_41 : decode cX8_findPatches 41 = .ok (.iaload, 1) := by decide +kernel
theorem dX8_findPatches_42 : decode cX8_findPatches 42 = .ok (.iconst 1, 1) := by decide +kernel
theorem dX8_findPatches_43 : decode cX8_findPatches 43 = .ok (.iadd, 1) := by decide +kernel
theorem dX8_findPatches_44 : decode cX8_findPatches 44 = .ok (.goto 4, 3) := by decide +kernel
theorem dX8_findPatches_47 : decode cX8_findPatches 47 = .ok (.iconst 0, 1) := by decide +kernel
theorem dX8_findPatches_48 : decode cX8_findPatches 48 = .ok (.iastore, 1) := by decide +kernel
theorem dX8_findPatches_49 : decode cX8_findPatches 49 = .ok (.iinc 2 1, 3) := by decide +kernel
theorem dX8_findPatches_52 : decode cX8_findPatches 52 = .ok (.goto (-36), 3) := by decide +kernel
theorem dX8_findPatches_55 : decode cX8_findPatches 55 = .ok (.iconst 0, 1) := by decide +kernel
theorem dX8_findPatches_56 : decode cX8_findPatches 56 = .ok (.istore_n 2, 1) := by decide +kernel
theorem dX8_findPatches_57 : decode cX8_findPatches 57 = .ok (.iload_n 2, 1) := by decide +kernel
theorem dX8_findPatches_58 : decode cX8_findPatches 58 = .ok (.bipush 30, 2) := by decide +kernel
theorem dX8_findPatches_60 : decode cX8_findPatches 60 = .ok (.if_icmp .ge 53, 3) := by decide +kernel
theorem dX8_findPatches_63 : decode cX8_findPatches 63 = .ok (.aload_n 0, 1) := by decide +kernel
theorem dX8_findPatches_64 : decode cX8_findPatches 64 = .ok (.getfield 15, 3) := by decide +kernel
theorem dX8_findPatches_67 : decode cX8_findPatches 67 = .ok (.iload_n 2, 1) := by decide +kernel
theorem dX8_findPatches_68 : decode cX8_findPatches 68 = .ok (.iaload, 1) := by decide +kernel
theorem dX8_findPatches_69 : decode cX8_findPatches 69 = .ok (.ifCond .le 38, 3) := by decide +kernel
theorem dX8_findPatches_72 : decode cX8_findPatches 72 = .ok (.aload_n 0, 1) := by decide +kernel
theorem dX8_findPatches_73 : decode cX8_findPatches 73 = .ok (.getfield 18, 3) := by decide +kernel
theorem dX8_findPatches_76 : decode cX8_findPatches 76 = .ok (.iload_n 2, 1) := by decide +kernel
theorem dX8_findPatches_77 : decode cX8_findPatches 77 = .ok (.iaload, 1) := by decide +kernel
theorem dX8_findPatches_78 : decode cX8_findPatches 78 = .ok (.ifCond .ge 29, 3) := by decide +kernel
theorem dX8_findPatches_81 : decode cX8_findPatches 81 = .ok (.aload_n 0, 1) := by decide +kernel
theorem dX8_findPatches_82 : decode cX8_findPatches 82 = .ok (.dup, 1) := by decide +kernel
theorem dX8_findPatches_83 : decode cX8_findPatches 83 = .ok (.getfield 44, 3) := by decide +kernel
theorem dX8_findPatches_86 : decode cX8_findPatches 86 = .ok (.iconst 1, 1) := by decide +kernel
theorem dX8_findPatches_87 : decode cX8_findPatches 87 = .ok (.iadd, 1) := by decide +kernel
theorem dX8_findPatches_88 : decode cX8_findPatches 88 = .ok (.putfield 44, 3) := by decide +kernel
theorem dX8_findPatches_91 : decode cX8_findPatches 91 = .ok (.aload_n 0, 1) := by decide +kernel
theorem dX8_findPatches_92 : decode cX8_findPatches 92 = .ok (.aload_n 0, 1) := by decide +kernel
theorem dX8_findPatches_93 : decode cX8_findPatches 93 = .ok (.getfield 47, 3) := by decide +kernel
theorem dX8_findPatches_96 : decode cX8_findPatches 96 = .ok (.aload_n 0, 1) := by decide +kernel
theorem dX8_findPatches_97 : decode cX8_findPatches 97 = .ok (.iload_n 2, 1) := by decide +kernel
theorem dX8_findPatches_98 : decode cX8_findPatches 98 = .ok (.invokevirtual 33, 3) := by decide +kernel
theorem dX8_findPatches_101 : decode cX8_findPatches 101 = .ok (.invokestatic 58, 3) := by decide +kernel
theorem dX8_findPatches_104 : decode cX8_findPatches 104 = .ok (.putfield 47, 3) := by decide +kernel
theorem dX8_findPatches_107 : decode cX8_findPatches 107 = .ok (.iinc 2 1, 3) := by decide +kernel
theorem dX8_findPatches_110 : decode cX8_findPatches 110 = .ok (.goto (-53), 3) := by decide +kernel
theorem dX8_findPatches_113 : decode cX8_findPatches 113 = .ok (.return_, 1) := by decide +kernel
theorem dX8_forgetSteps_0 : decode cX8_forgetSteps 0 = .ok (.iconst 0, 1) := by decide +kernel
theorem dX8_forgetSteps_1 : decode cX8_forgetSteps 1 = .ok (.istore_n 1, 1) := by decide +kernel
theorem dX8_forgetSteps_2 : decode cX8_forgetSteps 2 = .ok (.iload_n 1, 1) := by decide +kernel
theorem dX8_forgetSteps_3 : decode cX8_forgetSteps 3 = .ok (.bipush 30, 2) := by decide +kernel
theorem dX8_forgetSteps_5 : decode cX8_forgetSteps 5 = .ok (.if_icmp .ge 16, 3) := by decide +kernel
theorem dX8_forgetSteps_8 : decode cX8_forgetSteps 8 = .ok (.aload_n 0, 1) := by decide +kernel
theorem dX8_forgetSteps_9 : decode cX8_forgetSteps 9 = .ok (.getfield 18, 3) := by decide +kernel
theorem dX8_forgetSteps_12 : decode cX8_forgetSteps 12 = .ok (.iload_n 1, 1) := by decide +kernel
theorem dX8_forgetSteps_13 : decode cX8_forgetSteps 13 = .ok (.iconst (-1), 1) := by decide +kernel
theorem dX8_forgetSteps_14 : decode cX8_forgetSteps 14 = .ok (.iastore, 1) := by decide +kernel
theorem dX8_forgetSteps_15 : decode cX8_forgetSteps 15 = .ok (.iinc 1 1, 3) := by decide +kernel
theorem dX8_forgetSteps_18 : decode cX8_forgetSteps 18 = .ok (.goto (-16), 3) := by decide +kernel
theorem dX8_forgetSteps_21 : decode cX8_forgetSteps 21 = .ok (.return_, 1) := by decide +kernel
theorem dX8_spread_0 : decode cX8_spread 0 = .ok (.iconst 1, 1) := by decide +kernel
theorem dX8_spread_1 : decode cX8_spread 1 = .ok (.istore_n 2, 1) := by decide +kernel
theorem dX8_spread_2 : decode cX8_spread 2 = .ok (.aload_n 0, 1) := by decide +kernel
theorem dX8_spread_3 : decode cX8_spread 3 = .ok (.getfield 21, 3) := by decide +kernel
theorem dX8_spread_6 : decode cX8_spread 6 = .ok (.iconst 0, 1) := by decide +kernel
theorem dX8_spread_7 : decode cX8_spread 7 = .ok (.iload_n 1, 1) := by decide +kernel
theorem dX8_spread_8 : decode cX8_spread 8 = .ok (.iastore, 1) := by decide +kernel
theorem dX8_spread_9 : decode cX8_spread 9 = .ok (.aload_n 0, 1) := by decide +kernel
theorem dX8_spread_10 : decode cX8_spread 10 = .ok (.getfield 18, 3) := by decide +kernel
theorem dX8_spread_13 : decode cX8_spread 13 = .ok (.iload_n 1, 1) := by decide +kernel
theorem dX8_spread_14 : decode cX8_spread 14 = .ok (.iconst 0, 1) := by decide +kernel
theorem dX8_spread_15 : decode cX8_spread 15 = .ok (.iastore, 1) := by decide +kernel
theorem dX8_spread_16 : decode cX8_spread 16 = .ok (.iconst 0, 1) := by decide +kernel
theorem dX8_spread_17 : decode cX8_spread 17 = .ok (.istore_n 3, 1) := by decide +kernel
theorem dX8_spread_18 : decode cX8_spread 18 = .ok (.iload_n 3, 1) := by decide +kernel
theorem dX8_spread_19 : decode cX8_spread 19 = .ok (.iload_n 2, 1) := by decide +kernel
theorem dX8_spread_20 : decode cX8_spread 20 = .ok (.if_icmp .ge 105, 3) := by decide +kernel
theorem dX8_spread_23 : decode cX8_spread 23 = .ok (.aload_n 0, 1) := by decide +kernel
theorem dX8_spread_24 : decode cX8_spread 24 = .ok (.getfield 21, 3) := by decide +kernel
theorem dX8_spread_27 : decode cX8_spread 27 = .ok (.iload_n 3, 1) := by decide +kernel
theorem dX8_spread_28 : decode cX8_spread 28 = .ok (.iaload, 1) := by decide +kernel
theorem dX8_spread_29 : decode cX8_spread 29 = .ok (.istore 4, 2) := by decide +kernel
theorem dX8_spread_31 : decode cX8_spread 31 = .ok (.iconst 0, 1) := by decide +kernel
theorem dX8_spread_32 : decode cX8_spread 32 = .ok (.istore 5, 2) := by decide +kernel
theorem dX8_spread_34 : decode cX8_spread 34 = .ok (.iload 5, 2) := by decide +kernel
theorem dX8_spread_36 : decode cX8_spread 36 = .ok (.iconst 4, 1) := by decide +kernel
theorem dX8_spread_37 : decode cX8_spread 37 = .ok (.if_icmp .ge 82, 3) := by decide +kernel
theorem dX8_spread_40 : decode cX8_spread 40 = .ok (.iload 4, 2) := by decide +kernel
theorem dX8_spread_42 : decode cX8_spread 42 = .ok (.iload 5, 2) := by decide +kernel
theorem dX8_spread_44 : decode cX8_spread 44 = .ok (.invokestatic 61, 3) := by decide +kernel
theorem dX8_spread_47 : decode cX8_spread 47 = .ok (.istore 6, 2) := by decide +kernel
theorem dX8_spread_49 : decode cX8_spread 49 = .ok (.iload 6, 2) := by decide +kernel
theorem dX8_spread_51 : decode cX8_spread 51 = .ok (.ifCond .lt 62, 3) := by decide +kernel
theorem dX8_spread_54 : decode cX8_spread 54 = .ok (.aload_n 0, 1) := by decide +kernel
theorem dX8_spread_55 : decode cX8_spread 55 = .ok (.getfield 18, 3) := by decide +kernel
theorem dX8_spread_58 : decode cX8_spread 58 = .ok (.iload 6, 2) := by decide +kernel
theorem dX8_spread_60 : decode cX8_spread 60 = .ok (.iaload, 1) := by decide +kernel
theorem dX8_spread_61 : decode cX8_spread 61 = .ok (.ifCond .ge 52, 3) := by decide +kernel
theorem dX8_spread_64 : decode cX8_spread 64 = .ok (.aload_n 0, 1) := by decide +kernel
theorem dX8_spread_65 : decode cX8_spread 65 = .ok (.getfield 15, 3) := by decide +kernel
theorem dX8_spread_68 : decode cX8_spread 68 = .ok (.iload 6, 2) := by decide +kernel
theorem dX8_spread_70 : decode cX8_spread 70 = .ok (.iaload, 1) := by decide +kernel
theorem dX8_spread_71 : decode cX8_spread 71 = .ok (.aload_n 0, 1) := by decide +kernel
theorem dX8_spread_72 : decode cX8_spread 72 = .ok (.getfield 15, 3) := by decide +kernel
theorem dX8_spread_75 : decode cX8_spread 75 = .ok (.iload_n 1, 1) := by decide +kernel
theorem dX8_spread_76 : decode cX8_spread 76 = .ok (.iaload, 1) := by decide +kernel
theorem dX8_spread_77 : decode cX8_spread 77 = .ok (.if_icmp .ne 36, 3) := by decide +kernel
theorem dX8_spread_80 : decode cX8_spread 80 = .ok (.iload_n 2, 1) := by decide +kernel
theorem dX8_spread_81 : decode cX8_spread 81 = .ok (.bipush 30, 2) := by decide +kernel
theorem dX8_spread_83 : decode cX8_spread 83 = .ok (.if_icmp .ge 30, 3) := by decide +kernel
theorem dX8_spread_86 : decode cX8_spread 86 = .ok (.aload_n 0, 1) := by decide +kernel
theorem dX8_spread_87 : decode cX8_spread 87 = .ok (.getfield 18, 3) := by decide +kernel
theorem dX8_spread_90 : decode cX8_spread 90 = .ok (.iload 6, 2) := by decide +kernel
theorem dX8_spread_92 : decode cX8_spread 92 = .ok (.aload_n 0, 1) := by decide +kernel
theorem dX8_spread_93 : decode cX8_spread 93 = .ok (.getfield 18, 3) := by decide +kernel
theorem dX8_spread_96 : decode cX8_spread 96 = .ok (.iload 4, 2) := by decide +kernel
theorem dX8_spread_98 : decode cX8_spread 98 = .ok (.iaload, 1) := by decide +kernel
theorem dX8_spread_99 : decode cX8_spread 99 = .ok (.iconst 1, 1) := by decide +kernel
theorem dX8_spread_100 : decode cX8_spread 100 = .ok (.iadd, 1) := by decide +kernel
theorem dX8_spread_101 : decode cX8_spread 101 = .ok (.iastore, 1) := by decide +kernel
theorem dX8_spread_102 : decode cX8_spread 102 = .ok (.aload_n 0, 1) := by decide +kernel
theorem dX8_spread_103 : decode cX8_spread 103 = .ok (.getfield 21, 3) := by decide +kernel
theorem dX8_spread_106 : decode cX8_spread 106 = .ok (.iload_n 2, 1) := by decide +kernel
theorem dX8_spread_107 : decode cX8_spread 107 = .ok (.iload 6, 2) := by decide +kernel
theorem dX8_spread_109 : decode cX8_spread 109 = .ok (.iastore, 1) := by decide +kernel
theorem dX8_spread_110 : decode cX8_spread 110 = .ok (.iinc 2 1, 3) := by decide +kernel
theorem dX8_spread_113 : decode cX8_spread 113 = .ok (.iinc 5 1, 3) := by decide +kernel
theorem dX8_spread_116 : decode cX8_spread 116 = .ok (.goto (-82), 3) := by decide +kernel
theorem dX8_spread_119 : decode cX8_spread 119 = .ok (.iinc 3 1, 3) := by decide +kernel
theorem dX8_spread_122 : decode cX8_spread 122 = .ok (.goto (-104), 3) := by decide +kernel
theorem dX8_spread_125 : decode cX8_spread 125 = .ok (.iload_n 2, 1) := by decide +kernel
theorem dX8_spread_126 : decode cX8_spread 126 = .ok (.ireturn, 1) := by decide +kernel
theorem dJ6_numberOfTrailingZeros_0f7a4_0 : decode cJ6_numberOfTrailingZeros_0f7a4 0 = .ok (.iload_n 0, 1) := by decide +kernel
theorem dJ6_numberOfTrailingZeros_0f7a4_1 : decode cJ6_numberOfTrailingZeros_0f7a4 1 = .ok (.iconst (-1), 1) := by decide +kernel
theorem dJ6_numberOfTrailingZeros_0f7a4_2 : decode cJ6_numberOfTrailingZeros_0f7a4 2 = .ok (.ixor, 1) := by decide +kernel
theorem dJ6_numberOfTrailingZeros_0f7a4_3 : decode cJ6_numberOfTrailingZeros_0f7a4 3 = .ok (.iload_n 0, 1) := by decide +kernel
theorem dJ6_numberOfTrailingZeros_0f7a4_4 : decode cJ6_numberOfTrailingZeros_0f7a4 4 = .ok (.iconst 1, 1) := by decide +kernel
theorem dJ6_numberOfTrailingZeros_0f7a4_5 : decode cJ6_numberOfTrailingZeros_0f7a4 5 = .ok (.isub, 1) := by decide +kernel
theorem dJ6_numberOfTrailingZeros_0f7a4_6 : decode cJ6_numberOfTrailingZeros_0f7a4 6 = .ok (.iand, 1) := by decide +kernel
theorem dJ6_numberOfTrailingZeros_0f7a4_7 : decode cJ6_numberOfTrailingZeros_0f7a4 7 = .ok (.istore_n 0, 1) := by decide +kernel
theorem dJ6_numberOfTrailingZeros_0f7a4_8 : decode cJ6_numberOfTrailingZeros_0f7a4 8 = .ok (.iload_n 0, 1) := by decide +kernel
theorem dJ6_numberOfTrailingZeros_0f7a4_9 : decode cJ6_numberOfTrailingZeros_0f7a4 9 = .ok (.ifCond .gt 8, 3) := by decide +kernel
theorem dJ6_numberOfTrailingZeros_0f7a4_12 : decode cJ6_numberOfTrailingZeros_0f7a4 12 = .ok (.iload_n 0, 1) := by decide +kernel
theorem dJ6_numberOfTrailingZeros_0f7a4_13 : decode cJ6_numberOfTrailingZeros_0f7a4 13 = .ok (.bipush 32, 2) := by decide +kernel
theorem dJ6_numberOfTrailingZeros_0f7a4_15 : decode cJ6_numberOfTrailingZeros_0f7a4 15 = .ok (.iand, 1) := by decide +kernel
theorem dJ6_numberOfTrailingZeros_0f7a4_16 : decode cJ6_numberOfTrailingZeros_0f7a4 16 = .ok (.ireturn, 1) := by decide +kernel
theorem dJ6_numberOfTrailingZeros_0f7a4_17 : decode cJ6_numberOfTrailingZeros_0f7a4 17 = .ok (.iconst 1, 1) := by decide +kernel
theorem dJ6_numberOfTrailingZeros_0f7a4_18 : decode cJ6_numberOfTrailingZeros_0f7a4 18 = .ok (.istore_n 1, 1) := by decide +kernel
theorem dJ6_numberOfTrailingZeros_0f7a4_19 : decode cJ6_numberOfTrailingZeros_0f7a4 19 = .ok (.iload_n 0, 1) := by decide +kernel
theorem dJ6_numberOfTrailingZeros_0f7a4_20 : decode cJ6_numberOfTrailingZeros_0f7a4 20 = .ok (.ldc_w 264, 3) := by decide +kernel
theorem dJ6_numberOfTrailingZeros_0f7a4_23 : decode cJ6_numberOfTrailingZeros_0f7a4 23 = .ok (.if_icmp .le 11, 3) := by decide +kernel
theorem dJ6_numberOfTrailingZeros_0f7a4_26 : decode cJ6_numberOfTrailingZeros_0f7a4 26 = .ok (.iinc 1 16, 3) := by decide +kernel
theorem dJ6_numberOfTrailingZeros_0f7a4_29 : decode cJ6_numberOfTrailingZeros_0f7a4 29 = .ok (.iload_n 0, 1) := by decide +kernel
theorem dJ6_numberOfTrailingZeros_0f7a4_30 : decode cJ6_numberOfTrailingZeros_0f7a4 30 = .ok (.bipush 16, 2) := by decide +kernel
theorem dJ6_numberOfTrailingZeros_0f7a4_32 : decode cJ6_numberOfTrailingZeros_0f7a4 32 = .ok (.iushr, 1) := by decide +kernel
theorem dJ6_numberOfTrailingZeros_0f7a4_33 : decode cJ6_numberOfTrailingZeros_0f7a4 33 = .ok (.istore_n 0, 1) := by decide +kernel
theorem dJ6_numberOfTrailingZeros_0f7a4_34 : decode cJ6_numberOfTrailingZeros_0f7a4 34 = .ok (.iload_n 0, 1) := by decide +kernel
theorem dJ6_numberOfTrailingZeros_0f7a4_35 : decode cJ6_numberOfTrailingZeros_0f7a4 35 = .ok (.sipush 256, 3) := by decide +kernel
theorem dJ6_numberOfTrailingZeros_0f7a4_38 : decode cJ6_numberOfTrailingZeros_0f7a4 38 = .ok (.if_icmp .le 11, 3) := by decide +kernel
theorem dJ6_numberOfTrailingZeros_0f7a4_41 : decode cJ6_numberOfTrailingZeros_0f7a4 41 = .ok (.iinc 1 8, 3) := by decide +kernel
theorem dJ6_numberOfTrailingZeros_0f7a4_44 : decode cJ6_numberOfTrailingZeros_0f7a4 44 = .ok (.iload_n 0, 1) := by decide +kernel
theorem dJ6_numberOfTrailingZeros_0f7a4_45 : decode cJ6_numberOfTrailingZeros_0f7a4 45 = .ok (.bipush 8, 2) := by decide +kernel
theorem dJ6_numberOfTrailingZeros_0f7a4_47 : decode cJ6_numberOfTrailingZeros_0f7a4 47 = .ok (.iushr, 1) := by decide +kernel
theorem dJ6_numberOfTrailingZeros_0f7a4_48 : decode cJ6_numberOfTrailingZeros_0f7a4 48 = .ok (.istore_n 0, 1) := by decide +kernel
theorem dJ6_numberOfTrailingZeros_0f7a4_49 : decode cJ6_numberOfTrailingZeros_0f7a4 49 = .ok (.iload_n 0, 1) := by decide +kernel
theorem dJ6_numberOfTrailingZeros_0f7a4_50 : decode cJ6_numberOfTrailingZeros_0f7a4 50 = .ok (.bipush 16, 2) := by decide +kernel
theorem dJ6_numberOfTrailingZeros_0f7a4_52 : decode cJ6_numberOfTrailingZeros_0f7a4 52 = .ok (.if_icmp .le 10, 3) := by decide +kernel
theorem dJ6_numberOfTrailingZeros_0f7a4_55 : decode cJ6_numberOfTrailingZeros_0f7a4 55 = .ok (.iinc 1 4, 3) := by decide +kernel
theorem dJ6_numberOfTrailingZeros_0f7a4_58 : decode cJ6_numberOfTrailingZeros_0f7a4 58 = .ok (.iload_n 0, 1) := by decide +kernel
theorem dJ6_numberOfTrailingZeros_0f7a4_59 : decode cJ6_numberOfTrailingZeros_0f7a4 59 = .ok (.iconst 4, 1) := by decide +kernel
theorem dJ6_numberOfTrailingZeros_0f7a4_60 : decode cJ6_numberOfTrailingZeros_0f7a4 60 = .ok (.iushr, 1) := by decide +kernel
theorem dJ6_numberOfTrailingZeros_0f7a4_61 : decode cJ6_numberOfTrailingZeros_0f7a4 61 = .ok (.istore_n 0, 1) := by decide +kernel
theorem dJ6_numberOfTrailingZeros_0f7a4_62 : decode cJ6_numberOfTrailingZeros_0f7a4 62 = .ok (.iload_n 0, 1) := by decide +kernel
theorem dJ6_numberOfTrailingZeros_0f7a4_63 : decode cJ6_numberOfTrailingZeros_0f7a4 63 = .ok (.iconst 4, 1) := by decide +kernel
theorem dJ6_numberOfTrailingZeros_0f7a4_64 : decode cJ6_numberOfTrailingZeros_0f7a4 64 = .ok (.if_icmp .le 10, 3) := by decide +kernel
theorem dJ6_numberOfTrailingZeros_0f7a4_67 : decode cJ6_numberOfTrailingZeros_0f7a4 67 = .ok (.iinc 1 2, 3) := by decide +kernel
theorem dJ6_numberOfTrailingZeros_0f7a4_70 : decode cJ6_numberOfTrailingZeros_0f7a4 70 = .ok (.iload_n 0, 1) := by decide +kernel
theorem dJ6_numberOfTrailingZeros_0f7a4_71 : decode cJ6_numberOfTrailingZeros_0f7a4 71 = .ok (.iconst 2, 1) := by decide +kernel
theorem dJ6_numberOfTrailingZeros_0f7a4_72 : decode cJ6_numberOfTrailingZeros_0f7a4 72 = .ok (.iushr, 1) := by decide +kernel
theorem dJ6_numberOfTrailingZeros_0f7a4_73 : decode cJ6_numberOfTrailingZeros_0f7a4 73 = .ok (.istore_n 0, 1) := by decide +kernel
theorem dJ6_numberOfTrailingZeros_0f7a4_74 : decode cJ6_numberOfTrailingZeros_0f7a4 74 = .ok (.iload_n 1, 1) := by decide +kernel
theorem dJ6_numberOfTrailingZeros_0f7a4_75 : decode cJ6_numberOfTrailingZeros_0f7a4 75 = .ok (.iload_n 0, 1) := by decide +kernel
theorem dJ6_numberOfTrailingZeros_0f7a4_76 : decode cJ6_numberOfTrailingZeros_0f7a4 76 = .ok (.iconst 1, 1) := by decide +kernel
theorem dJ6_numberOfTrailingZeros_0f7a4_77 : decode cJ6_numberOfTrailingZeros_0f7a4 77 = .ok (.iushr, 1) := by decide +kernel
theorem dJ6_numberOfTrailingZeros_0f7a4_78 : decode cJ6_numberOfTrailingZeros_0f7a4 78 = .ok (.iadd, 1) := by decide +kernel
theorem dJ6_numberOfTrailingZeros_0f7a4_79 : decode cJ6_numberOfTrailingZeros_0f7a4 79 = .ok (.ireturn, 1) := by decide +kernel
theorem dJ6_bitCount_0f7a4_0 : decode cJ6_bitCount_0f7a4 0 = .ok (.iload_n 0, 1) := by decide +kernel
theorem dJ6_bitCount_0f7a4_1 : decode cJ6_bitCount_0f7a4 1 = .ok (.iload_n 0, 1) := by decide +kernel
theorem dJ6_bitCount_0f7a4_2 : decode cJ6_bitCount_0f7a4 2 = .ok (.iconst 1, 1) := by decide +kernel
theorem dJ6_bitCount_0f7a4_3 : decode cJ6_bitCount_0f7a4 3 = .ok (.iushr, 1) := by decide +kernel
theorem dJ6_bitCount_0f7a4_4 : decode cJ6_bitCount_0f7a4 4 = .ok (.ldc_w 265, 3) := by decide +kernel
theorem dJ6_bitCount_0f7a4_7 : decode cJ6_bitCount_0f7a4 7 = .ok (.iand, 1) := by decide +kernel
theorem dJ6_bitCount_0f7a4_8 : decode cJ6_bitCount_0f7a4 8 = .ok (.isub, 1) := by decide +kernel
theorem dJ6_bitCount_0f7a4_9 : decode cJ6_bitCount_0f7a4 9 = .ok (.istore_n 0, 1) := by decide +kernel
theorem dJ6_bitCount_0f7a4_10 : decode cJ6_bitCount_0f7a4 10 = .ok (.iload_n 0, 1) := by decide +kernel
theorem dJ6_bitCount_0f7a4_11 : decode cJ6_bitCount_0f7a4 11 = .ok (.ldc_w 266, 3) := by decide +kernel
theorem dJ6_bitCount_0f7a4_14 : decode cJ6_bitCount_0f7a4 14 = .ok (.iand, 1) := by decide +kernel
theorem dJ6_bitCount_0f7a4_15 : decode cJ6_bitCount_0f7a4 15 = .ok (.iload_n 0, 1) := by decide +kernel
theorem dJ6_bitCount_0f7a4_16 : decode cJ6_bitCount_0f7a4 16 = .ok (.iconst 2, 1) := by decide +kernel
theorem dJ6_bitCount_0f7a4_17 : decode cJ6_bitCount_0f7a4 17 = .ok (.iushr, 1) := by decide +kernel
theorem dJ6_bitCount_0f7a4_18 : decode cJ6_bitCount_0f7a4 18 = .ok (.ldc_w 266, 3) := by decide +kernel
theorem dJ6_bitCount_0f7a4_21 : decode cJ6_bitCount_0f7a4 21 = .ok (.iand, 1) := by decide +kernel
theorem dJ6_bitCount_0f7a4_22 : decode cJ6_bitCount_0f7a4 22 = .ok (.iadd, 1) := by decide +kernel
theorem dJ6_bitCount_0f7a4_23 : decode cJ6_bitCount_0f7a4 23 = .ok (.istore_n 0, 1) := by decide +kernel
theorem dJ6_bitCount_0f7a4_24 : decode cJ6_bitCount_0f7a4 24 = .ok (.iload_n 0, 1) := by decide +kernel
theorem dJ6_bitCount_0f7a4_25 : decode cJ6_bitCount_0f7a4 25 = .ok (.iload_n 0, 1) := by decide +kernel
theorem dJ6_bitCount_0f7a4_26 : decode cJ6_bitCount_0f7a4 26 = .ok (.iconst 4, 1) := by decide +kernel
theorem dJ6_bitCount_0f7a4_27 : decode cJ6_bitCount_0f7a4 27 = .ok (.iushr, 1) := by decide +kernel
theorem dJ6_bitCount_0f7a4_28 : decode cJ6_bitCount_0f7a4 28 = .ok (.iadd, 1) := by decide +kernel
theorem dJ6_bitCount_0f7a4_29 : decode cJ6_bitCount_0f7a4 29 = .ok (.ldc_w 267, 3) := by decide +kernel
theorem dJ6_bitCount_0f7a4_32 : decode cJ6_bitCount_0f7a4 32 = .ok (.iand, 1) := by decide +kernel
theorem dJ6_bitCount_0f7a4_33 : decode cJ6_bitCount_0f7a4 33 = .ok (.istore_n 0, 1) := by decide +kernel
theorem dJ6_bitCount_0f7a4_34 : decode cJ6_bitCount_0f7a4 34 = .ok (.iload_n 0, 1) := by decide +kernel
theorem dJ6_bitCount_0f7a4_35 : decode cJ6_bitCount_0f7a4 35 = .ok (.iload_n 0, 1) := by decide +kernel
theorem dJ6_bitCount_0f7a4_36 : decode cJ6_bitCount_0f7a4 36 = .ok (.bipush 8, 2) := by decide +kernel
theorem dJ6_bitCount_0f7a4_38 : decode cJ6_bitCount_0f7a4 38 = .ok (.iushr, 1) := by decide +kernel
theorem dJ6_bitCount_0f7a4_39 : decode cJ6_bitCount_0f7a4 39 = .ok (.iadd, 1) := by decide +kernel
theorem dJ6_bitCount_0f7a4_40 : decode cJ6_bitCount_0f7a4 40 = .ok (.istore_n 0, 1) := by decide +kernel
theorem dJ6_bitCount_0f7a4_41 : decode cJ6_bitCount_0f7a4 41 = .ok (.iload_n 0, 1) := by decide +kernel
theorem dJ6_bitCount_0f7a4_42 : decode cJ6_bitCount_0f7a4 42 = .ok (.iload_n 0, 1) := by decide +kernel
theorem dJ6_bitCount_0f7a4_43 : decode cJ6_bitCount_0f7a4 43 = .ok (.bipush 16, 2) := by decide +kernel
theorem dJ6_bitCount_0f7a4_45 : decode cJ6_bitCount_0f7a4 45 = .ok (.iushr, 1) := by decide +kernel
theorem dJ6_bitCount_0f7a4_46 : decode cJ6_bitCount_0f7a4 46 = .ok (.iadd, 1) := by decide +kernel
theorem dJ6_bitCount_0f7a4_47 : decode cJ6_bitCount_0f7a4 47 = .ok (.istore_n 0, 1) := by decide +kernel
theorem dJ6_bitCount_0f7a4_48 : decode cJ6_bitCount_0f7a4 48 = .ok (.iload_n 0, 1) := by decide +kernel
theorem dJ6_bitCount_0f7a4_49 : decode cJ6_bitCount_0f7a4 49 = .ok (.bipush 63, 2) := by decide +kernel
theorem dJ6_bitCount_0f7a4_51 : decode cJ6_bitCount_0f7a4 51 = .ok (.iand, 1) := by decide +kernel
theorem dJ6_bitCount_0f7a4_52 : decode cJ6_bitCount_0f7a4 52 = .ok (.ireturn, 1) := by decide +kernel
theorem dJ9_max_7cf53_0 : decode cJ9_max_7cf53 0 = .ok (.iload_n 0, 1) := by decide +kernel
theorem dJ9_max_7cf53_1 : decode cJ9_max_7cf53 1 = .ok (.iload_n 1, 1) := by decide +kernel
theorem dJ9_max_7cf53_2 : decode cJ9_max_7cf53 2 = .ok (.if_icmp .lt 7, 3) := by decide +kernel
theorem dJ9_max_7cf53_5 : decode cJ9_max_7cf53 5 = .ok (.iload_n 0, 1) := by decide +kernel
theorem dJ9_max_7cf53_6 : decode cJ9_max_7cf53 6 = .ok (.goto 4, 3) := by decide +kernel
theorem dJ9_max_7cf53_9 : decode cJ9_max_7cf53 9 = .ok (.iload_n 1, 1) := by decide +kernel
theorem dJ9_max_7cf53_10 : decode cJ9_max_7cf53 10 = .ok (.ireturn, 1) := by decide +kernel
theorem dJ9_min_7cf53_0 : decode cJ9_min_7cf53 0 = .ok (.iload_n 0, 1) := by decide +kernel
theorem dJ9_min_7cf53_1 : decode cJ9_min_7cf53 1 = .ok (.iload_n 1, 1) := by decide +kernel
theorem dJ9_min_7cf53_2 : decode cJ9_min_7cf53 2 = .ok (.if_icmp .gt 7, 3) := by decide +kernel
theorem dJ9_min_7cf53_5 : decode cJ9_min_7cf53 5 = .ok (.iload_n 0, 1) := by decide +kernel
theorem dJ9_min_7cf53_6 : decode cJ9_min_7cf53 6 = .ok (.goto 4, 3) := by decide +kernel
theorem dJ9_min_7cf53_9 : decode cJ9_min_7cf53 9 = .ok (.iload_n 1, 1) := by decide +kernel
theorem dJ9_min_7cf53_10 : decode cJ9_min_7cf53 10 = .ok (.ireturn, 1) := by decide +kernel
end
section
theorem dX9_init_0 : decode cX9_init 0 = .ok (.aload_n 0, 1) := by decide +kernel
theorem dX9_init_1 : decode cX9_init 1 = .ok (.invokespecial 1, 3) := by decide +kernel
theorem dX9_init_4 : decode cX9_init 4 = .ok (.new 7, 3) := by decide +kernel
theorem dX9_init_7 : decode cX9_init 7 = .ok (.dup, 1) := by decide +kernel
theorem dX9_init_8 : decode cX9_init 8 = .ok (.invokespecial 9, 3) := by decide +kernel
theorem dX9_init_11 : decode cX9_init 11 = .ok (.astore_n 1, 1) := by decide +kernel
theorem dX9_init_12 : decode cX9_init 12 = .ok (.aload_n 0, 1) := by decide +kernel
theorem dX9_init_13 : decode cX9_init 13 = .ok (.aload_n 1, 1) := by decide +kernel
theorem dX9_init_14 : decode cX9_init 14 = .ok (.putfield 10, 3) := by decide +kernel
theorem dX9_init_17 : decode cX9_init 17 = .ok (.aload_n 0, 1) := by decide +kernel
theorem dX9_init_18 : decode cX9_init 18 = .ok (.new 16, 3) := by decide +kernel
theorem dX9_init_21 : decode cX9_init 21 = .ok (.dup, 1) := by decide +kernel
theorem dX9_init_22 : decode cX9_init 22 = .ok (.invokespecial 18, 3) := by decide +kernel
theorem dX9_init_25 : decode cX9_init 25 = .ok (.putfield 19, 3) := by decide +kernel
theorem dX9_init_28 : decode cX9_init 28 = .ok (.aload_n 0, 1) := by decide +kernel
theorem dX9_init_29 : decode cX9_init 29 = .ok (.new 23, 3) := by decide +kernel
theorem dX9_init_32 : decode cX9_init 32 = .ok (.dup, 1) := by decide +kernel
theorem dX9_init_33 : decode cX9_init 33 = .ok (.aload_n 1, 1) := by decide +kernel
theorem dX9_init_34 : decode cX9_init 34 = .ok (.invokespecial 25, 3) := by decide +kernel
theorem dX9_init_37 : decode cX9_init 37 = .ok (.putfield 28, 3) := by decide +kernel
theorem dX9_init_40 : decode cX9_init 40 = .ok (.aload_n 0, 1) := by decide +kernel
theorem dX9_init_41 : decode cX9_init 41 = .ok (.new 32, 3) := by decide +kernel
theorem dX9_init_44 : decode cX9_init 44 = .ok (.dup, 1) := by decide +kernel
theorem dX9_init_45 : decode cX9_init 45 = .ok (.invokespecial 34, 3) := by decide +kernel
theorem dX9_init_48 : decode cX9_init 48 = .ok (.putfield 35, 3) := by decide +kernel
theorem dX9_init_51 : decode cX9_init 51 = .ok (.aload_n 0, 1) := by decide +kernel
theorem dX9_init_52 : decode cX9_init 52 = .ok (.new 39, 3) := by decide +kernel
theorem dX9_init_55 : decode cX9_init 55 = .ok (.dup, 1) := by decide +kernel
theorem dX9_init_56 : decode cX9_init 56 = .ok (.invokespecial 41, 3) := by decide +kernel
theorem dX9_init_59 : decode cX9_init 59 = .ok (.putfield 42, 3) := by decide +kernel
theorem dX9_init_62 : decode cX9_init 62 = .ok (.aload_n 0, 1) := by decide +kernel
theorem dX9_init_63 : decode cX9_init 63 = .ok (.new 46, 3) := by decide +kernel
theorem dX9_init_66 : decode cX9_init 66 = .ok (.dup, 1) := by decide +kernel
theorem dX9_init_67 : decode cX9_init 67 = .ok (.invokespecial 48, 3) := by decide +kernel
theorem dX9_init_70 : decode cX9_init 70 = .ok (.putfield 49, 3) := by decide +kernel
theorem dX9_init_73 : decode cX9_init 73 = .ok (.aload_n 0, 1) := by decide +kernel
theorem dX9_init_74 : decode cX9_init 74 = .ok (.bipush 6, 2) := by decide +kernel
theorem dX9_init_76 : decode cX9_init 76 = .ok (.anewarray 53, 3) := by decide +kernel
theorem dX9_init_79 : decode cX9_init 79 = .ok (.putfield 55, 3) := by decide +kernel
theorem dX9_init_82 : decode cX9_init 82 = .ok (.iconst 0, 1) := by decide +kernel
theorem dX9_init_83 : decode cX9_init 83 = .ok (.istore_n 2, 1) := by decide +kernel
theorem dX9_init_84 : decode cX9_init 84 = .ok (.iload_n 2, 1) := by decide +kernel
theorem dX9_init_85 : decode cX9_init 85 = .ok (.bipush 6, 2) := by decide +kernel
theorem dX9_init_87 : decode cX9_init 87 = .ok (.if_icmp .ge 22, 3) := by decide +kernel
theorem dX9_init_90 : decode cX9_init 90 = .ok (.aload_n 0, 1) := by decide +kernel
theorem dX9_init_91 : decode cX9_init 91 = .ok (.getfield 55, 3) := by decide +kernel
theorem dX9_init_94 : decode cX9_init 94 = .ok (.iload_n 2, 1) := by decide +kernel
theorem dX9_init_95 : decode cX9_init 95 = .ok (.new 53, 3) := by decide +kernel
theorem dX9_init_98 : decode cX9_init 98 = .ok (.dup, 1) := by decide +kernel
theorem dX9_init_99 : decode cX9_init 99 = .ok (.invokespecial 59, 3) := by decide +kernel
theorem dX9_init_102 : decode cX9_init 102 = .ok (.aastore, 1) := by decide +kernel
theorem dX9_init_103 : decode cX9_init 103 = .ok (.iinc 2 1, 3) := by decide +kernel
theorem dX9_init_106 : decode cX9_init 106 = .ok (.goto (-22), 3) := by decide +kernel
theorem dX9_init_109 : decode cX9_init 109 = .ok (.aload_n 0, 1) := by decide +kernel
theorem dX9_init_110 : decode cX9_init 110 = .ok (.new 60, 3) := by decide +kernel
theorem dX9_init_113 : decode cX9_init 113 = .ok (.dup, 1) := by decide +kernel
theorem dX9_init_114 : decode cX9_init 114 = .ok (.invokespecial 62, 3) := by decide +kernel
theorem dX9_init_117 : decode cX9_init 117 = .ok (.putfield 63, 3) := by decide +kernel
theorem dX9_init_120 : decode cX9_init 120 = .ok (.aload_n 0, 1) := by decide +kernel
theorem dX9_init_121 : decode cX9_init 121 = .ok (.iconst 0, 1) := by decide +kernel
theorem dX9_init_122 : decode cX9_init 122 = .ok (.putfield 67, 3) := by decide +kernel
theorem dX9_init_125 : decode cX9_init 125 = .ok (.return_, 1) := by decide +kernel
theorem dX9_house_0 : decode cX9_house 0 = .ok (.iload_n 1, 1) := by decide +kernel
theorem dX9_house_1 : decode cX9_house 1 = .ok (.getstatic 71, 3) := by decide +kernel
theorem dX9_house_4 : decode cX9_house 4 = .ok (.iconst 3, 1) := by decide +kernel
theorem dX9_house_5 : decode cX9_house 5 = .ok (.iaload, 1) := by decide +kernel
theorem dX9_house_6 : decode cX9_house 6 = .ok (.invokestatic 75, 3) := by decide +kernel
theorem dX9_house_9 : decode cX9_house 9 = .ok (.ifCond .eq 15, 3) := by decide +kernel
theorem dX9_house_12 : decode cX9_house 12 = .ok (.iload_n 2, 1) := by decide +kernel
theorem dX9_house_13 : decode cX9_house 13 = .ok (.getstatic 71, 3) := by decide +kernel
theorem dX9_house_16 : decode cX9_house 16 = .ok (.iconst 4, 1) := by decide +kernel
theorem dX9_house_17 : decode cX9_house 17 = .ok (.iaload, 1) := by decide +kernel
theorem dX9_house_18 : decode cX9_house 18 = .ok (.invokestatic 75, 3) := by decide +kernel
theorem dX9_house_21 : decode cX9_house 21 = .ok (.ifCond .ne 5, 3) := by decide +kernel
theorem dX9_house_24 : decode cX9_house 24 = .ok (.iconst (-1), 1) := by decide +kernel
theorem dX9_house_25 : decode cX9_house 25 = .ok (.ireturn, 1) := by decide +kernel
theorem dX9_house_26 : decode cX9_house 26 = .ok (.aload_n 0, 1) := by decide +kernel
theorem dX9_house_27 : decode cX9_house 27 = .ok (.getfield 10, 3) := by decide +kernel
theorem dX9_house_30 : decode cX9_house 30 = .ok (.iload_n 1, 1) := by decide +kernel
theorem dX9_house_31 : decode cX9_house 31 = .ok (.iload_n 2, 1) := by decide +kernel
theorem dX9_house_32 : decode cX9_house 32 = .ok (.sipush 4095, 3) := by decide +kernel
theorem dX9_house_35 : decode cX9_house 35 = .ok (.invokevirtual 79, 3) := by decide +kernel
theorem dX9_house_38 : decode cX9_house 38 = .ok (.ireturn, 1) := by decide +kernel
theorem dX9_houses_0 : decode cX9_houses 0 = .ok (.iload_n 1, 1) := by decide +kernel
theorem dX9_houses_1 : decode cX9_houses 1 = .ok (.invokestatic 83, 3) := by decide +kernel
theorem dX9_houses_4 : decode cX9_houses 4 = .ok (.ifCond .eq 14, 3) := by decide +kernel
theorem dX9_houses_7 : decode cX9_houses 7 = .ok (.iload_n 3, 1) := by decide +kernel
theorem dX9_houses_8 : decode cX9_houses 8 = .ok (.iconst 1, 1) := by decide +kernel
theorem dX9_houses_9 : decode cX9_houses 9 = .ok (.if_icmp .lt 9, 3) := by decide +kernel
theorem dX9_houses_12 : decode cX9_houses 12 = .ok (.iload_n 3, 1) := by decide +kernel
theorem dX9_houses_13 : decode cX9_houses 13 = .ok (.bipush 8, 2) := by decide +kernel
theorem dX9_houses_15 : decode cX9_houses 15 = .ok (.if_icmp .le 5, 3) := by decide +kernel
theorem dX9_houses_18 : decode cX9_houses 18 = .ok (.iconst (-1), 1) := by decide +kernel
theorem dX9_houses_19 : decode cX9_houses 19 = .ok (.ireturn, 1) := by decide +kernel
theorem dX9_houses_20 : decode cX9_houses 20 = .ok (.aload_n 0, 1) := by decide +kernel
theorem dX9_houses_21 : decode cX9_houses 21 = .ok (.getfield 55, 3) := by decide +kernel
theorem dX9_houses_24 : decode cX9_houses 24 = .ok (.iload_n 1, 1) := by decide +kernel
theorem dX9_houses_25 : decode cX9_houses 25 = .ok (.aaload, 1) := by decide +kernel
theorem dX9_houses_26 : decode cX9_houses 26 = .ok (.astore 4, 2) := by decide +kernel
theorem dX9_houses_28 : decode cX9_houses 28 = .ok (.aload 4, 2) := by decide +kernel
theorem dX9_houses_30 : decode cX9_houses 30 = .ok (.getfield 87, 3) := by decide +kernel
theorem dX9_houses_33 : decode cX9_houses 33 = .ok (.bipush (-2), 2) := by decide +kernel
theorem dX9_houses_35 : decode cX9_houses 35 = .ok (.if_icmp .eq 15, 3) := by decide +kernel
theorem dX9_houses_38 : decode cX9_houses 38 = .ok (.aload 4, 2) := by decide +kernel
theorem dX9_houses_40 : decode cX9_houses 40 = .ok (.getfield 87, 3) := by decide +kernel
theorem dX9_houses_43 : decode cX9_houses 43 = .ok (.iconst 1, 1) := by decide +kernel
theorem dX9_houses_44 : decode cX9_houses 44 = .ok (.if_icmp .eq 6, 3) := by decide +kernel
theorem dX9_houses_47 : decode cX9_houses 47 = .ok (.bipush (-12), 2) := by decide +kernel
theorem dX9_houses_49 : decode cX9_houses 49 = .ok (.ireturn, 1) := by decide +kernel
theorem dX9_houses_50 : decode cX9_houses 50 = .ok (.iconst 0, 1) := by decide +kernel
theorem dX9_houses_51 : decode cX9_houses 51 = .ok (.istore 5, 2) := by decide +kernel
theorem dX9_houses_53 : decode cX9_houses 53 = .ok (.iload 5, 2) := by decide +kernel
theorem dX9_houses_55 : decode cX9_houses 55 = .ok (.iload_n 3, 1) := by decide +kernel
theorem dX9_houses_56 : decode cX9_houses 56 = .ok (.if_icmp .ge 21, 3) := by decide +kernel
theorem dX9_houses_59 : decode cX9_houses 59 = .ok (.aload_n 0, 1) := by decide +kernel
theorem dX9_houses_60 : decode cX9_houses 60 = .ok (.aload 4, 2) := by decide +kernel
theorem dX9_houses_62 : decode cX9_houses 62 = .ok (.iload_n 2, 1) := by decide +kernel
theorem dX9_houses_63 : decode cX9_houses 63 = .ok (.iload 5, 2) := by decide +kernel
theorem dX9_houses_65 : decode cX9_houses 65 = .ok (.invokevirtual 91, 3) := by decide +kernel
theorem dX9_houses_68 : decode cX9_houses 68 = .ok (.ifCond .eq 9, 3) := by decide +kernel
theorem dX9_houses_71 : decode cX9_houses 71 = .ok (.iinc 5 1, 3) := by decide +kernel
theorem dX9_houses_74 : decode cX9_houses 74 = .ok (.goto (-21), 3) := by decide +kernel
theorem dX9_houses_77 : decode cX9_houses 77 = .ok (.iload 5, 2) := by decide +kernel
theorem dX9_houses_79 : decode cX9_houses 79 = .ok (.ireturn, 1) := by decide +kernel
theorem dX9_mend_0 : decode cX9_mend 0 = .ok (.aload_n 0, 1) := by decide +kernel
theorem dX9_mend_1 : decode cX9_mend 1 = .ok (.getfield 10, 3) := by decide +kernel
theorem dX9_mend_4 : decode cX9_mend 4 = .ok (.iload_n 1, 1) := by decide +kernel
theorem dX9_mend_5 : decode cX9_mend 5 = .ok (.iload_n 2, 1) := by decide +kernel
theorem dX9_mend_6 : decode cX9_mend 6 = .ok (.invokevirtual 95, 3) := by decide +kernel
theorem dX9_mend_9 : decode cX9_mend 9 = .ok (.ifCond .eq 15, 3) := by decide +kernel
theorem dX9_mend_12 : decode cX9_mend 12 = .ok (.iload_n 3, 1) := by decide +kernel
theorem dX9_mend_13 : decode cX9_mend 13 = .ok (.getstatic 71, 3) := by decide +kernel
theorem dX9_mend_16 : decode cX9_mend 16 = .ok (.iload_n 2, 1) := by decide +kernel
theorem dX9_mend_17 : decode cX9_mend 17 = .ok (.iaload, 1) := by decide +kernel
theorem dX9_mend_18 : decode cX9_mend 18 = .ok (.invokestatic 75, 3) := by decide +kernel
theorem dX9_mend_21 : decode cX9_mend 21 = .ok (.ifCond .ne 5, 3) := by decide +kernel
theorem dX9_mend_24 : decode cX9_mend 24 = .ok (.iconst (-1), 1) := by decide +kernel
theorem dX9_mend_25 : decode cX9_mend 25 = .ok (.ireturn, 1) := by decide +kernel
theorem dX9_mend_26 : decode cX9_mend 26 = .ok (.aload_n 0, 1) := by decide +kernel
theorem dX9_mend_27 : decode cX9_mend 27 = .ok (.getfield 10, 3) := by decide +kernel
theorem dX9_mend_30 : decode cX9_mend 30 = .ok (.iload_n 1, 1) := by decide +kernel
theorem dX9_mend_31 : decode cX9_mend 31 = .ok (.iload_n 2, 1) := by decide +kernel
theorem dX9_mend_32 : decode cX9_mend 32 = .ok (.invokevirtual 98, 3) := by decide +kernel
theorem dX9_mend_35 : decode cX9_mend 35 = .ok (.istore 4, 2) := by decide +kernel
theorem dX9_mend_37 : decode cX9_mend 37 = .ok (.iload 4, 2) := by decide +kernel
theorem dX9_mend_39 : decode cX9_mend 39 = .ok (.iload_n 3, 1) := by decide +kernel
theorem dX9_mend_40 : decode cX9_mend 40 = .ok (.if_icmp .eq 25, 3) := by decide +kernel
theorem dX9_mend_43 : decode cX9_mend 43 = .ok (.aload_n 0, 1) := by decide +kernel
theorem dX9_mend_44 : decode cX9_mend 44 = .ok (.getfield 10, 3) := by decide +kernel
theorem dX9_mend_47 : decode cX9_mend 47 = .ok (.iload_n 1, 1) := by decide +kernel
theorem dX9_mend_48 : decode cX9_mend 48 = .ok (.iload_n 2, 1) := by decide +kernel
theorem dX9_mend_49 : decode cX9_mend 49 = .ok (.iload_n 3, 1) := by decide +kernel
theorem dX9_mend_50 : decode cX9_mend 50 = .ok (.invokevirtual 102, 3) := by decide +kernel
theorem dX9_mend_53 : decode cX9_mend 53 = .ok (.aload_n 0, 1) := by decide +kernel
theorem dX9_mend_54 : decode cX9_mend 54 = .ok (.getfield 42, 3) := by decide +kernel
theorem dX9_mend_57 : decode cX9_mend 57 = .ok (.iload_n 1, 1) := by decide +kernel
theorem dX9_mend_58 : decode cX9_mend 58 = .ok (.iload_n 2, 1) := by decide +kernel
theorem dX9_mend_59 : decode cX9_mend 59 = .ok (.iload 4, 2) := by decide +kernel
theorem dX9_mend_61 : decode cX9_mend 61 = .ok (.iload_n 3, 1) := by decide +kernel
theorem dX9_mend_62 : decode cX9_mend 62 = .ok (.invokevirtual 106, 3) := by decide +kernel
theorem dX9_mend_65 : decode cX9_mend 65 = .ok (.iload 4, 2) := by decide +kernel
theorem dX9_mend_67 : decode cX9_mend 67 = .ok (.ireturn, 1) := by decide +kernel
theorem dX9_of_0 : decode cX9_of 0 = .ok (.aload_n 0, 1) := by decide +kernel
theorem dX9_of_1 : decode cX9_of 1 = .ok (.getfield 10, 3) := by decide +kernel
theorem dX9_of_4 : decode cX9_of 4 = .ok (.iload_n 1, 1) := by decide +kernel
theorem dX9_of_5 : decode cX9_of 5 = .ok (.iload_n 2, 1) := by decide +kernel
theorem dX9_of_6 : decode cX9_of 6 = .ok (.invokevirtual 95, 3) := by decide +kernel
theorem dX9_of_9 : decode cX9_of 9 = .ok (.ifCond .eq 15, 3) := by decide +kernel
theorem dX9_of_12 : decode cX9_of 12 = .ok (.aload_n 0, 1) := by decide +kernel
theorem dX9_of_13 : decode cX9_of 13 = .ok (.getfield 10, 3) := by decide +kernel
theorem dX9_of_16 : decode cX9_of 16 = .ok (.iload_n 1, 1) := by decide +kernel
theorem dX9_of_17 : decode cX9_of 17 = .ok (.iload_n 2, 1) := by decide +kernel
theorem dX9_of_18 : decode cX9_of 18 = .ok (.invokevirtual 98, 3) := by decide +kernel
theorem dX9_of_21 : decode cX9_of 21 = .ok (.goto 4, 3) := by decide +kernel
theorem dX9_of_24 : decode cX9_of 24 = .ok (.iconst (-1), 1) := by decide +kernel
theorem dX9_of_25 : decode cX9_of 25 = .ok (.ireturn, 1) := by decide +kernel
theorem dX9_feed_0 : decode cX9_feed 0 = .ok (.iload_n 1, 1) := by decide +kernel
theorem dX9_feed_1 : decode cX9_feed 1 = .ok (.sipush 255, 3) := by decide +kernel
theorem dX9_feed_4 : decode cX9_feed 4 = .ok (.invokestatic 75, 3) := by decide +kernel
theorem dX9_feed_7 : decode cX9_feed 7 = .ok (.ifCond .ne 5, 3) := by decide +kernel
theorem dX9_feed_10 : decode cX9_feed 10 = .ok (.iconst (-1), 1) := by decide +kernel
theorem dX9_feed_11 : decode cX9_feed 11 = .ok (.ireturn, 1) := by decide +kernel
theorem dX9_feed_12 : decode cX9_feed 12 = .ok (.aload_n 0, 1) := by decide +kernel
theorem dX9_feed_13 : decode cX9_feed 13 = .ok (.getfield 19, 3) := by decide +kernel
theorem dX9_feed_16 : decode cX9_feed 16 = .ok (.iload_n 1, 1) := by decide +kernel
theorem dX9_feed_17 : decode cX9_feed 17 = .ok (.invokevirtual 110, 3) := by decide +kernel
theorem dX9_feed_20 : decode cX9_feed 20 = .ok (.ifCond .eq 13, 3) := by decide +kernel
theorem dX9_feed_23 : decode cX9_feed 23 = .ok (.aload_n 0, 1) := by decide +kernel
theorem dX9_feed_24 : decode cX9_feed 24 = .ok (.getfield 19, 3) := by decide +kernel
theorem dX9_feed_27 : decode cX9_feed 27 = .ok (.getfield 113, 3) := by decide +kernel
theorem dX9_feed_30 : decode cX9_feed 30 = .ok (.goto 5, 3) := by decide +kernel
theorem dX9_feed_33 : decode cX9_feed 33 = .ok (.bipush (-3), 2) := by decide +kernel
theorem dX9_feed_35 : decode cX9_feed 35 = .ok (.ireturn, 1) := by decide +kernel
theorem dX9_law_0 : decode cX9_law 0 = .ok (.aload_n 0, 1) := by decide +kernel
theorem dX9_law_1 : decode cX9_law 1 = .ok (.getfield 19, 3) := by decide +kernel
theorem dX9_law_4 : decode cX9_law 4 = .ok (.aload_n 0, 1) := by decide +kernel
theorem dX9_law_5 : decode cX9_law 5 = .ok (.getfield 10, 3) := by decide +kernel
theorem dX9_law_8 : decode cX9_law 8 = .ok (.getfield 116, 3) := by decide +kernel
theorem dX9_law_11 : decode cX9_law 11 = .ok (.invokevirtual 120, 3) := by decide +kernel
theorem dX9_law_14 : decode cX9_law 14 = .ok (.istore_n 1, 1) := by decide +kernel
theorem dX9_law_15 : decode cX9_law 15 = .ok (.aload_n 0, 1) := by decide +kernel
theorem dX9_law_16 : decode cX9_law 16 = .ok (.getfield 19, 3) := by decide +kernel
theorem dX9_law_19 : decode cX9_law 19 = .ok (.iconst 0, 1) := by decide +kernel
theorem dX9_law_20 : decode cX9_law 20 = .ok (.putfield 113, 3) := by decide +kernel
theorem dX9_law_23 : decode cX9_law 23 = .ok (.iload_n 1, 1) := by decide +kernel
theorem dX9_law_24 : decode cX9_law 24 = .ok (.ifCond .lt 8, 3) := by decide +kernel
theorem dX9_law_27 : decode cX9_law 27 = .ok (.bipush (-100), 2) := by decide +kernel
theorem dX9_law_29 : decode cX9_law 29 = .ok (.iload_n 1, 1) := by decide +kernel
theorem dX9_law_30 : decode cX9_law 30 = .ok (.isub, 1) := by decide +kernel
theorem dX9_law_31 : decode cX9_law 31 = .ok (.ireturn, 1) := by decide +kernel
theorem dX9_law_32 : decode cX9_law 32 = .ok (.aload_n 0, 1) := by decide +kernel
theorem dX9_law_33 : decode cX9_law 33 = .ok (.getfield 10, 3) := by decide +kernel
theorem dX9_law_36 : decode cX9_law 36 = .ok (.invokevirtual 124, 3) := by decide +kernel
theorem dX9_law_39 : decode cX9_law 39 = .ok (.iconst 1, 1) := by decide +kernel
theorem dX9_law_40 : decode cX9_law 40 = .ok (.ireturn, 1) := by decide +kernel
theorem dX9_later_0 : decode cX9_later 0 = .ok (.iload_n 1, 1) := by decide +kernel
theorem dX9_later_1 : decode cX9_later 1 = .ok (.bipush 48, 2) := by decide +kernel
theorem dX9_later_3 : decode cX9_later 3 = .ok (.invokestatic 75, 3) := by decide +kernel
theorem dX9_later_6 : decode cX9_later 6 = .ok (.ifCond .eq 18, 3) := by decide +kernel
theorem dX9_later_9 : decode cX9_later 9 = .ok (.iload_n 2, 1) := by decide +kernel
theorem dX9_later_10 : decode cX9_later 10 = .ok (.invokestatic 127, 3) := by decide +kernel
theorem dX9_later_13 : decode cX9_later 13 = .ok (.ifCond .eq 11, 3) := by decide +kernel
theorem dX9_later_16 : decode cX9_later 16 = .ok (.iload_n 3, 1) := by decide +kernel
theorem dX9_later_17 : decode cX9_later 17 = .ok (.iconst 3, 1) := by decide +kernel
theorem dX9_later_18 : decode cX9_later 18 = .ok (.invokestatic 75, 3) := by decide +kernel
theorem dX9_later_21 : decode cX9_later 21 = .ok (.ifCond .ne 5, 3) := by decide +kernel
theorem dX9_later_24 : decode cX9_later 24 = .ok (.iconst (-1), 1) := by decide +kernel
theorem dX9_later_25 : decode cX9_later 25 = .ok (.ireturn, 1) := by decide +kernel
theorem dX9_later_26 : decode cX9_later 26 = .ok (.aload_n 0, 1) := by decide +kernel
theorem dX9_later_27 : decode cX9_later 27 = .ok (.getfield 28, 3) := by decide +kernel
theorem dX9_later_30 : decode cX9_later 30 = .ok (.iload_n 1, 1) := by decide +kernel
theorem dX9_later_31 : decode cX9_later 31 = .ok (.invokevirtual 130, 3) := by decide +kernel
theorem dX9_later_34 : decode cX9_later 34 = .ok (.astore 4, 2) := by decide +kernel
theorem dX9_later_36 : decode cX9_later 36 = .ok (.iload_n 3, 1) := by decide +kernel
theorem dX9_later_37 : decode cX9_later 37 = .ok (.ifCond .ne 19, 3) := by decide +kernel
theorem dX9_later_40 : decode cX9_later 40 = .ok (.aload_n 0, 1) := by decide +kernel
theorem dX9_later_41 : decode cX9_later 41 = .ok (.getfield 10, 3) := by decide +kernel
theorem dX9_later_44 : decode cX9_later 44 = .ok (.getfield 134, 3) := by decide +kernel
theorem dX9_later_47 : decode cX9_later 47 = .ok (.aload 4, 2) := by decide +kernel
theorem dX9_later_49 : decode cX9_later 49 = .ok (.iload_n 2, 1) := by decide +kernel
theorem dX9_later_50 : decode cX9_later 50 = .ok (.invokevirtual 137, 3) := by decide +kernel
theorem dX9_later_53 : decode cX9_later 53 = .ok (.goto 12, 3) := by decide +kernel
theorem dX9_later_56 : decode cX9_later 56 = .ok (.aload 4, 2) := by decide +kernel
theorem dX9_later_58 : decode cX9_later 58 = .ok (.iload_n 2, 1) := by decide +kernel
theorem dX9_later_59 : decode cX9_later 59 = .ok (.iload_n 3, 1) := by decide +kernel
theorem dX9_later_60 : decode cX9_later 60 = .ok (.iconst 1, 1) := by decide +kernel
theorem dX9_later_61 : decode cX9_later 61 = .ok (.isub, 1) := by decide +kernel
theorem dX9_later_62 : decode cX9_later 62 = .ok (.invokevirtual 143, 3) := by decide +kernel
theorem dX9_later_65 : decode cX9_later 65 = .ok (.ireturn, 1) := by decide +kernel
theorem dX9_cold_0 : decode cX9_cold 0 = .ok (.iload_n 1, 1) := by decide +kernel
theorem dX9_cold_1 : decode cX9_cold 1 = .ok (.bipush 48, 2) := by decide +kernel
theorem dX9_cold_3 : decode cX9_cold 3 = .ok (.invokestatic 75, 3) := by decide +kernel
theorem dX9_cold_6 : decode cX9_cold 6 = .ok (.ifCond .eq 11, 3) := by decide +kernel
theorem dX9_cold_9 : decode cX9_cold 9 = .ok (.iload_n 2, 1) := by decide +kernel
theorem dX9_cold_10 : decode cX9_cold 10 = .ok (.iconst 1, 1) := by decide +kernel
theorem dX9_cold_11 : decode cX9_cold 11 = .ok (.invokestatic 75, 3) := by decide +kernel
theorem dX9_cold_14 : decode cX9_cold 14 = .ok (.ifCond .ne 5, 3) := by decide +kernel
theorem dX9_cold_17 : decode cX9_cold 17 = .ok (.iconst (-1), 1) := by decide +kernel
theorem dX9_cold_18 : decode cX9_cold 18 = .ok (.ireturn, 1) := by decide +kernel
theorem dX9_cold_19 : decode cX9_cold 19 = .ok (.aload_n 0, 1) := by decide +kernel
theorem dX9_cold_20 : decode cX9_cold 20 = .ok (.getfield 28, 3) := by decide +kernel
theorem dX9_cold_23 : decode cX9_cold 23 = .ok (.iload_n 1, 1) := by decide +kernel
theorem dX9_cold_24 : decode cX9_cold 24 = .ok (.invokevirtual 130, 3) := by decide +kernel
theorem dX9_cold_27 : decode cX9_cold 27 = .ok (.astore_n 3, 1) := by decide +kernel
theorem dX9_cold_28 : decode cX9_cold 28 = .ok (.iload_n 2, 1) := by decide +kernel
theorem dX9_cold_29 : decode cX9_cold 29 = .ok (.ifCond .ne 14, 3) := by decide +kernel
theorem dX9_cold_32 : decode cX9_cold 32 = .ok (.aload_n 0, 1) := by decide +kernel
theorem dX9_cold_33 : decode cX9_cold 33 = .ok (.getfield 10, 3) := by decide +kernel
theorem dX9_cold_36 : decode cX9_cold 36 = .ok (.aload_n 3, 1) := by decide +kernel
theorem dX9_cold_37 : decode cX9_cold 37 = .ok (.invokevirtual 146, 3) := by decide +kernel
theorem dX9_cold_40 : decode cX9_cold 40 = .ok (.goto 11, 3) := by decide +kernel
theorem dX9_cold_43 : decode cX9_cold 43 = .ok (.aload_n 0, 1) := by decide +kernel
theorem dX9_cold_44 : decode cX9_cold 44 = .ok (.getfield 10, 3) := by decide +kernel
theorem dX9_cold_47 : decode cX9_cold 47 = .ok (.aload_n 3, 1) := by decide +kernel
theorem dX9_cold_48 : decode cX9_cold 48 = .ok (.invokevirtual 150, 3) := by decide +kernel
theorem dX9_cold_51 : decode cX9_cold 51 = .ok (.ireturn, 1) := by decide +kernel
theorem dX9_first_0 : decode cX9_first 0 = .ok (.aload_n 0, 1) := by decide +kernel
theorem dX9_first_1 : decode cX9_first 1 = .ok (.getfield 10, 3) := by decide +kernel
theorem dX9_first_4 : decode cX9_first 4 = .ok (.iload_n 1, 1) := by decide +kernel
theorem dX9_first_5 : decode cX9_first 5 = .ok (.invokevirtual 153, 3) := by decide +kernel
theorem dX9_first_8 : decode cX9_first 8 = .ok (.ifCond .eq 14, 3) := by decide +kernel
theorem dX9_first_11 : decode cX9_first 11 = .ok (.aload_n 0, 1) := by decide +kernel
theorem dX9_first_12 : decode cX9_first 12 = .ok (.getfield 28, 3) := by decide +kernel
theorem dX9_first_15 : decode cX9_first 15 = .ok (.iload_n 1, 1) := by decide +kernel
theorem dX9_first_16 : decode cX9_first 16 = .ok (.invokevirtual 156, 3) := by decide +kernel
theorem dX9_first_19 : decode cX9_first 19 = .ok (.goto 4, 3) := by decide +kernel
theorem dX9_first_22 : decode cX9_first 22 = .ok (.iconst (-1), 1) := by decide +kernel
theorem dX9_first_23 : decode cX9_first 23 = .ok (.ireturn, 1) := by decide +kernel
theorem dX9_often_0 : decode cX9_often 0 = .ok (.aload_n 0, 1) := by decide +kernel
theorem dX9_often_1 : decode cX9_often 1 = .ok (.getfield 10, 3) := by decide +kernel
theorem dX9_often_4 : decode cX9_often 4 = .ok (.iload_n 1, 1) := by decide +kernel
theorem dX9_often_5 : decode cX9_often 5 = .ok (.invokevirtual 153, 3) := by decide +kernel
theorem dX9_often_8 : decode cX9_often 8 = .ok (.ifCond .eq 12, 3) := by decide +kernel
theorem dX9_often_11 : decode cX9_often 11 = .ok (.iload_n 2, 1) := by decide +kernel
theorem dX9_often_12 : decode cX9_often 12 = .ok (.bipush 48, 2) := by decide +kernel
theorem dX9_often_14 : decode cX9_often 14 = .ok (.invokestatic 75, 3) := by decide +kernel
theorem dX9_often_17 : decode cX9_often 17 = .ok (.ifCond .ne 5, 3) := by decide +kernel
theorem dX9_often_20 : decode cX9_often 20 = .ok (.iconst (-1), 1) := by decide +kernel
theorem dX9_often_21 : decode cX9_often 21 = .ok (.ireturn, 1) := by decide +kernel
theorem dX9_often_22 : decode cX9_often 22 = .ok (.aload_n 0, 1) := by decide +kernel
theorem dX9_often_23 : decode cX9_often 23 = .ok (.getfield 28, 3) := by decide +kernel
theorem dX9_often_26 : decode cX9_often 26 = .ok (.iload_n 1, 1) := by decide +kernel
theorem dX9_often_27 : decode cX9_often 27 = .ok (.iload_n 2, 1) := by decide +kernel
theorem dX9_often_28 : decode cX9_often 28 = .ok (.invokevirtual 160, 3) := by decide +kernel
theorem dX9_often_31 : decode cX9_often 31 = .ok (.ireturn, 1) := by decide +kernel
theorem dX9_pulls_0 : decode cX9_pulls 0 = .ok (.aload_n 0, 1) := by decide +kernel
theorem dX9_pulls_1 : decode cX9_pulls 1 = .ok (.getfield 10, 3) := by decide +kernel
theorem dX9_pulls_4 : decode cX9_pulls 4 = .ok (.iload_n 1, 1) := by decide +kernel
theorem dX9_pulls_5 : decode cX9_pulls 5 = .ok (.invokevirtual 153, 3) := by decide +kernel
theorem dX9_pulls_8 : decode cX9_pulls 8 = .ok (.ifCond .eq 8, 3) := by decide +kernel
theorem dX9_pulls_11 : decode cX9_pulls 11 = .ok (.iload_n 2, 1) := by decide +kernel
theorem dX9_pulls_12 : decode cX9_pulls 12 = .ok (.iconst (-1), 1) := by decide +kernel
theorem dX9_pulls_13 : decode cX9_pulls 13 = .ok (.if_icmp .ge 5, 3) := by decide +kernel
theorem dX9_pulls_16 : decode cX9_pulls 16 = .ok (.iconst (-1), 1) := by decide +kernel
theorem dX9_pulls_17 : decode cX9_pulls 17 = .ok (.ireturn, 1) := by decide +kernel
theorem dX9_pulls_18 : decode cX9_pulls 18 = .ok (.aload_n 0, 1) := by decide +kernel
theorem dX9_pulls_19 : decode cX9_pulls 19 = .ok (.getfield 28, 3) := by decide +kernel
theorem dX9_pulls_22 : decode cX9_pulls 22 = .ok (.iload_n 1, 1) := by decide +kernel
theorem dX9_pulls_23 : decode cX9_pulls 23 = .ok (.invokevirtual 163, 3) := by decide +kernel
theorem dX9_pulls_26 : decode cX9_pulls 26 = .ok (.istore_n 3, 1) := by decide +kernel
theorem dX9_pulls_27 : decode cX9_pulls 27 = .ok (.iload_n 2, 1) := by decide +kernel
theorem dX9_pulls_28 : decode cX9_pulls 28 = .ok (.ifCond .lt 7, 3) := by decide +kernel
theorem dX9_pulls_31 : decode cX9_pulls 31 = .ok (.iload_n 3, 1) := by decide +kernel
theorem dX9_pulls_32 : decode cX9_pulls 32 = .ok (.ifCond .ge 5, 3) := by decide +kernel
theorem dX9_pulls_35 : decode cX9_pulls 35 = .ok (.iload_n 3, 1) := by decide +kernel
theorem dX9_pulls_36 : decode cX9_pulls 36 = .ok (.ireturn, 1) := by decide +kernel
theorem dX9_pulls_37 : decode cX9_pulls 37 = .ok (.iload_n 2, 1) := by decide +kernel
theorem dX9_pulls_38 : decode cX9_pulls 38 = .ok (.iload_n 3, 1) := by decide +kernel
theorem dX9_pulls_39 : decode cX9_pulls 39 = .ok (.if_icmp .ge 15, 3) := by decide +kernel
theorem dX9_pulls_42 : decode cX9_pulls 42 = .ok (.aload_n 0, 1) := by decide +kernel
theorem dX9_pulls_43 : decode cX9_pulls 43 = .ok (.getfield 28, 3) := by decide +kernel
theorem dX9_pulls_46 : decode cX9_pulls 46 = .ok (.getfield 166, 3) := by decide +kernel
theorem dX9_pulls_49 : decode cX9_pulls 49 = .ok (.iload_n 2, 1) := by decide +kernel
theorem dX9_pulls_50 : decode cX9_pulls 50 = .ok (.iaload, 1) := by decide +kernel
theorem dX9_pulls_51 : decode cX9_pulls 51 = .ok (.goto 5, 3) := by decide +kernel
theorem dX9_pulls_54 : decode cX9_pulls 54 = .ok (.bipush (-2), 2) := by decide +kernel
theorem dX9_pulls_56 : decode cX9_pulls 56 = .ok (.ireturn, 1) := by decide +kernel
theorem dX9_shakes_0 : decode cX9_shakes 0 = .ok (.iload_n 1, 1) := by decide +kernel
theorem dX9_shakes_1 : decode cX9_shakes 1 = .ok (.iconst 1, 1) := by decide +kernel
theorem dX9_shakes_2 : decode cX9_shakes 2 = .ok (.invokestatic 75, 3) := by decide +kernel
theorem dX9_shakes_5 : decode cX9_shakes 5 = .ok (.ifCond .ne 5, 3) := by decide +kernel
theorem dX9_shakes_8 : decode cX9_shakes 8 = .ok (.iconst (-1), 1) := by decide +kernel
theorem dX9_shakes_9 : decode cX9_shakes 9 = .ok (.ireturn, 1) := by decide +kernel
theorem dX9_shakes_10 : decode cX9_shakes 10 = .ok (.aload_n 0, 1) := by decide +kernel
theorem dX9_shakes_11 : decode cX9_shakes 11 = .ok (.getfield 28, 3) := by decide +kernel
theorem dX9_shakes_14 : decode cX9_shakes 14 = .ok (.invokevirtual 169, 3) := by decide +kernel
theorem dX9_shakes_17 : decode cX9_shakes 17 = .ok (.iload_n 1, 1) := by decide +kernel
theorem dX9_shakes_18 : decode cX9_shakes 18 = .ok (.ifCond .ne 13, 3) := by decide +kernel
theorem dX9_shakes_21 : decode cX9_shakes 21 = .ok (.aload_n 0, 1) := by decide +kernel
theorem dX9_shakes_22 : decode cX9_shakes 22 = .ok (.getfield 28, 3) := by decide +kernel
theorem dX9_shakes_25 : decode cX9_shakes 25 = .ok (.getfield 172, 3) := by decide +kernel
theorem dX9_shakes_28 : decode cX9_shakes 28 = .ok (.goto 10, 3) := by decide +kernel
theorem dX9_shakes_31 : decode cX9_shakes 31 = .ok (.aload_n 0, 1) := by decide +kernel
theorem dX9_shakes_32 : decode cX9_shakes 32 = .ok (.getfield 28, 3) := by decide +kernel
theorem dX9_shakes_35 : decode cX9_shakes 35 = .ok (.getfield 175, 3) := by decide +kernel
theorem dX9_shakes_38 : decode cX9_shakes 38 = .ok (.ireturn, 1) := by decide +kernel
theorem dX9_stuffs_0 : decode cX9_stuffs 0 = .ok (.iload_n 1, 1) := by decide +kernel
theorem dX9_stuffs_1 : decode cX9_stuffs 1 = .ok (.iconst 2, 1) := by decide +kernel
theorem dX9_stuffs_2 : decode cX9_stuffs 2 = .ok (.invokestatic 75, 3) := by decide +kernel
theorem dX9_stuffs_5 : decode cX9_stuffs 5 = .ok (.ifCond .eq 11, 3) := by decide +kernel
theorem dX9_stuffs_8 : decode cX9_stuffs 8 = .ok (.iload_n 2, 1) := by decide +kernel
theorem dX9_stuffs_9 : decode cX9_stuffs 9 = .ok (.iconst 1, 1) := by decide +kernel
theorem dX9_stuffs_10 : decode cX9_stuffs 10 = .ok (.invokestatic 75, 3) := by decide +kernel
theorem dX9_stuffs_13 : decode cX9_stuffs 13 = .ok (.ifCond .ne 5, 3) := by decide +kernel
theorem dX9_stuffs_16 : decode cX9_stuffs 16 = .ok (.iconst (-1), 1) := by decide +kernel
theorem dX9_stuffs_17 : decode cX9_stuffs 17 = .ok (.ireturn, 1) := by decide +kernel
theorem dX9_stuffs_18 : decode cX9_stuffs 18 = .ok (.aload_n 0, 1) := by decide +kernel
theorem dX9_stuffs_19 : decode cX9_stuffs 19 = .ok (.getfield 28, 3) := by decide +kernel
theorem dX9_stuffs_22 : decode cX9_stuffs 22 = .ok (.iload_n 1, 1) := by decide +kernel
theorem dX9_stuffs_23 : decode cX9_stuffs 23 = .ok (.invokevirtual 178, 3) := by decide +kernel
theorem dX9_stuffs_26 : decode cX9_stuffs 26 = .ok (.iload_n 2, 1) := by decide +kernel
theorem dX9_stuffs_27 : decode cX9_stuffs 27 = .ok (.ifCond .ne 13, 3) := by decide +kernel
theorem dX9_stuffs_30 : decode cX9_stuffs 30 = .ok (.aload_n 0, 1) := by decide +kernel
theorem dX9_stuffs_31 : decode cX9_stuffs 31 = .ok (.getfield 28, 3) := by decide +kernel
theorem dX9_stuffs_34 : decode cX9_stuffs 34 = .ok (.getfield 175, 3) := by decide +kernel
theorem dX9_stuffs_37 : decode cX9_stuffs 37 = .ok (.goto 10, 3) := by decide +kernel
theorem dX9_stuffs_40 : decode cX9_stuffs 40 = .ok (.aload_n 0, 1) := by decide +kernel
theorem dX9_stuffs_41 : decode cX9_stuffs 41 = .ok (.getfield 28, 3) := by decide +kernel
theorem dX9_stuffs_44 : decode cX9_stuffs 44 = .ok (.getfield 172, 3) := by decide +kernel
theorem dX9_stuffs_47 : decode cX9_stuffs 47 = .ok (.ireturn, 1) := by decide +kernel
theorem dX9_judge_0 : decode cX9_judge 0 = .ok (.aload_n 0, 1) := by decide +kernel
theorem dX9_judge_1 : decode cX9_judge 1 = .ok (.iload_n 1, 1) := by decide +kernel
theorem dX9_judge_2 : decode cX9_judge 2 = .ok (.invokevirtual 182, 3) := by decide +kernel
theorem dX9_judge_5 : decode cX9_judge 5 = .ok (.istore_n 2, 1) := by decide +kernel
theorem dX9_judge_6 : decode cX9_judge 6 = .ok (.iload_n 2, 1) := by decide +kernel
theorem dX9_judge_7 : decode cX9_judge 7 = .ok (.ifCond .ge 7, 3) := by decide +kernel
theorem dX9_judge_10 : decode cX9_judge 10 = .ok (.iload_n 2, 1) := by decide +kernel
theorem dX9_judge_11 : decode cX9_judge 11 = .ok (.goto 23, 3) := by decide +kernel
theorem dX9_judge_14 : decode cX9_judge 14 = .ok (.aload_n 0, 1) := by decide +kernel
theorem dX9_judge_15 : decode cX9_judge 15 = .ok (.getfield 28, 3) := by decide +kernel
theorem dX9_judge_18 : decode cX9_judge 18 = .ok (.aload_n 0, 1) := by decide +kernel
theorem dX9_judge_19 : decode cX9_judge 19 = .ok (.getfield 55, 3) := by decide +kernel
theorem dX9_judge_22 : decode cX9_judge 22 = .ok (.iload_n 1, 1) := by decide +kernel
theorem dX9_judge_23 : decode cX9_judge 23 = .ok (.bipush 100, 2) := by decide +kernel
theorem dX9_judge_25 : decode cX9_judge 25 = .ok (.idiv, 1) := by decide +kernel
theorem dX9_judge_26 : decode cX9_judge 26 = .ok (.aaload, 1) := by decide +kernel
theorem dX9_judge_27 : decode cX9_judge 27 = .ok (.iload_n 1, 1) := by decide +kernel
theorem dX9_judge_28 : decode cX9_judge 28 = .ok (.bipush 100, 2) := by decide +kernel
theorem dX9_judge_30 : decode cX9_judge 30 = .ok (.irem, 1) := by decide +kernel
theorem dX9_judge_31 : decode cX9_judge 31 = .ok (.invokevirtual 185, 3) := by decide +kernel
theorem dX9_judge_34 : decode cX9_judge 34 = .ok (.ireturn, 1) := by decide +kernel
theorem dX9_felt_0 : decode cX9_felt 0 = .ok (.iload_n 2, 1) := by decide +kernel
theorem dX9_felt_1 : decode cX9_felt 1 = .ok (.invokestatic 127, 3) := by decide +kernel
theorem dX9_felt_4 : decode cX9_felt 4 = .ok (.ifCond .eq 11, 3) := by decide +kernel
theorem dX9_felt_7 : decode cX9_felt 7 = .ok (.iload_n 3, 1) := by decide +kernel
theorem dX9_felt_8 : decode cX9_felt 8 = .ok (.iconst 4, 1) := by decide +kernel
theorem dX9_felt_9 : decode cX9_felt 9 = .ok (.invokestatic 75, 3) := by decide +kernel
theorem dX9_felt_12 : decode cX9_felt 12 = .ok (.ifCond .ne 5, 3) := by decide +kernel
theorem dX9_felt_15 : decode cX9_felt 15 = .ok (.iconst (-1), 1) := by decide +kernel
theorem dX9_felt_16 : decode cX9_felt 16 = .ok (.ireturn, 1) := by decide +kernel
theorem dX9_felt_17 : decode cX9_felt 17 = .ok (.aload_n 0, 1) := by decide +kernel
theorem dX9_felt_18 : decode cX9_felt 18 = .ok (.iload_n 1, 1) := by decide +kernel
theorem dX9_felt_19 : decode cX9_felt 19 = .ok (.invokevirtual 182, 3) := by decide +kernel
theorem dX9_felt_22 : decode cX9_felt 22 = .ok (.istore 4, 2) := by decide +kernel
theorem dX9_felt_24 : decode cX9_felt 24 = .ok (.iload 4, 2) := by decide +kernel
theorem dX9_felt_26 : decode cX9_felt 26 = .ok (.ifCond .ge 6, 3) := by decide +kernel
theorem dX9_felt_29 : decode cX9_felt 29 = .ok (.iload 4, 2) := by decide +kernel
theorem dX9_felt_31 : decode cX9_felt 31 = .ok (.ireturn, 1) := by decide +kernel
theorem dX9_felt_32 : decode cX9_felt 32 = .ok (.aload_n 0, 1) := by decide +kernel
theorem dX9_felt_33 : decode cX9_felt 33 = .ok (.getfield 28, 3) := by decide +kernel
theorem dX9_felt_36 : decode cX9_felt 36 = .ok (.aload_n 0, 1) := by decide +kernel
theorem dX9_felt_37 : decode cX9_felt 37 = .ok (.getfield 55, 3) := by decide +kernel
theorem dX9_felt_40 : decode cX9_felt 40 = .ok (.iload_n 1, 1) := by decide +kernel
theorem dX9_felt_41 : decode cX9_felt 41 = .ok (.bipush 100, 2) := by decide +kernel
theorem dX9_felt_43 : decode cX9_felt 43 = .ok (.idiv, 1) := by decide +kernel
theorem dX9_felt_44 : decode cX9_felt 44 = .ok (.aaload, 1) := by decide +kernel
theorem dX9_felt_45 : decode cX9_felt 45 = .ok (.iload_n 1, 1) := by decide +kernel
theorem dX9_felt_46 : decode cX9_felt 46 = .ok (.bipush 100, 2) := by decide +kernel
theorem dX9_felt_48 : decode cX9_felt 48 = .ok (.irem, 1) := by decide +kernel
theorem dX9_felt_49 : decode cX9_felt 49 = .ok (.iload_n 2, 1) := by decide +kernel
theorem dX9_felt_50 : decode cX9_felt 50 = .ok (.iload_n 3, 1) := by decide +kernel
theorem dX9_felt_51 : decode cX9_felt 51 = .ok (.iconst 1, 1) := by decide +kernel
theorem dX9_felt_52 : decode cX9_felt 52 = .ok (.iadd, 1) := by decide +kernel
theorem dX9_felt_53 : decode cX9_felt 53 = .ok (.iconst 2, 1) := by decide +kernel
theorem dX9_felt_54 : decode cX9_felt 54 = .ok (.idiv, 1) := by decide +kernel
theorem dX9_felt_55 : decode cX9_felt 55 = .ok (.invokevirtual 189, 3) := by decide +kernel
theorem dX9_felt_58 : decode cX9_felt 58 = .ok (.istore 5, 2) := by decide +kernel
theorem dX9_felt_60 : decode cX9_felt 60 = .ok (.iload_n 3, 1) := by decide +kernel
theorem dX9_felt_61 : decode cX9_felt 61 = .ok (.ifCond .ne 6, 3) := by decide +kernel
theorem dX9_felt_64 : decode cX9_felt 64 = .ok (.iload 5, 2) := by decide +kernel
theorem dX9_felt_66 : decode cX9_felt 66 = .ok (.ireturn, 1) := by decide +kernel
theorem dX9_felt_67 : decode cX9_felt 67 = .ok (.iload_n 3, 1) := by decide +kernel
theorem dX9_felt_68 : decode cX9_felt 68 = .ok (.iconst 2, 1) := by decide +kernel
theorem dX9_felt_69 : decode cX9_felt 69 = .ok (.irem, 1) := by decide +kernel
theorem dX9_felt_70 : decode cX9_felt 70 = .ok (.iconst 1, 1) := by decide +kernel
theorem dX9_felt_71 : decode cX9_felt 71 = .ok (.if_icmp .ne 9, 3) := by decide +kernel
theorem dX9_felt_74 : decode cX9_felt 74 = .ok (.iload 5, 2) := by decide +kernel
theorem dX9_felt_76 : decode cX9_felt 76 = .ok (.invokestatic 193, 3) := by decide +kernel
theorem dX9_felt_79 : decode cX9_felt 79 = .ok (.ireturn, 1) := by decide +kernel
theorem dX9_felt_80 : decode cX9_felt 80 = .ok (.iload 5, 2) := by decide +kernel
theorem dX9_felt_82 : decode cX9_felt 82 = .ok (.ifCond .ne 8, 3) := by decide +kernel
theorem dX9_felt_85 : decode cX9_felt 85 = .ok (.bipush (-2), 2) := by decide +kernel
theorem dX9_felt_87 : decode cX9_felt 87 = .ok (.goto 8, 3) := by decide +kernel
theorem dX9_felt_90 : decode cX9_felt 90 = .ok (.iload 5, 2) := by decide +kernel
theorem dX9_felt_92 : decode cX9_felt 92 = .ok (.invokestatic 198, 3) := by decide +kernel
theorem dX9_felt_95 : decode cX9_felt 95 = .ok (.ireturn, 1) := by decide +kernel
theorem dX9_walk_0 : decode cX9_walk 0 = .ok (.iload_n 1, 1) := by decide +kernel
theorem dX9_walk_1 : decode cX9_walk 1 = .ok (.ifCond .lt 31, 3) := by decide +kernel
theorem dX9_walk_4 : decode cX9_walk 4 = .ok (.iload_n 1, 1) := by decide +kernel
theorem dX9_walk_5 : decode cX9_walk 5 = .ok (.bipush 100, 2) := by decide +kernel
theorem dX9_walk_7 : decode cX9_walk 7 = .ok (.idiv, 1) := by decide +kernel
theorem dX9_walk_8 : decode cX9_walk 8 = .ok (.invokestatic 127, 3) := by decide +kernel
theorem dX9_walk_11 : decode cX9_walk 11 = .ok (.ifCond .eq 21, 3) := by decide +kernel
theorem dX9_walk_14 : decode cX9_walk 14 = .ok (.iload_n 1, 1) := by decide +kernel
theorem dX9_walk_15 : decode cX9_walk 15 = .ok (.bipush 100, 2) := by decide +kernel
theorem dX9_walk_17 : decode cX9_walk 17 = .ok (.irem, 1) := by decide +kernel
theorem dX9_walk_18 : decode cX9_walk 18 = .ok (.invokestatic 127, 3) := by decide +kernel
theorem dX9_walk_21 : decode cX9_walk 21 = .ok (.ifCond .eq 11, 3) := by decide +kernel
theorem dX9_walk_24 : decode cX9_walk 24 = .ok (.iload_n 2, 1) := by decide +kernel
theorem dX9_walk_25 : decode cX9_walk 25 = .ok (.iconst 1, 1) := by decide +kernel
theorem dX9_walk_26 : decode cX9_walk 26 = .ok (.invokestatic 75, 3) := by decide +kernel
theorem dX9_walk_29 : decode cX9_walk 29 = .ok (.ifCond .ne 5, 3) := by decide +kernel
theorem dX9_walk_32 : decode cX9_walk 32 = .ok (.iconst (-1), 1) := by decide +kernel
theorem dX9_walk_33 : decode cX9_walk 33 = .ok (.ireturn, 1) := by decide +kernel
theorem dX9_walk_34 : decode cX9_walk 34 = .ok (.iconst 0, 1) := by decide +kernel
theorem dX9_walk_35 : decode cX9_walk 35 = .ok (.istore_n 3, 1) := by decide +kernel
theorem dX9_walk_36 : decode cX9_walk 36 = .ok (.iload_n 3, 1) := by decide +kernel
theorem dX9_walk_37 : decode cX9_walk 37 = .ok (.bipush 30, 2) := by decide +kernel
theorem dX9_walk_39 : decode cX9_walk 39 = .ok (.if_icmp .ge 36, 3) := by decide +kernel
theorem dX9_walk_42 : decode cX9_walk 42 = .ok (.aload_n 0, 1) := by decide +kernel
theorem dX9_walk_43 : decode cX9_walk 43 = .ok (.getfield 35, 3) := by decide +kernel
theorem dX9_walk_46 : decode cX9_walk 46 = .ok (.getfield 201, 3) := by decide +kernel
theorem dX9_walk_49 : decode cX9_walk 49 = .ok (.iload_n 3, 1) := by decide +kernel
theorem dX9_walk_50 : decode cX9_walk 50 = .ok (.aload_n 0, 1) := by decide +kernel
theorem dX9_walk_51 : decode cX9_walk 51 = .ok (.getfield 10, 3) := by decide +kernel
theorem dX9_walk_54 : decode cX9_walk 54 = .ok (.getfield 134, 3) := by decide +kernel
theorem dX9_walk_57 : decode cX9_walk 57 = .ok (.aload_n 0, 1) := by decide +kernel
theorem dX9_walk_58 : decode cX9_walk 58 = .ok (.getfield 10, 3) := by decide +kernel
theorem dX9_walk_61 : decode cX9_walk 61 = .ok (.getfield 204, 3) := by decide +kernel
theorem dX9_walk_64 : decode cX9_walk 64 = .ok (.iload_n 3, 1) := by decide +kernel
theorem dX9_walk_65 : decode cX9_walk 65 = .ok (.invokevirtual 137, 3) := by decide +kernel
theorem dX9_walk_68 : decode cX9_walk 68 = .ok (.iastore, 1) := by decide +kernel
theorem dX9_walk_69 : decode cX9_walk 69 = .ok (.iinc 3 1, 3) := by decide +kernel
theorem dX9_walk_72 : decode cX9_walk 72 = .ok (.goto (-36), 3) := by decide +kernel
theorem dX9_walk_75 : decode cX9_walk 75 = .ok (.aload_n 0, 1) := by decide +kernel
theorem dX9_walk_76 : decode cX9_walk 76 = .ok (.getfield 35, 3) := by decide +kernel
theorem dX9_walk_79 : decode cX9_walk 79 = .ok (.iload_n 1, 1) := by decide +kernel
theorem dX9_walk_80 : decode cX9_walk 80 = .ok (.bipush 100, 2) := by decide +kernel
theorem dX9_walk_82 : decode cX9_walk 82 = .ok (.idiv, 1) := by decide +kernel
theorem dX9_walk_83 : decode cX9_walk 83 = .ok (.iload_n 1, 1) := by decide +kernel
theorem dX9_walk_84 : decode cX9_walk 84 = .ok (.bipush 100, 2) := by decide +kernel
theorem dX9_walk_86 : decode cX9_walk 86 = .ok (.irem, 1) := by decide +kernel
theorem dX9_walk_87 : decode cX9_walk 87 = .ok (.invokevirtual 207, 3) := by decide +kernel
theorem dX9_walk_90 : decode cX9_walk 90 = .ok (.iload_n 2, 1) := by decide +kernel
theorem dX9_walk_91 : decode cX9_walk 91 = .ok (.ifCond .ne 13, 3) := by decide +kernel
theorem dX9_walk_94 : decode cX9_walk 94 = .ok (.aload_n 0, 1) := by decide +kernel
theorem dX9_walk_95 : decode cX9_walk 95 = .ok (.getfield 35, 3) := by decide +kernel
theorem dX9_walk_98 : decode cX9_walk 98 = .ok (.getfield 211, 3) := by decide +kernel
theorem dX9_walk_101 : decode cX9_walk 101 = .ok (.goto 10, 3) := by decide +kernel
theorem dX9_walk_104 : decode cX9_walk 104 = .ok (.aload_n 0, 1) := by decide +kernel
theorem dX9_walk_105 : decode cX9_walk 105 = .ok (.getfield 35, 3) := by decide +kernel
theorem dX9_walk_108 : decode cX9_walk 108 = .ok (.getfield 214, 3) := by decide +kernel
theorem dX9_walk_111 : decode cX9_walk 111 = .ok (.ireturn, 1) := by decide +kernel
theorem dX9_patches_0 : decode cX9_patches 0 = .ok (.iload_n 1, 1) := by decide +kernel
theorem dX9_patches_1 : decode cX9_patches 1 = .ok (.iconst 1, 1) := by decide +kernel
theorem dX9_patches_2 : decode cX9_patches 2 = .ok (.invokestatic 75, 3) := by decide +kernel
theorem dX9_patches_5 : decode cX9_patches 5 = .ok (.ifCond .ne 5, 3) := by decide +kernel
theorem dX9_patches_8 : decode cX9_patches 8 = .ok (.iconst (-1), 1) := by decide +kernel
theorem dX9_patches_9 : decode cX9_patches 9 = .ok (.ireturn, 1) := by decide +kernel
theorem dX9_patches_10 : decode cX9_patches 10 = .ok (.aload_n 0, 1) := by decide +kernel
theorem dX9_patches_11 : decode cX9_patches 11 = .ok (.getfield 35, 3) := by decide +kernel
theorem dX9_patches_14 : decode cX9_patches 14 = .ok (.aload_n 0, 1) := by decide +kernel
theorem dX9_patches_15 : decode cX9_patches 15 = .ok (.getfield 10, 3) := by decide +kernel
theorem dX9_patches_18 : decode cX9_patches 18 = .ok (.getfield 204, 3) := by decide +kernel
theorem dX9_patches_21 : decode cX9_patches 21 = .ok (.invokevirtual 217, 3) := by decide +kernel
theorem dX9_patches_24 : decode cX9_patches 24 = .ok (.iload_n 1, 1) := by decide +kernel
theorem dX9_patches_25 : decode cX9_patches 25 = .ok (.ifCond .ne 13, 3) := by decide +kernel
theorem dX9_patches_28 : decode cX9_patches 28 = .ok (.aload_n 0, 1) := by decide +kernel
theorem dX9_patches_29 : decode cX9_patches 29 = .ok (.getfield 35, 3) := by decide +kernel
theorem dX9_patches_32 : decode cX9_patches 32 = .ok (.getfield 221, 3) := by decide +kernel
theorem dX9_patches_35 : decode cX9_patches 35 = .ok (.goto 10, 3) := by decide +kernel
theorem dX9_patches_38 : decode cX9_patches 38 = .ok (.aload_n 0, 1) := by decide +kernel
theorem dX9_patches_39 : decode cX9_patches 39 = .ok (.getfield 35, 3) := by decide +kernel
theorem dX9_patches_42 : decode cX9_patches 42 = .ok (.getfield 224, 3) := by decide +kernel
theorem dX9_patches_45 : decode cX9_patches 45 = .ok (.ireturn, 1) := by decide +kernel
theorem dX9_byTurns_0 : decode cX9_byTurns 0 = .ok (.iload_n 1, 1) := by decide +kernel
theorem dX9_byTurns_1 : decode cX9_byTurns 1 = .ok (.ifCond .lt 42, 3) := by decide +kernel
theorem dX9_byTurns_4 : decode cX9_byTurns 4 = .ok (.aload_n 0, 1) := by decide +kernel
theorem dX9_byTurns_5 : decode cX9_byTurns 5 = .ok (.getfield 10, 3) := by decide +kernel
theorem dX9_byTurns_8 : decode cX9_byTurns 8 = .ok (.iload_n 1, 1) := by decide +kernel
theorem dX9_byTurns_9 : decode cX9_byTurns 9 = .ok (.bipush 10, 2) := by decide +kernel
theorem dX9_byTurns_11 : decode cX9_byTurns 11 = .ok (.idiv, 1) := by decide +kernel
theorem dX9_byTurns_12 : decode cX9_byTurns 12 = .ok (.invokevirtual 153, 3) := by decide +kernel
theorem dX9_byTurns_15 : decode cX9_byTurns 15 = .ok (.ifCond .eq 28, 3) := by decide +kernel
theorem dX9_byTurns_18 : decode cX9_byTurns 18 = .ok (.aload_n 0, 1) := by decide +kernel
theorem dX9_byTurns_19 : decode cX9_byTurns 19 = .ok (.getfield 10, 3) := by decide +kernel
theorem dX9_byTurns_22 : decode cX9_byTurns 22 = .ok (.iload_n 1, 1) := by decide +kernel
theorem dX9_byTurns_23 : decode cX9_byTurns 23 = .ok (.bipush 10, 2) := by decide +kernel
theorem dX9_byTurns_25 : decode cX9_byTurns 25 = .ok (.irem, 1) := by decide +kernel
theorem dX9_byTurns_26 : decode cX9_byTurns 26 = .ok (.invokevirtual 153, 3) := by decide +kernel
theorem dX9_byTurns_29 : decode cX9_byTurns 29 = .ok (.ifCond .eq 14, 3) := by decide +kernel
theorem dX9_byTurns_32 : decode cX9_byTurns 32 = .ok (.iload_n 1, 1) := by decide +kernel
theorem dX9_byTurns_33 : decode cX9_byTurns 33 = .ok (.bipush 10, 2) := by decide +kernel
theorem dX9_byTurns_35 : decode cX9_byTurns 35 = .ok (.idiv, 1) := by decide +kernel
theorem dX9_byTurns_36 : decode cX9_byTurns 36 = .ok (.iload_n 1, 1) := by decide +kernel
theorem dX9_byTurns_37 : decode cX9_byTurns 37 = .ok (.bipush 10, 2) := by decide +kernel
theorem dX9_byTurns_39 : decode cX9_byTurns 39 = .ok (.irem, 1) := by decide +kernel
theorem dX9_byTurns_40 : decode cX9_byTurns 40 = .ok (.if_icmp .ne 6, 3) := by decide +kernel
theorem dX9_byTurns_43 : decode cX9_byTurns 43 = .ok (.ldc 227, 2) := by decide +kernel
theorem dX9_byTurns_45 : decode cX9_byTurns 45 = .ok (.ireturn, 1) := by decide +kernel
theorem dX9_byTurns_46 : decode cX9_byTurns 46 = .ok (.iload_n 2, 1) := by decide +kernel
theorem dX9_byTurns_47 : decode cX9_byTurns 47 = .ok (.ifCond .lt 30, 3) := by decide +kernel
theorem dX9_byTurns_50 : decode cX9_byTurns 50 = .ok (.iload_n 2, 1) := by decide +kernel
theorem dX9_byTurns_51 : decode cX9_byTurns 51 = .ok (.bipush 10, 2) := by decide +kernel
theorem dX9_byTurns_53 : decode cX9_byTurns 53 = .ok (.idiv, 1) := by decide +kernel
theorem dX9_byTurns_54 : decode cX9_byTurns 54 = .ok (.iconst 5, 1) := by decide +kernel
theorem dX9_byTurns_55 : decode cX9_byTurns 55 = .ok (.if_icmp .ge 22, 3) := by decide +kernel
theorem dX9_byTurns_58 : decode cX9_byTurns 58 = .ok (.iload_n 2, 1) := by decide +kernel
theorem dX9_byTurns_59 : decode cX9_byTurns 59 = .ok (.bipush 10, 2) := by decide +kernel
theorem dX9_byTurns_61 : decode cX9_byTurns 61 = .ok (.irem, 1) := by decide +kernel
theorem dX9_byTurns_62 : decode cX9_byTurns 62 = .ok (.iconst 5, 1) := by decide +kernel
theorem dX9_byTurns_63 : decode cX9_byTurns 63 = .ok (.if_icmp .ge 14, 3) := by decide +kernel
theorem dX9_byTurns_66 : decode cX9_byTurns 66 = .ok (.iload_n 2, 1) := by decide +kernel
theorem dX9_byTurns_67 : decode cX9_byTurns 67 = .ok (.bipush 10, 2) := by decide +kernel
theorem dX9_byTurns_69 : decode cX9_byTurns 69 = .ok (.idiv, 1) := by decide +kernel
theorem dX9_byTurns_70 : decode cX9_byTurns 70 = .ok (.iload_n 2, 1) := by decide +kernel
theorem dX9_byTurns_71 : decode cX9_byTurns 71 = .ok (.bipush 10, 2) := by decide +kernel
theorem dX9_byTurns_73 : decode cX9_byTurns 73 = .ok (.irem, 1) := by decide +kernel
theorem dX9_byTurns_74 : decode cX9_byTurns 74 = .ok (.if_icmp .ne 6, 3) := by decide +kernel
theorem dX9_byTurns_77 : decode cX9_byTurns 77 = .ok (.ldc 227, 2) := by decide +kernel
theorem dX9_byTurns_79 : decode cX9_byTurns 79 = .ok (.ireturn, 1) := by decide +kernel
theorem dX9_byTurns_80 : decode cX9_byTurns 80 = .ok (.iload_n 3, 1) := by decide +kernel
theorem dX9_byTurns_81 : decode cX9_byTurns 81 = .ok (.iconst 1, 1) := by decide +kernel
theorem dX9_byTurns_82 : decode cX9_byTurns 82 = .ok (.if_icmp .lt 17, 3) := by decide +kernel
theorem dX9_byTurns_85 : decode cX9_byTurns 85 = .ok (.iload_n 3, 1) := by decide +kernel
theorem dX9_byTurns_86 : decode cX9_byTurns 86 = .ok (.iconst 4, 1) := by decide +kernel
theorem dX9_byTurns_87 : decode cX9_byTurns 87 = .ok (.if_icmp .gt 12, 3) := by decide +kernel
theorem dX9_byTurns_90 : decode cX9_byTurns 90 = .ok (.iload 4, 2) := by decide +kernel
theorem dX9_byTurns_92 : decode cX9_byTurns 92 = .ok (.iconst 1, 1) := by decide +kernel
theorem dX9_byTurns_93 : decode cX9_byTurns 93 = .ok (.invokestatic 75, 3) := by decide +kernel
theorem dX9_byTurns_96 : decode cX9_byTurns 96 = .ok (.ifCond .ne 6, 3) := by decide +kernel
theorem dX9_byTurns_99 : decode cX9_byTurns 99 = .ok (.ldc 227, 2) := by decide +kernel
theorem dX9_byTurns_101 : decode cX9_byTurns 101 = .ok (.ireturn, 1) := by decide +kernel
theorem dX9_byTurns_102 : decode cX9_byTurns 102 = .ok (.aload_n 0, 1) := by decide +kernel
theorem dX9_byTurns_103 : decode cX9_byTurns 103 = .ok (.getfield 28, 3) := by decide +kernel
theorem dX9_byTurns_106 : decode cX9_byTurns 106 = .ok (.iload_n 1, 1) := by decide +kernel
theorem dX9_byTurns_107 : decode cX9_byTurns 107 = .ok (.iload_n 2, 1) := by decide +kernel
theorem dX9_byTurns_108 : decode cX9_byTurns 108 = .ok (.iload_n 3, 1) := by decide +kernel
theorem dX9_byTurns_109 : decode cX9_byTurns 109 = .ok (.invokevirtual 228, 3) := by decide +kernel
theorem dX9_byTurns_112 : decode cX9_byTurns 112 = .ok (.istore 5, 2) := by decide +kernel
theorem dX9_byTurns_114 : decode cX9_byTurns 114 = .ok (.iload 4, 2) := by decide +kernel
theorem dX9_byTurns_116 : decode cX9_byTurns 116 = .ok (.ifCond .ne 8, 3) := by decide +kernel
theorem dX9_byTurns_119 : decode cX9_byTurns 119 = .ok (.iload 5, 2) := by decide +kernel
theorem dX9_byTurns_121 : decode cX9_byTurns 121 = .ok (.goto 10, 3) := by decide +kernel
theorem dX9_byTurns_124 : decode cX9_byTurns 124 = .ok (.aload_n 0, 1) := by decide +kernel
theorem dX9_byTurns_125 : decode cX9_byTurns 125 = .ok (.getfield 28, 3) := by decide +kernel
theorem dX9_byTurns_128 : decode cX9_byTurns 128 = .ok (.getfield 231, 3) := by decide +kernel
theorem dX9_byTurns_131 : decode cX9_byTurns 131 = .ok (.ireturn, 1) := by decide +kernel
theorem dX9_drawn_0 : decode cX9_drawn 0 = .ok (.iload_n 2, 1) := by decide +kernel
theorem dX9_drawn_1 : decode cX9_drawn 1 = .ok (.ifCond .lt 19, 3) := by decide +kernel
theorem dX9_drawn_4 : decode cX9_drawn 4 = .ok (.iload_n 3, 1) := by decide +kernel
theorem dX9_drawn_5 : decode cX9_drawn 5 = .ok (.iconst (-1), 1) := by decide +kernel
theorem dX9_drawn_6 : decode cX9_drawn 6 = .ok (.if_icmp .eq 16, 3) := by decide +kernel
theorem dX9_drawn_9 : decode cX9_drawn 9 = .ok (.aload_n 0, 1) := by decide +kernel
theorem dX9_drawn_10 : decode cX9_drawn 10 = .ok (.getfield 10, 3) := by decide +kernel
theorem dX9_drawn_13 : decode cX9_drawn 13 = .ok (.iload_n 3, 1) := by decide +kernel
theorem dX9_drawn_14 : decode cX9_drawn 14 = .ok (.invokevirtual 153, 3) := by decide +kernel
theorem dX9_drawn_17 : decode cX9_drawn 17 = .ok (.ifCond .ne 5, 3) := by decide +kernel
theorem dX9_drawn_20 : decode cX9_drawn 20 = .ok (.iconst (-1), 1) := by decide +kernel
theorem dX9_drawn_21 : decode cX9_drawn 21 = .ok (.ireturn, 1) := by decide +kernel
theorem dX9_drawn_22 : decode cX9_drawn 22 = .ok (.iload_n 2, 1) := by decide +kernel
theorem dX9_drawn_23 : decode cX9_drawn 23 = .ok (.bipush 100, 2) := by decide +kernel
theorem dX9_drawn_25 : decode cX9_drawn 25 = .ok (.idiv, 1) := by decide +kernel
theorem dX9_drawn_26 : decode cX9_drawn 26 = .ok (.istore 4, 2) := by decide +kernel
theorem dX9_drawn_28 : decode cX9_drawn 28 = .ok (.iload_n 2, 1) := by decide +kernel
theorem dX9_drawn_29 : decode cX9_drawn 29 = .ok (.bipush 100, 2) := by decide +kernel
theorem dX9_drawn_31 : decode cX9_drawn 31 = .ok (.irem, 1) := by decide +kernel
theorem dX9_drawn_32 : decode cX9_drawn 32 = .ok (.istore 5, 2) := by decide +kernel
theorem dX9_drawn_34 : decode cX9_drawn 34 = .ok (.iload 4, 2) := by decide +kernel
theorem dX9_drawn_36 : decode cX9_drawn 36 = .ok (.iconst 1, 1) := by decide +kernel
theorem dX9_drawn_37 : decode cX9_drawn 37 = .ok (.if_icmp .lt 23, 3) := by decide +kernel
theorem dX9_drawn_40 : decode cX9_drawn 40 = .ok (.iload 4, 2) := by decide +kernel
theorem dX9_drawn_42 : decode cX9_drawn 42 = .ok (.bipush 30, 2) := by decide +kernel
theorem dX9_drawn_44 : decode cX9_drawn 44 = .ok (.if_icmp .gt 16, 3) := by decide +kernel
theorem dX9_drawn_47 : decode cX9_drawn 47 = .ok (.iload 5, 2) := by decide +kernel
theorem dX9_drawn_49 : decode cX9_drawn 49 = .ok (.iconst 1, 1) := by decide +kernel
theorem dX9_drawn_50 : decode cX9_drawn 50 = .ok (.if_icmp .lt 10, 3) := by decide +kernel
theorem dX9_drawn_53 : decode cX9_drawn 53 = .ok (.iload 5, 2) := by decide +kernel
theorem dX9_drawn_55 : decode cX9_drawn 55 = .ok (.bipush 24, 2) := by decide +kernel
theorem dX9_drawn_57 : decode cX9_drawn 57 = .ok (.if_icmp .le 5, 3) := by decide +kernel
theorem dX9_drawn_60 : decode cX9_drawn 60 = .ok (.iconst (-1), 1) := by decide +kernel
theorem dX9_drawn_61 : decode cX9_drawn 61 = .ok (.ireturn, 1) := by decide +kernel
theorem dX9_drawn_62 : decode cX9_drawn 62 = .ok (.aload_n 0, 1) := by decide +kernel
theorem dX9_drawn_63 : decode cX9_drawn 63 = .ok (.getfield 28, 3) := by decide +kernel
theorem dX9_drawn_66 : decode cX9_drawn 66 = .ok (.iload_n 1, 1) := by decide +kernel
theorem dX9_drawn_67 : decode cX9_drawn 67 = .ok (.iload 4, 2) := by decide +kernel
theorem dX9_drawn_69 : decode cX9_drawn 69 = .ok (.iload 5, 2) := by decide +kernel
theorem dX9_drawn_71 : decode cX9_drawn 71 = .ok (.iload_n 3, 1) := by decide +kernel
theorem dX9_drawn_72 : decode cX9_drawn 72 = .ok (.invokevirtual 234, 3) := by decide +kernel
theorem dX9_drawn_75 : decode cX9_drawn 75 = .ok (.ireturn, 1) := by decide +kernel
theorem dX9_month_0 : decode cX9_month 0 = .ok (.aload_n 0, 1) := by decide +kernel
theorem dX9_month_1 : decode cX9_month 1 = .ok (.getfield 10, 3) := by decide +kernel
theorem dX9_month_4 : decode cX9_month 4 = .ok (.aload_n 0, 1) := by decide +kernel
theorem dX9_month_5 : decode cX9_month 5 = .ok (.getfield 10, 3) := by decide +kernel
theorem dX9_month_8 : decode cX9_month 8 = .ok (.getfield 204, 3) := by decide +kernel
theorem dX9_month_11 : decode cX9_month 11 = .ok (.invokevirtual 146, 3) := by decide +kernel
theorem dX9_month_14 : decode cX9_month 14 = .ok (.invokestatic 193, 3) := by decide +kernel
theorem dX9_month_17 : decode cX9_month 17 = .ok (.istore_n 1, 1) := by decide +kernel
theorem dX9_month_18 : decode cX9_month 18 = .ok (.aload_n 0, 1) := by decide +kernel
theorem dX9_month_19 : decode cX9_month 19 = .ok (.getfield 10, 3) := by decide +kernel
theorem dX9_month_22 : decode cX9_month 22 = .ok (.getfield 204, 3) := by decide +kernel
theorem dX9_month_25 : decode cX9_month 25 = .ok (.getfield 238, 3) := by decide +kernel
theorem dX9_month_28 : decode cX9_month 28 = .ok (.iconst 4, 1) := by decide +kernel
theorem dX9_month_29 : decode cX9_month 29 = .ok (.dup2, 1) := by decide +kernel
theorem dX9_month_30 : decode cX9_month 30 = .ok (.iaload, 1) := by decide +kernel
theorem dX9_month_31 : decode cX9_month 31 = .ok (.iload_n 1, 1) := by decide +kernel
theorem dX9_month_32 : decode cX9_month 32 = .ok (.iadd, 1) := by decide +kernel
theorem dX9_month_33 : decode cX9_month 33 = .ok (.iastore, 1) := by decide +kernel
theorem dX9_month_34 : decode cX9_month 34 = .ok (.aload_n 0, 1) := by decide +kernel
theorem dX9_month_35 : decode cX9_month 35 = .ok (.getfield 10, 3) := by decide +kernel
theorem dX9_month_38 : decode cX9_month 38 = .ok (.getfield 204, 3) := by decide +kernel
theorem dX9_month_41 : decode cX9_month 41 = .ok (.aload_n 0, 1) := by decide +kernel
theorem dX9_month_42 : decode cX9_month 42 = .ok (.getfield 10, 3) := by decide +kernel
theorem dX9_month_45 : decode cX9_month 45 = .ok (.getfield 241, 3) := by decide +kernel
theorem dX9_month_48 : decode cX9_month 48 = .ok (.invokevirtual 244, 3) := by decide +kernel
theorem dX9_month_51 : decode cX9_month 51 = .ok (.iload_n 1, 1) := by decide +kernel
theorem dX9_month_52 : decode cX9_month 52 = .ok (.ireturn, 1) := by decide +kernel
theorem dX9_pull_0 : decode cX9_pull 0 = .ok (.iload_n 1, 1) := by decide +kernel
theorem dX9_pull_1 : decode cX9_pull 1 = .ok (.bipush 9, 2) := by decide +kernel
theorem dX9_pull_3 : decode cX9_pull 3 = .ok (.invokestatic 75, 3) := by decide +kernel
theorem dX9_pull_6 : decode cX9_pull 6 = .ok (.ifCond .ne 5, 3) := by decide +kernel
theorem dX9_pull_9 : decode cX9_pull 9 = .ok (.iconst (-1), 1) := by decide +kernel
theorem dX9_pull_10 : decode cX9_pull 10 = .ok (.ireturn, 1) := by decide +kernel
theorem dX9_pull_11 : decode cX9_pull 11 = .ok (.iload_n 1, 1) := by decide +kernel
theorem dX9_pull_12 : decode cX9_pull 12 = .ok (.iconst 2, 1) := by decide +kernel
theorem dX9_pull_13 : decode cX9_pull 13 = .ok (.idiv, 1) := by decide +kernel
theorem dX9_pull_14 : decode cX9_pull 14 = .ok (.istore_n 2, 1) := by decide +kernel
theorem dX9_pull_15 : decode cX9_pull 15 = .ok (.aload_n 0, 1) := by decide +kernel
theorem dX9_pull_16 : decode cX9_pull 16 = .ok (.getfield 10, 3) := by decide +kernel
theorem dX9_pull_19 : decode cX9_pull 19 = .ok (.getfield 204, 3) := by decide +kernel
theorem dX9_pull_22 : decode cX9_pull 22 = .ok (.iload_n 2, 1) := by decide +kernel
theorem dX9_pull_23 : decode cX9_pull 23 = .ok (.iload_n 1, 1) := by decide +kernel
theorem dX9_pull_24 : decode cX9_pull 24 = .ok (.iconst 2, 1) := by decide +kernel
theorem dX9_pull_25 : decode cX9_pull 25 = .ok (.irem, 1) := by decide +kernel
theorem dX9_pull_26 : decode cX9_pull 26 = .ok (.invokevirtual 247, 3) := by decide +kernel
theorem dX9_pull_29 : decode cX9_pull 29 = .ok (.aload_n 0, 1) := by decide +kernel
theorem dX9_pull_30 : decode cX9_pull 30 = .ok (.getfield 10, 3) := by decide +kernel
theorem dX9_pull_33 : decode cX9_pull 33 = .ok (.getfield 204, 3) := by decide +kernel
theorem dX9_pull_36 : decode cX9_pull 36 = .ok (.getfield 238, 3) := by decide +kernel
theorem dX9_pull_39 : decode cX9_pull 39 = .ok (.iconst 1, 1) := by decide +kernel
theorem dX9_pull_40 : decode cX9_pull 40 = .ok (.dup2, 1) := by decide +kernel
theorem dX9_pull_41 : decode cX9_pull 41 = .ok (.iaload, 1) := by decide +kernel
theorem dX9_pull_42 : decode cX9_pull 42 = .ok (.iconst 1, 1) := by decide +kernel
theorem dX9_pull_43 : decode cX9_pull 43 = .ok (.iadd, 1) := by decide +kernel
theorem dX9_pull_44 : decode cX9_pull 44 = .ok (.iastore, 1) := by decide +kernel
theorem dX9_pull_45 : decode cX9_pull 45 = .ok (.aload_n 0, 1) := by decide +kernel
theorem dX9_pull_46 : decode cX9_pull 46 = .ok (.getfield 10, 3) := by decide +kernel
theorem dX9_pull_49 : decode cX9_pull 49 = .ok (.getfield 204, 3) := by decide +kernel
theorem dX9_pull_52 : decode cX9_pull 52 = .ok (.getfield 250, 3) := by decide +kernel
theorem dX9_pull_55 : decode cX9_pull 55 = .ok (.iload_n 2, 1) := by decide +kernel
theorem dX9_pull_56 : decode cX9_pull 56 = .ok (.bipush 6, 2) := by decide +kernel
theorem dX9_pull_58 : decode cX9_pull 58 = .ok (.imul, 1) := by decide +kernel
theorem dX9_pull_59 : decode cX9_pull 59 = .ok (.iaload, 1) := by decide +kernel
theorem dX9_pull_60 : decode cX9_pull 60 = .ok (.ireturn, 1) := by decide +kernel
theorem dX9_shake_0 : decode cX9_shake 0 = .ok (.iload_n 1, 1) := by decide +kernel
theorem dX9_shake_1 : decode cX9_shake 1 = .ok (.invokestatic 127, 3) := by decide +kernel
theorem dX9_shake_4 : decode cX9_shake 4 = .ok (.ifCond .eq 10, 3) := by decide +kernel
theorem dX9_shake_7 : decode cX9_shake 7 = .ok (.iload_n 1, 1) := by decide +kernel
theorem dX9_shake_8 : decode cX9_shake 8 = .ok (.invokestatic 253, 3) := by decide +kernel
theorem dX9_shake_11 : decode cX9_shake 11 = .ok (.ifCond .ne 5, 3) := by decide +kernel
theorem dX9_shake_14 : decode cX9_shake 14 = .ok (.iconst (-1), 1) := by decide +kernel
theorem dX9_shake_15 : decode cX9_shake 15 = .ok (.ireturn, 1) := by decide +kernel
theorem dX9_shake_16 : decode cX9_shake 16 = .ok (.aload_n 0, 1) := by decide +kernel
theorem dX9_shake_17 : decode cX9_shake 17 = .ok (.getfield 10, 3) := by decide +kernel
theorem dX9_shake_20 : decode cX9_shake 20 = .ok (.getfield 204, 3) := by decide +kernel
theorem dX9_shake_23 : decode cX9_shake 23 = .ok (.iload_n 1, 1) := by decide +kernel
theorem dX9_shake_24 : decode cX9_shake 24 = .ok (.invokevirtual 256, 3) := by decide +kernel
theorem dX9_shake_27 : decode cX9_shake 27 = .ok (.aload_n 0, 1) := by decide +kernel
theorem dX9_shake_28 : decode cX9_shake 28 = .ok (.getfield 10, 3) := by decide +kernel
theorem dX9_shake_31 : decode cX9_shake 31 = .ok (.getfield 204, 3) := by decide +kernel
theorem dX9_shake_34 : decode cX9_shake 34 = .ok (.getfield 238, 3) := by decide +kernel
theorem dX9_shake_37 : decode cX9_shake 37 = .ok (.iconst 2, 1) := by decide +kernel
theorem dX9_shake_38 : decode cX9_shake 38 = .ok (.dup2, 1) := by decide +kernel
theorem dX9_shake_39 : decode cX9_shake 39 = .ok (.iaload, 1) := by decide +kernel
theorem dX9_shake_40 : decode cX9_shake 40 = .ok (.iconst 1, 1) := by decide +kernel
theorem dX9_shake_41 : decode cX9_shake 41 = .ok (.iadd, 1) := by decide +kernel
theorem dX9_shake_42 : decode cX9_shake 42 = .ok (.iastore, 1) := by decide +kernel
theorem dX9_shake_43 : decode cX9_shake 43 = .ok (.aload_n 0, 1) := by decide +kernel
theorem dX9_shake_44 : decode cX9_shake 44 = .ok (.getfield 10, 3) := by decide +kernel
theorem dX9_shake_47 : decode cX9_shake 47 = .ok (.getfield 204, 3) := by decide +kernel
theorem dX9_shake_50 : decode cX9_shake 50 = .ok (.getfield 259, 3) := by decide +kernel
theorem dX9_shake_53 : decode cX9_shake 53 = .ok (.iload_n 1, 1) := by decide +kernel
theorem dX9_shake_54 : decode cX9_shake 54 = .ok (.iaload, 1) := by decide +kernel
theorem dX9_shake_55 : decode cX9_shake 55 = .ok (.ireturn, 1) := by decide +kernel
theorem dX9_stuff_0 : decode cX9_stuff 0 = .ok (.iload_n 1, 1) := by decide +kernel
theorem dX9_stuff_1 : decode cX9_stuff 1 = .ok (.invokestatic 127, 3) := by decide +kernel
theorem dX9_stuff_4 : decode cX9_stuff 4 = .ok (.ifCond .eq 7, 3) := by decide +kernel
theorem dX9_stuff_7 : decode cX9_stuff 7 = .ok (.iload_n 2, 1) := by decide +kernel
theorem dX9_stuff_8 : decode cX9_stuff 8 = .ok (.ifCond .ge 5, 3) := by decide +kernel
theorem dX9_stuff_11 : decode cX9_stuff 11 = .ok (.iconst (-1), 1) := by decide +kernel
theorem dX9_stuff_12 : decode cX9_stuff 12 = .ok (.ireturn, 1) := by decide +kernel
theorem dX9_stuff_13 : decode cX9_stuff 13 = .ok (.iload_n 2, 1) := by decide +kernel
theorem dX9_stuff_14 : decode cX9_stuff 14 = .ok (.bipush 10, 2) := by decide +kernel
theorem dX9_stuff_16 : decode cX9_stuff 16 = .ok (.idiv, 1) := by decide +kernel
theorem dX9_stuff_17 : decode cX9_stuff 17 = .ok (.istore_n 3, 1) := by decide +kernel
theorem dX9_stuff_18 : decode cX9_stuff 18 = .ok (.iload_n 2, 1) := by decide +kernel
theorem dX9_stuff_19 : decode cX9_stuff 19 = .ok (.bipush 10, 2) := by decide +kernel
theorem dX9_stuff_21 : decode cX9_stuff 21 = .ok (.irem, 1) := by decide +kernel
theorem dX9_stuff_22 : decode cX9_stuff 22 = .ok (.istore 4, 2) := by decide +kernel
theorem dX9_stuff_24 : decode cX9_stuff 24 = .ok (.iload_n 3, 1) := by decide +kernel
theorem dX9_stuff_25 : decode cX9_stuff 25 = .ok (.iconst 1, 1) := by decide +kernel
theorem dX9_stuff_26 : decode cX9_stuff 26 = .ok (.if_icmp .lt 18, 3) := by decide +kernel
theorem dX9_stuff_29 : decode cX9_stuff 29 = .ok (.iload_n 3, 1) := by decide +kernel
theorem dX9_stuff_30 : decode cX9_stuff 30 = .ok (.getstatic 71, 3) := by decide +kernel
theorem dX9_stuff_33 : decode cX9_stuff 33 = .ok (.iconst 0, 1) := by decide +kernel
theorem dX9_stuff_34 : decode cX9_stuff 34 = .ok (.iaload, 1) := by decide +kernel
theorem dX9_stuff_35 : decode cX9_stuff 35 = .ok (.if_icmp .gt 9, 3) := by decide +kernel
theorem dX9_stuff_38 : decode cX9_stuff 38 = .ok (.iload 4, 2) := by decide +kernel
theorem dX9_stuff_40 : decode cX9_stuff 40 = .ok (.iconst 1, 1) := by decide +kernel
theorem dX9_stuff_41 : decode cX9_stuff 41 = .ok (.if_icmp .ge 5, 3) := by decide +kernel
theorem dX9_stuff_44 : decode cX9_stuff 44 = .ok (.iconst (-1), 1) := by decide +kernel
theorem dX9_stuff_45 : decode cX9_stuff 45 = .ok (.ireturn, 1) := by decide +kernel
theorem dX9_stuff_46 : decode cX9_stuff 46 = .ok (.aload_n 0, 1) := by decide +kernel
theorem dX9_stuff_47 : decode cX9_stuff 47 = .ok (.getfield 10, 3) := by decide +kernel
theorem dX9_stuff_50 : decode cX9_stuff 50 = .ok (.getfield 204, 3) := by decide +kernel
theorem dX9_stuff_53 : decode cX9_stuff 53 = .ok (.getfield 250, 3) := by decide +kernel
theorem dX9_stuff_56 : decode cX9_stuff 56 = .ok (.iload_n 1, 1) := by decide +kernel
theorem dX9_stuff_57 : decode cX9_stuff 57 = .ok (.iaload, 1) := by decide +kernel
theorem dX9_stuff_58 : decode cX9_stuff 58 = .ok (.istore 5, 2) := by decide +kernel
theorem dX9_stuff_60 : decode cX9_stuff 60 = .ok (.aload_n 0, 1) := by decide +kernel
theorem dX9_stuff_61 : decode cX9_stuff 61 = .ok (.getfield 10, 3) := by decide +kernel
theorem dX9_stuff_64 : decode cX9_stuff 64 = .ok (.getfield 204, 3) := by decide +kernel
theorem dX9_stuff_67 : decode cX9_stuff 67 = .ok (.iload_n 1, 1) := by decide +kernel
theorem dX9_stuff_68 : decode cX9_stuff 68 = .ok (.iload_n 3, 1) := by decide +kernel
theorem dX9_stuff_69 : decode cX9_stuff 69 = .ok (.iload 4, 2) := by decide +kernel
theorem dX9_stuff_71 : decode cX9_stuff 71 = .ok (.iconst 0, 1) := by decide +kernel
theorem dX9_stuff_72 : decode cX9_stuff 72 = .ok (.invokevirtual 262, 3) := by decide +kernel
theorem dX9_stuff_75 : decode cX9_stuff 75 = .ok (.aload_n 0, 1) := by decide +kernel
theorem dX9_stuff_76 : decode cX9_stuff 76 = .ok (.getfield 10, 3) := by decide +kernel
theorem dX9_stuff_79 : decode cX9_stuff 79 = .ok (.getfield 204, 3) := by decide +kernel
theorem dX9_stuff_82 : decode cX9_stuff 82 = .ok (.getfield 238, 3) := by decide +kernel
theorem dX9_stuff_85 : decode cX9_stuff 85 = .ok (.iconst 3, 1) := by decide +kernel
theorem dX9_stuff_86 : decode cX9_stuff 86 = .ok (.dup2, 1) := by decide +kernel
theorem dX9_stuff_87 : decode cX9_stuff 87 = .ok (.iaload, 1) := by decide +kernel
theorem dX9_stuff_88 : decode cX9_stuff 88 = .ok (.iconst 1, 1) := by decide +kernel
theorem dX9_stuff_89 : decode cX9_stuff 89 = .ok (.iadd, 1) := by decide +kernel
theorem dX9_stuff_90 : decode cX9_stuff 90 = .ok (.iastore, 1) := by decide +kernel
theorem dX9_stuff_91 : decode cX9_stuff 91 = .ok (.iload 5, 2) := by decide +kernel
theorem dX9_stuff_93 : decode cX9_stuff 93 = .ok (.ireturn, 1) := by decide +kernel
theorem dX9_led_0 : decode cX9_led 0 = .ok (.iload_n 1, 1) := by decide +kernel
theorem dX9_led_1 : decode cX9_led 1 = .ok (.iconst 4, 1) := by decide +kernel
theorem dX9_led_2 : decode cX9_led 2 = .ok (.invokestatic 75, 3) := by decide +kernel
theorem dX9_led_5 : decode cX9_led 5 = .ok (.ifCond .eq 18, 3) := by decide +kernel
theorem dX9_led_8 : decode cX9_led 8 = .ok (.aload_n 0, 1) := by decide +kernel
theorem dX9_led_9 : decode cX9_led 9 = .ok (.getfield 10, 3) := by decide +kernel
theorem dX9_led_12 : decode cX9_led 12 = .ok (.getfield 204, 3) := by decide +kernel
theorem dX9_led_15 : decode cX9_led 15 = .ok (.getfield 238, 3) := by decide +kernel
theorem dX9_led_18 : decode cX9_led 18 = .ok (.iload_n 1, 1) := by decide +kernel
theorem dX9_led_19 : decode cX9_led 19 = .ok (.iaload, 1) := by decide +kernel
theorem dX9_led_20 : decode cX9_led 20 = .ok (.goto 4, 3) := by decide +kernel
theorem dX9_led_23 : decode cX9_led 23 = .ok (.iconst (-1), 1) := by decide +kernel
theorem dX9_led_24 : decode cX9_led 24 = .ok (.ireturn, 1) := by decide +kernel
theorem dX9_image_0 : decode cX9_image 0 = .ok (.aload_n 0, 1) := by decide +kernel
theorem dX9_image_1 : decode cX9_image 1 = .ok (.getfield 63, 3) := by decide +kernel
theorem dX9_image_4 : decode cX9_image 4 = .ok (.aload_n 0, 1) := by decide +kernel
theorem dX9_image_5 : decode cX9_image 5 = .ok (.getfield 10, 3) := by decide +kernel
theorem dX9_image_8 : decode cX9_image 8 = .ok (.getfield 204, 3) := by decide +kernel
theorem dX9_image_11 : decode cX9_image 11 = .ok (.invokevirtual 265, 3) := by decide +kernel
theorem dX9_image_14 : decode cX9_image 14 = .ok (.aload_n 0, 1) := by decide +kernel
theorem dX9_image_15 : decode cX9_image 15 = .ok (.iconst 1, 1) := by decide +kernel
theorem dX9_image_16 : decode cX9_image 16 = .ok (.putfield 67, 3) := by decide +kernel
theorem dX9_image_19 : decode cX9_image 19 = .ok (.aload_n 0, 1) := by decide +kernel
theorem dX9_image_20 : decode cX9_image 20 = .ok (.getfield 10, 3) := by decide +kernel
theorem dX9_image_23 : decode cX9_image 23 = .ok (.getfield 204, 3) := by decide +kernel
theorem dX9_image_26 : decode cX9_image 26 = .ok (.getfield 238, 3) := by decide +kernel
theorem dX9_image_29 : decode cX9_image 29 = .ok (.iconst 0, 1) := by decide +kernel
theorem dX9_image_30 : decode cX9_image 30 = .ok (.iaload, 1) := by decide +kernel
theorem dX9_image_31 : decode cX9_image 31 = .ok (.ireturn, 1) := by decide +kernel
theorem dX9_back_0 : decode cX9_back 0 = .ok (.aload_n 0, 1) := by decide +kernel
theorem dX9_back_1 : decode cX9_back 1 = .ok (.getfield 67, 3) := by decide +kernel
theorem dX9_back_4 : decode cX9_back 4 = .ok (.ifCond .ne 6, 3) := by decide +kernel
theorem dX9_back_7 : decode cX9_back 7 = .ok (.bipush (-5), 2) := by decide +kernel
theorem dX9_back_9 : decode cX9_back 9 = .ok (.ireturn, 1) := by decide +kernel
theorem dX9_back_10 : decode cX9_back 10 = .ok (.aload_n 0, 1) := by decide +kernel
theorem dX9_back_11 : decode cX9_back 11 = .ok (.getfield 10, 3) := by decide +kernel
theorem dX9_back_14 : decode cX9_back 14 = .ok (.getfield 204, 3) := by decide +kernel
theorem dX9_back_17 : decode cX9_back 17 = .ok (.aload_n 0, 1) := by decide +kernel
theorem dX9_back_18 : decode cX9_back 18 = .ok (.getfield 63, 3) := by decide +kernel
theorem dX9_back_21 : decode cX9_back 21 = .ok (.invokevirtual 265, 3) := by decide +kernel
theorem dX9_back_24 : decode cX9_back 24 = .ok (.aload_n 0, 1) := by decide +kernel
theorem dX9_back_25 : decode cX9_back 25 = .ok (.getfield 10, 3) := by decide +kernel
theorem dX9_back_28 : decode cX9_back 28 = .ok (.getfield 204, 3) := by decide +kernel
theorem dX9_back_31 : decode cX9_back 31 = .ok (.getfield 238, 3) := by decide +kernel
theorem dX9_back_34 : decode cX9_back 34 = .ok (.iconst 0, 1) := by decide +kernel
theorem dX9_back_35 : decode cX9_back 35 = .ok (.iaload, 1) := by decide +kernel
theorem dX9_back_36 : decode cX9_back 36 = .ok (.ireturn, 1) := by decide +kernel
theorem dX9_undo_0 : decode cX9_undo 0 = .ok (.aload_n 0, 1) := by decide +kernel
theorem dX9_undo_1 : decode cX9_undo 1 = .ok (.getfield 42, 3) := by decide +kernel
theorem dX9_undo_4 : decode cX9_undo 4 = .ok (.getfield 268, 3) := by decide +kernel
theorem dX9_undo_7 : decode cX9_undo 7 = .ok (.ifCond .ne 6, 3) := by decide +kernel
theorem dX9_undo_10 : decode cX9_undo 10 = .ok (.bipush (-5), 2) := by decide +kernel
theorem dX9_undo_12 : decode cX9_undo 12 = .ok (.ireturn, 1) := by decide +kernel
theorem dX9_undo_13 : decode cX9_undo 13 = .ok (.aload_n 0, 1) := by decide +kernel
theorem dX9_undo_14 : decode cX9_undo 14 = .ok (.getfield 42, 3) := by decide +kernel
theorem dX9_undo_17 : decode cX9_undo 17 = .ok (.aload_n 0, 1) := by decide +kernel
theorem dX9_undo_18 : decode cX9_undo 18 = .ok (.getfield 10, 3) := by decide +kernel
theorem dX9_undo_21 : decode cX9_undo 21 = .ok (.invokevirtual 271, 3) := by decide +kernel
theorem dX9_undo_24 : decode cX9_undo 24 = .ok (.aload_n 0, 1) := by decide +kernel
theorem dX9_undo_25 : decode cX9_undo 25 = .ok (.getfield 42, 3) := by decide +kernel
theorem dX9_undo_28 : decode cX9_undo 28 = .ok (.getfield 268, 3) := by decide +kernel
theorem dX9_undo_31 : decode cX9_undo 31 = .ok (.ireturn, 1) := by decide +kernel
theorem dX9_redo_0 : decode cX9_redo 0 = .ok (.aload_n 0, 1) := by decide +kernel
theorem dX9_redo_1 : decode cX9_redo 1 = .ok (.getfield 42, 3) := by decide +kernel
theorem dX9_redo_4 : decode cX9_redo 4 = .ok (.getfield 274, 3) := by decide +kernel
theorem dX9_redo_7 : decode cX9_redo 7 = .ok (.ifCond .ne 6, 3) := by decide +kernel
theorem dX9_redo_10 : decode cX9_redo 10 = .ok (.bipush (-5), 2) := by decide +kernel
theorem dX9_redo_12 : decode cX9_redo 12 = .ok (.ireturn, 1) := by decide +kernel
theorem dX9_redo_13 : decode cX9_redo 13 = .ok (.aload_n 0, 1) := by decide +kernel
theorem dX9_redo_14 : decode cX9_redo 14 = .ok (.getfield 42, 3) := by decide +kernel
theorem dX9_redo_17 : decode cX9_redo 17 = .ok (.aload_n 0, 1) := by decide +kernel
theorem dX9_redo_18 : decode cX9_redo 18 = .ok (.getfield 10, 3) := by decide +kernel
theorem dX9_redo_21 : decode cX9_redo 21 = .ok (.invokevirtual 277, 3) := by decide +kernel
theorem dX9_redo_24 : decode cX9_redo 24 = .ok (.aload_n 0, 1) := by decide +kernel
theorem dX9_redo_25 : decode cX9_redo 25 = .ok (.getfield 42, 3) := by decide +kernel
theorem dX9_redo_28 : decode cX9_redo 28 = .ok (.getfield 274, 3) := by decide +kernel
theorem dX9_redo_31 : decode cX9_redo 31 = .ok (.ireturn, 1) := by decide +kernel
theorem dX9_body_0 : decode cX9_body 0 = .ok (.iload_n 1, 1) := by decide +kernel
theorem dX9_body_1 : decode cX9_body 1 = .ok (.invokestatic 280, 3) := by decide +kernel
theorem dX9_body_4 : decode cX9_body 4 = .ok (.ifCond .eq 14, 3) := by decide +kernel
theorem dX9_body_7 : decode cX9_body 7 = .ok (.aload_n 0, 1) := by decide +kernel
theorem dX9_body_8 : decode cX9_body 8 = .ok (.getfield 49, 3) := by decide +kernel
theorem dX9_body_11 : decode cX9_body 11 = .ok (.iload_n 1, 1) := by decide +kernel
theorem dX9_body_12 : decode cX9_body 12 = .ok (.invokevirtual 283, 3) := by decide +kernel
theorem dX9_body_15 : decode cX9_body 15 = .ok (.goto 4, 3) := by decide +kernel
theorem dX9_body_18 : decode cX9_body 18 = .ok (.iconst (-1), 1) := by decide +kernel
theorem dX9_body_19 : decode cX9_body 19 = .ok (.ireturn, 1) := by decide +kernel
theorem dX9_act_0 : decode cX9_act 0 = .ok (.aload_n 0, 1) := by decide +kernel
theorem dX9_act_1 : decode cX9_act 1 = .ok (.getfield 49, 3) := by decide +kernel
theorem dX9_act_4 : decode cX9_act 4 = .ok (.iload_n 1, 1) := by decide +kernel
theorem dX9_act_5 : decode cX9_act 5 = .ok (.iload_n 2, 1) := by decide +kernel
theorem dX9_act_6 : decode cX9_act 6 = .ok (.iload_n 3, 1) := by decide +kernel
theorem dX9_act_7 : decode cX9_act 7 = .ok (.invokevirtual 286, 3) := by decide +kernel
theorem dX9_act_10 : decode cX9_act 10 = .ok (.ireturn, 1) := by decide +kernel
theorem dX9_trace_0 : decode cX9_trace 0 = .ok (.iload_n 1, 1) := by decide +kernel
theorem dX9_trace_1 : decode cX9_trace 1 = .ok (.ifCond .lt 32, 3) := by decide +kernel
theorem dX9_trace_4 : decode cX9_trace 4 = .ok (.iload_n 1, 1) := by decide +kernel
theorem dX9_trace_5 : decode cX9_trace 5 = .ok (.aload_n 0, 1) := by decide +kernel
theorem dX9_trace_6 : decode cX9_trace 6 = .ok (.getfield 49, 3) := by decide +kernel
theorem dX9_trace_9 : decode cX9_trace 9 = .ok (.getfield 289, 3) := by decide +kernel
theorem dX9_trace_12 : decode cX9_trace 12 = .ok (.if_icmp .ge 21, 3) := by decide +kernel
theorem dX9_trace_15 : decode cX9_trace 15 = .ok (.iload_n 1, 1) := by decide +kernel
theorem dX9_trace_16 : decode cX9_trace 16 = .ok (.bipush 24, 2) := by decide +kernel
theorem dX9_trace_18 : decode cX9_trace 18 = .ok (.if_icmp .ge 15, 3) := by decide +kernel
theorem dX9_trace_21 : decode cX9_trace 21 = .ok (.aload_n 0, 1) := by decide +kernel
theorem dX9_trace_22 : decode cX9_trace 22 = .ok (.getfield 49, 3) := by decide +kernel
theorem dX9_trace_25 : decode cX9_trace 25 = .ok (.getfield 292, 3) := by decide +kernel
theorem dX9_trace_28 : decode cX9_trace 28 = .ok (.iload_n 1, 1) := by decide +kernel
theorem dX9_trace_29 : decode cX9_trace 29 = .ok (.iaload, 1) := by decide +kernel
theorem dX9_trace_30 : decode cX9_trace 30 = .ok (.goto 4, 3) := by decide +kernel
theorem dX9_trace_33 : decode cX9_trace 33 = .ok (.iconst (-1), 1) := by decide +kernel
theorem dX9_trace_34 : decode cX9_trace 34 = .ok (.ireturn, 1) := by decide +kernel
theorem dX9_keep_0 : decode cX9_keep 0 = .ok (.iload_n 1, 1) := by decide +kernel
theorem dX9_keep_1 : decode cX9_keep 1 = .ok (.invokestatic 83, 3) := by decide +kernel
theorem dX9_keep_4 : decode cX9_keep 4 = .ok (.ifCond .eq 19, 3) := by decide +kernel
theorem dX9_keep_7 : decode cX9_keep 7 = .ok (.iload_n 2, 1) := by decide +kernel
theorem dX9_keep_8 : decode cX9_keep 8 = .ok (.iconst (-1), 1) := by decide +kernel
theorem dX9_keep_9 : decode cX9_keep 9 = .ok (.if_icmp .eq 16, 3) := by decide +kernel
theorem dX9_keep_12 : decode cX9_keep 12 = .ok (.aload_n 0, 1) := by decide +kernel
theorem dX9_keep_13 : decode cX9_keep 13 = .ok (.getfield 49, 3) := by decide +kernel
theorem dX9_keep_16 : decode cX9_keep 16 = .ok (.iload_n 2, 1) := by decide +kernel
theorem dX9_keep_17 : decode cX9_keep 17 = .ok (.invokevirtual 295, 3) := by decide +kernel
theorem dX9_keep_20 : decode cX9_keep 20 = .ok (.ifCond .ne 5, 3) := by decide +kernel
theorem dX9_keep_23 : decode cX9_keep 23 = .ok (.iconst (-1), 1) := by decide +kernel
theorem dX9_keep_24 : decode cX9_keep 24 = .ok (.ireturn, 1) := by decide +kernel
theorem dX9_keep_25 : decode cX9_keep 25 = .ok (.aload_n 0, 1) := by decide +kernel
theorem dX9_keep_26 : decode cX9_keep 26 = .ok (.getfield 55, 3) := by decide +kernel
theorem dX9_keep_29 : decode cX9_keep 29 = .ok (.iload_n 1, 1) := by decide +kernel
theorem dX9_keep_30 : decode cX9_keep 30 = .ok (.aaload, 1) := by decide +kernel
theorem dX9_keep_31 : decode cX9_keep 31 = .ok (.iload_n 2, 1) := by decide +kernel
theorem dX9_keep_32 : decode cX9_keep 32 = .ok (.invokevirtual 298, 3) := by decide +kernel
theorem dX9_keep_35 : decode cX9_keep 35 = .ok (.iconst 1, 1) := by decide +kernel
theorem dX9_keep_36 : decode cX9_keep 36 = .ok (.ireturn, 1) := by decide +kernel
theorem dX9_row_0 : decode cX9_row 0 = .ok (.iload_n 1, 1) := by decide +kernel
theorem dX9_row_1 : decode cX9_row 1 = .ok (.invokestatic 83, 3) := by decide +kernel
theorem dX9_row_4 : decode cX9_row 4 = .ok (.ifCond .eq 17, 3) := by decide +kernel
theorem dX9_row_7 : decode cX9_row 7 = .ok (.iload_n 2, 1) := by decide +kernel
theorem dX9_row_8 : decode cX9_row 8 = .ok (.iconst 4, 1) := by decide +kernel
theorem dX9_row_9 : decode cX9_row 9 = .ok (.invokestatic 75, 3) := by decide +kernel
theorem dX9_row_12 : decode cX9_row 12 = .ok (.ifCond .eq 9, 3) := by decide +kernel
theorem dX9_row_15 : decode cX9_row 15 = .ok (.iload_n 3, 1) := by decide +kernel
theorem dX9_row_16 : decode cX9_row 16 = .ok (.bipush 60, 2) := by decide +kernel
theorem dX9_row_18 : decode cX9_row 18 = .ok (.if_icmp .le 5, 3) := by decide +kernel
theorem dX9_row_21 : decode cX9_row 21 = .ok (.iconst (-1), 1) := by decide +kernel
theorem dX9_row_22 : decode cX9_row 22 = .ok (.ireturn, 1) := by decide +kernel
theorem dX9_row_23 : decode cX9_row 23 = .ok (.iload_n 3, 1) := by decide +kernel
theorem dX9_row_24 : decode cX9_row 24 = .ok (.ifCond .ge 6, 3) := by decide +kernel
theorem dX9_row_27 : decode cX9_row 27 = .ok (.bipush (-14), 2) := by decide +kernel
theorem dX9_row_29 : decode cX9_row 29 = .ok (.ireturn, 1) := by decide +kernel
theorem dX9_row_30 : decode cX9_row 30 = .ok (.aload_n 0, 1) := by decide +kernel
theorem dX9_row_31 : decode cX9_row 31 = .ok (.getfield 55, 3) := by decide +kernel
theorem dX9_row_34 : decode cX9_row 34 = .ok (.iload_n 1, 1) := by decide +kernel
theorem dX9_row_35 : decode cX9_row 35 = .ok (.aaload, 1) := by decide +kernel
theorem dX9_row_36 : decode cX9_row 36 = .ok (.iload_n 2, 1) := by decide +kernel
theorem dX9_row_37 : decode cX9_row 37 = .ok (.iload_n 3, 1) := by decide +kernel
theorem dX9_row_38 : decode cX9_row 38 = .ok (.invokevirtual 301, 3) := by decide +kernel
theorem dX9_row_41 : decode cX9_row 41 = .ok (.iconst 1, 1) := by decide +kernel
theorem dX9_row_42 : decode cX9_row 42 = .ok (.ireturn, 1) := by decide +kernel
theorem dX9_put_0 : decode cX9_put 0 = .ok (.aload_n 0, 1) := by decide +kernel
theorem dX9_put_1 : decode cX9_put 1 = .ok (.iload_n 1, 1) := by decide +kernel
theorem dX9_put_2 : decode cX9_put 2 = .ok (.iload_n 2, 1) := by decide +kernel
theorem dX9_put_3 : decode cX9_put 3 = .ok (.invokevirtual 304, 3) := by decide +kernel
theorem dX9_put_6 : decode cX9_put 6 = .ok (.istore 5, 2) := by decide +kernel
theorem dX9_put_8 : decode cX9_put 8 = .ok (.iload 5, 2) := by decide +kernel
theorem dX9_put_10 : decode cX9_put 10 = .ok (.ifCond .ge 6, 3) := by decide +kernel
theorem dX9_put_13 : decode cX9_put 13 = .ok (.iload 5, 2) := by decide +kernel
theorem dX9_put_15 : decode cX9_put 15 = .ok (.ireturn, 1) := by decide +kernel
theorem dX9_put_16 : decode cX9_put 16 = .ok (.aload_n 0, 1) := by decide +kernel
theorem dX9_put_17 : decode cX9_put 17 = .ok (.getfield 55, 3) := by decide +kernel
theorem dX9_put_20 : decode cX9_put 20 = .ok (.iload_n 1, 1) := by decide +kernel
theorem dX9_put_21 : decode cX9_put 21 = .ok (.aaload, 1) := by decide +kernel
theorem dX9_put_22 : decode cX9_put 22 = .ok (.getfield 307, 3) := by decide +kernel
theorem dX9_put_25 : decode cX9_put 25 = .ok (.iload_n 2, 1) := by decide +kernel
theorem dX9_put_26 : decode cX9_put 26 = .ok (.aload_n 0, 1) := by decide +kernel
theorem dX9_put_27 : decode cX9_put 27 = .ok (.getfield 55, 3) := by decide +kernel
theorem dX9_put_30 : decode cX9_put 30 = .ok (.iload_n 1, 1) := by decide +kernel
theorem dX9_put_31 : decode cX9_put 31 = .ok (.aaload, 1) := by decide +kernel
theorem dX9_put_32 : decode cX9_put 32 = .ok (.getfield 87, 3) := by decide +kernel
theorem dX9_put_35 : decode cX9_put 35 = .ok (.lload_n 3, 1) := by decide +kernel
theorem dX9_put_36 : decode cX9_put 36 = .ok (.invokestatic 311, 3) := by decide +kernel
theorem dX9_put_39 : decode cX9_put 39 = .ok (.lastore, 1) := by decide +kernel
theorem dX9_put_40 : decode cX9_put 40 = .ok (.iconst 1, 1) := by decide +kernel
theorem dX9_put_41 : decode cX9_put 41 = .ok (.ireturn, 1) := by decide +kernel
theorem dX9_element_0 : decode cX9_element 0 = .ok (.aload_n 0, 1) := by decide +kernel
theorem dX9_element_1 : decode cX9_element 1 = .ok (.iload_n 1, 1) := by decide +kernel
theorem dX9_element_2 : decode cX9_element 2 = .ok (.iload_n 2, 1) := by decide +kernel
theorem dX9_element_3 : decode cX9_element 3 = .ok (.invokevirtual 304, 3) := by decide +kernel
theorem dX9_element_6 : decode cX9_element 6 = .ok (.ifCond .ge 9, 3) := by decide +kernel
theorem dX9_element_9 : decode cX9_element 9 = .ok (.ldc2_w 317, 3) := by decide +kernel
theorem dX9_element_12 : decode cX9_element 12 = .ok (.goto 14, 3) := by decide +kernel
theorem dX9_element_15 : decode cX9_element 15 = .ok (.aload_n 0, 1) := by decide +kernel
theorem dX9_element_16 : decode cX9_element 16 = .ok (.getfield 55, 3) := by decide +kernel
theorem dX9_element_19 : decode cX9_element 19 = .ok (.iload_n 1, 1) := by decide +kernel
theorem dX9_element_20 : decode cX9_element 20 = .ok (.aaload, 1) := by decide +kernel
theorem dX9_element_21 : decode cX9_element 21 = .ok (.getfield 307, 3) := by decide +kernel
theorem dX9_element_24 : decode cX9_element 24 = .ok (.iload_n 2, 1) := by decide +kernel
theorem dX9_element_25 : decode cX9_element 25 = .ok (.laload, 1) := by decide +kernel
theorem dX9_element_26 : decode cX9_element 26 = .ok (.lreturn, 1) := by decide +kernel
theorem dX9_shift_0 : decode cX9_shift 0 = .ok (.iload_n 1, 1) := by decide +kernel
theorem dX9_shift_1 : decode cX9_shift 1 = .ok (.invokestatic 83, 3) := by decide +kernel
theorem dX9_shift_4 : decode cX9_shift 4 = .ok (.ifCond .eq 10, 3) := by decide +kernel
theorem dX9_shift_7 : decode cX9_shift 7 = .ok (.iload_n 3, 1) := by decide +kernel
theorem dX9_shift_8 : decode cX9_shift 8 = .ok (.invokestatic 83, 3) := by decide +kernel
theorem dX9_shift_11 : decode cX9_shift 11 = .ok (.ifCond .ne 5, 3) := by decide +kernel
theorem dX9_shift_14 : decode cX9_shift 14 = .ok (.iconst (-1), 1) := by decide +kernel
theorem dX9_shift_15 : decode cX9_shift 15 = .ok (.ireturn, 1) := by decide +kernel
theorem dX9_shift_16 : decode cX9_shift 16 = .ok (.aload_n 0, 1) := by decide +kernel
theorem dX9_shift_17 : decode cX9_shift 17 = .ok (.getfield 55, 3) := by decide +kernel
theorem dX9_shift_20 : decode cX9_shift 20 = .ok (.iload_n 1, 1) := by decide +kernel
theorem dX9_shift_21 : decode cX9_shift 21 = .ok (.aaload, 1) := by decide +kernel
theorem dX9_shift_22 : decode cX9_shift 22 = .ok (.astore 6, 2) := by decide +kernel
theorem dX9_shift_24 : decode cX9_shift 24 = .ok (.aload_n 0, 1) := by decide +kernel
theorem dX9_shift_25 : decode cX9_shift 25 = .ok (.getfield 55, 3) := by decide +kernel
theorem dX9_shift_28 : decode cX9_shift 28 = .ok (.iload_n 3, 1) := by decide +kernel
theorem dX9_shift_29 : decode cX9_shift 29 = .ok (.aaload, 1) := by decide +kernel
theorem dX9_shift_30 : decode cX9_shift 30 = .ok (.astore 7, 2) := by decide +kernel
theorem dX9_shift_32 : decode cX9_shift 32 = .ok (.aload 6, 2) := by decide +kernel
theorem dX9_shift_34 : decode cX9_shift 34 = .ok (.getfield 87, 3) := by decide +kernel
theorem dX9_shift_37 : decode cX9_shift 37 = .ok (.bipush (-2), 2) := by decide +kernel
theorem dX9_shift_39 : decode cX9_shift 39 = .ok (.if_icmp .eq 13, 3) := by decide +kernel
theorem dX9_shift_42 : decode cX9_shift 42 = .ok (.aload 7, 2) := by decide +kernel
theorem dX9_shift_44 : decode cX9_shift 44 = .ok (.getfield 87, 3) := by decide +kernel
theorem dX9_shift_47 : decode cX9_shift 47 = .ok (.bipush (-2), 2) := by decide +kernel
theorem dX9_shift_49 : decode cX9_shift 49 = .ok (.if_icmp .ne 6, 3) := by decide +kernel
theorem dX9_shift_52 : decode cX9_shift 52 = .ok (.bipush (-11), 2) := by decide +kernel
theorem dX9_shift_54 : decode cX9_shift 54 = .ok (.ireturn, 1) := by decide +kernel
theorem dX9_shift_55 : decode cX9_shift 55 = .ok (.aload 6, 2) := by decide +kernel
theorem dX9_shift_57 : decode cX9_shift 57 = .ok (.invokevirtual 319, 3) := by decide +kernel
theorem dX9_shift_60 : decode cX9_shift 60 = .ok (.ifCond .eq 16, 3) := by decide +kernel
theorem dX9_shift_63 : decode cX9_shift 63 = .ok (.aload 6, 2) := by decide +kernel
theorem dX9_shift_65 : decode cX9_shift 65 = .ok (.getfield 87, 3) := by decide +kernel
theorem dX9_shift_68 : decode cX9_shift 68 = .ok (.aload 7, 2) := by decide +kernel
theorem dX9_shift_70 : decode cX9_shift 70 = .ok (.getfield 87, 3) := by decide +kernel
theorem dX9_shift_73 : decode cX9_shift 73 = .ok (.if_icmp .eq 6, 3) := by decide +kernel
theorem dX9_shift_76 : decode cX9_shift 76 = .ok (.bipush (-12), 2) := by decide +kernel
theorem dX9_shift_78 : decode cX9_shift 78 = .ok (.ireturn, 1) := by decide +kernel
theorem dX9_shift_79 : decode cX9_shift 79 = .ok (.aload 6, 2) := by decide +kernel
theorem dX9_shift_81 : decode cX9_shift 81 = .ok (.iload_n 2, 1) := by decide +kernel
theorem dX9_shift_82 : decode cX9_shift 82 = .ok (.iload 5, 2) := by decide +kernel
theorem dX9_shift_84 : decode cX9_shift 84 = .ok (.invokevirtual 323, 3) := by decide +kernel
theorem dX9_shift_87 : decode cX9_shift 87 = .ok (.ifCond .eq 15, 3) := by decide +kernel
theorem dX9_shift_90 : decode cX9_shift 90 = .ok (.aload 7, 2) := by decide +kernel
theorem dX9_shift_92 : decode cX9_shift 92 = .ok (.iload 4, 2) := by decide +kernel
theorem dX9_shift_94 : decode cX9_shift 94 = .ok (.iload 5, 2) := by decide +kernel
theorem dX9_shift_96 : decode cX9_shift 96 = .ok (.invokevirtual 323, 3) := by decide +kernel
theorem dX9_shift_99 : decode cX9_shift 99 = .ok (.ifCond .ne 6, 3) := by decide +kernel
theorem dX9_shift_102 : decode cX9_shift 102 = .ok (.bipush (-13), 2) := by decide +kernel
theorem dX9_shift_104 : decode cX9_shift 104 = .ok (.ireturn, 1) := by decide +kernel
theorem dX9_shift_105 : decode cX9_shift 105 = .ok (.aload 6, 2) := by decide +kernel
theorem dX9_shift_107 : decode cX9_shift 107 = .ok (.getfield 307, 3) := by decide +kernel
theorem dX9_shift_110 : decode cX9_shift 110 = .ok (.iload_n 2, 1) := by decide +kernel
theorem dX9_shift_111 : decode cX9_shift 111 = .ok (.aload 7, 2) := by decide +kernel
theorem dX9_shift_113 : decode cX9_shift 113 = .ok (.getfield 307, 3) := by decide +kernel
theorem dX9_shift_116 : decode cX9_shift 116 = .ok (.iload 4, 2) := by decide +kernel
theorem dX9_shift_118 : decode cX9_shift 118 = .ok (.iload 5, 2) := by decide +kernel
theorem dX9_shift_120 : decode cX9_shift 120 = .ok (.invokestatic 326, 3) := by decide +kernel
theorem dX9_shift_123 : decode cX9_shift 123 = .ok (.iload 5, 2) := by decide +kernel
theorem dX9_shift_125 : decode cX9_shift 125 = .ok (.ireturn, 1) := by decide +kernel
theorem dX9_taken_0 : decode cX9_taken 0 = .ok (.iload_n 1, 1) := by decide +kernel
theorem dX9_taken_1 : decode cX9_taken 1 = .ok (.invokestatic 83, 3) := by decide +kernel
theorem dX9_taken_4 : decode cX9_taken 4 = .ok (.ifCond .eq 10, 3) := by decide +kernel
theorem dX9_taken_7 : decode cX9_taken 7 = .ok (.iload_n 2, 1) := by decide +kernel
theorem dX9_taken_8 : decode cX9_taken 8 = .ok (.invokestatic 280, 3) := by decide +kernel
theorem dX9_taken_11 : decode cX9_taken 11 = .ok (.ifCond .ne 5, 3) := by decide +kernel
theorem dX9_taken_14 : decode cX9_taken 14 = .ok (.iconst (-1), 1) := by decide +kernel
theorem dX9_taken_15 : decode cX9_taken 15 = .ok (.ireturn, 1) := by decide +kernel
theorem dX9_taken_16 : decode cX9_taken 16 = .ok (.aload_n 0, 1) := by decide +kernel
theorem dX9_taken_17 : decode cX9_taken 17 = .ok (.getfield 55, 3) := by decide +kernel
theorem dX9_taken_20 : decode cX9_taken 20 = .ok (.iload_n 1, 1) := by decide +kernel
theorem dX9_taken_21 : decode cX9_taken 21 = .ok (.aaload, 1) := by decide +kernel
theorem dX9_taken_22 : decode cX9_taken 22 = .ok (.astore_n 3, 1) := by decide +kernel
theorem dX9_taken_23 : decode cX9_taken 23 = .ok (.aload_n 3, 1) := by decide +kernel
theorem dX9_taken_24 : decode cX9_taken 24 = .ok (.getfield 87, 3) := by decide +kernel
theorem dX9_taken_27 : decode cX9_taken 27 = .ok (.bipush (-2), 2) := by decide +kernel
theorem dX9_taken_29 : decode cX9_taken 29 = .ok (.if_icmp .ne 6, 3) := by decide +kernel
theorem dX9_taken_32 : decode cX9_taken 32 = .ok (.bipush (-11), 2) := by decide +kernel
theorem dX9_taken_34 : decode cX9_taken 34 = .ok (.ireturn, 1) := by decide +kernel
theorem dX9_taken_35 : decode cX9_taken 35 = .ok (.aload_n 3, 1) := by decide +kernel
theorem dX9_taken_36 : decode cX9_taken 36 = .ok (.getfield 87, 3) := by decide +kernel
theorem dX9_taken_39 : decode cX9_taken 39 = .ok (.iconst (-1), 1) := by decide +kernel
theorem dX9_taken_40 : decode cX9_taken 40 = .ok (.if_icmp .ne 18, 3) := by decide +kernel
theorem dX9_taken_43 : decode cX9_taken 43 = .ok (.aload_n 0, 1) := by decide +kernel
theorem dX9_taken_44 : decode cX9_taken 44 = .ok (.getfield 49, 3) := by decide +kernel
theorem dX9_taken_47 : decode cX9_taken 47 = .ok (.aload_n 3, 1) := by decide +kernel
theorem dX9_taken_48 : decode cX9_taken 48 = .ok (.getfield 332, 3) := by decide +kernel
theorem dX9_taken_51 : decode cX9_taken 51 = .ok (.iload_n 2, 1) := by decide +kernel
theorem dX9_taken_52 : decode cX9_taken 52 = .ok (.invokevirtual 335, 3) := by decide +kernel
theorem dX9_taken_55 : decode cX9_taken 55 = .ok (.ifCond .ne 6, 3) := by decide +kernel
theorem dX9_taken_58 : decode cX9_taken 58 = .ok (.bipush (-12), 2) := by decide +kernel
theorem dX9_taken_60 : decode cX9_taken 60 = .ok (.ireturn, 1) := by decide +kernel
theorem dX9_taken_61 : decode cX9_taken 61 = .ok (.aload_n 0, 1) := by decide +kernel
theorem dX9_taken_62 : decode cX9_taken 62 = .ok (.getfield 49, 3) := by decide +kernel
theorem dX9_taken_65 : decode cX9_taken 65 = .ok (.getfield 338, 3) := by decide +kernel
theorem dX9_taken_68 : decode cX9_taken 68 = .ok (.aload_n 3, 1) := by decide +kernel
theorem dX9_taken_69 : decode cX9_taken 69 = .ok (.getfield 332, 3) := by decide +kernel
theorem dX9_taken_72 : decode cX9_taken 72 = .ok (.iaload, 1) := by decide +kernel
theorem dX9_taken_73 : decode cX9_taken 73 = .ok (.ireturn, 1) := by decide +kernel
theorem dX9_count_0 : decode cX9_count 0 = .ok (.iload_n 1, 1) := by decide +kernel
theorem dX9_count_1 : decode cX9_count 1 = .ok (.tableswitch 90 0 5 #[39, 47, 58, 66, 74, 82], 39) := by decide +kernel
theorem dX9_count_40 : decode cX9_count 40 = .ok (.aload_n 0, 1) := by decide +kernel
theorem dX9_count_41 : decode cX9_count 41 = .ok (.getfield 10, 3) := by decide +kernel
theorem dX9_count_44 : decode cX9_count 44 = .ok (.getfield 341, 3) := by decide +kernel
theorem dX9_count_47 : decode cX9_count 47 = .ok (.ireturn, 1) := by decide +kernel
theorem dX9_count_48 : decode cX9_count 48 = .ok (.aload_n 0, 1) := by decide +kernel
theorem dX9_count_49 : decode cX9_count 49 = .ok (.getfield 10, 3) := by decide +kernel
theorem dX9_count_52 : decode cX9_count 52 = .ok (.getfield 204, 3) := by decide +kernel
theorem dX9_count_55 : decode cX9_count 55 = .ok (.invokevirtual 344, 3) := by decide +kernel
theorem dX9_count_58 : decode cX9_count 58 = .ok (.ireturn, 1) := by decide +kernel
theorem dX9_count_59 : decode cX9_count 59 = .ok (.aload_n 0, 1) := by decide +kernel
theorem dX9_count_60 : decode cX9_count 60 = .ok (.getfield 19, 3) := by decide +kernel
theorem dX9_count_63 : decode cX9_count 63 = .ok (.getfield 113, 3) := by decide +kernel
theorem dX9_count_66 : decode cX9_count 66 = .ok (.ireturn, 1) := by decide +kernel
theorem dX9_count_67 : decode cX9_count 67 = .ok (.aload_n 0, 1) := by decide +kernel
theorem dX9_count_68 : decode cX9_count 68 = .ok (.getfield 42, 3) := by decide +kernel
theorem dX9_count_71 : decode cX9_count 71 = .ok (.getfield 268, 3) := by decide +kernel
theorem dX9_count_74 : decode cX9_count 74 = .ok (.ireturn, 1) := by decide +kernel
theorem dX9_count_75 : decode cX9_count 75 = .ok (.aload_n 0, 1) := by decide +kernel
theorem dX9_count_76 : decode cX9_count 76 = .ok (.getfield 49, 3) := by decide +kernel
theorem dX9_count_79 : decode cX9_count 79 = .ok (.getfield 348, 3) := by decide +kernel
theorem dX9_count_82 : decode cX9_count 82 = .ok (.ireturn, 1) := by decide +kernel
theorem dX9_count_83 : decode cX9_count 83 = .ok (.aload_n 0, 1) := by decide +kernel
theorem dX9_count_84 : decode cX9_count 84 = .ok (.getfield 49, 3) := by decide +kernel
theorem dX9_count_87 : decode cX9_count 87 = .ok (.getfield 289, 3) := by decide +kernel
theorem dX9_count_90 : decode cX9_count 90 = .ok (.ireturn, 1) := by decide +kernel
theorem dX9_count_91 : decode cX9_count 91 = .ok (.iconst (-1), 1) := by decide +kernel
theorem dX9_count_92 : decode cX9_count 92 = .ok (.ireturn, 1) := by decide +kernel
theorem dX9_within_0 : decode cX9_within 0 = .ok (.iload_n 0, 1) := by decide +kernel
theorem dX9_within_1 : decode cX9_within 1 = .ok (.ifCond .lt 12, 3) := by decide +kernel
theorem dX9_within_4 : decode cX9_within 4 = .ok (.iload_n 0, 1) := by decide +kernel
theorem dX9_within_5 : decode cX9_within 5 = .ok (.iload_n 1, 1) := by decide +kernel
theorem dX9_within_6 : decode cX9_within 6 = .ok (.if_icmp .gt 7, 3) := by decide +kernel
theorem dX9_within_9 : decode cX9_within 9 = .ok (.iconst 1, 1) := by decide +kernel
theorem dX9_within_10 : decode cX9_within 10 = .ok (.goto 4, 3) := by decide +kernel
theorem dX9_within_13 : decode cX9_within 13 = .ok (.iconst 0, 1) := by decide +kernel
theorem dX9_within_14 : decode cX9_within 14 = .ok (.ireturn, 1) := by decide +kernel
theorem dX9_isSquare_0 : decode cX9_isSquare 0 = .ok (.iload_n 0, 1) := by decide +kernel
theorem dX9_isSquare_1 : decode cX9_isSquare 1 = .ok (.ifCond .lt 13, 3) := by decide +kernel
theorem dX9_isSquare_4 : decode cX9_isSquare 4 = .ok (.iload_n 0, 1) := by decide +kernel
theorem dX9_isSquare_5 : decode cX9_isSquare 5 = .ok (.bipush 30, 2) := by decide +kernel
theorem dX9_isSquare_7 : decode cX9_isSquare 7 = .ok (.if_icmp .ge 7, 3) := by decide +kernel
theorem dX9_isSquare_10 : decode cX9_isSquare 10 = .ok (.iconst 1, 1) := by decide +kernel
theorem dX9_isSquare_11 : decode cX9_isSquare 11 = .ok (.goto 4, 3) := by decide +kernel
theorem dX9_isSquare_14 : decode cX9_isSquare 14 = .ok (.iconst 0, 1) := by decide +kernel
theorem dX9_isSquare_15 : decode cX9_isSquare 15 = .ok (.ireturn, 1) := by decide +kernel
theorem dX9_isShelf_0 : decode cX9_isShelf 0 = .ok (.iload_n 0, 1) := by decide +kernel
theorem dX9_isShelf_1 : decode cX9_isShelf 1 = .ok (.ifCond .lt 13, 3) := by decide +kernel
theorem dX9_isShelf_4 : decode cX9_isShelf 4 = .ok (.iload_n 0, 1) := by decide +kernel
theorem dX9_isShelf_5 : decode cX9_isShelf 5 = .ok (.bipush 6, 2) := by decide +kernel
theorem dX9_isShelf_7 : decode cX9_isShelf 7 = .ok (.if_icmp .ge 7, 3) := by decide +kernel
theorem dX9_isShelf_10 : decode cX9_isShelf 10 = .ok (.iconst 1, 1) := by decide +kernel
theorem dX9_isShelf_11 : decode cX9_isShelf 11 = .ok (.goto 4, 3) := by decide +kernel
theorem dX9_isShelf_14 : decode cX9_isShelf 14 = .ok (.iconst 0, 1) := by decide +kernel
theorem dX9_isShelf_15 : decode cX9_isShelf 15 = .ok (.ireturn, 1) := by decide +kernel
theorem dX9_houseCame_0 : decode cX9_houseCame 0 = .ok (.aload_n 1, 1) := by decide +kernel
theorem dX9_houseCame_1 : decode cX9_houseCame 1 = .ok (.getfield 351, 3) := by decide +kernel
theorem dX9_houseCame_4 : decode cX9_houseCame 4 = .ok (.iconst 3, 1) := by decide +kernel
theorem dX9_houseCame_5 : decode cX9_houseCame 5 = .ok (.iload_n 3, 1) := by decide +kernel
theorem dX9_houseCame_6 : decode cX9_houseCame 6 = .ok (.imul, 1) := by decide +kernel
theorem dX9_houseCame_7 : decode cX9_houseCame 7 = .ok (.isub, 1) := by decide +kernel
theorem dX9_houseCame_8 : decode cX9_houseCame 8 = .ok (.iconst 2, 1) := by decide +kernel
theorem dX9_houseCame_9 : decode cX9_houseCame 9 = .ok (.isub, 1) := by decide +kernel
theorem dX9_houseCame_10 : decode cX9_houseCame 10 = .ok (.istore 4, 2) := by decide +kernel
theorem dX9_houseCame_12 : decode cX9_houseCame 12 = .ok (.iload_n 2, 1) := by decide +kernel
theorem dX9_houseCame_13 : decode cX9_houseCame 13 = .ok (.ifCond .lt 17, 3) := by decide +kernel
theorem dX9_houseCame_16 : decode cX9_houseCame 16 = .ok (.iload_n 2, 1) := by decide +kernel
theorem dX9_houseCame_17 : decode cX9_houseCame 17 = .ok (.iload 4, 2) := by decide +kernel
theorem dX9_houseCame_19 : decode cX9_houseCame 19 = .ok (.if_icmp .ge 11, 3) := by decide +kernel
theorem dX9_houseCame_22 : decode cX9_houseCame 22 = .ok (.aload_n 1, 1) := by decide +kernel
theorem dX9_houseCame_23 : decode cX9_houseCame 23 = .ok (.getfield 87, 3) := by decide +kernel
theorem dX9_houseCame_26 : decode cX9_houseCame 26 = .ok (.iconst 1, 1) := by decide +kernel
theorem dX9_houseCame_27 : decode cX9_houseCame 27 = .ok (.if_icmp .eq 5, 3) := by decide +kernel
theorem dX9_houseCame_30 : decode cX9_houseCame 30 = .ok (.iconst 0, 1) := by decide +kernel
theorem dX9_houseCame_31 : decode cX9_houseCame 31 = .ok (.ireturn, 1) := by decide +kernel
theorem dX9_houseCame_32 : decode cX9_houseCame 32 = .ok (.iload_n 2, 1) := by decide +kernel
theorem dX9_houseCame_33 : decode cX9_houseCame 33 = .ok (.iconst 3, 1) := by decide +kernel
theorem dX9_houseCame_34 : decode cX9_houseCame 34 = .ok (.iload_n 3, 1) := by decide +kernel
theorem dX9_houseCame_35 : decode cX9_houseCame 35 = .ok (.imul, 1) := by decide +kernel
theorem dX9_houseCame_36 : decode cX9_houseCame 36 = .ok (.iadd, 1) := by decide +kernel
theorem dX9_houseCame_37 : decode cX9_houseCame 37 = .ok (.istore 5, 2) := by decide +kernel
theorem dX9_houseCame_39 : decode cX9_houseCame 39 = .ok (.aload_n 1, 1) := by decide +kernel
theorem dX9_houseCame_40 : decode cX9_houseCame 40 = .ok (.getfield 307, 3) := by decide +kernel
theorem dX9_houseCame_43 : decode cX9_houseCame 43 = .ok (.iload 5, 2) := by decide +kernel
theorem dX9_houseCame_45 : decode cX9_houseCame 45 = .ok (.laload, 1) := by decide +kernel
theorem dX9_houseCame_46 : decode cX9_houseCame 46 = .ok (.l2i, 1) := by decide +kernel
theorem dX9_houseCame_47 : decode cX9_houseCame 47 = .ok (.istore 6, 2) := by decide +kernel
theorem dX9_houseCame_49 : decode cX9_houseCame 49 = .ok (.aload_n 1, 1) := by decide +kernel
theorem dX9_houseCame_50 : decode cX9_houseCame 50 = .ok (.getfield 307, 3) := by decide +kernel
theorem dX9_houseCame_53 : decode cX9_houseCame 53 = .ok (.iload 5, 2) := by decide +kernel
theorem dX9_houseCame_55 : decode cX9_houseCame 55 = .ok (.iconst 1, 1) := by decide +kernel
theorem dX9_houseCame_56 : decode cX9_houseCame 56 = .ok (.iadd, 1) := by decide +kernel
theorem dX9_houseCame_57 : decode cX9_houseCame 57 = .ok (.laload, 1) := by decide +kernel
theorem dX9_houseCame_58 : decode cX9_houseCame 58 = .ok (.l2i, 1) := by decide +kernel
theorem dX9_houseCame_59 : decode cX9_houseCame 59 = .ok (.istore 7, 2) := by decide +kernel
theorem dX9_houseCame_61 : decode cX9_houseCame 61 = .ok (.aload_n 1, 1) := by decide +kernel
theorem dX9_houseCame_62 : decode cX9_houseCame 62 = .ok (.getfield 307, 3) := by decide +kernel
theorem dX9_houseCame_65 : decode cX9_houseCame 65 = .ok (.iload 5, 2) := by decide +kernel
theorem dX9_houseCame_67 : decode cX9_houseCame 67 = .ok (.iconst 2, 1) := by decide +kernel
theorem dX9_houseCame_68 : decode cX9_houseCame 68 = .ok (.iadd, 1) := by decide +kernel
theorem dX9_houseCame_69 : decode cX9_houseCame 69 = .ok (.laload, 1) := by decide +kernel
theorem dX9_houseCame_70 : decode cX9_houseCame 70 = .ok (.l2i, 1) := by decide +kernel
theorem dX9_houseCame_71 : decode cX9_houseCame 71 = .ok (.istore 8, 2) := by decide +kernel
theorem dX9_houseCame_73 : decode cX9_houseCame 73 = .ok (.iload 6, 2) := by decide +kernel
theorem dX9_houseCame_75 : decode cX9_houseCame 75 = .ok (.getstatic 71, 3) := by decide +kernel
theorem dX9_houseCame_78 : decode cX9_houseCame 78 = .ok (.iconst 3, 1) := by decide +kernel
theorem dX9_houseCame_79 : decode cX9_houseCame 79 = .ok (.iaload, 1) := by decide +kernel
theorem dX9_houseCame_80 : decode cX9_houseCame 80 = .ok (.invokestatic 75, 3) := by decide +kernel
theorem dX9_houseCame_83 : decode cX9_houseCame 83 = .ok (.ifCond .eq 29, 3) := by decide +kernel
theorem dX9_houseCame_86 : decode cX9_houseCame 86 = .ok (.iload 7, 2) := by decide +kernel
theorem dX9_houseCame_88 : decode cX9_houseCame 88 = .ok (.getstatic 71, 3) := by decide +kernel
theorem dX9_houseCame_91 : decode cX9_houseCame 91 = .ok (.iconst 4, 1) := by decide +kernel
theorem dX9_houseCame_92 : decode cX9_houseCame 92 = .ok (.iaload, 1) := by decide +kernel
theorem dX9_houseCame_93 : decode cX9_houseCame 93 = .ok (.invokestatic 75, 3) := by decide +kernel
theorem dX9_houseCame_96 : decode cX9_houseCame 96 = .ok (.ifCond .eq 16, 3) := by decide +kernel
theorem dX9_houseCame_99 : decode cX9_houseCame 99 = .ok (.iload 8, 2) := by decide +kernel
theorem dX9_houseCame_101 : decode cX9_houseCame 101 = .ok (.getstatic 71, 3) := by decide +kernel
theorem dX9_houseCame_104 : decode cX9_houseCame 104 = .ok (.iconst 5, 1) := by decide +kernel
theorem dX9_houseCame_105 : decode cX9_houseCame 105 = .ok (.iaload, 1) := by decide +kernel
theorem dX9_houseCame_106 : decode cX9_houseCame 106 = .ok (.invokestatic 75, 3) := by decide +kernel
theorem dX9_houseCame_109 : decode cX9_houseCame 109 = .ok (.ifCond .ne 5, 3) := by decide +kernel
theorem dX9_houseCame_112 : decode cX9_houseCame 112 = .ok (.iconst 0, 1) := by decide +kernel
theorem dX9_houseCame_113 : decode cX9_houseCame 113 = .ok (.ireturn, 1) := by decide +kernel
theorem dX9_houseCame_114 : decode cX9_houseCame 114 = .ok (.aload_n 0, 1) := by decide +kernel
theorem dX9_houseCame_115 : decode cX9_houseCame 115 = .ok (.getfield 10, 3) := by decide +kernel
theorem dX9_houseCame_118 : decode cX9_houseCame 118 = .ok (.iload 6, 2) := by decide +kernel
theorem dX9_houseCame_120 : decode cX9_houseCame 120 = .ok (.iload 7, 2) := by decide +kernel
theorem dX9_houseCame_122 : decode cX9_houseCame 122 = .ok (.iload 8, 2) := by decide +kernel
theorem dX9_houseCame_124 : decode cX9_houseCame 124 = .ok (.invokevirtual 79, 3) := by decide +kernel
theorem dX9_houseCame_127 : decode cX9_houseCame 127 = .ok (.ifCond .lt 7, 3) := by decide +kernel
theorem dX9_houseCame_130 : decode cX9_houseCame 130 = .ok (.iconst 1, 1) := by decide +kernel
theorem dX9_houseCame_131 : decode cX9_houseCame 131 = .ok (.goto 4, 3) := by decide +kernel
theorem dX9_houseCame_134 : decode cX9_houseCame 134 = .ok (.iconst 0, 1) := by decide +kernel
theorem dX9_houseCame_135 : decode cX9_houseCame 135 = .ok (.ireturn, 1) := by decide +kernel
theorem dX9_refusalOfBytes_0 : decode cX9_refusalOfBytes 0 = .ok (.iload_n 1, 1) := by decide +kernel
theorem dX9_refusalOfBytes_1 : decode cX9_refusalOfBytes 1 = .ok (.ifCond .lt 23, 3) := by decide +kernel
theorem dX9_refusalOfBytes_4 : decode cX9_refusalOfBytes 4 = .ok (.iload_n 1, 1) := by decide +kernel
theorem dX9_refusalOfBytes_5 : decode cX9_refusalOfBytes 5 = .ok (.bipush 100, 2) := by decide +kernel
theorem dX9_refusalOfBytes_7 : decode cX9_refusalOfBytes 7 = .ok (.idiv, 1) := by decide +kernel
theorem dX9_refusalOfBytes_8 : decode cX9_refusalOfBytes 8 = .ok (.invokestatic 83, 3) := by decide +kernel
theorem dX9_refusalOfBytes_11 : decode cX9_refusalOfBytes 11 = .ok (.ifCond .eq 13, 3) := by decide +kernel
theorem dX9_refusalOfBytes_14 : decode cX9_refusalOfBytes 14 = .ok (.iload_n 1, 1) := by decide +kernel
theorem dX9_refusalOfBytes_15 : decode cX9_refusalOfBytes 15 = .ok (.bipush 100, 2) := by decide +kernel
theorem dX9_refusalOfBytes_17 : decode cX9_refusalOfBytes 17 = .ok (.irem, 1) := by decide +kernel
theorem dX9_refusalOfBytes_18 : decode cX9_refusalOfBytes 18 = .ok (.invokestatic 127, 3) := by decide +kernel
theorem dX9_refusalOfBytes_21 : decode cX9_refusalOfBytes 21 = .ok (.ifCond .ne 5, 3) := by decide +kernel
theorem dX9_refusalOfBytes_24 : decode cX9_refusalOfBytes 24 = .ok (.iconst (-1), 1) := by decide +kernel
theorem dX9_refusalOfBytes_25 : decode cX9_refusalOfBytes 25 = .ok (.ireturn, 1) := by decide +kernel
theorem dX9_refusalOfBytes_26 : decode cX9_refusalOfBytes 26 = .ok (.aload_n 0, 1) := by decide +kernel
theorem dX9_refusalOfBytes_27 : decode cX9_refusalOfBytes 27 = .ok (.getfield 55, 3) := by decide +kernel
theorem dX9_refusalOfBytes_30 : decode cX9_refusalOfBytes 30 = .ok (.iload_n 1, 1) := by decide +kernel
theorem dX9_refusalOfBytes_31 : decode cX9_refusalOfBytes 31 = .ok (.bipush 100, 2) := by decide +kernel
theorem dX9_refusalOfBytes_33 : decode cX9_refusalOfBytes 33 = .ok (.idiv, 1) := by decide +kernel
theorem dX9_refusalOfBytes_34 : decode cX9_refusalOfBytes 34 = .ok (.aaload, 1) := by decide +kernel
theorem dX9_refusalOfBytes_35 : decode cX9_refusalOfBytes 35 = .ok (.getfield 87, 3) := by decide +kernel
theorem dX9_refusalOfBytes_38 : decode cX9_refusalOfBytes 38 = .ok (.istore_n 2, 1) := by decide +kernel
theorem dX9_refusalOfBytes_39 : decode cX9_refusalOfBytes 39 = .ok (.iload_n 2, 1) := by decide +kernel
theorem dX9_refusalOfBytes_40 : decode cX9_refusalOfBytes 40 = .ok (.bipush (-2), 2) := by decide +kernel
theorem dX9_refusalOfBytes_42 : decode cX9_refusalOfBytes 42 = .ok (.if_icmp .ne 6, 3) := by decide +kernel
theorem dX9_refusalOfBytes_45 : decode cX9_refusalOfBytes 45 = .ok (.bipush (-11), 2) := by decide +kernel
theorem dX9_refusalOfBytes_47 : decode cX9_refusalOfBytes 47 = .ok (.ireturn, 1) := by decide +kernel
theorem dX9_refusalOfBytes_48 : decode cX9_refusalOfBytes 48 = .ok (.iload_n 2, 1) := by decide +kernel
theorem dX9_refusalOfBytes_49 : decode cX9_refusalOfBytes 49 = .ok (.ifCond .ne 7, 3) := by decide +kernel
theorem dX9_refusalOfBytes_52 : decode cX9_refusalOfBytes 52 = .ok (.iconst 0, 1) := by decide +kernel
theorem dX9_refusalOfBytes_53 : decode cX9_refusalOfBytes 53 = .ok (.goto 5, 3) := by decide +kernel
theorem dX9_refusalOfBytes_56 : decode cX9_refusalOfBytes 56 = .ok (.bipush (-12), 2) := by decide +kernel
theorem dX9_refusalOfBytes_58 : decode cX9_refusalOfBytes 58 = .ok (.ireturn, 1) := by decide +kernel
theorem dX9_refusalOfElement_0 : decode cX9_refusalOfElement 0 = .ok (.iload_n 1, 1) := by decide +kernel
theorem dX9_refusalOfElement_1 : decode cX9_refusalOfElement 1 = .ok (.invokestatic 83, 3) := by decide +kernel
theorem dX9_refusalOfElement_4 : decode cX9_refusalOfElement 4 = .ok (.ifCond .ne 5, 3) := by decide +kernel
theorem dX9_refusalOfElement_7 : decode cX9_refusalOfElement 7 = .ok (.iconst (-1), 1) := by decide +kernel
theorem dX9_refusalOfElement_8 : decode cX9_refusalOfElement 8 = .ok (.ireturn, 1) := by decide +kernel
theorem dX9_refusalOfElement_9 : decode cX9_refusalOfElement 9 = .ok (.aload_n 0, 1) := by decide +kernel
theorem dX9_refusalOfElement_10 : decode cX9_refusalOfElement 10 = .ok (.getfield 55, 3) := by decide +kernel
theorem dX9_refusalOfElement_13 : decode cX9_refusalOfElement 13 = .ok (.iload_n 1, 1) := by decide +kernel
theorem dX9_refusalOfElement_14 : decode cX9_refusalOfElement 14 = .ok (.aaload, 1) := by decide +kernel
theorem dX9_refusalOfElement_15 : decode cX9_refusalOfElement 15 = .ok (.getfield 87, 3) := by decide +kernel
theorem dX9_refusalOfElement_18 : decode cX9_refusalOfElement 18 = .ok (.bipush (-2), 2) := by decide +kernel
theorem dX9_refusalOfElement_20 : decode cX9_refusalOfElement 20 = .ok (.if_icmp .ne 6, 3) := by decide +kernel
theorem dX9_refusalOfElement_23 : decode cX9_refusalOfElement 23 = .ok (.bipush (-11), 2) := by decide +kernel
theorem dX9_refusalOfElement_25 : decode cX9_refusalOfElement 25 = .ok (.ireturn, 1) := by decide +kernel
theorem dX9_refusalOfElement_26 : decode cX9_refusalOfElement 26 = .ok (.aload_n 0, 1) := by decide +kernel
theorem dX9_refusalOfElement_27 : decode cX9_refusalOfElement 27 = .ok (.getfield 55, 3) := by decide +kernel
theorem dX9_refusalOfElement_30 : decode cX9_refusalOfElement 30 = .ok (.iload_n 1, 1) := by decide +kernel
theorem dX9_refusalOfElement_31 : decode cX9_refusalOfElement 31 = .ok (.aaload, 1) := by decide +kernel
theorem dX9_refusalOfElement_32 : decode cX9_refusalOfElement 32 = .ok (.invokevirtual 319, 3) := by decide +kernel
theorem dX9_refusalOfElement_35 : decode cX9_refusalOfElement 35 = .ok (.ifCond .ne 6, 3) := by decide +kernel
theorem dX9_refusalOfElement_38 : decode cX9_refusalOfElement 38 = .ok (.bipush (-12), 2) := by decide +kernel
theorem dX9_refusalOfElement_40 : decode cX9_refusalOfElement 40 = .ok (.ireturn, 1) := by decide +kernel
theorem dX9_refusalOfElement_41 : decode cX9_refusalOfElement 41 = .ok (.aload_n 0, 1) := by decide +kernel
theorem dX9_refusalOfElement_42 : decode cX9_refusalOfElement 42 = .ok (.getfield 55, 3) := by decide +kernel
theorem dX9_refusalOfElement_45 : decode cX9_refusalOfElement 45 = .ok (.iload_n 1, 1) := by decide +kernel
theorem dX9_refusalOfElement_46 : decode cX9_refusalOfElement 46 = .ok (.aaload, 1) := by decide +kernel
theorem dX9_refusalOfElement_47 : decode cX9_refusalOfElement 47 = .ok (.iload_n 2, 1) := by decide +kernel
theorem dX9_refusalOfElement_48 : decode cX9_refusalOfElement 48 = .ok (.iconst 1, 1) := by decide +kernel
theorem dX9_refusalOfElement_49 : decode cX9_refusalOfElement 49 = .ok (.invokevirtual 323, 3) := by decide +kernel
theorem dX9_refusalOfElement_52 : decode cX9_refusalOfElement 52 = .ok (.ifCond .eq 7, 3) := by decide +kernel
theorem dX9_refusalOfElement_55 : decode cX9_refusalOfElement 55 = .ok (.iconst 0, 1) := by decide +kernel
theorem dX9_refusalOfElement_56 : decode cX9_refusalOfElement 56 = .ok (.goto 5, 3) := by decide +kernel
theorem dX9_refusalOfElement_59 : decode cX9_refusalOfElement 59 = .ok (.bipush (-13), 2) := by decide +kernel
theorem dX9_refusalOfElement_61 : decode cX9_refusalOfElement 61 = .ok (.ireturn, 1) := by decide +kernel
end
section
theorem dX10_init_0 : decode cX10_init 0 = .ok (.aload_n 0, 1) := by decide +kernel
theorem dX10_init_1 : decode cX10_init 1 = .ok (.invokespecial 3, 3) := by decide +kernel
theorem dX10_init_4 : decode cX10_init 4 = .ok (.aload_n 0, 1) := by decide +kernel
theorem dX10_init_5 : decode cX10_init 5 = .ok (.bipush 30, 2) := by decide +kernel
theorem dX10_init_7 : decode cX10_init 7 = .ok (.newarray .int, 2) := by decide +kernel
theorem dX10_init_9 : decode cX10_init 9 = .ok (.putfield 9, 3) := by decide +kernel
theorem dX10_init_12 : decode cX10_init 12 = .ok (.aload_n 0, 1) := by decide +kernel
theorem dX10_init_13 : decode cX10_init 13 = .ok (.bipush 30, 2) := by decide +kernel
theorem dX10_init_15 : decode cX10_init 15 = .ok (.newarray .int, 2) := by decide +kernel
theorem dX10_init_17 : decode cX10_init 17 = .ok (.putfield 15, 3) := by decide +kernel
theorem dX10_init_20 : decode cX10_init 20 = .ok (.aload_n 0, 1) := by decide +kernel
theorem dX10_init_21 : decode cX10_init 21 = .ok (.bipush 30, 2) := by decide +kernel
theorem dX10_init_23 : decode cX10_init 23 = .ok (.newarray .int, 2) := by decide +kernel
theorem dX10_init_25 : decode cX10_init 25 = .ok (.putfield 18, 3) := by decide +kernel
theorem dX10_init_28 : decode cX10_init 28 = .ok (.aload_n 0, 1) := by decide +kernel
theorem dX10_init_29 : decode cX10_init 29 = .ok (.bipush 24, 2) := by decide +kernel
theorem dX10_init_31 : decode cX10_init 31 = .ok (.newarray .int, 2) := by decide +kernel
theorem dX10_init_33 : decode cX10_init 33 = .ok (.putfield 21, 3) := by decide +kernel
theorem dX10_init_36 : decode cX10_init 36 = .ok (.aload_n 0, 1) := by decide +kernel
theorem dX10_init_37 : decode cX10_init 37 = .ok (.iconst 2, 1) := by decide +kernel
theorem dX10_init_38 : decode cX10_init 38 = .ok (.newarray .int, 2) := by decide +kernel
theorem dX10_init_40 : decode cX10_init 40 = .ok (.putfield 24, 3) := by decide +kernel
theorem dX10_init_43 : decode cX10_init 43 = .ok (.aload_n 0, 1) := by decide +kernel
theorem dX10_init_44 : decode cX10_init 44 = .ok (.bipush 120, 2) := by decide +kernel
theorem dX10_init_46 : decode cX10_init 46 = .ok (.newarray .int, 2) := by decide +kernel
theorem dX10_init_48 : decode cX10_init 48 = .ok (.putfield 27, 3) := by decide +kernel
theorem dX10_init_51 : decode cX10_init 51 = .ok (.aload_n 0, 1) := by decide +kernel
theorem dX10_init_52 : decode cX10_init 52 = .ok (.bipush 60, 2) := by decide +kernel
theorem dX10_init_54 : decode cX10_init 54 = .ok (.newarray .int, 2) := by decide +kernel
theorem dX10_init_56 : decode cX10_init 56 = .ok (.putfield 30, 3) := by decide +kernel
theorem dX10_init_59 : decode cX10_init 59 = .ok (.aload_n 0, 1) := by decide +kernel
theorem dX10_init_60 : decode cX10_init 60 = .ok (.bipush 60, 2) := by decide +kernel
theorem dX10_init_62 : decode cX10_init 62 = .ok (.newarray .int, 2) := by decide +kernel
theorem dX10_init_64 : decode cX10_init 64 = .ok (.putfield 33, 3) := by decide +kernel
theorem dX10_init_67 : decode cX10_init 67 = .ok (.aload_n 0, 1) := by decide +kernel
theorem dX10_init_68 : decode cX10_init 68 = .ok (.bipush 60, 2) := by decide +kernel
theorem dX10_init_70 : decode cX10_init 70 = .ok (.newarray .int, 2) := by decide +kernel
theorem dX10_init_72 : decode cX10_init 72 = .ok (.putfield 36, 3) := by decide +kernel
theorem dX10_init_75 : decode cX10_init 75 = .ok (.aload_n 0, 1) := by decide +kernel
theorem dX10_init_76 : decode cX10_init 76 = .ok (.sipush 200, 3) := by decide +kernel
theorem dX10_init_79 : decode cX10_init 79 = .ok (.newarray .int, 2) := by decide +kernel
theorem dX10_init_81 : decode cX10_init 81 = .ok (.putfield 39, 3) := by decide +kernel
theorem dX10_init_84 : decode cX10_init 84 = .ok (.aload_n 0, 1) := by decide +kernel
theorem dX10_init_85 : decode cX10_init 85 = .ok (.bipush 61, 2) := by decide +kernel
theorem dX10_init_87 : decode cX10_init 87 = .ok (.newarray .int, 2) := by decide +kernel
theorem dX10_init_89 : decode cX10_init 89 = .ok (.putfield 42, 3) := by decide +kernel
theorem dX10_init_92 : decode cX10_init 92 = .ok (.aload_n 0, 1) := by decide +kernel
theorem dX10_init_93 : decode cX10_init 93 = .ok (.bipush 61, 2) := by decide +kernel
theorem dX10_init_95 : decode cX10_init 95 = .ok (.newarray .int, 2) := by decide +kernel
theorem dX10_init_97 : decode cX10_init 97 = .ok (.putfield 45, 3) := by decide +kernel
theorem dX10_init_100 : decode cX10_init 100 = .ok (.aload_n 0, 1) := by decide +kernel
theorem dX10_init_101 : decode cX10_init 101 = .ok (.bipush 61, 2) := by decide +kernel
theorem dX10_init_103 : decode cX10_init 103 = .ok (.newarray .int, 2) := by decide +kernel
theorem dX10_init_105 : decode cX10_init 105 = .ok (.putfield 48, 3) := by decide +kernel
theorem dX10_init_108 : decode cX10_init 108 = .ok (.aload_n 0, 1) := by decide +kernel
theorem dX10_init_109 : decode cX10_init 109 = .ok (.sipush 200, 3) := by decide +kernel
theorem dX10_init_112 : decode cX10_init 112 = .ok (.newarray .int, 2) := by decide +kernel
theorem dX10_init_114 : decode cX10_init 114 = .ok (.putfield 51, 3) := by decide +kernel
theorem dX10_init_117 : decode cX10_init 117 = .ok (.aload_n 0, 1) := by decide +kernel
theorem dX10_init_118 : decode cX10_init 118 = .ok (.sipush 200, 3) := by decide +kernel
theorem dX10_init_121 : decode cX10_init 121 = .ok (.newarray .int, 2) := by decide +kernel
theorem dX10_init_123 : decode cX10_init 123 = .ok (.putfield 54, 3) := by decide +kernel
theorem dX10_init_126 : decode cX10_init 126 = .ok (.aload_n 0, 1) := by decide +kernel
theorem dX10_init_127 : decode cX10_init 127 = .ok (.bipush 6, 2) := by decide +kernel
theorem dX10_init_129 : decode cX10_init 129 = .ok (.newarray .int, 2) := by decide +kernel
theorem dX10_init_131 : decode cX10_init 131 = .ok (.putfield 57, 3) := by decide +kernel
theorem dX10_init_134 : decode cX10_init 134 = .ok (.aload_n 0, 1) := by decide +kernel
theorem dX10_init_135 : decode cX10_init 135 = .ok (.iconst 5, 1) := by decide +kernel
theorem dX10_init_136 : decode cX10_init 136 = .ok (.newarray .int, 2) := by decide +kernel
theorem dX10_init_138 : decode cX10_init 138 = .ok (.putfield 60, 3) := by decide +kernel
theorem dX10_init_141 : decode cX10_init 141 = .ok (.aload_n 0, 1) := by decide +kernel
theorem dX10_init_142 : decode cX10_init 142 = .ok (.bipush 92, 2) := by decide +kernel
theorem dX10_init_144 : decode cX10_init 144 = .ok (.newarray .int, 2) := by decide +kernel
theorem dX10_init_146 : decode cX10_init 146 = .ok (.putfield 63, 3) := by decide +kernel
theorem dX10_init_149 : decode cX10_init 149 = .ok (.aload_n 0, 1) := by decide +kernel
theorem dX10_init_150 : decode cX10_init 150 = .ok (.iconst 5, 1) := by decide +kernel
theorem dX10_init_151 : decode cX10_init 151 = .ok (.newarray .int, 2) := by decide +kernel
theorem dX10_init_153 : decode cX10_init 153 = .ok (.putfield 66, 3) := by decide +kernel
theorem dX10_init_156 : decode cX10_init 156 = .ok (.aload_n 0, 1) := by decide +kernel
theorem dX10_init_157 : decode cX10_init 157 = .ok (.sipush 160, 3) := by decide +kernel
theorem dX10_init_160 : decode cX10_init 160 = .ok (.newarray .int, 2) := by decide +kernel
theorem dX10_init_162 : decode cX10_init 162 = .ok (.putfield 69, 3) := by decide +kernel
theorem dX10_init_165 : decode cX10_init 165 = .ok (.aload_n 0, 1) := by decide +kernel
theorem dX10_init_166 : decode cX10_init 166 = .ok (.bipush 50, 2) := by decide +kernel
theorem dX10_init_168 : decode cX10_init 168 = .ok (.newarray .int, 2) := by decide +kernel
theorem dX10_init_170 : decode cX10_init 170 = .ok (.putfield 72, 3) := by decide +kernel
theorem dX10_init_173 : decode cX10_init 173 = .ok (.aload_n 0, 1) := by decide +kernel
theorem dX10_init_174 : decode cX10_init 174 = .ok (.bipush 24, 2) := by decide +kernel
theorem dX10_init_176 : decode cX10_init 176 = .ok (.newarray .int, 2) := by decide +kernel
theorem dX10_init_178 : decode cX10_init 178 = .ok (.putfield 75, 3) := by decide +kernel
theorem dX10_init_181 : decode cX10_init 181 = .ok (.aload_n 0, 1) := by decide +kernel
theorem dX10_init_182 : decode cX10_init 182 = .ok (.bipush 6, 2) := by decide +kernel
theorem dX10_init_184 : decode cX10_init 184 = .ok (.newarray .int, 2) := by decide +kernel
theorem dX10_init_186 : decode cX10_init 186 = .ok (.putfield 78, 3) := by decide +kernel
theorem dX10_init_189 : decode cX10_init 189 = .ok (.aload_n 0, 1) := by decide +kernel
theorem dX10_init_190 : decode cX10_init 190 = .ok (.bipush 6, 2) := by decide +kernel
theorem dX10_init_192 : decode cX10_init 192 = .ok (.newarray .int, 2) := by decide +kernel
theorem dX10_init_194 : decode cX10_init 194 = .ok (.putfield 81, 3) := by decide +kernel
theorem dX10_init_197 : decode cX10_init 197 = .ok (.aload_n 0, 1) := by decide +kernel
theorem dX10_init_198 : decode cX10_init 198 = .ok (.sipush 360, 3) := by decide +kernel
theorem dX10_init_201 : decode cX10_init 201 = .ok (.newarray .long, 2) := by decide +kernel
theorem dX10_init_203 : decode cX10_init 203 = .ok (.putfield 84, 3) := by decide +kernel
theorem dX10_init_206 : decode cX10_init 206 = .ok (.aload_n 0, 1) := by decide +kernel
theorem dX10_init_207 : decode cX10_init 207 = .ok (.bipush 92, 2) := by decide +kernel
theorem dX10_init_209 : decode cX10_init 209 = .ok (.newarray .int, 2) := by decide +kernel
theorem dX10_init_211 : decode cX10_init 211 = .ok (.putfield 88, 3) := by decide +kernel
theorem dX10_init_214 : decode cX10_init 214 = .ok (.aload_n 0, 1) := by decide +kernel
theorem dX10_init_215 : decode cX10_init 215 = .ok (.bipush 92, 2) := by decide +kernel
theorem dX10_init_217 : decode cX10_init 217 = .ok (.newarray .int, 2) := by decide +kernel
theorem dX10_init_219 : decode cX10_init 219 = .ok (.putfield 91, 3) := by decide +kernel
theorem dX10_init_222 : decode cX10_init 222 = .ok (.aload_n 0, 1) := by decide +kernel
theorem dX10_init_223 : decode cX10_init 223 = .ok (.iconst 3, 1) := by decide +kernel
theorem dX10_init_224 : decode cX10_init 224 = .ok (.newarray .int, 2) := by decide +kernel
theorem dX10_init_226 : decode cX10_init 226 = .ok (.putfield 94, 3) := by decide +kernel
theorem dX10_init_229 : decode cX10_init 229 = .ok (.aload_n 0, 1) := by decide +kernel
theorem dX10_init_230 : decode cX10_init 230 = .ok (.bipush 30, 2) := by decide +kernel
theorem dX10_init_232 : decode cX10_init 232 = .ok (.newarray .int, 2) := by decide +kernel
theorem dX10_init_234 : decode cX10_init 234 = .ok (.putfield 97, 3) := by decide +kernel
theorem dX10_init_237 : decode cX10_init 237 = .ok (.aload_n 0, 1) := by decide +kernel
theorem dX10_init_238 : decode cX10_init 238 = .ok (.bipush 30, 2) := by decide +kernel
theorem dX10_init_240 : decode cX10_init 240 = .ok (.newarray .int, 2) := by decide +kernel
theorem dX10_init_242 : decode cX10_init 242 = .ok (.putfield 100, 3) := by decide +kernel
theorem dX10_init_245 : decode cX10_init 245 = .ok (.iconst 0, 1) := by decide +kernel
theorem dX10_init_246 : decode cX10_init 246 = .ok (.istore_n 1, 1) := by decide +kernel
theorem dX10_init_247 : decode cX10_init 247 = .ok (.iload_n 1, 1) := by decide +kernel
theorem dX10_init_248 : decode cX10_init 248 = .ok (.bipush 6, 2) := by decide +kernel
theorem dX10_init_250 : decode cX10_init 250 = .ok (.if_icmp .ge 16, 3) := by decide +kernel
theorem dX10_init_253 : decode cX10_init 253 = .ok (.aload_n 0, 1) := by decide +kernel
theorem dX10_init_254 : decode cX10_init 254 = .ok (.getfield 78, 3) := by decide +kernel
theorem dX10_init_257 : decode cX10_init 257 = .ok (.iload_n 1, 1) := by decide +kernel
theorem dX10_init_258 : decode cX10_init 258 = .ok (.iconst (-1), 1) := by decide +kernel
theorem dX10_init_259 : decode cX10_init 259 = .ok (.iastore, 1) := by decide +kernel
theorem dX10_init_260 : decode cX10_init 260 = .ok (.iinc 1 1, 3) := by decide +kernel
theorem dX10_init_263 : decode cX10_init 263 = .ok (.goto (-16), 3) := by decide +kernel
theorem dX10_init_266 : decode cX10_init 266 = .ok (.return_, 1) := by decide +kernel
theorem dX10_within_0 : decode cX10_within 0 = .ok (.iload_n 0, 1) := by decide +kernel
theorem dX10_within_1 : decode cX10_within 1 = .ok (.iload_n 1, 1) := by decide +kernel
theorem dX10_within_2 : decode cX10_within 2 = .ok (.if_icmp .lt 12, 3) := by decide +kernel
theorem dX10_within_5 : decode cX10_within 5 = .ok (.iload_n 0, 1) := by decide +kernel
theorem dX10_within_6 : decode cX10_within 6 = .ok (.iload_n 2, 1) := by decide +kernel
theorem dX10_within_7 : decode cX10_within 7 = .ok (.if_icmp .gt 7, 3) := by decide +kernel
theorem dX10_within_10 : decode cX10_within 10 = .ok (.iconst 1, 1) := by decide +kernel
theorem dX10_within_11 : decode cX10_within 11 = .ok (.goto 4, 3) := by decide +kernel
theorem dX10_within_14 : decode cX10_within 14 = .ok (.iconst 0, 1) := by decide +kernel
theorem dX10_within_15 : decode cX10_within 15 = .ok (.ireturn, 1) := by decide +kernel
theorem dX10_isPlace_0 : decode cX10_isPlace 0 = .ok (.iload_n 0, 1) := by decide +kernel
theorem dX10_isPlace_1 : decode cX10_isPlace 1 = .ok (.iconst 0, 1) := by decide +kernel
theorem dX10_isPlace_2 : decode cX10_isPlace 2 = .ok (.bipush 29, 2) := by decide +kernel
theorem dX10_isPlace_4 : decode cX10_isPlace 4 = .ok (.invokestatic 103, 3) := by decide +kernel
theorem dX10_isPlace_7 : decode cX10_isPlace 7 = .ok (.ireturn, 1) := by decide +kernel
theorem dX10_isHouse_0 : decode cX10_isHouse 0 = .ok (.iload_n 1, 1) := by decide +kernel
theorem dX10_isHouse_1 : decode cX10_isHouse 1 = .ok (.iconst 0, 1) := by decide +kernel
theorem dX10_isHouse_2 : decode cX10_isHouse 2 = .ok (.aload_n 0, 1) := by decide +kernel
theorem dX10_isHouse_3 : decode cX10_isHouse 3 = .ok (.getfield 107, 3) := by decide +kernel
theorem dX10_isHouse_6 : decode cX10_isHouse 6 = .ok (.iconst 1, 1) := by decide +kernel
theorem dX10_isHouse_7 : decode cX10_isHouse 7 = .ok (.isub, 1) := by decide +kernel
theorem dX10_isHouse_8 : decode cX10_isHouse 8 = .ok (.invokestatic 103, 3) := by decide +kernel
theorem dX10_isHouse_11 : decode cX10_isHouse 11 = .ok (.ireturn, 1) := by decide +kernel
theorem dX10_isTime_0 : decode cX10_isTime 0 = .ok (.iload_n 0, 1) := by decide +kernel
theorem dX10_isTime_1 : decode cX10_isTime 1 = .ok (.iconst 0, 1) := by decide +kernel
theorem dX10_isTime_2 : decode cX10_isTime 2 = .ok (.bipush 48, 2) := by decide +kernel
theorem dX10_isTime_4 : decode cX10_isTime 4 = .ok (.invokestatic 103, 3) := by decide +kernel
theorem dX10_isTime_7 : decode cX10_isTime 7 = .ok (.ireturn, 1) := by decide +kernel
theorem dX10_isShelf_0 : decode cX10_isShelf 0 = .ok (.iload_n 0, 1) := by decide +kernel
theorem dX10_isShelf_1 : decode cX10_isShelf 1 = .ok (.iconst 0, 1) := by decide +kernel
theorem dX10_isShelf_2 : decode cX10_isShelf 2 = .ok (.iconst 5, 1) := by decide +kernel
theorem dX10_isShelf_3 : decode cX10_isShelf 3 = .ok (.invokestatic 103, 3) := by decide +kernel
theorem dX10_isShelf_6 : decode cX10_isShelf 6 = .ok (.ireturn, 1) := by decide +kernel
theorem dX10_newHouse_0 : decode cX10_newHouse 0 = .ok (.aload_n 0, 1) := by decide +kernel
theorem dX10_newHouse_1 : decode cX10_newHouse 1 = .ok (.getfield 21, 3) := by decide +kernel
theorem dX10_newHouse_4 : decode cX10_newHouse 4 = .ok (.aload_n 0, 1) := by decide +kernel
theorem dX10_newHouse_5 : decode cX10_newHouse 5 = .ok (.getfield 107, 3) := by decide +kernel
theorem dX10_newHouse_8 : decode cX10_newHouse 8 = .ok (.iload_n 1, 1) := by decide +kernel
theorem dX10_newHouse_9 : decode cX10_newHouse 9 = .ok (.iastore, 1) := by decide +kernel
theorem dX10_newHouse_10 : decode cX10_newHouse 10 = .ok (.aload_n 0, 1) := by decide +kernel
theorem dX10_newHouse_11 : decode cX10_newHouse 11 = .ok (.getfield 21, 3) := by decide +kernel
theorem dX10_newHouse_14 : decode cX10_newHouse 14 = .ok (.bipush 8, 2) := by decide +kernel
theorem dX10_newHouse_16 : decode cX10_newHouse 16 = .ok (.aload_n 0, 1) := by decide +kernel
theorem dX10_newHouse_17 : decode cX10_newHouse 17 = .ok (.getfield 107, 3) := by decide +kernel
theorem dX10_newHouse_20 : decode cX10_newHouse 20 = .ok (.iadd, 1) := by decide +kernel
theorem dX10_newHouse_21 : decode cX10_newHouse 21 = .ok (.iload_n 2, 1) := by decide +kernel
theorem dX10_newHouse_22 : decode cX10_newHouse 22 = .ok (.iastore, 1) := by decide +kernel
theorem dX10_newHouse_23 : decode cX10_newHouse 23 = .ok (.aload_n 0, 1) := by decide +kernel
theorem dX10_newHouse_24 : decode cX10_newHouse 24 = .ok (.getfield 21, 3) := by decide +kernel
theorem dX10_newHouse_27 : decode cX10_newHouse 27 = .ok (.bipush 16, 2) := by decide +kernel
theorem dX10_newHouse_29 : decode cX10_newHouse 29 = .ok (.aload_n 0, 1) := by decide +kernel
theorem dX10_newHouse_30 : decode cX10_newHouse 30 = .ok (.getfield 107, 3) := by decide +kernel
theorem dX10_newHouse_33 : decode cX10_newHouse 33 = .ok (.iadd, 1) := by decide +kernel
theorem dX10_newHouse_34 : decode cX10_newHouse 34 = .ok (.iload_n 3, 1) := by decide +kernel
theorem dX10_newHouse_35 : decode cX10_newHouse 35 = .ok (.iastore, 1) := by decide +kernel
theorem dX10_newHouse_36 : decode cX10_newHouse 36 = .ok (.aload_n 0, 1) := by decide +kernel
theorem dX10_newHouse_37 : decode cX10_newHouse 37 = .ok (.dup, 1) := by decide +kernel
theorem dX10_newHouse_38 : decode cX10_newHouse 38 = .ok (.getfield 107, 3) := by decide +kernel
theorem dX10_newHouse_41 : decode cX10_newHouse 41 = .ok (.dup_x1, 1) := by decide +kernel
theorem dX10_newHouse_42 : decode cX10_newHouse 42 = .ok (.iconst 1, 1) := by decide +kernel
theorem dX10_newHouse_43 : decode cX10_newHouse 43 = .ok (.iadd, 1) := by decide +kernel
theorem dX10_newHouse_44 : decode cX10_newHouse 44 = .ok (.putfield 107, 3) := by decide +kernel
theorem dX10_newHouse_47 : decode cX10_newHouse 47 = .ok (.ireturn, 1) := by decide +kernel
theorem dX10_house_0 : decode cX10_house 0 = .ok (.iload_n 1, 1) := by decide +kernel
theorem dX10_house_1 : decode cX10_house 1 = .ok (.invokestatic 111, 3) := by decide +kernel
theorem dX10_house_4 : decode cX10_house 4 = .ok (.ifCond .eq 13, 3) := by decide +kernel
theorem dX10_house_7 : decode cX10_house 7 = .ok (.iload_n 2, 1) := by decide +kernel
theorem dX10_house_8 : decode cX10_house 8 = .ok (.iconst 0, 1) := by decide +kernel
theorem dX10_house_9 : decode cX10_house 9 = .ok (.bipush 99, 2) := by decide +kernel
theorem dX10_house_11 : decode cX10_house 11 = .ok (.invokestatic 103, 3) := by decide +kernel
theorem dX10_house_14 : decode cX10_house 14 = .ok (.ifCond .ne 5, 3) := by decide +kernel
theorem dX10_house_17 : decode cX10_house 17 = .ok (.iconst (-1), 1) := by decide +kernel
theorem dX10_house_18 : decode cX10_house 18 = .ok (.ireturn, 1) := by decide +kernel
theorem dX10_house_19 : decode cX10_house 19 = .ok (.aload_n 0, 1) := by decide +kernel
theorem dX10_house_20 : decode cX10_house 20 = .ok (.getfield 107, 3) := by decide +kernel
theorem dX10_house_23 : decode cX10_house 23 = .ok (.bipush 8, 2) := by decide +kernel
theorem dX10_house_25 : decode cX10_house 25 = .ok (.if_icmp .ne 8, 3) := by decide +kernel
theorem dX10_house_28 : decode cX10_house 28 = .ok (.bipush (-3), 2) := by decide +kernel
theorem dX10_house_30 : decode cX10_house 30 = .ok (.goto 12, 3) := by decide +kernel
theorem dX10_house_33 : decode cX10_house 33 = .ok (.aload_n 0, 1) := by decide +kernel
theorem dX10_house_34 : decode cX10_house 34 = .ok (.iload_n 1, 1) := by decide +kernel
theorem dX10_house_35 : decode cX10_house 35 = .ok (.iload_n 2, 1) := by decide +kernel
theorem dX10_house_36 : decode cX10_house 36 = .ok (.sipush 4095, 3) := by decide +kernel
theorem dX10_house_39 : decode cX10_house 39 = .ok (.invokevirtual 115, 3) := by decide +kernel
theorem dX10_house_42 : decode cX10_house 42 = .ok (.ireturn, 1) := by decide +kernel
theorem dX10_houses_0 : decode cX10_houses 0 = .ok (.iload_n 1, 1) := by decide +kernel
theorem dX10_houses_1 : decode cX10_houses 1 = .ok (.invokestatic 119, 3) := by decide +kernel
theorem dX10_houses_4 : decode cX10_houses 4 = .ok (.ifCond .eq 13, 3) := by decide +kernel
theorem dX10_houses_7 : decode cX10_houses 7 = .ok (.iload_n 3, 1) := by decide +kernel
theorem dX10_houses_8 : decode cX10_houses 8 = .ok (.iconst 1, 1) := by decide +kernel
theorem dX10_houses_9 : decode cX10_houses 9 = .ok (.bipush 8, 2) := by decide +kernel
theorem dX10_houses_11 : decode cX10_houses 11 = .ok (.invokestatic 103, 3) := by decide +kernel
theorem dX10_houses_14 : decode cX10_houses 14 = .ok (.ifCond .ne 5, 3) := by decide +kernel
theorem dX10_houses_17 : decode cX10_houses 17 = .ok (.iconst (-1), 1) := by decide +kernel
theorem dX10_houses_18 : decode cX10_houses 18 = .ok (.ireturn, 1) := by decide +kernel
theorem dX10_houses_19 : decode cX10_houses 19 = .ok (.aload_n 0, 1) := by decide +kernel
theorem dX10_houses_20 : decode cX10_houses 20 = .ok (.getfield 78, 3) := by decide +kernel
theorem dX10_houses_23 : decode cX10_houses 23 = .ok (.iload_n 1, 1) := by decide +kernel
theorem dX10_houses_24 : decode cX10_houses 24 = .ok (.iaload, 1) := by decide +kernel
theorem dX10_houses_25 : decode cX10_houses 25 = .ok (.iconst (-1), 1) := by decide +kernel
theorem dX10_houses_26 : decode cX10_houses 26 = .ok (.if_icmp .ne 5, 3) := by decide +kernel
theorem dX10_houses_29 : decode cX10_houses 29 = .ok (.iconst 0, 1) := by decide +kernel
theorem dX10_houses_30 : decode cX10_houses 30 = .ok (.ireturn, 1) := by decide +kernel
theorem dX10_houses_31 : decode cX10_houses 31 = .ok (.aload_n 0, 1) := by decide +kernel
theorem dX10_houses_32 : decode cX10_houses 32 = .ok (.getfield 78, 3) := by decide +kernel
theorem dX10_houses_35 : decode cX10_houses 35 = .ok (.iload_n 1, 1) := by decide +kernel
theorem dX10_houses_36 : decode cX10_houses 36 = .ok (.iaload, 1) := by decide +kernel
theorem dX10_houses_37 : decode cX10_houses 37 = .ok (.iconst 1, 1) := by decide +kernel
theorem dX10_houses_38 : decode cX10_houses 38 = .ok (.if_icmp .eq 6, 3) := by decide +kernel
theorem dX10_houses_41 : decode cX10_houses 41 = .ok (.bipush (-12), 2) := by decide +kernel
theorem dX10_houses_43 : decode cX10_houses 43 = .ok (.ireturn, 1) := by decide +kernel
theorem dX10_houses_44 : decode cX10_houses 44 = .ok (.iconst 0, 1) := by decide +kernel
theorem dX10_houses_45 : decode cX10_houses 45 = .ok (.istore 4, 2) := by decide +kernel
theorem dX10_houses_47 : decode cX10_houses 47 = .ok (.iconst 0, 1) := by decide +kernel
theorem dX10_houses_48 : decode cX10_houses 48 = .ok (.istore 5, 2) := by decide +kernel
theorem dX10_houses_50 : decode cX10_houses 50 = .ok (.iload 5, 2) := by decide +kernel
theorem dX10_houses_52 : decode cX10_houses 52 = .ok (.iload_n 3, 1) := by decide +kernel
theorem dX10_houses_53 : decode cX10_houses 53 = .ok (.if_icmp .ge 148, 3) := by decide +kernel
theorem dX10_houses_56 : decode cX10_houses 56 = .ok (.iload_n 2, 1) := by decide +kernel
theorem dX10_houses_57 : decode cX10_houses 57 = .ok (.i2l, 1) := by decide +kernel
theorem dX10_houses_58 : decode cX10_houses 58 = .ok (.ldc2_w 122, 3) := by decide +kernel
theorem dX10_houses_61 : decode cX10_houses 61 = .ok (.iload 5, 2) := by decide +kernel
theorem dX10_houses_63 : decode cX10_houses 63 = .ok (.i2l, 1) := by decide +kernel
theorem dX10_houses_64 : decode cX10_houses 64 = .ok (.lmul, 1) := by decide +kernel
theorem dX10_houses_65 : decode cX10_houses 65 = .ok (.ladd, 1) := by decide +kernel
theorem dX10_houses_66 : decode cX10_houses 66 = .ok (.lstore 6, 2) := by decide +kernel
theorem dX10_houses_68 : decode cX10_houses 68 = .ok (.lload 6, 2) := by decide +kernel
theorem dX10_houses_70 : decode cX10_houses 70 = .ok (.lconst 0, 1) := by decide +kernel
theorem dX10_houses_71 : decode cX10_houses 71 = .ok (.lcmp, 1) := by decide +kernel
theorem dX10_houses_72 : decode cX10_houses 72 = .ok (.ifCond .lt 29, 3) := by decide +kernel
theorem dX10_houses_75 : decode cX10_houses 75 = .ok (.lload 6, 2) := by decide +kernel
theorem dX10_houses_77 : decode cX10_houses 77 = .ok (.ldc2_w 122, 3) := by decide +kernel
theorem dX10_houses_80 : decode cX10_houses 80 = .ok (.ladd, 1) := by decide +kernel
theorem dX10_houses_81 : decode cX10_houses 81 = .ok (.aload_n 0, 1) := by decide +kernel
theorem dX10_houses_82 : decode cX10_houses 82 = .ok (.getfield 81, 3) := by decide +kernel
theorem dX10_houses_85 : decode cX10_houses 85 = .ok (.iload_n 1, 1) := by decide +kernel
theorem dX10_houses_86 : decode cX10_houses 86 = .ok (.iaload, 1) := by decide +kernel
theorem dX10_houses_87 : decode cX10_houses 87 = .ok (.i2l, 1) := by decide +kernel
theorem dX10_houses_88 : decode cX10_houses 88 = .ok (.lcmp, 1) := by decide +kernel
theorem dX10_houses_89 : decode cX10_houses 89 = .ok (.ifCond .gt 12, 3) := by decide +kernel
theorem dX10_houses_92 : decode cX10_houses 92 = .ok (.aload_n 0, 1) := by decide +kernel
theorem dX10_houses_93 : decode cX10_houses 93 = .ok (.getfield 107, 3) := by decide +kernel
theorem dX10_houses_96 : decode cX10_houses 96 = .ok (.bipush 8, 2) := by decide +kernel
theorem dX10_houses_98 : decode cX10_houses 98 = .ok (.if_icmp .ne 6, 3) := by decide +kernel
theorem dX10_houses_101 : decode cX10_houses 101 = .ok (.iload 4, 2) := by decide +kernel
theorem dX10_houses_103 : decode cX10_houses 103 = .ok (.ireturn, 1) := by decide +kernel
theorem dX10_houses_104 : decode cX10_houses 104 = .ok (.lload 6, 2) := by decide +kernel
theorem dX10_houses_106 : decode cX10_houses 106 = .ok (.l2i, 1) := by decide +kernel
theorem dX10_houses_107 : decode cX10_houses 107 = .ok (.istore 8, 2) := by decide +kernel
theorem dX10_houses_109 : decode cX10_houses 109 = .ok (.aload_n 0, 1) := by decide +kernel
theorem dX10_houses_110 : decode cX10_houses 110 = .ok (.iload_n 1, 1) := by decide +kernel
theorem dX10_houses_111 : decode cX10_houses 111 = .ok (.iload 8, 2) := by decide +kernel
theorem dX10_houses_113 : decode cX10_houses 113 = .ok (.invokevirtual 124, 3) := by decide +kernel
theorem dX10_houses_116 : decode cX10_houses 116 = .ok (.invokestatic 111, 3) := by decide +kernel
theorem dX10_houses_119 : decode cX10_houses 119 = .ok (.ifCond .eq 40, 3) := by decide +kernel
theorem dX10_houses_122 : decode cX10_houses 122 = .ok (.aload_n 0, 1) := by decide +kernel
theorem dX10_houses_123 : decode cX10_houses 123 = .ok (.iload_n 1, 1) := by decide +kernel
theorem dX10_houses_124 : decode cX10_houses 124 = .ok (.iload 8, 2) := by decide +kernel
theorem dX10_houses_126 : decode cX10_houses 126 = .ok (.iconst 1, 1) := by decide +kernel
theorem dX10_houses_127 : decode cX10_houses 127 = .ok (.iadd, 1) := by decide +kernel
theorem dX10_houses_128 : decode cX10_houses 128 = .ok (.invokevirtual 124, 3) := by decide +kernel
theorem dX10_houses_131 : decode cX10_houses 131 = .ok (.iconst 0, 1) := by decide +kernel
theorem dX10_houses_132 : decode cX10_houses 132 = .ok (.bipush 99, 2) := by decide +kernel
theorem dX10_houses_134 : decode cX10_houses 134 = .ok (.invokestatic 103, 3) := by decide +kernel
theorem dX10_houses_137 : decode cX10_houses 137 = .ok (.ifCond .eq 22, 3) := by decide +kernel
theorem dX10_houses_140 : decode cX10_houses 140 = .ok (.aload_n 0, 1) := by decide +kernel
theorem dX10_houses_141 : decode cX10_houses 141 = .ok (.iload_n 1, 1) := by decide +kernel
theorem dX10_houses_142 : decode cX10_houses 142 = .ok (.iload 8, 2) := by decide +kernel
theorem dX10_houses_144 : decode cX10_houses 144 = .ok (.iconst 2, 1) := by decide +kernel
theorem dX10_houses_145 : decode cX10_houses 145 = .ok (.iadd, 1) := by decide +kernel
theorem dX10_houses_146 : decode cX10_houses 146 = .ok (.invokevirtual 124, 3) := by decide +kernel
theorem dX10_houses_149 : decode cX10_houses 149 = .ok (.iconst 0, 1) := by decide +kernel
theorem dX10_houses_150 : decode cX10_houses 150 = .ok (.sipush 4095, 3) := by decide +kernel
theorem dX10_houses_153 : decode cX10_houses 153 = .ok (.invokestatic 103, 3) := by decide +kernel
theorem dX10_houses_156 : decode cX10_houses 156 = .ok (.ifCond .ne 6, 3) := by decide +kernel
theorem dX10_houses_159 : decode cX10_houses 159 = .ok (.iload 4, 2) := by decide +kernel
theorem dX10_houses_161 : decode cX10_houses 161 = .ok (.ireturn, 1) := by decide +kernel
theorem dX10_houses_162 : decode cX10_houses 162 = .ok (.aload_n 0, 1) := by decide +kernel
theorem dX10_houses_163 : decode cX10_houses 163 = .ok (.aload_n 0, 1) := by decide +kernel
theorem dX10_houses_164 : decode cX10_houses 164 = .ok (.iload_n 1, 1) := by decide +kernel
theorem dX10_houses_165 : decode cX10_houses 165 = .ok (.iload 8, 2) := by decide +kernel
theorem dX10_houses_167 : decode cX10_houses 167 = .ok (.invokevirtual 124, 3) := by decide +kernel
theorem dX10_houses_170 : decode cX10_houses 170 = .ok (.aload_n 0, 1) := by decide +kernel
theorem dX10_houses_171 : decode cX10_houses 171 = .ok (.iload_n 1, 1) := by decide +kernel
theorem dX10_houses_172 : decode cX10_houses 172 = .ok (.iload 8, 2) := by decide +kernel
theorem dX10_houses_174 : decode cX10_houses 174 = .ok (.iconst 1, 1) := by decide +kernel
theorem dX10_houses_175 : decode cX10_houses 175 = .ok (.iadd, 1) := by decide +kernel
theorem dX10_houses_176 : decode cX10_houses 176 = .ok (.invokevirtual 124, 3) := by decide +kernel
theorem dX10_houses_179 : decode cX10_houses 179 = .ok (.aload_n 0, 1) := by decide +kernel
theorem dX10_houses_180 : decode cX10_houses 180 = .ok (.iload_n 1, 1) := by decide +kernel
theorem dX10_houses_181 : decode cX10_houses 181 = .ok (.iload 8, 2) := by decide +kernel
theorem dX10_houses_183 : decode cX10_houses 183 = .ok (.iconst 2, 1) := by decide +kernel
theorem dX10_houses_184 : decode cX10_houses 184 = .ok (.iadd, 1) := by decide +kernel
theorem dX10_houses_185 : decode cX10_houses 185 = .ok (.invokevirtual 124, 3) := by decide +kernel
theorem dX10_houses_188 : decode cX10_houses 188 = .ok (.invokevirtual 115, 3) := by decide +kernel
theorem dX10_houses_191 : decode cX10_houses 191 = .ok (.pop, 1) := by decide +kernel
theorem dX10_houses_192 : decode cX10_houses 192 = .ok (.iinc 4 1, 3) := by decide +kernel
theorem dX10_houses_195 : decode cX10_houses 195 = .ok (.iinc 5 1, 3) := by decide +kernel
theorem dX10_houses_198 : decode cX10_houses 198 = .ok (.goto (-148), 3) := by decide +kernel
theorem dX10_houses_201 : decode cX10_houses 201 = .ok (.iload 4, 2) := by decide +kernel
theorem dX10_houses_203 : decode cX10_houses 203 = .ok (.ireturn, 1) := by decide +kernel
theorem dX10_toldAt_0 : decode cX10_toldAt 0 = .ok (.aload_n 0, 1) := by decide +kernel
theorem dX10_toldAt_1 : decode cX10_toldAt 1 = .ok (.getfield 84, 3) := by decide +kernel
theorem dX10_toldAt_4 : decode cX10_toldAt 4 = .ok (.bipush 60, 2) := by decide +kernel
theorem dX10_toldAt_6 : decode cX10_toldAt 6 = .ok (.iload_n 1, 1) := by decide +kernel
theorem dX10_toldAt_7 : decode cX10_toldAt 7 = .ok (.imul, 1) := by decide +kernel
theorem dX10_toldAt_8 : decode cX10_toldAt 8 = .ok (.iload_n 2, 1) := by decide +kernel
theorem dX10_toldAt_9 : decode cX10_toldAt 9 = .ok (.iadd, 1) := by decide +kernel
theorem dX10_toldAt_10 : decode cX10_toldAt 10 = .ok (.laload, 1) := by decide +kernel
theorem dX10_toldAt_11 : decode cX10_toldAt 11 = .ok (.l2i, 1) := by decide +kernel
theorem dX10_toldAt_12 : decode cX10_toldAt 12 = .ok (.ireturn, 1) := by decide +kernel
theorem dX10_isOf_0 : decode cX10_isOf 0 = .ok (.iload_n 2, 1) := by decide +kernel
theorem dX10_isOf_1 : decode cX10_isOf 1 = .ok (.iconst 0, 1) := by decide +kernel
theorem dX10_isOf_2 : decode cX10_isOf 2 = .ok (.iconst 2, 1) := by decide +kernel
theorem dX10_isOf_3 : decode cX10_isOf 3 = .ok (.invokestatic 103, 3) := by decide +kernel
theorem dX10_isOf_6 : decode cX10_isOf 6 = .ok (.ifCond .eq 10, 3) := by decide +kernel
theorem dX10_isOf_9 : decode cX10_isOf 9 = .ok (.iload_n 1, 1) := by decide +kernel
theorem dX10_isOf_10 : decode cX10_isOf 10 = .ok (.invokestatic 111, 3) := by decide +kernel
theorem dX10_isOf_13 : decode cX10_isOf 13 = .ok (.goto 40, 3) := by decide +kernel
theorem dX10_isOf_16 : decode cX10_isOf 16 = .ok (.iload_n 2, 1) := by decide +kernel
theorem dX10_isOf_17 : decode cX10_isOf 17 = .ok (.iconst 3, 1) := by decide +kernel
theorem dX10_isOf_18 : decode cX10_isOf 18 = .ok (.iconst 5, 1) := by decide +kernel
theorem dX10_isOf_19 : decode cX10_isOf 19 = .ok (.invokestatic 103, 3) := by decide +kernel
theorem dX10_isOf_22 : decode cX10_isOf 22 = .ok (.ifCond .eq 11, 3) := by decide +kernel
theorem dX10_isOf_25 : decode cX10_isOf 25 = .ok (.aload_n 0, 1) := by decide +kernel
theorem dX10_isOf_26 : decode cX10_isOf 26 = .ok (.iload_n 1, 1) := by decide +kernel
theorem dX10_isOf_27 : decode cX10_isOf 27 = .ok (.invokevirtual 128, 3) := by decide +kernel
theorem dX10_isOf_30 : decode cX10_isOf 30 = .ok (.goto 23, 3) := by decide +kernel
theorem dX10_isOf_33 : decode cX10_isOf 33 = .ok (.iload_n 2, 1) := by decide +kernel
theorem dX10_isOf_34 : decode cX10_isOf 34 = .ok (.bipush 6, 2) := by decide +kernel
theorem dX10_isOf_36 : decode cX10_isOf 36 = .ok (.bipush 7, 2) := by decide +kernel
theorem dX10_isOf_38 : decode cX10_isOf 38 = .ok (.invokestatic 103, 3) := by decide +kernel
theorem dX10_isOf_41 : decode cX10_isOf 41 = .ok (.ifCond .eq 11, 3) := by decide +kernel
theorem dX10_isOf_44 : decode cX10_isOf 44 = .ok (.iload_n 1, 1) := by decide +kernel
theorem dX10_isOf_45 : decode cX10_isOf 45 = .ok (.ifCond .ne 7, 3) := by decide +kernel
theorem dX10_isOf_48 : decode cX10_isOf 48 = .ok (.iconst 1, 1) := by decide +kernel
theorem dX10_isOf_49 : decode cX10_isOf 49 = .ok (.goto 4, 3) := by decide +kernel
theorem dX10_isOf_52 : decode cX10_isOf 52 = .ok (.iconst 0, 1) := by decide +kernel
theorem dX10_isOf_53 : decode cX10_isOf 53 = .ok (.ireturn, 1) := by decide +kernel
theorem dX10_isFit_0 : decode cX10_isFit 0 = .ok (.iload_n 0, 1) := by decide +kernel
theorem dX10_isFit_1 : decode cX10_isFit 1 = .ok (.tableswitch 92 0 7 #[47, 54, 62, 70, 75, 83, 92, 62], 47) := by decide +kernel
theorem dX10_isFit_48 : decode cX10_isFit 48 = .ok (.iload_n 1, 1) := by decide +kernel
theorem dX10_isFit_49 : decode cX10_isFit 49 = .ok (.iconst 0, 1) := by decide +kernel
theorem dX10_isFit_50 : decode cX10_isFit 50 = .ok (.iconst 4, 1) := by decide +kernel
theorem dX10_isFit_51 : decode cX10_isFit 51 = .ok (.invokestatic 103, 3) := by decide +kernel
theorem dX10_isFit_54 : decode cX10_isFit 54 = .ok (.ireturn, 1) := by decide +kernel
theorem dX10_isFit_55 : decode cX10_isFit 55 = .ok (.iload_n 1, 1) := by decide +kernel
theorem dX10_isFit_56 : decode cX10_isFit 56 = .ok (.iconst 0, 1) := by decide +kernel
theorem dX10_isFit_57 : decode cX10_isFit 57 = .ok (.bipush 9, 2) := by decide +kernel
theorem dX10_isFit_59 : decode cX10_isFit 59 = .ok (.invokestatic 103, 3) := by decide +kernel
theorem dX10_isFit_62 : decode cX10_isFit 62 = .ok (.ireturn, 1) := by decide +kernel
theorem dX10_isFit_63 : decode cX10_isFit 63 = .ok (.iload_n 1, 1) := by decide +kernel
theorem dX10_isFit_64 : decode cX10_isFit 64 = .ok (.iconst 0, 1) := by decide +kernel
theorem dX10_isFit_65 : decode cX10_isFit 65 = .ok (.bipush 12, 2) := by decide +kernel
theorem dX10_isFit_67 : decode cX10_isFit 67 = .ok (.invokestatic 103, 3) := by decide +kernel
theorem dX10_isFit_70 : decode cX10_isFit 70 = .ok (.ireturn, 1) := by decide +kernel
theorem dX10_isFit_71 : decode cX10_isFit 71 = .ok (.iload_n 1, 1) := by decide +kernel
theorem dX10_isFit_72 : decode cX10_isFit 72 = .ok (.invokestatic 111, 3) := by decide +kernel
theorem dX10_isFit_75 : decode cX10_isFit 75 = .ok (.ireturn, 1) := by decide +kernel
theorem dX10_isFit_76 : decode cX10_isFit 76 = .ok (.iload_n 1, 1) := by decide +kernel
theorem dX10_isFit_77 : decode cX10_isFit 77 = .ok (.iconst 0, 1) := by decide +kernel
theorem dX10_isFit_78 : decode cX10_isFit 78 = .ok (.bipush 99, 2) := by decide +kernel
theorem dX10_isFit_80 : decode cX10_isFit 80 = .ok (.invokestatic 103, 3) := by decide +kernel
theorem dX10_isFit_83 : decode cX10_isFit 83 = .ok (.ireturn, 1) := by decide +kernel
theorem dX10_isFit_84 : decode cX10_isFit 84 = .ok (.iload_n 1, 1) := by decide +kernel
theorem dX10_isFit_85 : decode cX10_isFit 85 = .ok (.iconst 0, 1) := by decide +kernel
theorem dX10_isFit_86 : decode cX10_isFit 86 = .ok (.sipush 4095, 3) := by decide +kernel
theorem dX10_isFit_89 : decode cX10_isFit 89 = .ok (.invokestatic 103, 3) := by decide +kernel
theorem dX10_isFit_92 : decode cX10_isFit 92 = .ok (.ireturn, 1) := by decide +kernel
theorem dX10_isFit_93 : decode cX10_isFit 93 = .ok (.iload_n 1, 1) := by decide +kernel
theorem dX10_isFit_94 : decode cX10_isFit 94 = .ok (.iconst 0, 1) := by decide +kernel
theorem dX10_isFit_95 : decode cX10_isFit 95 = .ok (.bipush 11, 2) := by decide +kernel
theorem dX10_isFit_97 : decode cX10_isFit 97 = .ok (.invokestatic 103, 3) := by decide +kernel
theorem dX10_isFit_100 : decode cX10_isFit 100 = .ok (.ireturn, 1) := by decide +kernel
theorem dX10_get_0 : decode cX10_get 0 = .ok (.iload_n 2, 1) := by decide +kernel
theorem dX10_get_1 : decode cX10_get 1 = .ok (.tableswitch 74 0 5 #[39, 46, 53, 60, 60, 60], 39) := by decide +kernel
theorem dX10_get_40 : decode cX10_get 40 = .ok (.aload_n 0, 1) := by decide +kernel
theorem dX10_get_41 : decode cX10_get 41 = .ok (.getfield 9, 3) := by decide +kernel
theorem dX10_get_44 : decode cX10_get 44 = .ok (.iload_n 1, 1) := by decide +kernel
theorem dX10_get_45 : decode cX10_get 45 = .ok (.iaload, 1) := by decide +kernel
theorem dX10_get_46 : decode cX10_get 46 = .ok (.ireturn, 1) := by decide +kernel
theorem dX10_get_47 : decode cX10_get 47 = .ok (.aload_n 0, 1) := by decide +kernel
theorem dX10_get_48 : decode cX10_get 48 = .ok (.getfield 15, 3) := by decide +kernel
theorem dX10_get_51 : decode cX10_get 51 = .ok (.iload_n 1, 1) := by decide +kernel
theorem dX10_get_52 : decode cX10_get 52 = .ok (.iaload, 1) := by decide +kernel
theorem dX10_get_53 : decode cX10_get 53 = .ok (.ireturn, 1) := by decide +kernel
theorem dX10_get_54 : decode cX10_get 54 = .ok (.aload_n 0, 1) := by decide +kernel
theorem dX10_get_55 : decode cX10_get 55 = .ok (.getfield 18, 3) := by decide +kernel
theorem dX10_get_58 : decode cX10_get 58 = .ok (.iload_n 1, 1) := by decide +kernel
theorem dX10_get_59 : decode cX10_get 59 = .ok (.iaload, 1) := by decide +kernel
theorem dX10_get_60 : decode cX10_get 60 = .ok (.ireturn, 1) := by decide +kernel
theorem dX10_get_61 : decode cX10_get 61 = .ok (.aload_n 0, 1) := by decide +kernel
theorem dX10_get_62 : decode cX10_get 62 = .ok (.getfield 21, 3) := by decide +kernel
theorem dX10_get_65 : decode cX10_get 65 = .ok (.bipush 8, 2) := by decide +kernel
theorem dX10_get_67 : decode cX10_get 67 = .ok (.iload_n 2, 1) := by decide +kernel
theorem dX10_get_68 : decode cX10_get 68 = .ok (.iconst 3, 1) := by decide +kernel
theorem dX10_get_69 : decode cX10_get 69 = .ok (.isub, 1) := by decide +kernel
theorem dX10_get_70 : decode cX10_get 70 = .ok (.imul, 1) := by decide +kernel
theorem dX10_get_71 : decode cX10_get 71 = .ok (.iload_n 1, 1) := by decide +kernel
theorem dX10_get_72 : decode cX10_get 72 = .ok (.iadd, 1) := by decide +kernel
theorem dX10_get_73 : decode cX10_get 73 = .ok (.iaload, 1) := by decide +kernel
theorem dX10_get_74 : decode cX10_get 74 = .ok (.ireturn, 1) := by decide +kernel
theorem dX10_get_75 : decode cX10_get 75 = .ok (.aload_n 0, 1) := by decide +kernel
theorem dX10_get_76 : decode cX10_get 76 = .ok (.getfield 24, 3) := by decide +kernel
theorem dX10_get_79 : decode cX10_get 79 = .ok (.iload_n 2, 1) := by decide +kernel
theorem dX10_get_80 : decode cX10_get 80 = .ok (.bipush 6, 2) := by decide +kernel
theorem dX10_get_82 : decode cX10_get 82 = .ok (.isub, 1) := by decide +kernel
theorem dX10_get_83 : decode cX10_get 83 = .ok (.iaload, 1) := by decide +kernel
theorem dX10_get_84 : decode cX10_get 84 = .ok (.ireturn, 1) := by decide +kernel
theorem dX10_becomes_0 : decode cX10_becomes 0 = .ok (.iload_n 2, 1) := by decide +kernel
theorem dX10_becomes_1 : decode cX10_becomes 1 = .ok (.tableswitch 78 0 5 #[39, 47, 55, 63, 63, 63], 39) := by decide +kernel
theorem dX10_becomes_40 : decode cX10_becomes 40 = .ok (.aload_n 0, 1) := by decide +kernel
theorem dX10_becomes_41 : decode cX10_becomes 41 = .ok (.getfield 9, 3) := by decide +kernel
theorem dX10_becomes_44 : decode cX10_becomes 44 = .ok (.iload_n 1, 1) := by decide +kernel
theorem dX10_becomes_45 : decode cX10_becomes 45 = .ok (.iload_n 3, 1) := by decide +kernel
theorem dX10_becomes_46 : decode cX10_becomes 46 = .ok (.iastore, 1) := by decide +kernel
theorem dX10_becomes_47 : decode cX10_becomes 47 = .ok (.return_, 1) := by decide +kernel
theorem dX10_becomes_48 : decode cX10_becomes 48 = .ok (.aload_n 0, 1) := by decide +kernel
theorem dX10_becomes_49 : decode cX10_becomes 49 = .ok (.getfield 15, 3) := by decide +kernel
theorem dX10_becomes_52 : decode cX10_becomes 52 = .ok (.iload_n 1, 1) := by decide +kernel
theorem dX10_becomes_53 : decode cX10_becomes 53 = .ok (.iload_n 3, 1) := by decide +kernel
theorem dX10_becomes_54 : decode cX10_becomes 54 = .ok (.iastore, 1) := by decide +kernel
theorem dX10_becomes_55 : decode cX10_becomes 55 = .ok (.return_, 1) := by decide +kernel
theorem dX10_becomes_56 : decode cX10_becomes 56 = .ok (.aload_n 0, 1) := by decide +kernel
theorem dX10_becomes_57 : decode cX10_becomes 57 = .ok (.getfield 18, 3) := by decide +kernel
theorem dX10_becomes_60 : decode cX10_becomes 60 = .ok (.iload_n 1, 1) := by decide +kernel
theorem dX10_becomes_61 : decode cX10_becomes 61 = .ok (.iload_n 3, 1) := by decide +kernel
theorem dX10_becomes_62 : decode cX10_becomes 62 = .ok (.iastore, 1) := by decide +kernel
theorem dX10_becomes_63 : decode cX10_becomes 63 = .ok (.return_, 1) := by decide +kernel
theorem dX10_becomes_64 : decode cX10_becomes 64 = .ok (.aload_n 0, 1) := by decide +kernel
theorem dX10_becomes_65 : decode cX10_becomes 65 = .ok (.getfield 21, 3) := by decide +kernel
theorem dX10_becomes_68 : decode cX10_becomes 68 = .ok (.bipush 8, 2) := by decide +kernel
theorem dX10_becomes_70 : decode cX10_becomes 70 = .ok (.iload_n 2, 1) := by decide +kernel
theorem dX10_becomes_71 : decode cX10_becomes 71 = .ok (.iconst 3, 1) := by decide +kernel
theorem dX10_becomes_72 : decode cX10_becomes 72 = .ok (.isub, 1) := by decide +kernel
theorem dX10_becomes_73 : decode cX10_becomes 73 = .ok (.imul, 1) := by decide +kernel
theorem dX10_becomes_74 : decode cX10_becomes 74 = .ok (.iload_n 1, 1) := by decide +kernel
theorem dX10_becomes_75 : decode cX10_becomes 75 = .ok (.iadd, 1) := by decide +kernel
theorem dX10_becomes_76 : decode cX10_becomes 76 = .ok (.iload_n 3, 1) := by decide +kernel
theorem dX10_becomes_77 : decode cX10_becomes 77 = .ok (.iastore, 1) := by decide +kernel
theorem dX10_becomes_78 : decode cX10_becomes 78 = .ok (.return_, 1) := by decide +kernel
theorem dX10_becomes_79 : decode cX10_becomes 79 = .ok (.aload_n 0, 1) := by decide +kernel
theorem dX10_becomes_80 : decode cX10_becomes 80 = .ok (.getfield 24, 3) := by decide +kernel
theorem dX10_becomes_83 : decode cX10_becomes 83 = .ok (.iload_n 2, 1) := by decide +kernel
theorem dX10_becomes_84 : decode cX10_becomes 84 = .ok (.bipush 6, 2) := by decide +kernel
theorem dX10_becomes_86 : decode cX10_becomes 86 = .ok (.isub, 1) := by decide +kernel
theorem dX10_becomes_87 : decode cX10_becomes 87 = .ok (.iload_n 3, 1) := by decide +kernel
theorem dX10_becomes_88 : decode cX10_becomes 88 = .ok (.iastore, 1) := by decide +kernel
theorem dX10_becomes_89 : decode cX10_becomes 89 = .ok (.return_, 1) := by decide +kernel
theorem dX10_mend_0 : decode cX10_mend 0 = .ok (.aload_n 0, 1) := by decide +kernel
theorem dX10_mend_1 : decode cX10_mend 1 = .ok (.iload_n 1, 1) := by decide +kernel
theorem dX10_mend_2 : decode cX10_mend 2 = .ok (.iload_n 2, 1) := by decide +kernel
theorem dX10_mend_3 : decode cX10_mend 3 = .ok (.invokevirtual 131, 3) := by decide +kernel
theorem dX10_mend_6 : decode cX10_mend 6 = .ok (.ifCond .eq 11, 3) := by decide +kernel
theorem dX10_mend_9 : decode cX10_mend 9 = .ok (.iload_n 2, 1) := by decide +kernel
theorem dX10_mend_10 : decode cX10_mend 10 = .ok (.iload_n 3, 1) := by decide +kernel
theorem dX10_mend_11 : decode cX10_mend 11 = .ok (.invokestatic 135, 3) := by decide +kernel
theorem dX10_mend_14 : decode cX10_mend 14 = .ok (.ifCond .ne 5, 3) := by decide +kernel
theorem dX10_mend_17 : decode cX10_mend 17 = .ok (.iconst (-1), 1) := by decide +kernel
theorem dX10_mend_18 : decode cX10_mend 18 = .ok (.ireturn, 1) := by decide +kernel
theorem dX10_mend_19 : decode cX10_mend 19 = .ok (.aload_n 0, 1) := by decide +kernel
theorem dX10_mend_20 : decode cX10_mend 20 = .ok (.iload_n 1, 1) := by decide +kernel
theorem dX10_mend_21 : decode cX10_mend 21 = .ok (.iload_n 2, 1) := by decide +kernel
theorem dX10_mend_22 : decode cX10_mend 22 = .ok (.invokevirtual 138, 3) := by decide +kernel
theorem dX10_mend_25 : decode cX10_mend 25 = .ok (.istore 4, 2) := by decide +kernel
theorem dX10_mend_27 : decode cX10_mend 27 = .ok (.iload 4, 2) := by decide +kernel
theorem dX10_mend_29 : decode cX10_mend 29 = .ok (.iload_n 3, 1) := by decide +kernel
theorem dX10_mend_30 : decode cX10_mend 30 = .ok (.if_icmp .ne 6, 3) := by decide +kernel
theorem dX10_mend_33 : decode cX10_mend 33 = .ok (.iload 4, 2) := by decide +kernel
theorem dX10_mend_35 : decode cX10_mend 35 = .ok (.ireturn, 1) := by decide +kernel
theorem dX10_mend_36 : decode cX10_mend 36 = .ok (.aload_n 0, 1) := by decide +kernel
theorem dX10_mend_37 : decode cX10_mend 37 = .ok (.iload_n 1, 1) := by decide +kernel
theorem dX10_mend_38 : decode cX10_mend 38 = .ok (.iload_n 2, 1) := by decide +kernel
theorem dX10_mend_39 : decode cX10_mend 39 = .ok (.iload_n 3, 1) := by decide +kernel
theorem dX10_mend_40 : decode cX10_mend 40 = .ok (.invokevirtual 141, 3) := by decide +kernel
theorem dX10_mend_43 : decode cX10_mend 43 = .ok (.aload_n 0, 1) := by decide +kernel
theorem dX10_mend_44 : decode cX10_mend 44 = .ok (.getfield 145, 3) := by decide +kernel
theorem dX10_mend_47 : decode cX10_mend 47 = .ok (.bipush 40, 2) := by decide +kernel
theorem dX10_mend_49 : decode cX10_mend 49 = .ok (.if_icmp .ne 46, 3) := by decide +kernel
theorem dX10_mend_52 : decode cX10_mend 52 = .ok (.iconst 0, 1) := by decide +kernel
theorem dX10_mend_53 : decode cX10_mend 53 = .ok (.istore 5, 2) := by decide +kernel
theorem dX10_mend_55 : decode cX10_mend 55 = .ok (.iload 5, 2) := by decide +kernel
theorem dX10_mend_57 : decode cX10_mend 57 = .ok (.sipush 156, 3) := by decide +kernel
theorem dX10_mend_60 : decode cX10_mend 60 = .ok (.if_icmp .ge 25, 3) := by decide +kernel
theorem dX10_mend_63 : decode cX10_mend 63 = .ok (.aload_n 0, 1) := by decide +kernel
theorem dX10_mend_64 : decode cX10_mend 64 = .ok (.getfield 69, 3) := by decide +kernel
theorem dX10_mend_67 : decode cX10_mend 67 = .ok (.iload 5, 2) := by decide +kernel
theorem dX10_mend_69 : decode cX10_mend 69 = .ok (.aload_n 0, 1) := by decide +kernel
theorem dX10_mend_70 : decode cX10_mend 70 = .ok (.getfield 69, 3) := by decide +kernel
theorem dX10_mend_73 : decode cX10_mend 73 = .ok (.iload 5, 2) := by decide +kernel
theorem dX10_mend_75 : decode cX10_mend 75 = .ok (.iconst 4, 1) := by decide +kernel
theorem dX10_mend_76 : decode cX10_mend 76 = .ok (.iadd, 1) := by decide +kernel
theorem dX10_mend_77 : decode cX10_mend 77 = .ok (.iaload, 1) := by decide +kernel
theorem dX10_mend_78 : decode cX10_mend 78 = .ok (.iastore, 1) := by decide +kernel
theorem dX10_mend_79 : decode cX10_mend 79 = .ok (.iinc 5 1, 3) := by decide +kernel
theorem dX10_mend_82 : decode cX10_mend 82 = .ok (.goto (-27), 3) := by decide +kernel
theorem dX10_mend_85 : decode cX10_mend 85 = .ok (.aload_n 0, 1) := by decide +kernel
theorem dX10_mend_86 : decode cX10_mend 86 = .ok (.dup, 1) := by decide +kernel
theorem dX10_mend_87 : decode cX10_mend 87 = .ok (.getfield 145, 3) := by decide +kernel
theorem dX10_mend_90 : decode cX10_mend 90 = .ok (.iconst 1, 1) := by decide +kernel
theorem dX10_mend_91 : decode cX10_mend 91 = .ok (.isub, 1) := by decide +kernel
theorem dX10_mend_92 : decode cX10_mend 92 = .ok (.putfield 145, 3) := by decide +kernel
theorem dX10_mend_95 : decode cX10_mend 95 = .ok (.aload_n 0, 1) := by decide +kernel
theorem dX10_mend_96 : decode cX10_mend 96 = .ok (.getfield 69, 3) := by decide +kernel
theorem dX10_mend_99 : decode cX10_mend 99 = .ok (.iconst 4, 1) := by decide +kernel
theorem dX10_mend_100 : decode cX10_mend 100 = .ok (.aload_n 0, 1) := by decide +kernel
theorem dX10_mend_101 : decode cX10_mend 101 = .ok (.getfield 145, 3) := by decide +kernel
theorem dX10_mend_104 : decode cX10_mend 104 = .ok (.imul, 1) := by decide +kernel
theorem dX10_mend_105 : decode cX10_mend 105 = .ok (.iload_n 1, 1) := by decide +kernel
theorem dX10_mend_106 : decode cX10_mend 106 = .ok (.iastore, 1) := by decide +kernel
theorem dX10_mend_107 : decode cX10_mend 107 = .ok (.aload_n 0, 1) := by decide +kernel
theorem dX10_mend_108 : decode cX10_mend 108 = .ok (.getfield 69, 3) := by decide +kernel
theorem dX10_mend_111 : decode cX10_mend 111 = .ok (.iconst 4, 1) := by decide +kernel
theorem dX10_mend_112 : decode cX10_mend 112 = .ok (.aload_n 0, 1) := by decide +kernel
theorem dX10_mend_113 : decode cX10_mend 113 = .ok (.getfield 145, 3) := by decide +kernel
theorem dX10_mend_116 : decode cX10_mend 116 = .ok (.imul, 1) := by decide +kernel
theorem dX10_mend_117 : decode cX10_mend 117 = .ok (.iconst 1, 1) := by decide +kernel
theorem dX10_mend_118 : decode cX10_mend 118 = .ok (.iadd, 1) := by decide +kernel
theorem dX10_mend_119 : decode cX10_mend 119 = .ok (.iload_n 2, 1) := by decide +kernel
theorem dX10_mend_120 : decode cX10_mend 120 = .ok (.iastore, 1) := by decide +kernel
theorem dX10_mend_121 : decode cX10_mend 121 = .ok (.aload_n 0, 1) := by decide +kernel
theorem dX10_mend_122 : decode cX10_mend 122 = .ok (.getfield 69, 3) := by decide +kernel
theorem dX10_mend_125 : decode cX10_mend 125 = .ok (.iconst 4, 1) := by decide +kernel
theorem dX10_mend_126 : decode cX10_mend 126 = .ok (.aload_n 0, 1) := by decide +kernel
theorem dX10_mend_127 : decode cX10_mend 127 = .ok (.getfield 145, 3) := by decide +kernel
theorem dX10_mend_130 : decode cX10_mend 130 = .ok (.imul, 1) := by decide +kernel
theorem dX10_mend_131 : decode cX10_mend 131 = .ok (.iconst 2, 1) := by decide +kernel
theorem dX10_mend_132 : decode cX10_mend 132 = .ok (.iadd, 1) := by decide +kernel
theorem dX10_mend_133 : decode cX10_mend 133 = .ok (.iload 4, 2) := by decide +kernel
theorem dX10_mend_135 : decode cX10_mend 135 = .ok (.iastore, 1) := by decide +kernel
theorem dX10_mend_136 : decode cX10_mend 136 = .ok (.aload_n 0, 1) := by decide +kernel
theorem dX10_mend_137 : decode cX10_mend 137 = .ok (.getfield 69, 3) := by decide +kernel
theorem dX10_mend_140 : decode cX10_mend 140 = .ok (.iconst 4, 1) := by decide +kernel
theorem dX10_mend_141 : decode cX10_mend 141 = .ok (.aload_n 0, 1) := by decide +kernel
theorem dX10_mend_142 : decode cX10_mend 142 = .ok (.getfield 145, 3) := by decide +kernel
theorem dX10_mend_145 : decode cX10_mend 145 = .ok (.imul, 1) := by decide +kernel
theorem dX10_mend_146 : decode cX10_mend 146 = .ok (.iconst 3, 1) := by decide +kernel
theorem dX10_mend_147 : decode cX10_mend 147 = .ok (.iadd, 1) := by decide +kernel
theorem dX10_mend_148 : decode cX10_mend 148 = .ok (.iload_n 3, 1) := by decide +kernel
theorem dX10_mend_149 : decode cX10_mend 149 = .ok (.iastore, 1) := by decide +kernel
theorem dX10_mend_150 : decode cX10_mend 150 = .ok (.aload_n 0, 1) := by decide +kernel
theorem dX10_mend_151 : decode cX10_mend 151 = .ok (.dup, 1) := by decide +kernel
theorem dX10_mend_152 : decode cX10_mend 152 = .ok (.getfield 145, 3) := by decide +kernel
theorem dX10_mend_155 : decode cX10_mend 155 = .ok (.iconst 1, 1) := by decide +kernel
theorem dX10_mend_156 : decode cX10_mend 156 = .ok (.iadd, 1) := by decide +kernel
theorem dX10_mend_157 : decode cX10_mend 157 = .ok (.putfield 145, 3) := by decide +kernel
theorem dX10_mend_160 : decode cX10_mend 160 = .ok (.aload_n 0, 1) := by decide +kernel
theorem dX10_mend_161 : decode cX10_mend 161 = .ok (.aload_n 0, 1) := by decide +kernel
theorem dX10_mend_162 : decode cX10_mend 162 = .ok (.getfield 145, 3) := by decide +kernel
theorem dX10_mend_165 : decode cX10_mend 165 = .ok (.putfield 148, 3) := by decide +kernel
theorem dX10_mend_168 : decode cX10_mend 168 = .ok (.iload 4, 2) := by decide +kernel
theorem dX10_mend_170 : decode cX10_mend 170 = .ok (.ireturn, 1) := by decide +kernel
theorem dX10_of_0 : decode cX10_of 0 = .ok (.aload_n 0, 1) := by decide +kernel
theorem dX10_of_1 : decode cX10_of 1 = .ok (.iload_n 1, 1) := by decide +kernel
theorem dX10_of_2 : decode cX10_of 2 = .ok (.iload_n 2, 1) := by decide +kernel
theorem dX10_of_3 : decode cX10_of 3 = .ok (.invokevirtual 131, 3) := by decide +kernel
theorem dX10_of_6 : decode cX10_of 6 = .ok (.ifCond .eq 12, 3) := by decide +kernel
theorem dX10_of_9 : decode cX10_of 9 = .ok (.aload_n 0, 1) := by decide +kernel
theorem dX10_of_10 : decode cX10_of 10 = .ok (.iload_n 1, 1) := by decide +kernel
theorem dX10_of_11 : decode cX10_of 11 = .ok (.iload_n 2, 1) := by decide +kernel
theorem dX10_of_12 : decode cX10_of 12 = .ok (.invokevirtual 138, 3) := by decide +kernel
theorem dX10_of_15 : decode cX10_of 15 = .ok (.goto 4, 3) := by decide +kernel
theorem dX10_of_18 : decode cX10_of 18 = .ok (.iconst (-1), 1) := by decide +kernel
theorem dX10_of_19 : decode cX10_of 19 = .ok (.ireturn, 1) := by decide +kernel
theorem dX10_undo_0 : decode cX10_undo 0 = .ok (.aload_n 0, 1) := by decide +kernel
theorem dX10_undo_1 : decode cX10_undo 1 = .ok (.getfield 145, 3) := by decide +kernel
theorem dX10_undo_4 : decode cX10_undo 4 = .ok (.ifCond .ne 6, 3) := by decide +kernel
theorem dX10_undo_7 : decode cX10_undo 7 = .ok (.bipush (-5), 2) := by decide +kernel
theorem dX10_undo_9 : decode cX10_undo 9 = .ok (.ireturn, 1) := by decide +kernel
theorem dX10_undo_10 : decode cX10_undo 10 = .ok (.aload_n 0, 1) := by decide +kernel
theorem dX10_undo_11 : decode cX10_undo 11 = .ok (.dup, 1) := by decide +kernel
theorem dX10_undo_12 : decode cX10_undo 12 = .ok (.getfield 145, 3) := by decide +kernel
theorem dX10_undo_15 : decode cX10_undo 15 = .ok (.iconst 1, 1) := by decide +kernel
theorem dX10_undo_16 : decode cX10_undo 16 = .ok (.isub, 1) := by decide +kernel
theorem dX10_undo_17 : decode cX10_undo 17 = .ok (.putfield 145, 3) := by decide +kernel
theorem dX10_undo_20 : decode cX10_undo 20 = .ok (.aload_n 0, 1) := by decide +kernel
theorem dX10_undo_21 : decode cX10_undo 21 = .ok (.aload_n 0, 1) := by decide +kernel
theorem dX10_undo_22 : decode cX10_undo 22 = .ok (.getfield 69, 3) := by decide +kernel
theorem dX10_undo_25 : decode cX10_undo 25 = .ok (.iconst 4, 1) := by decide +kernel
theorem dX10_undo_26 : decode cX10_undo 26 = .ok (.aload_n 0, 1) := by decide +kernel
theorem dX10_undo_27 : decode cX10_undo 27 = .ok (.getfield 145, 3) := by decide +kernel
theorem dX10_undo_30 : decode cX10_undo 30 = .ok (.imul, 1) := by decide +kernel
theorem dX10_undo_31 : decode cX10_undo 31 = .ok (.iaload, 1) := by decide +kernel
theorem dX10_undo_32 : decode cX10_undo 32 = .ok (.aload_n 0, 1) := by decide +kernel
theorem dX10_undo_33 : decode cX10_undo 33 = .ok (.getfield 69, 3) := by decide +kernel
theorem dX10_undo_36 : decode cX10_undo 36 = .ok (.iconst 4, 1) := by decide +kernel
theorem dX10_undo_37 : decode cX10_undo 37 = .ok (.aload_n 0, 1) := by decide +kernel
theorem dX10_undo_38 : decode cX10_undo 38 = .ok (.getfield 145, 3) := by decide +kernel
theorem dX10_undo_41 : decode cX10_undo 41 = .ok (.imul, 1) := by decide +kernel
theorem dX10_undo_42 : decode cX10_undo 42 = .ok (.iconst 1, 1) := by decide +kernel
theorem dX10_undo_43 : decode cX10_undo 43 = .ok (.iadd, 1) := by decide +kernel
theorem dX10_undo_44 : decode cX10_undo 44 = .ok (.iaload, 1) := by decide +kernel
theorem dX10_undo_45 : decode cX10_undo 45 = .ok (.aload_n 0, 1) := by decide +kernel
theorem dX10_undo_46 : decode cX10_undo 46 = .ok (.getfield 69, 3) := by decide +kernel
theorem dX10_undo_49 : decode cX10_undo 49 = .ok (.iconst 4, 1) := by decide +kernel
theorem dX10_undo_50 : decode cX10_undo 50 = .ok (.aload_n 0, 1) := by decide +kernel
theorem dX10_undo_51 : decode cX10_undo 51 = .ok (.getfield 145, 3) := by decide +kernel
theorem dX10_undo_54 : decode cX10_undo 54 = .ok (.imul, 1) := by decide +kernel
theorem dX10_undo_55 : decode cX10_undo 55 = .ok (.iconst 2, 1) := by decide +kernel
theorem dX10_undo_56 : decode cX10_undo 56 = .ok (.iadd, 1) := by decide +kernel
theorem dX10_undo_57 : decode cX10_undo 57 = .ok (.iaload, 1) := by decide +kernel
theorem dX10_undo_58 : decode cX10_undo 58 = .ok (.invokevirtual 141, 3) := by decide +kernel
theorem dX10_undo_61 : decode cX10_undo 61 = .ok (.aload_n 0, 1) := by decide +kernel
theorem dX10_undo_62 : decode cX10_undo 62 = .ok (.getfield 145, 3) := by decide +kernel
theorem dX10_undo_65 : decode cX10_undo 65 = .ok (.ireturn, 1) := by decide +kernel
theorem dX10_redo_0 : decode cX10_redo 0 = .ok (.aload_n 0, 1) := by decide +kernel
theorem dX10_redo_1 : decode cX10_redo 1 = .ok (.getfield 145, 3) := by decide +kernel
theorem dX10_redo_4 : decode cX10_redo 4 = .ok (.aload_n 0, 1) := by decide +kernel
theorem dX10_redo_5 : decode cX10_redo 5 = .ok (.getfield 148, 3) := by decide +kernel
theorem dX10_redo_8 : decode cX10_redo 8 = .ok (.if_icmp .ne 6, 3) := by decide +kernel
theorem dX10_redo_11 : decode cX10_redo 11 = .ok (.bipush (-5), 2) := by decide +kernel
theorem dX10_redo_13 : decode cX10_redo 13 = .ok (.ireturn, 1) := by decide +kernel
theorem dX10_redo_14 : decode cX10_redo 14 = .ok (.aload_n 0, 1) := by decide +kernel
theorem dX10_redo_15 : decode cX10_redo 15 = .ok (.aload_n 0, 1) := by decide +kernel
theorem dX10_redo_16 : decode cX10_redo 16 = .ok (.getfield 69, 3) := by decide +kernel
theorem dX10_redo_19 : decode cX10_redo 19 = .ok (.iconst 4, 1) := by decide +kernel
theorem dX10_redo_20 : decode cX10_redo 20 = .ok (.aload_n 0, 1) := by decide +kernel
theorem dX10_redo_21 : decode cX10_redo 21 = .ok (.getfield 145, 3) := by decide +kernel
theorem dX10_redo_24 : decode cX10_redo 24 = .ok (.imul, 1) := by decide +kernel
theorem dX10_redo_25 : decode cX10_redo 25 = .ok (.iaload, 1) := by decide +kernel
theorem dX10_redo_26 : decode cX10_redo 26 = .ok (.aload_n 0, 1) := by decide +kernel
theorem dX10_redo_27 : decode cX10_redo 27 = .ok (.getfield 69, 3) := by decide +kernel
theorem dX10_redo_30 : decode cX10_redo 30 = .ok (.iconst 4, 1) := by decide +kernel
theorem dX10_redo_31 : decode cX10_redo 31 = .ok (.aload_n 0, 1) := by decide +kernel
theorem dX10_redo_32 : decode cX10_redo 32 = .ok (.getfield 145, 3) := by decide +kernel
theorem dX10_redo_35 : decode cX10_redo 35 = .ok (.imul, 1) := by decide +kernel
theorem dX10_redo_36 : decode cX10_redo 36 = .ok (.iconst 1, 1) := by decide +kernel
theorem dX10_redo_37 : decode cX10_redo 37 = .ok (.iadd, 1) := by decide +kernel
theorem dX10_redo_38 : decode cX10_redo 38 = .ok (.iaload, 1) := by decide +kernel
theorem dX10_redo_39 : decode cX10_redo 39 = .ok (.aload_n 0, 1) := by decide +kernel
theorem dX10_redo_40 : decode cX10_redo 40 = .ok (.getfield 69, 3) := by decide +kernel
theorem dX10_redo_43 : decode cX10_redo 43 = .ok (.iconst 4, 1) := by decide +kernel
theorem dX10_redo_44 : decode cX10_redo 44 = .ok (.aload_n 0, 1) := by decide +kernel
theorem dX10_redo_45 : decode cX10_redo 45 = .ok (.getfield 145, 3) := by decide +kernel
theorem dX10_redo_48 : decode cX10_redo 48 = .ok (.imul, 1) := by decide +kernel
theorem dX10_redo_49 : decode cX10_redo 49 = .ok (.iconst 3, 1) := by decide +kernel
theorem dX10_redo_50 : decode cX10_redo 50 = .ok (.iadd, 1) := by decide +kernel
theorem dX10_redo_51 : decode cX10_redo 51 = .ok (.iaload, 1) := by decide +kernel
theorem dX10_redo_52 : decode cX10_redo 52 = .ok (.invokevirtual 141, 3) := by decide +kernel
theorem dX10_redo_55 : decode cX10_redo 55 = .ok (.aload_n 0, 1) := by decide +kernel
theorem dX10_redo_56 : decode cX10_redo 56 = .ok (.dup, 1) := by decide +kernel
theorem dX10_redo_57 : decode cX10_redo 57 = .ok (.getfield 145, 3) := by decide +kernel
theorem dX10_redo_60 : decode cX10_redo 60 = .ok (.iconst 1, 1) := by decide +kernel
theorem dX10_redo_61 : decode cX10_redo 61 = .ok (.iadd, 1) := by decide +kernel
theorem dX10_redo_62 : decode cX10_redo 62 = .ok (.putfield 145, 3) := by decide +kernel
theorem dX10_redo_65 : decode cX10_redo 65 = .ok (.aload_n 0, 1) := by decide +kernel
theorem dX10_redo_66 : decode cX10_redo 66 = .ok (.getfield 148, 3) := by decide +kernel
theorem dX10_redo_69 : decode cX10_redo 69 = .ok (.aload_n 0, 1) := by decide +kernel
theorem dX10_redo_70 : decode cX10_redo 70 = .ok (.getfield 145, 3) := by decide +kernel
theorem dX10_redo_73 : decode cX10_redo 73 = .ok (.isub, 1) := by decide +kernel
theorem dX10_redo_74 : decode cX10_redo 74 = .ok (.ireturn, 1) := by decide +kernel
theorem dX10_feed_0 : decode cX10_feed 0 = .ok (.iload_n 1, 1) := by decide +kernel
theorem dX10_feed_1 : decode cX10_feed 1 = .ok (.iconst 0, 1) := by decide +kernel
theorem dX10_feed_2 : decode cX10_feed 2 = .ok (.sipush 255, 3) := by decide +kernel
theorem dX10_feed_5 : decode cX10_feed 5 = .ok (.invokestatic 103, 3) := by decide +kernel
theorem dX10_feed_8 : decode cX10_feed 8 = .ok (.ifCond .ne 5, 3) := by decide +kernel
theorem dX10_feed_11 : decode cX10_feed 11 = .ok (.iconst (-1), 1) := by decide +kernel
theorem dX10_feed_12 : decode cX10_feed 12 = .ok (.ireturn, 1) := by decide +kernel
theorem dX10_feed_13 : decode cX10_feed 13 = .ok (.aload_n 0, 1) := by decide +kernel
theorem dX10_feed_14 : decode cX10_feed 14 = .ok (.getfield 151, 3) := by decide +kernel
theorem dX10_feed_17 : decode cX10_feed 17 = .ok (.bipush 120, 2) := by decide +kernel
theorem dX10_feed_19 : decode cX10_feed 19 = .ok (.if_icmp .ne 6, 3) := by decide +kernel
theorem dX10_feed_22 : decode cX10_feed 22 = .ok (.bipush (-3), 2) := by decide +kernel
theorem dX10_feed_24 : decode cX10_feed 24 = .ok (.ireturn, 1) := by decide +kernel
theorem dX10_feed_25 : decode cX10_feed 25 = .ok (.aload_n 0, 1) := by decide +kernel
theorem dX10_feed_26 : decode cX10_feed 26 = .ok (.getfield 27, 3) := by decide +kernel
theorem dX10_feed_29 : decode cX10_feed 29 = .ok (.aload_n 0, 1) := by decide +kernel
theorem dX10_feed_30 : decode cX10_feed 30 = .ok (.dup, 1) := by decide +kernel
theorem dX10_feed_31 : decode cX10_feed 31 = .ok (.getfield 151, 3) := by decide +kernel
theorem dX10_feed_34 : decode cX10_feed 34 = .ok (.dup_x1, 1) := by decide +kernel
theorem dX10_feed_35 : decode cX10_feed 35 = .ok (.iconst 1, 1) := by decide +kernel
theorem dX10_feed_36 : decode cX10_feed 36 = .ok (.iadd, 1) := by decide +kernel
theorem dX10_feed_37 : decode cX10_feed 37 = .ok (.putfield 151, 3) := by decide +kernel
theorem dX10_feed_40 : decode cX10_feed 40 = .ok (.iload_n 1, 1) := by decide +kernel
theorem dX10_feed_41 : decode cX10_feed 41 = .ok (.iastore, 1) := by decide +kernel
theorem dX10_feed_42 : decode cX10_feed 42 = .ok (.aload_n 0, 1) := by decide +kernel
theorem dX10_feed_43 : decode cX10_feed 43 = .ok (.getfield 151, 3) := by decide +kernel
theorem dX10_feed_46 : decode cX10_feed 46 = .ok (.ireturn, 1) := by decide +kernel
theorem dX10_sign_0 : decode cX10_sign 0 = .ok (.aload_n 0, 1) := by decide +kernel
theorem dX10_sign_1 : decode cX10_sign 1 = .ok (.getfield 154, 3) := by decide +kernel
theorem dX10_sign_4 : decode cX10_sign 4 = .ok (.aload_n 0, 1) := by decide +kernel
theorem dX10_sign_5 : decode cX10_sign 5 = .ok (.getfield 151, 3) := by decide +kernel
theorem dX10_sign_8 : decode cX10_sign 8 = .ok (.if_icmp .ge 15, 3) := by decide +kernel
theorem dX10_sign_11 : decode cX10_sign 11 = .ok (.aload_n 0, 1) := by decide +kernel
theorem dX10_sign_12 : decode cX10_sign 12 = .ok (.getfield 27, 3) := by decide +kernel
theorem dX10_sign_15 : decode cX10_sign 15 = .ok (.aload_n 0, 1) := by decide +kernel
theorem dX10_sign_16 : decode cX10_sign 16 = .ok (.getfield 154, 3) := by decide +kernel
theorem dX10_sign_19 : decode cX10_sign 19 = .ok (.iaload, 1) := by decide +kernel
theorem dX10_sign_20 : decode cX10_sign 20 = .ok (.goto 4, 3) := by decide +kernel
theorem dX10_sign_23 : decode cX10_sign 23 = .ok (.iconst (-1), 1) := by decide +kernel
theorem dX10_sign_24 : decode cX10_sign 24 = .ok (.ireturn, 1) := by decide +kernel
theorem dX10_is_0 : decode cX10_is 0 = .ok (.aload_n 0, 1) := by decide +kernel
theorem dX10_is_1 : decode cX10_is 1 = .ok (.invokevirtual 157, 3) := by decide +kernel
theorem dX10_is_4 : decode cX10_is 4 = .ok (.iload_n 1, 1) := by decide +kernel
theorem dX10_is_5 : decode cX10_is 5 = .ok (.if_icmp .eq 5, 3) := by decide +kernel
theorem dX10_is_8 : decode cX10_is 8 = .ok (.iconst 0, 1) := by decide +kernel
theorem dX10_is_9 : decode cX10_is 9 = .ok (.ireturn, 1) := by decide +kernel
theorem dX10_is_10 : decode cX10_is 10 = .ok (.aload_n 0, 1) := by decide +kernel
theorem dX10_is_11 : decode cX10_is 11 = .ok (.dup, 1) := by decide +kernel
theorem dX10_is_12 : decode cX10_is 12 = .ok (.getfield 154, 3) := by decide +kernel
theorem dX10_is_15 : decode cX10_is 15 = .ok (.iconst 1, 1) := by decide +kernel
theorem dX10_is_16 : decode cX10_is 16 = .ok (.iadd, 1) := by decide +kernel
theorem dX10_is_17 : decode cX10_is 17 = .ok (.putfield 154, 3) := by decide +kernel
theorem dX10_is_20 : decode cX10_is 20 = .ok (.iconst 1, 1) := by decide +kernel
theorem dX10_is_21 : decode cX10_is 21 = .ok (.ireturn, 1) := by decide +kernel
theorem dX10_codes_0 : decode cX10_codes 0 = .ok (.aload_n 0, 1) := by decide +kernel
theorem dX10_codes_1 : decode cX10_codes 1 = .ok (.getfield 51, 3) := by decide +kernel
theorem dX10_codes_4 : decode cX10_codes 4 = .ok (.aload_n 0, 1) := by decide +kernel
theorem dX10_codes_5 : decode cX10_codes 5 = .ok (.dup, 1) := by decide +kernel
theorem dX10_codes_6 : decode cX10_codes 6 = .ok (.getfield 161, 3) := by decide +kernel
theorem dX10_codes_9 : decode cX10_codes 9 = .ok (.dup_x1, 1) := by decide +kernel
theorem dX10_codes_10 : decode cX10_codes 10 = .ok (.iconst 1, 1) := by decide +kernel
theorem dX10_codes_11 : decode cX10_codes 11 = .ok (.iadd, 1) := by decide +kernel
theorem dX10_codes_12 : decode cX10_codes 12 = .ok (.putfield 161, 3) := by decide +kernel
theorem dX10_codes_15 : decode cX10_codes 15 = .ok (.iload_n 1, 1) := by decide +kernel
theorem dX10_codes_16 : decode cX10_codes 16 = .ok (.iastore, 1) := by decide +kernel
theorem dX10_codes_17 : decode cX10_codes 17 = .ok (.iconst 1, 1) := by decide +kernel
theorem dX10_codes_18 : decode cX10_codes 18 = .ok (.ireturn, 1) := by decide +kernel
theorem dX10_isDigit_0 : decode cX10_isDigit 0 = .ok (.aload_n 0, 1) := by decide +kernel
theorem dX10_isDigit_1 : decode cX10_isDigit 1 = .ok (.invokevirtual 157, 3) := by decide +kernel
theorem dX10_isDigit_4 : decode cX10_isDigit 4 = .ok (.bipush 48, 2) := by decide +kernel
theorem dX10_isDigit_6 : decode cX10_isDigit 6 = .ok (.if_icmp .lt 16, 3) := by decide +kernel
theorem dX10_isDigit_9 : decode cX10_isDigit 9 = .ok (.aload_n 0, 1) := by decide +kernel
theorem dX10_isDigit_10 : decode cX10_isDigit 10 = .ok (.invokevirtual 157, 3) := by decide +kernel
theorem dX10_isDigit_13 : decode cX10_isDigit 13 = .ok (.bipush 57, 2) := by decide +kernel
theorem dX10_isDigit_15 : decode cX10_isDigit 15 = .ok (.if_icmp .gt 7, 3) := by decide +kernel
theorem dX10_isDigit_18 : decode cX10_isDigit 18 = .ok (.iconst 1, 1) := by decide +kernel
theorem dX10_isDigit_19 : decode cX10_isDigit 19 = .ok (.goto 4, 3) := by decide +kernel
theorem dX10_isDigit_22 : decode cX10_isDigit 22 = .ok (.iconst 0, 1) := by decide +kernel
theorem dX10_isDigit_23 : decode cX10_isDigit 23 = .ok (.ireturn, 1) := by decide +kernel
theorem dX10_nameOf_0 : decode cX10_nameOf 0 = .ok (.iload_n 0, 1) := by decide +kernel
theorem dX10_nameOf_1 : decode cX10_nameOf 1 = .ok (.tableswitch 79 109 121 #[73, 75, 79, 79, 79, 79, 67, 69, 79, 79, 71, 79, 77], 67) := by decide +kernel
theorem dX10_nameOf_68 : decode cX10_nameOf 68 = .ok (.iconst 0, 1) := by decide +kernel
theorem dX10_nameOf_69 : decode cX10_nameOf 69 = .ok (.ireturn, 1) := by decide +kernel
theorem dX10_nameOf_70 : decode cX10_nameOf 70 = .ok (.iconst 1, 1) := by decide +kernel
theorem dX10_nameOf_71 : decode cX10_nameOf 71 = .ok (.ireturn, 1) := by decide +kernel
theorem dX10_nameOf_72 : decode cX10_nameOf 72 = .ok (.iconst 2, 1) := by decide +kernel
theorem dX10_nameOf_73 : decode cX10_nameOf 73 = .ok (.ireturn, 1) := by decide +kernel
theorem dX10_nameOf_74 : decode cX10_nameOf 74 = .ok (.iconst 3, 1) := by decide +kernel
theorem dX10_nameOf_75 : decode cX10_nameOf 75 = .ok (.ireturn, 1) := by decide +kernel
theorem dX10_nameOf_76 : decode cX10_nameOf 76 = .ok (.iconst 4, 1) := by decide +kernel
theorem dX10_nameOf_77 : decode cX10_nameOf 77 = .ok (.ireturn, 1) := by decide +kernel
theorem dX10_nameOf_78 : decode cX10_nameOf 78 = .ok (.iconst 5, 1) := by decide +kernel
theorem dX10_nameOf_79 : decode cX10_nameOf 79 = .ok (.ireturn, 1) := by decide +kernel
theorem dX10_nameOf_80 : decode cX10_nameOf 80 = .ok (.iconst (-1), 1) := by decide +kernel
theorem dX10_nameOf_81 : decode cX10_nameOf 81 = .ok (.ireturn, 1) := by decide +kernel
theorem dX10_isO_0 : decode cX10_isO 0 = .ok (.aload_n 0, 1) := by decide +kernel
theorem dX10_isO_1 : decode cX10_isO 1 = .ok (.invokevirtual 164, 3) := by decide +kernel
theorem dX10_isO_4 : decode cX10_isO 4 = .ok (.ifCond .eq 62, 3) := by decide +kernel
theorem dX10_isO_7 : decode cX10_isO 7 = .ok (.iconst 0, 1) := by decide +kernel
theorem dX10_isO_8 : decode cX10_isO 8 = .ok (.istore_n 1, 1) := by decide +kernel
theorem dX10_isO_9 : decode cX10_isO 9 = .ok (.iconst 0, 1) := by decide +kernel
theorem dX10_isO_10 : decode cX10_isO 10 = .ok (.istore_n 2, 1) := by decide +kernel
theorem dX10_isO_11 : decode cX10_isO 11 = .ok (.iload_n 2, 1) := by decide +kernel
theorem dX10_isO_12 : decode cX10_isO 12 = .ok (.iconst 4, 1) := by decide +kernel
theorem dX10_isO_13 : decode cX10_isO 13 = .ok (.if_icmp .ge 44, 3) := by decide +kernel
theorem dX10_isO_16 : decode cX10_isO 16 = .ok (.aload_n 0, 1) := by decide +kernel
theorem dX10_isO_17 : decode cX10_isO 17 = .ok (.invokevirtual 164, 3) := by decide +kernel
theorem dX10_isO_20 : decode cX10_isO 20 = .ok (.ifCond .eq 37, 3) := by decide +kernel
theorem dX10_isO_23 : decode cX10_isO 23 = .ok (.bipush 10, 2) := by decide +kernel
theorem dX10_isO_25 : decode cX10_isO 25 = .ok (.iload_n 1, 1) := by decide +kernel
theorem dX10_isO_26 : decode cX10_isO 26 = .ok (.imul, 1) := by decide +kernel
theorem dX10_isO_27 : decode cX10_isO 27 = .ok (.aload_n 0, 1) := by decide +kernel
theorem dX10_isO_28 : decode cX10_isO 28 = .ok (.getfield 27, 3) := by decide +kernel
theorem dX10_isO_31 : decode cX10_isO 31 = .ok (.aload_n 0, 1) := by decide +kernel
theorem dX10_isO_32 : decode cX10_isO 32 = .ok (.getfield 154, 3) := by decide +kernel
theorem dX10_isO_35 : decode cX10_isO 35 = .ok (.iaload, 1) := by decide +kernel
theorem dX10_isO_36 : decode cX10_isO 36 = .ok (.iadd, 1) := by decide +kernel
theorem dX10_isO_37 : decode cX10_isO 37 = .ok (.bipush 48, 2) := by decide +kernel
theorem dX10_isO_39 : decode cX10_isO 39 = .ok (.isub, 1) := by decide +kernel
theorem dX10_isO_40 : decode cX10_isO 40 = .ok (.istore_n 1, 1) := by decide +kernel
theorem dX10_isO_41 : decode cX10_isO 41 = .ok (.aload_n 0, 1) := by decide +kernel
theorem dX10_isO_42 : decode cX10_isO 42 = .ok (.dup, 1) := by decide +kernel
theorem dX10_isO_43 : decode cX10_isO 43 = .ok (.getfield 154, 3) := by decide +kernel
theorem dX10_isO_46 : decode cX10_isO 46 = .ok (.iconst 1, 1) := by decide +kernel
theorem dX10_isO_47 : decode cX10_isO 47 = .ok (.iadd, 1) := by decide +kernel
theorem dX10_isO_48 : decode cX10_isO 48 = .ok (.putfield 154, 3) := by decide +kernel
theorem dX10_isO_51 : decode cX10_isO 51 = .ok (.iinc 2 1, 3) := by decide +kernel
theorem dX10_isO_54 : decode cX10_isO 54 = .ok (.goto (-43), 3) := by decide +kernel
theorem dX10_isO_57 : decode cX10_isO 57 = .ok (.aload_n 0, 1) := by decide +kernel
theorem dX10_isO_58 : decode cX10_isO 58 = .ok (.bipush 18, 2) := by decide +kernel
theorem dX10_isO_60 : decode cX10_isO 60 = .ok (.iload_n 1, 1) := by decide +kernel
theorem dX10_isO_61 : decode cX10_isO 61 = .ok (.iadd, 1) := by decide +kernel
theorem dX10_isO_62 : decode cX10_isO 62 = .ok (.invokevirtual 168, 3) := by decide +kernel
theorem dX10_isO_65 : decode cX10_isO 65 = .ok (.ireturn, 1) := by decide +kernel
theorem dX10_isO_66 : decode cX10_isO 66 = .ok (.aload_n 0, 1) := by decide +kernel
theorem dX10_isO_67 : decode cX10_isO 67 = .ok (.invokevirtual 157, 3) := by decide +kernel
theorem dX10_isO_70 : decode cX10_isO 70 = .ok (.invokestatic 171, 3) := by decide +kernel
theorem dX10_isO_73 : decode cX10_isO 73 = .ok (.istore_n 1, 1) := by decide +kernel
theorem dX10_isO_74 : decode cX10_isO 74 = .ok (.iload_n 1, 1) := by decide +kernel
theorem dX10_isO_75 : decode cX10_isO 75 = .ok (.ifCond .lt 19, 3) := by decide +kernel
theorem dX10_isO_78 : decode cX10_isO 78 = .ok (.aload_n 0, 1) := by decide +kernel
theorem dX10_isO_79 : decode cX10_isO 79 = .ok (.dup, 1) := by decide +kernel
theorem dX10_isO_80 : decode cX10_isO 80 = .ok (.getfield 154, 3) := by decide +kernel
theorem dX10_isO_83 : decode cX10_isO 83 = .ok (.iconst 1, 1) := by decide +kernel
theorem dX10_isO_84 : decode cX10_isO 84 = .ok (.iadd, 1) := by decide +kernel
theorem dX10_isO_85 : decode cX10_isO 85 = .ok (.putfield 154, 3) := by decide +kernel
theorem dX10_isO_88 : decode cX10_isO 88 = .ok (.aload_n 0, 1) := by decide +kernel
theorem dX10_isO_89 : decode cX10_isO 89 = .ok (.iload_n 1, 1) := by decide +kernel
theorem dX10_isO_90 : decode cX10_isO 90 = .ok (.invokevirtual 168, 3) := by decide +kernel
theorem dX10_isO_93 : decode cX10_isO 93 = .ok (.ireturn, 1) := by decide +kernel
theorem dX10_isO_94 : decode cX10_isO 94 = .ok (.aload_n 0, 1) := by decide +kernel
theorem dX10_isO_95 : decode cX10_isO 95 = .ok (.getfield 175, 3) := by decide +kernel
theorem dX10_isO_98 : decode cX10_isO 98 = .ok (.bipush 6, 2) := by decide +kernel
theorem dX10_isO_100 : decode cX10_isO 100 = .ok (.if_icmp .ne 5, 3) := by decide +kernel
theorem dX10_isO_103 : decode cX10_isO 103 = .ok (.iconst 0, 1) := by decide +kernel
theorem dX10_isO_104 : decode cX10_isO 104 = .ok (.ireturn, 1) := by decide +kernel
theorem dX10_isO_105 : decode cX10_isO 105 = .ok (.aload_n 0, 1) := by decide +kernel
theorem dX10_isO_106 : decode cX10_isO 106 = .ok (.dup, 1) := by decide +kernel
theorem dX10_isO_107 : decode cX10_isO 107 = .ok (.getfield 175, 3) := by decide +kernel
theorem dX10_isO_110 : decode cX10_isO 110 = .ok (.iconst 1, 1) := by decide +kernel
theorem dX10_isO_111 : decode cX10_isO 111 = .ok (.iadd, 1) := by decide +kernel
theorem dX10_isO_112 : decode cX10_isO 112 = .ok (.putfield 175, 3) := by decide +kernel
theorem dX10_isO_115 : decode cX10_isO 115 = .ok (.aload_n 0, 1) := by decide +kernel
theorem dX10_isO_116 : decode cX10_isO 116 = .ok (.bipush 33, 2) := by decide +kernel
theorem dX10_isO_118 : decode cX10_isO 118 = .ok (.invokevirtual 178, 3) := by decide +kernel
theorem dX10_isO_121 : decode cX10_isO 121 = .ok (.ifCond .eq 28, 3) := by decide +kernel
theorem dX10_isO_124 : decode cX10_isO 124 = .ok (.aload_n 0, 1) := by decide +kernel
theorem dX10_isO_125 : decode cX10_isO 125 = .ok (.invokevirtual 181, 3) := by decide +kernel
theorem dX10_isO_128 : decode cX10_isO 128 = .ok (.ifCond .eq 16, 3) := by decide +kernel
theorem dX10_isO_131 : decode cX10_isO 131 = .ok (.aload_n 0, 1) := by decide +kernel
theorem dX10_isO_132 : decode cX10_isO 132 = .ok (.bipush 16, 2) := by decide +kernel
theorem dX10_isO_134 : decode cX10_isO 134 = .ok (.invokevirtual 168, 3) := by decide +kernel
theorem dX10_isO_137 : decode cX10_isO 137 = .ok (.ifCond .eq 7, 3) := by decide +kernel
theorem dX10_isO_140 : decode cX10_isO 140 = .ok (.iconst 1, 1) := by decide +kernel
theorem dX10_isO_141 : decode cX10_isO 141 = .ok (.goto 4, 3) := by decide +kernel
theorem dX10_isO_144 : decode cX10_isO 144 = .ok (.iconst 0, 1) := by decide +kernel
theorem dX10_isO_145 : decode cX10_isO 145 = .ok (.istore_n 2, 1) := by decide +kernel
theorem dX10_isO_146 : decode cX10_isO 146 = .ok (.goto 68, 3) := by decide +kernel
theorem dX10_isO_149 : decode cX10_isO 149 = .ok (.aload_n 0, 1) := by decide +kernel
theorem dX10_isO_150 : decode cX10_isO 150 = .ok (.bipush 45, 2) := by decide +kernel
theorem dX10_isO_152 : decode cX10_isO 152 = .ok (.invokevirtual 178, 3) := by decide +kernel
theorem dX10_isO_155 : decode cX10_isO 155 = .ok (.ifCond .eq 28, 3) := by decide +kernel
theorem dX10_isO_158 : decode cX10_isO 158 = .ok (.aload_n 0, 1) := by decide +kernel
theorem dX10_isO_159 : decode cX10_isO 159 = .ok (.invokevirtual 181, 3) := by decide +kernel
theorem dX10_isO_162 : decode cX10_isO 162 = .ok (.ifCond .eq 16, 3) := by decide +kernel
theorem dX10_isO_165 : decode cX10_isO 165 = .ok (.aload_n 0, 1) := by decide +kernel
theorem dX10_isO_166 : decode cX10_isO 166 = .ok (.bipush 17, 2) := by decide +kernel
theorem dX10_isO_168 : decode cX10_isO 168 = .ok (.invokevirtual 168, 3) := by decide +kernel
theorem dX10_isO_171 : decode cX10_isO 171 = .ok (.ifCond .eq 7, 3) := by decide +kernel
theorem dX10_isO_174 : decode cX10_isO 174 = .ok (.iconst 1, 1) := by decide +kernel
theorem dX10_isO_175 : decode cX10_isO 175 = .ok (.goto 4, 3) := by decide +kernel
theorem dX10_isO_178 : decode cX10_isO 178 = .ok (.iconst 0, 1) := by decide +kernel
theorem dX10_isO_179 : decode cX10_isO 179 = .ok (.istore_n 2, 1) := by decide +kernel
theorem dX10_isO_180 : decode cX10_isO 180 = .ok (.goto 34, 3) := by decide +kernel
theorem dX10_isO_183 : decode cX10_isO 183 = .ok (.aload_n 0, 1) := by decide +kernel
theorem dX10_isO_184 : decode cX10_isO 184 = .ok (.bipush 40, 2) := by decide +kernel
theorem dX10_isO_186 : decode cX10_isO 186 = .ok (.invokevirtual 178, 3) := by decide +kernel
theorem dX10_isO_189 : decode cX10_isO 189 = .ok (.ifCond .eq 23, 3) := by decide +kernel
theorem dX10_isO_192 : decode cX10_isO 192 = .ok (.aload_n 0, 1) := by decide +kernel
theorem dX10_isO_193 : decode cX10_isO 193 = .ok (.invokevirtual 184, 3) := by decide +kernel
theorem dX10_isO_196 : decode cX10_isO 196 = .ok (.ifCond .eq 16, 3) := by decide +kernel
theorem dX10_isO_199 : decode cX10_isO 199 = .ok (.aload_n 0, 1) := by decide +kernel
theorem dX10_isO_200 : decode cX10_isO 200 = .ok (.bipush 41, 2) := by decide +kernel
theorem dX10_isO_202 : decode cX10_isO 202 = .ok (.invokevirtual 178, 3) := by decide +kernel
theorem dX10_isO_205 : decode cX10_isO 205 = .ok (.ifCond .eq 7, 3) := by decide +kernel
theorem dX10_isO_208 : decode cX10_isO 208 = .ok (.iconst 1, 1) := by decide +kernel
theorem dX10_isO_209 : decode cX10_isO 209 = .ok (.goto 4, 3) := by decide +kernel
theorem dX10_isO_212 : decode cX10_isO 212 = .ok (.iconst 0, 1) := by decide +kernel
theorem dX10_isO_213 : decode cX10_isO 213 = .ok (.istore_n 2, 1) := by decide +kernel
theorem dX10_isO_214 : decode cX10_isO 214 = .ok (.aload_n 0, 1) := by decide +kernel
theorem dX10_isO_215 : decode cX10_isO 215 = .ok (.dup, 1) := by decide +kernel
theorem dX10_isO_216 : decode cX10_isO 216 = .ok (.getfield 175, 3) := by decide +kernel
theorem dX10_isO_219 : decode cX10_isO 219 = .ok (.iconst 1, 1) := by decide +kernel
theorem dX10_isO_220 : decode cX10_isO 220 = .ok (.isub, 1) := by decide +kernel
theorem dX10_isO_221 : decode cX10_isO 221 = .ok (.putfield 175, 3) := by decide +kernel
theorem dX10_isO_224 : decode cX10_isO 224 = .ok (.iload_n 2, 1) := by decide +kernel
theorem dX10_isO_225 : decode cX10_isO 225 = .ok (.ireturn, 1) := by decide +kernel
theorem dX10_isP_0 : decode cX10_isP 0 = .ok (.aload_n 0, 1) := by decide +kernel
theorem dX10_isP_1 : decode cX10_isP 1 = .ok (.invokevirtual 181, 3) := by decide +kernel
theorem dX10_isP_4 : decode cX10_isP 4 = .ok (.ifCond .ne 5, 3) := by decide +kernel
theorem dX10_isP_7 : decode cX10_isP 7 = .ok (.iconst 0, 1) := by decide +kernel
theorem dX10_isP_8 : decode cX10_isP 8 = .ok (.ireturn, 1) := by decide +kernel
theorem dX10_isP_9 : decode cX10_isP 9 = .ok (.aload_n 0, 1) := by decide +kernel
theorem dX10_isP_10 : decode cX10_isP 10 = .ok (.invokevirtual 157, 3) := by decide +kernel
theorem dX10_isP_13 : decode cX10_isP 13 = .ok (.bipush 42, 2) := by decide +kernel
theorem dX10_isP_15 : decode cX10_isP 15 = .ok (.if_icmp .ne 8, 3) := by decide +kernel
theorem dX10_isP_18 : decode cX10_isP 18 = .ok (.bipush 13, 2) := by decide +kernel
theorem dX10_isP_20 : decode cX10_isP 20 = .ok (.goto 32, 3) := by decide +kernel
theorem dX10_isP_23 : decode cX10_isP 23 = .ok (.aload_n 0, 1) := by decide +kernel
theorem dX10_isP_24 : decode cX10_isP 24 = .ok (.invokevirtual 157, 3) := by decide +kernel
theorem dX10_isP_27 : decode cX10_isP 27 = .ok (.bipush 47, 2) := by decide +kernel
theorem dX10_isP_29 : decode cX10_isP 29 = .ok (.if_icmp .ne 8, 3) := by decide +kernel
theorem dX10_isP_32 : decode cX10_isP 32 = .ok (.bipush 14, 2) := by decide +kernel
theorem dX10_isP_34 : decode cX10_isP 34 = .ok (.goto 18, 3) := by decide +kernel
theorem dX10_isP_37 : decode cX10_isP 37 = .ok (.aload_n 0, 1) := by decide +kernel
theorem dX10_isP_38 : decode cX10_isP 38 = .ok (.invokevirtual 157, 3) := by decide +kernel
theorem dX10_isP_41 : decode cX10_isP 41 = .ok (.bipush 37, 2) := by decide +kernel
theorem dX10_isP_43 : decode cX10_isP 43 = .ok (.if_icmp .ne 8, 3) := by decide +kernel
theorem dX10_isP_46 : decode cX10_isP 46 = .ok (.bipush 15, 2) := by decide +kernel
theorem dX10_isP_48 : decode cX10_isP 48 = .ok (.goto 4, 3) := by decide +kernel
theorem dX10_isP_51 : decode cX10_isP 51 = .ok (.iconst (-1), 1) := by decide +kernel
theorem dX10_isP_52 : decode cX10_isP 52 = .ok (.istore_n 1, 1) := by decide +kernel
theorem dX10_isP_53 : decode cX10_isP 53 = .ok (.iload_n 1, 1) := by decide +kernel
theorem dX10_isP_54 : decode cX10_isP 54 = .ok (.ifCond .ge 5, 3) := by decide +kernel
theorem dX10_isP_57 : decode cX10_isP 57 = .ok (.iconst 1, 1) := by decide +kernel
theorem dX10_isP_58 : decode cX10_isP 58 = .ok (.ireturn, 1) := by decide +kernel
theorem dX10_isP_59 : decode cX10_isP 59 = .ok (.aload_n 0, 1) := by decide +kernel
theorem dX10_isP_60 : decode cX10_isP 60 = .ok (.dup, 1) := by decide +kernel
theorem dX10_isP_61 : decode cX10_isP 61 = .ok (.getfield 154, 3) := by decide +kernel
theorem dX10_isP_64 : decode cX10_isP 64 = .ok (.iconst 1, 1) := by decide +kernel
theorem dX10_isP_65 : decode cX10_isP 65 = .ok (.iadd, 1) := by decide +kernel
theorem dX10_isP_66 : decode cX10_isP 66 = .ok (.putfield 154, 3) := by decide +kernel
theorem dX10_isP_69 : decode cX10_isP 69 = .ok (.aload_n 0, 1) := by decide +kernel
theorem dX10_isP_70 : decode cX10_isP 70 = .ok (.invokevirtual 181, 3) := by decide +kernel
theorem dX10_isP_73 : decode cX10_isP 73 = .ok (.ifCond .ne 5, 3) := by decide +kernel
theorem dX10_isP_76 : decode cX10_isP 76 = .ok (.iconst 0, 1) := by decide +kernel
theorem dX10_isP_77 : decode cX10_isP 77 = .ok (.ireturn, 1) := by decide +kernel
theorem dX10_isP_78 : decode cX10_isP 78 = .ok (.aload_n 0, 1) := by decide +kernel
theorem dX10_isP_79 : decode cX10_isP 79 = .ok (.iload_n 1, 1) := by decide +kernel
theorem dX10_isP_80 : decode cX10_isP 80 = .ok (.invokevirtual 168, 3) := by decide +kernel
theorem dX10_isP_83 : decode cX10_isP 83 = .ok (.pop, 1) := by decide +kernel
theorem dX10_isP_84 : decode cX10_isP 84 = .ok (.goto (-75), 3) := by decide +kernel
theorem dX10_isS_0 : decode cX10_isS 0 = .ok (.aload_n 0, 1) := by decide +kernel
theorem dX10_isS_1 : decode cX10_isS 1 = .ok (.invokevirtual 187, 3) := by decide +kernel
theorem dX10_isS_4 : decode cX10_isS 4 = .ok (.ifCond .ne 5, 3) := by decide +kernel
theorem dX10_isS_7 : decode cX10_isS 7 = .ok (.iconst 0, 1) := by decide +kernel
theorem dX10_isS_8 : decode cX10_isS 8 = .ok (.ireturn, 1) := by decide +kernel
theorem dX10_isS_9 : decode cX10_isS 9 = .ok (.aload_n 0, 1) := by decide +kernel
theorem dX10_isS_10 : decode cX10_isS 10 = .ok (.invokevirtual 157, 3) := by decide +kernel
theorem dX10_isS_13 : decode cX10_isS 13 = .ok (.bipush 43, 2) := by decide +kernel
theorem dX10_isS_15 : decode cX10_isS 15 = .ok (.if_icmp .ne 8, 3) := by decide +kernel
theorem dX10_isS_18 : decode cX10_isS 18 = .ok (.bipush 11, 2) := by decide +kernel
theorem dX10_isS_20 : decode cX10_isS 20 = .ok (.goto 18, 3) := by decide +kernel
theorem dX10_isS_23 : decode cX10_isS 23 = .ok (.aload_n 0, 1) := by decide +kernel
theorem dX10_isS_24 : decode cX10_isS 24 = .ok (.invokevirtual 157, 3) := by decide +kernel
theorem dX10_isS_27 : decode cX10_isS 27 = .ok (.bipush 45, 2) := by decide +kernel
theorem dX10_isS_29 : decode cX10_isS 29 = .ok (.if_icmp .ne 8, 3) := by decide +kernel
theorem dX10_isS_32 : decode cX10_isS 32 = .ok (.bipush 12, 2) := by decide +kernel
theorem dX10_isS_34 : decode cX10_isS 34 = .ok (.goto 4, 3) := by decide +kernel
theorem dX10_isS_37 : decode cX10_isS 37 = .ok (.iconst (-1), 1) := by decide +kernel
theorem dX10_isS_38 : decode cX10_isS 38 = .ok (.istore_n 1, 1) := by decide +kernel
theorem dX10_isS_39 : decode cX10_isS 39 = .ok (.iload_n 1, 1) := by decide +kernel
theorem dX10_isS_40 : decode cX10_isS 40 = .ok (.ifCond .ge 5, 3) := by decide +kernel
theorem dX10_isS_43 : decode cX10_isS 43 = .ok (.iconst 1, 1) := by decide +kernel
theorem dX10_isS_44 : decode cX10_isS 44 = .ok (.ireturn, 1) := by decide +kernel
theorem dX10_isS_45 : decode cX10_isS 45 = .ok (.aload_n 0, 1) := by decide +kernel
theorem dX10_isS_46 : decode cX10_isS 46 = .ok (.dup, 1) := by decide +kernel
theorem dX10_isS_47 : decode cX10_isS 47 = .ok (.getfield 154, 3) := by decide +kernel
theorem dX10_isS_50 : decode cX10_isS 50 = .ok (.iconst 1, 1) := by decide +kernel
theorem dX10_isS_51 : decode cX10_isS 51 = .ok (.iadd, 1) := by decide +kernel
theorem dX10_isS_52 : decode cX10_isS 52 = .ok (.putfield 154, 3) := by decide +kernel
theorem dX10_isS_55 : decode cX10_isS 55 = .ok (.aload_n 0, 1) := by decide +kernel
theorem dX10_isS_56 : decode cX10_isS 56 = .ok (.invokevirtual 187, 3) := by decide +kernel
theorem dX10_isS_59 : decode cX10_isS 59 = .ok (.ifCond .ne 5, 3) := by decide +kernel
theorem dX10_isS_62 : decode cX10_isS 62 = .ok (.iconst 0, 1) := by decide +kernel
theorem dX10_isS_63 : decode cX10_isS 63 = .ok (.ireturn, 1) := by decide +kernel
theorem dX10_isS_64 : decode cX10_isS 64 = .ok (.aload_n 0, 1) := by decide +kernel
theorem dX10_isS_65 : decode cX10_isS 65 = .ok (.iload_n 1, 1) := by decide +kernel
theorem dX10_isS_66 : decode cX10_isS 66 = .ok (.invokevirtual 168, 3) := by decide +kernel
theorem dX10_isS_69 : decode cX10_isS 69 = .ok (.pop, 1) := by decide +kernel
theorem dX10_isS_70 : decode cX10_isS 70 = .ok (.goto (-61), 3) := by decide +kernel
theorem dX10_isB_0 : decode cX10_isB 0 = .ok (.aload_n 0, 1) := by decide +kernel
theorem dX10_isB_1 : decode cX10_isB 1 = .ok (.invokevirtual 190, 3) := by decide +kernel
theorem dX10_isB_4 : decode cX10_isB 4 = .ok (.ifCond .ne 5, 3) := by decide +kernel
theorem dX10_isB_7 : decode cX10_isB 7 = .ok (.iconst 0, 1) := by decide +kernel
theorem dX10_isB_8 : decode cX10_isB 8 = .ok (.ireturn, 1) := by decide +kernel
theorem dX10_isB_9 : decode cX10_isB 9 = .ok (.aload_n 0, 1) := by decide +kernel
theorem dX10_isB_10 : decode cX10_isB 10 = .ok (.invokevirtual 157, 3) := by decide +kernel
theorem dX10_isB_13 : decode cX10_isB 13 = .ok (.bipush 60, 2) := by decide +kernel
theorem dX10_isB_15 : decode cX10_isB 15 = .ok (.if_icmp .ne 8, 3) := by decide +kernel
theorem dX10_isB_18 : decode cX10_isB 18 = .ok (.bipush 8, 2) := by decide +kernel
theorem dX10_isB_20 : decode cX10_isB 20 = .ok (.goto 32, 3) := by decide +kernel
theorem dX10_isB_23 : decode cX10_isB 23 = .ok (.aload_n 0, 1) := by decide +kernel
theorem dX10_isB_24 : decode cX10_isB 24 = .ok (.invokevirtual 157, 3) := by decide +kernel
theorem dX10_isB_27 : decode cX10_isB 27 = .ok (.bipush 61, 2) := by decide +kernel
theorem dX10_isB_29 : decode cX10_isB 29 = .ok (.if_icmp .ne 8, 3) := by decide +kernel
theorem dX10_isB_32 : decode cX10_isB 32 = .ok (.bipush 9, 2) := by decide +kernel
theorem dX10_isB_34 : decode cX10_isB 34 = .ok (.goto 18, 3) := by decide +kernel
theorem dX10_isB_37 : decode cX10_isB 37 = .ok (.aload_n 0, 1) := by decide +kernel
theorem dX10_isB_38 : decode cX10_isB 38 = .ok (.invokevirtual 157, 3) := by decide +kernel
theorem dX10_isB_41 : decode cX10_isB 41 = .ok (.bipush 62, 2) := by decide +kernel
theorem dX10_isB_43 : decode cX10_isB 43 = .ok (.if_icmp .ne 8, 3) := by decide +kernel
theorem dX10_isB_46 : decode cX10_isB 46 = .ok (.bipush 10, 2) := by decide +kernel
theorem dX10_isB_48 : decode cX10_isB 48 = .ok (.goto 4, 3) := by decide +kernel
theorem dX10_isB_51 : decode cX10_isB 51 = .ok (.iconst (-1), 1) := by decide +kernel
theorem dX10_isB_52 : decode cX10_isB 52 = .ok (.istore_n 1, 1) := by decide +kernel
theorem dX10_isB_53 : decode cX10_isB 53 = .ok (.iload_n 1, 1) := by decide +kernel
theorem dX10_isB_54 : decode cX10_isB 54 = .ok (.ifCond .ge 5, 3) := by decide +kernel
theorem dX10_isB_57 : decode cX10_isB 57 = .ok (.iconst 1, 1) := by decide +kernel
theorem dX10_isB_58 : decode cX10_isB 58 = .ok (.ireturn, 1) := by decide +kernel
theorem dX10_isB_59 : decode cX10_isB 59 = .ok (.aload_n 0, 1) := by decide +kernel
theorem dX10_isB_60 : decode cX10_isB 60 = .ok (.dup, 1) := by decide +kernel
theorem dX10_isB_61 : decode cX10_isB 61 = .ok (.getfield 154, 3) := by decide +kernel
theorem dX10_isB_64 : decode cX10_isB 64 = .ok (.iconst 1, 1) := by decide +kernel
theorem dX10_isB_65 : decode cX10_isB 65 = .ok (.iadd, 1) := by decide +kernel
theorem dX10_isB_66 : decode cX10_isB 66 = .ok (.putfield 154, 3) := by decide +kernel
theorem dX10_isB_69 : decode cX10_isB 69 = .ok (.aload_n 0, 1) := by decide +kernel
theorem dX10_isB_70 : decode cX10_isB 70 = .ok (.invokevirtual 190, 3) := by decide +kernel
theorem dX10_isB_73 : decode cX10_isB 73 = .ok (.ifCond .eq 15, 3) := by decide +kernel
theorem dX10_isB_76 : decode cX10_isB 76 = .ok (.aload_n 0, 1) := by decide +kernel
theorem dX10_isB_77 : decode cX10_isB 77 = .ok (.iload_n 1, 1) := by decide +kernel
theorem dX10_isB_78 : decode cX10_isB 78 = .ok (.invokevirtual 168, 3) := by decide +kernel
theorem dX10_isB_81 : decode cX10_isB 81 = .ok (.ifCond .eq 7, 3) := by decide +kernel
theorem dX10_isB_84 : decode cX10_isB 84 = .ok (.iconst 1, 1) := by decide +kernel
theorem dX10_isB_85 : decode cX10_isB 85 = .ok (.goto 4, 3) := by decide +kernel
theorem dX10_isB_88 : decode cX10_isB 88 = .ok (.iconst 0, 1) := by decide +kernel
theorem dX10_isB_89 : decode cX10_isB 89 = .ok (.ireturn, 1) := by decide +kernel
theorem dX10_isA_0 : decode cX10_isA 0 = .ok (.aload_n 0, 1) := by decide +kernel
theorem dX10_isA_1 : decode cX10_isA 1 = .ok (.invokevirtual 193, 3) := by decide +kernel
theorem dX10_isA_4 : decode cX10_isA 4 = .ok (.ifCond .ne 5, 3) := by decide +kernel
theorem dX10_isA_7 : decode cX10_isA 7 = .ok (.iconst 0, 1) := by decide +kernel
theorem dX10_isA_8 : decode cX10_isA 8 = .ok (.ireturn, 1) := by decide +kernel
theorem dX10_isA_9 : decode cX10_isA 9 = .ok (.aload_n 0, 1) := by decide +kernel
theorem dX10_isA_10 : decode cX10_isA 10 = .ok (.bipush 38, 2) := by decide +kernel
theorem dX10_isA_12 : decode cX10_isA 12 = .ok (.invokevirtual 178, 3) := by decide +kernel
theorem dX10_isA_15 : decode cX10_isA 15 = .ok (.ifCond .eq 22, 3) := by decide +kernel
theorem dX10_isA_18 : decode cX10_isA 18 = .ok (.aload_n 0, 1) := by decide +kernel
theorem dX10_isA_19 : decode cX10_isA 19 = .ok (.invokevirtual 193, 3) := by decide +kernel
theorem dX10_isA_22 : decode cX10_isA 22 = .ok (.ifCond .ne 5, 3) := by decide +kernel
theorem dX10_isA_25 : decode cX10_isA 25 = .ok (.iconst 0, 1) := by decide +kernel
theorem dX10_isA_26 : decode cX10_isA 26 = .ok (.ireturn, 1) := by decide +kernel
theorem dX10_isA_27 : decode cX10_isA 27 = .ok (.aload_n 0, 1) := by decide +kernel
theorem dX10_isA_28 : decode cX10_isA 28 = .ok (.bipush 7, 2) := by decide +kernel
theorem dX10_isA_30 : decode cX10_isA 30 = .ok (.invokevirtual 168, 3) := by decide +kernel
theorem dX10_isA_33 : decode cX10_isA 33 = .ok (.pop, 1) := by decide +kernel
theorem dX10_isA_34 : decode cX10_isA 34 = .ok (.goto (-25), 3) := by decide +kernel
theorem dX10_isA_37 : decode cX10_isA 37 = .ok (.iconst 1, 1) := by decide +kernel
theorem dX10_isA_38 : decode cX10_isA 38 = .ok (.ireturn, 1) := by decide +kernel
theorem dX10_isE_0 : decode cX10_isE 0 = .ok (.aload_n 0, 1) := by decide +kernel
theorem dX10_isE_1 : decode cX10_isE 1 = .ok (.invokevirtual 196, 3) := by decide +kernel
theorem dX10_isE_4 : decode cX10_isE 4 = .ok (.ifCond .ne 5, 3) := by decide +kernel
theorem dX10_isE_7 : decode cX10_isE 7 = .ok (.iconst 0, 1) := by decide +kernel
theorem dX10_isE_8 : decode cX10_isE 8 = .ok (.ireturn, 1) := by decide +kernel
theorem dX10_isE_9 : decode cX10_isE 9 = .ok (.aload_n 0, 1) := by decide +kernel
theorem dX10_isE_10 : decode cX10_isE 10 = .ok (.bipush 124, 2) := by decide +kernel
theorem dX10_isE_12 : decode cX10_isE 12 = .ok (.invokevirtual 178, 3) := by decide +kernel
theorem dX10_isE_15 : decode cX10_isE 15 = .ok (.ifCond .eq 22, 3) := by decide +kernel
theorem dX10_isE_18 : decode cX10_isE 18 = .ok (.aload_n 0, 1) := by decide +kernel
theorem dX10_isE_19 : decode cX10_isE 19 = .ok (.invokevirtual 196, 3) := by decide +kernel
theorem dX10_isE_22 : decode cX10_isE 22 = .ok (.ifCond .ne 5, 3) := by decide +kernel
theorem dX10_isE_25 : decode cX10_isE 25 = .ok (.iconst 0, 1) := by decide +kernel
theorem dX10_isE_26 : decode cX10_isE 26 = .ok (.ireturn, 1) := by decide +kernel
theorem dX10_isE_27 : decode cX10_isE 27 = .ok (.aload_n 0, 1) := by decide +kernel
theorem dX10_isE_28 : decode cX10_isE 28 = .ok (.bipush 6, 2) := by decide +kernel
theorem dX10_isE_30 : decode cX10_isE 30 = .ok (.invokevirtual 168, 3) := by decide +kernel
theorem dX10_isE_33 : decode cX10_isE 33 = .ok (.pop, 1) := by decide +kernel
theorem dX10_isE_34 : decode cX10_isE 34 = .ok (.goto (-25), 3) := by decide +kernel
theorem dX10_isE_37 : decode cX10_isE 37 = .ok (.iconst 1, 1) := by decide +kernel
theorem dX10_isE_38 : decode cX10_isE 38 = .ok (.ireturn, 1) := by decide +kernel
theorem dX10_isLine_0 : decode cX10_isLine 0 = .ok (.aload_n 0, 1) := by decide +kernel
theorem dX10_isLine_1 : decode cX10_isLine 1 = .ok (.getfield 42, 3) := by decide +kernel
theorem dX10_isLine_4 : decode cX10_isLine 4 = .ok (.aload_n 0, 1) := by decide +kernel
theorem dX10_isLine_5 : decode cX10_isLine 5 = .ok (.getfield 199, 3) := by decide +kernel
theorem dX10_isLine_8 : decode cX10_isLine 8 = .ok (.aload_n 0, 1) := by decide +kernel
theorem dX10_isLine_9 : decode cX10_isLine 9 = .ok (.getfield 161, 3) := by decide +kernel
theorem dX10_isLine_12 : decode cX10_isLine 12 = .ok (.iastore, 1) := by decide +kernel
theorem dX10_isLine_13 : decode cX10_isLine 13 = .ok (.aload_n 0, 1) := by decide +kernel
theorem dX10_isLine_14 : decode cX10_isLine 14 = .ok (.invokevirtual 184, 3) := by decide +kernel
theorem dX10_isLine_17 : decode cX10_isLine 17 = .ok (.ifCond .ne 5, 3) := by decide +kernel
theorem dX10_isLine_20 : decode cX10_isLine 20 = .ok (.iconst 0, 1) := by decide +kernel
theorem dX10_isLine_21 : decode cX10_isLine 21 = .ok (.ireturn, 1) := by decide +kernel
theorem dX10_isLine_22 : decode cX10_isLine 22 = .ok (.aload_n 0, 1) := by decide +kernel
theorem dX10_isLine_23 : decode cX10_isLine 23 = .ok (.getfield 45, 3) := by decide +kernel
theorem dX10_isLine_26 : decode cX10_isLine 26 = .ok (.aload_n 0, 1) := by decide +kernel
theorem dX10_isLine_27 : decode cX10_isLine 27 = .ok (.getfield 199, 3) := by decide +kernel
theorem dX10_isLine_30 : decode cX10_isLine 30 = .ok (.aload_n 0, 1) := by decide +kernel
theorem dX10_isLine_31 : decode cX10_isLine 31 = .ok (.getfield 42, 3) := by decide +kernel
theorem dX10_isLine_34 : decode cX10_isLine 34 = .ok (.aload_n 0, 1) := by decide +kernel
theorem dX10_isLine_35 : decode cX10_isLine 35 = .ok (.getfield 199, 3) := by decide +kernel
theorem dX10_isLine_38 : decode cX10_isLine 38 = .ok (.iaload, 1) := by decide +kernel
theorem dX10_isLine_39 : decode cX10_isLine 39 = .ok (.iastore, 1) := by decide +kernel
theorem dX10_isLine_40 : decode cX10_isLine 40 = .ok (.aload_n 0, 1) := by decide +kernel
theorem dX10_isLine_41 : decode cX10_isLine 41 = .ok (.bipush 63, 2) := by decide +kernel
theorem dX10_isLine_43 : decode cX10_isLine 43 = .ok (.invokevirtual 178, 3) := by decide +kernel
theorem dX10_isLine_46 : decode cX10_isLine 46 = .ok (.ifCond .eq 25, 3) := by decide +kernel
theorem dX10_isLine_49 : decode cX10_isLine 49 = .ok (.aload_n 0, 1) := by decide +kernel
theorem dX10_isLine_50 : decode cX10_isLine 50 = .ok (.getfield 45, 3) := by decide +kernel
theorem dX10_isLine_53 : decode cX10_isLine 53 = .ok (.aload_n 0, 1) := by decide +kernel
theorem dX10_isLine_54 : decode cX10_isLine 54 = .ok (.getfield 199, 3) := by decide +kernel
theorem dX10_isLine_57 : decode cX10_isLine 57 = .ok (.aload_n 0, 1) := by decide +kernel
theorem dX10_isLine_58 : decode cX10_isLine 58 = .ok (.getfield 161, 3) := by decide +kernel
theorem dX10_isLine_61 : decode cX10_isLine 61 = .ok (.iastore, 1) := by decide +kernel
theorem dX10_isLine_62 : decode cX10_isLine 62 = .ok (.aload_n 0, 1) := by decide +kernel
theorem dX10_isLine_63 : decode cX10_isLine 63 = .ok (.invokevirtual 184, 3) := by decide +kernel
theorem dX10_isLine_66 : decode cX10_isLine 66 = .ok (.ifCond .ne 5, 3) := by decide +kernel
theorem dX10_isLine_69 : decode cX10_isLine 69 = .ok (.iconst 0, 1) := by decide +kernel
theorem dX10_isLine_70 : decode cX10_isLine 70 = .ok (.ireturn, 1) := by decide +kernel
theorem dX10_isLine_71 : decode cX10_isLine 71 = .ok (.aload_n 0, 1) := by decide +kernel
theorem dX10_isLine_72 : decode cX10_isLine 72 = .ok (.getfield 48, 3) := by decide +kernel
theorem dX10_isLine_75 : decode cX10_isLine 75 = .ok (.aload_n 0, 1) := by decide +kernel
theorem dX10_isLine_76 : decode cX10_isLine 76 = .ok (.dup, 1) := by decide +kernel
theorem dX10_isLine_77 : decode cX10_isLine 77 = .ok (.getfield 199, 3) := by decide +kernel
theorem dX10_isLine_80 : decode cX10_isLine 80 = .ok (.dup_x1, 1) := by decide +kernel
theorem dX10_isLine_81 : decode cX10_isLine 81 = .ok (.iconst 1, 1) := by decide +kernel
theorem dX10_isLine_82 : decode cX10_isLine 82 = .ok (.iadd, 1) := by decide +kernel
theorem dX10_isLine_83 : decode cX10_isLine 83 = .ok (.putfield 199, 3) := by decide +kernel
theorem dX10_isLine_86 : decode cX10_isLine 86 = .ok (.aload_n 0, 1) := by decide +kernel
theorem dX10_isLine_87 : decode cX10_isLine 87 = .ok (.getfield 161, 3) := by decide +kernel
theorem dX10_isLine_90 : decode cX10_isLine 90 = .ok (.iastore, 1) := by decide +kernel
theorem dX10_isLine_91 : decode cX10_isLine 91 = .ok (.iconst 1, 1) := by decide +kernel
theorem dX10_isLine_92 : decode cX10_isLine 92 = .ok (.ireturn, 1) := by decide +kernel
theorem dX10_law_0 : decode cX10_law 0 = .ok (.aload_n 0, 1) := by decide +kernel
theorem dX10_law_1 : decode cX10_law 1 = .ok (.iconst 0, 1) := by decide +kernel
theorem dX10_law_2 : decode cX10_law 2 = .ok (.putfield 154, 3) := by decide +kernel
theorem dX10_law_5 : decode cX10_law 5 = .ok (.aload_n 0, 1) := by decide +kernel
theorem dX10_law_6 : decode cX10_law 6 = .ok (.iconst 0, 1) := by decide +kernel
theorem dX10_law_7 : decode cX10_law 7 = .ok (.putfield 175, 3) := by decide +kernel
theorem dX10_law_10 : decode cX10_law 10 = .ok (.aload_n 0, 1) := by decide +kernel
theorem dX10_law_11 : decode cX10_law 11 = .ok (.iconst 0, 1) := by decide +kernel
theorem dX10_law_12 : decode cX10_law 12 = .ok (.putfield 161, 3) := by decide +kernel
theorem dX10_law_15 : decode cX10_law 15 = .ok (.aload_n 0, 1) := by decide +kernel
theorem dX10_law_16 : decode cX10_law 16 = .ok (.iconst 0, 1) := by decide +kernel
theorem dX10_law_17 : decode cX10_law 17 = .ok (.putfield 199, 3) := by decide +kernel
theorem dX10_law_20 : decode cX10_law 20 = .ok (.aload_n 0, 1) := by decide +kernel
theorem dX10_law_21 : decode cX10_law 21 = .ok (.invokevirtual 202, 3) := by decide +kernel
theorem dX10_law_24 : decode cX10_law 24 = .ok (.istore_n 1, 1) := by decide +kernel
theorem dX10_law_25 : decode cX10_law 25 = .ok (.iload_n 1, 1) := by decide +kernel
theorem dX10_law_26 : decode cX10_law 26 = .ok (.ifCond .eq 20, 3) := by decide +kernel
theorem dX10_law_29 : decode cX10_law 29 = .ok (.aload_n 0, 1) := by decide +kernel
theorem dX10_law_30 : decode cX10_law 30 = .ok (.bipush 59, 2) := by decide +kernel
theorem dX10_law_32 : decode cX10_law 32 = .ok (.invokevirtual 178, 3) := by decide +kernel
theorem dX10_law_35 : decode cX10_law 35 = .ok (.ifCond .eq 11, 3) := by decide +kernel
theorem dX10_law_38 : decode cX10_law 38 = .ok (.aload_n 0, 1) := by decide +kernel
theorem dX10_law_39 : decode cX10_law 39 = .ok (.invokevirtual 202, 3) := by decide +kernel
theorem dX10_law_42 : decode cX10_law 42 = .ok (.istore_n 1, 1) := by decide +kernel
theorem dX10_law_43 : decode cX10_law 43 = .ok (.goto (-18), 3) := by decide +kernel
theorem dX10_law_46 : decode cX10_law 46 = .ok (.iload_n 1, 1) := by decide +kernel
theorem dX10_law_47 : decode cX10_law 47 = .ok (.ifCond .eq 18, 3) := by decide +kernel
theorem dX10_law_50 : decode cX10_law 50 = .ok (.aload_n 0, 1) := by decide +kernel
theorem dX10_law_51 : decode cX10_law 51 = .ok (.getfield 154, 3) := by decide +kernel
theorem dX10_law_54 : decode cX10_law 54 = .ok (.aload_n 0, 1) := by decide +kernel
theorem dX10_law_55 : decode cX10_law 55 = .ok (.getfield 151, 3) := by decide +kernel
theorem dX10_law_58 : decode cX10_law 58 = .ok (.if_icmp .ne 7, 3) := by decide +kernel
theorem dX10_law_61 : decode cX10_law 61 = .ok (.iconst 1, 1) := by decide +kernel
theorem dX10_law_62 : decode cX10_law 62 = .ok (.goto 4, 3) := by decide +kernel
theorem dX10_law_65 : decode cX10_law 65 = .ok (.iconst 0, 1) := by decide +kernel
theorem dX10_law_66 : decode cX10_law 66 = .ok (.istore_n 2, 1) := by decide +kernel
theorem dX10_law_67 : decode cX10_law 67 = .ok (.aload_n 0, 1) := by decide +kernel
theorem dX10_law_68 : decode cX10_law 68 = .ok (.iconst 0, 1) := by decide +kernel
theorem dX10_law_69 : decode cX10_law 69 = .ok (.putfield 151, 3) := by decide +kernel
theorem dX10_law_72 : decode cX10_law 72 = .ok (.iload_n 2, 1) := by decide +kernel
theorem dX10_law_73 : decode cX10_law 73 = .ok (.ifCond .ne 11, 3) := by decide +kernel
theorem dX10_law_76 : decode cX10_law 76 = .ok (.bipush (-100), 2) := by decide +kernel
theorem dX10_law_78 : decode cX10_law 78 = .ok (.aload_n 0, 1) := by decide +kernel
theorem dX10_law_79 : decode cX10_law 79 = .ok (.getfield 154, 3) := by decide +kernel
theorem dX10_law_82 : decode cX10_law 82 = .ok (.isub, 1) := by decide +kernel
theorem dX10_law_83 : decode cX10_law 83 = .ok (.ireturn, 1) := by decide +kernel
theorem dX10_law_84 : decode cX10_law 84 = .ok (.aload_n 0, 1) := by decide +kernel
theorem dX10_law_85 : decode cX10_law 85 = .ok (.iconst 1, 1) := by decide +kernel
theorem dX10_law_86 : decode cX10_law 86 = .ok (.putfield 205, 3) := by decide +kernel
theorem dX10_law_89 : decode cX10_law 89 = .ok (.aload_n 0, 1) := by decide +kernel
theorem dX10_law_90 : decode cX10_law 90 = .ok (.aload_n 0, 1) := by decide +kernel
theorem dX10_law_91 : decode cX10_law 91 = .ok (.getfield 199, 3) := by decide +kernel
theorem dX10_law_94 : decode cX10_law 94 = .ok (.putfield 209, 3) := by decide +kernel
theorem dX10_law_97 : decode cX10_law 97 = .ok (.iconst 0, 1) := by decide +kernel
theorem dX10_law_98 : decode cX10_law 98 = .ok (.istore_n 3, 1) := by decide +kernel
theorem dX10_law_99 : decode cX10_law 99 = .ok (.iload_n 3, 1) := by decide +kernel
theorem dX10_law_100 : decode cX10_law 100 = .ok (.aload_n 0, 1) := by decide +kernel
theorem dX10_law_101 : decode cX10_law 101 = .ok (.getfield 209, 3) := by decide +kernel
theorem dX10_law_104 : decode cX10_law 104 = .ok (.if_icmp .ge 45, 3) := by decide +kernel
theorem dX10_law_107 : decode cX10_law 107 = .ok (.aload_n 0, 1) := by decide +kernel
theorem dX10_law_108 : decode cX10_law 108 = .ok (.getfield 30, 3) := by decide +kernel
theorem dX10_law_111 : decode cX10_law 111 = .ok (.iload_n 3, 1) := by decide +kernel
theorem dX10_law_112 : decode cX10_law 112 = .ok (.aload_n 0, 1) := by decide +kernel
theorem dX10_law_113 : decode cX10_law 113 = .ok (.getfield 42, 3) := by decide +kernel
theorem dX10_law_116 : decode cX10_law 116 = .ok (.iload_n 3, 1) := by decide +kernel
theorem dX10_law_117 : decode cX10_law 117 = .ok (.iaload, 1) := by decide +kernel
theorem dX10_law_118 : decode cX10_law 118 = .ok (.iastore, 1) := by decide +kernel
theorem dX10_law_119 : decode cX10_law 119 = .ok (.aload_n 0, 1) := by decide +kernel
theorem dX10_law_120 : decode cX10_law 120 = .ok (.getfield 33, 3) := by decide +kernel
theorem dX10_law_123 : decode cX10_law 123 = .ok (.iload_n 3, 1) := by decide +kernel
theorem dX10_law_124 : decode cX10_law 124 = .ok (.aload_n 0, 1) := by decide +kernel
theorem dX10_law_125 : decode cX10_law 125 = .ok (.getfield 45, 3) := by decide +kernel
theorem dX10_law_128 : decode cX10_law 128 = .ok (.iload_n 3, 1) := by decide +kernel
theorem dX10_law_129 : decode cX10_law 129 = .ok (.iaload, 1) := by decide +kernel
theorem dX10_law_130 : decode cX10_law 130 = .ok (.iastore, 1) := by decide +kernel
theorem dX10_law_131 : decode cX10_law 131 = .ok (.aload_n 0, 1) := by decide +kernel
theorem dX10_law_132 : decode cX10_law 132 = .ok (.getfield 36, 3) := by decide +kernel
theorem dX10_law_135 : decode cX10_law 135 = .ok (.iload_n 3, 1) := by decide +kernel
theorem dX10_law_136 : decode cX10_law 136 = .ok (.aload_n 0, 1) := by decide +kernel
theorem dX10_law_137 : decode cX10_law 137 = .ok (.getfield 48, 3) := by decide +kernel
theorem dX10_law_140 : decode cX10_law 140 = .ok (.iload_n 3, 1) := by decide +kernel
theorem dX10_law_141 : decode cX10_law 141 = .ok (.iaload, 1) := by decide +kernel
theorem dX10_law_142 : decode cX10_law 142 = .ok (.iastore, 1) := by decide +kernel
theorem dX10_law_143 : decode cX10_law 143 = .ok (.iinc 3 1, 3) := by decide +kernel
theorem dX10_law_146 : decode cX10_law 146 = .ok (.goto (-47), 3) := by decide +kernel
theorem dX10_law_149 : decode cX10_law 149 = .ok (.iconst 0, 1) := by decide +kernel
theorem dX10_law_150 : decode cX10_law 150 = .ok (.istore_n 3, 1) := by decide +kernel
theorem dX10_law_151 : decode cX10_law 151 = .ok (.iload_n 3, 1) := by decide +kernel
theorem dX10_law_152 : decode cX10_law 152 = .ok (.aload_n 0, 1) := by decide +kernel
theorem dX10_law_153 : decode cX10_law 153 = .ok (.getfield 161, 3) := by decide +kernel
theorem dX10_law_156 : decode cX10_law 156 = .ok (.if_icmp .ge 21, 3) := by decide +kernel
theorem dX10_law_159 : decode cX10_law 159 = .ok (.aload_n 0, 1) := by decide +kernel
theorem dX10_law_160 : decode cX10_law 160 = .ok (.getfield 39, 3) := by decide +kernel
theorem dX10_law_163 : decode cX10_law 163 = .ok (.iload_n 3, 1) := by decide +kernel
theorem dX10_law_164 : decode cX10_law 164 = .ok (.aload_n 0, 1) := by decide +kernel
theorem dX10_law_165 : decode cX10_law 165 = .ok (.getfield 51, 3) := by decide +kernel
theorem dX10_law_168 : decode cX10_law 168 = .ok (.iload_n 3, 1) := by decide +kernel
theorem dX10_law_169 : decode cX10_law 169 = .ok (.iaload, 1) := by decide +kernel
theorem dX10_law_170 : decode cX10_law 170 = .ok (.iastore, 1) := by decide +kernel
theorem dX10_law_171 : decode cX10_law 171 = .ok (.iinc 3 1, 3) := by decide +kernel
theorem dX10_law_174 : decode cX10_law 174 = .ok (.goto (-23), 3) := by decide +kernel
theorem dX10_law_177 : decode cX10_law 177 = .ok (.iconst 1, 1) := by decide +kernel
theorem dX10_law_178 : decode cX10_law 178 = .ok (.ireturn, 1) := by decide +kernel
theorem dX10_both_0 : decode cX10_both 0 = .ok (.iload_n 0, 1) := by decide +kernel
theorem dX10_both_1 : decode cX10_both 1 = .ok (.tableswitch 136 6 14 #[51, 65, 79, 90, 101, 112, 116, 120, 124], 51) := by decide +kernel
theorem dX10_both_52 : decode cX10_both 52 = .ok (.iload_n 1, 1) := by decide +kernel
theorem dX10_both_53 : decode cX10_both 53 = .ok (.ifCond .ne 7, 3) := by decide +kernel
theorem dX10_both_56 : decode cX10_both 56 = .ok (.iload_n 2, 1) := by decide +kernel
theorem dX10_both_57 : decode cX10_both 57 = .ok (.ifCond .eq 7, 3) := by decide +kernel
theorem dX10_both_60 : decode cX10_both 60 = .ok (.iconst 1, 1) := by decide +kernel
theorem dX10_both_61 : decode cX10_both 61 = .ok (.goto 4, 3) := by decide +kernel
theorem dX10_both_64 : decode cX10_both 64 = .ok (.iconst 0, 1) := by decide +kernel
theorem dX10_both_65 : decode cX10_both 65 = .ok (.ireturn, 1) := by decide +kernel
theorem dX10_both_66 : decode cX10_both 66 = .ok (.iload_n 1, 1) := by decide +kernel
theorem dX10_both_67 : decode cX10_both 67 = .ok (.ifCond .eq 11, 3) := by decide +kernel
theorem dX10_both_70 : decode cX10_both 70 = .ok (.iload_n 2, 1) := by decide +kernel
theorem dX10_both_71 : decode cX10_both 71 = .ok (.ifCond .eq 7, 3) := by decide +kernel
theorem dX10_both_74 : decode cX10_both 74 = .ok (.iconst 1, 1) := by decide +kernel
theorem dX10_both_75 : decode cX10_both 75 = .ok (.goto 4, 3) := by decide +kernel
theorem dX10_both_78 : decode cX10_both 78 = .ok (.iconst 0, 1) := by decide +kernel
theorem dX10_both_79 : decode cX10_both 79 = .ok (.ireturn, 1) := by decide +kernel
theorem dX10_both_80 : decode cX10_both 80 = .ok (.iload_n 1, 1) := by decide +kernel
theorem dX10_both_81 : decode cX10_both 81 = .ok (.iload_n 2, 1) := by decide +kernel
theorem dX10_both_82 : decode cX10_both 82 = .ok (.if_icmp .ge 7, 3) := by decide +kernel
theorem dX10_both_85 : decode cX10_both 85 = .ok (.iconst 1, 1) := by decide +kernel
theorem dX10_both_86 : decode cX10_both 86 = .ok (.goto 4, 3) := by decide +kernel
theorem dX10_both_89 : decode cX10_both 89 = .ok (.iconst 0, 1) := by decide +kernel
theorem dX10_both_90 : decode cX10_both 90 = .ok (.ireturn, 1) := by decide +kernel
theorem dX10_both_91 : decode cX10_both 91 = .ok (.iload_n 1, 1) := by decide +kernel
theorem dX10_both_92 : decode cX10_both 92 = .ok (.iload_n 2, 1) := by decide +kernel
theorem dX10_both_93 : decode cX10_both 93 = .ok (.if_icmp .ne 7, 3) := by decide +kernel
theorem dX10_both_96 : decode cX10_both 96 = .ok (.iconst 1, 1) := by decide +kernel
theorem dX10_both_97 : decode cX10_both 97 = .ok (.goto 4, 3) := by decide +kernel
theorem dX10_both_100 : decode cX10_both 100 = .ok (.iconst 0, 1) := by decide +kernel
theorem dX10_both_101 : decode cX10_both 101 = .ok (.ireturn, 1) := by decide +kernel
theorem dX10_both_102 : decode cX10_both 102 = .ok (.iload_n 1, 1) := by decide +kernel
theorem dX10_both_103 : decode cX10_both 103 = .ok (.iload_n 2, 1) := by decide +kernel
theorem dX10_both_104 : decode cX10_both 104 = .ok (.if_icmp .le 7, 3) := by decide +kernel
theorem dX10_both_107 : decode cX10_both 107 = .ok (.iconst 1, 1) := by decide +kernel
theorem dX10_both_108 : decode cX10_both 108 = .ok (.goto 4, 3) := by decide +kernel
theorem dX10_both_111 : decode cX10_both 111 = .ok (.iconst 0, 1) := by decide +kernel
theorem dX10_both_112 : decode cX10_both 112 = .ok (.ireturn, 1) := by decide +kernel
theorem dX10_both_113 : decode cX10_both 113 = .ok (.iload_n 1, 1) := by decide +kernel
theorem dX10_both_114 : decode cX10_both 114 = .ok (.iload_n 2, 1) := by decide +kernel
theorem dX10_both_115 : decode cX10_both 115 = .ok (.iadd, 1) := by decide +kernel
theorem dX10_both_116 : decode cX10_both 116 = .ok (.ireturn, 1) := by decide +kernel
theorem dX10_both_117 : decode cX10_both 117 = .ok (.iload_n 1, 1) := by decide +kernel
theorem dX10_both_118 : decode cX10_both 118 = .ok (.iload_n 2, 1) := by decide +kernel
theorem dX10_both_119 : decode cX10_both 119 = .ok (.isub, 1) := by decide +kernel
theorem dX10_both_120 : decode cX10_both 120 = .ok (.ireturn, 1) := by decide +kernel
theorem dX10_both_121 : decode cX10_both 121 = .ok (.iload_n 1, 1) := by decide +kernel
theorem dX10_both_122 : decode cX10_both 122 = .ok (.iload_n 2, 1) := by decide +kernel
theorem dX10_both_123 : decode cX10_both 123 = .ok (.imul, 1) := by decide +kernel
theorem dX10_both_124 : decode cX10_both 124 = .ok (.ireturn, 1) := by decide +kernel
theorem dX10_both_125 : decode cX10_both 125 = .ok (.iload_n 2, 1) := by decide +kernel
theorem dX10_both_126 : decode cX10_both 126 = .ok (.ifCond .ne 7, 3) := by decide +kernel
theorem dX10_both_129 : decode cX10_both 129 = .ok (.iconst 0, 1) := by decide +kernel
theorem dX10_both_130 : decode cX10_both 130 = .ok (.goto 6, 3) := by decide +kernel
theorem dX10_both_133 : decode cX10_both 133 = .ok (.iload_n 1, 1) := by decide +kernel
theorem dX10_both_134 : decode cX10_both 134 = .ok (.iload_n 2, 1) := by decide +kernel
theorem dX10_both_135 : decode cX10_both 135 = .ok (.idiv, 1) := by decide +kernel
theorem dX10_both_136 : decode cX10_both 136 = .ok (.ireturn, 1) := by decide +kernel
theorem dX10_both_137 : decode cX10_both 137 = .ok (.iload_n 2, 1) := by decide +kernel
theorem dX10_both_138 : decode cX10_both 138 = .ok (.ifCond .ne 7, 3) := by decide +kernel
theorem dX10_both_141 : decode cX10_both 141 = .ok (.iconst 0, 1) := by decide +kernel
theorem dX10_both_142 : decode cX10_both 142 = .ok (.goto 6, 3) := by decide +kernel
theorem dX10_both_145 : decode cX10_both 145 = .ok (.iload_n 1, 1) := by decide +kernel
theorem dX10_both_146 : decode cX10_both 146 = .ok (.iload_n 2, 1) := by decide +kernel
theorem dX10_both_147 : decode cX10_both 147 = .ok (.irem, 1) := by decide +kernel
theorem dX10_both_148 : decode cX10_both 148 = .ok (.ireturn, 1) := by decide +kernel
theorem dX10_worked_0 : decode cX10_worked 0 = .ok (.iconst 0, 1) := by decide +kernel
theorem dX10_worked_1 : decode cX10_worked 1 = .ok (.istore_n 3, 1) := by decide +kernel
theorem dX10_worked_2 : decode cX10_worked 2 = .ok (.iload_n 1, 1) := by decide +kernel
theorem dX10_worked_3 : decode cX10_worked 3 = .ok (.istore 4, 2) := by decide +kernel
theorem dX10_worked_5 : decode cX10_worked 5 = .ok (.iload 4, 2) := by decide +kernel
theorem dX10_worked_7 : decode cX10_worked 7 = .ok (.iload_n 2, 1) := by decide +kernel
theorem dX10_worked_8 : decode cX10_worked 8 = .ok (.if_icmp .ge 155, 3) := by decide +kernel
theorem dX10_worked_11 : decode cX10_worked 11 = .ok (.aload_n 0, 1) := by decide +kernel
theorem dX10_worked_12 : decode cX10_worked 12 = .ok (.getfield 39, 3) := by decide +kernel
theorem dX10_worked_15 : decode cX10_worked 15 = .ok (.iload 4, 2) := by decide +kernel
theorem dX10_worked_17 : decode cX10_worked 17 = .ok (.iaload, 1) := by decide +kernel
theorem dX10_worked_18 : decode cX10_worked 18 = .ok (.istore 5, 2) := by decide +kernel
theorem dX10_worked_20 : decode cX10_worked 20 = .ok (.iload 5, 2) := by decide +kernel
theorem dX10_worked_22 : decode cX10_worked 22 = .ok (.bipush 18, 2) := by decide +kernel
theorem dX10_worked_24 : decode cX10_worked 24 = .ok (.if_icmp .ge 9, 3) := by decide +kernel
theorem dX10_worked_27 : decode cX10_worked 27 = .ok (.iload 5, 2) := by decide +kernel
theorem dX10_worked_29 : decode cX10_worked 29 = .ok (.iconst 5, 1) := by decide +kernel
theorem dX10_worked_30 : decode cX10_worked 30 = .ok (.if_icmp .gt 37, 3) := by decide +kernel
theorem dX10_worked_33 : decode cX10_worked 33 = .ok (.aload_n 0, 1) := by decide +kernel
theorem dX10_worked_34 : decode cX10_worked 34 = .ok (.getfield 54, 3) := by decide +kernel
theorem dX10_worked_37 : decode cX10_worked 37 = .ok (.iload_n 3, 1) := by decide +kernel
theorem dX10_worked_38 : decode cX10_worked 38 = .ok (.iinc 3 1, 3) := by decide +kernel
theorem dX10_worked_41 : decode cX10_worked 41 = .ok (.iload 5, 2) := by decide +kernel
theorem dX10_worked_43 : decode cX10_worked 43 = .ok (.bipush 18, 2) := by decide +kernel
theorem dX10_worked_45 : decode cX10_worked 45 = .ok (.if_icmp .lt 11, 3) := by decide +kernel
theorem dX10_worked_48 : decode cX10_worked 48 = .ok (.iload 5, 2) := by decide +kernel
theorem dX10_worked_50 : decode cX10_worked 50 = .ok (.bipush 18, 2) := by decide +kernel
theorem dX10_worked_52 : decode cX10_worked 52 = .ok (.isub, 1) := by decide +kernel
theorem dX10_worked_53 : decode cX10_worked 53 = .ok (.goto 10, 3) := by decide +kernel
theorem dX10_worked_56 : decode cX10_worked 56 = .ok (.aload_n 0, 1) := by decide +kernel
theorem dX10_worked_57 : decode cX10_worked 57 = .ok (.getfield 57, 3) := by decide +kernel
theorem dX10_worked_60 : decode cX10_worked 60 = .ok (.iload 5, 2) := by decide +kernel
theorem dX10_worked_62 : decode cX10_worked 62 = .ok (.iaload, 1) := by decide +kernel
theorem dX10_worked_63 : decode cX10_worked 63 = .ok (.iastore, 1) := by decide +kernel
theorem dX10_worked_64 : decode cX10_worked 64 = .ok (.goto 93, 3) := by decide +kernel
theorem dX10_worked_67 : decode cX10_worked 67 = .ok (.iload 5, 2) := by decide +kernel
theorem dX10_worked_69 : decode cX10_worked 69 = .ok (.bipush 16, 2) := by decide +kernel
theorem dX10_worked_71 : decode cX10_worked 71 = .ok (.if_icmp .eq 10, 3) := by decide +kernel
theorem dX10_worked_74 : decode cX10_worked 74 = .ok (.iload 5, 2) := by decide +kernel
theorem dX10_worked_76 : decode cX10_worked 76 = .ok (.bipush 17, 2) := by decide +kernel
theorem dX10_worked_78 : decode cX10_worked 78 = .ok (.if_icmp .ne 49, 3) := by decide +kernel
theorem dX10_worked_81 : decode cX10_worked 81 = .ok (.aload_n 0, 1) := by decide +kernel
theorem dX10_worked_82 : decode cX10_worked 82 = .ok (.getfield 54, 3) := by decide +kernel
theorem dX10_worked_85 : decode cX10_worked 85 = .ok (.iload_n 3, 1) := by decide +kernel
theorem dX10_worked_86 : decode cX10_worked 86 = .ok (.iconst 1, 1) := by decide +kernel
theorem dX10_worked_87 : decode cX10_worked 87 = .ok (.isub, 1) := by decide +kernel
theorem dX10_worked_88 : decode cX10_worked 88 = .ok (.iload 5, 2) := by decide +kernel
theorem dX10_worked_90 : decode cX10_worked 90 = .ok (.bipush 17, 2) := by decide +kernel
theorem dX10_worked_92 : decode cX10_worked 92 = .ok (.if_icmp .ne 15, 3) := by decide +kernel
theorem dX10_worked_95 : decode cX10_worked 95 = .ok (.aload_n 0, 1) := by decide +kernel
theorem dX10_worked_96 : decode cX10_worked 96 = .ok (.getfield 54, 3) := by decide +kernel
theorem dX10_worked_99 : decode cX10_worked 99 = .ok (.iload_n 3, 1) := by decide +kernel
theorem dX10_worked_100 : decode cX10_worked 100 = .ok (.iconst 1, 1) := by decide +kernel
theorem dX10_worked_101 : decode cX10_worked 101 = .ok (.isub, 1) := by decide +kernel
theorem dX10_worked_102 : decode cX10_worked 102 = .ok (.iaload, 1) := by decide +kernel
theorem dX10_worked_103 : decode cX10_worked 103 = .ok (.ineg, 1) := by decide +kernel
theorem dX10_worked_104 : decode cX10_worked 104 = .ok (.goto 19, 3) := by decide +kernel
theorem dX10_worked_107 : decode cX10_worked 107 = .ok (.aload_n 0, 1) := by decide +kernel
theorem dX10_worked_108 : decode cX10_worked 108 = .ok (.getfield 54, 3) := by decide +kernel
theorem dX10_worked_111 : decode cX10_worked 111 = .ok (.iload_n 3, 1) := by decide +kernel
theorem dX10_worked_112 : decode cX10_worked 112 = .ok (.iconst 1, 1) := by decide +kernel
theorem dX10_worked_113 : decode cX10_worked 113 = .ok (.isub, 1) := by decide +kernel
theorem dX10_worked_114 : decode cX10_worked 114 = .ok (.iaload, 1) := by decide +kernel
theorem dX10_worked_115 : decode cX10_worked 115 = .ok (.ifCond .ne 7, 3) := by decide +kernel
theorem dX10_worked_118 : decode cX10_worked 118 = .ok (.iconst 1, 1) := by decide +kernel
theorem dX10_worked_119 : decode cX10_worked 119 = .ok (.goto 4, 3) := by decide +kernel
theorem dX10_worked_122 : decode cX10_worked 122 = .ok (.iconst 0, 1) := by decide +kernel
theorem dX10_worked_123 : decode cX10_worked 123 = .ok (.iastore, 1) := by decide +kernel
theorem dX10_worked_124 : decode cX10_worked 124 = .ok (.goto 33, 3) := by decide +kernel
theorem dX10_worked_127 : decode cX10_worked 127 = .ok (.iinc 3 (-1), 3) := by decide +kernel
theorem dX10_worked_130 : decode cX10_worked 130 = .ok (.aload_n 0, 1) := by decide +kernel
theorem dX10_worked_131 : decode cX10_worked 131 = .ok (.getfield 54, 3) := by decide +kernel
theorem dX10_worked_134 : decode cX10_worked 134 = .ok (.iload_n 3, 1) := by decide +kernel
theorem dX10_worked_135 : decode cX10_worked 135 = .ok (.iconst 1, 1) := by decide +kernel
theorem dX10_worked_136 : decode cX10_worked 136 = .ok (.isub, 1) := by decide +kernel
theorem dX10_worked_137 : decode cX10_worked 137 = .ok (.iload 5, 2) := by decide +kernel
theorem dX10_worked_139 : decode cX10_worked 139 = .ok (.aload_n 0, 1) := by decide +kernel
theorem dX10_worked_140 : decode cX10_worked 140 = .ok (.getfield 54, 3) := by decide +kernel
theorem dX10_worked_143 : decode cX10_worked 143 = .ok (.iload_n 3, 1) := by decide +kernel
theorem dX10_worked_144 : decode cX10_worked 144 = .ok (.iconst 1, 1) := by decide +kernel
theorem dX10_worked_145 : decode cX10_worked 145 = .ok (.isub, 1) := by decide +kernel
theorem dX10_worked_146 : decode cX10_worked 146 = .ok (.iaload, 1) := by decide +kernel
theorem dX10_worked_147 : decode cX10_worked 147 = .ok (.aload_n 0, 1) := by decide +kernel
theorem dX10_worked_148 : decode cX10_worked 148 = .ok (.getfield 54, 3) := by decide +kernel
theorem dX10_worked_151 : decode cX10_worked 151 = .ok (.iload_n 3, 1) := by decide +kernel
theorem dX10_worked_152 : decode cX10_worked 152 = .ok (.iaload, 1) := by decide +kernel
theorem dX10_worked_153 : decode cX10_worked 153 = .ok (.invokestatic 212, 3) := by decide +kernel
theorem dX10_worked_156 : decode cX10_worked 156 = .ok (.iastore, 1) := by decide +kernel
theorem dX10_worked_157 : decode cX10_worked 157 = .ok (.iinc 4 1, 3) := by decide +kernel
theorem dX10_worked_160 : decode cX10_worked 160 = .ok (.goto (-155), 3) := by decide +kernel
theorem dX10_worked_163 : decode cX10_worked 163 = .ok (.aload_n 0, 1) := by decide +kernel
theorem dX10_worked_164 : decode cX10_worked 164 = .ok (.getfield 54, 3) := by decide +kernel
theorem dX10_worked_167 : decode cX10_worked 167 = .ok (.iconst 0, 1) := by decide +kernel
theorem dX10_worked_168 : decode cX10_worked 168 = .ok (.iaload, 1) := by decide +kernel
theorem dX10_worked_169 : decode cX10_worked 169 = .ok (.ireturn, 1) := by decide +kernel
theorem dX10_beside_0 : decode cX10_beside 0 = .ok (.iload_n 1, 1) := by decide +kernel
theorem dX10_beside_1 : decode cX10_beside 1 = .ok (.tableswitch 75 0 2 #[27, 42, 58], 27) := by decide +kernel
theorem dX10_beside_28 : decode cX10_beside 28 = .ok (.iload_n 0, 1) := by decide +kernel
theorem dX10_beside_29 : decode cX10_beside 29 = .ok (.bipush 6, 2) := by decide +kernel
theorem dX10_beside_31 : decode cX10_beside 31 = .ok (.if_icmp .ge 7, 3) := by decide +kernel
theorem dX10_beside_34 : decode cX10_beside 34 = .ok (.iconst (-1), 1) := by decide +kernel
theorem dX10_beside_35 : decode cX10_beside 35 = .ok (.goto 7, 3) := by decide +kernel
theorem dX10_beside_38 : decode cX10_beside 38 = .ok (.iload_n 0, 1) := by decide +kernel
theorem dX10_beside_39 : decode cX10_beside 39 = .ok (.bipush 6, 2) := by decide +kernel
theorem dX10_beside_41 : decode cX10_beside 41 = .ok (.isub, 1) := by decide +kernel
theorem dX10_beside_42 : decode cX10_beside 42 = .ok (.ireturn, 1) := by decide +kernel
theorem dX10_beside_43 : decode cX10_beside 43 = .ok (.iload_n 0, 1) := by decide +kernel
theorem dX10_beside_44 : decode cX10_beside 44 = .ok (.bipush 6, 2) := by decide +kernel
theorem dX10_beside_46 : decode cX10_beside 46 = .ok (.irem, 1) := by decide +kernel
end
section
theorem dX10_beside_47 : decode cX10_beside 47 = .ok (.iconst 5, 1) := by decide +kernel
theorem dX10_beside_48 : decode cX10_beside 48 = .ok (.if_icmp .ne 7, 3) := by decide +kernel
theorem dX10_beside_51 : decode cX10_beside 51 = .ok (.iconst (-1), 1) := by decide +kernel
theorem dX10_beside_52 : decode cX10_beside 52 = .ok (.goto 6, 3) := by decide +kernel
theorem dX10_beside_55 : decode cX10_beside 55 = .ok (.iload_n 0, 1) := by decide +kernel
theorem dX10_beside_56 : decode cX10_beside 56 = .ok (.iconst 1, 1) := by decide +kernel
theorem dX10_beside_57 : decode cX10_beside 57 = .ok (.iadd, 1) := by decide +kernel
theorem dX10_beside_58 : decode cX10_beside 58 = .ok (.ireturn, 1) := by decide +kernel
theorem dX10_beside_59 : decode cX10_beside 59 = .ok (.iload_n 0, 1) := by decide +kernel
theorem dX10_beside_60 : decode cX10_beside 60 = .ok (.bipush 6, 2) := by decide +kernel
theorem dX10_beside_62 : decode cX10_beside 62 = .ok (.idiv, 1) := by decide +kernel
theorem dX10_beside_63 : decode cX10_beside 63 = .ok (.iconst 4, 1) := by decide +kernel
theorem dX10_beside_64 : decode cX10_beside 64 = .ok (.if_icmp .ne 7, 3) := by decide +kernel
theorem dX10_beside_67 : decode cX10_beside 67 = .ok (.iconst (-1), 1) := by decide +kernel
theorem dX10_beside_68 : decode cX10_beside 68 = .ok (.goto 7, 3) := by decide +kernel
theorem dX10_beside_71 : decode cX10_beside 71 = .ok (.iload_n 0, 1) := by decide +kernel
theorem dX10_beside_72 : decode cX10_beside 72 = .ok (.bipush 6, 2) := by decide +kernel
theorem dX10_beside_74 : decode cX10_beside 74 = .ok (.iadd, 1) := by decide +kernel
theorem dX10_beside_75 : decode cX10_beside 75 = .ok (.ireturn, 1) := by decide +kernel
theorem dX10_beside_76 : decode cX10_beside 76 = .ok (.iload_n 0, 1) := by decide +kernel
theorem dX10_beside_77 : decode cX10_beside 77 = .ok (.bipush 6, 2) := by decide +kernel
theorem dX10_beside_79 : decode cX10_beside 79 = .ok (.irem, 1) := by decide +kernel
theorem dX10_beside_80 : decode cX10_beside 80 = .ok (.ifCond .ne 7, 3) := by decide +kernel
theorem dX10_beside_83 : decode cX10_beside 83 = .ok (.iconst (-1), 1) := by decide +kernel
theorem dX10_beside_84 : decode cX10_beside 84 = .ok (.goto 6, 3) := by decide +kernel
theorem dX10_beside_87 : decode cX10_beside 87 = .ok (.iload_n 0, 1) := by decide +kernel
theorem dX10_beside_88 : decode cX10_beside 88 = .ok (.iconst 1, 1) := by decide +kernel
theorem dX10_beside_89 : decode cX10_beside 89 = .ok (.isub, 1) := by decide +kernel
theorem dX10_beside_90 : decode cX10_beside 90 = .ok (.ireturn, 1) := by decide +kernel
theorem dX10_near_0 : decode cX10_near 0 = .ok (.iconst 0, 1) := by decide +kernel
theorem dX10_near_1 : decode cX10_near 1 = .ok (.istore_n 2, 1) := by decide +kernel
theorem dX10_near_2 : decode cX10_near 2 = .ok (.iconst 0, 1) := by decide +kernel
theorem dX10_near_3 : decode cX10_near 3 = .ok (.istore_n 3, 1) := by decide +kernel
theorem dX10_near_4 : decode cX10_near 4 = .ok (.iload_n 3, 1) := by decide +kernel
theorem dX10_near_5 : decode cX10_near 5 = .ok (.iconst 4, 1) := by decide +kernel
theorem dX10_near_6 : decode cX10_near 6 = .ok (.if_icmp .ge 30, 3) := by decide +kernel
theorem dX10_near_9 : decode cX10_near 9 = .ok (.iload_n 1, 1) := by decide +kernel
theorem dX10_near_10 : decode cX10_near 10 = .ok (.iload_n 3, 1) := by decide +kernel
theorem dX10_near_11 : decode cX10_near 11 = .ok (.invokestatic 215, 3) := by decide +kernel
theorem dX10_near_14 : decode cX10_near 14 = .ok (.ifCond .lt 16, 3) := by decide +kernel
theorem dX10_near_17 : decode cX10_near 17 = .ok (.iload_n 2, 1) := by decide +kernel
theorem dX10_near_18 : decode cX10_near 18 = .ok (.aload_n 0, 1) := by decide +kernel
theorem dX10_near_19 : decode cX10_near 19 = .ok (.getfield 15, 3) := by decide +kernel
theorem dX10_near_22 : decode cX10_near 22 = .ok (.iload_n 1, 1) := by decide +kernel
theorem dX10_near_23 : decode cX10_near 23 = .ok (.iload_n 3, 1) := by decide +kernel
theorem dX10_near_24 : decode cX10_near 24 = .ok (.invokestatic 215, 3) := by decide +kernel
theorem dX10_near_27 : decode cX10_near 27 = .ok (.iaload, 1) := by decide +kernel
theorem dX10_near_28 : decode cX10_near 28 = .ok (.iadd, 1) := by decide +kernel
theorem dX10_near_29 : decode cX10_near 29 = .ok (.istore_n 2, 1) := by decide +kernel
theorem dX10_near_30 : decode cX10_near 30 = .ok (.iinc 3 1, 3) := by decide +kernel
theorem dX10_near_33 : decode cX10_near 33 = .ok (.goto (-29), 3) := by decide +kernel
theorem dX10_near_36 : decode cX10_near 36 = .ok (.iload_n 2, 1) := by decide +kernel
theorem dX10_near_37 : decode cX10_near 37 = .ok (.ireturn, 1) := by decide +kernel
theorem dX10_byLaw_0 : decode cX10_byLaw 0 = .ok (.aload_n 0, 1) := by decide +kernel
theorem dX10_byLaw_1 : decode cX10_byLaw 1 = .ok (.getfield 57, 3) := by decide +kernel
theorem dX10_byLaw_4 : decode cX10_byLaw 4 = .ok (.iconst 0, 1) := by decide +kernel
theorem dX10_byLaw_5 : decode cX10_byLaw 5 = .ok (.aload_n 0, 1) := by decide +kernel
theorem dX10_byLaw_6 : decode cX10_byLaw 6 = .ok (.getfield 9, 3) := by decide +kernel
theorem dX10_byLaw_9 : decode cX10_byLaw 9 = .ok (.iload_n 1, 1) := by decide +kernel
theorem dX10_byLaw_10 : decode cX10_byLaw 10 = .ok (.iaload, 1) := by decide +kernel
theorem dX10_byLaw_11 : decode cX10_byLaw 11 = .ok (.iastore, 1) := by decide +kernel
theorem dX10_byLaw_12 : decode cX10_byLaw 12 = .ok (.aload_n 0, 1) := by decide +kernel
theorem dX10_byLaw_13 : decode cX10_byLaw 13 = .ok (.getfield 57, 3) := by decide +kernel
theorem dX10_byLaw_16 : decode cX10_byLaw 16 = .ok (.iconst 1, 1) := by decide +kernel
theorem dX10_byLaw_17 : decode cX10_byLaw 17 = .ok (.aload_n 0, 1) := by decide +kernel
theorem dX10_byLaw_18 : decode cX10_byLaw 18 = .ok (.getfield 15, 3) := by decide +kernel
theorem dX10_byLaw_21 : decode cX10_byLaw 21 = .ok (.iload_n 1, 1) := by decide +kernel
theorem dX10_byLaw_22 : decode cX10_byLaw 22 = .ok (.iaload, 1) := by decide +kernel
theorem dX10_byLaw_23 : decode cX10_byLaw 23 = .ok (.iastore, 1) := by decide +kernel
theorem dX10_byLaw_24 : decode cX10_byLaw 24 = .ok (.aload_n 0, 1) := by decide +kernel
theorem dX10_byLaw_25 : decode cX10_byLaw 25 = .ok (.getfield 57, 3) := by decide +kernel
theorem dX10_byLaw_28 : decode cX10_byLaw 28 = .ok (.iconst 2, 1) := by decide +kernel
theorem dX10_byLaw_29 : decode cX10_byLaw 29 = .ok (.aload_n 0, 1) := by decide +kernel
theorem dX10_byLaw_30 : decode cX10_byLaw 30 = .ok (.getfield 18, 3) := by decide +kernel
theorem dX10_byLaw_33 : decode cX10_byLaw 33 = .ok (.iload_n 1, 1) := by decide +kernel
theorem dX10_byLaw_34 : decode cX10_byLaw 34 = .ok (.iaload, 1) := by decide +kernel
theorem dX10_byLaw_35 : decode cX10_byLaw 35 = .ok (.iastore, 1) := by decide +kernel
theorem dX10_byLaw_36 : decode cX10_byLaw 36 = .ok (.aload_n 0, 1) := by decide +kernel
theorem dX10_byLaw_37 : decode cX10_byLaw 37 = .ok (.getfield 57, 3) := by decide +kernel
theorem dX10_byLaw_40 : decode cX10_byLaw 40 = .ok (.iconst 3, 1) := by decide +kernel
theorem dX10_byLaw_41 : decode cX10_byLaw 41 = .ok (.aload_n 0, 1) := by decide +kernel
theorem dX10_byLaw_42 : decode cX10_byLaw 42 = .ok (.getfield 24, 3) := by decide +kernel
theorem dX10_byLaw_45 : decode cX10_byLaw 45 = .ok (.iconst 0, 1) := by decide +kernel
theorem dX10_byLaw_46 : decode cX10_byLaw 46 = .ok (.iaload, 1) := by decide +kernel
theorem dX10_byLaw_47 : decode cX10_byLaw 47 = .ok (.iastore, 1) := by decide +kernel
theorem dX10_byLaw_48 : decode cX10_byLaw 48 = .ok (.aload_n 0, 1) := by decide +kernel
theorem dX10_byLaw_49 : decode cX10_byLaw 49 = .ok (.getfield 57, 3) := by decide +kernel
theorem dX10_byLaw_52 : decode cX10_byLaw 52 = .ok (.iconst 4, 1) := by decide +kernel
theorem dX10_byLaw_53 : decode cX10_byLaw 53 = .ok (.aload_n 0, 1) := by decide +kernel
theorem dX10_byLaw_54 : decode cX10_byLaw 54 = .ok (.iload_n 1, 1) := by decide +kernel
theorem dX10_byLaw_55 : decode cX10_byLaw 55 = .ok (.invokevirtual 218, 3) := by decide +kernel
theorem dX10_byLaw_58 : decode cX10_byLaw 58 = .ok (.iastore, 1) := by decide +kernel
theorem dX10_byLaw_59 : decode cX10_byLaw 59 = .ok (.aload_n 0, 1) := by decide +kernel
theorem dX10_byLaw_60 : decode cX10_byLaw 60 = .ok (.getfield 57, 3) := by decide +kernel
theorem dX10_byLaw_63 : decode cX10_byLaw 63 = .ok (.iconst 5, 1) := by decide +kernel
theorem dX10_byLaw_64 : decode cX10_byLaw 64 = .ok (.iload_n 1, 1) := by decide +kernel
theorem dX10_byLaw_65 : decode cX10_byLaw 65 = .ok (.bipush 6, 2) := by decide +kernel
theorem dX10_byLaw_67 : decode cX10_byLaw 67 = .ok (.idiv, 1) := by decide +kernel
theorem dX10_byLaw_68 : decode cX10_byLaw 68 = .ok (.iastore, 1) := by decide +kernel
theorem dX10_byLaw_69 : decode cX10_byLaw 69 = .ok (.iconst 0, 1) := by decide +kernel
theorem dX10_byLaw_70 : decode cX10_byLaw 70 = .ok (.istore_n 2, 1) := by decide +kernel
theorem dX10_byLaw_71 : decode cX10_byLaw 71 = .ok (.iload_n 2, 1) := by decide +kernel
theorem dX10_byLaw_72 : decode cX10_byLaw 72 = .ok (.aload_n 0, 1) := by decide +kernel
theorem dX10_byLaw_73 : decode cX10_byLaw 73 = .ok (.getfield 209, 3) := by decide +kernel
theorem dX10_byLaw_76 : decode cX10_byLaw 76 = .ok (.if_icmp .ge 63, 3) := by decide +kernel
theorem dX10_byLaw_79 : decode cX10_byLaw 79 = .ok (.aload_n 0, 1) := by decide +kernel
theorem dX10_byLaw_80 : decode cX10_byLaw 80 = .ok (.getfield 33, 3) := by decide +kernel
theorem dX10_byLaw_83 : decode cX10_byLaw 83 = .ok (.iload_n 2, 1) := by decide +kernel
theorem dX10_byLaw_84 : decode cX10_byLaw 84 = .ok (.iaload, 1) := by decide +kernel
theorem dX10_byLaw_85 : decode cX10_byLaw 85 = .ok (.aload_n 0, 1) := by decide +kernel
theorem dX10_byLaw_86 : decode cX10_byLaw 86 = .ok (.getfield 30, 3) := by decide +kernel
theorem dX10_byLaw_89 : decode cX10_byLaw 89 = .ok (.iload_n 2, 1) := by decide +kernel
theorem dX10_byLaw_90 : decode cX10_byLaw 90 = .ok (.iaload, 1) := by decide +kernel
theorem dX10_byLaw_91 : decode cX10_byLaw 91 = .ok (.if_icmp .le 25, 3) := by decide +kernel
theorem dX10_byLaw_94 : decode cX10_byLaw 94 = .ok (.aload_n 0, 1) := by decide +kernel
theorem dX10_byLaw_95 : decode cX10_byLaw 95 = .ok (.aload_n 0, 1) := by decide +kernel
theorem dX10_byLaw_96 : decode cX10_byLaw 96 = .ok (.getfield 30, 3) := by decide +kernel
theorem dX10_byLaw_99 : decode cX10_byLaw 99 = .ok (.iload_n 2, 1) := by decide +kernel
theorem dX10_byLaw_100 : decode cX10_byLaw 100 = .ok (.iaload, 1) := by decide +kernel
theorem dX10_byLaw_101 : decode cX10_byLaw 101 = .ok (.aload_n 0, 1) := by decide +kernel
theorem dX10_byLaw_102 : decode cX10_byLaw 102 = .ok (.getfield 33, 3) := by decide +kernel
theorem dX10_byLaw_105 : decode cX10_byLaw 105 = .ok (.iload_n 2, 1) := by decide +kernel
theorem dX10_byLaw_106 : decode cX10_byLaw 106 = .ok (.iaload, 1) := by decide +kernel
theorem dX10_byLaw_107 : decode cX10_byLaw 107 = .ok (.invokevirtual 221, 3) := by decide +kernel
theorem dX10_byLaw_110 : decode cX10_byLaw 110 = .ok (.ifCond .ne 6, 3) := by decide +kernel
theorem dX10_byLaw_113 : decode cX10_byLaw 113 = .ok (.goto 20, 3) := by decide +kernel
theorem dX10_byLaw_116 : decode cX10_byLaw 116 = .ok (.aload_n 0, 1) := by decide +kernel
theorem dX10_byLaw_117 : decode cX10_byLaw 117 = .ok (.aload_n 0, 1) := by decide +kernel
theorem dX10_byLaw_118 : decode cX10_byLaw 118 = .ok (.getfield 33, 3) := by decide +kernel
theorem dX10_byLaw_121 : decode cX10_byLaw 121 = .ok (.iload_n 2, 1) := by decide +kernel
theorem dX10_byLaw_122 : decode cX10_byLaw 122 = .ok (.iaload, 1) := by decide +kernel
theorem dX10_byLaw_123 : decode cX10_byLaw 123 = .ok (.aload_n 0, 1) := by decide +kernel
theorem dX10_byLaw_124 : decode cX10_byLaw 124 = .ok (.getfield 36, 3) := by decide +kernel
theorem dX10_byLaw_127 : decode cX10_byLaw 127 = .ok (.iload_n 2, 1) := by decide +kernel
theorem dX10_byLaw_128 : decode cX10_byLaw 128 = .ok (.iaload, 1) := by decide +kernel
theorem dX10_byLaw_129 : decode cX10_byLaw 129 = .ok (.invokevirtual 221, 3) := by decide +kernel
theorem dX10_byLaw_132 : decode cX10_byLaw 132 = .ok (.ireturn, 1) := by decide +kernel
theorem dX10_byLaw_133 : decode cX10_byLaw 133 = .ok (.iinc 2 1, 3) := by decide +kernel
theorem dX10_byLaw_136 : decode cX10_byLaw 136 = .ok (.goto (-65), 3) := by decide +kernel
theorem dX10_byLaw_139 : decode cX10_byLaw 139 = .ok (.iconst 0, 1) := by decide +kernel
theorem dX10_byLaw_140 : decode cX10_byLaw 140 = .ok (.ireturn, 1) := by decide +kernel
theorem dX10_warmth_0 : decode cX10_warmth 0 = .ok (.aload_n 0, 1) := by decide +kernel
theorem dX10_warmth_1 : decode cX10_warmth 1 = .ok (.getfield 205, 3) := by decide +kernel
theorem dX10_warmth_4 : decode cX10_warmth 4 = .ok (.ifCond .eq 11, 3) := by decide +kernel
theorem dX10_warmth_7 : decode cX10_warmth 7 = .ok (.aload_n 0, 1) := by decide +kernel
theorem dX10_warmth_8 : decode cX10_warmth 8 = .ok (.iload_n 1, 1) := by decide +kernel
theorem dX10_warmth_9 : decode cX10_warmth 9 = .ok (.invokevirtual 224, 3) := by decide +kernel
theorem dX10_warmth_12 : decode cX10_warmth 12 = .ok (.goto 31, 3) := by decide +kernel
theorem dX10_warmth_15 : decode cX10_warmth 15 = .ok (.aload_n 0, 1) := by decide +kernel
theorem dX10_warmth_16 : decode cX10_warmth 16 = .ok (.getfield 9, 3) := by decide +kernel
theorem dX10_warmth_19 : decode cX10_warmth 19 = .ok (.iload_n 1, 1) := by decide +kernel
theorem dX10_warmth_20 : decode cX10_warmth 20 = .ok (.iaload, 1) := by decide +kernel
theorem dX10_warmth_21 : decode cX10_warmth 21 = .ok (.aload_n 0, 1) := by decide +kernel
theorem dX10_warmth_22 : decode cX10_warmth 22 = .ok (.getfield 15, 3) := by decide +kernel
theorem dX10_warmth_25 : decode cX10_warmth 25 = .ok (.iload_n 1, 1) := by decide +kernel
theorem dX10_warmth_26 : decode cX10_warmth 26 = .ok (.iaload, 1) := by decide +kernel
theorem dX10_warmth_27 : decode cX10_warmth 27 = .ok (.imul, 1) := by decide +kernel
theorem dX10_warmth_28 : decode cX10_warmth 28 = .ok (.aload_n 0, 1) := by decide +kernel
theorem dX10_warmth_29 : decode cX10_warmth 29 = .ok (.iload_n 1, 1) := by decide +kernel
theorem dX10_warmth_30 : decode cX10_warmth 30 = .ok (.invokevirtual 218, 3) := by decide +kernel
theorem dX10_warmth_33 : decode cX10_warmth 33 = .ok (.iconst 4, 1) := by decide +kernel
theorem dX10_warmth_34 : decode cX10_warmth 34 = .ok (.idiv, 1) := by decide +kernel
theorem dX10_warmth_35 : decode cX10_warmth 35 = .ok (.iadd, 1) := by decide +kernel
theorem dX10_warmth_36 : decode cX10_warmth 36 = .ok (.aload_n 0, 1) := by decide +kernel
theorem dX10_warmth_37 : decode cX10_warmth 37 = .ok (.getfield 18, 3) := by decide +kernel
theorem dX10_warmth_40 : decode cX10_warmth 40 = .ok (.iload_n 1, 1) := by decide +kernel
theorem dX10_warmth_41 : decode cX10_warmth 41 = .ok (.iaload, 1) := by decide +kernel
theorem dX10_warmth_42 : decode cX10_warmth 42 = .ok (.isub, 1) := by decide +kernel
theorem dX10_warmth_43 : decode cX10_warmth 43 = .ok (.istore_n 2, 1) := by decide +kernel
theorem dX10_warmth_44 : decode cX10_warmth 44 = .ok (.iconst 0, 1) := by decide +kernel
theorem dX10_warmth_45 : decode cX10_warmth 45 = .ok (.bipush 99, 2) := by decide +kernel
theorem dX10_warmth_47 : decode cX10_warmth 47 = .ok (.iload_n 2, 1) := by decide +kernel
theorem dX10_warmth_48 : decode cX10_warmth 48 = .ok (.invokestatic 227, 3) := by decide +kernel
theorem dX10_warmth_51 : decode cX10_warmth 51 = .ok (.invokestatic 232, 3) := by decide +kernel
theorem dX10_warmth_54 : decode cX10_warmth 54 = .ok (.ireturn, 1) := by decide +kernel
theorem dX10_isCold_0 : decode cX10_isCold 0 = .ok (.aload_n 0, 1) := by decide +kernel
theorem dX10_isCold_1 : decode cX10_isCold 1 = .ok (.getfield 21, 3) := by decide +kernel
theorem dX10_isCold_4 : decode cX10_isCold 4 = .ok (.bipush 16, 2) := by decide +kernel
theorem dX10_isCold_6 : decode cX10_isCold 6 = .ok (.iload_n 1, 1) := by decide +kernel
theorem dX10_isCold_7 : decode cX10_isCold 7 = .ok (.iadd, 1) := by decide +kernel
theorem dX10_isCold_8 : decode cX10_isCold 8 = .ok (.iaload, 1) := by decide +kernel
theorem dX10_isCold_9 : decode cX10_isCold 9 = .ok (.aload_n 0, 1) := by decide +kernel
theorem dX10_isCold_10 : decode cX10_isCold 10 = .ok (.getfield 24, 3) := by decide +kernel
theorem dX10_isCold_13 : decode cX10_isCold 13 = .ok (.iconst 0, 1) := by decide +kernel
theorem dX10_isCold_14 : decode cX10_isCold 14 = .ok (.iaload, 1) := by decide +kernel
theorem dX10_isCold_15 : decode cX10_isCold 15 = .ok (.ishr, 1) := by decide +kernel
theorem dX10_isCold_16 : decode cX10_isCold 16 = .ok (.iconst 1, 1) := by decide +kernel
theorem dX10_isCold_17 : decode cX10_isCold 17 = .ok (.iand, 1) := by decide +kernel
theorem dX10_isCold_18 : decode cX10_isCold 18 = .ok (.iconst 1, 1) := by decide +kernel
theorem dX10_isCold_19 : decode cX10_isCold 19 = .ok (.if_icmp .ne 29, 3) := by decide +kernel
theorem dX10_isCold_22 : decode cX10_isCold 22 = .ok (.aload_n 0, 1) := by decide +kernel
theorem dX10_isCold_23 : decode cX10_isCold 23 = .ok (.aload_n 0, 1) := by decide +kernel
theorem dX10_isCold_24 : decode cX10_isCold 24 = .ok (.getfield 21, 3) := by decide +kernel
theorem dX10_isCold_27 : decode cX10_isCold 27 = .ok (.iload_n 1, 1) := by decide +kernel
theorem dX10_isCold_28 : decode cX10_isCold 28 = .ok (.iaload, 1) := by decide +kernel
theorem dX10_isCold_29 : decode cX10_isCold 29 = .ok (.invokevirtual 235, 3) := by decide +kernel
theorem dX10_isCold_32 : decode cX10_isCold 32 = .ok (.aload_n 0, 1) := by decide +kernel
theorem dX10_isCold_33 : decode cX10_isCold 33 = .ok (.getfield 21, 3) := by decide +kernel
theorem dX10_isCold_36 : decode cX10_isCold 36 = .ok (.bipush 8, 2) := by decide +kernel
theorem dX10_isCold_38 : decode cX10_isCold 38 = .ok (.iload_n 1, 1) := by decide +kernel
theorem dX10_isCold_39 : decode cX10_isCold 39 = .ok (.iadd, 1) := by decide +kernel
theorem dX10_isCold_40 : decode cX10_isCold 40 = .ok (.iaload, 1) := by decide +kernel
theorem dX10_isCold_41 : decode cX10_isCold 41 = .ok (.if_icmp .ge 7, 3) := by decide +kernel
theorem dX10_isCold_44 : decode cX10_isCold 44 = .ok (.iconst 1, 1) := by decide +kernel
theorem dX10_isCold_45 : decode cX10_isCold 45 = .ok (.goto 4, 3) := by decide +kernel
theorem dX10_isCold_48 : decode cX10_isCold 48 = .ok (.iconst 0, 1) := by decide +kernel
theorem dX10_isCold_49 : decode cX10_isCold 49 = .ok (.ireturn, 1) := by decide +kernel
theorem dX10_coldOnes_0 : decode cX10_coldOnes 0 = .ok (.iconst 0, 1) := by decide +kernel
theorem dX10_coldOnes_1 : decode cX10_coldOnes 1 = .ok (.istore_n 1, 1) := by decide +kernel
theorem dX10_coldOnes_2 : decode cX10_coldOnes 2 = .ok (.iconst 0, 1) := by decide +kernel
theorem dX10_coldOnes_3 : decode cX10_coldOnes 3 = .ok (.istore_n 2, 1) := by decide +kernel
theorem dX10_coldOnes_4 : decode cX10_coldOnes 4 = .ok (.iload_n 2, 1) := by decide +kernel
theorem dX10_coldOnes_5 : decode cX10_coldOnes 5 = .ok (.aload_n 0, 1) := by decide +kernel
theorem dX10_coldOnes_6 : decode cX10_coldOnes 6 = .ok (.getfield 107, 3) := by decide +kernel
theorem dX10_coldOnes_9 : decode cX10_coldOnes 9 = .ok (.if_icmp .ge 23, 3) := by decide +kernel
theorem dX10_coldOnes_12 : decode cX10_coldOnes 12 = .ok (.aload_n 0, 1) := by decide +kernel
theorem dX10_coldOnes_13 : decode cX10_coldOnes 13 = .ok (.iload_n 2, 1) := by decide +kernel
theorem dX10_coldOnes_14 : decode cX10_coldOnes 14 = .ok (.invokevirtual 238, 3) := by decide +kernel
theorem dX10_coldOnes_17 : decode cX10_coldOnes 17 = .ok (.ifCond .eq 9, 3) := by decide +kernel
theorem dX10_coldOnes_20 : decode cX10_coldOnes 20 = .ok (.iload_n 1, 1) := by decide +kernel
theorem dX10_coldOnes_21 : decode cX10_coldOnes 21 = .ok (.iconst 1, 1) := by decide +kernel
theorem dX10_coldOnes_22 : decode cX10_coldOnes 22 = .ok (.iload_n 2, 1) := by decide +kernel
theorem dX10_coldOnes_23 : decode cX10_coldOnes 23 = .ok (.ishl, 1) := by decide +kernel
theorem dX10_coldOnes_24 : decode cX10_coldOnes 24 = .ok (.ior, 1) := by decide +kernel
theorem dX10_coldOnes_25 : decode cX10_coldOnes 25 = .ok (.istore_n 1, 1) := by decide +kernel
theorem dX10_coldOnes_26 : decode cX10_coldOnes 26 = .ok (.iinc 2 1, 3) := by decide +kernel
theorem dX10_coldOnes_29 : decode cX10_coldOnes 29 = .ok (.goto (-25), 3) := by decide +kernel
theorem dX10_coldOnes_32 : decode cX10_coldOnes 32 = .ok (.iload_n 1, 1) := by decide +kernel
theorem dX10_coldOnes_33 : decode cX10_coldOnes 33 = .ok (.ireturn, 1) := by decide +kernel
theorem dX10_slips_0 : decode cX10_slips 0 = .ok (.iconst 0, 1) := by decide +kernel
theorem dX10_slips_1 : decode cX10_slips 1 = .ok (.istore_n 1, 1) := by decide +kernel
theorem dX10_slips_2 : decode cX10_slips 2 = .ok (.iload_n 1, 1) := by decide +kernel
theorem dX10_slips_3 : decode cX10_slips 3 = .ok (.bipush 6, 2) := by decide +kernel
theorem dX10_slips_5 : decode cX10_slips 5 = .ok (.if_icmp .ge 94, 3) := by decide +kernel
theorem dX10_slips_8 : decode cX10_slips 8 = .ok (.bipush 24, 2) := by decide +kernel
theorem dX10_slips_10 : decode cX10_slips 10 = .ok (.iload_n 1, 1) := by decide +kernel
theorem dX10_slips_11 : decode cX10_slips 11 = .ok (.iadd, 1) := by decide +kernel
theorem dX10_slips_12 : decode cX10_slips 12 = .ok (.istore_n 2, 1) := by decide +kernel
theorem dX10_slips_13 : decode cX10_slips 13 = .ok (.aload_n 0, 1) := by decide +kernel
theorem dX10_slips_14 : decode cX10_slips 14 = .ok (.getfield 9, 3) := by decide +kernel
theorem dX10_slips_17 : decode cX10_slips 17 = .ok (.iload_n 2, 1) := by decide +kernel
theorem dX10_slips_18 : decode cX10_slips 18 = .ok (.iaload, 1) := by decide +kernel
theorem dX10_slips_19 : decode cX10_slips 19 = .ok (.istore_n 3, 1) := by decide +kernel
theorem dX10_slips_20 : decode cX10_slips 20 = .ok (.aload_n 0, 1) := by decide +kernel
theorem dX10_slips_21 : decode cX10_slips 21 = .ok (.getfield 15, 3) := by decide +kernel
theorem dX10_slips_24 : decode cX10_slips 24 = .ok (.iload_n 2, 1) := by decide +kernel
theorem dX10_slips_25 : decode cX10_slips 25 = .ok (.iaload, 1) := by decide +kernel
theorem dX10_slips_26 : decode cX10_slips 26 = .ok (.istore 4, 2) := by decide +kernel
theorem dX10_slips_28 : decode cX10_slips 28 = .ok (.aload_n 0, 1) := by decide +kernel
theorem dX10_slips_29 : decode cX10_slips 29 = .ok (.getfield 18, 3) := by decide +kernel
theorem dX10_slips_32 : decode cX10_slips 32 = .ok (.iload_n 2, 1) := by decide +kernel
theorem dX10_slips_33 : decode cX10_slips 33 = .ok (.iaload, 1) := by decide +kernel
theorem dX10_slips_34 : decode cX10_slips 34 = .ok (.istore 5, 2) := by decide +kernel
theorem dX10_slips_36 : decode cX10_slips 36 = .ok (.iconst 4, 1) := by decide +kernel
theorem dX10_slips_37 : decode cX10_slips 37 = .ok (.istore 6, 2) := by decide +kernel
theorem dX10_slips_39 : decode cX10_slips 39 = .ok (.iload 6, 2) := by decide +kernel
theorem dX10_slips_41 : decode cX10_slips 41 = .ok (.ifCond .le 29, 3) := by decide +kernel
theorem dX10_slips_44 : decode cX10_slips 44 = .ok (.aload_n 0, 1) := by decide +kernel
theorem dX10_slips_45 : decode cX10_slips 45 = .ok (.bipush 6, 2) := by decide +kernel
theorem dX10_slips_47 : decode cX10_slips 47 = .ok (.iload 6, 2) := by decide +kernel
theorem dX10_slips_49 : decode cX10_slips 49 = .ok (.iconst 1, 1) := by decide +kernel
theorem dX10_slips_50 : decode cX10_slips 50 = .ok (.isub, 1) := by decide +kernel
theorem dX10_slips_51 : decode cX10_slips 51 = .ok (.imul, 1) := by decide +kernel
theorem dX10_slips_52 : decode cX10_slips 52 = .ok (.iload_n 1, 1) := by decide +kernel
theorem dX10_slips_53 : decode cX10_slips 53 = .ok (.iadd, 1) := by decide +kernel
theorem dX10_slips_54 : decode cX10_slips 54 = .ok (.bipush 6, 2) := by decide +kernel
theorem dX10_slips_56 : decode cX10_slips 56 = .ok (.iload 6, 2) := by decide +kernel
theorem dX10_slips_58 : decode cX10_slips 58 = .ok (.imul, 1) := by decide +kernel
theorem dX10_slips_59 : decode cX10_slips 59 = .ok (.iload_n 1, 1) := by decide +kernel
theorem dX10_slips_60 : decode cX10_slips 60 = .ok (.iadd, 1) := by decide +kernel
theorem dX10_slips_61 : decode cX10_slips 61 = .ok (.invokevirtual 241, 3) := by decide +kernel
theorem dX10_slips_64 : decode cX10_slips 64 = .ok (.iinc 6 (-1), 3) := by decide +kernel
theorem dX10_slips_67 : decode cX10_slips 67 = .ok (.goto (-28), 3) := by decide +kernel
theorem dX10_slips_70 : decode cX10_slips 70 = .ok (.aload_n 0, 1) := by decide +kernel
theorem dX10_slips_71 : decode cX10_slips 71 = .ok (.getfield 9, 3) := by decide +kernel
theorem dX10_slips_74 : decode cX10_slips 74 = .ok (.iload_n 1, 1) := by decide +kernel
theorem dX10_slips_75 : decode cX10_slips 75 = .ok (.iload_n 3, 1) := by decide +kernel
theorem dX10_slips_76 : decode cX10_slips 76 = .ok (.iastore, 1) := by decide +kernel
theorem dX10_slips_77 : decode cX10_slips 77 = .ok (.aload_n 0, 1) := by decide +kernel
theorem dX10_slips_78 : decode cX10_slips 78 = .ok (.getfield 15, 3) := by decide +kernel
theorem dX10_slips_81 : decode cX10_slips 81 = .ok (.iload_n 1, 1) := by decide +kernel
theorem dX10_slips_82 : decode cX10_slips 82 = .ok (.iload 4, 2) := by decide +kernel
theorem dX10_slips_84 : decode cX10_slips 84 = .ok (.iastore, 1) := by decide +kernel
theorem dX10_slips_85 : decode cX10_slips 85 = .ok (.aload_n 0, 1) := by decide +kernel
theorem dX10_slips_86 : decode cX10_slips 86 = .ok (.getfield 18, 3) := by decide +kernel
theorem dX10_slips_89 : decode cX10_slips 89 = .ok (.iload_n 1, 1) := by decide +kernel
theorem dX10_slips_90 : decode cX10_slips 90 = .ok (.iload 5, 2) := by decide +kernel
theorem dX10_slips_92 : decode cX10_slips 92 = .ok (.iastore, 1) := by decide +kernel
theorem dX10_slips_93 : decode cX10_slips 93 = .ok (.iinc 1 1, 3) := by decide +kernel
theorem dX10_slips_96 : decode cX10_slips 96 = .ok (.goto (-94), 3) := by decide +kernel
theorem dX10_slips_99 : decode cX10_slips 99 = .ok (.return_, 1) := by decide +kernel
theorem dX10_moves_0 : decode cX10_moves 0 = .ok (.aload_n 0, 1) := by decide +kernel
theorem dX10_moves_1 : decode cX10_moves 1 = .ok (.getfield 9, 3) := by decide +kernel
theorem dX10_moves_4 : decode cX10_moves 4 = .ok (.iload_n 2, 1) := by decide +kernel
theorem dX10_moves_5 : decode cX10_moves 5 = .ok (.aload_n 0, 1) := by decide +kernel
theorem dX10_moves_6 : decode cX10_moves 6 = .ok (.getfield 9, 3) := by decide +kernel
theorem dX10_moves_9 : decode cX10_moves 9 = .ok (.iload_n 1, 1) := by decide +kernel
theorem dX10_moves_10 : decode cX10_moves 10 = .ok (.iaload, 1) := by decide +kernel
theorem dX10_moves_11 : decode cX10_moves 11 = .ok (.iastore, 1) := by decide +kernel
theorem dX10_moves_12 : decode cX10_moves 12 = .ok (.aload_n 0, 1) := by decide +kernel
theorem dX10_moves_13 : decode cX10_moves 13 = .ok (.getfield 15, 3) := by decide +kernel
theorem dX10_moves_16 : decode cX10_moves 16 = .ok (.iload_n 2, 1) := by decide +kernel
theorem dX10_moves_17 : decode cX10_moves 17 = .ok (.aload_n 0, 1) := by decide +kernel
theorem dX10_moves_18 : decode cX10_moves 18 = .ok (.getfield 15, 3) := by decide +kernel
theorem dX10_moves_21 : decode cX10_moves 21 = .ok (.iload_n 1, 1) := by decide +kernel
theorem dX10_moves_22 : decode cX10_moves 22 = .ok (.iaload, 1) := by decide +kernel
theorem dX10_moves_23 : decode cX10_moves 23 = .ok (.iastore, 1) := by decide +kernel
theorem dX10_moves_24 : decode cX10_moves 24 = .ok (.aload_n 0, 1) := by decide +kernel
theorem dX10_moves_25 : decode cX10_moves 25 = .ok (.getfield 18, 3) := by decide +kernel
theorem dX10_moves_28 : decode cX10_moves 28 = .ok (.iload_n 2, 1) := by decide +kernel
theorem dX10_moves_29 : decode cX10_moves 29 = .ok (.aload_n 0, 1) := by decide +kernel
theorem dX10_moves_30 : decode cX10_moves 30 = .ok (.getfield 18, 3) := by decide +kernel
theorem dX10_moves_33 : decode cX10_moves 33 = .ok (.iload_n 1, 1) := by decide +kernel
theorem dX10_moves_34 : decode cX10_moves 34 = .ok (.iaload, 1) := by decide +kernel
theorem dX10_moves_35 : decode cX10_moves 35 = .ok (.iastore, 1) := by decide +kernel
theorem dX10_moves_36 : decode cX10_moves 36 = .ok (.return_, 1) := by decide +kernel
theorem dX10_passes_0 : decode cX10_passes 0 = .ok (.iconst 0, 1) := by decide +kernel
theorem dX10_passes_1 : decode cX10_passes 1 = .ok (.istore_n 1, 1) := by decide +kernel
theorem dX10_passes_2 : decode cX10_passes 2 = .ok (.iload_n 1, 1) := by decide +kernel
theorem dX10_passes_3 : decode cX10_passes 3 = .ok (.bipush 30, 2) := by decide +kernel
theorem dX10_passes_5 : decode cX10_passes 5 = .ok (.if_icmp .ge 62, 3) := by decide +kernel
theorem dX10_passes_8 : decode cX10_passes 8 = .ok (.aload_n 0, 1) := by decide +kernel
theorem dX10_passes_9 : decode cX10_passes 9 = .ok (.getfield 15, 3) := by decide +kernel
theorem dX10_passes_12 : decode cX10_passes 12 = .ok (.iload_n 1, 1) := by decide +kernel
theorem dX10_passes_13 : decode cX10_passes 13 = .ok (.iaload, 1) := by decide +kernel
theorem dX10_passes_14 : decode cX10_passes 14 = .ok (.ifCond .ne 6, 3) := by decide +kernel
theorem dX10_passes_17 : decode cX10_passes 17 = .ok (.goto 44, 3) := by decide +kernel
theorem dX10_passes_20 : decode cX10_passes 20 = .ok (.aload_n 0, 1) := by decide +kernel
theorem dX10_passes_21 : decode cX10_passes 21 = .ok (.getfield 18, 3) := by decide +kernel
theorem dX10_passes_24 : decode cX10_passes 24 = .ok (.iload_n 1, 1) := by decide +kernel
theorem dX10_passes_25 : decode cX10_passes 25 = .ok (.dup2, 1) := by decide +kernel
theorem dX10_passes_26 : decode cX10_passes 26 = .ok (.iaload, 1) := by decide +kernel
theorem dX10_passes_27 : decode cX10_passes 27 = .ok (.iconst 1, 1) := by decide +kernel
theorem dX10_passes_28 : decode cX10_passes 28 = .ok (.iadd, 1) := by decide +kernel
theorem dX10_passes_29 : decode cX10_passes 29 = .ok (.iastore, 1) := by decide +kernel
theorem dX10_passes_30 : decode cX10_passes 30 = .ok (.aload_n 0, 1) := by decide +kernel
theorem dX10_passes_31 : decode cX10_passes 31 = .ok (.getfield 18, 3) := by decide +kernel
theorem dX10_passes_34 : decode cX10_passes 34 = .ok (.iload_n 1, 1) := by decide +kernel
theorem dX10_passes_35 : decode cX10_passes 35 = .ok (.iaload, 1) := by decide +kernel
theorem dX10_passes_36 : decode cX10_passes 36 = .ok (.bipush 12, 2) := by decide +kernel
theorem dX10_passes_38 : decode cX10_passes 38 = .ok (.if_icmp .ge 6, 3) := by decide +kernel
theorem dX10_passes_41 : decode cX10_passes 41 = .ok (.goto 20, 3) := by decide +kernel
theorem dX10_passes_44 : decode cX10_passes 44 = .ok (.aload_n 0, 1) := by decide +kernel
theorem dX10_passes_45 : decode cX10_passes 45 = .ok (.getfield 15, 3) := by decide +kernel
theorem dX10_passes_48 : decode cX10_passes 48 = .ok (.iload_n 1, 1) := by decide +kernel
theorem dX10_passes_49 : decode cX10_passes 49 = .ok (.dup2, 1) := by decide +kernel
theorem dX10_passes_50 : decode cX10_passes 50 = .ok (.iaload, 1) := by decide +kernel
theorem dX10_passes_51 : decode cX10_passes 51 = .ok (.iconst 1, 1) := by decide +kernel
theorem dX10_passes_52 : decode cX10_passes 52 = .ok (.isub, 1) := by decide +kernel
theorem dX10_passes_53 : decode cX10_passes 53 = .ok (.iastore, 1) := by decide +kernel
theorem dX10_passes_54 : decode cX10_passes 54 = .ok (.aload_n 0, 1) := by decide +kernel
theorem dX10_passes_55 : decode cX10_passes 55 = .ok (.getfield 18, 3) := by decide +kernel
theorem dX10_passes_58 : decode cX10_passes 58 = .ok (.iload_n 1, 1) := by decide +kernel
theorem dX10_passes_59 : decode cX10_passes 59 = .ok (.iconst 0, 1) := by decide +kernel
theorem dX10_passes_60 : decode cX10_passes 60 = .ok (.iastore, 1) := by decide +kernel
theorem dX10_passes_61 : decode cX10_passes 61 = .ok (.iinc 1 1, 3) := by decide +kernel
theorem dX10_passes_64 : decode cX10_passes 64 = .ok (.goto (-62), 3) := by decide +kernel
theorem dX10_passes_67 : decode cX10_passes 67 = .ok (.aload_n 0, 1) := by decide +kernel
theorem dX10_passes_68 : decode cX10_passes 68 = .ok (.dup, 1) := by decide +kernel
theorem dX10_passes_69 : decode cX10_passes 69 = .ok (.getfield 245, 3) := by decide +kernel
theorem dX10_passes_72 : decode cX10_passes 72 = .ok (.iconst 1, 1) := by decide +kernel
theorem dX10_passes_73 : decode cX10_passes 73 = .ok (.iadd, 1) := by decide +kernel
theorem dX10_passes_74 : decode cX10_passes 74 = .ok (.putfield 245, 3) := by decide +kernel
theorem dX10_passes_77 : decode cX10_passes 77 = .ok (.aload_n 0, 1) := by decide +kernel
theorem dX10_passes_78 : decode cX10_passes 78 = .ok (.getfield 24, 3) := by decide +kernel
theorem dX10_passes_81 : decode cX10_passes 81 = .ok (.iconst 1, 1) := by decide +kernel
theorem dX10_passes_82 : decode cX10_passes 82 = .ok (.iaload, 1) := by decide +kernel
theorem dX10_passes_83 : decode cX10_passes 83 = .ok (.ifCond .le 21, 3) := by decide +kernel
theorem dX10_passes_86 : decode cX10_passes 86 = .ok (.aload_n 0, 1) := by decide +kernel
theorem dX10_passes_87 : decode cX10_passes 87 = .ok (.getfield 245, 3) := by decide +kernel
theorem dX10_passes_90 : decode cX10_passes 90 = .ok (.aload_n 0, 1) := by decide +kernel
theorem dX10_passes_91 : decode cX10_passes 91 = .ok (.getfield 24, 3) := by decide +kernel
theorem dX10_passes_94 : decode cX10_passes 94 = .ok (.iconst 1, 1) := by decide +kernel
theorem dX10_passes_95 : decode cX10_passes 95 = .ok (.iaload, 1) := by decide +kernel
theorem dX10_passes_96 : decode cX10_passes 96 = .ok (.irem, 1) := by decide +kernel
theorem dX10_passes_97 : decode cX10_passes 97 = .ok (.ifCond .ne 7, 3) := by decide +kernel
theorem dX10_passes_100 : decode cX10_passes 100 = .ok (.aload_n 0, 1) := by decide +kernel
theorem dX10_passes_101 : decode cX10_passes 101 = .ok (.invokevirtual 248, 3) := by decide +kernel
theorem dX10_passes_104 : decode cX10_passes 104 = .ok (.aload_n 0, 1) := by decide +kernel
theorem dX10_passes_105 : decode cX10_passes 105 = .ok (.getfield 24, 3) := by decide +kernel
theorem dX10_passes_108 : decode cX10_passes 108 = .ok (.iconst 0, 1) := by decide +kernel
theorem dX10_passes_109 : decode cX10_passes 109 = .ok (.aload_n 0, 1) := by decide +kernel
theorem dX10_passes_110 : decode cX10_passes 110 = .ok (.getfield 24, 3) := by decide +kernel
theorem dX10_passes_113 : decode cX10_passes 113 = .ok (.iconst 0, 1) := by decide +kernel
theorem dX10_passes_114 : decode cX10_passes 114 = .ok (.iaload, 1) := by decide +kernel
theorem dX10_passes_115 : decode cX10_passes 115 = .ok (.iconst 1, 1) := by decide +kernel
theorem dX10_passes_116 : decode cX10_passes 116 = .ok (.iadd, 1) := by decide +kernel
theorem dX10_passes_117 : decode cX10_passes 117 = .ok (.bipush 12, 2) := by decide +kernel
theorem dX10_passes_119 : decode cX10_passes 119 = .ok (.irem, 1) := by decide +kernel
theorem dX10_passes_120 : decode cX10_passes 120 = .ok (.iastore, 1) := by decide +kernel
theorem dX10_passes_121 : decode cX10_passes 121 = .ok (.return_, 1) := by decide +kernel
theorem dX10_pulls_0 : decode cX10_pulls 0 = .ok (.bipush 6, 2) := by decide +kernel
theorem dX10_pulls_2 : decode cX10_pulls 2 = .ok (.iload_n 1, 1) := by decide +kernel
theorem dX10_pulls_3 : decode cX10_pulls 3 = .ok (.iconst 2, 1) := by decide +kernel
theorem dX10_pulls_4 : decode cX10_pulls 4 = .ok (.idiv, 1) := by decide +kernel
theorem dX10_pulls_5 : decode cX10_pulls 5 = .ok (.imul, 1) := by decide +kernel
theorem dX10_pulls_6 : decode cX10_pulls 6 = .ok (.istore_n 2, 1) := by decide +kernel
theorem dX10_pulls_7 : decode cX10_pulls 7 = .ok (.iload_n 1, 1) := by decide +kernel
theorem dX10_pulls_8 : decode cX10_pulls 8 = .ok (.iconst 2, 1) := by decide +kernel
theorem dX10_pulls_9 : decode cX10_pulls 9 = .ok (.irem, 1) := by decide +kernel
theorem dX10_pulls_10 : decode cX10_pulls 10 = .ok (.iconst 1, 1) := by decide +kernel
theorem dX10_pulls_11 : decode cX10_pulls 11 = .ok (.if_icmp .ne 7, 3) := by decide +kernel
theorem dX10_pulls_14 : decode cX10_pulls 14 = .ok (.iconst 1, 1) := by decide +kernel
theorem dX10_pulls_15 : decode cX10_pulls 15 = .ok (.goto 4, 3) := by decide +kernel
theorem dX10_pulls_18 : decode cX10_pulls 18 = .ok (.iconst 0, 1) := by decide +kernel
theorem dX10_pulls_19 : decode cX10_pulls 19 = .ok (.istore_n 3, 1) := by decide +kernel
theorem dX10_pulls_20 : decode cX10_pulls 20 = .ok (.iload_n 3, 1) := by decide +kernel
theorem dX10_pulls_21 : decode cX10_pulls 21 = .ok (.ifCond .eq 7, 3) := by decide +kernel
theorem dX10_pulls_24 : decode cX10_pulls 24 = .ok (.iload_n 2, 1) := by decide +kernel
theorem dX10_pulls_25 : decode cX10_pulls 25 = .ok (.goto 9, 3) := by decide +kernel
theorem dX10_pulls_28 : decode cX10_pulls 28 = .ok (.iload_n 2, 1) := by decide +kernel
theorem dX10_pulls_29 : decode cX10_pulls 29 = .ok (.bipush 6, 2) := by decide +kernel
theorem dX10_pulls_31 : decode cX10_pulls 31 = .ok (.iadd, 1) := by decide +kernel
theorem dX10_pulls_32 : decode cX10_pulls 32 = .ok (.iconst 1, 1) := by decide +kernel
theorem dX10_pulls_33 : decode cX10_pulls 33 = .ok (.isub, 1) := by decide +kernel
theorem dX10_pulls_34 : decode cX10_pulls 34 = .ok (.istore 4, 2) := by decide +kernel
theorem dX10_pulls_36 : decode cX10_pulls 36 = .ok (.aload_n 0, 1) := by decide +kernel
theorem dX10_pulls_37 : decode cX10_pulls 37 = .ok (.getfield 9, 3) := by decide +kernel
theorem dX10_pulls_40 : decode cX10_pulls 40 = .ok (.iload 4, 2) := by decide +kernel
theorem dX10_pulls_42 : decode cX10_pulls 42 = .ok (.iaload, 1) := by decide +kernel
theorem dX10_pulls_43 : decode cX10_pulls 43 = .ok (.istore 5, 2) := by decide +kernel
theorem dX10_pulls_45 : decode cX10_pulls 45 = .ok (.aload_n 0, 1) := by decide +kernel
theorem dX10_pulls_46 : decode cX10_pulls 46 = .ok (.getfield 15, 3) := by decide +kernel
theorem dX10_pulls_49 : decode cX10_pulls 49 = .ok (.iload 4, 2) := by decide +kernel
theorem dX10_pulls_51 : decode cX10_pulls 51 = .ok (.iaload, 1) := by decide +kernel
theorem dX10_pulls_52 : decode cX10_pulls 52 = .ok (.istore 6, 2) := by decide +kernel
theorem dX10_pulls_54 : decode cX10_pulls 54 = .ok (.aload_n 0, 1) := by decide +kernel
theorem dX10_pulls_55 : decode cX10_pulls 55 = .ok (.getfield 18, 3) := by decide +kernel
theorem dX10_pulls_58 : decode cX10_pulls 58 = .ok (.iload 4, 2) := by decide +kernel
theorem dX10_pulls_60 : decode cX10_pulls 60 = .ok (.iaload, 1) := by decide +kernel
theorem dX10_pulls_61 : decode cX10_pulls 61 = .ok (.istore 7, 2) := by decide +kernel
theorem dX10_pulls_63 : decode cX10_pulls 63 = .ok (.iconst 1, 1) := by decide +kernel
theorem dX10_pulls_64 : decode cX10_pulls 64 = .ok (.istore 8, 2) := by decide +kernel
theorem dX10_pulls_66 : decode cX10_pulls 66 = .ok (.iload 8, 2) := by decide +kernel
theorem dX10_pulls_68 : decode cX10_pulls 68 = .ok (.bipush 6, 2) := by decide +kernel
theorem dX10_pulls_70 : decode cX10_pulls 70 = .ok (.if_icmp .ge 50, 3) := by decide +kernel
theorem dX10_pulls_73 : decode cX10_pulls 73 = .ok (.iload_n 3, 1) := by decide +kernel
theorem dX10_pulls_74 : decode cX10_pulls 74 = .ok (.ifCond .eq 20, 3) := by decide +kernel
theorem dX10_pulls_77 : decode cX10_pulls 77 = .ok (.aload_n 0, 1) := by decide +kernel
theorem dX10_pulls_78 : decode cX10_pulls 78 = .ok (.iload_n 2, 1) := by decide +kernel
theorem dX10_pulls_79 : decode cX10_pulls 79 = .ok (.iload 8, 2) := by decide +kernel
theorem dX10_pulls_81 : decode cX10_pulls 81 = .ok (.iadd, 1) := by decide +kernel
theorem dX10_pulls_82 : decode cX10_pulls 82 = .ok (.iload_n 2, 1) := by decide +kernel
theorem dX10_pulls_83 : decode cX10_pulls 83 = .ok (.iload 8, 2) := by decide +kernel
theorem dX10_pulls_85 : decode cX10_pulls 85 = .ok (.iadd, 1) := by decide +kernel
theorem dX10_pulls_86 : decode cX10_pulls 86 = .ok (.iconst 1, 1) := by decide +kernel
theorem dX10_pulls_87 : decode cX10_pulls 87 = .ok (.isub, 1) := by decide +kernel
theorem dX10_pulls_88 : decode cX10_pulls 88 = .ok (.invokevirtual 241, 3) := by decide +kernel
theorem dX10_pulls_91 : decode cX10_pulls 91 = .ok (.goto 23, 3) := by decide +kernel
theorem dX10_pulls_94 : decode cX10_pulls 94 = .ok (.aload_n 0, 1) := by decide +kernel
theorem dX10_pulls_95 : decode cX10_pulls 95 = .ok (.iload_n 2, 1) := by decide +kernel
theorem dX10_pulls_96 : decode cX10_pulls 96 = .ok (.bipush 6, 2) := by decide +kernel
theorem dX10_pulls_98 : decode cX10_pulls 98 = .ok (.iadd, 1) := by decide +kernel
theorem dX10_pulls_99 : decode cX10_pulls 99 = .ok (.iconst 1, 1) := by decide +kernel
theorem dX10_pulls_100 : decode cX10_pulls 100 = .ok (.isub, 1) := by decide +kernel
theorem dX10_pulls_101 : decode cX10_pulls 101 = .ok (.iload 8, 2) := by decide +kernel
theorem dX10_pulls_103 : decode cX10_pulls 103 = .ok (.isub, 1) := by decide +kernel
theorem dX10_pulls_104 : decode cX10_pulls 104 = .ok (.iload_n 2, 1) := by decide +kernel
theorem dX10_pulls_105 : decode cX10_pulls 105 = .ok (.bipush 6, 2) := by decide +kernel
theorem dX10_pulls_107 : decode cX10_pulls 107 = .ok (.iadd, 1) := by decide +kernel
theorem dX10_pulls_108 : decode cX10_pulls 108 = .ok (.iload 8, 2) := by decide +kernel
theorem dX10_pulls_110 : decode cX10_pulls 110 = .ok (.isub, 1) := by decide +kernel
theorem dX10_pulls_111 : decode cX10_pulls 111 = .ok (.invokevirtual 241, 3) := by decide +kernel
theorem dX10_pulls_114 : decode cX10_pulls 114 = .ok (.iinc 8 1, 3) := by decide +kernel
theorem dX10_pulls_117 : decode cX10_pulls 117 = .ok (.goto (-51), 3) := by decide +kernel
theorem dX10_pulls_120 : decode cX10_pulls 120 = .ok (.iload_n 3, 1) := by decide +kernel
theorem dX10_pulls_121 : decode cX10_pulls 121 = .ok (.ifCond .eq 12, 3) := by decide +kernel
theorem dX10_pulls_124 : decode cX10_pulls 124 = .ok (.iload_n 2, 1) := by decide +kernel
theorem dX10_pulls_125 : decode cX10_pulls 125 = .ok (.bipush 6, 2) := by decide +kernel
theorem dX10_pulls_127 : decode cX10_pulls 127 = .ok (.iadd, 1) := by decide +kernel
theorem dX10_pulls_128 : decode cX10_pulls 128 = .ok (.iconst 1, 1) := by decide +kernel
theorem dX10_pulls_129 : decode cX10_pulls 129 = .ok (.isub, 1) := by decide +kernel
theorem dX10_pulls_130 : decode cX10_pulls 130 = .ok (.goto 4, 3) := by decide +kernel
theorem dX10_pulls_133 : decode cX10_pulls 133 = .ok (.iload_n 2, 1) := by decide +kernel
theorem dX10_pulls_134 : decode cX10_pulls 134 = .ok (.istore 8, 2) := by decide +kernel
theorem dX10_pulls_136 : decode cX10_pulls 136 = .ok (.aload_n 0, 1) := by decide +kernel
theorem dX10_pulls_137 : decode cX10_pulls 137 = .ok (.getfield 9, 3) := by decide +kernel
theorem dX10_pulls_140 : decode cX10_pulls 140 = .ok (.iload 8, 2) := by decide +kernel
theorem dX10_pulls_142 : decode cX10_pulls 142 = .ok (.iload 5, 2) := by decide +kernel
theorem dX10_pulls_144 : decode cX10_pulls 144 = .ok (.iastore, 1) := by decide +kernel
theorem dX10_pulls_145 : decode cX10_pulls 145 = .ok (.aload_n 0, 1) := by decide +kernel
theorem dX10_pulls_146 : decode cX10_pulls 146 = .ok (.getfield 15, 3) := by decide +kernel
theorem dX10_pulls_149 : decode cX10_pulls 149 = .ok (.iload 8, 2) := by decide +kernel
theorem dX10_pulls_151 : decode cX10_pulls 151 = .ok (.iload 6, 2) := by decide +kernel
theorem dX10_pulls_153 : decode cX10_pulls 153 = .ok (.iastore, 1) := by decide +kernel
theorem dX10_pulls_154 : decode cX10_pulls 154 = .ok (.aload_n 0, 1) := by decide +kernel
theorem dX10_pulls_155 : decode cX10_pulls 155 = .ok (.getfield 18, 3) := by decide +kernel
theorem dX10_pulls_158 : decode cX10_pulls 158 = .ok (.iload 8, 2) := by decide +kernel
theorem dX10_pulls_160 : decode cX10_pulls 160 = .ok (.iload 7, 2) := by decide +kernel
theorem dX10_pulls_162 : decode cX10_pulls 162 = .ok (.iastore, 1) := by decide +kernel
theorem dX10_pulls_163 : decode cX10_pulls 163 = .ok (.return_, 1) := by decide +kernel
theorem dX10_isInner_0 : decode cX10_isInner 0 = .ok (.iload_n 0, 1) := by decide +kernel
theorem dX10_isInner_1 : decode cX10_isInner 1 = .ok (.invokestatic 111, 3) := by decide +kernel
theorem dX10_isInner_4 : decode cX10_isInner 4 = .ok (.ifCond .eq 31, 3) := by decide +kernel
theorem dX10_isInner_7 : decode cX10_isInner 7 = .ok (.iload_n 0, 1) := by decide +kernel
theorem dX10_isInner_8 : decode cX10_isInner 8 = .ok (.bipush 6, 2) := by decide +kernel
theorem dX10_isInner_10 : decode cX10_isInner 10 = .ok (.irem, 1) := by decide +kernel
theorem dX10_isInner_11 : decode cX10_isInner 11 = .ok (.iconst 1, 1) := by decide +kernel
theorem dX10_isInner_12 : decode cX10_isInner 12 = .ok (.iconst 4, 1) := by decide +kernel
theorem dX10_isInner_13 : decode cX10_isInner 13 = .ok (.invokestatic 103, 3) := by decide +kernel
theorem dX10_isInner_16 : decode cX10_isInner 16 = .ok (.ifCond .eq 19, 3) := by decide +kernel
theorem dX10_isInner_19 : decode cX10_isInner 19 = .ok (.iload_n 0, 1) := by decide +kernel
theorem dX10_isInner_20 : decode cX10_isInner 20 = .ok (.bipush 6, 2) := by decide +kernel
theorem dX10_isInner_22 : decode cX10_isInner 22 = .ok (.idiv, 1) := by decide +kernel
theorem dX10_isInner_23 : decode cX10_isInner 23 = .ok (.iconst 1, 1) := by decide +kernel
theorem dX10_isInner_24 : decode cX10_isInner 24 = .ok (.iconst 3, 1) := by decide +kernel
theorem dX10_isInner_25 : decode cX10_isInner 25 = .ok (.invokestatic 103, 3) := by decide +kernel
theorem dX10_isInner_28 : decode cX10_isInner 28 = .ok (.ifCond .eq 7, 3) := by decide +kernel
theorem dX10_isInner_31 : decode cX10_isInner 31 = .ok (.iconst 1, 1) := by decide +kernel
theorem dX10_isInner_32 : decode cX10_isInner 32 = .ok (.goto 4, 3) := by decide +kernel
theorem dX10_isInner_35 : decode cX10_isInner 35 = .ok (.iconst 0, 1) := by decide +kernel
theorem dX10_isInner_36 : decode cX10_isInner 36 = .ok (.ireturn, 1) := by decide +kernel
theorem dX10_shakesAt_0 : decode cX10_shakesAt 0 = .ok (.iconst 0, 1) := by decide +kernel
theorem dX10_shakesAt_1 : decode cX10_shakesAt 1 = .ok (.istore_n 2, 1) := by decide +kernel
theorem dX10_shakesAt_2 : decode cX10_shakesAt 2 = .ok (.iconst (-1), 1) := by decide +kernel
theorem dX10_shakesAt_3 : decode cX10_shakesAt 3 = .ok (.istore_n 3, 1) := by decide +kernel
theorem dX10_shakesAt_4 : decode cX10_shakesAt 4 = .ok (.iload_n 3, 1) := by decide +kernel
theorem dX10_shakesAt_5 : decode cX10_shakesAt 5 = .ok (.iconst 2, 1) := by decide +kernel
theorem dX10_shakesAt_6 : decode cX10_shakesAt 6 = .ok (.if_icmp .ge 41, 3) := by decide +kernel
theorem dX10_shakesAt_9 : decode cX10_shakesAt 9 = .ok (.iconst (-1), 1) := by decide +kernel
theorem dX10_shakesAt_10 : decode cX10_shakesAt 10 = .ok (.istore 4, 2) := by decide +kernel
theorem dX10_shakesAt_12 : decode cX10_shakesAt 12 = .ok (.iload 4, 2) := by decide +kernel
theorem dX10_shakesAt_14 : decode cX10_shakesAt 14 = .ok (.iconst 2, 1) := by decide +kernel
theorem dX10_shakesAt_15 : decode cX10_shakesAt 15 = .ok (.if_icmp .ge 26, 3) := by decide +kernel
theorem dX10_shakesAt_18 : decode cX10_shakesAt 18 = .ok (.iload_n 2, 1) := by decide +kernel
theorem dX10_shakesAt_19 : decode cX10_shakesAt 19 = .ok (.aload_n 0, 1) := by decide +kernel
theorem dX10_shakesAt_20 : decode cX10_shakesAt 20 = .ok (.getfield 15, 3) := by decide +kernel
theorem dX10_shakesAt_23 : decode cX10_shakesAt 23 = .ok (.iload_n 1, 1) := by decide +kernel
theorem dX10_shakesAt_24 : decode cX10_shakesAt 24 = .ok (.bipush 6, 2) := by decide +kernel
theorem dX10_shakesAt_26 : decode cX10_shakesAt 26 = .ok (.iload_n 3, 1) := by decide +kernel
theorem dX10_shakesAt_27 : decode cX10_shakesAt 27 = .ok (.imul, 1) := by decide +kernel
theorem dX10_shakesAt_28 : decode cX10_shakesAt 28 = .ok (.iadd, 1) := by decide +kernel
theorem dX10_shakesAt_29 : decode cX10_shakesAt 29 = .ok (.iload 4, 2) := by decide +kernel
theorem dX10_shakesAt_31 : decode cX10_shakesAt 31 = .ok (.iadd, 1) := by decide +kernel
theorem dX10_shakesAt_32 : decode cX10_shakesAt 32 = .ok (.iaload, 1) := by decide +kernel
theorem dX10_shakesAt_33 : decode cX10_shakesAt 33 = .ok (.iadd, 1) := by decide +kernel
theorem dX10_shakesAt_34 : decode cX10_shakesAt 34 = .ok (.istore_n 2, 1) := by decide +kernel
theorem dX10_shakesAt_35 : decode cX10_shakesAt 35 = .ok (.iinc 4 1, 3) := by decide +kernel
theorem dX10_shakesAt_38 : decode cX10_shakesAt 38 = .ok (.goto (-26), 3) := by decide +kernel
theorem dX10_shakesAt_41 : decode cX10_shakesAt 41 = .ok (.iinc 3 1, 3) := by decide +kernel
theorem dX10_shakesAt_44 : decode cX10_shakesAt 44 = .ok (.goto (-40), 3) := by decide +kernel
theorem dX10_shakesAt_47 : decode cX10_shakesAt 47 = .ok (.iconst (-1), 1) := by decide +kernel
theorem dX10_shakesAt_48 : decode cX10_shakesAt 48 = .ok (.istore_n 3, 1) := by decide +kernel
theorem dX10_shakesAt_49 : decode cX10_shakesAt 49 = .ok (.iload_n 3, 1) := by decide +kernel
theorem dX10_shakesAt_50 : decode cX10_shakesAt 50 = .ok (.iconst 2, 1) := by decide +kernel
theorem dX10_shakesAt_51 : decode cX10_shakesAt 51 = .ok (.if_icmp .ge 42, 3) := by decide +kernel
theorem dX10_shakesAt_54 : decode cX10_shakesAt 54 = .ok (.iconst (-1), 1) := by decide +kernel
theorem dX10_shakesAt_55 : decode cX10_shakesAt 55 = .ok (.istore 4, 2) := by decide +kernel
theorem dX10_shakesAt_57 : decode cX10_shakesAt 57 = .ok (.iload 4, 2) := by decide +kernel
theorem dX10_shakesAt_59 : decode cX10_shakesAt 59 = .ok (.iconst 2, 1) := by decide +kernel
theorem dX10_shakesAt_60 : decode cX10_shakesAt 60 = .ok (.if_icmp .ge 27, 3) := by decide +kernel
theorem dX10_shakesAt_63 : decode cX10_shakesAt 63 = .ok (.aload_n 0, 1) := by decide +kernel
theorem dX10_shakesAt_64 : decode cX10_shakesAt 64 = .ok (.getfield 15, 3) := by decide +kernel
theorem dX10_shakesAt_67 : decode cX10_shakesAt 67 = .ok (.iload_n 1, 1) := by decide +kernel
theorem dX10_shakesAt_68 : decode cX10_shakesAt 68 = .ok (.bipush 6, 2) := by decide +kernel
theorem dX10_shakesAt_70 : decode cX10_shakesAt 70 = .ok (.iload_n 3, 1) := by decide +kernel
theorem dX10_shakesAt_71 : decode cX10_shakesAt 71 = .ok (.imul, 1) := by decide +kernel
theorem dX10_shakesAt_72 : decode cX10_shakesAt 72 = .ok (.iadd, 1) := by decide +kernel
theorem dX10_shakesAt_73 : decode cX10_shakesAt 73 = .ok (.iload 4, 2) := by decide +kernel
theorem dX10_shakesAt_75 : decode cX10_shakesAt 75 = .ok (.iadd, 1) := by decide +kernel
theorem dX10_shakesAt_76 : decode cX10_shakesAt 76 = .ok (.iload_n 2, 1) := by decide +kernel
theorem dX10_shakesAt_77 : decode cX10_shakesAt 77 = .ok (.bipush 9, 2) := by decide +kernel
theorem dX10_shakesAt_79 : decode cX10_shakesAt 79 = .ok (.idiv, 1) := by decide +kernel
theorem dX10_shakesAt_80 : decode cX10_shakesAt 80 = .ok (.iastore, 1) := by decide +kernel
theorem dX10_shakesAt_81 : decode cX10_shakesAt 81 = .ok (.iinc 4 1, 3) := by decide +kernel
theorem dX10_shakesAt_84 : decode cX10_shakesAt 84 = .ok (.goto (-27), 3) := by decide +kernel
theorem dX10_shakesAt_87 : decode cX10_shakesAt 87 = .ok (.iinc 3 1, 3) := by decide +kernel
theorem dX10_shakesAt_90 : decode cX10_shakesAt 90 = .ok (.goto (-41), 3) := by decide +kernel
theorem dX10_shakesAt_93 : decode cX10_shakesAt 93 = .ok (.aload_n 0, 1) := by decide +kernel
theorem dX10_shakesAt_94 : decode cX10_shakesAt 94 = .ok (.getfield 15, 3) := by decide +kernel
theorem dX10_shakesAt_97 : decode cX10_shakesAt 97 = .ok (.iload_n 1, 1) := by decide +kernel
theorem dX10_shakesAt_98 : decode cX10_shakesAt 98 = .ok (.bipush 9, 2) := by decide +kernel
theorem dX10_shakesAt_100 : decode cX10_shakesAt 100 = .ok (.iload_n 2, 1) := by decide +kernel
theorem dX10_shakesAt_101 : decode cX10_shakesAt 101 = .ok (.bipush 9, 2) := by decide +kernel
theorem dX10_shakesAt_103 : decode cX10_shakesAt 103 = .ok (.idiv, 1) := by decide +kernel
theorem dX10_shakesAt_104 : decode cX10_shakesAt 104 = .ok (.iload_n 2, 1) := by decide +kernel
theorem dX10_shakesAt_105 : decode cX10_shakesAt 105 = .ok (.bipush 9, 2) := by decide +kernel
theorem dX10_shakesAt_107 : decode cX10_shakesAt 107 = .ok (.irem, 1) := by decide +kernel
theorem dX10_shakesAt_108 : decode cX10_shakesAt 108 = .ok (.iadd, 1) := by decide +kernel
theorem dX10_shakesAt_109 : decode cX10_shakesAt 109 = .ok (.invokestatic 227, 3) := by decide +kernel
theorem dX10_shakesAt_112 : decode cX10_shakesAt 112 = .ok (.iastore, 1) := by decide +kernel
theorem dX10_shakesAt_113 : decode cX10_shakesAt 113 = .ok (.return_, 1) := by decide +kernel
theorem dX10_keeps_0 : decode cX10_keeps 0 = .ok (.iconst 0, 1) := by decide +kernel
theorem dX10_keeps_1 : decode cX10_keeps 1 = .ok (.istore_n 2, 1) := by decide +kernel
theorem dX10_keeps_2 : decode cX10_keeps 2 = .ok (.iload_n 2, 1) := by decide +kernel
theorem dX10_keeps_3 : decode cX10_keeps 3 = .ok (.bipush 30, 2) := by decide +kernel
theorem dX10_keeps_5 : decode cX10_keeps 5 = .ok (.if_icmp .ge 42, 3) := by decide +kernel
theorem dX10_keeps_8 : decode cX10_keeps 8 = .ok (.aload_n 1, 1) := by decide +kernel
theorem dX10_keeps_9 : decode cX10_keeps 9 = .ok (.iload_n 2, 1) := by decide +kernel
theorem dX10_keeps_10 : decode cX10_keeps 10 = .ok (.aload_n 0, 1) := by decide +kernel
theorem dX10_keeps_11 : decode cX10_keeps 11 = .ok (.getfield 9, 3) := by decide +kernel
theorem dX10_keeps_14 : decode cX10_keeps 14 = .ok (.iload_n 2, 1) := by decide +kernel
theorem dX10_keeps_15 : decode cX10_keeps 15 = .ok (.iaload, 1) := by decide +kernel
theorem dX10_keeps_16 : decode cX10_keeps 16 = .ok (.iastore, 1) := by decide +kernel
theorem dX10_keeps_17 : decode cX10_keeps 17 = .ok (.aload_n 1, 1) := by decide +kernel
theorem dX10_keeps_18 : decode cX10_keeps 18 = .ok (.bipush 30, 2) := by decide +kernel
theorem dX10_keeps_20 : decode cX10_keeps 20 = .ok (.iload_n 2, 1) := by decide +kernel
theorem dX10_keeps_21 : decode cX10_keeps 21 = .ok (.iadd, 1) := by decide +kernel
theorem dX10_keeps_22 : decode cX10_keeps 22 = .ok (.aload_n 0, 1) := by decide +kernel
theorem dX10_keeps_23 : decode cX10_keeps 23 = .ok (.getfield 15, 3) := by decide +kernel
theorem dX10_keeps_26 : decode cX10_keeps 26 = .ok (.iload_n 2, 1) := by decide +kernel
theorem dX10_keeps_27 : decode cX10_keeps 27 = .ok (.iaload, 1) := by decide +kernel
theorem dX10_keeps_28 : decode cX10_keeps 28 = .ok (.iastore, 1) := by decide +kernel
theorem dX10_keeps_29 : decode cX10_keeps 29 = .ok (.aload_n 1, 1) := by decide +kernel
theorem dX10_keeps_30 : decode cX10_keeps 30 = .ok (.bipush 60, 2) := by decide +kernel
theorem dX10_keeps_32 : decode cX10_keeps 32 = .ok (.iload_n 2, 1) := by decide +kernel
theorem dX10_keeps_33 : decode cX10_keeps 33 = .ok (.iadd, 1) := by decide +kernel
theorem dX10_keeps_34 : decode cX10_keeps 34 = .ok (.aload_n 0, 1) := by decide +kernel
theorem dX10_keeps_35 : decode cX10_keeps 35 = .ok (.getfield 18, 3) := by decide +kernel
theorem dX10_keeps_38 : decode cX10_keeps 38 = .ok (.iload_n 2, 1) := by decide +kernel
theorem dX10_keeps_39 : decode cX10_keeps 39 = .ok (.iaload, 1) := by decide +kernel
theorem dX10_keeps_40 : decode cX10_keeps 40 = .ok (.iastore, 1) := by decide +kernel
theorem dX10_keeps_41 : decode cX10_keeps 41 = .ok (.iinc 2 1, 3) := by decide +kernel
theorem dX10_keeps_44 : decode cX10_keeps 44 = .ok (.goto (-42), 3) := by decide +kernel
theorem dX10_keeps_47 : decode cX10_keeps 47 = .ok (.aload_n 1, 1) := by decide +kernel
theorem dX10_keeps_48 : decode cX10_keeps 48 = .ok (.bipush 90, 2) := by decide +kernel
theorem dX10_keeps_50 : decode cX10_keeps 50 = .ok (.aload_n 0, 1) := by decide +kernel
theorem dX10_keeps_51 : decode cX10_keeps 51 = .ok (.getfield 24, 3) := by decide +kernel
theorem dX10_keeps_54 : decode cX10_keeps 54 = .ok (.iconst 0, 1) := by decide +kernel
theorem dX10_keeps_55 : decode cX10_keeps 55 = .ok (.iaload, 1) := by decide +kernel
theorem dX10_keeps_56 : decode cX10_keeps 56 = .ok (.iastore, 1) := by decide +kernel
theorem dX10_keeps_57 : decode cX10_keeps 57 = .ok (.aload_n 1, 1) := by decide +kernel
theorem dX10_keeps_58 : decode cX10_keeps 58 = .ok (.bipush 91, 2) := by decide +kernel
theorem dX10_keeps_60 : decode cX10_keeps 60 = .ok (.aload_n 0, 1) := by decide +kernel
theorem dX10_keeps_61 : decode cX10_keeps 61 = .ok (.getfield 245, 3) := by decide +kernel
theorem dX10_keeps_64 : decode cX10_keeps 64 = .ok (.iastore, 1) := by decide +kernel
theorem dX10_keeps_65 : decode cX10_keeps 65 = .ok (.return_, 1) := by decide +kernel
theorem dX10_again_0 : decode cX10_again 0 = .ok (.iconst 0, 1) := by decide +kernel
theorem dX10_again_1 : decode cX10_again 1 = .ok (.istore_n 2, 1) := by decide +kernel
theorem dX10_again_2 : decode cX10_again 2 = .ok (.iload_n 2, 1) := by decide +kernel
theorem dX10_again_3 : decode cX10_again 3 = .ok (.bipush 30, 2) := by decide +kernel
theorem dX10_again_5 : decode cX10_again 5 = .ok (.if_icmp .ge 42, 3) := by decide +kernel
theorem dX10_again_8 : decode cX10_again 8 = .ok (.aload_n 0, 1) := by decide +kernel
theorem dX10_again_9 : decode cX10_again 9 = .ok (.getfield 9, 3) := by decide +kernel
theorem dX10_again_12 : decode cX10_again 12 = .ok (.iload_n 2, 1) := by decide +kernel
theorem dX10_again_13 : decode cX10_again 13 = .ok (.aload_n 1, 1) := by decide +kernel
theorem dX10_again_14 : decode cX10_again 14 = .ok (.iload_n 2, 1) := by decide +kernel
theorem dX10_again_15 : decode cX10_again 15 = .ok (.iaload, 1) := by decide +kernel
theorem dX10_again_16 : decode cX10_again 16 = .ok (.iastore, 1) := by decide +kernel
theorem dX10_again_17 : decode cX10_again 17 = .ok (.aload_n 0, 1) := by decide +kernel
theorem dX10_again_18 : decode cX10_again 18 = .ok (.getfield 15, 3) := by decide +kernel
theorem dX10_again_21 : decode cX10_again 21 = .ok (.iload_n 2, 1) := by decide +kernel
theorem dX10_again_22 : decode cX10_again 22 = .ok (.aload_n 1, 1) := by decide +kernel
theorem dX10_again_23 : decode cX10_again 23 = .ok (.bipush 30, 2) := by decide +kernel
theorem dX10_again_25 : decode cX10_again 25 = .ok (.iload_n 2, 1) := by decide +kernel
theorem dX10_again_26 : decode cX10_again 26 = .ok (.iadd, 1) := by decide +kernel
theorem dX10_again_27 : decode cX10_again 27 = .ok (.iaload, 1) := by decide +kernel
theorem dX10_again_28 : decode cX10_again 28 = .ok (.iastore, 1) := by decide +kernel
theorem dX10_again_29 : decode cX10_again 29 = .ok (.aload_n 0, 1) := by decide +kernel
theorem dX10_again_30 : decode cX10_again 30 = .ok (.getfield 18, 3) := by decide +kernel
theorem dX10_again_33 : decode cX10_again 33 = .ok (.iload_n 2, 1) := by decide +kernel
theorem dX10_again_34 : decode cX10_again 34 = .ok (.aload_n 1, 1) := by decide +kernel
theorem dX10_again_35 : decode cX10_again 35 = .ok (.bipush 60, 2) := by decide +kernel
theorem dX10_again_37 : decode cX10_again 37 = .ok (.iload_n 2, 1) := by decide +kernel
theorem dX10_again_38 : decode cX10_again 38 = .ok (.iadd, 1) := by decide +kernel
theorem dX10_again_39 : decode cX10_again 39 = .ok (.iaload, 1) := by decide +kernel
theorem dX10_again_40 : decode cX10_again 40 = .ok (.iastore, 1) := by decide +kernel
theorem dX10_again_41 : decode cX10_again 41 = .ok (.iinc 2 1, 3) := by decide +kernel
theorem dX10_again_44 : decode cX10_again 44 = .ok (.goto (-42), 3) := by decide +kernel
theorem dX10_again_47 : decode cX10_again 47 = .ok (.aload_n 0, 1) := by decide +kernel
theorem dX10_again_48 : decode cX10_again 48 = .ok (.getfield 24, 3) := by decide +kernel
theorem dX10_again_51 : decode cX10_again 51 = .ok (.iconst 0, 1) := by decide +kernel
theorem dX10_again_52 : decode cX10_again 52 = .ok (.aload_n 1, 1) := by decide +kernel
theorem dX10_again_53 : decode cX10_again 53 = .ok (.bipush 90, 2) := by decide +kernel
theorem dX10_again_55 : decode cX10_again 55 = .ok (.iaload, 1) := by decide +kernel
theorem dX10_again_56 : decode cX10_again 56 = .ok (.iastore, 1) := by decide +kernel
theorem dX10_again_57 : decode cX10_again 57 = .ok (.aload_n 0, 1) := by decide +kernel
theorem dX10_again_58 : decode cX10_again 58 = .ok (.aload_n 1, 1) := by decide +kernel
theorem dX10_again_59 : decode cX10_again 59 = .ok (.bipush 91, 2) := by decide +kernel
theorem dX10_again_61 : decode cX10_again 61 = .ok (.iaload, 1) := by decide +kernel
theorem dX10_again_62 : decode cX10_again 62 = .ok (.putfield 245, 3) := by decide +kernel
theorem dX10_again_65 : decode cX10_again 65 = .ok (.return_, 1) := by decide +kernel
theorem dX10_goesOn_0 : decode cX10_goesOn 0 = .ok (.iconst 0, 1) := by decide +kernel
theorem dX10_goesOn_1 : decode cX10_goesOn 1 = .ok (.istore_n 2, 1) := by decide +kernel
theorem dX10_goesOn_2 : decode cX10_goesOn 2 = .ok (.iload_n 2, 1) := by decide +kernel
theorem dX10_goesOn_3 : decode cX10_goesOn 3 = .ok (.iload_n 1, 1) := by decide +kernel
theorem dX10_goesOn_4 : decode cX10_goesOn 4 = .ok (.if_icmp .ge 13, 3) := by decide +kernel
theorem dX10_goesOn_7 : decode cX10_goesOn 7 = .ok (.aload_n 0, 1) := by decide +kernel
theorem dX10_goesOn_8 : decode cX10_goesOn 8 = .ok (.invokevirtual 251, 3) := by decide +kernel
theorem dX10_goesOn_11 : decode cX10_goesOn 11 = .ok (.iinc 2 1, 3) := by decide +kernel
theorem dX10_goesOn_14 : decode cX10_goesOn 14 = .ok (.goto (-12), 3) := by decide +kernel
theorem dX10_goesOn_17 : decode cX10_goesOn 17 = .ok (.return_, 1) := by decide +kernel
theorem dX10_later_0 : decode cX10_later 0 = .ok (.iload_n 1, 1) := by decide +kernel
theorem dX10_later_1 : decode cX10_later 1 = .ok (.invokestatic 254, 3) := by decide +kernel
theorem dX10_later_4 : decode cX10_later 4 = .ok (.ifCond .eq 19, 3) := by decide +kernel
theorem dX10_later_7 : decode cX10_later 7 = .ok (.iload_n 2, 1) := by decide +kernel
theorem dX10_later_8 : decode cX10_later 8 = .ok (.invokestatic 111, 3) := by decide +kernel
theorem dX10_later_11 : decode cX10_later 11 = .ok (.ifCond .eq 12, 3) := by decide +kernel
theorem dX10_later_14 : decode cX10_later 14 = .ok (.iload_n 3, 1) := by decide +kernel
theorem dX10_later_15 : decode cX10_later 15 = .ok (.iconst 0, 1) := by decide +kernel
theorem dX10_later_16 : decode cX10_later 16 = .ok (.iconst 3, 1) := by decide +kernel
theorem dX10_later_17 : decode cX10_later 17 = .ok (.invokestatic 103, 3) := by decide +kernel
theorem dX10_later_20 : decode cX10_later 20 = .ok (.ifCond .ne 5, 3) := by decide +kernel
theorem dX10_later_23 : decode cX10_later 23 = .ok (.iconst (-1), 1) := by decide +kernel
theorem dX10_later_24 : decode cX10_later 24 = .ok (.ireturn, 1) := by decide +kernel
theorem dX10_later_25 : decode cX10_later 25 = .ok (.aload_n 0, 1) := by decide +kernel
theorem dX10_later_26 : decode cX10_later 26 = .ok (.aload_n 0, 1) := by decide +kernel
theorem dX10_later_27 : decode cX10_later 27 = .ok (.getfield 88, 3) := by decide +kernel
theorem dX10_later_30 : decode cX10_later 30 = .ok (.invokevirtual 257, 3) := by decide +kernel
theorem dX10_later_33 : decode cX10_later 33 = .ok (.aload_n 0, 1) := by decide +kernel
theorem dX10_later_34 : decode cX10_later 34 = .ok (.iload_n 1, 1) := by decide +kernel
theorem dX10_later_35 : decode cX10_later 35 = .ok (.invokevirtual 261, 3) := by decide +kernel
theorem dX10_later_38 : decode cX10_later 38 = .ok (.iload_n 3, 1) := by decide +kernel
theorem dX10_later_39 : decode cX10_later 39 = .ok (.ifCond .ne 11, 3) := by decide +kernel
theorem dX10_later_42 : decode cX10_later 42 = .ok (.aload_n 0, 1) := by decide +kernel
theorem dX10_later_43 : decode cX10_later 43 = .ok (.iload_n 2, 1) := by decide +kernel
theorem dX10_later_44 : decode cX10_later 44 = .ok (.invokevirtual 235, 3) := by decide +kernel
theorem dX10_later_47 : decode cX10_later 47 = .ok (.goto 11, 3) := by decide +kernel
theorem dX10_later_50 : decode cX10_later 50 = .ok (.aload_n 0, 1) := by decide +kernel
theorem dX10_later_51 : decode cX10_later 51 = .ok (.iload_n 2, 1) := by decide +kernel
theorem dX10_later_52 : decode cX10_later 52 = .ok (.iload_n 3, 1) := by decide +kernel
theorem dX10_later_53 : decode cX10_later 53 = .ok (.iconst 1, 1) := by decide +kernel
theorem dX10_later_54 : decode cX10_later 54 = .ok (.isub, 1) := by decide +kernel
theorem dX10_later_55 : decode cX10_later 55 = .ok (.invokevirtual 138, 3) := by decide +kernel
theorem dX10_later_58 : decode cX10_later 58 = .ok (.istore 4, 2) := by decide +kernel
theorem dX10_later_60 : decode cX10_later 60 = .ok (.aload_n 0, 1) := by decide +kernel
theorem dX10_later_61 : decode cX10_later 61 = .ok (.aload_n 0, 1) := by decide +kernel
theorem dX10_later_62 : decode cX10_later 62 = .ok (.getfield 88, 3) := by decide +kernel
theorem dX10_later_65 : decode cX10_later 65 = .ok (.invokevirtual 265, 3) := by decide +kernel
theorem dX10_later_68 : decode cX10_later 68 = .ok (.iload 4, 2) := by decide +kernel
theorem dX10_later_70 : decode cX10_later 70 = .ok (.ireturn, 1) := by decide +kernel
theorem dX10_warmest_0 : decode cX10_warmest 0 = .ok (.iconst 0, 1) := by decide +kernel
theorem dX10_warmest_1 : decode cX10_warmest 1 = .ok (.istore_n 1, 1) := by decide +kernel
theorem dX10_warmest_2 : decode cX10_warmest 2 = .ok (.iconst 1, 1) := by decide +kernel
theorem dX10_warmest_3 : decode cX10_warmest 3 = .ok (.istore_n 2, 1) := by decide +kernel
theorem dX10_warmest_4 : decode cX10_warmest 4 = .ok (.iload_n 2, 1) := by decide +kernel
theorem dX10_warmest_5 : decode cX10_warmest 5 = .ok (.bipush 30, 2) := by decide +kernel
theorem dX10_warmest_7 : decode cX10_warmest 7 = .ok (.if_icmp .ge 24, 3) := by decide +kernel
theorem dX10_warmest_10 : decode cX10_warmest 10 = .ok (.aload_n 0, 1) := by decide +kernel
theorem dX10_warmest_11 : decode cX10_warmest 11 = .ok (.iload_n 2, 1) := by decide +kernel
theorem dX10_warmest_12 : decode cX10_warmest 12 = .ok (.invokevirtual 235, 3) := by decide +kernel
theorem dX10_warmest_15 : decode cX10_warmest 15 = .ok (.aload_n 0, 1) := by decide +kernel
theorem dX10_warmest_16 : decode cX10_warmest 16 = .ok (.iload_n 1, 1) := by decide +kernel
theorem dX10_warmest_17 : decode cX10_warmest 17 = .ok (.invokevirtual 235, 3) := by decide +kernel
theorem dX10_warmest_20 : decode cX10_warmest 20 = .ok (.if_icmp .le 5, 3) := by decide +kernel
theorem dX10_warmest_23 : decode cX10_warmest 23 = .ok (.iload_n 2, 1) := by decide +kernel
theorem dX10_warmest_24 : decode cX10_warmest 24 = .ok (.istore_n 1, 1) := by decide +kernel
theorem dX10_warmest_25 : decode cX10_warmest 25 = .ok (.iinc 2 1, 3) := by decide +kernel
theorem dX10_warmest_28 : decode cX10_warmest 28 = .ok (.goto (-24), 3) := by decide +kernel
theorem dX10_warmest_31 : decode cX10_warmest 31 = .ok (.iload_n 1, 1) := by decide +kernel
theorem dX10_warmest_32 : decode cX10_warmest 32 = .ok (.ireturn, 1) := by decide +kernel
theorem dX10_cold_0 : decode cX10_cold 0 = .ok (.iload_n 1, 1) := by decide +kernel
theorem dX10_cold_1 : decode cX10_cold 1 = .ok (.invokestatic 254, 3) := by decide +kernel
theorem dX10_cold_4 : decode cX10_cold 4 = .ok (.ifCond .eq 12, 3) := by decide +kernel
theorem dX10_cold_7 : decode cX10_cold 7 = .ok (.iload_n 2, 1) := by decide +kernel
theorem dX10_cold_8 : decode cX10_cold 8 = .ok (.iconst 0, 1) := by decide +kernel
theorem dX10_cold_9 : decode cX10_cold 9 = .ok (.iconst 1, 1) := by decide +kernel
theorem dX10_cold_10 : decode cX10_cold 10 = .ok (.invokestatic 103, 3) := by decide +kernel
theorem dX10_cold_13 : decode cX10_cold 13 = .ok (.ifCond .ne 5, 3) := by decide +kernel
theorem dX10_cold_16 : decode cX10_cold 16 = .ok (.iconst (-1), 1) := by decide +kernel
theorem dX10_cold_17 : decode cX10_cold 17 = .ok (.ireturn, 1) := by decide +kernel
theorem dX10_cold_18 : decode cX10_cold 18 = .ok (.aload_n 0, 1) := by decide +kernel
theorem dX10_cold_19 : decode cX10_cold 19 = .ok (.aload_n 0, 1) := by decide +kernel
theorem dX10_cold_20 : decode cX10_cold 20 = .ok (.getfield 88, 3) := by decide +kernel
theorem dX10_cold_23 : decode cX10_cold 23 = .ok (.invokevirtual 257, 3) := by decide +kernel
theorem dX10_cold_26 : decode cX10_cold 26 = .ok (.aload_n 0, 1) := by decide +kernel
theorem dX10_cold_27 : decode cX10_cold 27 = .ok (.iload_n 1, 1) := by decide +kernel
theorem dX10_cold_28 : decode cX10_cold 28 = .ok (.invokevirtual 261, 3) := by decide +kernel
theorem dX10_cold_31 : decode cX10_cold 31 = .ok (.iload_n 2, 1) := by decide +kernel
theorem dX10_cold_32 : decode cX10_cold 32 = .ok (.ifCond .ne 10, 3) := by decide +kernel
theorem dX10_cold_35 : decode cX10_cold 35 = .ok (.aload_n 0, 1) := by decide +kernel
theorem dX10_cold_36 : decode cX10_cold 36 = .ok (.invokevirtual 268, 3) := by decide +kernel
theorem dX10_cold_39 : decode cX10_cold 39 = .ok (.goto 7, 3) := by decide +kernel
theorem dX10_cold_42 : decode cX10_cold 42 = .ok (.aload_n 0, 1) := by decide +kernel
theorem dX10_cold_43 : decode cX10_cold 43 = .ok (.invokevirtual 271, 3) := by decide +kernel
theorem dX10_cold_46 : decode cX10_cold 46 = .ok (.istore_n 3, 1) := by decide +kernel
theorem dX10_cold_47 : decode cX10_cold 47 = .ok (.aload_n 0, 1) := by decide +kernel
theorem dX10_cold_48 : decode cX10_cold 48 = .ok (.aload_n 0, 1) := by decide +kernel
theorem dX10_cold_49 : decode cX10_cold 49 = .ok (.getfield 88, 3) := by decide +kernel
theorem dX10_cold_52 : decode cX10_cold 52 = .ok (.invokevirtual 265, 3) := by decide +kernel
theorem dX10_cold_55 : decode cX10_cold 55 = .ok (.iload_n 3, 1) := by decide +kernel
theorem dX10_cold_56 : decode cX10_cold 56 = .ok (.ireturn, 1) := by decide +kernel
theorem dX10_first_0 : decode cX10_first 0 = .ok (.aload_n 0, 1) := by decide +kernel
theorem dX10_first_1 : decode cX10_first 1 = .ok (.iload_n 1, 1) := by decide +kernel
theorem dX10_first_2 : decode cX10_first 2 = .ok (.invokevirtual 128, 3) := by decide +kernel
theorem dX10_first_5 : decode cX10_first 5 = .ok (.ifCond .ne 5, 3) := by decide +kernel
theorem dX10_first_8 : decode cX10_first 8 = .ok (.iconst (-1), 1) := by decide +kernel
theorem dX10_first_9 : decode cX10_first 9 = .ok (.ireturn, 1) := by decide +kernel
theorem dX10_first_10 : decode cX10_first 10 = .ok (.aload_n 0, 1) := by decide +kernel
theorem dX10_first_11 : decode cX10_first 11 = .ok (.aload_n 0, 1) := by decide +kernel
theorem dX10_first_12 : decode cX10_first 12 = .ok (.getfield 88, 3) := by decide +kernel
theorem dX10_first_15 : decode cX10_first 15 = .ok (.invokevirtual 257, 3) := by decide +kernel
theorem dX10_first_18 : decode cX10_first 18 = .ok (.bipush (-2), 2) := by decide +kernel
theorem dX10_first_20 : decode cX10_first 20 = .ok (.istore_n 2, 1) := by decide +kernel
theorem dX10_first_21 : decode cX10_first 21 = .ok (.iconst 0, 1) := by decide +kernel
theorem dX10_first_22 : decode cX10_first 22 = .ok (.istore_n 3, 1) := by decide +kernel
theorem dX10_first_23 : decode cX10_first 23 = .ok (.iload_n 3, 1) := by decide +kernel
theorem dX10_first_24 : decode cX10_first 24 = .ok (.bipush 49, 2) := by decide +kernel
theorem dX10_first_26 : decode cX10_first 26 = .ok (.if_icmp .ge 33, 3) := by decide +kernel
theorem dX10_first_29 : decode cX10_first 29 = .ok (.iload_n 2, 1) := by decide +kernel
theorem dX10_first_30 : decode cX10_first 30 = .ok (.bipush (-2), 2) := by decide +kernel
theorem dX10_first_32 : decode cX10_first 32 = .ok (.if_icmp .ne 27, 3) := by decide +kernel
theorem dX10_first_35 : decode cX10_first 35 = .ok (.iload_n 3, 1) := by decide +kernel
theorem dX10_first_36 : decode cX10_first 36 = .ok (.ifCond .le 7, 3) := by decide +kernel
theorem dX10_first_39 : decode cX10_first 39 = .ok (.aload_n 0, 1) := by decide +kernel
theorem dX10_first_40 : decode cX10_first 40 = .ok (.invokevirtual 251, 3) := by decide +kernel
theorem dX10_first_43 : decode cX10_first 43 = .ok (.aload_n 0, 1) := by decide +kernel
theorem dX10_first_44 : decode cX10_first 44 = .ok (.iload_n 1, 1) := by decide +kernel
theorem dX10_first_45 : decode cX10_first 45 = .ok (.invokevirtual 238, 3) := by decide +kernel
theorem dX10_first_48 : decode cX10_first 48 = .ok (.ifCond .eq 5, 3) := by decide +kernel
theorem dX10_first_51 : decode cX10_first 51 = .ok (.iload_n 3, 1) := by decide +kernel
theorem dX10_first_52 : decode cX10_first 52 = .ok (.istore_n 2, 1) := by decide +kernel
theorem dX10_first_53 : decode cX10_first 53 = .ok (.iinc 3 1, 3) := by decide +kernel
theorem dX10_first_56 : decode cX10_first 56 = .ok (.goto (-33), 3) := by decide +kernel
theorem dX10_first_59 : decode cX10_first 59 = .ok (.aload_n 0, 1) := by decide +kernel
theorem dX10_first_60 : decode cX10_first 60 = .ok (.aload_n 0, 1) := by decide +kernel
theorem dX10_first_61 : decode cX10_first 61 = .ok (.getfield 88, 3) := by decide +kernel
theorem dX10_first_64 : decode cX10_first 64 = .ok (.invokevirtual 265, 3) := by decide +kernel
theorem dX10_first_67 : decode cX10_first 67 = .ok (.iload_n 2, 1) := by decide +kernel
theorem dX10_first_68 : decode cX10_first 68 = .ok (.ireturn, 1) := by decide +kernel
theorem dX10_often_0 : decode cX10_often 0 = .ok (.aload_n 0, 1) := by decide +kernel
theorem dX10_often_1 : decode cX10_often 1 = .ok (.iload_n 1, 1) := by decide +kernel
theorem dX10_often_2 : decode cX10_often 2 = .ok (.invokevirtual 128, 3) := by decide +kernel
theorem dX10_often_5 : decode cX10_often 5 = .ok (.ifCond .eq 10, 3) := by decide +kernel
theorem dX10_often_8 : decode cX10_often 8 = .ok (.iload_n 2, 1) := by decide +kernel
theorem dX10_often_9 : decode cX10_often 9 = .ok (.invokestatic 254, 3) := by decide +kernel
theorem dX10_often_12 : decode cX10_often 12 = .ok (.ifCond .ne 5, 3) := by decide +kernel
theorem dX10_often_15 : decode cX10_often 15 = .ok (.iconst (-1), 1) := by decide +kernel
theorem dX10_often_16 : decode cX10_often 16 = .ok (.ireturn, 1) := by decide +kernel
theorem dX10_often_17 : decode cX10_often 17 = .ok (.aload_n 0, 1) := by decide +kernel
theorem dX10_often_18 : decode cX10_often 18 = .ok (.aload_n 0, 1) := by decide +kernel
theorem dX10_often_19 : decode cX10_often 19 = .ok (.getfield 88, 3) := by decide +kernel
theorem dX10_often_22 : decode cX10_often 22 = .ok (.invokevirtual 257, 3) := by decide +kernel
theorem dX10_often_25 : decode cX10_often 25 = .ok (.iconst 0, 1) := by decide +kernel
theorem dX10_often_26 : decode cX10_often 26 = .ok (.istore_n 3, 1) := by decide +kernel
theorem dX10_often_27 : decode cX10_often 27 = .ok (.iconst 0, 1) := by decide +kernel
theorem dX10_often_28 : decode cX10_often 28 = .ok (.istore 4, 2) := by decide +kernel
theorem dX10_often_30 : decode cX10_often 30 = .ok (.iload 4, 2) := by decide +kernel
theorem dX10_often_32 : decode cX10_often 32 = .ok (.iload_n 2, 1) := by decide +kernel
theorem dX10_often_33 : decode cX10_often 33 = .ok (.if_icmp .gt 29, 3) := by decide +kernel
theorem dX10_often_36 : decode cX10_often 36 = .ok (.iload 4, 2) := by decide +kernel
theorem dX10_often_38 : decode cX10_often 38 = .ok (.ifCond .le 7, 3) := by decide +kernel
theorem dX10_often_41 : decode cX10_often 41 = .ok (.aload_n 0, 1) := by decide +kernel
theorem dX10_often_42 : decode cX10_often 42 = .ok (.invokevirtual 251, 3) := by decide +kernel
theorem dX10_often_45 : decode cX10_often 45 = .ok (.aload_n 0, 1) := by decide +kernel
theorem dX10_often_46 : decode cX10_often 46 = .ok (.iload_n 1, 1) := by decide +kernel
theorem dX10_often_47 : decode cX10_often 47 = .ok (.invokevirtual 238, 3) := by decide +kernel
theorem dX10_often_50 : decode cX10_often 50 = .ok (.ifCond .eq 6, 3) := by decide +kernel
theorem dX10_often_53 : decode cX10_often 53 = .ok (.iinc 3 1, 3) := by decide +kernel
theorem dX10_often_56 : decode cX10_often 56 = .ok (.iinc 4 1, 3) := by decide +kernel
theorem dX10_often_59 : decode cX10_often 59 = .ok (.goto (-29), 3) := by decide +kernel
theorem dX10_often_62 : decode cX10_often 62 = .ok (.aload_n 0, 1) := by decide +kernel
theorem dX10_often_63 : decode cX10_often 63 = .ok (.aload_n 0, 1) := by decide +kernel
theorem dX10_often_64 : decode cX10_often 64 = .ok (.getfield 88, 3) := by decide +kernel
theorem dX10_often_67 : decode cX10_often 67 = .ok (.invokevirtual 265, 3) := by decide +kernel
theorem dX10_often_70 : decode cX10_often 70 = .ok (.iload_n 3, 1) := by decide +kernel
theorem dX10_often_71 : decode cX10_often 71 = .ok (.ireturn, 1) := by decide +kernel
theorem dX10_isEnough_0 : decode cX10_isEnough 0 = .ok (.iload_n 2, 1) := by decide +kernel
theorem dX10_isEnough_1 : decode cX10_isEnough 1 = .ok (.iload_n 3, 1) := by decide +kernel
theorem dX10_isEnough_2 : decode cX10_isEnough 2 = .ok (.if_icmp .ne 51, 3) := by decide +kernel
theorem dX10_isEnough_5 : decode cX10_isEnough 5 = .ok (.aload_n 0, 1) := by decide +kernel
theorem dX10_isEnough_6 : decode cX10_isEnough 6 = .ok (.aload_n 0, 1) := by decide +kernel
theorem dX10_isEnough_7 : decode cX10_isEnough 7 = .ok (.getfield 88, 3) := by decide +kernel
theorem dX10_isEnough_10 : decode cX10_isEnough 10 = .ok (.invokevirtual 265, 3) := by decide +kernel
theorem dX10_isEnough_13 : decode cX10_isEnough 13 = .ok (.iconst 0, 1) := by decide +kernel
theorem dX10_isEnough_14 : decode cX10_isEnough 14 = .ok (.istore 4, 2) := by decide +kernel
theorem dX10_isEnough_16 : decode cX10_isEnough 16 = .ok (.iload 4, 2) := by decide +kernel
theorem dX10_isEnough_18 : decode cX10_isEnough 18 = .ok (.iload_n 3, 1) := by decide +kernel
theorem dX10_isEnough_19 : decode cX10_isEnough 19 = .ok (.if_icmp .ge 20, 3) := by decide +kernel
theorem dX10_isEnough_22 : decode cX10_isEnough 22 = .ok (.aload_n 0, 1) := by decide +kernel
theorem dX10_isEnough_23 : decode cX10_isEnough 23 = .ok (.aload_n 0, 1) := by decide +kernel
theorem dX10_isEnough_24 : decode cX10_isEnough 24 = .ok (.getfield 94, 3) := by decide +kernel
theorem dX10_isEnough_27 : decode cX10_isEnough 27 = .ok (.iload 4, 2) := by decide +kernel
theorem dX10_isEnough_29 : decode cX10_isEnough 29 = .ok (.iaload, 1) := by decide +kernel
theorem dX10_isEnough_30 : decode cX10_isEnough 30 = .ok (.invokevirtual 274, 3) := by decide +kernel
theorem dX10_isEnough_33 : decode cX10_isEnough 33 = .ok (.iinc 4 1, 3) := by decide +kernel
theorem dX10_isEnough_36 : decode cX10_isEnough 36 = .ok (.goto (-20), 3) := by decide +kernel
theorem dX10_isEnough_39 : decode cX10_isEnough 39 = .ok (.aload_n 0, 1) := by decide +kernel
theorem dX10_isEnough_40 : decode cX10_isEnough 40 = .ok (.iload_n 1, 1) := by decide +kernel
theorem dX10_isEnough_41 : decode cX10_isEnough 41 = .ok (.invokevirtual 238, 3) := by decide +kernel
theorem dX10_isEnough_44 : decode cX10_isEnough 44 = .ok (.ifCond .ne 7, 3) := by decide +kernel
theorem dX10_isEnough_47 : decode cX10_isEnough 47 = .ok (.iconst 1, 1) := by decide +kernel
theorem dX10_isEnough_48 : decode cX10_isEnough 48 = .ok (.goto 4, 3) := by decide +kernel
theorem dX10_isEnough_51 : decode cX10_isEnough 51 = .ok (.iconst 0, 1) := by decide +kernel
theorem dX10_isEnough_52 : decode cX10_isEnough 52 = .ok (.ireturn, 1) := by decide +kernel
theorem dX10_isEnough_53 : decode cX10_isEnough 53 = .ok (.iconst 0, 1) := by decide +kernel
theorem dX10_isEnough_54 : decode cX10_isEnough 54 = .ok (.istore 4, 2) := by decide +kernel
theorem dX10_isEnough_56 : decode cX10_isEnough 56 = .ok (.iload 4, 2) := by decide +kernel
theorem dX10_isEnough_58 : decode cX10_isEnough 58 = .ok (.bipush 10, 2) := by decide +kernel
theorem dX10_isEnough_60 : decode cX10_isEnough 60 = .ok (.if_icmp .ge 31, 3) := by decide +kernel
theorem dX10_isEnough_63 : decode cX10_isEnough 63 = .ok (.aload_n 0, 1) := by decide +kernel
theorem dX10_isEnough_64 : decode cX10_isEnough 64 = .ok (.getfield 94, 3) := by decide +kernel
theorem dX10_isEnough_67 : decode cX10_isEnough 67 = .ok (.iload_n 2, 1) := by decide +kernel
theorem dX10_isEnough_68 : decode cX10_isEnough 68 = .ok (.iload 4, 2) := by decide +kernel
theorem dX10_isEnough_70 : decode cX10_isEnough 70 = .ok (.iastore, 1) := by decide +kernel
theorem dX10_isEnough_71 : decode cX10_isEnough 71 = .ok (.aload_n 0, 1) := by decide +kernel
theorem dX10_isEnough_72 : decode cX10_isEnough 72 = .ok (.iload_n 1, 1) := by decide +kernel
theorem dX10_isEnough_73 : decode cX10_isEnough 73 = .ok (.iload_n 2, 1) := by decide +kernel
theorem dX10_isEnough_74 : decode cX10_isEnough 74 = .ok (.iconst 1, 1) := by decide +kernel
theorem dX10_isEnough_75 : decode cX10_isEnough 75 = .ok (.iadd, 1) := by decide +kernel
theorem dX10_isEnough_76 : decode cX10_isEnough 76 = .ok (.iload_n 3, 1) := by decide +kernel
theorem dX10_isEnough_77 : decode cX10_isEnough 77 = .ok (.invokevirtual 277, 3) := by decide +kernel
theorem dX10_isEnough_80 : decode cX10_isEnough 80 = .ok (.ifCond .eq 5, 3) := by decide +kernel
theorem dX10_isEnough_83 : decode cX10_isEnough 83 = .ok (.iconst 1, 1) := by decide +kernel
theorem dX10_isEnough_84 : decode cX10_isEnough 84 = .ok (.ireturn, 1) := by decide +kernel
theorem dX10_isEnough_85 : decode cX10_isEnough 85 = .ok (.iinc 4 1, 3) := by decide +kernel
theorem dX10_isEnough_88 : decode cX10_isEnough 88 = .ok (.goto (-32), 3) := by decide +kernel
theorem dX10_isEnough_91 : decode cX10_isEnough 91 = .ok (.iconst 0, 1) := by decide +kernel
theorem dX10_isEnough_92 : decode cX10_isEnough 92 = .ok (.ireturn, 1) := by decide +kernel
theorem dX10_pulls__0 : decode cX10_pulls_ 0 = .ok (.aload_n 0, 1) := by decide +kernel
theorem dX10_pulls__1 : decode cX10_pulls_ 1 = .ok (.iload_n 1, 1) := by decide +kernel
theorem dX10_pulls__2 : decode cX10_pulls_ 2 = .ok (.invokevirtual 128, 3) := by decide +kernel
theorem dX10_pulls__5 : decode cX10_pulls_ 5 = .ok (.ifCond .eq 8, 3) := by decide +kernel
theorem dX10_pulls__8 : decode cX10_pulls_ 8 = .ok (.iload_n 2, 1) := by decide +kernel
theorem dX10_pulls__9 : decode cX10_pulls_ 9 = .ok (.iconst (-1), 1) := by decide +kernel
theorem dX10_pulls__10 : decode cX10_pulls_ 10 = .ok (.if_icmp .ge 5, 3) := by decide +kernel
theorem dX10_pulls__13 : decode cX10_pulls_ 13 = .ok (.iconst (-1), 1) := by decide +kernel
theorem dX10_pulls__14 : decode cX10_pulls_ 14 = .ok (.ireturn, 1) := by decide +kernel
theorem dX10_pulls__15 : decode cX10_pulls_ 15 = .ok (.aload_n 0, 1) := by decide +kernel
theorem dX10_pulls__16 : decode cX10_pulls_ 16 = .ok (.aload_n 0, 1) := by decide +kernel
theorem dX10_pulls__17 : decode cX10_pulls_ 17 = .ok (.getfield 88, 3) := by decide +kernel
theorem dX10_pulls__20 : decode cX10_pulls_ 20 = .ok (.invokevirtual 257, 3) := by decide +kernel
theorem dX10_pulls__23 : decode cX10_pulls_ 23 = .ok (.bipush (-2), 2) := by decide +kernel
theorem dX10_pulls__25 : decode cX10_pulls_ 25 = .ok (.istore_n 3, 1) := by decide +kernel
theorem dX10_pulls__26 : decode cX10_pulls_ 26 = .ok (.iconst 0, 1) := by decide +kernel
theorem dX10_pulls__27 : decode cX10_pulls_ 27 = .ok (.istore 4, 2) := by decide +kernel
theorem dX10_pulls__29 : decode cX10_pulls_ 29 = .ok (.iload 4, 2) := by decide +kernel
theorem dX10_pulls__31 : decode cX10_pulls_ 31 = .ok (.iconst 4, 1) := by decide +kernel
theorem dX10_pulls__32 : decode cX10_pulls_ 32 = .ok (.if_icmp .ge 29, 3) := by decide +kernel
theorem dX10_pulls__35 : decode cX10_pulls_ 35 = .ok (.iload_n 3, 1) := by decide +kernel
theorem dX10_pulls__36 : decode cX10_pulls_ 36 = .ok (.bipush (-2), 2) := by decide +kernel
theorem dX10_pulls__38 : decode cX10_pulls_ 38 = .ok (.if_icmp .ne 23, 3) := by decide +kernel
theorem dX10_pulls__41 : decode cX10_pulls_ 41 = .ok (.aload_n 0, 1) := by decide +kernel
theorem dX10_pulls__42 : decode cX10_pulls_ 42 = .ok (.iload_n 1, 1) := by decide +kernel
theorem dX10_pulls__43 : decode cX10_pulls_ 43 = .ok (.iconst 0, 1) := by decide +kernel
theorem dX10_pulls__44 : decode cX10_pulls_ 44 = .ok (.iload 4, 2) := by decide +kernel
theorem dX10_pulls__46 : decode cX10_pulls_ 46 = .ok (.invokevirtual 277, 3) := by decide +kernel
theorem dX10_pulls__49 : decode cX10_pulls_ 49 = .ok (.ifCond .eq 6, 3) := by decide +kernel
theorem dX10_pulls__52 : decode cX10_pulls_ 52 = .ok (.iload 4, 2) := by decide +kernel
theorem dX10_pulls__54 : decode cX10_pulls_ 54 = .ok (.istore_n 3, 1) := by decide +kernel
theorem dX10_pulls__55 : decode cX10_pulls_ 55 = .ok (.iinc 4 1, 3) := by decide +kernel
theorem dX10_pulls__58 : decode cX10_pulls_ 58 = .ok (.goto (-29), 3) := by decide +kernel
theorem dX10_pulls__61 : decode cX10_pulls_ 61 = .ok (.aload_n 0, 1) := by decide +kernel
theorem dX10_pulls__62 : decode cX10_pulls_ 62 = .ok (.aload_n 0, 1) := by decide +kernel
theorem dX10_pulls__63 : decode cX10_pulls_ 63 = .ok (.getfield 88, 3) := by decide +kernel
theorem dX10_pulls__66 : decode cX10_pulls_ 66 = .ok (.invokevirtual 265, 3) := by decide +kernel
theorem dX10_pulls__69 : decode cX10_pulls_ 69 = .ok (.iload_n 3, 1) := by decide +kernel
theorem dX10_pulls__70 : decode cX10_pulls_ 70 = .ok (.bipush (-2), 2) := by decide +kernel
theorem dX10_pulls__72 : decode cX10_pulls_ 72 = .ok (.if_icmp .eq 8, 3) := by decide +kernel
theorem dX10_pulls__75 : decode cX10_pulls_ 75 = .ok (.iload_n 2, 1) := by decide +kernel
theorem dX10_pulls__76 : decode cX10_pulls_ 76 = .ok (.iconst (-1), 1) := by decide +kernel
theorem dX10_pulls__77 : decode cX10_pulls_ 77 = .ok (.if_icmp .ne 7, 3) := by decide +kernel
theorem dX10_pulls__80 : decode cX10_pulls_ 80 = .ok (.iload_n 3, 1) := by decide +kernel
theorem dX10_pulls__81 : decode cX10_pulls_ 81 = .ok (.goto 19, 3) := by decide +kernel
theorem dX10_pulls__84 : decode cX10_pulls_ 84 = .ok (.iload_n 2, 1) := by decide +kernel
theorem dX10_pulls__85 : decode cX10_pulls_ 85 = .ok (.iload_n 3, 1) := by decide +kernel
theorem dX10_pulls__86 : decode cX10_pulls_ 86 = .ok (.if_icmp .ge 12, 3) := by decide +kernel
theorem dX10_pulls__89 : decode cX10_pulls_ 89 = .ok (.aload_n 0, 1) := by decide +kernel
theorem dX10_pulls__90 : decode cX10_pulls_ 90 = .ok (.getfield 94, 3) := by decide +kernel
theorem dX10_pulls__93 : decode cX10_pulls_ 93 = .ok (.iload_n 2, 1) := by decide +kernel
theorem dX10_pulls__94 : decode cX10_pulls_ 94 = .ok (.iaload, 1) := by decide +kernel
theorem dX10_pulls__95 : decode cX10_pulls_ 95 = .ok (.goto 5, 3) := by decide +kernel
theorem dX10_pulls__98 : decode cX10_pulls_ 98 = .ok (.bipush (-2), 2) := by decide +kernel
theorem dX10_pulls__100 : decode cX10_pulls_ 100 = .ok (.ireturn, 1) := by decide +kernel
theorem dX10_shakes_0 : decode cX10_shakes 0 = .ok (.iload_n 1, 1) := by decide +kernel
theorem dX10_shakes_1 : decode cX10_shakes 1 = .ok (.iconst 0, 1) := by decide +kernel
theorem dX10_shakes_2 : decode cX10_shakes 2 = .ok (.iconst 1, 1) := by decide +kernel
theorem dX10_shakes_3 : decode cX10_shakes 3 = .ok (.invokestatic 103, 3) := by decide +kernel
theorem dX10_shakes_6 : decode cX10_shakes 6 = .ok (.ifCond .ne 5, 3) := by decide +kernel
theorem dX10_shakes_9 : decode cX10_shakes 9 = .ok (.iconst (-1), 1) := by decide +kernel
theorem dX10_shakes_10 : decode cX10_shakes 10 = .ok (.ireturn, 1) := by decide +kernel
theorem dX10_shakes_11 : decode cX10_shakes 11 = .ok (.aload_n 0, 1) := by decide +kernel
theorem dX10_shakes_12 : decode cX10_shakes 12 = .ok (.aload_n 0, 1) := by decide +kernel
theorem dX10_shakes_13 : decode cX10_shakes 13 = .ok (.getfield 88, 3) := by decide +kernel
theorem dX10_shakes_16 : decode cX10_shakes 16 = .ok (.invokevirtual 257, 3) := by decide +kernel
theorem dX10_shakes_19 : decode cX10_shakes 19 = .ok (.bipush (-2), 2) := by decide +kernel
theorem dX10_shakes_21 : decode cX10_shakes 21 = .ok (.istore_n 2, 1) := by decide +kernel
theorem dX10_shakes_22 : decode cX10_shakes 22 = .ok (.bipush 99, 2) := by decide +kernel
theorem dX10_shakes_24 : decode cX10_shakes 24 = .ok (.istore_n 3, 1) := by decide +kernel
theorem dX10_shakes_25 : decode cX10_shakes 25 = .ok (.iconst 0, 1) := by decide +kernel
theorem dX10_shakes_26 : decode cX10_shakes 26 = .ok (.istore 4, 2) := by decide +kernel
theorem dX10_shakes_28 : decode cX10_shakes 28 = .ok (.iload 4, 2) := by decide +kernel
theorem dX10_shakes_30 : decode cX10_shakes 30 = .ok (.bipush 30, 2) := by decide +kernel
theorem dX10_shakes_32 : decode cX10_shakes 32 = .ok (.if_icmp .ge 58, 3) := by decide +kernel
theorem dX10_shakes_35 : decode cX10_shakes 35 = .ok (.iload 4, 2) := by decide +kernel
theorem dX10_shakes_37 : decode cX10_shakes 37 = .ok (.invokestatic 280, 3) := by decide +kernel
theorem dX10_shakes_40 : decode cX10_shakes 40 = .ok (.ifCond .ne 6, 3) := by decide +kernel
theorem dX10_shakes_43 : decode cX10_shakes 43 = .ok (.goto 41, 3) := by decide +kernel
theorem dX10_shakes_46 : decode cX10_shakes 46 = .ok (.aload_n 0, 1) := by decide +kernel
theorem dX10_shakes_47 : decode cX10_shakes 47 = .ok (.iload 4, 2) := by decide +kernel
theorem dX10_shakes_49 : decode cX10_shakes 49 = .ok (.invokevirtual 283, 3) := by decide +kernel
theorem dX10_shakes_52 : decode cX10_shakes 52 = .ok (.aload_n 0, 1) := by decide +kernel
theorem dX10_shakes_53 : decode cX10_shakes 53 = .ok (.invokevirtual 268, 3) := by decide +kernel
theorem dX10_shakes_56 : decode cX10_shakes 56 = .ok (.invokestatic 286, 3) := by decide +kernel
theorem dX10_shakes_59 : decode cX10_shakes 59 = .ok (.istore 5, 2) := by decide +kernel
theorem dX10_shakes_61 : decode cX10_shakes 61 = .ok (.aload_n 0, 1) := by decide +kernel
theorem dX10_shakes_62 : decode cX10_shakes 62 = .ok (.aload_n 0, 1) := by decide +kernel
theorem dX10_shakes_63 : decode cX10_shakes 63 = .ok (.getfield 88, 3) := by decide +kernel
theorem dX10_shakes_66 : decode cX10_shakes 66 = .ok (.invokevirtual 265, 3) := by decide +kernel
theorem dX10_shakes_69 : decode cX10_shakes 69 = .ok (.iload 5, 2) := by decide +kernel
theorem dX10_shakes_71 : decode cX10_shakes 71 = .ok (.iload_n 3, 1) := by decide +kernel
theorem dX10_shakes_72 : decode cX10_shakes 72 = .ok (.if_icmp .lt 6, 3) := by decide +kernel
theorem dX10_shakes_75 : decode cX10_shakes 75 = .ok (.goto 9, 3) := by decide +kernel
theorem dX10_shakes_78 : decode cX10_shakes 78 = .ok (.iload 5, 2) := by decide +kernel
theorem dX10_shakes_80 : decode cX10_shakes 80 = .ok (.istore_n 3, 1) := by decide +kernel
theorem dX10_shakes_81 : decode cX10_shakes 81 = .ok (.iload 4, 2) := by decide +kernel
theorem dX10_shakes_83 : decode cX10_shakes 83 = .ok (.istore_n 2, 1) := by decide +kernel
theorem dX10_shakes_84 : decode cX10_shakes 84 = .ok (.iinc 4 1, 3) := by decide +kernel
theorem dX10_shakes_87 : decode cX10_shakes 87 = .ok (.goto (-59), 3) := by decide +kernel
theorem dX10_shakes_90 : decode cX10_shakes 90 = .ok (.iload_n 1, 1) := by decide +kernel
theorem dX10_shakes_91 : decode cX10_shakes 91 = .ok (.ifCond .ne 7, 3) := by decide +kernel
theorem dX10_shakes_94 : decode cX10_shakes 94 = .ok (.iload_n 2, 1) := by decide +kernel
theorem dX10_shakes_95 : decode cX10_shakes 95 = .ok (.goto 4, 3) := by decide +kernel
theorem dX10_shakes_98 : decode cX10_shakes 98 = .ok (.iload_n 3, 1) := by decide +kernel
theorem dX10_shakes_99 : decode cX10_shakes 99 = .ok (.ireturn, 1) := by decide +kernel
theorem dX10_stuffsAt_0 : decode cX10_stuffsAt 0 = .ok (.aload_n 0, 1) := by decide +kernel
theorem dX10_stuffsAt_1 : decode cX10_stuffsAt 1 = .ok (.getfield 9, 3) := by decide +kernel
theorem dX10_stuffsAt_4 : decode cX10_stuffsAt 4 = .ok (.iload_n 1, 1) := by decide +kernel
theorem dX10_stuffsAt_5 : decode cX10_stuffsAt 5 = .ok (.iload_n 2, 1) := by decide +kernel
theorem dX10_stuffsAt_6 : decode cX10_stuffsAt 6 = .ok (.iastore, 1) := by decide +kernel
theorem dX10_stuffsAt_7 : decode cX10_stuffsAt 7 = .ok (.aload_n 0, 1) := by decide +kernel
theorem dX10_stuffsAt_8 : decode cX10_stuffsAt 8 = .ok (.getfield 15, 3) := by decide +kernel
theorem dX10_stuffsAt_11 : decode cX10_stuffsAt 11 = .ok (.iload_n 1, 1) := by decide +kernel
theorem dX10_stuffsAt_12 : decode cX10_stuffsAt 12 = .ok (.iload_n 3, 1) := by decide +kernel
theorem dX10_stuffsAt_13 : decode cX10_stuffsAt 13 = .ok (.iastore, 1) := by decide +kernel
theorem dX10_stuffsAt_14 : decode cX10_stuffsAt 14 = .ok (.aload_n 0, 1) := by decide +kernel
theorem dX10_stuffsAt_15 : decode cX10_stuffsAt 15 = .ok (.getfield 18, 3) := by decide +kernel
theorem dX10_stuffsAt_18 : decode cX10_stuffsAt 18 = .ok (.iload_n 1, 1) := by decide +kernel
theorem dX10_stuffsAt_19 : decode cX10_stuffsAt 19 = .ok (.iconst 0, 1) := by decide +kernel
theorem dX10_stuffsAt_20 : decode cX10_stuffsAt 20 = .ok (.iastore, 1) := by decide +kernel
theorem dX10_stuffsAt_21 : decode cX10_stuffsAt 21 = .ok (.return_, 1) := by decide +kernel
theorem dX10_stuffs_0 : decode cX10_stuffs 0 = .ok (.iload_n 1, 1) := by decide +kernel
theorem dX10_stuffs_1 : decode cX10_stuffs 1 = .ok (.iconst 0, 1) := by decide +kernel
theorem dX10_stuffs_2 : decode cX10_stuffs 2 = .ok (.iconst 2, 1) := by decide +kernel
theorem dX10_stuffs_3 : decode cX10_stuffs 3 = .ok (.invokestatic 103, 3) := by decide +kernel
theorem dX10_stuffs_6 : decode cX10_stuffs 6 = .ok (.ifCond .eq 12, 3) := by decide +kernel
theorem dX10_stuffs_9 : decode cX10_stuffs 9 = .ok (.iload_n 2, 1) := by decide +kernel
theorem dX10_stuffs_10 : decode cX10_stuffs 10 = .ok (.iconst 0, 1) := by decide +kernel
theorem dX10_stuffs_11 : decode cX10_stuffs 11 = .ok (.iconst 1, 1) := by decide +kernel
theorem dX10_stuffs_12 : decode cX10_stuffs 12 = .ok (.invokestatic 103, 3) := by decide +kernel
theorem dX10_stuffs_15 : decode cX10_stuffs 15 = .ok (.ifCond .ne 5, 3) := by decide +kernel
theorem dX10_stuffs_18 : decode cX10_stuffs 18 = .ok (.iconst (-1), 1) := by decide +kernel
theorem dX10_stuffs_19 : decode cX10_stuffs 19 = .ok (.ireturn, 1) := by decide +kernel
theorem dX10_stuffs_20 : decode cX10_stuffs 20 = .ok (.aload_n 0, 1) := by decide +kernel
theorem dX10_stuffs_21 : decode cX10_stuffs 21 = .ok (.aload_n 0, 1) := by decide +kernel
theorem dX10_stuffs_22 : decode cX10_stuffs 22 = .ok (.getfield 88, 3) := by decide +kernel
theorem dX10_stuffs_25 : decode cX10_stuffs 25 = .ok (.invokevirtual 257, 3) := by decide +kernel
theorem dX10_stuffs_28 : decode cX10_stuffs 28 = .ok (.bipush (-9), 2) := by decide +kernel
theorem dX10_stuffs_30 : decode cX10_stuffs 30 = .ok (.istore_n 3, 1) := by decide +kernel
theorem dX10_stuffs_31 : decode cX10_stuffs 31 = .ok (.bipush 99, 2) := by decide +kernel
theorem dX10_stuffs_33 : decode cX10_stuffs 33 = .ok (.istore 4, 2) := by decide +kernel
theorem dX10_stuffs_35 : decode cX10_stuffs 35 = .ok (.iconst 0, 1) := by decide +kernel
theorem dX10_stuffs_36 : decode cX10_stuffs 36 = .ok (.istore 5, 2) := by decide +kernel
theorem dX10_stuffs_38 : decode cX10_stuffs 38 = .ok (.iload 5, 2) := by decide +kernel
theorem dX10_stuffs_40 : decode cX10_stuffs 40 = .ok (.iload_n 1, 1) := by decide +kernel
theorem dX10_stuffs_41 : decode cX10_stuffs 41 = .ok (.ifCond .ne 7, 3) := by decide +kernel
theorem dX10_stuffs_44 : decode cX10_stuffs 44 = .ok (.iconst 1, 1) := by decide +kernel
theorem dX10_stuffs_45 : decode cX10_stuffs 45 = .ok (.goto 16, 3) := by decide +kernel
theorem dX10_stuffs_48 : decode cX10_stuffs 48 = .ok (.iload_n 1, 1) := by decide +kernel
theorem dX10_stuffs_49 : decode cX10_stuffs 49 = .ok (.iconst 1, 1) := by decide +kernel
theorem dX10_stuffs_50 : decode cX10_stuffs 50 = .ok (.if_icmp .ne 8, 3) := by decide +kernel
theorem dX10_stuffs_53 : decode cX10_stuffs 53 = .ok (.bipush 30, 2) := by decide +kernel
theorem dX10_stuffs_55 : decode cX10_stuffs 55 = .ok (.goto 6, 3) := by decide +kernel
theorem dX10_stuffs_58 : decode cX10_stuffs 58 = .ok (.sipush 900, 3) := by decide +kernel
theorem dX10_stuffs_61 : decode cX10_stuffs 61 = .ok (.if_icmp .ge 106, 3) := by decide +kernel
theorem dX10_stuffs_64 : decode cX10_stuffs 64 = .ok (.iload_n 1, 1) := by decide +kernel
theorem dX10_stuffs_65 : decode cX10_stuffs 65 = .ok (.iconst 2, 1) := by decide +kernel
theorem dX10_stuffs_66 : decode cX10_stuffs 66 = .ok (.if_icmp .ne 19, 3) := by decide +kernel
theorem dX10_stuffs_69 : decode cX10_stuffs 69 = .ok (.iload 5, 2) := by decide +kernel
theorem dX10_stuffs_71 : decode cX10_stuffs 71 = .ok (.bipush 30, 2) := by decide +kernel
theorem dX10_stuffs_73 : decode cX10_stuffs 73 = .ok (.idiv, 1) := by decide +kernel
theorem dX10_stuffs_74 : decode cX10_stuffs 74 = .ok (.iload 5, 2) := by decide +kernel
theorem dX10_stuffs_76 : decode cX10_stuffs 76 = .ok (.bipush 30, 2) := by decide +kernel
theorem dX10_stuffs_78 : decode cX10_stuffs 78 = .ok (.irem, 1) := by decide +kernel
theorem dX10_stuffs_79 : decode cX10_stuffs 79 = .ok (.if_icmp .lt 6, 3) := by decide +kernel
theorem dX10_stuffs_82 : decode cX10_stuffs 82 = .ok (.goto 79, 3) := by decide +kernel
theorem dX10_stuffs_85 : decode cX10_stuffs 85 = .ok (.iload_n 1, 1) := by decide +kernel
theorem dX10_stuffs_86 : decode cX10_stuffs 86 = .ok (.ifCond .le 15, 3) := by decide +kernel
theorem dX10_stuffs_89 : decode cX10_stuffs 89 = .ok (.aload_n 0, 1) := by decide +kernel
theorem dX10_stuffs_90 : decode cX10_stuffs 90 = .ok (.iload 5, 2) := by decide +kernel
theorem dX10_stuffs_92 : decode cX10_stuffs 92 = .ok (.bipush 30, 2) := by decide +kernel
theorem dX10_stuffs_94 : decode cX10_stuffs 94 = .ok (.irem, 1) := by decide +kernel
theorem dX10_stuffs_95 : decode cX10_stuffs 95 = .ok (.iconst 2, 1) := by decide +kernel
theorem dX10_stuffs_96 : decode cX10_stuffs 96 = .ok (.bipush 9, 2) := by decide +kernel
theorem dX10_stuffs_98 : decode cX10_stuffs 98 = .ok (.invokevirtual 291, 3) := by decide +kernel
theorem dX10_stuffs_101 : decode cX10_stuffs 101 = .ok (.iload_n 1, 1) := by decide +kernel
theorem dX10_stuffs_102 : decode cX10_stuffs 102 = .ok (.iconst 2, 1) := by decide +kernel
theorem dX10_stuffs_103 : decode cX10_stuffs 103 = .ok (.if_icmp .ne 15, 3) := by decide +kernel
theorem dX10_stuffs_106 : decode cX10_stuffs 106 = .ok (.aload_n 0, 1) := by decide +kernel
theorem dX10_stuffs_107 : decode cX10_stuffs 107 = .ok (.iload 5, 2) := by decide +kernel
theorem dX10_stuffs_109 : decode cX10_stuffs 109 = .ok (.bipush 30, 2) := by decide +kernel
theorem dX10_stuffs_111 : decode cX10_stuffs 111 = .ok (.idiv, 1) := by decide +kernel
theorem dX10_stuffs_112 : decode cX10_stuffs 112 = .ok (.iconst 2, 1) := by decide +kernel
theorem dX10_stuffs_113 : decode cX10_stuffs 113 = .ok (.bipush 9, 2) := by decide +kernel
theorem dX10_stuffs_115 : decode cX10_stuffs 115 = .ok (.invokevirtual 291, 3) := by decide +kernel
theorem dX10_stuffs_118 : decode cX10_stuffs 118 = .ok (.aload_n 0, 1) := by decide +kernel
theorem dX10_stuffs_119 : decode cX10_stuffs 119 = .ok (.invokevirtual 268, 3) := by decide +kernel
theorem dX10_stuffs_122 : decode cX10_stuffs 122 = .ok (.invokestatic 286, 3) := by decide +kernel
theorem dX10_stuffs_125 : decode cX10_stuffs 125 = .ok (.istore 6, 2) := by decide +kernel
theorem dX10_stuffs_127 : decode cX10_stuffs 127 = .ok (.aload_n 0, 1) := by decide +kernel
theorem dX10_stuffs_128 : decode cX10_stuffs 128 = .ok (.aload_n 0, 1) := by decide +kernel
theorem dX10_stuffs_129 : decode cX10_stuffs 129 = .ok (.getfield 88, 3) := by decide +kernel
theorem dX10_stuffs_132 : decode cX10_stuffs 132 = .ok (.invokevirtual 265, 3) := by decide +kernel
theorem dX10_stuffs_135 : decode cX10_stuffs 135 = .ok (.iload 6, 2) := by decide +kernel
theorem dX10_stuffs_137 : decode cX10_stuffs 137 = .ok (.iload 4, 2) := by decide +kernel
theorem dX10_stuffs_139 : decode cX10_stuffs 139 = .ok (.if_icmp .lt 6, 3) := by decide +kernel
theorem dX10_stuffs_142 : decode cX10_stuffs 142 = .ok (.goto 19, 3) := by decide +kernel
theorem dX10_stuffs_145 : decode cX10_stuffs 145 = .ok (.iload 6, 2) := by decide +kernel
theorem dX10_stuffs_147 : decode cX10_stuffs 147 = .ok (.istore 4, 2) := by decide +kernel
theorem dX10_stuffs_149 : decode cX10_stuffs 149 = .ok (.iload_n 1, 1) := by decide +kernel
theorem dX10_stuffs_150 : decode cX10_stuffs 150 = .ok (.ifCond .ne 8, 3) := by decide +kernel
theorem dX10_stuffs_153 : decode cX10_stuffs 153 = .ok (.bipush (-9), 2) := by decide +kernel
theorem dX10_stuffs_155 : decode cX10_stuffs 155 = .ok (.goto 5, 3) := by decide +kernel
theorem dX10_stuffs_158 : decode cX10_stuffs 158 = .ok (.iload 5, 2) := by decide +kernel
theorem dX10_stuffs_160 : decode cX10_stuffs 160 = .ok (.istore_n 3, 1) := by decide +kernel
theorem dX10_stuffs_161 : decode cX10_stuffs 161 = .ok (.iinc 5 1, 3) := by decide +kernel
theorem dX10_stuffs_164 : decode cX10_stuffs 164 = .ok (.goto (-126), 3) := by decide +kernel
theorem dX10_stuffs_167 : decode cX10_stuffs 167 = .ok (.iload_n 2, 1) := by decide +kernel
theorem dX10_stuffs_168 : decode cX10_stuffs 168 = .ok (.ifCond .ne 8, 3) := by decide +kernel
theorem dX10_stuffs_171 : decode cX10_stuffs 171 = .ok (.iload 4, 2) := by decide +kernel
theorem dX10_stuffs_173 : decode cX10_stuffs 173 = .ok (.goto 4, 3) := by decide +kernel
theorem dX10_stuffs_176 : decode cX10_stuffs 176 = .ok (.iload_n 3, 1) := by decide +kernel
theorem dX10_stuffs_177 : decode cX10_stuffs 177 = .ok (.ireturn, 1) := by decide +kernel
theorem dX10_noFelt_0 : decode cX10_noFelt 0 = .ok (.iload_n 1, 1) := by decide +kernel
theorem dX10_noFelt_1 : decode cX10_noFelt 1 = .ok (.ifCond .lt 23, 3) := by decide +kernel
theorem dX10_noFelt_4 : decode cX10_noFelt 4 = .ok (.iload_n 1, 1) := by decide +kernel
theorem dX10_noFelt_5 : decode cX10_noFelt 5 = .ok (.bipush 100, 2) := by decide +kernel
theorem dX10_noFelt_7 : decode cX10_noFelt 7 = .ok (.idiv, 1) := by decide +kernel
theorem dX10_noFelt_8 : decode cX10_noFelt 8 = .ok (.invokestatic 119, 3) := by decide +kernel
theorem dX10_noFelt_11 : decode cX10_noFelt 11 = .ok (.ifCond .eq 13, 3) := by decide +kernel
theorem dX10_noFelt_14 : decode cX10_noFelt 14 = .ok (.iload_n 1, 1) := by decide +kernel
theorem dX10_noFelt_15 : decode cX10_noFelt 15 = .ok (.bipush 100, 2) := by decide +kernel
theorem dX10_noFelt_17 : decode cX10_noFelt 17 = .ok (.irem, 1) := by decide +kernel
theorem dX10_noFelt_18 : decode cX10_noFelt 18 = .ok (.invokestatic 111, 3) := by decide +kernel
theorem dX10_noFelt_21 : decode cX10_noFelt 21 = .ok (.ifCond .ne 5, 3) := by decide +kernel
theorem dX10_noFelt_24 : decode cX10_noFelt 24 = .ok (.iconst (-1), 1) := by decide +kernel
theorem dX10_noFelt_25 : decode cX10_noFelt 25 = .ok (.ireturn, 1) := by decide +kernel
theorem dX10_noFelt_26 : decode cX10_noFelt 26 = .ok (.aload_n 0, 1) := by decide +kernel
theorem dX10_noFelt_27 : decode cX10_noFelt 27 = .ok (.getfield 78, 3) := by decide +kernel
theorem dX10_noFelt_30 : decode cX10_noFelt 30 = .ok (.iload_n 1, 1) := by decide +kernel
theorem dX10_noFelt_31 : decode cX10_noFelt 31 = .ok (.bipush 100, 2) := by decide +kernel
theorem dX10_noFelt_33 : decode cX10_noFelt 33 = .ok (.idiv, 1) := by decide +kernel
theorem dX10_noFelt_34 : decode cX10_noFelt 34 = .ok (.iaload, 1) := by decide +kernel
theorem dX10_noFelt_35 : decode cX10_noFelt 35 = .ok (.istore_n 2, 1) := by decide +kernel
theorem dX10_noFelt_36 : decode cX10_noFelt 36 = .ok (.iload_n 2, 1) := by decide +kernel
theorem dX10_noFelt_37 : decode cX10_noFelt 37 = .ok (.iconst (-1), 1) := by decide +kernel
theorem dX10_noFelt_38 : decode cX10_noFelt 38 = .ok (.if_icmp .ne 8, 3) := by decide +kernel
theorem dX10_noFelt_41 : decode cX10_noFelt 41 = .ok (.bipush (-11), 2) := by decide +kernel
theorem dX10_noFelt_43 : decode cX10_noFelt 43 = .ok (.goto 13, 3) := by decide +kernel
theorem dX10_noFelt_46 : decode cX10_noFelt 46 = .ok (.iload_n 2, 1) := by decide +kernel
theorem dX10_noFelt_47 : decode cX10_noFelt 47 = .ok (.ifCond .eq 8, 3) := by decide +kernel
theorem dX10_noFelt_50 : decode cX10_noFelt 50 = .ok (.bipush (-12), 2) := by decide +kernel
theorem dX10_noFelt_52 : decode cX10_noFelt 52 = .ok (.goto 4, 3) := by decide +kernel
theorem dX10_noFelt_55 : decode cX10_noFelt 55 = .ok (.iconst 0, 1) := by decide +kernel
theorem dX10_noFelt_56 : decode cX10_noFelt 56 = .ok (.ireturn, 1) := by decide +kernel
theorem dX10_unlike_0 : decode cX10_unlike 0 = .ok (.aload_n 0, 1) := by decide +kernel
theorem dX10_unlike_1 : decode cX10_unlike 1 = .ok (.aload_n 0, 1) := by decide +kernel
theorem dX10_unlike_2 : decode cX10_unlike 2 = .ok (.getfield 88, 3) := by decide +kernel
theorem dX10_unlike_5 : decode cX10_unlike 5 = .ok (.invokevirtual 257, 3) := by decide +kernel
theorem dX10_unlike_8 : decode cX10_unlike 8 = .ok (.bipush (-2), 2) := by decide +kernel
theorem dX10_unlike_10 : decode cX10_unlike 10 = .ok (.istore_n 2, 1) := by decide +kernel
theorem dX10_unlike_11 : decode cX10_unlike 11 = .ok (.iconst 0, 1) := by decide +kernel
theorem dX10_unlike_12 : decode cX10_unlike 12 = .ok (.istore_n 3, 1) := by decide +kernel
theorem dX10_unlike_13 : decode cX10_unlike 13 = .ok (.iload_n 3, 1) := by decide +kernel
theorem dX10_unlike_14 : decode cX10_unlike 14 = .ok (.aload_n 0, 1) := by decide +kernel
theorem dX10_unlike_15 : decode cX10_unlike 15 = .ok (.getfield 81, 3) := by decide +kernel
theorem dX10_unlike_18 : decode cX10_unlike 18 = .ok (.iload_n 1, 1) := by decide +kernel
theorem dX10_unlike_19 : decode cX10_unlike 19 = .ok (.bipush 100, 2) := by decide +kernel
theorem dX10_unlike_21 : decode cX10_unlike 21 = .ok (.idiv, 1) := by decide +kernel
theorem dX10_unlike_22 : decode cX10_unlike 22 = .ok (.iaload, 1) := by decide +kernel
theorem dX10_unlike_23 : decode cX10_unlike 23 = .ok (.if_icmp .ge 51, 3) := by decide +kernel
theorem dX10_unlike_26 : decode cX10_unlike 26 = .ok (.iload_n 3, 1) := by decide +kernel
theorem dX10_unlike_27 : decode cX10_unlike 27 = .ok (.bipush 49, 2) := by decide +kernel
theorem dX10_unlike_29 : decode cX10_unlike 29 = .ok (.if_icmp .ge 45, 3) := by decide +kernel
theorem dX10_unlike_32 : decode cX10_unlike 32 = .ok (.iload_n 2, 1) := by decide +kernel
theorem dX10_unlike_33 : decode cX10_unlike 33 = .ok (.bipush (-2), 2) := by decide +kernel
theorem dX10_unlike_35 : decode cX10_unlike 35 = .ok (.if_icmp .ne 39, 3) := by decide +kernel
theorem dX10_unlike_38 : decode cX10_unlike 38 = .ok (.iload_n 3, 1) := by decide +kernel
theorem dX10_unlike_39 : decode cX10_unlike 39 = .ok (.ifCond .le 7, 3) := by decide +kernel
theorem dX10_unlike_42 : decode cX10_unlike 42 = .ok (.aload_n 0, 1) := by decide +kernel
theorem dX10_unlike_43 : decode cX10_unlike 43 = .ok (.invokevirtual 251, 3) := by decide +kernel
theorem dX10_unlike_46 : decode cX10_unlike 46 = .ok (.aload_n 0, 1) := by decide +kernel
theorem dX10_unlike_47 : decode cX10_unlike 47 = .ok (.iload_n 1, 1) := by decide +kernel
theorem dX10_unlike_48 : decode cX10_unlike 48 = .ok (.bipush 100, 2) := by decide +kernel
theorem dX10_unlike_50 : decode cX10_unlike 50 = .ok (.irem, 1) := by decide +kernel
theorem dX10_unlike_51 : decode cX10_unlike 51 = .ok (.invokevirtual 235, 3) := by decide +kernel
theorem dX10_unlike_54 : decode cX10_unlike 54 = .ok (.aload_n 0, 1) := by decide +kernel
theorem dX10_unlike_55 : decode cX10_unlike 55 = .ok (.iload_n 1, 1) := by decide +kernel
theorem dX10_unlike_56 : decode cX10_unlike 56 = .ok (.bipush 100, 2) := by decide +kernel
theorem dX10_unlike_58 : decode cX10_unlike 58 = .ok (.idiv, 1) := by decide +kernel
theorem dX10_unlike_59 : decode cX10_unlike 59 = .ok (.iload_n 3, 1) := by decide +kernel
theorem dX10_unlike_60 : decode cX10_unlike 60 = .ok (.invokevirtual 124, 3) := by decide +kernel
theorem dX10_unlike_63 : decode cX10_unlike 63 = .ok (.if_icmp .eq 5, 3) := by decide +kernel
theorem dX10_unlike_66 : decode cX10_unlike 66 = .ok (.iload_n 3, 1) := by decide +kernel
theorem dX10_unlike_67 : decode cX10_unlike 67 = .ok (.istore_n 2, 1) := by decide +kernel
theorem dX10_unlike_68 : decode cX10_unlike 68 = .ok (.iinc 3 1, 3) := by decide +kernel
theorem dX10_unlike_71 : decode cX10_unlike 71 = .ok (.goto (-58), 3) := by decide +kernel
theorem dX10_unlike_74 : decode cX10_unlike 74 = .ok (.aload_n 0, 1) := by decide +kernel
theorem dX10_unlike_75 : decode cX10_unlike 75 = .ok (.aload_n 0, 1) := by decide +kernel
theorem dX10_unlike_76 : decode cX10_unlike 76 = .ok (.getfield 88, 3) := by decide +kernel
theorem dX10_unlike_79 : decode cX10_unlike 79 = .ok (.invokevirtual 265, 3) := by decide +kernel
theorem dX10_unlike_82 : decode cX10_unlike 82 = .ok (.iload_n 2, 1) := by decide +kernel
theorem dX10_unlike_83 : decode cX10_unlike 83 = .ok (.ireturn, 1) := by decide +kernel
theorem dX10_judge_0 : decode cX10_judge 0 = .ok (.aload_n 0, 1) := by decide +kernel
theorem dX10_judge_1 : decode cX10_judge 1 = .ok (.iload_n 1, 1) := by decide +kernel
theorem dX10_judge_2 : decode cX10_judge 2 = .ok (.invokevirtual 294, 3) := by decide +kernel
theorem dX10_judge_5 : decode cX10_judge 5 = .ok (.istore_n 2, 1) := by decide +kernel
theorem dX10_judge_6 : decode cX10_judge 6 = .ok (.iload_n 2, 1) := by decide +kernel
theorem dX10_judge_7 : decode cX10_judge 7 = .ok (.ifCond .ge 7, 3) := by decide +kernel
theorem dX10_judge_10 : decode cX10_judge 10 = .ok (.iload_n 2, 1) := by decide +kernel
theorem dX10_judge_11 : decode cX10_judge 11 = .ok (.goto 8, 3) := by decide +kernel
theorem dX10_judge_14 : decode cX10_judge 14 = .ok (.aload_n 0, 1) := by decide +kernel
theorem dX10_judge_15 : decode cX10_judge 15 = .ok (.iload_n 1, 1) := by decide +kernel
theorem dX10_judge_16 : decode cX10_judge 16 = .ok (.invokevirtual 297, 3) := by decide +kernel
theorem dX10_judge_19 : decode cX10_judge 19 = .ok (.ireturn, 1) := by decide +kernel
theorem dX10_so_0 : decode cX10_so 0 = .ok (.aload_n 0, 1) := by decide +kernel
theorem dX10_so_1 : decode cX10_so 1 = .ok (.iload_n 2, 1) := by decide +kernel
theorem dX10_so_2 : decode cX10_so 2 = .ok (.iload_n 3, 1) := by decide +kernel
theorem dX10_so_3 : decode cX10_so 3 = .ok (.invokevirtual 138, 3) := by decide +kernel
theorem dX10_so_6 : decode cX10_so 6 = .ok (.istore 6, 2) := by decide +kernel
theorem dX10_so_8 : decode cX10_so 8 = .ok (.iconst 0, 1) := by decide +kernel
theorem dX10_so_9 : decode cX10_so 9 = .ok (.istore 7, 2) := by decide +kernel
theorem dX10_so_11 : decode cX10_so 11 = .ok (.bipush (-2), 2) := by decide +kernel
theorem dX10_so_13 : decode cX10_so 13 = .ok (.istore 8, 2) := by decide +kernel
theorem dX10_so_15 : decode cX10_so 15 = .ok (.iconst 0, 1) := by decide +kernel
theorem dX10_so_16 : decode cX10_so 16 = .ok (.istore 9, 2) := by decide +kernel
theorem dX10_so_18 : decode cX10_so 18 = .ok (.iload 4, 2) := by decide +kernel
theorem dX10_so_20 : decode cX10_so 20 = .ok (.istore 10, 2) := by decide +kernel
theorem dX10_so_22 : decode cX10_so 22 = .ok (.iload 10, 2) := by decide +kernel
theorem dX10_so_24 : decode cX10_so 24 = .ok (.ifCond .lt 46, 3) := by decide +kernel
theorem dX10_so_27 : decode cX10_so 27 = .ok (.aload_n 0, 1) := by decide +kernel
theorem dX10_so_28 : decode cX10_so 28 = .ok (.iload_n 2, 1) := by decide +kernel
theorem dX10_so_29 : decode cX10_so 29 = .ok (.iload_n 3, 1) := by decide +kernel
theorem dX10_so_30 : decode cX10_so 30 = .ok (.iload 10, 2) := by decide +kernel
theorem dX10_so_32 : decode cX10_so 32 = .ok (.invokevirtual 141, 3) := by decide +kernel
theorem dX10_so_35 : decode cX10_so 35 = .ok (.aload_n 0, 1) := by decide +kernel
theorem dX10_so_36 : decode cX10_so 36 = .ok (.iload_n 1, 1) := by decide +kernel
theorem dX10_so_37 : decode cX10_so 37 = .ok (.invokevirtual 297, 3) := by decide +kernel
theorem dX10_so_40 : decode cX10_so 40 = .ok (.bipush (-2), 2) := by decide +kernel
theorem dX10_so_42 : decode cX10_so 42 = .ok (.if_icmp .eq 6, 3) := by decide +kernel
theorem dX10_so_45 : decode cX10_so 45 = .ok (.goto 19, 3) := by decide +kernel
theorem dX10_so_48 : decode cX10_so 48 = .ok (.iinc 7 1, 3) := by decide +kernel
theorem dX10_so_51 : decode cX10_so 51 = .ok (.iload 10, 2) := by decide +kernel
theorem dX10_so_53 : decode cX10_so 53 = .ok (.istore 8, 2) := by decide +kernel
theorem dX10_so_55 : decode cX10_so 55 = .ok (.iload 9, 2) := by decide +kernel
theorem dX10_so_57 : decode cX10_so 57 = .ok (.iconst 1, 1) := by decide +kernel
theorem dX10_so_58 : decode cX10_so 58 = .ok (.iload 10, 2) := by decide +kernel
theorem dX10_so_60 : decode cX10_so 60 = .ok (.ishl, 1) := by decide +kernel
theorem dX10_so_61 : decode cX10_so 61 = .ok (.ior, 1) := by decide +kernel
theorem dX10_so_62 : decode cX10_so 62 = .ok (.istore 9, 2) := by decide +kernel
theorem dX10_so_64 : decode cX10_so 64 = .ok (.iinc 10 (-1), 3) := by decide +kernel
theorem dX10_so_67 : decode cX10_so 67 = .ok (.goto (-45), 3) := by decide +kernel
theorem dX10_so_70 : decode cX10_so 70 = .ok (.aload_n 0, 1) := by decide +kernel
theorem dX10_so_71 : decode cX10_so 71 = .ok (.iload_n 2, 1) := by decide +kernel
theorem dX10_so_72 : decode cX10_so 72 = .ok (.iload_n 3, 1) := by decide +kernel
theorem dX10_so_73 : decode cX10_so 73 = .ok (.iload 6, 2) := by decide +kernel
theorem dX10_so_75 : decode cX10_so 75 = .ok (.invokevirtual 141, 3) := by decide +kernel
theorem dX10_so_78 : decode cX10_so 78 = .ok (.iload 5, 2) := by decide +kernel
theorem dX10_so_80 : decode cX10_so 80 = .ok (.ifCond .ne 8, 3) := by decide +kernel
theorem dX10_so_83 : decode cX10_so 83 = .ok (.iload 7, 2) := by decide +kernel
theorem dX10_so_85 : decode cX10_so 85 = .ok (.goto 16, 3) := by decide +kernel
theorem dX10_so_88 : decode cX10_so 88 = .ok (.iload 5, 2) := by decide +kernel
theorem dX10_so_90 : decode cX10_so 90 = .ok (.iconst 1, 1) := by decide +kernel
theorem dX10_so_91 : decode cX10_so 91 = .ok (.if_icmp .ne 8, 3) := by decide +kernel
theorem dX10_so_94 : decode cX10_so 94 = .ok (.iload 8, 2) := by decide +kernel
theorem dX10_so_96 : decode cX10_so 96 = .ok (.goto 5, 3) := by decide +kernel
theorem dX10_so_99 : decode cX10_so 99 = .ok (.iload 9, 2) := by decide +kernel
theorem dX10_so_101 : decode cX10_so 101 = .ok (.ireturn, 1) := by decide +kernel
theorem dX10_felt_0 : decode cX10_felt 0 = .ok (.aload_n 0, 1) := by decide +kernel
theorem dX10_felt_1 : decode cX10_felt 1 = .ok (.iload_n 1, 1) := by decide +kernel
theorem dX10_felt_2 : decode cX10_felt 2 = .ok (.invokevirtual 294, 3) := by decide +kernel
theorem dX10_felt_5 : decode cX10_felt 5 = .ok (.istore 4, 2) := by decide +kernel
theorem dX10_felt_7 : decode cX10_felt 7 = .ok (.iload 4, 2) := by decide +kernel
theorem dX10_felt_9 : decode cX10_felt 9 = .ok (.iconst (-1), 1) := by decide +kernel
theorem dX10_felt_10 : decode cX10_felt 10 = .ok (.if_icmp .eq 19, 3) := by decide +kernel
theorem dX10_felt_13 : decode cX10_felt 13 = .ok (.iload_n 2, 1) := by decide +kernel
theorem dX10_felt_14 : decode cX10_felt 14 = .ok (.invokestatic 111, 3) := by decide +kernel
theorem dX10_felt_17 : decode cX10_felt 17 = .ok (.ifCond .eq 12, 3) := by decide +kernel
theorem dX10_felt_20 : decode cX10_felt 20 = .ok (.iload_n 3, 1) := by decide +kernel
theorem dX10_felt_21 : decode cX10_felt 21 = .ok (.iconst 0, 1) := by decide +kernel
theorem dX10_felt_22 : decode cX10_felt 22 = .ok (.iconst 4, 1) := by decide +kernel
theorem dX10_felt_23 : decode cX10_felt 23 = .ok (.invokestatic 103, 3) := by decide +kernel
theorem dX10_felt_26 : decode cX10_felt 26 = .ok (.ifCond .ne 5, 3) := by decide +kernel
theorem dX10_felt_29 : decode cX10_felt 29 = .ok (.iconst (-1), 1) := by decide +kernel
theorem dX10_felt_30 : decode cX10_felt 30 = .ok (.ireturn, 1) := by decide +kernel
theorem dX10_felt_31 : decode cX10_felt 31 = .ok (.iload 4, 2) := by decide +kernel
theorem dX10_felt_33 : decode cX10_felt 33 = .ok (.ifCond .ge 6, 3) := by decide +kernel
theorem dX10_felt_36 : decode cX10_felt 36 = .ok (.iload 4, 2) := by decide +kernel
theorem dX10_felt_38 : decode cX10_felt 38 = .ok (.ireturn, 1) := by decide +kernel
theorem dX10_felt_39 : decode cX10_felt 39 = .ok (.iload_n 3, 1) := by decide +kernel
theorem dX10_felt_40 : decode cX10_felt 40 = .ok (.tableswitch 51 0 2 #[28, 38, 38], 28) := by decide +kernel
theorem dX10_felt_68 : decode cX10_felt 68 = .ok (.aload_n 0, 1) := by decide +kernel
theorem dX10_felt_69 : decode cX10_felt 69 = .ok (.iload_n 1, 1) := by decide +kernel
theorem dX10_felt_70 : decode cX10_felt 70 = .ok (.iload_n 2, 1) := by decide +kernel
theorem dX10_felt_71 : decode cX10_felt 71 = .ok (.iconst 0, 1) := by decide +kernel
theorem dX10_felt_72 : decode cX10_felt 72 = .ok (.iconst 4, 1) := by decide +kernel
theorem dX10_felt_73 : decode cX10_felt 73 = .ok (.iconst 2, 1) := by decide +kernel
theorem dX10_felt_74 : decode cX10_felt 74 = .ok (.invokevirtual 300, 3) := by decide +kernel
theorem dX10_felt_77 : decode cX10_felt 77 = .ok (.ireturn, 1) := by decide +kernel
theorem dX10_felt_78 : decode cX10_felt 78 = .ok (.aload_n 0, 1) := by decide +kernel
theorem dX10_felt_79 : decode cX10_felt 79 = .ok (.iload_n 1, 1) := by decide +kernel
theorem dX10_felt_80 : decode cX10_felt 80 = .ok (.iload_n 2, 1) := by decide +kernel
theorem dX10_felt_81 : decode cX10_felt 81 = .ok (.iconst 1, 1) := by decide +kernel
theorem dX10_felt_82 : decode cX10_felt 82 = .ok (.bipush 9, 2) := by decide +kernel
theorem dX10_felt_84 : decode cX10_felt 84 = .ok (.iload_n 3, 1) := by decide +kernel
theorem dX10_felt_85 : decode cX10_felt 85 = .ok (.iconst 1, 1) := by decide +kernel
theorem dX10_felt_86 : decode cX10_felt 86 = .ok (.isub, 1) := by decide +kernel
theorem dX10_felt_87 : decode cX10_felt 87 = .ok (.invokevirtual 300, 3) := by decide +kernel
theorem dX10_felt_90 : decode cX10_felt 90 = .ok (.ireturn, 1) := by decide +kernel
theorem dX10_felt_91 : decode cX10_felt 91 = .ok (.aload_n 0, 1) := by decide +kernel
theorem dX10_felt_92 : decode cX10_felt 92 = .ok (.iload_n 1, 1) := by decide +kernel
theorem dX10_felt_93 : decode cX10_felt 93 = .ok (.iload_n 2, 1) := by decide +kernel
theorem dX10_felt_94 : decode cX10_felt 94 = .ok (.iconst 2, 1) := by decide +kernel
theorem dX10_felt_95 : decode cX10_felt 95 = .ok (.bipush 12, 2) := by decide +kernel
theorem dX10_felt_97 : decode cX10_felt 97 = .ok (.iload_n 3, 1) := by decide +kernel
theorem dX10_felt_98 : decode cX10_felt 98 = .ok (.iconst 3, 1) := by decide +kernel
theorem dX10_felt_99 : decode cX10_felt 99 = .ok (.isub, 1) := by decide +kernel
theorem dX10_felt_100 : decode cX10_felt 100 = .ok (.invokevirtual 300, 3) := by decide +kernel
theorem dX10_felt_103 : decode cX10_felt 103 = .ok (.ireturn, 1) := by decide +kernel
theorem dX10_spreads_0 : decode cX10_spreads 0 = .ok (.iconst 0, 1) := by decide +kernel
theorem dX10_spreads_1 : decode cX10_spreads 1 = .ok (.istore_n 3, 1) := by decide +kernel
theorem dX10_spreads_2 : decode cX10_spreads 2 = .ok (.iload_n 3, 1) := by decide +kernel
theorem dX10_spreads_3 : decode cX10_spreads 3 = .ok (.bipush 30, 2) := by decide +kernel
theorem dX10_spreads_5 : decode cX10_spreads 5 = .ok (.if_icmp .ge 36, 3) := by decide +kernel
theorem dX10_spreads_8 : decode cX10_spreads 8 = .ok (.aload_n 0, 1) := by decide +kernel
theorem dX10_spreads_9 : decode cX10_spreads 9 = .ok (.getfield 97, 3) := by decide +kernel
theorem dX10_spreads_12 : decode cX10_spreads 12 = .ok (.iload_n 3, 1) := by decide +kernel
theorem dX10_spreads_13 : decode cX10_spreads 13 = .ok (.iload_n 3, 1) := by decide +kernel
theorem dX10_spreads_14 : decode cX10_spreads 14 = .ok (.iload_n 1, 1) := by decide +kernel
theorem dX10_spreads_15 : decode cX10_spreads 15 = .ok (.if_icmp .ne 16, 3) := by decide +kernel
theorem dX10_spreads_18 : decode cX10_spreads 18 = .ok (.aload_n 0, 1) := by decide +kernel
theorem dX10_spreads_19 : decode cX10_spreads 19 = .ok (.iload_n 3, 1) := by decide +kernel
theorem dX10_spreads_20 : decode cX10_spreads 20 = .ok (.invokevirtual 235, 3) := by decide +kernel
theorem dX10_spreads_23 : decode cX10_spreads 23 = .ok (.iload_n 2, 1) := by decide +kernel
theorem dX10_spreads_24 : decode cX10_spreads 24 = .ok (.if_icmp .lt 7, 3) := by decide +kernel
theorem dX10_spreads_27 : decode cX10_spreads 27 = .ok (.iconst 0, 1) := by decide +kernel
theorem dX10_spreads_28 : decode cX10_spreads 28 = .ok (.goto 6, 3) := by decide +kernel
theorem dX10_spreads_31 : decode cX10_spreads 31 = .ok (.sipush 999, 3) := by decide +kernel
theorem dX10_spreads_34 : decode cX10_spreads 34 = .ok (.iastore, 1) := by decide +kernel
theorem dX10_spreads_35 : decode cX10_spreads 35 = .ok (.iinc 3 1, 3) := by decide +kernel
theorem dX10_spreads_38 : decode cX10_spreads 38 = .ok (.goto (-36), 3) := by decide +kernel
theorem dX10_spreads_41 : decode cX10_spreads 41 = .ok (.iconst 0, 1) := by decide +kernel
theorem dX10_spreads_42 : decode cX10_spreads 42 = .ok (.istore_n 3, 1) := by decide +kernel
theorem dX10_spreads_43 : decode cX10_spreads 43 = .ok (.iload_n 3, 1) := by decide +kernel
theorem dX10_spreads_44 : decode cX10_spreads 44 = .ok (.bipush 30, 2) := by decide +kernel
theorem dX10_spreads_46 : decode cX10_spreads 46 = .ok (.if_icmp .ge 98, 3) := by decide +kernel
theorem dX10_spreads_49 : decode cX10_spreads 49 = .ok (.iconst 0, 1) := by decide +kernel
theorem dX10_spreads_50 : decode cX10_spreads 50 = .ok (.istore 4, 2) := by decide +kernel
theorem dX10_spreads_52 : decode cX10_spreads 52 = .ok (.iload 4, 2) := by decide +kernel
theorem dX10_spreads_54 : decode cX10_spreads 54 = .ok (.bipush 30, 2) := by decide +kernel
theorem dX10_spreads_56 : decode cX10_spreads 56 = .ok (.if_icmp .ge 82, 3) := by decide +kernel
theorem dX10_spreads_59 : decode cX10_spreads 59 = .ok (.iconst 0, 1) := by decide +kernel
theorem dX10_spreads_60 : decode cX10_spreads 60 = .ok (.istore 5, 2) := by decide +kernel
theorem dX10_spreads_62 : decode cX10_spreads 62 = .ok (.iload 5, 2) := by decide +kernel
theorem dX10_spreads_64 : decode cX10_spreads 64 = .ok (.iconst 4, 1) := by decide +kernel
theorem dX10_spreads_65 : decode cX10_spreads 65 = .ok (.if_icmp .ge 67, 3) := by decide +kernel
theorem dX10_spreads_68 : decode cX10_spreads 68 = .ok (.aload_n 0, 1) := by decide +kernel
theorem dX10_spreads_69 : decode cX10_spreads 69 = .ok (.getfield 97, 3) := by decide +kernel
theorem dX10_spreads_72 : decode cX10_spreads 72 = .ok (.iload 4, 2) := by decide +kernel
theorem dX10_spreads_74 : decode cX10_spreads 74 = .ok (.iaload, 1) := by decide +kernel
theorem dX10_spreads_75 : decode cX10_spreads 75 = .ok (.iload_n 3, 1) := by decide +kernel
theorem dX10_spreads_76 : decode cX10_spreads 76 = .ok (.if_icmp .ne 56, 3) := by decide +kernel
theorem dX10_spreads_79 : decode cX10_spreads 79 = .ok (.iload 4, 2) := by decide +kernel
theorem dX10_spreads_81 : decode cX10_spreads 81 = .ok (.iload 5, 2) := by decide +kernel
theorem dX10_spreads_83 : decode cX10_spreads 83 = .ok (.invokestatic 215, 3) := by decide +kernel
theorem dX10_spreads_86 : decode cX10_spreads 86 = .ok (.istore 6, 2) := by decide +kernel
theorem dX10_spreads_88 : decode cX10_spreads 88 = .ok (.iload 6, 2) := by decide +kernel
theorem dX10_spreads_90 : decode cX10_spreads 90 = .ok (.ifCond .lt 36, 3) := by decide +kernel
theorem dX10_spreads_93 : decode cX10_spreads 93 = .ok (.aload_n 0, 1) := by decide +kernel
theorem dX10_spreads_94 : decode cX10_spreads 94 = .ok (.getfield 97, 3) := by decide +kernel
theorem dX10_spreads_97 : decode cX10_spreads 97 = .ok (.iload 6, 2) := by decide +kernel
theorem dX10_spreads_99 : decode cX10_spreads 99 = .ok (.iaload, 1) := by decide +kernel
theorem dX10_spreads_100 : decode cX10_spreads 100 = .ok (.sipush 999, 3) := by decide +kernel
theorem dX10_spreads_103 : decode cX10_spreads 103 = .ok (.if_icmp .ne 23, 3) := by decide +kernel
theorem dX10_spreads_106 : decode cX10_spreads 106 = .ok (.aload_n 0, 1) := by decide +kernel
theorem dX10_spreads_107 : decode cX10_spreads 107 = .ok (.iload 6, 2) := by decide +kernel
theorem dX10_spreads_109 : decode cX10_spreads 109 = .ok (.invokevirtual 235, 3) := by decide +kernel
theorem dX10_spreads_112 : decode cX10_spreads 112 = .ok (.iload_n 2, 1) := by decide +kernel
theorem dX10_spreads_113 : decode cX10_spreads 113 = .ok (.if_icmp .lt 13, 3) := by decide +kernel
theorem dX10_spreads_116 : decode cX10_spreads 116 = .ok (.aload_n 0, 1) := by decide +kernel
theorem dX10_spreads_117 : decode cX10_spreads 117 = .ok (.getfield 97, 3) := by decide +kernel
theorem dX10_spreads_120 : decode cX10_spreads 120 = .ok (.iload 6, 2) := by decide +kernel
theorem dX10_spreads_122 : decode cX10_spreads 122 = .ok (.iload_n 3, 1) := by decide +kernel
theorem dX10_spreads_123 : decode cX10_spreads 123 = .ok (.iconst 1, 1) := by decide +kernel
theorem dX10_spreads_124 : decode cX10_spreads 124 = .ok (.iadd, 1) := by decide +kernel
theorem dX10_spreads_125 : decode cX10_spreads 125 = .ok (.iastore, 1) := by decide +kernel
theorem dX10_spreads_126 : decode cX10_spreads 126 = .ok (.iinc 5 1, 3) := by decide +kernel
theorem dX10_spreads_129 : decode cX10_spreads 129 = .ok (.goto (-67), 3) := by decide +kernel
theorem dX10_spreads_132 : decode cX10_spreads 132 = .ok (.iinc 4 1, 3) := by decide +kernel
theorem dX10_spreads_135 : decode cX10_spreads 135 = .ok (.goto (-83), 3) := by decide +kernel
theorem dX10_spreads_138 : decode cX10_spreads 138 = .ok (.iinc 3 1, 3) := by decide +kernel
theorem dX10_spreads_141 : decode cX10_spreads 141 = .ok (.goto (-98), 3) := by decide +kernel
theorem dX10_spreads_144 : decode cX10_spreads 144 = .ok (.return_, 1) := by decide +kernel
theorem dX10_walk_0 : decode cX10_walk 0 = .ok (.iload_n 1, 1) := by decide +kernel
theorem dX10_walk_1 : decode cX10_walk 1 = .ok (.ifCond .lt 32, 3) := by decide +kernel
theorem dX10_walk_4 : decode cX10_walk 4 = .ok (.iload_n 1, 1) := by decide +kernel
theorem dX10_walk_5 : decode cX10_walk 5 = .ok (.bipush 100, 2) := by decide +kernel
theorem dX10_walk_7 : decode cX10_walk 7 = .ok (.idiv, 1) := by decide +kernel
theorem dX10_walk_8 : decode cX10_walk 8 = .ok (.invokestatic 111, 3) := by decide +kernel
theorem dX10_walk_11 : decode cX10_walk 11 = .ok (.ifCond .eq 22, 3) := by decide +kernel
theorem dX10_walk_14 : decode cX10_walk 14 = .ok (.iload_n 1, 1) := by decide +kernel
theorem dX10_walk_15 : decode cX10_walk 15 = .ok (.bipush 100, 2) := by decide +kernel
theorem dX10_walk_17 : decode cX10_walk 17 = .ok (.irem, 1) := by decide +kernel
theorem dX10_walk_18 : decode cX10_walk 18 = .ok (.invokestatic 111, 3) := by decide +kernel
theorem dX10_walk_21 : decode cX10_walk 21 = .ok (.ifCond .eq 12, 3) := by decide +kernel
theorem dX10_walk_24 : decode cX10_walk 24 = .ok (.iload_n 2, 1) := by decide +kernel
theorem dX10_walk_25 : decode cX10_walk 25 = .ok (.iconst 0, 1) := by decide +kernel
theorem dX10_walk_26 : decode cX10_walk 26 = .ok (.iconst 1, 1) := by decide +kernel
theorem dX10_walk_27 : decode cX10_walk 27 = .ok (.invokestatic 103, 3) := by decide +kernel
theorem dX10_walk_30 : decode cX10_walk 30 = .ok (.ifCond .ne 5, 3) := by decide +kernel
theorem dX10_walk_33 : decode cX10_walk 33 = .ok (.iconst (-1), 1) := by decide +kernel
theorem dX10_walk_34 : decode cX10_walk 34 = .ok (.ireturn, 1) := by decide +kernel
theorem dX10_walk_35 : decode cX10_walk 35 = .ok (.bipush 99, 2) := by decide +kernel
theorem dX10_walk_37 : decode cX10_walk 37 = .ok (.istore_n 3, 1) := by decide +kernel
theorem dX10_walk_38 : decode cX10_walk 38 = .ok (.aload_n 0, 1) := by decide +kernel
theorem dX10_walk_39 : decode cX10_walk 39 = .ok (.iload_n 1, 1) := by decide +kernel
end
section
theorem dX10_walk_40 : decode cX10_walk 40 = .ok (.bipush 100, 2) := by decide +kernel
theorem dX10_walk_42 : decode cX10_walk 42 = .ok (.idiv, 1) := by decide +kernel
theorem dX10_walk_43 : decode cX10_walk 43 = .ok (.iload_n 3, 1) := by decide +kernel
theorem dX10_walk_44 : decode cX10_walk 44 = .ok (.invokevirtual 304, 3) := by decide +kernel
theorem dX10_walk_47 : decode cX10_walk 47 = .ok (.aload_n 0, 1) := by decide +kernel
theorem dX10_walk_48 : decode cX10_walk 48 = .ok (.getfield 97, 3) := by decide +kernel
theorem dX10_walk_51 : decode cX10_walk 51 = .ok (.iload_n 1, 1) := by decide +kernel
theorem dX10_walk_52 : decode cX10_walk 52 = .ok (.bipush 100, 2) := by decide +kernel
theorem dX10_walk_54 : decode cX10_walk 54 = .ok (.irem, 1) := by decide +kernel
theorem dX10_walk_55 : decode cX10_walk 55 = .ok (.iaload, 1) := by decide +kernel
theorem dX10_walk_56 : decode cX10_walk 56 = .ok (.sipush 999, 3) := by decide +kernel
theorem dX10_walk_59 : decode cX10_walk 59 = .ok (.if_icmp .ne 18, 3) := by decide +kernel
theorem dX10_walk_62 : decode cX10_walk 62 = .ok (.iinc 3 (-1), 3) := by decide +kernel
theorem dX10_walk_65 : decode cX10_walk 65 = .ok (.aload_n 0, 1) := by decide +kernel
theorem dX10_walk_66 : decode cX10_walk 66 = .ok (.iload_n 1, 1) := by decide +kernel
theorem dX10_walk_67 : decode cX10_walk 67 = .ok (.bipush 100, 2) := by decide +kernel
theorem dX10_walk_69 : decode cX10_walk 69 = .ok (.idiv, 1) := by decide +kernel
theorem dX10_walk_70 : decode cX10_walk 70 = .ok (.iload_n 3, 1) := by decide +kernel
theorem dX10_walk_71 : decode cX10_walk 71 = .ok (.invokevirtual 304, 3) := by decide +kernel
theorem dX10_walk_74 : decode cX10_walk 74 = .ok (.goto (-27), 3) := by decide +kernel
theorem dX10_walk_77 : decode cX10_walk 77 = .ok (.iload_n 2, 1) := by decide +kernel
theorem dX10_walk_78 : decode cX10_walk 78 = .ok (.ifCond .ne 7, 3) := by decide +kernel
theorem dX10_walk_81 : decode cX10_walk 81 = .ok (.iload_n 3, 1) := by decide +kernel
theorem dX10_walk_82 : decode cX10_walk 82 = .ok (.goto 12, 3) := by decide +kernel
theorem dX10_walk_85 : decode cX10_walk 85 = .ok (.aload_n 0, 1) := by decide +kernel
theorem dX10_walk_86 : decode cX10_walk 86 = .ok (.getfield 97, 3) := by decide +kernel
theorem dX10_walk_89 : decode cX10_walk 89 = .ok (.iload_n 1, 1) := by decide +kernel
theorem dX10_walk_90 : decode cX10_walk 90 = .ok (.bipush 100, 2) := by decide +kernel
theorem dX10_walk_92 : decode cX10_walk 92 = .ok (.irem, 1) := by decide +kernel
theorem dX10_walk_93 : decode cX10_walk 93 = .ok (.iaload, 1) := by decide +kernel
theorem dX10_walk_94 : decode cX10_walk 94 = .ok (.ireturn, 1) := by decide +kernel
theorem dX10_patches_0 : decode cX10_patches 0 = .ok (.iload_n 1, 1) := by decide +kernel
theorem dX10_patches_1 : decode cX10_patches 1 = .ok (.iconst 0, 1) := by decide +kernel
theorem dX10_patches_2 : decode cX10_patches 2 = .ok (.iconst 1, 1) := by decide +kernel
theorem dX10_patches_3 : decode cX10_patches 3 = .ok (.invokestatic 103, 3) := by decide +kernel
theorem dX10_patches_6 : decode cX10_patches 6 = .ok (.ifCond .ne 5, 3) := by decide +kernel
theorem dX10_patches_9 : decode cX10_patches 9 = .ok (.iconst (-1), 1) := by decide +kernel
theorem dX10_patches_10 : decode cX10_patches 10 = .ok (.ireturn, 1) := by decide +kernel
theorem dX10_patches_11 : decode cX10_patches 11 = .ok (.iconst 0, 1) := by decide +kernel
theorem dX10_patches_12 : decode cX10_patches 12 = .ok (.istore_n 2, 1) := by decide +kernel
theorem dX10_patches_13 : decode cX10_patches 13 = .ok (.iload_n 2, 1) := by decide +kernel
theorem dX10_patches_14 : decode cX10_patches 14 = .ok (.bipush 30, 2) := by decide +kernel
theorem dX10_patches_16 : decode cX10_patches 16 = .ok (.if_icmp .ge 16, 3) := by decide +kernel
theorem dX10_patches_19 : decode cX10_patches 19 = .ok (.aload_n 0, 1) := by decide +kernel
theorem dX10_patches_20 : decode cX10_patches 20 = .ok (.getfield 100, 3) := by decide +kernel
theorem dX10_patches_23 : decode cX10_patches 23 = .ok (.iload_n 2, 1) := by decide +kernel
theorem dX10_patches_24 : decode cX10_patches 24 = .ok (.iload_n 2, 1) := by decide +kernel
theorem dX10_patches_25 : decode cX10_patches 25 = .ok (.iastore, 1) := by decide +kernel
theorem dX10_patches_26 : decode cX10_patches 26 = .ok (.iinc 2 1, 3) := by decide +kernel
theorem dX10_patches_29 : decode cX10_patches 29 = .ok (.goto (-16), 3) := by decide +kernel
theorem dX10_patches_32 : decode cX10_patches 32 = .ok (.iconst 0, 1) := by decide +kernel
theorem dX10_patches_33 : decode cX10_patches 33 = .ok (.istore_n 2, 1) := by decide +kernel
theorem dX10_patches_34 : decode cX10_patches 34 = .ok (.iload_n 2, 1) := by decide +kernel
theorem dX10_patches_35 : decode cX10_patches 35 = .ok (.bipush 30, 2) := by decide +kernel
theorem dX10_patches_37 : decode cX10_patches 37 = .ok (.if_icmp .ge 108, 3) := by decide +kernel
theorem dX10_patches_40 : decode cX10_patches 40 = .ok (.iconst 0, 1) := by decide +kernel
theorem dX10_patches_41 : decode cX10_patches 41 = .ok (.istore_n 3, 1) := by decide +kernel
theorem dX10_patches_42 : decode cX10_patches 42 = .ok (.iload_n 3, 1) := by decide +kernel
theorem dX10_patches_43 : decode cX10_patches 43 = .ok (.bipush 30, 2) := by decide +kernel
theorem dX10_patches_45 : decode cX10_patches 45 = .ok (.if_icmp .ge 94, 3) := by decide +kernel
theorem dX10_patches_48 : decode cX10_patches 48 = .ok (.iconst 0, 1) := by decide +kernel
theorem dX10_patches_49 : decode cX10_patches 49 = .ok (.istore 4, 2) := by decide +kernel
theorem dX10_patches_51 : decode cX10_patches 51 = .ok (.iload 4, 2) := by decide +kernel
theorem dX10_patches_53 : decode cX10_patches 53 = .ok (.iconst 4, 1) := by decide +kernel
theorem dX10_patches_54 : decode cX10_patches 54 = .ok (.if_icmp .ge 79, 3) := by decide +kernel
theorem dX10_patches_57 : decode cX10_patches 57 = .ok (.iload_n 3, 1) := by decide +kernel
theorem dX10_patches_58 : decode cX10_patches 58 = .ok (.iload 4, 2) := by decide +kernel
theorem dX10_patches_60 : decode cX10_patches 60 = .ok (.invokestatic 215, 3) := by decide +kernel
theorem dX10_patches_63 : decode cX10_patches 63 = .ok (.istore 5, 2) := by decide +kernel
theorem dX10_patches_65 : decode cX10_patches 65 = .ok (.iload 5, 2) := by decide +kernel
theorem dX10_patches_67 : decode cX10_patches 67 = .ok (.ifCond .lt 60, 3) := by decide +kernel
theorem dX10_patches_70 : decode cX10_patches 70 = .ok (.aload_n 0, 1) := by decide +kernel
theorem dX10_patches_71 : decode cX10_patches 71 = .ok (.getfield 15, 3) := by decide +kernel
theorem dX10_patches_74 : decode cX10_patches 74 = .ok (.iload_n 3, 1) := by decide +kernel
theorem dX10_patches_75 : decode cX10_patches 75 = .ok (.iaload, 1) := by decide +kernel
theorem dX10_patches_76 : decode cX10_patches 76 = .ok (.ifCond .le 51, 3) := by decide +kernel
theorem dX10_patches_79 : decode cX10_patches 79 = .ok (.aload_n 0, 1) := by decide +kernel
theorem dX10_patches_80 : decode cX10_patches 80 = .ok (.getfield 15, 3) := by decide +kernel
theorem dX10_patches_83 : decode cX10_patches 83 = .ok (.iload 5, 2) := by decide +kernel
theorem dX10_patches_85 : decode cX10_patches 85 = .ok (.iaload, 1) := by decide +kernel
theorem dX10_patches_86 : decode cX10_patches 86 = .ok (.ifCond .le 41, 3) := by decide +kernel
theorem dX10_patches_89 : decode cX10_patches 89 = .ok (.aload_n 0, 1) := by decide +kernel
theorem dX10_patches_90 : decode cX10_patches 90 = .ok (.getfield 9, 3) := by decide +kernel
theorem dX10_patches_93 : decode cX10_patches 93 = .ok (.iload_n 3, 1) := by decide +kernel
theorem dX10_patches_94 : decode cX10_patches 94 = .ok (.iaload, 1) := by decide +kernel
theorem dX10_patches_95 : decode cX10_patches 95 = .ok (.aload_n 0, 1) := by decide +kernel
theorem dX10_patches_96 : decode cX10_patches 96 = .ok (.getfield 9, 3) := by decide +kernel
theorem dX10_patches_99 : decode cX10_patches 99 = .ok (.iload 5, 2) := by decide +kernel
theorem dX10_patches_101 : decode cX10_patches 101 = .ok (.iaload, 1) := by decide +kernel
theorem dX10_patches_102 : decode cX10_patches 102 = .ok (.if_icmp .ne 25, 3) := by decide +kernel
theorem dX10_patches_105 : decode cX10_patches 105 = .ok (.aload_n 0, 1) := by decide +kernel
theorem dX10_patches_106 : decode cX10_patches 106 = .ok (.getfield 100, 3) := by decide +kernel
theorem dX10_patches_109 : decode cX10_patches 109 = .ok (.iload_n 3, 1) := by decide +kernel
theorem dX10_patches_110 : decode cX10_patches 110 = .ok (.aload_n 0, 1) := by decide +kernel
theorem dX10_patches_111 : decode cX10_patches 111 = .ok (.getfield 100, 3) := by decide +kernel
theorem dX10_patches_114 : decode cX10_patches 114 = .ok (.iload_n 3, 1) := by decide +kernel
theorem dX10_patches_115 : decode cX10_patches 115 = .ok (.iaload, 1) := by decide +kernel
theorem dX10_patches_116 : decode cX10_patches 116 = .ok (.aload_n 0, 1) := by decide +kernel
theorem dX10_patches_117 : decode cX10_patches 117 = .ok (.getfield 100, 3) := by decide +kernel
theorem dX10_patches_120 : decode cX10_patches 120 = .ok (.iload 5, 2) := by decide +kernel
theorem dX10_patches_122 : decode cX10_patches 122 = .ok (.iaload, 1) := by decide +kernel
theorem dX10_patches_123 : decode cX10_patches 123 = .ok (.invokestatic 227, 3) := by decide +kernel
theorem dX10_patches_126 : decode cX10_patches 126 = .ok (.iastore, 1) := by decide +kernel
theorem dX10_patches_127 : decode cX10_patches 127 = .ok (.iinc 4 1, 3) := by decide +kernel
theorem dX10_patches_130 : decode cX10_patches 130 = .ok (.goto (-79), 3) := by decide +kernel
theorem dX10_patches_133 : decode cX10_patches 133 = .ok (.iinc 3 1, 3) := by decide +kernel
theorem dX10_patches_136 : decode cX10_patches 136 = .ok (.goto (-94), 3) := by decide +kernel
theorem dX10_patches_139 : decode cX10_patches 139 = .ok (.iinc 2 1, 3) := by decide +kernel
theorem dX10_patches_142 : decode cX10_patches 142 = .ok (.goto (-108), 3) := by decide +kernel
theorem dX10_patches_145 : decode cX10_patches 145 = .ok (.iconst 0, 1) := by decide +kernel
theorem dX10_patches_146 : decode cX10_patches 146 = .ok (.istore_n 2, 1) := by decide +kernel
theorem dX10_patches_147 : decode cX10_patches 147 = .ok (.iconst 0, 1) := by decide +kernel
theorem dX10_patches_148 : decode cX10_patches 148 = .ok (.istore_n 3, 1) := by decide +kernel
theorem dX10_patches_149 : decode cX10_patches 149 = .ok (.iconst 0, 1) := by decide +kernel
theorem dX10_patches_150 : decode cX10_patches 150 = .ok (.istore 4, 2) := by decide +kernel
theorem dX10_patches_152 : decode cX10_patches 152 = .ok (.iload 4, 2) := by decide +kernel
theorem dX10_patches_154 : decode cX10_patches 154 = .ok (.bipush 30, 2) := by decide +kernel
theorem dX10_patches_156 : decode cX10_patches 156 = .ok (.if_icmp .ge 88, 3) := by decide +kernel
theorem dX10_patches_159 : decode cX10_patches 159 = .ok (.aload_n 0, 1) := by decide +kernel
theorem dX10_patches_160 : decode cX10_patches 160 = .ok (.getfield 15, 3) := by decide +kernel
theorem dX10_patches_163 : decode cX10_patches 163 = .ok (.iload 4, 2) := by decide +kernel
theorem dX10_patches_165 : decode cX10_patches 165 = .ok (.iaload, 1) := by decide +kernel
theorem dX10_patches_166 : decode cX10_patches 166 = .ok (.ifCond .eq 72, 3) := by decide +kernel
theorem dX10_patches_169 : decode cX10_patches 169 = .ok (.aload_n 0, 1) := by decide +kernel
theorem dX10_patches_170 : decode cX10_patches 170 = .ok (.getfield 100, 3) := by decide +kernel
theorem dX10_patches_173 : decode cX10_patches 173 = .ok (.iload 4, 2) := by decide +kernel
theorem dX10_patches_175 : decode cX10_patches 175 = .ok (.iaload, 1) := by decide +kernel
theorem dX10_patches_176 : decode cX10_patches 176 = .ok (.iload 4, 2) := by decide +kernel
theorem dX10_patches_178 : decode cX10_patches 178 = .ok (.if_icmp .eq 6, 3) := by decide +kernel
theorem dX10_patches_181 : decode cX10_patches 181 = .ok (.goto 57, 3) := by decide +kernel
theorem dX10_patches_184 : decode cX10_patches 184 = .ok (.iinc 2 1, 3) := by decide +kernel
theorem dX10_patches_187 : decode cX10_patches 187 = .ok (.iconst 0, 1) := by decide +kernel
theorem dX10_patches_188 : decode cX10_patches 188 = .ok (.istore 5, 2) := by decide +kernel
theorem dX10_patches_190 : decode cX10_patches 190 = .ok (.iconst 0, 1) := by decide +kernel
theorem dX10_patches_191 : decode cX10_patches 191 = .ok (.istore 6, 2) := by decide +kernel
theorem dX10_patches_193 : decode cX10_patches 193 = .ok (.iload 6, 2) := by decide +kernel
theorem dX10_patches_195 : decode cX10_patches 195 = .ok (.bipush 30, 2) := by decide +kernel
theorem dX10_patches_197 : decode cX10_patches 197 = .ok (.if_icmp .ge 34, 3) := by decide +kernel
theorem dX10_patches_200 : decode cX10_patches 200 = .ok (.aload_n 0, 1) := by decide +kernel
theorem dX10_patches_201 : decode cX10_patches 201 = .ok (.getfield 15, 3) := by decide +kernel
theorem dX10_patches_204 : decode cX10_patches 204 = .ok (.iload 6, 2) := by decide +kernel
theorem dX10_patches_206 : decode cX10_patches 206 = .ok (.iaload, 1) := by decide +kernel
theorem dX10_patches_207 : decode cX10_patches 207 = .ok (.ifCond .le 18, 3) := by decide +kernel
theorem dX10_patches_210 : decode cX10_patches 210 = .ok (.aload_n 0, 1) := by decide +kernel
theorem dX10_patches_211 : decode cX10_patches 211 = .ok (.getfield 100, 3) := by decide +kernel
theorem dX10_patches_214 : decode cX10_patches 214 = .ok (.iload 6, 2) := by decide +kernel
theorem dX10_patches_216 : decode cX10_patches 216 = .ok (.iaload, 1) := by decide +kernel
theorem dX10_patches_217 : decode cX10_patches 217 = .ok (.iload 4, 2) := by decide +kernel
theorem dX10_patches_219 : decode cX10_patches 219 = .ok (.if_icmp .ne 6, 3) := by decide +kernel
theorem dX10_patches_222 : decode cX10_patches 222 = .ok (.iinc 5 1, 3) := by decide +kernel
theorem dX10_patches_225 : decode cX10_patches 225 = .ok (.iinc 6 1, 3) := by decide +kernel
theorem dX10_patches_228 : decode cX10_patches 228 = .ok (.goto (-35), 3) := by decide +kernel
theorem dX10_patches_231 : decode cX10_patches 231 = .ok (.iload_n 3, 1) := by decide +kernel
theorem dX10_patches_232 : decode cX10_patches 232 = .ok (.iload 5, 2) := by decide +kernel
theorem dX10_patches_234 : decode cX10_patches 234 = .ok (.invokestatic 232, 3) := by decide +kernel
theorem dX10_patches_237 : decode cX10_patches 237 = .ok (.istore_n 3, 1) := by decide +kernel
theorem dX10_patches_238 : decode cX10_patches 238 = .ok (.iinc 4 1, 3) := by decide +kernel
theorem dX10_patches_241 : decode cX10_patches 241 = .ok (.goto (-89), 3) := by decide +kernel
theorem dX10_patches_244 : decode cX10_patches 244 = .ok (.iload_n 1, 1) := by decide +kernel
theorem dX10_patches_245 : decode cX10_patches 245 = .ok (.ifCond .ne 7, 3) := by decide +kernel
theorem dX10_patches_248 : decode cX10_patches 248 = .ok (.iload_n 2, 1) := by decide +kernel
theorem dX10_patches_249 : decode cX10_patches 249 = .ok (.goto 4, 3) := by decide +kernel
theorem dX10_patches_252 : decode cX10_patches 252 = .ok (.iload_n 3, 1) := by decide +kernel
theorem dX10_patches_253 : decode cX10_patches 253 = .ok (.ireturn, 1) := by decide +kernel
theorem dX10_turnFrom_0 : decode cX10_turnFrom 0 = .ok (.iload_n 1, 1) := by decide +kernel
theorem dX10_turnFrom_1 : decode cX10_turnFrom 1 = .ok (.iload_n 2, 1) := by decide +kernel
theorem dX10_turnFrom_2 : decode cX10_turnFrom 2 = .ok (.if_icmp .ne 31, 3) := by decide +kernel
theorem dX10_turnFrom_5 : decode cX10_turnFrom 5 = .ok (.aload_n 0, 1) := by decide +kernel
theorem dX10_turnFrom_6 : decode cX10_turnFrom 6 = .ok (.aload_n 0, 1) := by decide +kernel
theorem dX10_turnFrom_7 : decode cX10_turnFrom 7 = .ok (.getfield 21, 3) := by decide +kernel
theorem dX10_turnFrom_10 : decode cX10_turnFrom 10 = .ok (.iload_n 3, 1) := by decide +kernel
theorem dX10_turnFrom_11 : decode cX10_turnFrom 11 = .ok (.bipush 10, 2) := by decide +kernel
theorem dX10_turnFrom_13 : decode cX10_turnFrom 13 = .ok (.idiv, 1) := by decide +kernel
theorem dX10_turnFrom_14 : decode cX10_turnFrom 14 = .ok (.iaload, 1) := by decide +kernel
theorem dX10_turnFrom_15 : decode cX10_turnFrom 15 = .ok (.invokevirtual 235, 3) := by decide +kernel
theorem dX10_turnFrom_18 : decode cX10_turnFrom 18 = .ok (.aload_n 0, 1) := by decide +kernel
theorem dX10_turnFrom_19 : decode cX10_turnFrom 19 = .ok (.aload_n 0, 1) := by decide +kernel
theorem dX10_turnFrom_20 : decode cX10_turnFrom 20 = .ok (.getfield 21, 3) := by decide +kernel
theorem dX10_turnFrom_23 : decode cX10_turnFrom 23 = .ok (.iload_n 3, 1) := by decide +kernel
theorem dX10_turnFrom_24 : decode cX10_turnFrom 24 = .ok (.bipush 10, 2) := by decide +kernel
theorem dX10_turnFrom_26 : decode cX10_turnFrom 26 = .ok (.irem, 1) := by decide +kernel
theorem dX10_turnFrom_27 : decode cX10_turnFrom 27 = .ok (.iaload, 1) := by decide +kernel
theorem dX10_turnFrom_28 : decode cX10_turnFrom 28 = .ok (.invokevirtual 235, 3) := by decide +kernel
theorem dX10_turnFrom_31 : decode cX10_turnFrom 31 = .ok (.isub, 1) := by decide +kernel
theorem dX10_turnFrom_32 : decode cX10_turnFrom 32 = .ok (.ireturn, 1) := by decide +kernel
theorem dX10_turnFrom_33 : decode cX10_turnFrom 33 = .ok (.aload_n 0, 1) := by decide +kernel
theorem dX10_turnFrom_34 : decode cX10_turnFrom 34 = .ok (.iload_n 1, 1) := by decide +kernel
theorem dX10_turnFrom_35 : decode cX10_turnFrom 35 = .ok (.iconst 1, 1) := by decide +kernel
theorem dX10_turnFrom_36 : decode cX10_turnFrom 36 = .ok (.iadd, 1) := by decide +kernel
theorem dX10_turnFrom_37 : decode cX10_turnFrom 37 = .ok (.iload_n 2, 1) := by decide +kernel
theorem dX10_turnFrom_38 : decode cX10_turnFrom 38 = .ok (.iload_n 3, 1) := by decide +kernel
theorem dX10_turnFrom_39 : decode cX10_turnFrom 39 = .ok (.iload 4, 2) := by decide +kernel
theorem dX10_turnFrom_41 : decode cX10_turnFrom 41 = .ok (.invokevirtual 307, 3) := by decide +kernel
theorem dX10_turnFrom_44 : decode cX10_turnFrom 44 = .ok (.istore 5, 2) := by decide +kernel
theorem dX10_turnFrom_46 : decode cX10_turnFrom 46 = .ok (.iload_n 1, 1) := by decide +kernel
theorem dX10_turnFrom_47 : decode cX10_turnFrom 47 = .ok (.iconst 2, 1) := by decide +kernel
theorem dX10_turnFrom_48 : decode cX10_turnFrom 48 = .ok (.irem, 1) := by decide +kernel
theorem dX10_turnFrom_49 : decode cX10_turnFrom 49 = .ok (.ifCond .ne 11, 3) := by decide +kernel
theorem dX10_turnFrom_52 : decode cX10_turnFrom 52 = .ok (.iload 4, 2) := by decide +kernel
theorem dX10_turnFrom_54 : decode cX10_turnFrom 54 = .ok (.bipush 10, 2) := by decide +kernel
theorem dX10_turnFrom_56 : decode cX10_turnFrom 56 = .ok (.idiv, 1) := by decide +kernel
theorem dX10_turnFrom_57 : decode cX10_turnFrom 57 = .ok (.goto 8, 3) := by decide +kernel
theorem dX10_turnFrom_60 : decode cX10_turnFrom 60 = .ok (.iload 4, 2) := by decide +kernel
theorem dX10_turnFrom_62 : decode cX10_turnFrom 62 = .ok (.bipush 10, 2) := by decide +kernel
theorem dX10_turnFrom_64 : decode cX10_turnFrom 64 = .ok (.irem, 1) := by decide +kernel
theorem dX10_turnFrom_65 : decode cX10_turnFrom 65 = .ok (.istore 6, 2) := by decide +kernel
theorem dX10_turnFrom_67 : decode cX10_turnFrom 67 = .ok (.iconst 0, 1) := by decide +kernel
theorem dX10_turnFrom_68 : decode cX10_turnFrom 68 = .ok (.istore 7, 2) := by decide +kernel
theorem dX10_turnFrom_70 : decode cX10_turnFrom 70 = .ok (.iload 7, 2) := by decide +kernel
theorem dX10_turnFrom_72 : decode cX10_turnFrom 72 = .ok (.iconst 2, 1) := by decide +kernel
theorem dX10_turnFrom_73 : decode cX10_turnFrom 73 = .ok (.if_icmp .ge 71, 3) := by decide +kernel
theorem dX10_turnFrom_76 : decode cX10_turnFrom 76 = .ok (.aload_n 0, 1) := by decide +kernel
theorem dX10_turnFrom_77 : decode cX10_turnFrom 77 = .ok (.iconst 2, 1) := by decide +kernel
theorem dX10_turnFrom_78 : decode cX10_turnFrom 78 = .ok (.iload 6, 2) := by decide +kernel
theorem dX10_turnFrom_80 : decode cX10_turnFrom 80 = .ok (.imul, 1) := by decide +kernel
theorem dX10_turnFrom_81 : decode cX10_turnFrom 81 = .ok (.iload 7, 2) := by decide +kernel
theorem dX10_turnFrom_83 : decode cX10_turnFrom 83 = .ok (.iadd, 1) := by decide +kernel
theorem dX10_turnFrom_84 : decode cX10_turnFrom 84 = .ok (.invokevirtual 274, 3) := by decide +kernel
theorem dX10_turnFrom_87 : decode cX10_turnFrom 87 = .ok (.aload_n 0, 1) := by decide +kernel
theorem dX10_turnFrom_88 : decode cX10_turnFrom 88 = .ok (.iload_n 1, 1) := by decide +kernel
theorem dX10_turnFrom_89 : decode cX10_turnFrom 89 = .ok (.iconst 1, 1) := by decide +kernel
theorem dX10_turnFrom_90 : decode cX10_turnFrom 90 = .ok (.iadd, 1) := by decide +kernel
theorem dX10_turnFrom_91 : decode cX10_turnFrom 91 = .ok (.iload_n 2, 1) := by decide +kernel
theorem dX10_turnFrom_92 : decode cX10_turnFrom 92 = .ok (.iload_n 3, 1) := by decide +kernel
theorem dX10_turnFrom_93 : decode cX10_turnFrom 93 = .ok (.iload 4, 2) := by decide +kernel
theorem dX10_turnFrom_95 : decode cX10_turnFrom 95 = .ok (.invokevirtual 307, 3) := by decide +kernel
theorem dX10_turnFrom_98 : decode cX10_turnFrom 98 = .ok (.istore 8, 2) := by decide +kernel
theorem dX10_turnFrom_100 : decode cX10_turnFrom 100 = .ok (.aload_n 0, 1) := by decide +kernel
theorem dX10_turnFrom_101 : decode cX10_turnFrom 101 = .ok (.iconst 2, 1) := by decide +kernel
theorem dX10_turnFrom_102 : decode cX10_turnFrom 102 = .ok (.iload 6, 2) := by decide +kernel
theorem dX10_turnFrom_104 : decode cX10_turnFrom 104 = .ok (.imul, 1) := by decide +kernel
theorem dX10_turnFrom_105 : decode cX10_turnFrom 105 = .ok (.iconst 1, 1) := by decide +kernel
theorem dX10_turnFrom_106 : decode cX10_turnFrom 106 = .ok (.iadd, 1) := by decide +kernel
theorem dX10_turnFrom_107 : decode cX10_turnFrom 107 = .ok (.iload 7, 2) := by decide +kernel
theorem dX10_turnFrom_109 : decode cX10_turnFrom 109 = .ok (.isub, 1) := by decide +kernel
theorem dX10_turnFrom_110 : decode cX10_turnFrom 110 = .ok (.invokevirtual 274, 3) := by decide +kernel
theorem dX10_turnFrom_113 : decode cX10_turnFrom 113 = .ok (.iload_n 1, 1) := by decide +kernel
theorem dX10_turnFrom_114 : decode cX10_turnFrom 114 = .ok (.iconst 2, 1) := by decide +kernel
theorem dX10_turnFrom_115 : decode cX10_turnFrom 115 = .ok (.irem, 1) := by decide +kernel
theorem dX10_turnFrom_116 : decode cX10_turnFrom 116 = .ok (.ifCond .ne 13, 3) := by decide +kernel
theorem dX10_turnFrom_119 : decode cX10_turnFrom 119 = .ok (.iload 5, 2) := by decide +kernel
theorem dX10_turnFrom_121 : decode cX10_turnFrom 121 = .ok (.iload 8, 2) := by decide +kernel
theorem dX10_turnFrom_123 : decode cX10_turnFrom 123 = .ok (.invokestatic 232, 3) := by decide +kernel
theorem dX10_turnFrom_126 : decode cX10_turnFrom 126 = .ok (.goto 10, 3) := by decide +kernel
theorem dX10_turnFrom_129 : decode cX10_turnFrom 129 = .ok (.iload 5, 2) := by decide +kernel
theorem dX10_turnFrom_131 : decode cX10_turnFrom 131 = .ok (.iload 8, 2) := by decide +kernel
theorem dX10_turnFrom_133 : decode cX10_turnFrom 133 = .ok (.invokestatic 227, 3) := by decide +kernel
theorem dX10_turnFrom_136 : decode cX10_turnFrom 136 = .ok (.istore 5, 2) := by decide +kernel
theorem dX10_turnFrom_138 : decode cX10_turnFrom 138 = .ok (.iinc 7 1, 3) := by decide +kernel
theorem dX10_turnFrom_141 : decode cX10_turnFrom 141 = .ok (.goto (-71), 3) := by decide +kernel
theorem dX10_turnFrom_144 : decode cX10_turnFrom 144 = .ok (.iload 5, 2) := by decide +kernel
theorem dX10_turnFrom_146 : decode cX10_turnFrom 146 = .ok (.ireturn, 1) := by decide +kernel
theorem dX10_byTurns_0 : decode cX10_byTurns 0 = .ok (.iload_n 1, 1) := by decide +kernel
theorem dX10_byTurns_1 : decode cX10_byTurns 1 = .ok (.ifCond .lt 36, 3) := by decide +kernel
theorem dX10_byTurns_4 : decode cX10_byTurns 4 = .ok (.aload_n 0, 1) := by decide +kernel
theorem dX10_byTurns_5 : decode cX10_byTurns 5 = .ok (.iload_n 1, 1) := by decide +kernel
theorem dX10_byTurns_6 : decode cX10_byTurns 6 = .ok (.bipush 10, 2) := by decide +kernel
theorem dX10_byTurns_8 : decode cX10_byTurns 8 = .ok (.idiv, 1) := by decide +kernel
theorem dX10_byTurns_9 : decode cX10_byTurns 9 = .ok (.invokevirtual 128, 3) := by decide +kernel
theorem dX10_byTurns_12 : decode cX10_byTurns 12 = .ok (.ifCond .eq 25, 3) := by decide +kernel
theorem dX10_byTurns_15 : decode cX10_byTurns 15 = .ok (.aload_n 0, 1) := by decide +kernel
theorem dX10_byTurns_16 : decode cX10_byTurns 16 = .ok (.iload_n 1, 1) := by decide +kernel
theorem dX10_byTurns_17 : decode cX10_byTurns 17 = .ok (.bipush 10, 2) := by decide +kernel
theorem dX10_byTurns_19 : decode cX10_byTurns 19 = .ok (.irem, 1) := by decide +kernel
theorem dX10_byTurns_20 : decode cX10_byTurns 20 = .ok (.invokevirtual 128, 3) := by decide +kernel
theorem dX10_byTurns_23 : decode cX10_byTurns 23 = .ok (.ifCond .eq 14, 3) := by decide +kernel
theorem dX10_byTurns_26 : decode cX10_byTurns 26 = .ok (.iload_n 1, 1) := by decide +kernel
theorem dX10_byTurns_27 : decode cX10_byTurns 27 = .ok (.bipush 10, 2) := by decide +kernel
theorem dX10_byTurns_29 : decode cX10_byTurns 29 = .ok (.idiv, 1) := by decide +kernel
theorem dX10_byTurns_30 : decode cX10_byTurns 30 = .ok (.iload_n 1, 1) := by decide +kernel
theorem dX10_byTurns_31 : decode cX10_byTurns 31 = .ok (.bipush 10, 2) := by decide +kernel
theorem dX10_byTurns_33 : decode cX10_byTurns 33 = .ok (.irem, 1) := by decide +kernel
theorem dX10_byTurns_34 : decode cX10_byTurns 34 = .ok (.if_icmp .ne 7, 3) := by decide +kernel
theorem dX10_byTurns_37 : decode cX10_byTurns 37 = .ok (.ldc_w 311, 3) := by decide +kernel
theorem dX10_byTurns_40 : decode cX10_byTurns 40 = .ok (.ireturn, 1) := by decide +kernel
theorem dX10_byTurns_41 : decode cX10_byTurns 41 = .ok (.iload_n 2, 1) := by decide +kernel
theorem dX10_byTurns_42 : decode cX10_byTurns 42 = .ok (.ifCond .lt 49, 3) := by decide +kernel
theorem dX10_byTurns_45 : decode cX10_byTurns 45 = .ok (.iload_n 2, 1) := by decide +kernel
theorem dX10_byTurns_46 : decode cX10_byTurns 46 = .ok (.bipush 10, 2) := by decide +kernel
theorem dX10_byTurns_48 : decode cX10_byTurns 48 = .ok (.idiv, 1) := by decide +kernel
theorem dX10_byTurns_49 : decode cX10_byTurns 49 = .ok (.iconst 5, 1) := by decide +kernel
theorem dX10_byTurns_50 : decode cX10_byTurns 50 = .ok (.if_icmp .ge 41, 3) := by decide +kernel
theorem dX10_byTurns_53 : decode cX10_byTurns 53 = .ok (.iload_n 2, 1) := by decide +kernel
theorem dX10_byTurns_54 : decode cX10_byTurns 54 = .ok (.bipush 10, 2) := by decide +kernel
theorem dX10_byTurns_56 : decode cX10_byTurns 56 = .ok (.irem, 1) := by decide +kernel
theorem dX10_byTurns_57 : decode cX10_byTurns 57 = .ok (.iconst 5, 1) := by decide +kernel
theorem dX10_byTurns_58 : decode cX10_byTurns 58 = .ok (.if_icmp .ge 33, 3) := by decide +kernel
theorem dX10_byTurns_61 : decode cX10_byTurns 61 = .ok (.iload_n 2, 1) := by decide +kernel
theorem dX10_byTurns_62 : decode cX10_byTurns 62 = .ok (.bipush 10, 2) := by decide +kernel
theorem dX10_byTurns_64 : decode cX10_byTurns 64 = .ok (.idiv, 1) := by decide +kernel
theorem dX10_byTurns_65 : decode cX10_byTurns 65 = .ok (.iload_n 2, 1) := by decide +kernel
theorem dX10_byTurns_66 : decode cX10_byTurns 66 = .ok (.bipush 10, 2) := by decide +kernel
theorem dX10_byTurns_68 : decode cX10_byTurns 68 = .ok (.irem, 1) := by decide +kernel
theorem dX10_byTurns_69 : decode cX10_byTurns 69 = .ok (.if_icmp .eq 22, 3) := by decide +kernel
theorem dX10_byTurns_72 : decode cX10_byTurns 72 = .ok (.iload_n 3, 1) := by decide +kernel
theorem dX10_byTurns_73 : decode cX10_byTurns 73 = .ok (.iconst 1, 1) := by decide +kernel
theorem dX10_byTurns_74 : decode cX10_byTurns 74 = .ok (.iconst 4, 1) := by decide +kernel
theorem dX10_byTurns_75 : decode cX10_byTurns 75 = .ok (.invokestatic 103, 3) := by decide +kernel
theorem dX10_byTurns_78 : decode cX10_byTurns 78 = .ok (.ifCond .eq 13, 3) := by decide +kernel
theorem dX10_byTurns_81 : decode cX10_byTurns 81 = .ok (.iload 4, 2) := by decide +kernel
theorem dX10_byTurns_83 : decode cX10_byTurns 83 = .ok (.iconst 0, 1) := by decide +kernel
theorem dX10_byTurns_84 : decode cX10_byTurns 84 = .ok (.iconst 1, 1) := by decide +kernel
theorem dX10_byTurns_85 : decode cX10_byTurns 85 = .ok (.invokestatic 103, 3) := by decide +kernel
theorem dX10_byTurns_88 : decode cX10_byTurns 88 = .ok (.ifCond .ne 7, 3) := by decide +kernel
theorem dX10_byTurns_91 : decode cX10_byTurns 91 = .ok (.ldc_w 311, 3) := by decide +kernel
theorem dX10_byTurns_94 : decode cX10_byTurns 94 = .ok (.ireturn, 1) := by decide +kernel
theorem dX10_byTurns_95 : decode cX10_byTurns 95 = .ok (.aload_n 0, 1) := by decide +kernel
theorem dX10_byTurns_96 : decode cX10_byTurns 96 = .ok (.iconst 1, 1) := by decide +kernel
theorem dX10_byTurns_97 : decode cX10_byTurns 97 = .ok (.iload_n 3, 1) := by decide +kernel
theorem dX10_byTurns_98 : decode cX10_byTurns 98 = .ok (.iload_n 1, 1) := by decide +kernel
theorem dX10_byTurns_99 : decode cX10_byTurns 99 = .ok (.iload_n 2, 1) := by decide +kernel
theorem dX10_byTurns_100 : decode cX10_byTurns 100 = .ok (.invokevirtual 307, 3) := by decide +kernel
theorem dX10_byTurns_103 : decode cX10_byTurns 103 = .ok (.istore 5, 2) := by decide +kernel
theorem dX10_byTurns_105 : decode cX10_byTurns 105 = .ok (.iconst 2, 1) := by decide +kernel
theorem dX10_byTurns_106 : decode cX10_byTurns 106 = .ok (.istore 6, 2) := by decide +kernel
theorem dX10_byTurns_108 : decode cX10_byTurns 108 = .ok (.iconst 0, 1) := by decide +kernel
theorem dX10_byTurns_109 : decode cX10_byTurns 109 = .ok (.istore 7, 2) := by decide +kernel
theorem dX10_byTurns_111 : decode cX10_byTurns 111 = .ok (.iload 7, 2) := by decide +kernel
theorem dX10_byTurns_113 : decode cX10_byTurns 113 = .ok (.iconst 2, 1) := by decide +kernel
theorem dX10_byTurns_114 : decode cX10_byTurns 114 = .ok (.if_icmp .ge 65, 3) := by decide +kernel
theorem dX10_byTurns_117 : decode cX10_byTurns 117 = .ok (.aload_n 0, 1) := by decide +kernel
theorem dX10_byTurns_118 : decode cX10_byTurns 118 = .ok (.iconst 2, 1) := by decide +kernel
theorem dX10_byTurns_119 : decode cX10_byTurns 119 = .ok (.iload_n 2, 1) := by decide +kernel
theorem dX10_byTurns_120 : decode cX10_byTurns 120 = .ok (.bipush 10, 2) := by decide +kernel
theorem dX10_byTurns_122 : decode cX10_byTurns 122 = .ok (.idiv, 1) := by decide +kernel
theorem dX10_byTurns_123 : decode cX10_byTurns 123 = .ok (.imul, 1) := by decide +kernel
theorem dX10_byTurns_124 : decode cX10_byTurns 124 = .ok (.iload 7, 2) := by decide +kernel
theorem dX10_byTurns_126 : decode cX10_byTurns 126 = .ok (.iadd, 1) := by decide +kernel
theorem dX10_byTurns_127 : decode cX10_byTurns 127 = .ok (.invokevirtual 274, 3) := by decide +kernel
theorem dX10_byTurns_130 : decode cX10_byTurns 130 = .ok (.aload_n 0, 1) := by decide +kernel
theorem dX10_byTurns_131 : decode cX10_byTurns 131 = .ok (.iconst 1, 1) := by decide +kernel
theorem dX10_byTurns_132 : decode cX10_byTurns 132 = .ok (.iload_n 3, 1) := by decide +kernel
theorem dX10_byTurns_133 : decode cX10_byTurns 133 = .ok (.iload_n 1, 1) := by decide +kernel
theorem dX10_byTurns_134 : decode cX10_byTurns 134 = .ok (.iload_n 2, 1) := by decide +kernel
theorem dX10_byTurns_135 : decode cX10_byTurns 135 = .ok (.invokevirtual 307, 3) := by decide +kernel
theorem dX10_byTurns_138 : decode cX10_byTurns 138 = .ok (.istore 8, 2) := by decide +kernel
theorem dX10_byTurns_140 : decode cX10_byTurns 140 = .ok (.aload_n 0, 1) := by decide +kernel
theorem dX10_byTurns_141 : decode cX10_byTurns 141 = .ok (.iconst 2, 1) := by decide +kernel
theorem dX10_byTurns_142 : decode cX10_byTurns 142 = .ok (.iload_n 2, 1) := by decide +kernel
theorem dX10_byTurns_143 : decode cX10_byTurns 143 = .ok (.bipush 10, 2) := by decide +kernel
theorem dX10_byTurns_145 : decode cX10_byTurns 145 = .ok (.idiv, 1) := by decide +kernel
theorem dX10_byTurns_146 : decode cX10_byTurns 146 = .ok (.imul, 1) := by decide +kernel
theorem dX10_byTurns_147 : decode cX10_byTurns 147 = .ok (.iconst 1, 1) := by decide +kernel
theorem dX10_byTurns_148 : decode cX10_byTurns 148 = .ok (.iadd, 1) := by decide +kernel
theorem dX10_byTurns_149 : decode cX10_byTurns 149 = .ok (.iload 7, 2) := by decide +kernel
theorem dX10_byTurns_151 : decode cX10_byTurns 151 = .ok (.isub, 1) := by decide +kernel
theorem dX10_byTurns_152 : decode cX10_byTurns 152 = .ok (.invokevirtual 274, 3) := by decide +kernel
theorem dX10_byTurns_155 : decode cX10_byTurns 155 = .ok (.iload 8, 2) := by decide +kernel
theorem dX10_byTurns_157 : decode cX10_byTurns 157 = .ok (.iload 5, 2) := by decide +kernel
theorem dX10_byTurns_159 : decode cX10_byTurns 159 = .ok (.if_icmp .gt 6, 3) := by decide +kernel
theorem dX10_byTurns_162 : decode cX10_byTurns 162 = .ok (.goto 11, 3) := by decide +kernel
theorem dX10_byTurns_165 : decode cX10_byTurns 165 = .ok (.iload 8, 2) := by decide +kernel
theorem dX10_byTurns_167 : decode cX10_byTurns 167 = .ok (.istore 5, 2) := by decide +kernel
theorem dX10_byTurns_169 : decode cX10_byTurns 169 = .ok (.iload 7, 2) := by decide +kernel
theorem dX10_byTurns_171 : decode cX10_byTurns 171 = .ok (.istore 6, 2) := by decide +kernel
theorem dX10_byTurns_173 : decode cX10_byTurns 173 = .ok (.iinc 7 1, 3) := by decide +kernel
theorem dX10_byTurns_176 : decode cX10_byTurns 176 = .ok (.goto (-65), 3) := by decide +kernel
theorem dX10_byTurns_179 : decode cX10_byTurns 179 = .ok (.iload 4, 2) := by decide +kernel
theorem dX10_byTurns_181 : decode cX10_byTurns 181 = .ok (.ifCond .ne 8, 3) := by decide +kernel
theorem dX10_byTurns_184 : decode cX10_byTurns 184 = .ok (.iload 5, 2) := by decide +kernel
theorem dX10_byTurns_186 : decode cX10_byTurns 186 = .ok (.goto 5, 3) := by decide +kernel
theorem dX10_byTurns_189 : decode cX10_byTurns 189 = .ok (.iload 6, 2) := by decide +kernel
theorem dX10_byTurns_191 : decode cX10_byTurns 191 = .ok (.ireturn, 1) := by decide +kernel
theorem dX10_drawn_0 : decode cX10_drawn 0 = .ok (.iload_n 2, 1) := by decide +kernel
theorem dX10_drawn_1 : decode cX10_drawn 1 = .ok (.ifCond .lt 42, 3) := by decide +kernel
theorem dX10_drawn_4 : decode cX10_drawn 4 = .ok (.iload_n 2, 1) := by decide +kernel
theorem dX10_drawn_5 : decode cX10_drawn 5 = .ok (.bipush 100, 2) := by decide +kernel
theorem dX10_drawn_7 : decode cX10_drawn 7 = .ok (.idiv, 1) := by decide +kernel
theorem dX10_drawn_8 : decode cX10_drawn 8 = .ok (.iconst 1, 1) := by decide +kernel
theorem dX10_drawn_9 : decode cX10_drawn 9 = .ok (.bipush 30, 2) := by decide +kernel
theorem dX10_drawn_11 : decode cX10_drawn 11 = .ok (.invokestatic 103, 3) := by decide +kernel
theorem dX10_drawn_14 : decode cX10_drawn 14 = .ok (.ifCond .eq 29, 3) := by decide +kernel
theorem dX10_drawn_17 : decode cX10_drawn 17 = .ok (.iload_n 2, 1) := by decide +kernel
theorem dX10_drawn_18 : decode cX10_drawn 18 = .ok (.bipush 100, 2) := by decide +kernel
theorem dX10_drawn_20 : decode cX10_drawn 20 = .ok (.irem, 1) := by decide +kernel
theorem dX10_drawn_21 : decode cX10_drawn 21 = .ok (.iconst 1, 1) := by decide +kernel
theorem dX10_drawn_22 : decode cX10_drawn 22 = .ok (.bipush 24, 2) := by decide +kernel
theorem dX10_drawn_24 : decode cX10_drawn 24 = .ok (.invokestatic 103, 3) := by decide +kernel
theorem dX10_drawn_27 : decode cX10_drawn 27 = .ok (.ifCond .eq 16, 3) := by decide +kernel
theorem dX10_drawn_30 : decode cX10_drawn 30 = .ok (.iload_n 3, 1) := by decide +kernel
theorem dX10_drawn_31 : decode cX10_drawn 31 = .ok (.iconst (-1), 1) := by decide +kernel
theorem dX10_drawn_32 : decode cX10_drawn 32 = .ok (.if_icmp .eq 13, 3) := by decide +kernel
theorem dX10_drawn_35 : decode cX10_drawn 35 = .ok (.aload_n 0, 1) := by decide +kernel
theorem dX10_drawn_36 : decode cX10_drawn 36 = .ok (.iload_n 3, 1) := by decide +kernel
theorem dX10_drawn_37 : decode cX10_drawn 37 = .ok (.invokevirtual 128, 3) := by decide +kernel
theorem dX10_drawn_40 : decode cX10_drawn 40 = .ok (.ifCond .ne 5, 3) := by decide +kernel
theorem dX10_drawn_43 : decode cX10_drawn 43 = .ok (.iconst (-1), 1) := by decide +kernel
theorem dX10_drawn_44 : decode cX10_drawn 44 = .ok (.ireturn, 1) := by decide +kernel
theorem dX10_drawn_45 : decode cX10_drawn 45 = .ok (.aload_n 0, 1) := by decide +kernel
theorem dX10_drawn_46 : decode cX10_drawn 46 = .ok (.aload_n 0, 1) := by decide +kernel
theorem dX10_drawn_47 : decode cX10_drawn 47 = .ok (.getfield 91, 3) := by decide +kernel
theorem dX10_drawn_50 : decode cX10_drawn 50 = .ok (.invokevirtual 257, 3) := by decide +kernel
theorem dX10_drawn_53 : decode cX10_drawn 53 = .ok (.iload_n 1, 1) := by decide +kernel
theorem dX10_drawn_54 : decode cX10_drawn 54 = .ok (.istore 4, 2) := by decide +kernel
theorem dX10_drawn_56 : decode cX10_drawn 56 = .ok (.iconst 0, 1) := by decide +kernel
theorem dX10_drawn_57 : decode cX10_drawn 57 = .ok (.istore 5, 2) := by decide +kernel
theorem dX10_drawn_59 : decode cX10_drawn 59 = .ok (.iconst 0, 1) := by decide +kernel
theorem dX10_drawn_60 : decode cX10_drawn 60 = .ok (.istore 6, 2) := by decide +kernel
theorem dX10_drawn_62 : decode cX10_drawn 62 = .ok (.iload 6, 2) := by decide +kernel
theorem dX10_drawn_64 : decode cX10_drawn 64 = .ok (.iload_n 2, 1) := by decide +kernel
theorem dX10_drawn_65 : decode cX10_drawn 65 = .ok (.bipush 100, 2) := by decide +kernel
theorem dX10_drawn_67 : decode cX10_drawn 67 = .ok (.idiv, 1) := by decide +kernel
theorem dX10_drawn_68 : decode cX10_drawn 68 = .ok (.if_icmp .ge 147, 3) := by decide +kernel
theorem dX10_drawn_71 : decode cX10_drawn 71 = .ok (.iconst 0, 1) := by decide +kernel
theorem dX10_drawn_72 : decode cX10_drawn 72 = .ok (.istore 7, 2) := by decide +kernel
theorem dX10_drawn_74 : decode cX10_drawn 74 = .ok (.iload 7, 2) := by decide +kernel
theorem dX10_drawn_76 : decode cX10_drawn 76 = .ok (.iload_n 2, 1) := by decide +kernel
theorem dX10_drawn_77 : decode cX10_drawn 77 = .ok (.bipush 100, 2) := by decide +kernel
theorem dX10_drawn_79 : decode cX10_drawn 79 = .ok (.irem, 1) := by decide +kernel
theorem dX10_drawn_80 : decode cX10_drawn 80 = .ok (.if_icmp .ge 121, 3) := by decide +kernel
theorem dX10_drawn_83 : decode cX10_drawn 83 = .ok (.iload 4, 2) := by decide +kernel
theorem dX10_drawn_85 : decode cX10_drawn 85 = .ok (.ldc_w 312, 3) := by decide +kernel
theorem dX10_drawn_88 : decode cX10_drawn 88 = .ok (.imul, 1) := by decide +kernel
theorem dX10_drawn_89 : decode cX10_drawn 89 = .ok (.sipush 12345, 3) := by decide +kernel
theorem dX10_drawn_92 : decode cX10_drawn 92 = .ok (.iadd, 1) := by decide +kernel
theorem dX10_drawn_93 : decode cX10_drawn 93 = .ok (.istore 4, 2) := by decide +kernel
theorem dX10_drawn_95 : decode cX10_drawn 95 = .ok (.iload 4, 2) := by decide +kernel
theorem dX10_drawn_97 : decode cX10_drawn 97 = .ok (.bipush 8, 2) := by decide +kernel
theorem dX10_drawn_99 : decode cX10_drawn 99 = .ok (.iushr, 1) := by decide +kernel
theorem dX10_drawn_100 : decode cX10_drawn 100 = .ok (.iconst 3, 1) := by decide +kernel
theorem dX10_drawn_101 : decode cX10_drawn 101 = .ok (.irem, 1) := by decide +kernel
theorem dX10_drawn_102 : decode cX10_drawn 102 = .ok (.istore 8, 2) := by decide +kernel
theorem dX10_drawn_104 : decode cX10_drawn 104 = .ok (.iload 4, 2) := by decide +kernel
theorem dX10_drawn_106 : decode cX10_drawn 106 = .ok (.bipush 16, 2) := by decide +kernel
theorem dX10_drawn_108 : decode cX10_drawn 108 = .ok (.iushr, 1) := by decide +kernel
theorem dX10_drawn_109 : decode cX10_drawn 109 = .ok (.bipush 30, 2) := by decide +kernel
theorem dX10_drawn_111 : decode cX10_drawn 111 = .ok (.irem, 1) := by decide +kernel
theorem dX10_drawn_112 : decode cX10_drawn 112 = .ok (.istore 9, 2) := by decide +kernel
theorem dX10_drawn_114 : decode cX10_drawn 114 = .ok (.iload 8, 2) := by decide +kernel
theorem dX10_drawn_116 : decode cX10_drawn 116 = .ok (.ifCond .ne 19, 3) := by decide +kernel
theorem dX10_drawn_119 : decode cX10_drawn 119 = .ok (.aload_n 0, 1) := by decide +kernel
theorem dX10_drawn_120 : decode cX10_drawn 120 = .ok (.iconst 2, 1) := by decide +kernel
theorem dX10_drawn_121 : decode cX10_drawn 121 = .ok (.iload 4, 2) := by decide +kernel
theorem dX10_drawn_123 : decode cX10_drawn 123 = .ok (.bipush 16, 2) := by decide +kernel
theorem dX10_drawn_125 : decode cX10_drawn 125 = .ok (.iushr, 1) := by decide +kernel
theorem dX10_drawn_126 : decode cX10_drawn 126 = .ok (.iconst 5, 1) := by decide +kernel
theorem dX10_drawn_127 : decode cX10_drawn 127 = .ok (.irem, 1) := by decide +kernel
theorem dX10_drawn_128 : decode cX10_drawn 128 = .ok (.imul, 1) := by decide +kernel
theorem dX10_drawn_129 : decode cX10_drawn 129 = .ok (.invokevirtual 274, 3) := by decide +kernel
theorem dX10_drawn_132 : decode cX10_drawn 132 = .ok (.goto 29, 3) := by decide +kernel
theorem dX10_drawn_135 : decode cX10_drawn 135 = .ok (.iload 8, 2) := by decide +kernel
theorem dX10_drawn_137 : decode cX10_drawn 137 = .ok (.iconst 1, 1) := by decide +kernel
theorem dX10_drawn_138 : decode cX10_drawn 138 = .ok (.if_icmp .ne 23, 3) := by decide +kernel
theorem dX10_drawn_141 : decode cX10_drawn 141 = .ok (.aload_n 0, 1) := by decide +kernel
theorem dX10_drawn_142 : decode cX10_drawn 142 = .ok (.getfield 15, 3) := by decide +kernel
theorem dX10_drawn_145 : decode cX10_drawn 145 = .ok (.iload 9, 2) := by decide +kernel
theorem dX10_drawn_147 : decode cX10_drawn 147 = .ok (.iconst 0, 1) := by decide +kernel
theorem dX10_drawn_148 : decode cX10_drawn 148 = .ok (.aload_n 0, 1) := by decide +kernel
theorem dX10_drawn_149 : decode cX10_drawn 149 = .ok (.getfield 15, 3) := by decide +kernel
theorem dX10_drawn_152 : decode cX10_drawn 152 = .ok (.iload 9, 2) := by decide +kernel
theorem dX10_drawn_154 : decode cX10_drawn 154 = .ok (.iaload, 1) := by decide +kernel
theorem dX10_drawn_155 : decode cX10_drawn 155 = .ok (.iconst 1, 1) := by decide +kernel
theorem dX10_drawn_156 : decode cX10_drawn 156 = .ok (.isub, 1) := by decide +kernel
theorem dX10_drawn_157 : decode cX10_drawn 157 = .ok (.invokestatic 232, 3) := by decide +kernel
theorem dX10_drawn_160 : decode cX10_drawn 160 = .ok (.iastore, 1) := by decide +kernel
theorem dX10_drawn_161 : decode cX10_drawn 161 = .ok (.aload_n 0, 1) := by decide +kernel
theorem dX10_drawn_162 : decode cX10_drawn 162 = .ok (.invokevirtual 268, 3) := by decide +kernel
theorem dX10_drawn_165 : decode cX10_drawn 165 = .ok (.istore 10, 2) := by decide +kernel
theorem dX10_drawn_167 : decode cX10_drawn 167 = .ok (.iload 5, 2) := by decide +kernel
theorem dX10_drawn_169 : decode cX10_drawn 169 = .ok (.iload_n 3, 1) := by decide +kernel
theorem dX10_drawn_170 : decode cX10_drawn 170 = .ok (.iconst (-1), 1) := by decide +kernel
theorem dX10_drawn_171 : decode cX10_drawn 171 = .ok (.if_icmp .ne 11, 3) := by decide +kernel
theorem dX10_drawn_174 : decode cX10_drawn 174 = .ok (.iload 10, 2) := by decide +kernel
theorem dX10_drawn_176 : decode cX10_drawn 176 = .ok (.invokestatic 286, 3) := by decide +kernel
theorem dX10_drawn_179 : decode cX10_drawn 179 = .ok (.goto 9, 3) := by decide +kernel
theorem dX10_drawn_182 : decode cX10_drawn 182 = .ok (.iload 10, 2) := by decide +kernel
theorem dX10_drawn_184 : decode cX10_drawn 184 = .ok (.iload_n 3, 1) := by decide +kernel
theorem dX10_drawn_185 : decode cX10_drawn 185 = .ok (.ishr, 1) := by decide +kernel
theorem dX10_drawn_186 : decode cX10_drawn 186 = .ok (.iconst 1, 1) := by decide +kernel
theorem dX10_drawn_187 : decode cX10_drawn 187 = .ok (.iand, 1) := by decide +kernel
theorem dX10_drawn_188 : decode cX10_drawn 188 = .ok (.iadd, 1) := by decide +kernel
theorem dX10_drawn_189 : decode cX10_drawn 189 = .ok (.istore 5, 2) := by decide +kernel
theorem dX10_drawn_191 : decode cX10_drawn 191 = .ok (.aload_n 0, 1) := by decide +kernel
theorem dX10_drawn_192 : decode cX10_drawn 192 = .ok (.invokevirtual 251, 3) := by decide +kernel
theorem dX10_drawn_195 : decode cX10_drawn 195 = .ok (.iinc 7 1, 3) := by decide +kernel
theorem dX10_drawn_198 : decode cX10_drawn 198 = .ok (.goto (-124), 3) := by decide +kernel
theorem dX10_drawn_201 : decode cX10_drawn 201 = .ok (.aload_n 0, 1) := by decide +kernel
theorem dX10_drawn_202 : decode cX10_drawn 202 = .ok (.aload_n 0, 1) := by decide +kernel
theorem dX10_drawn_203 : decode cX10_drawn 203 = .ok (.getfield 91, 3) := by decide +kernel
theorem dX10_drawn_206 : decode cX10_drawn 206 = .ok (.invokevirtual 265, 3) := by decide +kernel
theorem dX10_drawn_209 : decode cX10_drawn 209 = .ok (.iinc 6 1, 3) := by decide +kernel
theorem dX10_drawn_212 : decode cX10_drawn 212 = .ok (.goto (-150), 3) := by decide +kernel
theorem dX10_drawn_215 : decode cX10_drawn 215 = .ok (.iload 5, 2) := by decide +kernel
theorem dX10_drawn_217 : decode cX10_drawn 217 = .ok (.ireturn, 1) := by decide +kernel
theorem dX10_month_0 : decode cX10_month 0 = .ok (.aload_n 0, 1) := by decide +kernel
theorem dX10_month_1 : decode cX10_month 1 = .ok (.invokevirtual 268, 3) := by decide +kernel
theorem dX10_month_4 : decode cX10_month 4 = .ok (.invokestatic 286, 3) := by decide +kernel
theorem dX10_month_7 : decode cX10_month 7 = .ok (.istore_n 1, 1) := by decide +kernel
theorem dX10_month_8 : decode cX10_month 8 = .ok (.aload_n 0, 1) := by decide +kernel
theorem dX10_month_9 : decode cX10_month 9 = .ok (.invokevirtual 251, 3) := by decide +kernel
theorem dX10_month_12 : decode cX10_month 12 = .ok (.aload_n 0, 1) := by decide +kernel
theorem dX10_month_13 : decode cX10_month 13 = .ok (.getfield 60, 3) := by decide +kernel
theorem dX10_month_16 : decode cX10_month 16 = .ok (.iconst 0, 1) := by decide +kernel
theorem dX10_month_17 : decode cX10_month 17 = .ok (.dup2, 1) := by decide +kernel
theorem dX10_month_18 : decode cX10_month 18 = .ok (.iaload, 1) := by decide +kernel
theorem dX10_month_19 : decode cX10_month 19 = .ok (.iconst 1, 1) := by decide +kernel
theorem dX10_month_20 : decode cX10_month 20 = .ok (.iadd, 1) := by decide +kernel
theorem dX10_month_21 : decode cX10_month 21 = .ok (.iastore, 1) := by decide +kernel
theorem dX10_month_22 : decode cX10_month 22 = .ok (.aload_n 0, 1) := by decide +kernel
theorem dX10_month_23 : decode cX10_month 23 = .ok (.getfield 60, 3) := by decide +kernel
theorem dX10_month_26 : decode cX10_month 26 = .ok (.iconst 4, 1) := by decide +kernel
theorem dX10_month_27 : decode cX10_month 27 = .ok (.dup2, 1) := by decide +kernel
theorem dX10_month_28 : decode cX10_month 28 = .ok (.iaload, 1) := by decide +kernel
theorem dX10_month_29 : decode cX10_month 29 = .ok (.iload_n 1, 1) := by decide +kernel
theorem dX10_month_30 : decode cX10_month 30 = .ok (.iadd, 1) := by decide +kernel
theorem dX10_month_31 : decode cX10_month 31 = .ok (.iastore, 1) := by decide +kernel
theorem dX10_month_32 : decode cX10_month 32 = .ok (.iload_n 1, 1) := by decide +kernel
theorem dX10_month_33 : decode cX10_month 33 = .ok (.ireturn, 1) := by decide +kernel
theorem dX10_pull_0 : decode cX10_pull 0 = .ok (.iload_n 1, 1) := by decide +kernel
theorem dX10_pull_1 : decode cX10_pull 1 = .ok (.iconst 0, 1) := by decide +kernel
theorem dX10_pull_2 : decode cX10_pull 2 = .ok (.bipush 9, 2) := by decide +kernel
theorem dX10_pull_4 : decode cX10_pull 4 = .ok (.invokestatic 103, 3) := by decide +kernel
theorem dX10_pull_7 : decode cX10_pull 7 = .ok (.ifCond .ne 5, 3) := by decide +kernel
theorem dX10_pull_10 : decode cX10_pull 10 = .ok (.iconst (-1), 1) := by decide +kernel
theorem dX10_pull_11 : decode cX10_pull 11 = .ok (.ireturn, 1) := by decide +kernel
theorem dX10_pull_12 : decode cX10_pull 12 = .ok (.aload_n 0, 1) := by decide +kernel
theorem dX10_pull_13 : decode cX10_pull 13 = .ok (.iload_n 1, 1) := by decide +kernel
theorem dX10_pull_14 : decode cX10_pull 14 = .ok (.invokevirtual 274, 3) := by decide +kernel
theorem dX10_pull_17 : decode cX10_pull 17 = .ok (.aload_n 0, 1) := by decide +kernel
theorem dX10_pull_18 : decode cX10_pull 18 = .ok (.getfield 60, 3) := by decide +kernel
theorem dX10_pull_21 : decode cX10_pull 21 = .ok (.iconst 1, 1) := by decide +kernel
theorem dX10_pull_22 : decode cX10_pull 22 = .ok (.dup2, 1) := by decide +kernel
theorem dX10_pull_23 : decode cX10_pull 23 = .ok (.iaload, 1) := by decide +kernel
theorem dX10_pull_24 : decode cX10_pull 24 = .ok (.iconst 1, 1) := by decide +kernel
theorem dX10_pull_25 : decode cX10_pull 25 = .ok (.iadd, 1) := by decide +kernel
theorem dX10_pull_26 : decode cX10_pull 26 = .ok (.iastore, 1) := by decide +kernel
theorem dX10_pull_27 : decode cX10_pull 27 = .ok (.aload_n 0, 1) := by decide +kernel
theorem dX10_pull_28 : decode cX10_pull 28 = .ok (.getfield 9, 3) := by decide +kernel
theorem dX10_pull_31 : decode cX10_pull 31 = .ok (.bipush 6, 2) := by decide +kernel
theorem dX10_pull_33 : decode cX10_pull 33 = .ok (.iload_n 1, 1) := by decide +kernel
theorem dX10_pull_34 : decode cX10_pull 34 = .ok (.iconst 2, 1) := by decide +kernel
theorem dX10_pull_35 : decode cX10_pull 35 = .ok (.idiv, 1) := by decide +kernel
theorem dX10_pull_36 : decode cX10_pull 36 = .ok (.imul, 1) := by decide +kernel
theorem dX10_pull_37 : decode cX10_pull 37 = .ok (.iaload, 1) := by decide +kernel
theorem dX10_pull_38 : decode cX10_pull 38 = .ok (.ireturn, 1) := by decide +kernel
theorem dX10_shake_0 : decode cX10_shake 0 = .ok (.iload_n 1, 1) := by decide +kernel
theorem dX10_shake_1 : decode cX10_shake 1 = .ok (.invokestatic 280, 3) := by decide +kernel
theorem dX10_shake_4 : decode cX10_shake 4 = .ok (.ifCond .ne 5, 3) := by decide +kernel
theorem dX10_shake_7 : decode cX10_shake 7 = .ok (.iconst (-1), 1) := by decide +kernel
theorem dX10_shake_8 : decode cX10_shake 8 = .ok (.ireturn, 1) := by decide +kernel
theorem dX10_shake_9 : decode cX10_shake 9 = .ok (.aload_n 0, 1) := by decide +kernel
theorem dX10_shake_10 : decode cX10_shake 10 = .ok (.iload_n 1, 1) := by decide +kernel
theorem dX10_shake_11 : decode cX10_shake 11 = .ok (.invokevirtual 283, 3) := by decide +kernel
theorem dX10_shake_14 : decode cX10_shake 14 = .ok (.aload_n 0, 1) := by decide +kernel
theorem dX10_shake_15 : decode cX10_shake 15 = .ok (.getfield 60, 3) := by decide +kernel
theorem dX10_shake_18 : decode cX10_shake 18 = .ok (.iconst 2, 1) := by decide +kernel
theorem dX10_shake_19 : decode cX10_shake 19 = .ok (.dup2, 1) := by decide +kernel
theorem dX10_shake_20 : decode cX10_shake 20 = .ok (.iaload, 1) := by decide +kernel
theorem dX10_shake_21 : decode cX10_shake 21 = .ok (.iconst 1, 1) := by decide +kernel
theorem dX10_shake_22 : decode cX10_shake 22 = .ok (.iadd, 1) := by decide +kernel
theorem dX10_shake_23 : decode cX10_shake 23 = .ok (.iastore, 1) := by decide +kernel
theorem dX10_shake_24 : decode cX10_shake 24 = .ok (.aload_n 0, 1) := by decide +kernel
theorem dX10_shake_25 : decode cX10_shake 25 = .ok (.getfield 15, 3) := by decide +kernel
theorem dX10_shake_28 : decode cX10_shake 28 = .ok (.iload_n 1, 1) := by decide +kernel
theorem dX10_shake_29 : decode cX10_shake 29 = .ok (.iaload, 1) := by decide +kernel
theorem dX10_shake_30 : decode cX10_shake 30 = .ok (.ireturn, 1) := by decide +kernel
theorem dX10_stuff_0 : decode cX10_stuff 0 = .ok (.iload_n 1, 1) := by decide +kernel
theorem dX10_stuff_1 : decode cX10_stuff 1 = .ok (.invokestatic 111, 3) := by decide +kernel
theorem dX10_stuff_4 : decode cX10_stuff 4 = .ok (.ifCond .eq 26, 3) := by decide +kernel
theorem dX10_stuff_7 : decode cX10_stuff 7 = .ok (.iload_n 2, 1) := by decide +kernel
theorem dX10_stuff_8 : decode cX10_stuff 8 = .ok (.ifCond .lt 22, 3) := by decide +kernel
theorem dX10_stuff_11 : decode cX10_stuff 11 = .ok (.iload_n 2, 1) := by decide +kernel
theorem dX10_stuff_12 : decode cX10_stuff 12 = .ok (.bipush 10, 2) := by decide +kernel
theorem dX10_stuff_14 : decode cX10_stuff 14 = .ok (.idiv, 1) := by decide +kernel
theorem dX10_stuff_15 : decode cX10_stuff 15 = .ok (.iconst 1, 1) := by decide +kernel
theorem dX10_stuff_16 : decode cX10_stuff 16 = .ok (.iconst 4, 1) := by decide +kernel
theorem dX10_stuff_17 : decode cX10_stuff 17 = .ok (.invokestatic 103, 3) := by decide +kernel
theorem dX10_stuff_20 : decode cX10_stuff 20 = .ok (.ifCond .eq 10, 3) := by decide +kernel
theorem dX10_stuff_23 : decode cX10_stuff 23 = .ok (.iload_n 2, 1) := by decide +kernel
theorem dX10_stuff_24 : decode cX10_stuff 24 = .ok (.bipush 10, 2) := by decide +kernel
theorem dX10_stuff_26 : decode cX10_stuff 26 = .ok (.irem, 1) := by decide +kernel
theorem dX10_stuff_27 : decode cX10_stuff 27 = .ok (.ifCond .ne 5, 3) := by decide +kernel
theorem dX10_stuff_30 : decode cX10_stuff 30 = .ok (.iconst (-1), 1) := by decide +kernel
theorem dX10_stuff_31 : decode cX10_stuff 31 = .ok (.ireturn, 1) := by decide +kernel
theorem dX10_stuff_32 : decode cX10_stuff 32 = .ok (.aload_n 0, 1) := by decide +kernel
theorem dX10_stuff_33 : decode cX10_stuff 33 = .ok (.getfield 9, 3) := by decide +kernel
theorem dX10_stuff_36 : decode cX10_stuff 36 = .ok (.iload_n 1, 1) := by decide +kernel
theorem dX10_stuff_37 : decode cX10_stuff 37 = .ok (.iaload, 1) := by decide +kernel
theorem dX10_stuff_38 : decode cX10_stuff 38 = .ok (.istore_n 3, 1) := by decide +kernel
theorem dX10_stuff_39 : decode cX10_stuff 39 = .ok (.aload_n 0, 1) := by decide +kernel
theorem dX10_stuff_40 : decode cX10_stuff 40 = .ok (.iload_n 1, 1) := by decide +kernel
theorem dX10_stuff_41 : decode cX10_stuff 41 = .ok (.iload_n 2, 1) := by decide +kernel
theorem dX10_stuff_42 : decode cX10_stuff 42 = .ok (.bipush 10, 2) := by decide +kernel
theorem dX10_stuff_44 : decode cX10_stuff 44 = .ok (.idiv, 1) := by decide +kernel
theorem dX10_stuff_45 : decode cX10_stuff 45 = .ok (.iload_n 2, 1) := by decide +kernel
theorem dX10_stuff_46 : decode cX10_stuff 46 = .ok (.bipush 10, 2) := by decide +kernel
theorem dX10_stuff_48 : decode cX10_stuff 48 = .ok (.irem, 1) := by decide +kernel
theorem dX10_stuff_49 : decode cX10_stuff 49 = .ok (.invokevirtual 291, 3) := by decide +kernel
theorem dX10_stuff_52 : decode cX10_stuff 52 = .ok (.aload_n 0, 1) := by decide +kernel
theorem dX10_stuff_53 : decode cX10_stuff 53 = .ok (.getfield 60, 3) := by decide +kernel
theorem dX10_stuff_56 : decode cX10_stuff 56 = .ok (.iconst 3, 1) := by decide +kernel
theorem dX10_stuff_57 : decode cX10_stuff 57 = .ok (.dup2, 1) := by decide +kernel
theorem dX10_stuff_58 : decode cX10_stuff 58 = .ok (.iaload, 1) := by decide +kernel
theorem dX10_stuff_59 : decode cX10_stuff 59 = .ok (.iconst 1, 1) := by decide +kernel
theorem dX10_stuff_60 : decode cX10_stuff 60 = .ok (.iadd, 1) := by decide +kernel
theorem dX10_stuff_61 : decode cX10_stuff 61 = .ok (.iastore, 1) := by decide +kernel
theorem dX10_stuff_62 : decode cX10_stuff 62 = .ok (.iload_n 3, 1) := by decide +kernel
theorem dX10_stuff_63 : decode cX10_stuff 63 = .ok (.ireturn, 1) := by decide +kernel
theorem dX10_led_0 : decode cX10_led 0 = .ok (.iload_n 1, 1) := by decide +kernel
theorem dX10_led_1 : decode cX10_led 1 = .ok (.iconst 0, 1) := by decide +kernel
theorem dX10_led_2 : decode cX10_led 2 = .ok (.iconst 4, 1) := by decide +kernel
theorem dX10_led_3 : decode cX10_led 3 = .ok (.invokestatic 103, 3) := by decide +kernel
theorem dX10_led_6 : decode cX10_led 6 = .ok (.ifCond .eq 12, 3) := by decide +kernel
theorem dX10_led_9 : decode cX10_led 9 = .ok (.aload_n 0, 1) := by decide +kernel
theorem dX10_led_10 : decode cX10_led 10 = .ok (.getfield 60, 3) := by decide +kernel
theorem dX10_led_13 : decode cX10_led 13 = .ok (.iload_n 1, 1) := by decide +kernel
theorem dX10_led_14 : decode cX10_led 14 = .ok (.iaload, 1) := by decide +kernel
theorem dX10_led_15 : decode cX10_led 15 = .ok (.goto 4, 3) := by decide +kernel
theorem dX10_led_18 : decode cX10_led 18 = .ok (.iconst (-1), 1) := by decide +kernel
theorem dX10_led_19 : decode cX10_led 19 = .ok (.ireturn, 1) := by decide +kernel
theorem dX10_image_0 : decode cX10_image 0 = .ok (.aload_n 0, 1) := by decide +kernel
theorem dX10_image_1 : decode cX10_image 1 = .ok (.iconst 1, 1) := by decide +kernel
theorem dX10_image_2 : decode cX10_image 2 = .ok (.putfield 313, 3) := by decide +kernel
theorem dX10_image_5 : decode cX10_image 5 = .ok (.aload_n 0, 1) := by decide +kernel
theorem dX10_image_6 : decode cX10_image 6 = .ok (.aload_n 0, 1) := by decide +kernel
theorem dX10_image_7 : decode cX10_image 7 = .ok (.getfield 63, 3) := by decide +kernel
theorem dX10_image_10 : decode cX10_image 10 = .ok (.invokevirtual 257, 3) := by decide +kernel
theorem dX10_image_13 : decode cX10_image 13 = .ok (.iconst 0, 1) := by decide +kernel
theorem dX10_image_14 : decode cX10_image 14 = .ok (.istore_n 1, 1) := by decide +kernel
theorem dX10_image_15 : decode cX10_image 15 = .ok (.iload_n 1, 1) := by decide +kernel
theorem dX10_image_16 : decode cX10_image 16 = .ok (.iconst 5, 1) := by decide +kernel
theorem dX10_image_17 : decode cX10_image 17 = .ok (.if_icmp .ge 21, 3) := by decide +kernel
theorem dX10_image_20 : decode cX10_image 20 = .ok (.aload_n 0, 1) := by decide +kernel
theorem dX10_image_21 : decode cX10_image 21 = .ok (.getfield 66, 3) := by decide +kernel
theorem dX10_image_24 : decode cX10_image 24 = .ok (.iload_n 1, 1) := by decide +kernel
theorem dX10_image_25 : decode cX10_image 25 = .ok (.aload_n 0, 1) := by decide +kernel
theorem dX10_image_26 : decode cX10_image 26 = .ok (.getfield 60, 3) := by decide +kernel
theorem dX10_image_29 : decode cX10_image 29 = .ok (.iload_n 1, 1) := by decide +kernel
theorem dX10_image_30 : decode cX10_image 30 = .ok (.iaload, 1) := by decide +kernel
theorem dX10_image_31 : decode cX10_image 31 = .ok (.iastore, 1) := by decide +kernel
theorem dX10_image_32 : decode cX10_image 32 = .ok (.iinc 1 1, 3) := by decide +kernel
theorem dX10_image_35 : decode cX10_image 35 = .ok (.goto (-20), 3) := by decide +kernel
theorem dX10_image_38 : decode cX10_image 38 = .ok (.aload_n 0, 1) := by decide +kernel
theorem dX10_image_39 : decode cX10_image 39 = .ok (.getfield 60, 3) := by decide +kernel
theorem dX10_image_42 : decode cX10_image 42 = .ok (.iconst 0, 1) := by decide +kernel
theorem dX10_image_43 : decode cX10_image 43 = .ok (.iaload, 1) := by decide +kernel
theorem dX10_image_44 : decode cX10_image 44 = .ok (.ireturn, 1) := by decide +kernel
theorem dX10_back_0 : decode cX10_back 0 = .ok (.aload_n 0, 1) := by decide +kernel
theorem dX10_back_1 : decode cX10_back 1 = .ok (.getfield 313, 3) := by decide +kernel
theorem dX10_back_4 : decode cX10_back 4 = .ok (.ifCond .ne 6, 3) := by decide +kernel
theorem dX10_back_7 : decode cX10_back 7 = .ok (.bipush (-5), 2) := by decide +kernel
theorem dX10_back_9 : decode cX10_back 9 = .ok (.ireturn, 1) := by decide +kernel
theorem dX10_back_10 : decode cX10_back 10 = .ok (.aload_n 0, 1) := by decide +kernel
theorem dX10_back_11 : decode cX10_back 11 = .ok (.aload_n 0, 1) := by decide +kernel
theorem dX10_back_12 : decode cX10_back 12 = .ok (.getfield 63, 3) := by decide +kernel
theorem dX10_back_15 : decode cX10_back 15 = .ok (.invokevirtual 265, 3) := by decide +kernel
theorem dX10_back_18 : decode cX10_back 18 = .ok (.iconst 0, 1) := by decide +kernel
theorem dX10_back_19 : decode cX10_back 19 = .ok (.istore_n 1, 1) := by decide +kernel
theorem dX10_back_20 : decode cX10_back 20 = .ok (.iload_n 1, 1) := by decide +kernel
theorem dX10_back_21 : decode cX10_back 21 = .ok (.iconst 5, 1) := by decide +kernel
theorem dX10_back_22 : decode cX10_back 22 = .ok (.if_icmp .ge 21, 3) := by decide +kernel
theorem dX10_back_25 : decode cX10_back 25 = .ok (.aload_n 0, 1) := by decide +kernel
theorem dX10_back_26 : decode cX10_back 26 = .ok (.getfield 60, 3) := by decide +kernel
theorem dX10_back_29 : decode cX10_back 29 = .ok (.iload_n 1, 1) := by decide +kernel
theorem dX10_back_30 : decode cX10_back 30 = .ok (.aload_n 0, 1) := by decide +kernel
theorem dX10_back_31 : decode cX10_back 31 = .ok (.getfield 66, 3) := by decide +kernel
theorem dX10_back_34 : decode cX10_back 34 = .ok (.iload_n 1, 1) := by decide +kernel
theorem dX10_back_35 : decode cX10_back 35 = .ok (.iaload, 1) := by decide +kernel
theorem dX10_back_36 : decode cX10_back 36 = .ok (.iastore, 1) := by decide +kernel
theorem dX10_back_37 : decode cX10_back 37 = .ok (.iinc 1 1, 3) := by decide +kernel
theorem dX10_back_40 : decode cX10_back 40 = .ok (.goto (-20), 3) := by decide +kernel
theorem dX10_back_43 : decode cX10_back 43 = .ok (.aload_n 0, 1) := by decide +kernel
theorem dX10_back_44 : decode cX10_back 44 = .ok (.getfield 60, 3) := by decide +kernel
theorem dX10_back_47 : decode cX10_back 47 = .ok (.iconst 0, 1) := by decide +kernel
theorem dX10_back_48 : decode cX10_back 48 = .ok (.iaload, 1) := by decide +kernel
theorem dX10_back_49 : decode cX10_back 49 = .ok (.ireturn, 1) := by decide +kernel
theorem dX10_above_0 : decode cX10_above 0 = .ok (.iload_n 0, 1) := by decide +kernel
theorem dX10_above_1 : decode cX10_above 1 = .ok (.tableswitch 43 3 7 #[35, 37, 39, 43, 41], 35) := by decide +kernel
theorem dX10_above_36 : decode cX10_above 36 = .ok (.iconst 2, 1) := by decide +kernel
theorem dX10_above_37 : decode cX10_above 37 = .ok (.ireturn, 1) := by decide +kernel
theorem dX10_above_38 : decode cX10_above 38 = .ok (.iconst 1, 1) := by decide +kernel
theorem dX10_above_39 : decode cX10_above 39 = .ok (.ireturn, 1) := by decide +kernel
theorem dX10_above_40 : decode cX10_above 40 = .ok (.iconst 3, 1) := by decide +kernel
theorem dX10_above_41 : decode cX10_above 41 = .ok (.ireturn, 1) := by decide +kernel
theorem dX10_above_42 : decode cX10_above 42 = .ok (.iconst 4, 1) := by decide +kernel
theorem dX10_above_43 : decode cX10_above 43 = .ok (.ireturn, 1) := by decide +kernel
theorem dX10_above_44 : decode cX10_above 44 = .ok (.iconst 0, 1) := by decide +kernel
theorem dX10_above_45 : decode cX10_above 45 = .ok (.ireturn, 1) := by decide +kernel
theorem dX10_ran_0 : decode cX10_ran 0 = .ok (.aload_n 0, 1) := by decide +kernel
theorem dX10_ran_1 : decode cX10_ran 1 = .ok (.getfield 316, 3) := by decide +kernel
theorem dX10_ran_4 : decode cX10_ran 4 = .ok (.bipush 24, 2) := by decide +kernel
theorem dX10_ran_6 : decode cX10_ran 6 = .ok (.if_icmp .ge 13, 3) := by decide +kernel
theorem dX10_ran_9 : decode cX10_ran 9 = .ok (.aload_n 0, 1) := by decide +kernel
theorem dX10_ran_10 : decode cX10_ran 10 = .ok (.getfield 75, 3) := by decide +kernel
theorem dX10_ran_13 : decode cX10_ran 13 = .ok (.aload_n 0, 1) := by decide +kernel
theorem dX10_ran_14 : decode cX10_ran 14 = .ok (.getfield 316, 3) := by decide +kernel
theorem dX10_ran_17 : decode cX10_ran 17 = .ok (.iload_n 1, 1) := by decide +kernel
theorem dX10_ran_18 : decode cX10_ran 18 = .ok (.iastore, 1) := by decide +kernel
theorem dX10_ran_19 : decode cX10_ran 19 = .ok (.aload_n 0, 1) := by decide +kernel
theorem dX10_ran_20 : decode cX10_ran 20 = .ok (.dup, 1) := by decide +kernel
theorem dX10_ran_21 : decode cX10_ran 21 = .ok (.getfield 316, 3) := by decide +kernel
theorem dX10_ran_24 : decode cX10_ran 24 = .ok (.iconst 1, 1) := by decide +kernel
theorem dX10_ran_25 : decode cX10_ran 25 = .ok (.iadd, 1) := by decide +kernel
theorem dX10_ran_26 : decode cX10_ran 26 = .ok (.putfield 316, 3) := by decide +kernel
theorem dX10_ran_29 : decode cX10_ran 29 = .ok (.return_, 1) := by decide +kernel
theorem dX10_warmsBy_0 : decode cX10_warmsBy 0 = .ok (.iload_n 2, 1) := by decide +kernel
theorem dX10_warmsBy_1 : decode cX10_warmsBy 1 = .ok (.lookupswitch 76 #[(0, 35), (1, 44), (6, 60)], 35) := by decide +kernel
theorem dX10_warmsBy_36 : decode cX10_warmsBy 36 = .ok (.aload_n 0, 1) := by decide +kernel
theorem dX10_warmsBy_37 : decode cX10_warmsBy 37 = .ok (.iconst 1, 1) := by decide +kernel
theorem dX10_warmsBy_38 : decode cX10_warmsBy 38 = .ok (.invokevirtual 319, 3) := by decide +kernel
theorem dX10_warmsBy_41 : decode cX10_warmsBy 41 = .ok (.iload_n 3, 1) := by decide +kernel
theorem dX10_warmsBy_42 : decode cX10_warmsBy 42 = .ok (.iload_n 1, 1) := by decide +kernel
theorem dX10_warmsBy_43 : decode cX10_warmsBy 43 = .ok (.iadd, 1) := by decide +kernel
theorem dX10_warmsBy_44 : decode cX10_warmsBy 44 = .ok (.ireturn, 1) := by decide +kernel
theorem dX10_warmsBy_45 : decode cX10_warmsBy 45 = .ok (.aload_n 0, 1) := by decide +kernel
theorem dX10_warmsBy_46 : decode cX10_warmsBy 46 = .ok (.bipush 20, 2) := by decide +kernel
theorem dX10_warmsBy_48 : decode cX10_warmsBy 48 = .ok (.invokevirtual 319, 3) := by decide +kernel
theorem dX10_warmsBy_51 : decode cX10_warmsBy 51 = .ok (.aload_n 0, 1) := by decide +kernel
theorem dX10_warmsBy_52 : decode cX10_warmsBy 52 = .ok (.iload_n 1, 1) := by decide +kernel
theorem dX10_warmsBy_53 : decode cX10_warmsBy 53 = .ok (.iconst 0, 1) := by decide +kernel
theorem dX10_warmsBy_54 : decode cX10_warmsBy 54 = .ok (.iload_n 3, 1) := by decide +kernel
theorem dX10_warmsBy_55 : decode cX10_warmsBy 55 = .ok (.invokevirtual 322, 3) := by decide +kernel
theorem dX10_warmsBy_58 : decode cX10_warmsBy 58 = .ok (.iconst 3, 1) := by decide +kernel
theorem dX10_warmsBy_59 : decode cX10_warmsBy 59 = .ok (.iadd, 1) := by decide +kernel
theorem dX10_warmsBy_60 : decode cX10_warmsBy 60 = .ok (.ireturn, 1) := by decide +kernel
theorem dX10_warmsBy_61 : decode cX10_warmsBy 61 = .ok (.aload_n 0, 1) := by decide +kernel
theorem dX10_warmsBy_62 : decode cX10_warmsBy 62 = .ok (.bipush 70, 2) := by decide +kernel
theorem dX10_warmsBy_64 : decode cX10_warmsBy 64 = .ok (.invokevirtual 319, 3) := by decide +kernel
theorem dX10_warmsBy_67 : decode cX10_warmsBy 67 = .ok (.aload_n 0, 1) := by decide +kernel
theorem dX10_warmsBy_68 : decode cX10_warmsBy 68 = .ok (.iload_n 1, 1) := by decide +kernel
theorem dX10_warmsBy_69 : decode cX10_warmsBy 69 = .ok (.iconst 0, 1) := by decide +kernel
theorem dX10_warmsBy_70 : decode cX10_warmsBy 70 = .ok (.iload_n 3, 1) := by decide +kernel
theorem dX10_warmsBy_71 : decode cX10_warmsBy 71 = .ok (.invokevirtual 322, 3) := by decide +kernel
theorem dX10_warmsBy_74 : decode cX10_warmsBy 74 = .ok (.iconst 2, 1) := by decide +kernel
theorem dX10_warmsBy_75 : decode cX10_warmsBy 75 = .ok (.imul, 1) := by decide +kernel
theorem dX10_warmsBy_76 : decode cX10_warmsBy 76 = .ok (.ireturn, 1) := by decide +kernel
theorem dX10_warmsBy_77 : decode cX10_warmsBy 77 = .ok (.aload_n 0, 1) := by decide +kernel
theorem dX10_warmsBy_78 : decode cX10_warmsBy 78 = .ok (.iload_n 1, 1) := by decide +kernel
theorem dX10_warmsBy_79 : decode cX10_warmsBy 79 = .ok (.iload_n 2, 1) := by decide +kernel
theorem dX10_warmsBy_80 : decode cX10_warmsBy 80 = .ok (.invokestatic 325, 3) := by decide +kernel
theorem dX10_warmsBy_83 : decode cX10_warmsBy 83 = .ok (.iload_n 3, 1) := by decide +kernel
theorem dX10_warmsBy_84 : decode cX10_warmsBy 84 = .ok (.invokevirtual 322, 3) := by decide +kernel
theorem dX10_warmsBy_87 : decode cX10_warmsBy 87 = .ok (.ireturn, 1) := by decide +kernel
theorem dX10_slipsBy_0 : decode cX10_slipsBy 0 = .ok (.iload_n 2, 1) := by decide +kernel
theorem dX10_slipsBy_1 : decode cX10_slipsBy 1 = .ok (.tableswitch 130 0 7 #[47, 130, 68, 83, 130, 130, 130, 99], 47) := by decide +kernel
theorem dX10_slipsBy_48 : decode cX10_slipsBy 48 = .ok (.aload_n 0, 1) := by decide +kernel
theorem dX10_slipsBy_49 : decode cX10_slipsBy 49 = .ok (.bipush 10, 2) := by decide +kernel
theorem dX10_slipsBy_51 : decode cX10_slipsBy 51 = .ok (.invokevirtual 319, 3) := by decide +kernel
theorem dX10_slipsBy_54 : decode cX10_slipsBy 54 = .ok (.aload_n 0, 1) := by decide +kernel
theorem dX10_slipsBy_55 : decode cX10_slipsBy 55 = .ok (.iload_n 1, 1) := by decide +kernel
theorem dX10_slipsBy_56 : decode cX10_slipsBy 56 = .ok (.aload_n 0, 1) := by decide +kernel
theorem dX10_slipsBy_57 : decode cX10_slipsBy 57 = .ok (.getfield 72, 3) := by decide +kernel
theorem dX10_slipsBy_60 : decode cX10_slipsBy 60 = .ok (.iload_n 1, 1) := by decide +kernel
theorem dX10_slipsBy_61 : decode cX10_slipsBy 61 = .ok (.iaload, 1) := by decide +kernel
theorem dX10_slipsBy_62 : decode cX10_slipsBy 62 = .ok (.iload_n 3, 1) := by decide +kernel
theorem dX10_slipsBy_63 : decode cX10_slipsBy 63 = .ok (.invokevirtual 322, 3) := by decide +kernel
theorem dX10_slipsBy_66 : decode cX10_slipsBy 66 = .ok (.iconst 2, 1) := by decide +kernel
theorem dX10_slipsBy_67 : decode cX10_slipsBy 67 = .ok (.imul, 1) := by decide +kernel
theorem dX10_slipsBy_68 : decode cX10_slipsBy 68 = .ok (.ireturn, 1) := by decide +kernel
theorem dX10_slipsBy_69 : decode cX10_slipsBy 69 = .ok (.aload_n 0, 1) := by decide +kernel
theorem dX10_slipsBy_70 : decode cX10_slipsBy 70 = .ok (.bipush 30, 2) := by decide +kernel
theorem dX10_slipsBy_72 : decode cX10_slipsBy 72 = .ok (.invokevirtual 319, 3) := by decide +kernel
theorem dX10_slipsBy_75 : decode cX10_slipsBy 75 = .ok (.aload_n 0, 1) := by decide +kernel
theorem dX10_slipsBy_76 : decode cX10_slipsBy 76 = .ok (.iload_n 1, 1) := by decide +kernel
theorem dX10_slipsBy_77 : decode cX10_slipsBy 77 = .ok (.iconst 0, 1) := by decide +kernel
theorem dX10_slipsBy_78 : decode cX10_slipsBy 78 = .ok (.iload_n 3, 1) := by decide +kernel
theorem dX10_slipsBy_79 : decode cX10_slipsBy 79 = .ok (.invokevirtual 328, 3) := by decide +kernel
theorem dX10_slipsBy_82 : decode cX10_slipsBy 82 = .ok (.ineg, 1) := by decide +kernel
theorem dX10_slipsBy_83 : decode cX10_slipsBy 83 = .ok (.ireturn, 1) := by decide +kernel
theorem dX10_slipsBy_84 : decode cX10_slipsBy 84 = .ok (.aload_n 0, 1) := by decide +kernel
theorem dX10_slipsBy_85 : decode cX10_slipsBy 85 = .ok (.bipush 41, 2) := by decide +kernel
theorem dX10_slipsBy_87 : decode cX10_slipsBy 87 = .ok (.invokevirtual 319, 3) := by decide +kernel
theorem dX10_slipsBy_90 : decode cX10_slipsBy 90 = .ok (.aload_n 0, 1) := by decide +kernel
theorem dX10_slipsBy_91 : decode cX10_slipsBy 91 = .ok (.iload_n 1, 1) := by decide +kernel
theorem dX10_slipsBy_92 : decode cX10_slipsBy 92 = .ok (.iconst 2, 1) := by decide +kernel
theorem dX10_slipsBy_93 : decode cX10_slipsBy 93 = .ok (.iload_n 3, 1) := by decide +kernel
theorem dX10_slipsBy_94 : decode cX10_slipsBy 94 = .ok (.iconst 1, 1) := by decide +kernel
theorem dX10_slipsBy_95 : decode cX10_slipsBy 95 = .ok (.iadd, 1) := by decide +kernel
theorem dX10_slipsBy_96 : decode cX10_slipsBy 96 = .ok (.invokevirtual 328, 3) := by decide +kernel
theorem dX10_slipsBy_99 : decode cX10_slipsBy 99 = .ok (.ireturn, 1) := by decide +kernel
theorem dX10_slipsBy_100 : decode cX10_slipsBy 100 = .ok (.aload_n 0, 1) := by decide +kernel
theorem dX10_slipsBy_101 : decode cX10_slipsBy 101 = .ok (.bipush 80, 2) := by decide +kernel
theorem dX10_slipsBy_103 : decode cX10_slipsBy 103 = .ok (.invokevirtual 319, 3) := by decide +kernel
theorem dX10_slipsBy_106 : decode cX10_slipsBy 106 = .ok (.aload_n 0, 1) := by decide +kernel
theorem dX10_slipsBy_107 : decode cX10_slipsBy 107 = .ok (.iload_n 1, 1) := by decide +kernel
theorem dX10_slipsBy_108 : decode cX10_slipsBy 108 = .ok (.iconst 4, 1) := by decide +kernel
theorem dX10_slipsBy_109 : decode cX10_slipsBy 109 = .ok (.iload_n 3, 1) := by decide +kernel
theorem dX10_slipsBy_110 : decode cX10_slipsBy 110 = .ok (.invokevirtual 328, 3) := by decide +kernel
theorem dX10_slipsBy_113 : decode cX10_slipsBy 113 = .ok (.istore 4, 2) := by decide +kernel
theorem dX10_slipsBy_115 : decode cX10_slipsBy 115 = .ok (.iload 4, 2) := by decide +kernel
theorem dX10_slipsBy_117 : decode cX10_slipsBy 117 = .ok (.aload_n 0, 1) := by decide +kernel
theorem dX10_slipsBy_118 : decode cX10_slipsBy 118 = .ok (.iload_n 1, 1) := by decide +kernel
theorem dX10_slipsBy_119 : decode cX10_slipsBy 119 = .ok (.aload_n 0, 1) := by decide +kernel
theorem dX10_slipsBy_120 : decode cX10_slipsBy 120 = .ok (.getfield 72, 3) := by decide +kernel
theorem dX10_slipsBy_123 : decode cX10_slipsBy 123 = .ok (.iload_n 1, 1) := by decide +kernel
theorem dX10_slipsBy_124 : decode cX10_slipsBy 124 = .ok (.iaload, 1) := by decide +kernel
theorem dX10_slipsBy_125 : decode cX10_slipsBy 125 = .ok (.iconst 2, 1) := by decide +kernel
theorem dX10_slipsBy_126 : decode cX10_slipsBy 126 = .ok (.invokevirtual 331, 3) := by decide +kernel
theorem dX10_slipsBy_129 : decode cX10_slipsBy 129 = .ok (.iadd, 1) := by decide +kernel
theorem dX10_slipsBy_130 : decode cX10_slipsBy 130 = .ok (.ireturn, 1) := by decide +kernel
theorem dX10_slipsBy_131 : decode cX10_slipsBy 131 = .ok (.aload_n 0, 1) := by decide +kernel
theorem dX10_slipsBy_132 : decode cX10_slipsBy 132 = .ok (.iload_n 1, 1) := by decide +kernel
theorem dX10_slipsBy_133 : decode cX10_slipsBy 133 = .ok (.iload_n 2, 1) := by decide +kernel
theorem dX10_slipsBy_134 : decode cX10_slipsBy 134 = .ok (.invokestatic 325, 3) := by decide +kernel
theorem dX10_slipsBy_137 : decode cX10_slipsBy 137 = .ok (.iload_n 3, 1) := by decide +kernel
theorem dX10_slipsBy_138 : decode cX10_slipsBy 138 = .ok (.invokevirtual 328, 3) := by decide +kernel
theorem dX10_slipsBy_141 : decode cX10_slipsBy 141 = .ok (.ireturn, 1) := by decide +kernel
theorem dX10_airsBy_0 : decode cX10_airsBy 0 = .ok (.iload_n 2, 1) := by decide +kernel
theorem dX10_airsBy_1 : decode cX10_airsBy 1 = .ok (.tableswitch 92 0 4 #[35, 92, 92, 45, 61], 35) := by decide +kernel
theorem dX10_airsBy_36 : decode cX10_airsBy 36 = .ok (.aload_n 0, 1) := by decide +kernel
theorem dX10_airsBy_37 : decode cX10_airsBy 37 = .ok (.bipush 11, 2) := by decide +kernel
theorem dX10_airsBy_39 : decode cX10_airsBy 39 = .ok (.invokevirtual 319, 3) := by decide +kernel
theorem dX10_airsBy_42 : decode cX10_airsBy 42 = .ok (.iload_n 3, 1) := by decide +kernel
theorem dX10_airsBy_43 : decode cX10_airsBy 43 = .ok (.iload_n 1, 1) := by decide +kernel
theorem dX10_airsBy_44 : decode cX10_airsBy 44 = .ok (.ixor, 1) := by decide +kernel
theorem dX10_airsBy_45 : decode cX10_airsBy 45 = .ok (.ireturn, 1) := by decide +kernel
theorem dX10_airsBy_46 : decode cX10_airsBy 46 = .ok (.aload_n 0, 1) := by decide +kernel
theorem dX10_airsBy_47 : decode cX10_airsBy 47 = .ok (.bipush 40, 2) := by decide +kernel
theorem dX10_airsBy_49 : decode cX10_airsBy 49 = .ok (.invokevirtual 319, 3) := by decide +kernel
theorem dX10_airsBy_52 : decode cX10_airsBy 52 = .ok (.aload_n 0, 1) := by decide +kernel
theorem dX10_airsBy_53 : decode cX10_airsBy 53 = .ok (.iload_n 1, 1) := by decide +kernel
theorem dX10_airsBy_54 : decode cX10_airsBy 54 = .ok (.iconst 2, 1) := by decide +kernel
theorem dX10_airsBy_55 : decode cX10_airsBy 55 = .ok (.iload_n 3, 1) := by decide +kernel
theorem dX10_airsBy_56 : decode cX10_airsBy 56 = .ok (.invokevirtual 331, 3) := by decide +kernel
theorem dX10_airsBy_59 : decode cX10_airsBy 59 = .ok (.iconst 3, 1) := by decide +kernel
theorem dX10_airsBy_60 : decode cX10_airsBy 60 = .ok (.imul, 1) := by decide +kernel
theorem dX10_airsBy_61 : decode cX10_airsBy 61 = .ok (.ireturn, 1) := by decide +kernel
theorem dX10_airsBy_62 : decode cX10_airsBy 62 = .ok (.aload_n 0, 1) := by decide +kernel
theorem dX10_airsBy_63 : decode cX10_airsBy 63 = .ok (.bipush 50, 2) := by decide +kernel
theorem dX10_airsBy_65 : decode cX10_airsBy 65 = .ok (.invokevirtual 319, 3) := by decide +kernel
theorem dX10_airsBy_68 : decode cX10_airsBy 68 = .ok (.aload_n 0, 1) := by decide +kernel
theorem dX10_airsBy_69 : decode cX10_airsBy 69 = .ok (.iload_n 1, 1) := by decide +kernel
theorem dX10_airsBy_70 : decode cX10_airsBy 70 = .ok (.iconst 1, 1) := by decide +kernel
theorem dX10_airsBy_71 : decode cX10_airsBy 71 = .ok (.iload_n 3, 1) := by decide +kernel
theorem dX10_airsBy_72 : decode cX10_airsBy 72 = .ok (.invokevirtual 331, 3) := by decide +kernel
theorem dX10_airsBy_75 : decode cX10_airsBy 75 = .ok (.istore 4, 2) := by decide +kernel
theorem dX10_airsBy_77 : decode cX10_airsBy 77 = .ok (.iload 4, 2) := by decide +kernel
theorem dX10_airsBy_79 : decode cX10_airsBy 79 = .ok (.aload_n 0, 1) := by decide +kernel
theorem dX10_airsBy_80 : decode cX10_airsBy 80 = .ok (.iload_n 1, 1) := by decide +kernel
theorem dX10_airsBy_81 : decode cX10_airsBy 81 = .ok (.aload_n 0, 1) := by decide +kernel
theorem dX10_airsBy_82 : decode cX10_airsBy 82 = .ok (.getfield 72, 3) := by decide +kernel
theorem dX10_airsBy_85 : decode cX10_airsBy 85 = .ok (.iload_n 1, 1) := by decide +kernel
theorem dX10_airsBy_86 : decode cX10_airsBy 86 = .ok (.iaload, 1) := by decide +kernel
theorem dX10_airsBy_87 : decode cX10_airsBy 87 = .ok (.iconst 2, 1) := by decide +kernel
theorem dX10_airsBy_88 : decode cX10_airsBy 88 = .ok (.invokevirtual 322, 3) := by decide +kernel
theorem dX10_airsBy_91 : decode cX10_airsBy 91 = .ok (.isub, 1) := by decide +kernel
theorem dX10_airsBy_92 : decode cX10_airsBy 92 = .ok (.ireturn, 1) := by decide +kernel
theorem dX10_airsBy_93 : decode cX10_airsBy 93 = .ok (.aload_n 0, 1) := by decide +kernel
theorem dX10_airsBy_94 : decode cX10_airsBy 94 = .ok (.iload_n 1, 1) := by decide +kernel
theorem dX10_airsBy_95 : decode cX10_airsBy 95 = .ok (.iload_n 2, 1) := by decide +kernel
theorem dX10_airsBy_96 : decode cX10_airsBy 96 = .ok (.invokestatic 325, 3) := by decide +kernel
theorem dX10_airsBy_99 : decode cX10_airsBy 99 = .ok (.iload_n 3, 1) := by decide +kernel
theorem dX10_airsBy_100 : decode cX10_airsBy 100 = .ok (.invokevirtual 331, 3) := by decide +kernel
theorem dX10_airsBy_103 : decode cX10_airsBy 103 = .ok (.ireturn, 1) := by decide +kernel
theorem dX10_tells_0 : decode cX10_tells 0 = .ok (.iload_n 2, 1) := by decide +kernel
theorem dX10_tells_1 : decode cX10_tells 1 = .ok (.lookupswitch 102 #[(0, 35), (5, 70), (7, 86)], 35) := by decide +kernel
theorem dX10_tells_36 : decode cX10_tells 36 = .ok (.aload_n 0, 1) := by decide +kernel
theorem dX10_tells_37 : decode cX10_tells 37 = .ok (.iconst 2, 1) := by decide +kernel
theorem dX10_tells_38 : decode cX10_tells 38 = .ok (.invokevirtual 319, 3) := by decide +kernel
theorem dX10_tells_41 : decode cX10_tells 41 = .ok (.aload_n 0, 1) := by decide +kernel
theorem dX10_tells_42 : decode cX10_tells 42 = .ok (.iload_n 1, 1) := by decide +kernel
theorem dX10_tells_43 : decode cX10_tells 43 = .ok (.aload_n 0, 1) := by decide +kernel
theorem dX10_tells_44 : decode cX10_tells 44 = .ok (.getfield 72, 3) := by decide +kernel
theorem dX10_tells_47 : decode cX10_tells 47 = .ok (.iload_n 1, 1) := by decide +kernel
theorem dX10_tells_48 : decode cX10_tells 48 = .ok (.iaload, 1) := by decide +kernel
theorem dX10_tells_49 : decode cX10_tells 49 = .ok (.iload_n 3, 1) := by decide +kernel
theorem dX10_tells_50 : decode cX10_tells 50 = .ok (.invokevirtual 328, 3) := by decide +kernel
theorem dX10_tells_53 : decode cX10_tells 53 = .ok (.istore 4, 2) := by decide +kernel
theorem dX10_tells_55 : decode cX10_tells 55 = .ok (.iload 4, 2) := by decide +kernel
theorem dX10_tells_57 : decode cX10_tells 57 = .ok (.aload_n 0, 1) := by decide +kernel
theorem dX10_tells_58 : decode cX10_tells 58 = .ok (.iload_n 1, 1) := by decide +kernel
theorem dX10_tells_59 : decode cX10_tells 59 = .ok (.aload_n 0, 1) := by decide +kernel
theorem dX10_tells_60 : decode cX10_tells 60 = .ok (.getfield 72, 3) := by decide +kernel
theorem dX10_tells_63 : decode cX10_tells 63 = .ok (.iload_n 1, 1) := by decide +kernel
theorem dX10_tells_64 : decode cX10_tells 64 = .ok (.iaload, 1) := by decide +kernel
theorem dX10_tells_65 : decode cX10_tells 65 = .ok (.iconst 1, 1) := by decide +kernel
theorem dX10_tells_66 : decode cX10_tells 66 = .ok (.invokevirtual 331, 3) := by decide +kernel
theorem dX10_tells_69 : decode cX10_tells 69 = .ok (.isub, 1) := by decide +kernel
theorem dX10_tells_70 : decode cX10_tells 70 = .ok (.ireturn, 1) := by decide +kernel
theorem dX10_tells_71 : decode cX10_tells 71 = .ok (.aload_n 0, 1) := by decide +kernel
theorem dX10_tells_72 : decode cX10_tells 72 = .ok (.bipush 60, 2) := by decide +kernel
theorem dX10_tells_74 : decode cX10_tells 74 = .ok (.invokevirtual 319, 3) := by decide +kernel
theorem dX10_tells_77 : decode cX10_tells 77 = .ok (.aload_n 0, 1) := by decide +kernel
theorem dX10_tells_78 : decode cX10_tells 78 = .ok (.iload_n 1, 1) := by decide +kernel
theorem dX10_tells_79 : decode cX10_tells 79 = .ok (.iconst 3, 1) := by decide +kernel
theorem dX10_tells_80 : decode cX10_tells 80 = .ok (.iload_n 3, 1) := by decide +kernel
theorem dX10_tells_81 : decode cX10_tells 81 = .ok (.invokevirtual 334, 3) := by decide +kernel
theorem dX10_tells_84 : decode cX10_tells 84 = .ok (.iconst 5, 1) := by decide +kernel
theorem dX10_tells_85 : decode cX10_tells 85 = .ok (.ixor, 1) := by decide +kernel
theorem dX10_tells_86 : decode cX10_tells 86 = .ok (.ireturn, 1) := by decide +kernel
theorem dX10_tells_87 : decode cX10_tells 87 = .ok (.aload_n 0, 1) := by decide +kernel
theorem dX10_tells_88 : decode cX10_tells 88 = .ok (.bipush 81, 2) := by decide +kernel
theorem dX10_tells_90 : decode cX10_tells 90 = .ok (.invokevirtual 319, 3) := by decide +kernel
theorem dX10_tells_93 : decode cX10_tells 93 = .ok (.aload_n 0, 1) := by decide +kernel
theorem dX10_tells_94 : decode cX10_tells 94 = .ok (.iload_n 1, 1) := by decide +kernel
theorem dX10_tells_95 : decode cX10_tells 95 = .ok (.iconst 4, 1) := by decide +kernel
theorem dX10_tells_96 : decode cX10_tells 96 = .ok (.iload_n 3, 1) := by decide +kernel
theorem dX10_tells_97 : decode cX10_tells 97 = .ok (.invokevirtual 334, 3) := by decide +kernel
theorem dX10_tells_100 : decode cX10_tells 100 = .ok (.iconst 1, 1) := by decide +kernel
theorem dX10_tells_101 : decode cX10_tells 101 = .ok (.isub, 1) := by decide +kernel
theorem dX10_tells_102 : decode cX10_tells 102 = .ok (.ireturn, 1) := by decide +kernel
theorem dX10_tells_103 : decode cX10_tells 103 = .ok (.aload_n 0, 1) := by decide +kernel
theorem dX10_tells_104 : decode cX10_tells 104 = .ok (.iload_n 1, 1) := by decide +kernel
theorem dX10_tells_105 : decode cX10_tells 105 = .ok (.iload_n 2, 1) := by decide +kernel
theorem dX10_tells_106 : decode cX10_tells 106 = .ok (.invokestatic 325, 3) := by decide +kernel
theorem dX10_tells_109 : decode cX10_tells 109 = .ok (.iload_n 3, 1) := by decide +kernel
theorem dX10_tells_110 : decode cX10_tells 110 = .ok (.invokevirtual 334, 3) := by decide +kernel
theorem dX10_tells_113 : decode cX10_tells 113 = .ok (.ireturn, 1) := by decide +kernel
theorem dX10_body_0 : decode cX10_body 0 = .ok (.iload_n 1, 1) := by decide +kernel
theorem dX10_body_1 : decode cX10_body 1 = .ok (.iconst 0, 1) := by decide +kernel
theorem dX10_body_2 : decode cX10_body 2 = .ok (.bipush 7, 2) := by decide +kernel
theorem dX10_body_4 : decode cX10_body 4 = .ok (.invokestatic 103, 3) := by decide +kernel
theorem dX10_body_7 : decode cX10_body 7 = .ok (.ifCond .ne 5, 3) := by decide +kernel
theorem dX10_body_10 : decode cX10_body 10 = .ok (.iconst (-1), 1) := by decide +kernel
theorem dX10_body_11 : decode cX10_body 11 = .ok (.ireturn, 1) := by decide +kernel
theorem dX10_body_12 : decode cX10_body 12 = .ok (.aload_n 0, 1) := by decide +kernel
theorem dX10_body_13 : decode cX10_body 13 = .ok (.getfield 337, 3) := by decide +kernel
theorem dX10_body_16 : decode cX10_body 16 = .ok (.bipush 50, 2) := by decide +kernel
theorem dX10_body_18 : decode cX10_body 18 = .ok (.if_icmp .ne 6, 3) := by decide +kernel
theorem dX10_body_21 : decode cX10_body 21 = .ok (.bipush (-3), 2) := by decide +kernel
theorem dX10_body_23 : decode cX10_body 23 = .ok (.ireturn, 1) := by decide +kernel
theorem dX10_body_24 : decode cX10_body 24 = .ok (.aload_n 0, 1) := by decide +kernel
theorem dX10_body_25 : decode cX10_body 25 = .ok (.getfield 72, 3) := by decide +kernel
theorem dX10_body_28 : decode cX10_body 28 = .ok (.aload_n 0, 1) := by decide +kernel
theorem dX10_body_29 : decode cX10_body 29 = .ok (.getfield 337, 3) := by decide +kernel
theorem dX10_body_32 : decode cX10_body 32 = .ok (.iload_n 1, 1) := by decide +kernel
theorem dX10_body_33 : decode cX10_body 33 = .ok (.iastore, 1) := by decide +kernel
theorem dX10_body_34 : decode cX10_body 34 = .ok (.aload_n 0, 1) := by decide +kernel
theorem dX10_body_35 : decode cX10_body 35 = .ok (.dup, 1) := by decide +kernel
theorem dX10_body_36 : decode cX10_body 36 = .ok (.getfield 337, 3) := by decide +kernel
theorem dX10_body_39 : decode cX10_body 39 = .ok (.dup_x1, 1) := by decide +kernel
theorem dX10_body_40 : decode cX10_body 40 = .ok (.iconst 1, 1) := by decide +kernel
theorem dX10_body_41 : decode cX10_body 41 = .ok (.iadd, 1) := by decide +kernel
theorem dX10_body_42 : decode cX10_body 42 = .ok (.putfield 337, 3) := by decide +kernel
theorem dX10_body_45 : decode cX10_body 45 = .ok (.ireturn, 1) := by decide +kernel
theorem dX10_act_0 : decode cX10_act 0 = .ok (.aload_n 0, 1) := by decide +kernel
theorem dX10_act_1 : decode cX10_act 1 = .ok (.iconst 0, 1) := by decide +kernel
theorem dX10_act_2 : decode cX10_act 2 = .ok (.putfield 316, 3) := by decide +kernel
theorem dX10_act_5 : decode cX10_act 5 = .ok (.iload_n 1, 1) := by decide +kernel
theorem dX10_act_6 : decode cX10_act 6 = .ok (.iconst 0, 1) := by decide +kernel
theorem dX10_act_7 : decode cX10_act 7 = .ok (.aload_n 0, 1) := by decide +kernel
theorem dX10_act_8 : decode cX10_act 8 = .ok (.getfield 337, 3) := by decide +kernel
theorem dX10_act_11 : decode cX10_act 11 = .ok (.iconst 1, 1) := by decide +kernel
theorem dX10_act_12 : decode cX10_act 12 = .ok (.isub, 1) := by decide +kernel
theorem dX10_act_13 : decode cX10_act 13 = .ok (.invokestatic 103, 3) := by decide +kernel
theorem dX10_act_16 : decode cX10_act 16 = .ok (.ifCond .eq 12, 3) := by decide +kernel
theorem dX10_act_19 : decode cX10_act 19 = .ok (.iload_n 2, 1) := by decide +kernel
theorem dX10_act_20 : decode cX10_act 20 = .ok (.iconst 0, 1) := by decide +kernel
theorem dX10_act_21 : decode cX10_act 21 = .ok (.iconst 3, 1) := by decide +kernel
theorem dX10_act_22 : decode cX10_act 22 = .ok (.invokestatic 103, 3) := by decide +kernel
theorem dX10_act_25 : decode cX10_act 25 = .ok (.ifCond .ne 5, 3) := by decide +kernel
theorem dX10_act_28 : decode cX10_act 28 = .ok (.iconst 0, 1) := by decide +kernel
theorem dX10_act_29 : decode cX10_act 29 = .ok (.ireturn, 1) := by decide +kernel
theorem dX10_act_30 : decode cX10_act 30 = .ok (.aload_n 0, 1) := by decide +kernel
theorem dX10_act_31 : decode cX10_act 31 = .ok (.getfield 72, 3) := by decide +kernel
theorem dX10_act_34 : decode cX10_act 34 = .ok (.iload_n 1, 1) := by decide +kernel
theorem dX10_act_35 : decode cX10_act 35 = .ok (.iaload, 1) := by decide +kernel
theorem dX10_act_36 : decode cX10_act 36 = .ok (.istore 4, 2) := by decide +kernel
theorem dX10_act_38 : decode cX10_act 38 = .ok (.iload_n 2, 1) := by decide +kernel
theorem dX10_act_39 : decode cX10_act 39 = .ok (.ifCond .ne 14, 3) := by decide +kernel
theorem dX10_act_42 : decode cX10_act 42 = .ok (.aload_n 0, 1) := by decide +kernel
theorem dX10_act_43 : decode cX10_act 43 = .ok (.iload_n 1, 1) := by decide +kernel
theorem dX10_act_44 : decode cX10_act 44 = .ok (.iload 4, 2) := by decide +kernel
theorem dX10_act_46 : decode cX10_act 46 = .ok (.iload_n 3, 1) := by decide +kernel
theorem dX10_act_47 : decode cX10_act 47 = .ok (.invokevirtual 322, 3) := by decide +kernel
theorem dX10_act_50 : decode cX10_act 50 = .ok (.goto 43, 3) := by decide +kernel
theorem dX10_act_53 : decode cX10_act 53 = .ok (.iload_n 2, 1) := by decide +kernel
theorem dX10_act_54 : decode cX10_act 54 = .ok (.iconst 1, 1) := by decide +kernel
theorem dX10_act_55 : decode cX10_act 55 = .ok (.if_icmp .ne 14, 3) := by decide +kernel
theorem dX10_act_58 : decode cX10_act 58 = .ok (.aload_n 0, 1) := by decide +kernel
theorem dX10_act_59 : decode cX10_act 59 = .ok (.iload_n 1, 1) := by decide +kernel
theorem dX10_act_60 : decode cX10_act 60 = .ok (.iload 4, 2) := by decide +kernel
theorem dX10_act_62 : decode cX10_act 62 = .ok (.iload_n 3, 1) := by decide +kernel
theorem dX10_act_63 : decode cX10_act 63 = .ok (.invokevirtual 328, 3) := by decide +kernel
theorem dX10_act_66 : decode cX10_act 66 = .ok (.goto 27, 3) := by decide +kernel
theorem dX10_act_69 : decode cX10_act 69 = .ok (.iload_n 2, 1) := by decide +kernel
theorem dX10_act_70 : decode cX10_act 70 = .ok (.iconst 2, 1) := by decide +kernel
theorem dX10_act_71 : decode cX10_act 71 = .ok (.if_icmp .ne 14, 3) := by decide +kernel
theorem dX10_act_74 : decode cX10_act 74 = .ok (.aload_n 0, 1) := by decide +kernel
theorem dX10_act_75 : decode cX10_act 75 = .ok (.iload_n 1, 1) := by decide +kernel
theorem dX10_act_76 : decode cX10_act 76 = .ok (.iload 4, 2) := by decide +kernel
theorem dX10_act_78 : decode cX10_act 78 = .ok (.iload_n 3, 1) := by decide +kernel
theorem dX10_act_79 : decode cX10_act 79 = .ok (.invokevirtual 331, 3) := by decide +kernel
theorem dX10_act_82 : decode cX10_act 82 = .ok (.goto 11, 3) := by decide +kernel
theorem dX10_act_85 : decode cX10_act 85 = .ok (.aload_n 0, 1) := by decide +kernel
theorem dX10_act_86 : decode cX10_act 86 = .ok (.iload_n 1, 1) := by decide +kernel
theorem dX10_act_87 : decode cX10_act 87 = .ok (.iload 4, 2) := by decide +kernel
theorem dX10_act_89 : decode cX10_act 89 = .ok (.iload_n 3, 1) := by decide +kernel
theorem dX10_act_90 : decode cX10_act 90 = .ok (.invokevirtual 334, 3) := by decide +kernel
theorem dX10_act_93 : decode cX10_act 93 = .ok (.ireturn, 1) := by decide +kernel
theorem dX10_trace_0 : decode cX10_trace 0 = .ok (.iload_n 1, 1) := by decide +kernel
theorem dX10_trace_1 : decode cX10_trace 1 = .ok (.iconst 0, 1) := by decide +kernel
theorem dX10_trace_2 : decode cX10_trace 2 = .ok (.bipush 24, 2) := by decide +kernel
theorem dX10_trace_4 : decode cX10_trace 4 = .ok (.aload_n 0, 1) := by decide +kernel
theorem dX10_trace_5 : decode cX10_trace 5 = .ok (.getfield 316, 3) := by decide +kernel
theorem dX10_trace_8 : decode cX10_trace 8 = .ok (.invokestatic 227, 3) := by decide +kernel
theorem dX10_trace_11 : decode cX10_trace 11 = .ok (.iconst 1, 1) := by decide +kernel
theorem dX10_trace_12 : decode cX10_trace 12 = .ok (.isub, 1) := by decide +kernel
theorem dX10_trace_13 : decode cX10_trace 13 = .ok (.invokestatic 103, 3) := by decide +kernel
theorem dX10_trace_16 : decode cX10_trace 16 = .ok (.ifCond .eq 12, 3) := by decide +kernel
theorem dX10_trace_19 : decode cX10_trace 19 = .ok (.aload_n 0, 1) := by decide +kernel
theorem dX10_trace_20 : decode cX10_trace 20 = .ok (.getfield 75, 3) := by decide +kernel
theorem dX10_trace_23 : decode cX10_trace 23 = .ok (.iload_n 1, 1) := by decide +kernel
theorem dX10_trace_24 : decode cX10_trace 24 = .ok (.iaload, 1) := by decide +kernel
theorem dX10_trace_25 : decode cX10_trace 25 = .ok (.goto 4, 3) := by decide +kernel
theorem dX10_trace_28 : decode cX10_trace 28 = .ok (.iconst (-1), 1) := by decide +kernel
theorem dX10_trace_29 : decode cX10_trace 29 = .ok (.ireturn, 1) := by decide +kernel
theorem dX10_keep_0 : decode cX10_keep 0 = .ok (.iload_n 1, 1) := by decide +kernel
theorem dX10_keep_1 : decode cX10_keep 1 = .ok (.invokestatic 119, 3) := by decide +kernel
theorem dX10_keep_4 : decode cX10_keep 4 = .ok (.ifCond .eq 17, 3) := by decide +kernel
theorem dX10_keep_7 : decode cX10_keep 7 = .ok (.iload_n 2, 1) := by decide +kernel
theorem dX10_keep_8 : decode cX10_keep 8 = .ok (.iconst (-1), 1) := by decide +kernel
theorem dX10_keep_9 : decode cX10_keep 9 = .ok (.aload_n 0, 1) := by decide +kernel
theorem dX10_keep_10 : decode cX10_keep 10 = .ok (.getfield 337, 3) := by decide +kernel
theorem dX10_keep_13 : decode cX10_keep 13 = .ok (.iconst 1, 1) := by decide +kernel
theorem dX10_keep_14 : decode cX10_keep 14 = .ok (.isub, 1) := by decide +kernel
theorem dX10_keep_15 : decode cX10_keep 15 = .ok (.invokestatic 103, 3) := by decide +kernel
theorem dX10_keep_18 : decode cX10_keep 18 = .ok (.ifCond .ne 5, 3) := by decide +kernel
theorem dX10_keep_21 : decode cX10_keep 21 = .ok (.iconst (-1), 1) := by decide +kernel
theorem dX10_keep_22 : decode cX10_keep 22 = .ok (.ireturn, 1) := by decide +kernel
theorem dX10_keep_23 : decode cX10_keep 23 = .ok (.aload_n 0, 1) := by decide +kernel
theorem dX10_keep_24 : decode cX10_keep 24 = .ok (.getfield 78, 3) := by decide +kernel
theorem dX10_keep_27 : decode cX10_keep 27 = .ok (.iload_n 1, 1) := by decide +kernel
theorem dX10_keep_28 : decode cX10_keep 28 = .ok (.iload_n 2, 1) := by decide +kernel
theorem dX10_keep_29 : decode cX10_keep 29 = .ok (.ifCond .ge 7, 3) := by decide +kernel
theorem dX10_keep_32 : decode cX10_keep 32 = .ok (.iconst (-1), 1) := by decide +kernel
theorem dX10_keep_33 : decode cX10_keep 33 = .ok (.goto 7, 3) := by decide +kernel
theorem dX10_keep_36 : decode cX10_keep 36 = .ok (.bipush 10, 2) := by decide +kernel
theorem dX10_keep_38 : decode cX10_keep 38 = .ok (.iload_n 2, 1) := by decide +kernel
theorem dX10_keep_39 : decode cX10_keep 39 = .ok (.iadd, 1) := by decide +kernel
theorem dX10_keep_40 : decode cX10_keep 40 = .ok (.iastore, 1) := by decide +kernel
theorem dX10_keep_41 : decode cX10_keep 41 = .ok (.aload_n 0, 1) := by decide +kernel
theorem dX10_keep_42 : decode cX10_keep 42 = .ok (.getfield 81, 3) := by decide +kernel
theorem dX10_keep_45 : decode cX10_keep 45 = .ok (.iload_n 1, 1) := by decide +kernel
theorem dX10_keep_46 : decode cX10_keep 46 = .ok (.iconst 0, 1) := by decide +kernel
theorem dX10_keep_47 : decode cX10_keep 47 = .ok (.iastore, 1) := by decide +kernel
theorem dX10_keep_48 : decode cX10_keep 48 = .ok (.iconst 1, 1) := by decide +kernel
theorem dX10_keep_49 : decode cX10_keep 49 = .ok (.ireturn, 1) := by decide +kernel
theorem dX10_row_0 : decode cX10_row 0 = .ok (.iload_n 1, 1) := by decide +kernel
theorem dX10_row_1 : decode cX10_row 1 = .ok (.invokestatic 119, 3) := by decide +kernel
theorem dX10_row_4 : decode cX10_row 4 = .ok (.ifCond .eq 18, 3) := by decide +kernel
theorem dX10_row_7 : decode cX10_row 7 = .ok (.iload_n 2, 1) := by decide +kernel
theorem dX10_row_8 : decode cX10_row 8 = .ok (.iconst 0, 1) := by decide +kernel
theorem dX10_row_9 : decode cX10_row 9 = .ok (.iconst 4, 1) := by decide +kernel
theorem dX10_row_10 : decode cX10_row 10 = .ok (.invokestatic 103, 3) := by decide +kernel
theorem dX10_row_13 : decode cX10_row 13 = .ok (.ifCond .eq 9, 3) := by decide +kernel
theorem dX10_row_16 : decode cX10_row 16 = .ok (.iload_n 3, 1) := by decide +kernel
theorem dX10_row_17 : decode cX10_row 17 = .ok (.bipush 60, 2) := by decide +kernel
theorem dX10_row_19 : decode cX10_row 19 = .ok (.if_icmp .le 5, 3) := by decide +kernel
theorem dX10_row_22 : decode cX10_row 22 = .ok (.iconst (-1), 1) := by decide +kernel
theorem dX10_row_23 : decode cX10_row 23 = .ok (.ireturn, 1) := by decide +kernel
theorem dX10_row_24 : decode cX10_row 24 = .ok (.iload_n 3, 1) := by decide +kernel
theorem dX10_row_25 : decode cX10_row 25 = .ok (.ifCond .ge 6, 3) := by decide +kernel
theorem dX10_row_28 : decode cX10_row 28 = .ok (.bipush (-14), 2) := by decide +kernel
theorem dX10_row_30 : decode cX10_row 30 = .ok (.ireturn, 1) := by decide +kernel
theorem dX10_row_31 : decode cX10_row 31 = .ok (.aload_n 0, 1) := by decide +kernel
theorem dX10_row_32 : decode cX10_row 32 = .ok (.getfield 78, 3) := by decide +kernel
theorem dX10_row_35 : decode cX10_row 35 = .ok (.iload_n 1, 1) := by decide +kernel
theorem dX10_row_36 : decode cX10_row 36 = .ok (.iload_n 2, 1) := by decide +kernel
theorem dX10_row_37 : decode cX10_row 37 = .ok (.iastore, 1) := by decide +kernel
theorem dX10_row_38 : decode cX10_row 38 = .ok (.aload_n 0, 1) := by decide +kernel
theorem dX10_row_39 : decode cX10_row 39 = .ok (.getfield 81, 3) := by decide +kernel
theorem dX10_row_42 : decode cX10_row 42 = .ok (.iload_n 1, 1) := by decide +kernel
theorem dX10_row_43 : decode cX10_row 43 = .ok (.iload_n 3, 1) := by decide +kernel
theorem dX10_row_44 : decode cX10_row 44 = .ok (.iastore, 1) := by decide +kernel
theorem dX10_row_45 : decode cX10_row 45 = .ok (.iconst 0, 1) := by decide +kernel
theorem dX10_row_46 : decode cX10_row 46 = .ok (.istore 4, 2) := by decide +kernel
theorem dX10_row_48 : decode cX10_row 48 = .ok (.iload 4, 2) := by decide +kernel
theorem dX10_row_50 : decode cX10_row 50 = .ok (.bipush 60, 2) := by decide +kernel
theorem dX10_row_52 : decode cX10_row 52 = .ok (.if_icmp .ge 22, 3) := by decide +kernel
theorem dX10_row_55 : decode cX10_row 55 = .ok (.aload_n 0, 1) := by decide +kernel
theorem dX10_row_56 : decode cX10_row 56 = .ok (.getfield 84, 3) := by decide +kernel
theorem dX10_row_59 : decode cX10_row 59 = .ok (.bipush 60, 2) := by decide +kernel
theorem dX10_row_61 : decode cX10_row 61 = .ok (.iload_n 1, 1) := by decide +kernel
theorem dX10_row_62 : decode cX10_row 62 = .ok (.imul, 1) := by decide +kernel
theorem dX10_row_63 : decode cX10_row 63 = .ok (.iload 4, 2) := by decide +kernel
theorem dX10_row_65 : decode cX10_row 65 = .ok (.iadd, 1) := by decide +kernel
theorem dX10_row_66 : decode cX10_row 66 = .ok (.lconst 0, 1) := by decide +kernel
theorem dX10_row_67 : decode cX10_row 67 = .ok (.lastore, 1) := by decide +kernel
theorem dX10_row_68 : decode cX10_row 68 = .ok (.iinc 4 1, 3) := by decide +kernel
theorem dX10_row_71 : decode cX10_row 71 = .ok (.goto (-23), 3) := by decide +kernel
theorem dX10_row_74 : decode cX10_row 74 = .ok (.iconst 1, 1) := by decide +kernel
theorem dX10_row_75 : decode cX10_row 75 = .ok (.ireturn, 1) := by decide +kernel
theorem dX10_isRow_0 : decode cX10_isRow 0 = .ok (.aload_n 0, 1) := by decide +kernel
theorem dX10_isRow_1 : decode cX10_isRow 1 = .ok (.getfield 78, 3) := by decide +kernel
theorem dX10_isRow_4 : decode cX10_isRow 4 = .ok (.iload_n 1, 1) := by decide +kernel
theorem dX10_isRow_5 : decode cX10_isRow 5 = .ok (.iaload, 1) := by decide +kernel
theorem dX10_isRow_6 : decode cX10_isRow 6 = .ok (.iconst 0, 1) := by decide +kernel
theorem dX10_isRow_7 : decode cX10_isRow 7 = .ok (.iconst 4, 1) := by decide +kernel
theorem dX10_isRow_8 : decode cX10_isRow 8 = .ok (.invokestatic 103, 3) := by decide +kernel
theorem dX10_isRow_11 : decode cX10_isRow 11 = .ok (.ireturn, 1) := by decide +kernel
theorem dX10_kept_0 : decode cX10_kept 0 = .ok (.iload_n 0, 1) := by decide +kernel
theorem dX10_kept_1 : decode cX10_kept 1 = .ok (.tableswitch 47 0 3 #[31, 36, 41, 45], 31) := by decide +kernel
theorem dX10_kept_32 : decode cX10_kept 32 = .ok (.lload_n 1, 1) := by decide +kernel
theorem dX10_kept_33 : decode cX10_kept 33 = .ok (.l2i, 1) := by decide +kernel
theorem dX10_kept_34 : decode cX10_kept 34 = .ok (.i2b, 1) := by decide +kernel
theorem dX10_kept_35 : decode cX10_kept 35 = .ok (.i2l, 1) := by decide +kernel
theorem dX10_kept_36 : decode cX10_kept 36 = .ok (.lreturn, 1) := by decide +kernel
theorem dX10_kept_37 : decode cX10_kept 37 = .ok (.lload_n 1, 1) := by decide +kernel
theorem dX10_kept_38 : decode cX10_kept 38 = .ok (.l2i, 1) := by decide +kernel
theorem dX10_kept_39 : decode cX10_kept 39 = .ok (.i2s, 1) := by decide +kernel
theorem dX10_kept_40 : decode cX10_kept 40 = .ok (.i2l, 1) := by decide +kernel
theorem dX10_kept_41 : decode cX10_kept 41 = .ok (.lreturn, 1) := by decide +kernel
theorem dX10_kept_42 : decode cX10_kept 42 = .ok (.lload_n 1, 1) := by decide +kernel
theorem dX10_kept_43 : decode cX10_kept 43 = .ok (.l2i, 1) := by decide +kernel
theorem dX10_kept_44 : decode cX10_kept 44 = .ok (.i2l, 1) := by decide +kernel
theorem dX10_kept_45 : decode cX10_kept 45 = .ok (.lreturn, 1) := by decide +kernel
theorem dX10_kept_46 : decode cX10_kept 46 = .ok (.lload_n 1, 1) := by decide +kernel
theorem dX10_kept_47 : decode cX10_kept 47 = .ok (.lreturn, 1) := by decide +kernel
theorem dX10_kept_48 : decode cX10_kept 48 = .ok (.lload_n 1, 1) := by decide +kernel
theorem dX10_kept_49 : decode cX10_kept 49 = .ok (.lconst 0, 1) := by decide +kernel
theorem dX10_kept_50 : decode cX10_kept 50 = .ok (.lcmp, 1) := by decide +kernel
theorem dX10_kept_51 : decode cX10_kept 51 = .ok (.ifCond .eq 7, 3) := by decide +kernel
theorem dX10_kept_54 : decode cX10_kept 54 = .ok (.lconst 1, 1) := by decide +kernel
theorem dX10_kept_55 : decode cX10_kept 55 = .ok (.goto 4, 3) := by decide +kernel
theorem dX10_kept_58 : decode cX10_kept 58 = .ok (.lconst 0, 1) := by decide +kernel
theorem dX10_kept_59 : decode cX10_kept 59 = .ok (.lreturn, 1) := by decide +kernel
theorem dX10_put_0 : decode cX10_put 0 = .ok (.iload_n 1, 1) := by decide +kernel
theorem dX10_put_1 : decode cX10_put 1 = .ok (.invokestatic 119, 3) := by decide +kernel
theorem dX10_put_4 : decode cX10_put 4 = .ok (.ifCond .ne 5, 3) := by decide +kernel
theorem dX10_put_7 : decode cX10_put 7 = .ok (.iconst (-1), 1) := by decide +kernel
theorem dX10_put_8 : decode cX10_put 8 = .ok (.ireturn, 1) := by decide +kernel
theorem dX10_put_9 : decode cX10_put 9 = .ok (.aload_n 0, 1) := by decide +kernel
theorem dX10_put_10 : decode cX10_put 10 = .ok (.getfield 78, 3) := by decide +kernel
theorem dX10_put_13 : decode cX10_put 13 = .ok (.iload_n 1, 1) := by decide +kernel
theorem dX10_put_14 : decode cX10_put 14 = .ok (.iaload, 1) := by decide +kernel
theorem dX10_put_15 : decode cX10_put 15 = .ok (.iconst (-1), 1) := by decide +kernel
theorem dX10_put_16 : decode cX10_put 16 = .ok (.if_icmp .ne 6, 3) := by decide +kernel
theorem dX10_put_19 : decode cX10_put 19 = .ok (.bipush (-11), 2) := by decide +kernel
theorem dX10_put_21 : decode cX10_put 21 = .ok (.ireturn, 1) := by decide +kernel
theorem dX10_put_22 : decode cX10_put 22 = .ok (.aload_n 0, 1) := by decide +kernel
theorem dX10_put_23 : decode cX10_put 23 = .ok (.iload_n 1, 1) := by decide +kernel
theorem dX10_put_24 : decode cX10_put 24 = .ok (.invokevirtual 340, 3) := by decide +kernel
theorem dX10_put_27 : decode cX10_put 27 = .ok (.ifCond .ne 6, 3) := by decide +kernel
theorem dX10_put_30 : decode cX10_put 30 = .ok (.bipush (-12), 2) := by decide +kernel
theorem dX10_put_32 : decode cX10_put 32 = .ok (.ireturn, 1) := by decide +kernel
theorem dX10_put_33 : decode cX10_put 33 = .ok (.iload_n 2, 1) := by decide +kernel
theorem dX10_put_34 : decode cX10_put 34 = .ok (.iconst 0, 1) := by decide +kernel
theorem dX10_put_35 : decode cX10_put 35 = .ok (.aload_n 0, 1) := by decide +kernel
theorem dX10_put_36 : decode cX10_put 36 = .ok (.getfield 81, 3) := by decide +kernel
theorem dX10_put_39 : decode cX10_put 39 = .ok (.iload_n 1, 1) := by decide +kernel
theorem dX10_put_40 : decode cX10_put 40 = .ok (.iaload, 1) := by decide +kernel
theorem dX10_put_41 : decode cX10_put 41 = .ok (.iconst 1, 1) := by decide +kernel
theorem dX10_put_42 : decode cX10_put 42 = .ok (.isub, 1) := by decide +kernel
theorem dX10_put_43 : decode cX10_put 43 = .ok (.invokestatic 103, 3) := by decide +kernel
theorem dX10_put_46 : decode cX10_put 46 = .ok (.ifCond .ne 6, 3) := by decide +kernel
theorem dX10_put_49 : decode cX10_put 49 = .ok (.bipush (-13), 2) := by decide +kernel
theorem dX10_put_51 : decode cX10_put 51 = .ok (.ireturn, 1) := by decide +kernel
theorem dX10_put_52 : decode cX10_put 52 = .ok (.aload_n 0, 1) := by decide +kernel
theorem dX10_put_53 : decode cX10_put 53 = .ok (.getfield 84, 3) := by decide +kernel
theorem dX10_put_56 : decode cX10_put 56 = .ok (.bipush 60, 2) := by decide +kernel
theorem dX10_put_58 : decode cX10_put 58 = .ok (.iload_n 1, 1) := by decide +kernel
theorem dX10_put_59 : decode cX10_put 59 = .ok (.imul, 1) := by decide +kernel
theorem dX10_put_60 : decode cX10_put 60 = .ok (.iload_n 2, 1) := by decide +kernel
theorem dX10_put_61 : decode cX10_put 61 = .ok (.iadd, 1) := by decide +kernel
theorem dX10_put_62 : decode cX10_put 62 = .ok (.aload_n 0, 1) := by decide +kernel
theorem dX10_put_63 : decode cX10_put 63 = .ok (.getfield 78, 3) := by decide +kernel
theorem dX10_put_66 : decode cX10_put 66 = .ok (.iload_n 1, 1) := by decide +kernel
theorem dX10_put_67 : decode cX10_put 67 = .ok (.iaload, 1) := by decide +kernel
theorem dX10_put_68 : decode cX10_put 68 = .ok (.lload_n 3, 1) := by decide +kernel
theorem dX10_put_69 : decode cX10_put 69 = .ok (.invokestatic 343, 3) := by decide +kernel
theorem dX10_put_72 : decode cX10_put 72 = .ok (.lastore, 1) := by decide +kernel
theorem dX10_put_73 : decode cX10_put 73 = .ok (.iconst 1, 1) := by decide +kernel
theorem dX10_put_74 : decode cX10_put 74 = .ok (.ireturn, 1) := by decide +kernel
theorem dX10_element_0 : decode cX10_element 0 = .ok (.iload_n 1, 1) := by decide +kernel
theorem dX10_element_1 : decode cX10_element 1 = .ok (.invokestatic 119, 3) := by decide +kernel
theorem dX10_element_4 : decode cX10_element 4 = .ok (.ifCond .eq 41, 3) := by decide +kernel
theorem dX10_element_7 : decode cX10_element 7 = .ok (.aload_n 0, 1) := by decide +kernel
theorem dX10_element_8 : decode cX10_element 8 = .ok (.iload_n 1, 1) := by decide +kernel
theorem dX10_element_9 : decode cX10_element 9 = .ok (.invokevirtual 340, 3) := by decide +kernel
theorem dX10_element_12 : decode cX10_element 12 = .ok (.ifCond .eq 33, 3) := by decide +kernel
theorem dX10_element_15 : decode cX10_element 15 = .ok (.iload_n 2, 1) := by decide +kernel
theorem dX10_element_16 : decode cX10_element 16 = .ok (.iconst 0, 1) := by decide +kernel
theorem dX10_element_17 : decode cX10_element 17 = .ok (.aload_n 0, 1) := by decide +kernel
theorem dX10_element_18 : decode cX10_element 18 = .ok (.getfield 81, 3) := by decide +kernel
theorem dX10_element_21 : decode cX10_element 21 = .ok (.iload_n 1, 1) := by decide +kernel
theorem dX10_element_22 : decode cX10_element 22 = .ok (.iaload, 1) := by decide +kernel
theorem dX10_element_23 : decode cX10_element 23 = .ok (.iconst 1, 1) := by decide +kernel
theorem dX10_element_24 : decode cX10_element 24 = .ok (.isub, 1) := by decide +kernel
theorem dX10_element_25 : decode cX10_element 25 = .ok (.invokestatic 103, 3) := by decide +kernel
theorem dX10_element_28 : decode cX10_element 28 = .ok (.ifCond .eq 17, 3) := by decide +kernel
theorem dX10_element_31 : decode cX10_element 31 = .ok (.aload_n 0, 1) := by decide +kernel
theorem dX10_element_32 : decode cX10_element 32 = .ok (.getfield 84, 3) := by decide +kernel
theorem dX10_element_35 : decode cX10_element 35 = .ok (.bipush 60, 2) := by decide +kernel
theorem dX10_element_37 : decode cX10_element 37 = .ok (.iload_n 1, 1) := by decide +kernel
theorem dX10_element_38 : decode cX10_element 38 = .ok (.imul, 1) := by decide +kernel
theorem dX10_element_39 : decode cX10_element 39 = .ok (.iload_n 2, 1) := by decide +kernel
theorem dX10_element_40 : decode cX10_element 40 = .ok (.iadd, 1) := by decide +kernel
theorem dX10_element_41 : decode cX10_element 41 = .ok (.laload, 1) := by decide +kernel
theorem dX10_element_42 : decode cX10_element 42 = .ok (.goto 6, 3) := by decide +kernel
theorem dX10_element_45 : decode cX10_element 45 = .ok (.ldc2_w 347, 3) := by decide +kernel
theorem dX10_element_48 : decode cX10_element 48 = .ok (.lreturn, 1) := by decide +kernel
theorem dX10_shift_0 : decode cX10_shift 0 = .ok (.iload_n 1, 1) := by decide +kernel
theorem dX10_shift_1 : decode cX10_shift 1 = .ok (.invokestatic 119, 3) := by decide +kernel
theorem dX10_shift_4 : decode cX10_shift 4 = .ok (.ifCond .eq 10, 3) := by decide +kernel
theorem dX10_shift_7 : decode cX10_shift 7 = .ok (.iload_n 3, 1) := by decide +kernel
theorem dX10_shift_8 : decode cX10_shift 8 = .ok (.invokestatic 119, 3) := by decide +kernel
theorem dX10_shift_11 : decode cX10_shift 11 = .ok (.ifCond .ne 5, 3) := by decide +kernel
theorem dX10_shift_14 : decode cX10_shift 14 = .ok (.iconst (-1), 1) := by decide +kernel
theorem dX10_shift_15 : decode cX10_shift 15 = .ok (.ireturn, 1) := by decide +kernel
theorem dX10_shift_16 : decode cX10_shift 16 = .ok (.aload_n 0, 1) := by decide +kernel
theorem dX10_shift_17 : decode cX10_shift 17 = .ok (.getfield 78, 3) := by decide +kernel
theorem dX10_shift_20 : decode cX10_shift 20 = .ok (.iload_n 1, 1) := by decide +kernel
theorem dX10_shift_21 : decode cX10_shift 21 = .ok (.iaload, 1) := by decide +kernel
theorem dX10_shift_22 : decode cX10_shift 22 = .ok (.iconst (-1), 1) := by decide +kernel
theorem dX10_shift_23 : decode cX10_shift 23 = .ok (.if_icmp .eq 13, 3) := by decide +kernel
theorem dX10_shift_26 : decode cX10_shift 26 = .ok (.aload_n 0, 1) := by decide +kernel
theorem dX10_shift_27 : decode cX10_shift 27 = .ok (.getfield 78, 3) := by decide +kernel
theorem dX10_shift_30 : decode cX10_shift 30 = .ok (.iload_n 3, 1) := by decide +kernel
theorem dX10_shift_31 : decode cX10_shift 31 = .ok (.iaload, 1) := by decide +kernel
theorem dX10_shift_32 : decode cX10_shift 32 = .ok (.iconst (-1), 1) := by decide +kernel
theorem dX10_shift_33 : decode cX10_shift 33 = .ok (.if_icmp .ne 6, 3) := by decide +kernel
theorem dX10_shift_36 : decode cX10_shift 36 = .ok (.bipush (-11), 2) := by decide +kernel
theorem dX10_shift_38 : decode cX10_shift 38 = .ok (.ireturn, 1) := by decide +kernel
theorem dX10_shift_39 : decode cX10_shift 39 = .ok (.aload_n 0, 1) := by decide +kernel
theorem dX10_shift_40 : decode cX10_shift 40 = .ok (.iload_n 1, 1) := by decide +kernel
theorem dX10_shift_41 : decode cX10_shift 41 = .ok (.invokevirtual 340, 3) := by decide +kernel
theorem dX10_shift_44 : decode cX10_shift 44 = .ok (.ifCond .eq 26, 3) := by decide +kernel
theorem dX10_shift_47 : decode cX10_shift 47 = .ok (.aload_n 0, 1) := by decide +kernel
theorem dX10_shift_48 : decode cX10_shift 48 = .ok (.iload_n 3, 1) := by decide +kernel
theorem dX10_shift_49 : decode cX10_shift 49 = .ok (.invokevirtual 340, 3) := by decide +kernel
theorem dX10_shift_52 : decode cX10_shift 52 = .ok (.ifCond .eq 18, 3) := by decide +kernel
theorem dX10_shift_55 : decode cX10_shift 55 = .ok (.aload_n 0, 1) := by decide +kernel
theorem dX10_shift_56 : decode cX10_shift 56 = .ok (.getfield 78, 3) := by decide +kernel
theorem dX10_shift_59 : decode cX10_shift 59 = .ok (.iload_n 1, 1) := by decide +kernel
theorem dX10_shift_60 : decode cX10_shift 60 = .ok (.iaload, 1) := by decide +kernel
theorem dX10_shift_61 : decode cX10_shift 61 = .ok (.aload_n 0, 1) := by decide +kernel
theorem dX10_shift_62 : decode cX10_shift 62 = .ok (.getfield 78, 3) := by decide +kernel
theorem dX10_shift_65 : decode cX10_shift 65 = .ok (.iload_n 3, 1) := by decide +kernel
theorem dX10_shift_66 : decode cX10_shift 66 = .ok (.iaload, 1) := by decide +kernel
theorem dX10_shift_67 : decode cX10_shift 67 = .ok (.if_icmp .eq 6, 3) := by decide +kernel
theorem dX10_shift_70 : decode cX10_shift 70 = .ok (.bipush (-12), 2) := by decide +kernel
theorem dX10_shift_72 : decode cX10_shift 72 = .ok (.ireturn, 1) := by decide +kernel
theorem dX10_shift_73 : decode cX10_shift 73 = .ok (.iload 5, 2) := by decide +kernel
theorem dX10_shift_75 : decode cX10_shift 75 = .ok (.ifCond .lt 47, 3) := by decide +kernel
theorem dX10_shift_78 : decode cX10_shift 78 = .ok (.iload_n 2, 1) := by decide +kernel
theorem dX10_shift_79 : decode cX10_shift 79 = .ok (.ifCond .lt 43, 3) := by decide +kernel
theorem dX10_shift_82 : decode cX10_shift 82 = .ok (.iload 4, 2) := by decide +kernel
theorem dX10_shift_84 : decode cX10_shift 84 = .ok (.ifCond .lt 38, 3) := by decide +kernel
theorem dX10_shift_87 : decode cX10_shift 87 = .ok (.iload_n 2, 1) := by decide +kernel
theorem dX10_shift_88 : decode cX10_shift 88 = .ok (.i2l, 1) := by decide +kernel
theorem dX10_shift_89 : decode cX10_shift 89 = .ok (.iload 5, 2) := by decide +kernel
theorem dX10_shift_91 : decode cX10_shift 91 = .ok (.i2l, 1) := by decide +kernel
theorem dX10_shift_92 : decode cX10_shift 92 = .ok (.ladd, 1) := by decide +kernel
theorem dX10_shift_93 : decode cX10_shift 93 = .ok (.aload_n 0, 1) := by decide +kernel
theorem dX10_shift_94 : decode cX10_shift 94 = .ok (.getfield 81, 3) := by decide +kernel
theorem dX10_shift_97 : decode cX10_shift 97 = .ok (.iload_n 1, 1) := by decide +kernel
theorem dX10_shift_98 : decode cX10_shift 98 = .ok (.iaload, 1) := by decide +kernel
theorem dX10_shift_99 : decode cX10_shift 99 = .ok (.i2l, 1) := by decide +kernel
theorem dX10_shift_100 : decode cX10_shift 100 = .ok (.lcmp, 1) := by decide +kernel
theorem dX10_shift_101 : decode cX10_shift 101 = .ok (.ifCond .gt 21, 3) := by decide +kernel
theorem dX10_shift_104 : decode cX10_shift 104 = .ok (.iload 4, 2) := by decide +kernel
theorem dX10_shift_106 : decode cX10_shift 106 = .ok (.i2l, 1) := by decide +kernel
theorem dX10_shift_107 : decode cX10_shift 107 = .ok (.iload 5, 2) := by decide +kernel
theorem dX10_shift_109 : decode cX10_shift 109 = .ok (.i2l, 1) := by decide +kernel
theorem dX10_shift_110 : decode cX10_shift 110 = .ok (.ladd, 1) := by decide +kernel
theorem dX10_shift_111 : decode cX10_shift 111 = .ok (.aload_n 0, 1) := by decide +kernel
theorem dX10_shift_112 : decode cX10_shift 112 = .ok (.getfield 81, 3) := by decide +kernel
theorem dX10_shift_115 : decode cX10_shift 115 = .ok (.iload_n 3, 1) := by decide +kernel
theorem dX10_shift_116 : decode cX10_shift 116 = .ok (.iaload, 1) := by decide +kernel
theorem dX10_shift_117 : decode cX10_shift 117 = .ok (.i2l, 1) := by decide +kernel
theorem dX10_shift_118 : decode cX10_shift 118 = .ok (.lcmp, 1) := by decide +kernel
theorem dX10_shift_119 : decode cX10_shift 119 = .ok (.ifCond .le 6, 3) := by decide +kernel
theorem dX10_shift_122 : decode cX10_shift 122 = .ok (.bipush (-13), 2) := by decide +kernel
theorem dX10_shift_124 : decode cX10_shift 124 = .ok (.ireturn, 1) := by decide +kernel
theorem dX10_shift_125 : decode cX10_shift 125 = .ok (.iload_n 1, 1) := by decide +kernel
theorem dX10_shift_126 : decode cX10_shift 126 = .ok (.iload_n 3, 1) := by decide +kernel
theorem dX10_shift_127 : decode cX10_shift 127 = .ok (.if_icmp .ne 58, 3) := by decide +kernel
theorem dX10_shift_130 : decode cX10_shift 130 = .ok (.iload_n 2, 1) := by decide +kernel
theorem dX10_shift_131 : decode cX10_shift 131 = .ok (.iload 4, 2) := by decide +kernel
theorem dX10_shift_133 : decode cX10_shift 133 = .ok (.if_icmp .ge 52, 3) := by decide +kernel
theorem dX10_shift_136 : decode cX10_shift 136 = .ok (.iload 5, 2) := by decide +kernel
theorem dX10_shift_138 : decode cX10_shift 138 = .ok (.iconst 1, 1) := by decide +kernel
theorem dX10_shift_139 : decode cX10_shift 139 = .ok (.isub, 1) := by decide +kernel
theorem dX10_shift_140 : decode cX10_shift 140 = .ok (.istore 6, 2) := by decide +kernel
theorem dX10_shift_142 : decode cX10_shift 142 = .ok (.iload 6, 2) := by decide +kernel
theorem dX10_shift_144 : decode cX10_shift 144 = .ok (.ifCond .lt 38, 3) := by decide +kernel
theorem dX10_shift_147 : decode cX10_shift 147 = .ok (.aload_n 0, 1) := by decide +kernel
theorem dX10_shift_148 : decode cX10_shift 148 = .ok (.getfield 84, 3) := by decide +kernel
theorem dX10_shift_151 : decode cX10_shift 151 = .ok (.bipush 60, 2) := by decide +kernel
theorem dX10_shift_153 : decode cX10_shift 153 = .ok (.iload_n 3, 1) := by decide +kernel
theorem dX10_shift_154 : decode cX10_shift 154 = .ok (.imul, 1) := by decide +kernel
theorem dX10_shift_155 : decode cX10_shift 155 = .ok (.iload 4, 2) := by decide +kernel
theorem dX10_shift_157 : decode cX10_shift 157 = .ok (.iadd, 1) := by decide +kernel
theorem dX10_shift_158 : decode cX10_shift 158 = .ok (.iload 6, 2) := by decide +kernel
theorem dX10_shift_160 : decode cX10_shift 160 = .ok (.iadd, 1) := by decide +kernel
theorem dX10_shift_161 : decode cX10_shift 161 = .ok (.aload_n 0, 1) := by decide +kernel
theorem dX10_shift_162 : decode cX10_shift 162 = .ok (.getfield 84, 3) := by decide +kernel
theorem dX10_shift_165 : decode cX10_shift 165 = .ok (.bipush 60, 2) := by decide +kernel
theorem dX10_shift_167 : decode cX10_shift 167 = .ok (.iload_n 1, 1) := by decide +kernel
theorem dX10_shift_168 : decode cX10_shift 168 = .ok (.imul, 1) := by decide +kernel
theorem dX10_shift_169 : decode cX10_shift 169 = .ok (.iload_n 2, 1) := by decide +kernel
theorem dX10_shift_170 : decode cX10_shift 170 = .ok (.iadd, 1) := by decide +kernel
theorem dX10_shift_171 : decode cX10_shift 171 = .ok (.iload 6, 2) := by decide +kernel
theorem dX10_shift_173 : decode cX10_shift 173 = .ok (.iadd, 1) := by decide +kernel
theorem dX10_shift_174 : decode cX10_shift 174 = .ok (.laload, 1) := by decide +kernel
theorem dX10_shift_175 : decode cX10_shift 175 = .ok (.lastore, 1) := by decide +kernel
theorem dX10_shift_176 : decode cX10_shift 176 = .ok (.iinc 6 (-1), 3) := by decide +kernel
theorem dX10_shift_179 : decode cX10_shift 179 = .ok (.goto (-37), 3) := by decide +kernel
theorem dX10_shift_182 : decode cX10_shift 182 = .ok (.goto 48, 3) := by decide +kernel
theorem dX10_shift_185 : decode cX10_shift 185 = .ok (.iconst 0, 1) := by decide +kernel
theorem dX10_shift_186 : decode cX10_shift 186 = .ok (.istore 6, 2) := by decide +kernel
theorem dX10_shift_188 : decode cX10_shift 188 = .ok (.iload 6, 2) := by decide +kernel
theorem dX10_shift_190 : decode cX10_shift 190 = .ok (.iload 5, 2) := by decide +kernel
theorem dX10_shift_192 : decode cX10_shift 192 = .ok (.if_icmp .ge 38, 3) := by decide +kernel
theorem dX10_shift_195 : decode cX10_shift 195 = .ok (.aload_n 0, 1) := by decide +kernel
theorem dX10_shift_196 : decode cX10_shift 196 = .ok (.getfield 84, 3) := by decide +kernel
theorem dX10_shift_199 : decode cX10_shift 199 = .ok (.bipush 60, 2) := by decide +kernel
theorem dX10_shift_201 : decode cX10_shift 201 = .ok (.iload_n 3, 1) := by decide +kernel
theorem dX10_shift_202 : decode cX10_shift 202 = .ok (.imul, 1) := by decide +kernel
theorem dX10_shift_203 : decode cX10_shift 203 = .ok (.iload 4, 2) := by decide +kernel
theorem dX10_shift_205 : decode cX10_shift 205 = .ok (.iadd, 1) := by decide +kernel
theorem dX10_shift_206 : decode cX10_shift 206 = .ok (.iload 6, 2) := by decide +kernel
theorem dX10_shift_208 : decode cX10_shift 208 = .ok (.iadd, 1) := by decide +kernel
theorem dX10_shift_209 : decode cX10_shift 209 = .ok (.aload_n 0, 1) := by decide +kernel
theorem dX10_shift_210 : decode cX10_shift 210 = .ok (.getfield 84, 3) := by decide +kernel
theorem dX10_shift_213 : decode cX10_shift 213 = .ok (.bipush 60, 2) := by decide +kernel
theorem dX10_shift_215 : decode cX10_shift 215 = .ok (.iload_n 1, 1) := by decide +kernel
theorem dX10_shift_216 : decode cX10_shift 216 = .ok (.imul, 1) := by decide +kernel
theorem dX10_shift_217 : decode cX10_shift 217 = .ok (.iload_n 2, 1) := by decide +kernel
theorem dX10_shift_218 : decode cX10_shift 218 = .ok (.iadd, 1) := by decide +kernel
theorem dX10_shift_219 : decode cX10_shift 219 = .ok (.iload 6, 2) := by decide +kernel
theorem dX10_shift_221 : decode cX10_shift 221 = .ok (.iadd, 1) := by decide +kernel
theorem dX10_shift_222 : decode cX10_shift 222 = .ok (.laload, 1) := by decide +kernel
theorem dX10_shift_223 : decode cX10_shift 223 = .ok (.lastore, 1) := by decide +kernel
theorem dX10_shift_224 : decode cX10_shift 224 = .ok (.iinc 6 1, 3) := by decide +kernel
theorem dX10_shift_227 : decode cX10_shift 227 = .ok (.goto (-39), 3) := by decide +kernel
theorem dX10_shift_230 : decode cX10_shift 230 = .ok (.iload 5, 2) := by decide +kernel
theorem dX10_shift_232 : decode cX10_shift 232 = .ok (.ireturn, 1) := by decide +kernel
theorem dX10_taken_0 : decode cX10_taken 0 = .ok (.iload_n 1, 1) := by decide +kernel
theorem dX10_taken_1 : decode cX10_taken 1 = .ok (.invokestatic 119, 3) := by decide +kernel
theorem dX10_taken_4 : decode cX10_taken 4 = .ok (.ifCond .eq 13, 3) := by decide +kernel
theorem dX10_taken_7 : decode cX10_taken 7 = .ok (.iload_n 2, 1) := by decide +kernel
theorem dX10_taken_8 : decode cX10_taken 8 = .ok (.iconst 0, 1) := by decide +kernel
theorem dX10_taken_9 : decode cX10_taken 9 = .ok (.bipush 7, 2) := by decide +kernel
theorem dX10_taken_11 : decode cX10_taken 11 = .ok (.invokestatic 103, 3) := by decide +kernel
theorem dX10_taken_14 : decode cX10_taken 14 = .ok (.ifCond .ne 5, 3) := by decide +kernel
theorem dX10_taken_17 : decode cX10_taken 17 = .ok (.iconst (-1), 1) := by decide +kernel
theorem dX10_taken_18 : decode cX10_taken 18 = .ok (.ireturn, 1) := by decide +kernel
theorem dX10_taken_19 : decode cX10_taken 19 = .ok (.aload_n 0, 1) := by decide +kernel
theorem dX10_taken_20 : decode cX10_taken 20 = .ok (.getfield 78, 3) := by decide +kernel
theorem dX10_taken_23 : decode cX10_taken 23 = .ok (.iload_n 1, 1) := by decide +kernel
theorem dX10_taken_24 : decode cX10_taken 24 = .ok (.iaload, 1) := by decide +kernel
theorem dX10_taken_25 : decode cX10_taken 25 = .ok (.iconst (-1), 1) := by decide +kernel
theorem dX10_taken_26 : decode cX10_taken 26 = .ok (.if_icmp .ne 6, 3) := by decide +kernel
theorem dX10_taken_29 : decode cX10_taken 29 = .ok (.bipush (-11), 2) := by decide +kernel
theorem dX10_taken_31 : decode cX10_taken 31 = .ok (.ireturn, 1) := by decide +kernel
theorem dX10_taken_32 : decode cX10_taken 32 = .ok (.aload_n 0, 1) := by decide +kernel
theorem dX10_taken_33 : decode cX10_taken 33 = .ok (.iload_n 1, 1) := by decide +kernel
theorem dX10_taken_34 : decode cX10_taken 34 = .ok (.invokevirtual 340, 3) := by decide +kernel
theorem dX10_taken_37 : decode cX10_taken 37 = .ok (.ifCond .eq 6, 3) := by decide +kernel
theorem dX10_taken_40 : decode cX10_taken 40 = .ok (.bipush (-12), 2) := by decide +kernel
theorem dX10_taken_42 : decode cX10_taken 42 = .ok (.ireturn, 1) := by decide +kernel
theorem dX10_taken_43 : decode cX10_taken 43 = .ok (.aload_n 0, 1) := by decide +kernel
theorem dX10_taken_44 : decode cX10_taken 44 = .ok (.getfield 72, 3) := by decide +kernel
theorem dX10_taken_47 : decode cX10_taken 47 = .ok (.aload_n 0, 1) := by decide +kernel
theorem dX10_taken_48 : decode cX10_taken 48 = .ok (.getfield 78, 3) := by decide +kernel
theorem dX10_taken_51 : decode cX10_taken 51 = .ok (.iload_n 1, 1) := by decide +kernel
theorem dX10_taken_52 : decode cX10_taken 52 = .ok (.iaload, 1) := by decide +kernel
theorem dX10_taken_53 : decode cX10_taken 53 = .ok (.bipush 10, 2) := by decide +kernel
theorem dX10_taken_55 : decode cX10_taken 55 = .ok (.isub, 1) := by decide +kernel
theorem dX10_taken_56 : decode cX10_taken 56 = .ok (.iaload, 1) := by decide +kernel
theorem dX10_taken_57 : decode cX10_taken 57 = .ok (.istore_n 3, 1) := by decide +kernel
theorem dX10_taken_58 : decode cX10_taken 58 = .ok (.iload_n 3, 1) := by decide +kernel
theorem dX10_taken_59 : decode cX10_taken 59 = .ok (.istore 4, 2) := by decide +kernel
theorem dX10_taken_61 : decode cX10_taken 61 = .ok (.iload 4, 2) := by decide +kernel
theorem dX10_taken_63 : decode cX10_taken 63 = .ok (.iload_n 2, 1) := by decide +kernel
theorem dX10_taken_64 : decode cX10_taken 64 = .ok (.if_icmp .eq 18, 3) := by decide +kernel
theorem dX10_taken_67 : decode cX10_taken 67 = .ok (.iload 4, 2) := by decide +kernel
theorem dX10_taken_69 : decode cX10_taken 69 = .ok (.ifCond .le 13, 3) := by decide +kernel
theorem dX10_taken_72 : decode cX10_taken 72 = .ok (.iload 4, 2) := by decide +kernel
theorem dX10_taken_74 : decode cX10_taken 74 = .ok (.invokestatic 325, 3) := by decide +kernel
theorem dX10_taken_77 : decode cX10_taken 77 = .ok (.istore 4, 2) := by decide +kernel
theorem dX10_taken_79 : decode cX10_taken 79 = .ok (.goto (-18), 3) := by decide +kernel
theorem dX10_taken_82 : decode cX10_taken 82 = .ok (.iload 4, 2) := by decide +kernel
theorem dX10_taken_84 : decode cX10_taken 84 = .ok (.iload_n 2, 1) := by decide +kernel
theorem dX10_taken_85 : decode cX10_taken 85 = .ok (.if_icmp .ne 7, 3) := by decide +kernel
theorem dX10_taken_88 : decode cX10_taken 88 = .ok (.iload_n 3, 1) := by decide +kernel
theorem dX10_taken_89 : decode cX10_taken 89 = .ok (.goto 5, 3) := by decide +kernel
theorem dX10_taken_92 : decode cX10_taken 92 = .ok (.bipush (-12), 2) := by decide +kernel
theorem dX10_taken_94 : decode cX10_taken 94 = .ok (.ireturn, 1) := by decide +kernel
theorem dX10_count_0 : decode cX10_count 0 = .ok (.iconst 0, 1) := by decide +kernel
theorem dX10_count_1 : decode cX10_count 1 = .ok (.istore_n 2, 1) := by decide +kernel
theorem dX10_count_2 : decode cX10_count 2 = .ok (.iload_n 1, 1) := by decide +kernel
theorem dX10_count_3 : decode cX10_count 3 = .ok (.tableswitch 90 0 5 #[37, 42, 70, 75, 80, 85], 37) := by decide +kernel
theorem dX10_count_40 : decode cX10_count 40 = .ok (.aload_n 0, 1) := by decide +kernel
theorem dX10_count_41 : decode cX10_count 41 = .ok (.getfield 107, 3) := by decide +kernel
theorem dX10_count_44 : decode cX10_count 44 = .ok (.ireturn, 1) := by decide +kernel
theorem dX10_count_45 : decode cX10_count 45 = .ok (.iconst 0, 1) := by decide +kernel
theorem dX10_count_46 : decode cX10_count 46 = .ok (.istore_n 3, 1) := by decide +kernel
theorem dX10_count_47 : decode cX10_count 47 = .ok (.iload_n 3, 1) := by decide +kernel
theorem dX10_count_48 : decode cX10_count 48 = .ok (.bipush 30, 2) := by decide +kernel
theorem dX10_count_50 : decode cX10_count 50 = .ok (.if_icmp .ge 21, 3) := by decide +kernel
theorem dX10_count_53 : decode cX10_count 53 = .ok (.aload_n 0, 1) := by decide +kernel
theorem dX10_count_54 : decode cX10_count 54 = .ok (.getfield 15, 3) := by decide +kernel
theorem dX10_count_57 : decode cX10_count 57 = .ok (.iload_n 3, 1) := by decide +kernel
theorem dX10_count_58 : decode cX10_count 58 = .ok (.iaload, 1) := by decide +kernel
theorem dX10_count_59 : decode cX10_count 59 = .ok (.ifCond .le 6, 3) := by decide +kernel
theorem dX10_count_62 : decode cX10_count 62 = .ok (.iinc 2 1, 3) := by decide +kernel
theorem dX10_count_65 : decode cX10_count 65 = .ok (.iinc 3 1, 3) := by decide +kernel
theorem dX10_count_68 : decode cX10_count 68 = .ok (.goto (-21), 3) := by decide +kernel
theorem dX10_count_71 : decode cX10_count 71 = .ok (.iload_n 2, 1) := by decide +kernel
theorem dX10_count_72 : decode cX10_count 72 = .ok (.ireturn, 1) := by decide +kernel
theorem dX10_count_73 : decode cX10_count 73 = .ok (.aload_n 0, 1) := by decide +kernel
theorem dX10_count_74 : decode cX10_count 74 = .ok (.getfield 151, 3) := by decide +kernel
theorem dX10_count_77 : decode cX10_count 77 = .ok (.ireturn, 1) := by decide +kernel
theorem dX10_count_78 : decode cX10_count 78 = .ok (.aload_n 0, 1) := by decide +kernel
theorem dX10_count_79 : decode cX10_count 79 = .ok (.getfield 145, 3) := by decide +kernel
theorem dX10_count_82 : decode cX10_count 82 = .ok (.ireturn, 1) := by decide +kernel
theorem dX10_count_83 : decode cX10_count 83 = .ok (.aload_n 0, 1) := by decide +kernel
theorem dX10_count_84 : decode cX10_count 84 = .ok (.getfield 337, 3) := by decide +kernel
theorem dX10_count_87 : decode cX10_count 87 = .ok (.ireturn, 1) := by decide +kernel
theorem dX10_count_88 : decode cX10_count 88 = .ok (.aload_n 0, 1) := by decide +kernel
theorem dX10_count_89 : decode cX10_count 89 = .ok (.getfield 316, 3) := by decide +kernel
theorem dX10_count_92 : decode cX10_count 92 = .ok (.ireturn, 1) := by decide +kernel
theorem dX10_count_93 : decode cX10_count 93 = .ok (.iconst (-1), 1) := by decide +kernel
theorem dX10_count_94 : decode cX10_count 94 = .ok (.ireturn, 1) := by decide +kernel
end
section
theorem dL_law_0 : decode cL_law 0 = .ok (.new 7, 3) := by decide +kernel
theorem dL_law_3 : decode cL_law 3 = .ok (.dup, 1) := by decide +kernel
theorem dL_law_4 : decode cL_law 4 = .ok (.invokespecial 9, 3) := by decide +kernel
theorem dL_law_7 : decode cL_law 7 = .ok (.astore_n 1, 1) := by decide +kernel
theorem dL_law_8 : decode cL_law 8 = .ok (.new 10, 3) := by decide +kernel
theorem dL_law_11 : decode cL_law 11 = .ok (.dup, 1) := by decide +kernel
theorem dL_law_12 : decode cL_law 12 = .ok (.invokespecial 12, 3) := by decide +kernel
theorem dL_law_15 : decode cL_law 15 = .ok (.astore_n 2, 1) := by decide +kernel
theorem dL_law_16 : decode cL_law 16 = .ok (.iconst 0, 1) := by decide +kernel
theorem dL_law_17 : decode cL_law 17 = .ok (.istore_n 3, 1) := by decide +kernel
theorem dL_law_18 : decode cL_law 18 = .ok (.iload_n 3, 1) := by decide +kernel
theorem dL_law_19 : decode cL_law 19 = .ok (.aload_n 0, 1) := by decide +kernel
theorem dL_law_20 : decode cL_law 20 = .ok (.arraylength, 1) := by decide +kernel
theorem dL_law_21 : decode cL_law 21 = .ok (.bipush 6, 2) := by decide +kernel
theorem dL_law_23 : decode cL_law 23 = .ok (.isub, 1) := by decide +kernel
theorem dL_law_24 : decode cL_law 24 = .ok (.if_icmp .gt 1367, 3) := by decide +kernel
theorem dL_law_27 : decode cL_law 27 = .ok (.aload_n 0, 1) := by decide +kernel
theorem dL_law_28 : decode cL_law 28 = .ok (.iload_n 3, 1) := by decide +kernel
theorem dL_law_29 : decode cL_law 29 = .ok (.iaload, 1) := by decide +kernel
theorem dL_law_30 : decode cL_law 30 = .ok (.bipush 63, 2) := by decide +kernel
theorem dL_law_32 : decode cL_law 32 = .ok (.iand, 1) := by decide +kernel
theorem dL_law_33 : decode cL_law 33 = .ok (.tableswitch 1352 0 37 #[167, 200, 243, 286, 319, 342, 355, 398, 431, 454, 487, 520, 543, 576, 599, 642, 675, 698, 751, 794, 807, 830, 853, 886, 909, 922, 935, 948, 961, 984, 1027, 1050, 1083, 1126, 1199, 1233, 1296, 1329], 167) := by decide +kernel
theorem dL_law_200 : decode cL_law 200 = .ok (.aload_n 1, 1) := by decide +kernel
theorem dL_law_201 : decode cL_law 201 = .ok (.aload_n 0, 1) := by decide +kernel
theorem dL_law_202 : decode cL_law 202 = .ok (.iload_n 3, 1) := by decide +kernel
theorem dL_law_203 : decode cL_law 203 = .ok (.iconst 1, 1) := by decide +kernel
theorem dL_law_204 : decode cL_law 204 = .ok (.iadd, 1) := by decide +kernel
theorem dL_law_205 : decode cL_law 205 = .ok (.iaload, 1) := by decide +kernel
theorem dL_law_206 : decode cL_law 206 = .ok (.aload_n 0, 1) := by decide +kernel
theorem dL_law_207 : decode cL_law 207 = .ok (.iload_n 3, 1) := by decide +kernel
theorem dL_law_208 : decode cL_law 208 = .ok (.iconst 2, 1) := by decide +kernel
theorem dL_law_209 : decode cL_law 209 = .ok (.iadd, 1) := by decide +kernel
theorem dL_law_210 : decode cL_law 210 = .ok (.iaload, 1) := by decide +kernel
theorem dL_law_211 : decode cL_law 211 = .ok (.invokevirtual 13, 3) := by decide +kernel
theorem dL_law_214 : decode cL_law 214 = .ok (.aload_n 2, 1) := by decide +kernel
theorem dL_law_215 : decode cL_law 215 = .ok (.aload_n 0, 1) := by decide +kernel
theorem dL_law_216 : decode cL_law 216 = .ok (.iload_n 3, 1) := by decide +kernel
theorem dL_law_217 : decode cL_law 217 = .ok (.iconst 1, 1) := by decide +kernel
theorem dL_law_218 : decode cL_law 218 = .ok (.iadd, 1) := by decide +kernel
theorem dL_law_219 : decode cL_law 219 = .ok (.iaload, 1) := by decide +kernel
theorem dL_law_220 : decode cL_law 220 = .ok (.aload_n 0, 1) := by decide +kernel
theorem dL_law_221 : decode cL_law 221 = .ok (.iload_n 3, 1) := by decide +kernel
theorem dL_law_222 : decode cL_law 222 = .ok (.iconst 2, 1) := by decide +kernel
theorem dL_law_223 : decode cL_law 223 = .ok (.iadd, 1) := by decide +kernel
theorem dL_law_224 : decode cL_law 224 = .ok (.iaload, 1) := by decide +kernel
theorem dL_law_225 : decode cL_law 225 = .ok (.invokevirtual 17, 3) := by decide +kernel
theorem dL_law_228 : decode cL_law 228 = .ok (.if_icmp .eq 1157, 3) := by decide +kernel
theorem dL_law_231 : decode cL_law 231 = .ok (.iconst 0, 1) := by decide +kernel
theorem dL_law_232 : decode cL_law 232 = .ok (.ireturn, 1) := by decide +kernel
theorem dL_law_233 : decode cL_law 233 = .ok (.aload_n 1, 1) := by decide +kernel
theorem dL_law_234 : decode cL_law 234 = .ok (.aload_n 0, 1) := by decide +kernel
theorem dL_law_235 : decode cL_law 235 = .ok (.iload_n 3, 1) := by decide +kernel
theorem dL_law_236 : decode cL_law 236 = .ok (.iconst 1, 1) := by decide +kernel
theorem dL_law_237 : decode cL_law 237 = .ok (.iadd, 1) := by decide +kernel
theorem dL_law_238 : decode cL_law 238 = .ok (.iaload, 1) := by decide +kernel
theorem dL_law_239 : decode cL_law 239 = .ok (.aload_n 0, 1) := by decide +kernel
theorem dL_law_240 : decode cL_law 240 = .ok (.iload_n 3, 1) := by decide +kernel
theorem dL_law_241 : decode cL_law 241 = .ok (.iconst 2, 1) := by decide +kernel
theorem dL_law_242 : decode cL_law 242 = .ok (.iadd, 1) := by decide +kernel
theorem dL_law_243 : decode cL_law 243 = .ok (.iaload, 1) := by decide +kernel
theorem dL_law_244 : decode cL_law 244 = .ok (.aload_n 0, 1) := by decide +kernel
theorem dL_law_245 : decode cL_law 245 = .ok (.iload_n 3, 1) := by decide +kernel
theorem dL_law_246 : decode cL_law 246 = .ok (.iconst 3, 1) := by decide +kernel
theorem dL_law_247 : decode cL_law 247 = .ok (.iadd, 1) := by decide +kernel
theorem dL_law_248 : decode cL_law 248 = .ok (.iaload, 1) := by decide +kernel
theorem dL_law_249 : decode cL_law 249 = .ok (.invokevirtual 18, 3) := by decide +kernel
theorem dL_law_252 : decode cL_law 252 = .ok (.aload_n 2, 1) := by decide +kernel
theorem dL_law_253 : decode cL_law 253 = .ok (.aload_n 0, 1) := by decide +kernel
theorem dL_law_254 : decode cL_law 254 = .ok (.iload_n 3, 1) := by decide +kernel
theorem dL_law_255 : decode cL_law 255 = .ok (.iconst 1, 1) := by decide +kernel
theorem dL_law_256 : decode cL_law 256 = .ok (.iadd, 1) := by decide +kernel
theorem dL_law_257 : decode cL_law 257 = .ok (.iaload, 1) := by decide +kernel
theorem dL_law_258 : decode cL_law 258 = .ok (.aload_n 0, 1) := by decide +kernel
theorem dL_law_259 : decode cL_law 259 = .ok (.iload_n 3, 1) := by decide +kernel
theorem dL_law_260 : decode cL_law 260 = .ok (.iconst 2, 1) := by decide +kernel
theorem dL_law_261 : decode cL_law 261 = .ok (.iadd, 1) := by decide +kernel
theorem dL_law_262 : decode cL_law 262 = .ok (.iaload, 1) := by decide +kernel
theorem dL_law_263 : decode cL_law 263 = .ok (.aload_n 0, 1) := by decide +kernel
theorem dL_law_264 : decode cL_law 264 = .ok (.iload_n 3, 1) := by decide +kernel
theorem dL_law_265 : decode cL_law 265 = .ok (.iconst 3, 1) := by decide +kernel
theorem dL_law_266 : decode cL_law 266 = .ok (.iadd, 1) := by decide +kernel
theorem dL_law_267 : decode cL_law 267 = .ok (.iaload, 1) := by decide +kernel
theorem dL_law_268 : decode cL_law 268 = .ok (.invokevirtual 22, 3) := by decide +kernel
theorem dL_law_271 : decode cL_law 271 = .ok (.if_icmp .eq 1114, 3) := by decide +kernel
theorem dL_law_274 : decode cL_law 274 = .ok (.iconst 0, 1) := by decide +kernel
theorem dL_law_275 : decode cL_law 275 = .ok (.ireturn, 1) := by decide +kernel
theorem dL_law_276 : decode cL_law 276 = .ok (.aload_n 1, 1) := by decide +kernel
theorem dL_law_277 : decode cL_law 277 = .ok (.aload_n 0, 1) := by decide +kernel
theorem dL_law_278 : decode cL_law 278 = .ok (.iload_n 3, 1) := by decide +kernel
theorem dL_law_279 : decode cL_law 279 = .ok (.iconst 1, 1) := by decide +kernel
theorem dL_law_280 : decode cL_law 280 = .ok (.iadd, 1) := by decide +kernel
theorem dL_law_281 : decode cL_law 281 = .ok (.iaload, 1) := by decide +kernel
theorem dL_law_282 : decode cL_law 282 = .ok (.aload_n 0, 1) := by decide +kernel
theorem dL_law_283 : decode cL_law 283 = .ok (.iload_n 3, 1) := by decide +kernel
theorem dL_law_284 : decode cL_law 284 = .ok (.iconst 2, 1) := by decide +kernel
theorem dL_law_285 : decode cL_law 285 = .ok (.iadd, 1) := by decide +kernel
theorem dL_law_286 : decode cL_law 286 = .ok (.iaload, 1) := by decide +kernel
theorem dL_law_287 : decode cL_law 287 = .ok (.aload_n 0, 1) := by decide +kernel
theorem dL_law_288 : decode cL_law 288 = .ok (.iload_n 3, 1) := by decide +kernel
theorem dL_law_289 : decode cL_law 289 = .ok (.iconst 3, 1) := by decide +kernel
theorem dL_law_290 : decode cL_law 290 = .ok (.iadd, 1) := by decide +kernel
theorem dL_law_291 : decode cL_law 291 = .ok (.iaload, 1) := by decide +kernel
theorem dL_law_292 : decode cL_law 292 = .ok (.invokevirtual 23, 3) := by decide +kernel
theorem dL_law_295 : decode cL_law 295 = .ok (.aload_n 2, 1) := by decide +kernel
theorem dL_law_296 : decode cL_law 296 = .ok (.aload_n 0, 1) := by decide +kernel
theorem dL_law_297 : decode cL_law 297 = .ok (.iload_n 3, 1) := by decide +kernel
theorem dL_law_298 : decode cL_law 298 = .ok (.iconst 1, 1) := by decide +kernel
theorem dL_law_299 : decode cL_law 299 = .ok (.iadd, 1) := by decide +kernel
theorem dL_law_300 : decode cL_law 300 = .ok (.iaload, 1) := by decide +kernel
theorem dL_law_301 : decode cL_law 301 = .ok (.aload_n 0, 1) := by decide +kernel
theorem dL_law_302 : decode cL_law 302 = .ok (.iload_n 3, 1) := by decide +kernel
theorem dL_law_303 : decode cL_law 303 = .ok (.iconst 2, 1) := by decide +kernel
theorem dL_law_304 : decode cL_law 304 = .ok (.iadd, 1) := by decide +kernel
theorem dL_law_305 : decode cL_law 305 = .ok (.iaload, 1) := by decide +kernel
theorem dL_law_306 : decode cL_law 306 = .ok (.aload_n 0, 1) := by decide +kernel
theorem dL_law_307 : decode cL_law 307 = .ok (.iload_n 3, 1) := by decide +kernel
theorem dL_law_308 : decode cL_law 308 = .ok (.iconst 3, 1) := by decide +kernel
theorem dL_law_309 : decode cL_law 309 = .ok (.iadd, 1) := by decide +kernel
theorem dL_law_310 : decode cL_law 310 = .ok (.iaload, 1) := by decide +kernel
theorem dL_law_311 : decode cL_law 311 = .ok (.invokevirtual 26, 3) := by decide +kernel
theorem dL_law_314 : decode cL_law 314 = .ok (.if_icmp .eq 1071, 3) := by decide +kernel
theorem dL_law_317 : decode cL_law 317 = .ok (.iconst 0, 1) := by decide +kernel
theorem dL_law_318 : decode cL_law 318 = .ok (.ireturn, 1) := by decide +kernel
theorem dL_law_319 : decode cL_law 319 = .ok (.aload_n 1, 1) := by decide +kernel
theorem dL_law_320 : decode cL_law 320 = .ok (.aload_n 0, 1) := by decide +kernel
theorem dL_law_321 : decode cL_law 321 = .ok (.iload_n 3, 1) := by decide +kernel
theorem dL_law_322 : decode cL_law 322 = .ok (.iconst 1, 1) := by decide +kernel
theorem dL_law_323 : decode cL_law 323 = .ok (.iadd, 1) := by decide +kernel
theorem dL_law_324 : decode cL_law 324 = .ok (.iaload, 1) := by decide +kernel
theorem dL_law_325 : decode cL_law 325 = .ok (.aload_n 0, 1) := by decide +kernel
theorem dL_law_326 : decode cL_law 326 = .ok (.iload_n 3, 1) := by decide +kernel
theorem dL_law_327 : decode cL_law 327 = .ok (.iconst 2, 1) := by decide +kernel
theorem dL_law_328 : decode cL_law 328 = .ok (.iadd, 1) := by decide +kernel
theorem dL_law_329 : decode cL_law 329 = .ok (.iaload, 1) := by decide +kernel
theorem dL_law_330 : decode cL_law 330 = .ok (.invokevirtual 27, 3) := by decide +kernel
theorem dL_law_333 : decode cL_law 333 = .ok (.aload_n 2, 1) := by decide +kernel
theorem dL_law_334 : decode cL_law 334 = .ok (.aload_n 0, 1) := by decide +kernel
theorem dL_law_335 : decode cL_law 335 = .ok (.iload_n 3, 1) := by decide +kernel
theorem dL_law_336 : decode cL_law 336 = .ok (.iconst 1, 1) := by decide +kernel
theorem dL_law_337 : decode cL_law 337 = .ok (.iadd, 1) := by decide +kernel
theorem dL_law_338 : decode cL_law 338 = .ok (.iaload, 1) := by decide +kernel
theorem dL_law_339 : decode cL_law 339 = .ok (.aload_n 0, 1) := by decide +kernel
theorem dL_law_340 : decode cL_law 340 = .ok (.iload_n 3, 1) := by decide +kernel
theorem dL_law_341 : decode cL_law 341 = .ok (.iconst 2, 1) := by decide +kernel
theorem dL_law_342 : decode cL_law 342 = .ok (.iadd, 1) := by decide +kernel
theorem dL_law_343 : decode cL_law 343 = .ok (.iaload, 1) := by decide +kernel
theorem dL_law_344 : decode cL_law 344 = .ok (.invokevirtual 30, 3) := by decide +kernel
theorem dL_law_347 : decode cL_law 347 = .ok (.if_icmp .eq 1038, 3) := by decide +kernel
theorem dL_law_350 : decode cL_law 350 = .ok (.iconst 0, 1) := by decide +kernel
theorem dL_law_351 : decode cL_law 351 = .ok (.ireturn, 1) := by decide +kernel
theorem dL_law_352 : decode cL_law 352 = .ok (.aload_n 1, 1) := by decide +kernel
theorem dL_law_353 : decode cL_law 353 = .ok (.aload_n 0, 1) := by decide +kernel
theorem dL_law_354 : decode cL_law 354 = .ok (.iload_n 3, 1) := by decide +kernel
theorem dL_law_355 : decode cL_law 355 = .ok (.iconst 1, 1) := by decide +kernel
theorem dL_law_356 : decode cL_law 356 = .ok (.iadd, 1) := by decide +kernel
theorem dL_law_357 : decode cL_law 357 = .ok (.iaload, 1) := by decide +kernel
theorem dL_law_358 : decode cL_law 358 = .ok (.invokevirtual 31, 3) := by decide +kernel
theorem dL_law_361 : decode cL_law 361 = .ok (.aload_n 2, 1) := by decide +kernel
theorem dL_law_362 : decode cL_law 362 = .ok (.aload_n 0, 1) := by decide +kernel
theorem dL_law_363 : decode cL_law 363 = .ok (.iload_n 3, 1) := by decide +kernel
theorem dL_law_364 : decode cL_law 364 = .ok (.iconst 1, 1) := by decide +kernel
theorem dL_law_365 : decode cL_law 365 = .ok (.iadd, 1) := by decide +kernel
theorem dL_law_366 : decode cL_law 366 = .ok (.iaload, 1) := by decide +kernel
theorem dL_law_367 : decode cL_law 367 = .ok (.invokevirtual 35, 3) := by decide +kernel
theorem dL_law_370 : decode cL_law 370 = .ok (.if_icmp .eq 1015, 3) := by decide +kernel
theorem dL_law_373 : decode cL_law 373 = .ok (.iconst 0, 1) := by decide +kernel
theorem dL_law_374 : decode cL_law 374 = .ok (.ireturn, 1) := by decide +kernel
theorem dL_law_375 : decode cL_law 375 = .ok (.aload_n 1, 1) := by decide +kernel
theorem dL_law_376 : decode cL_law 376 = .ok (.invokevirtual 36, 3) := by decide +kernel
theorem dL_law_379 : decode cL_law 379 = .ok (.aload_n 2, 1) := by decide +kernel
theorem dL_law_380 : decode cL_law 380 = .ok (.invokevirtual 40, 3) := by decide +kernel
theorem dL_law_383 : decode cL_law 383 = .ok (.if_icmp .eq 1002, 3) := by decide +kernel
theorem dL_law_386 : decode cL_law 386 = .ok (.iconst 0, 1) := by decide +kernel
theorem dL_law_387 : decode cL_law 387 = .ok (.ireturn, 1) := by decide +kernel
theorem dL_law_388 : decode cL_law 388 = .ok (.aload_n 1, 1) := by decide +kernel
theorem dL_law_389 : decode cL_law 389 = .ok (.aload_n 0, 1) := by decide +kernel
theorem dL_law_390 : decode cL_law 390 = .ok (.iload_n 3, 1) := by decide +kernel
theorem dL_law_391 : decode cL_law 391 = .ok (.iconst 1, 1) := by decide +kernel
theorem dL_law_392 : decode cL_law 392 = .ok (.iadd, 1) := by decide +kernel
theorem dL_law_393 : decode cL_law 393 = .ok (.iaload, 1) := by decide +kernel
theorem dL_law_394 : decode cL_law 394 = .ok (.aload_n 0, 1) := by decide +kernel
theorem dL_law_395 : decode cL_law 395 = .ok (.iload_n 3, 1) := by decide +kernel
theorem dL_law_396 : decode cL_law 396 = .ok (.iconst 2, 1) := by decide +kernel
theorem dL_law_397 : decode cL_law 397 = .ok (.iadd, 1) := by decide +kernel
theorem dL_law_398 : decode cL_law 398 = .ok (.iaload, 1) := by decide +kernel
theorem dL_law_399 : decode cL_law 399 = .ok (.aload_n 0, 1) := by decide +kernel
theorem dL_law_400 : decode cL_law 400 = .ok (.iload_n 3, 1) := by decide +kernel
theorem dL_law_401 : decode cL_law 401 = .ok (.iconst 3, 1) := by decide +kernel
theorem dL_law_402 : decode cL_law 402 = .ok (.iadd, 1) := by decide +kernel
theorem dL_law_403 : decode cL_law 403 = .ok (.iaload, 1) := by decide +kernel
theorem dL_law_404 : decode cL_law 404 = .ok (.invokevirtual 41, 3) := by decide +kernel
theorem dL_law_407 : decode cL_law 407 = .ok (.aload_n 2, 1) := by decide +kernel
theorem dL_law_408 : decode cL_law 408 = .ok (.aload_n 0, 1) := by decide +kernel
theorem dL_law_409 : decode cL_law 409 = .ok (.iload_n 3, 1) := by decide +kernel
theorem dL_law_410 : decode cL_law 410 = .ok (.iconst 1, 1) := by decide +kernel
theorem dL_law_411 : decode cL_law 411 = .ok (.iadd, 1) := by decide +kernel
theorem dL_law_412 : decode cL_law 412 = .ok (.iaload, 1) := by decide +kernel
theorem dL_law_413 : decode cL_law 413 = .ok (.aload_n 0, 1) := by decide +kernel
theorem dL_law_414 : decode cL_law 414 = .ok (.iload_n 3, 1) := by decide +kernel
theorem dL_law_415 : decode cL_law 415 = .ok (.iconst 2, 1) := by decide +kernel
theorem dL_law_416 : decode cL_law 416 = .ok (.iadd, 1) := by decide +kernel
theorem dL_law_417 : decode cL_law 417 = .ok (.iaload, 1) := by decide +kernel
theorem dL_law_418 : decode cL_law 418 = .ok (.aload_n 0, 1) := by decide +kernel
theorem dL_law_419 : decode cL_law 419 = .ok (.iload_n 3, 1) := by decide +kernel
theorem dL_law_420 : decode cL_law 420 = .ok (.iconst 3, 1) := by decide +kernel
theorem dL_law_421 : decode cL_law 421 = .ok (.iadd, 1) := by decide +kernel
theorem dL_law_422 : decode cL_law 422 = .ok (.iaload, 1) := by decide +kernel
theorem dL_law_423 : decode cL_law 423 = .ok (.invokevirtual 44, 3) := by decide +kernel
theorem dL_law_426 : decode cL_law 426 = .ok (.if_icmp .eq 959, 3) := by decide +kernel
theorem dL_law_429 : decode cL_law 429 = .ok (.iconst 0, 1) := by decide +kernel
theorem dL_law_430 : decode cL_law 430 = .ok (.ireturn, 1) := by decide +kernel
theorem dL_law_431 : decode cL_law 431 = .ok (.aload_n 1, 1) := by decide +kernel
theorem dL_law_432 : decode cL_law 432 = .ok (.aload_n 0, 1) := by decide +kernel
theorem dL_law_433 : decode cL_law 433 = .ok (.iload_n 3, 1) := by decide +kernel
theorem dL_law_434 : decode cL_law 434 = .ok (.iconst 1, 1) := by decide +kernel
theorem dL_law_435 : decode cL_law 435 = .ok (.iadd, 1) := by decide +kernel
theorem dL_law_436 : decode cL_law 436 = .ok (.iaload, 1) := by decide +kernel
theorem dL_law_437 : decode cL_law 437 = .ok (.aload_n 0, 1) := by decide +kernel
theorem dL_law_438 : decode cL_law 438 = .ok (.iload_n 3, 1) := by decide +kernel
theorem dL_law_439 : decode cL_law 439 = .ok (.iconst 2, 1) := by decide +kernel
theorem dL_law_440 : decode cL_law 440 = .ok (.iadd, 1) := by decide +kernel
theorem dL_law_441 : decode cL_law 441 = .ok (.iaload, 1) := by decide +kernel
theorem dL_law_442 : decode cL_law 442 = .ok (.invokevirtual 45, 3) := by decide +kernel
theorem dL_law_445 : decode cL_law 445 = .ok (.aload_n 2, 1) := by decide +kernel
theorem dL_law_446 : decode cL_law 446 = .ok (.aload_n 0, 1) := by decide +kernel
theorem dL_law_447 : decode cL_law 447 = .ok (.iload_n 3, 1) := by decide +kernel
theorem dL_law_448 : decode cL_law 448 = .ok (.iconst 1, 1) := by decide +kernel
theorem dL_law_449 : decode cL_law 449 = .ok (.iadd, 1) := by decide +kernel
theorem dL_law_450 : decode cL_law 450 = .ok (.iaload, 1) := by decide +kernel
theorem dL_law_451 : decode cL_law 451 = .ok (.aload_n 0, 1) := by decide +kernel
theorem dL_law_452 : decode cL_law 452 = .ok (.iload_n 3, 1) := by decide +kernel
theorem dL_law_453 : decode cL_law 453 = .ok (.iconst 2, 1) := by decide +kernel
theorem dL_law_454 : decode cL_law 454 = .ok (.iadd, 1) := by decide +kernel
theorem dL_law_455 : decode cL_law 455 = .ok (.iaload, 1) := by decide +kernel
theorem dL_law_456 : decode cL_law 456 = .ok (.invokevirtual 48, 3) := by decide +kernel
theorem dL_law_459 : decode cL_law 459 = .ok (.if_icmp .eq 926, 3) := by decide +kernel
theorem dL_law_462 : decode cL_law 462 = .ok (.iconst 0, 1) := by decide +kernel
theorem dL_law_463 : decode cL_law 463 = .ok (.ireturn, 1) := by decide +kernel
theorem dL_law_464 : decode cL_law 464 = .ok (.aload_n 1, 1) := by decide +kernel
theorem dL_law_465 : decode cL_law 465 = .ok (.aload_n 0, 1) := by decide +kernel
theorem dL_law_466 : decode cL_law 466 = .ok (.iload_n 3, 1) := by decide +kernel
theorem dL_law_467 : decode cL_law 467 = .ok (.iconst 1, 1) := by decide +kernel
theorem dL_law_468 : decode cL_law 468 = .ok (.iadd, 1) := by decide +kernel
theorem dL_law_469 : decode cL_law 469 = .ok (.iaload, 1) := by decide +kernel
theorem dL_law_470 : decode cL_law 470 = .ok (.invokevirtual 49, 3) := by decide +kernel
theorem dL_law_473 : decode cL_law 473 = .ok (.aload_n 2, 1) := by decide +kernel
theorem dL_law_474 : decode cL_law 474 = .ok (.aload_n 0, 1) := by decide +kernel
theorem dL_law_475 : decode cL_law 475 = .ok (.iload_n 3, 1) := by decide +kernel
theorem dL_law_476 : decode cL_law 476 = .ok (.iconst 1, 1) := by decide +kernel
theorem dL_law_477 : decode cL_law 477 = .ok (.iadd, 1) := by decide +kernel
theorem dL_law_478 : decode cL_law 478 = .ok (.iaload, 1) := by decide +kernel
theorem dL_law_479 : decode cL_law 479 = .ok (.invokevirtual 52, 3) := by decide +kernel
theorem dL_law_482 : decode cL_law 482 = .ok (.if_icmp .eq 903, 3) := by decide +kernel
theorem dL_law_485 : decode cL_law 485 = .ok (.iconst 0, 1) := by decide +kernel
theorem dL_law_486 : decode cL_law 486 = .ok (.ireturn, 1) := by decide +kernel
theorem dL_law_487 : decode cL_law 487 = .ok (.aload_n 1, 1) := by decide +kernel
theorem dL_law_488 : decode cL_law 488 = .ok (.aload_n 0, 1) := by decide +kernel
theorem dL_law_489 : decode cL_law 489 = .ok (.iload_n 3, 1) := by decide +kernel
theorem dL_law_490 : decode cL_law 490 = .ok (.iconst 1, 1) := by decide +kernel
theorem dL_law_491 : decode cL_law 491 = .ok (.iadd, 1) := by decide +kernel
theorem dL_law_492 : decode cL_law 492 = .ok (.iaload, 1) := by decide +kernel
theorem dL_law_493 : decode cL_law 493 = .ok (.aload_n 0, 1) := by decide +kernel
theorem dL_law_494 : decode cL_law 494 = .ok (.iload_n 3, 1) := by decide +kernel
theorem dL_law_495 : decode cL_law 495 = .ok (.iconst 2, 1) := by decide +kernel
theorem dL_law_496 : decode cL_law 496 = .ok (.iadd, 1) := by decide +kernel
theorem dL_law_497 : decode cL_law 497 = .ok (.iaload, 1) := by decide +kernel
theorem dL_law_498 : decode cL_law 498 = .ok (.invokevirtual 53, 3) := by decide +kernel
theorem dL_law_501 : decode cL_law 501 = .ok (.aload_n 2, 1) := by decide +kernel
theorem dL_law_502 : decode cL_law 502 = .ok (.aload_n 0, 1) := by decide +kernel
theorem dL_law_503 : decode cL_law 503 = .ok (.iload_n 3, 1) := by decide +kernel
theorem dL_law_504 : decode cL_law 504 = .ok (.iconst 1, 1) := by decide +kernel
theorem dL_law_505 : decode cL_law 505 = .ok (.iadd, 1) := by decide +kernel
theorem dL_law_506 : decode cL_law 506 = .ok (.iaload, 1) := by decide +kernel
theorem dL_law_507 : decode cL_law 507 = .ok (.aload_n 0, 1) := by decide +kernel
theorem dL_law_508 : decode cL_law 508 = .ok (.iload_n 3, 1) := by decide +kernel
theorem dL_law_509 : decode cL_law 509 = .ok (.iconst 2, 1) := by decide +kernel
theorem dL_law_510 : decode cL_law 510 = .ok (.iadd, 1) := by decide +kernel
theorem dL_law_511 : decode cL_law 511 = .ok (.iaload, 1) := by decide +kernel
theorem dL_law_512 : decode cL_law 512 = .ok (.invokevirtual 56, 3) := by decide +kernel
theorem dL_law_515 : decode cL_law 515 = .ok (.if_icmp .eq 870, 3) := by decide +kernel
theorem dL_law_518 : decode cL_law 518 = .ok (.iconst 0, 1) := by decide +kernel
theorem dL_law_519 : decode cL_law 519 = .ok (.ireturn, 1) := by decide +kernel
theorem dL_law_520 : decode cL_law 520 = .ok (.aload_n 1, 1) := by decide +kernel
theorem dL_law_521 : decode cL_law 521 = .ok (.aload_n 0, 1) := by decide +kernel
theorem dL_law_522 : decode cL_law 522 = .ok (.iload_n 3, 1) := by decide +kernel
theorem dL_law_523 : decode cL_law 523 = .ok (.iconst 1, 1) := by decide +kernel
theorem dL_law_524 : decode cL_law 524 = .ok (.iadd, 1) := by decide +kernel
theorem dL_law_525 : decode cL_law 525 = .ok (.iaload, 1) := by decide +kernel
theorem dL_law_526 : decode cL_law 526 = .ok (.aload_n 0, 1) := by decide +kernel
theorem dL_law_527 : decode cL_law 527 = .ok (.iload_n 3, 1) := by decide +kernel
theorem dL_law_528 : decode cL_law 528 = .ok (.iconst 2, 1) := by decide +kernel
theorem dL_law_529 : decode cL_law 529 = .ok (.iadd, 1) := by decide +kernel
theorem dL_law_530 : decode cL_law 530 = .ok (.iaload, 1) := by decide +kernel
theorem dL_law_531 : decode cL_law 531 = .ok (.invokevirtual 57, 3) := by decide +kernel
theorem dL_law_534 : decode cL_law 534 = .ok (.aload_n 2, 1) := by decide +kernel
theorem dL_law_535 : decode cL_law 535 = .ok (.aload_n 0, 1) := by decide +kernel
theorem dL_law_536 : decode cL_law 536 = .ok (.iload_n 3, 1) := by decide +kernel
theorem dL_law_537 : decode cL_law 537 = .ok (.iconst 1, 1) := by decide +kernel
theorem dL_law_538 : decode cL_law 538 = .ok (.iadd, 1) := by decide +kernel
theorem dL_law_539 : decode cL_law 539 = .ok (.iaload, 1) := by decide +kernel
theorem dL_law_540 : decode cL_law 540 = .ok (.aload_n 0, 1) := by decide +kernel
theorem dL_law_541 : decode cL_law 541 = .ok (.iload_n 3, 1) := by decide +kernel
theorem dL_law_542 : decode cL_law 542 = .ok (.iconst 2, 1) := by decide +kernel
theorem dL_law_543 : decode cL_law 543 = .ok (.iadd, 1) := by decide +kernel
theorem dL_law_544 : decode cL_law 544 = .ok (.iaload, 1) := by decide +kernel
theorem dL_law_545 : decode cL_law 545 = .ok (.invokevirtual 60, 3) := by decide +kernel
theorem dL_law_548 : decode cL_law 548 = .ok (.if_icmp .eq 837, 3) := by decide +kernel
theorem dL_law_551 : decode cL_law 551 = .ok (.iconst 0, 1) := by decide +kernel
theorem dL_law_552 : decode cL_law 552 = .ok (.ireturn, 1) := by decide +kernel
theorem dL_law_553 : decode cL_law 553 = .ok (.aload_n 1, 1) := by decide +kernel
theorem dL_law_554 : decode cL_law 554 = .ok (.aload_n 0, 1) := by decide +kernel
theorem dL_law_555 : decode cL_law 555 = .ok (.iload_n 3, 1) := by decide +kernel
theorem dL_law_556 : decode cL_law 556 = .ok (.iconst 1, 1) := by decide +kernel
theorem dL_law_557 : decode cL_law 557 = .ok (.iadd, 1) := by decide +kernel
theorem dL_law_558 : decode cL_law 558 = .ok (.iaload, 1) := by decide +kernel
theorem dL_law_559 : decode cL_law 559 = .ok (.invokevirtual 61, 3) := by decide +kernel
theorem dL_law_562 : decode cL_law 562 = .ok (.aload_n 2, 1) := by decide +kernel
theorem dL_law_563 : decode cL_law 563 = .ok (.aload_n 0, 1) := by decide +kernel
theorem dL_law_564 : decode cL_law 564 = .ok (.iload_n 3, 1) := by decide +kernel
theorem dL_law_565 : decode cL_law 565 = .ok (.iconst 1, 1) := by decide +kernel
theorem dL_law_566 : decode cL_law 566 = .ok (.iadd, 1) := by decide +kernel
theorem dL_law_567 : decode cL_law 567 = .ok (.iaload, 1) := by decide +kernel
theorem dL_law_568 : decode cL_law 568 = .ok (.invokevirtual 64, 3) := by decide +kernel
theorem dL_law_571 : decode cL_law 571 = .ok (.if_icmp .eq 814, 3) := by decide +kernel
theorem dL_law_574 : decode cL_law 574 = .ok (.iconst 0, 1) := by decide +kernel
theorem dL_law_575 : decode cL_law 575 = .ok (.ireturn, 1) := by decide +kernel
theorem dL_law_576 : decode cL_law 576 = .ok (.aload_n 1, 1) := by decide +kernel
theorem dL_law_577 : decode cL_law 577 = .ok (.aload_n 0, 1) := by decide +kernel
theorem dL_law_578 : decode cL_law 578 = .ok (.iload_n 3, 1) := by decide +kernel
theorem dL_law_579 : decode cL_law 579 = .ok (.iconst 1, 1) := by decide +kernel
theorem dL_law_580 : decode cL_law 580 = .ok (.iadd, 1) := by decide +kernel
theorem dL_law_581 : decode cL_law 581 = .ok (.iaload, 1) := by decide +kernel
theorem dL_law_582 : decode cL_law 582 = .ok (.aload_n 0, 1) := by decide +kernel
theorem dL_law_583 : decode cL_law 583 = .ok (.iload_n 3, 1) := by decide +kernel
theorem dL_law_584 : decode cL_law 584 = .ok (.iconst 2, 1) := by decide +kernel
theorem dL_law_585 : decode cL_law 585 = .ok (.iadd, 1) := by decide +kernel
theorem dL_law_586 : decode cL_law 586 = .ok (.iaload, 1) := by decide +kernel
theorem dL_law_587 : decode cL_law 587 = .ok (.invokevirtual 65, 3) := by decide +kernel
theorem dL_law_590 : decode cL_law 590 = .ok (.aload_n 2, 1) := by decide +kernel
theorem dL_law_591 : decode cL_law 591 = .ok (.aload_n 0, 1) := by decide +kernel
theorem dL_law_592 : decode cL_law 592 = .ok (.iload_n 3, 1) := by decide +kernel
theorem dL_law_593 : decode cL_law 593 = .ok (.iconst 1, 1) := by decide +kernel
theorem dL_law_594 : decode cL_law 594 = .ok (.iadd, 1) := by decide +kernel
theorem dL_law_595 : decode cL_law 595 = .ok (.iaload, 1) := by decide +kernel
theorem dL_law_596 : decode cL_law 596 = .ok (.aload_n 0, 1) := by decide +kernel
theorem dL_law_597 : decode cL_law 597 = .ok (.iload_n 3, 1) := by decide +kernel
theorem dL_law_598 : decode cL_law 598 = .ok (.iconst 2, 1) := by decide +kernel
theorem dL_law_599 : decode cL_law 599 = .ok (.iadd, 1) := by decide +kernel
theorem dL_law_600 : decode cL_law 600 = .ok (.iaload, 1) := by decide +kernel
theorem dL_law_601 : decode cL_law 601 = .ok (.invokevirtual 68, 3) := by decide +kernel
theorem dL_law_604 : decode cL_law 604 = .ok (.if_icmp .eq 781, 3) := by decide +kernel
theorem dL_law_607 : decode cL_law 607 = .ok (.iconst 0, 1) := by decide +kernel
theorem dL_law_608 : decode cL_law 608 = .ok (.ireturn, 1) := by decide +kernel
theorem dL_law_609 : decode cL_law 609 = .ok (.aload_n 1, 1) := by decide +kernel
theorem dL_law_610 : decode cL_law 610 = .ok (.aload_n 0, 1) := by decide +kernel
theorem dL_law_611 : decode cL_law 611 = .ok (.iload_n 3, 1) := by decide +kernel
theorem dL_law_612 : decode cL_law 612 = .ok (.iconst 1, 1) := by decide +kernel
theorem dL_law_613 : decode cL_law 613 = .ok (.iadd, 1) := by decide +kernel
theorem dL_law_614 : decode cL_law 614 = .ok (.iaload, 1) := by decide +kernel
theorem dL_law_615 : decode cL_law 615 = .ok (.invokevirtual 69, 3) := by decide +kernel
theorem dL_law_618 : decode cL_law 618 = .ok (.aload_n 2, 1) := by decide +kernel
theorem dL_law_619 : decode cL_law 619 = .ok (.aload_n 0, 1) := by decide +kernel
theorem dL_law_620 : decode cL_law 620 = .ok (.iload_n 3, 1) := by decide +kernel
theorem dL_law_621 : decode cL_law 621 = .ok (.iconst 1, 1) := by decide +kernel
theorem dL_law_622 : decode cL_law 622 = .ok (.iadd, 1) := by decide +kernel
theorem dL_law_623 : decode cL_law 623 = .ok (.iaload, 1) := by decide +kernel
theorem dL_law_624 : decode cL_law 624 = .ok (.invokevirtual 72, 3) := by decide +kernel
theorem dL_law_627 : decode cL_law 627 = .ok (.if_icmp .eq 758, 3) := by decide +kernel
theorem dL_law_630 : decode cL_law 630 = .ok (.iconst 0, 1) := by decide +kernel
theorem dL_law_631 : decode cL_law 631 = .ok (.ireturn, 1) := by decide +kernel
theorem dL_law_632 : decode cL_law 632 = .ok (.aload_n 1, 1) := by decide +kernel
theorem dL_law_633 : decode cL_law 633 = .ok (.aload_n 0, 1) := by decide +kernel
theorem dL_law_634 : decode cL_law 634 = .ok (.iload_n 3, 1) := by decide +kernel
theorem dL_law_635 : decode cL_law 635 = .ok (.iconst 1, 1) := by decide +kernel
theorem dL_law_636 : decode cL_law 636 = .ok (.iadd, 1) := by decide +kernel
theorem dL_law_637 : decode cL_law 637 = .ok (.iaload, 1) := by decide +kernel
theorem dL_law_638 : decode cL_law 638 = .ok (.aload_n 0, 1) := by decide +kernel
theorem dL_law_639 : decode cL_law 639 = .ok (.iload_n 3, 1) := by decide +kernel
theorem dL_law_640 : decode cL_law 640 = .ok (.iconst 2, 1) := by decide +kernel
theorem dL_law_641 : decode cL_law 641 = .ok (.iadd, 1) := by decide +kernel
theorem dL_law_642 : decode cL_law 642 = .ok (.iaload, 1) := by decide +kernel
theorem dL_law_643 : decode cL_law 643 = .ok (.aload_n 0, 1) := by decide +kernel
theorem dL_law_644 : decode cL_law 644 = .ok (.iload_n 3, 1) := by decide +kernel
theorem dL_law_645 : decode cL_law 645 = .ok (.iconst 3, 1) := by decide +kernel
theorem dL_law_646 : decode cL_law 646 = .ok (.iadd, 1) := by decide +kernel
theorem dL_law_647 : decode cL_law 647 = .ok (.iaload, 1) := by decide +kernel
theorem dL_law_648 : decode cL_law 648 = .ok (.invokevirtual 73, 3) := by decide +kernel
theorem dL_law_651 : decode cL_law 651 = .ok (.aload_n 2, 1) := by decide +kernel
theorem dL_law_652 : decode cL_law 652 = .ok (.aload_n 0, 1) := by decide +kernel
theorem dL_law_653 : decode cL_law 653 = .ok (.iload_n 3, 1) := by decide +kernel
theorem dL_law_654 : decode cL_law 654 = .ok (.iconst 1, 1) := by decide +kernel
theorem dL_law_655 : decode cL_law 655 = .ok (.iadd, 1) := by decide +kernel
theorem dL_law_656 : decode cL_law 656 = .ok (.iaload, 1) := by decide +kernel
theorem dL_law_657 : decode cL_law 657 = .ok (.aload_n 0, 1) := by decide +kernel
theorem dL_law_658 : decode cL_law 658 = .ok (.iload_n 3, 1) := by decide +kernel
theorem dL_law_659 : decode cL_law 659 = .ok (.iconst 2, 1) := by decide +kernel
theorem dL_law_660 : decode cL_law 660 = .ok (.iadd, 1) := by decide +kernel
theorem dL_law_661 : decode cL_law 661 = .ok (.iaload, 1) := by decide +kernel
theorem dL_law_662 : decode cL_law 662 = .ok (.aload_n 0, 1) := by decide +kernel
theorem dL_law_663 : decode cL_law 663 = .ok (.iload_n 3, 1) := by decide +kernel
theorem dL_law_664 : decode cL_law 664 = .ok (.iconst 3, 1) := by decide +kernel
theorem dL_law_665 : decode cL_law 665 = .ok (.iadd, 1) := by decide +kernel
theorem dL_law_666 : decode cL_law 666 = .ok (.iaload, 1) := by decide +kernel
theorem dL_law_667 : decode cL_law 667 = .ok (.invokevirtual 76, 3) := by decide +kernel
theorem dL_law_670 : decode cL_law 670 = .ok (.if_icmp .eq 715, 3) := by decide +kernel
theorem dL_law_673 : decode cL_law 673 = .ok (.iconst 0, 1) := by decide +kernel
theorem dL_law_674 : decode cL_law 674 = .ok (.ireturn, 1) := by decide +kernel
theorem dL_law_675 : decode cL_law 675 = .ok (.aload_n 1, 1) := by decide +kernel
theorem dL_law_676 : decode cL_law 676 = .ok (.aload_n 0, 1) := by decide +kernel
theorem dL_law_677 : decode cL_law 677 = .ok (.iload_n 3, 1) := by decide +kernel
theorem dL_law_678 : decode cL_law 678 = .ok (.iconst 1, 1) := by decide +kernel
theorem dL_law_679 : decode cL_law 679 = .ok (.iadd, 1) := by decide +kernel
theorem dL_law_680 : decode cL_law 680 = .ok (.iaload, 1) := by decide +kernel
theorem dL_law_681 : decode cL_law 681 = .ok (.aload_n 0, 1) := by decide +kernel
theorem dL_law_682 : decode cL_law 682 = .ok (.iload_n 3, 1) := by decide +kernel
theorem dL_law_683 : decode cL_law 683 = .ok (.iconst 2, 1) := by decide +kernel
theorem dL_law_684 : decode cL_law 684 = .ok (.iadd, 1) := by decide +kernel
theorem dL_law_685 : decode cL_law 685 = .ok (.iaload, 1) := by decide +kernel
theorem dL_law_686 : decode cL_law 686 = .ok (.invokevirtual 77, 3) := by decide +kernel
theorem dL_law_689 : decode cL_law 689 = .ok (.aload_n 2, 1) := by decide +kernel
theorem dL_law_690 : decode cL_law 690 = .ok (.aload_n 0, 1) := by decide +kernel
theorem dL_law_691 : decode cL_law 691 = .ok (.iload_n 3, 1) := by decide +kernel
theorem dL_law_692 : decode cL_law 692 = .ok (.iconst 1, 1) := by decide +kernel
theorem dL_law_693 : decode cL_law 693 = .ok (.iadd, 1) := by decide +kernel
theorem dL_law_694 : decode cL_law 694 = .ok (.iaload, 1) := by decide +kernel
theorem dL_law_695 : decode cL_law 695 = .ok (.aload_n 0, 1) := by decide +kernel
theorem dL_law_696 : decode cL_law 696 = .ok (.iload_n 3, 1) := by decide +kernel
theorem dL_law_697 : decode cL_law 697 = .ok (.iconst 2, 1) := by decide +kernel
theorem dL_law_698 : decode cL_law 698 = .ok (.iadd, 1) := by decide +kernel
theorem dL_law_699 : decode cL_law 699 = .ok (.iaload, 1) := by decide +kernel
theorem dL_law_700 : decode cL_law 700 = .ok (.invokevirtual 80, 3) := by decide +kernel
theorem dL_law_703 : decode cL_law 703 = .ok (.if_icmp .eq 682, 3) := by decide +kernel
theorem dL_law_706 : decode cL_law 706 = .ok (.iconst 0, 1) := by decide +kernel
theorem dL_law_707 : decode cL_law 707 = .ok (.ireturn, 1) := by decide +kernel
theorem dL_law_708 : decode cL_law 708 = .ok (.aload_n 1, 1) := by decide +kernel
theorem dL_law_709 : decode cL_law 709 = .ok (.aload_n 0, 1) := by decide +kernel
theorem dL_law_710 : decode cL_law 710 = .ok (.iload_n 3, 1) := by decide +kernel
theorem dL_law_711 : decode cL_law 711 = .ok (.iconst 1, 1) := by decide +kernel
theorem dL_law_712 : decode cL_law 712 = .ok (.iadd, 1) := by decide +kernel
theorem dL_law_713 : decode cL_law 713 = .ok (.iaload, 1) := by decide +kernel
theorem dL_law_714 : decode cL_law 714 = .ok (.invokevirtual 81, 3) := by decide +kernel
theorem dL_law_717 : decode cL_law 717 = .ok (.aload_n 2, 1) := by decide +kernel
theorem dL_law_718 : decode cL_law 718 = .ok (.aload_n 0, 1) := by decide +kernel
theorem dL_law_719 : decode cL_law 719 = .ok (.iload_n 3, 1) := by decide +kernel
theorem dL_law_720 : decode cL_law 720 = .ok (.iconst 1, 1) := by decide +kernel
theorem dL_law_721 : decode cL_law 721 = .ok (.iadd, 1) := by decide +kernel
theorem dL_law_722 : decode cL_law 722 = .ok (.iaload, 1) := by decide +kernel
theorem dL_law_723 : decode cL_law 723 = .ok (.invokevirtual 84, 3) := by decide +kernel
theorem dL_law_726 : decode cL_law 726 = .ok (.if_icmp .eq 659, 3) := by decide +kernel
theorem dL_law_729 : decode cL_law 729 = .ok (.iconst 0, 1) := by decide +kernel
theorem dL_law_730 : decode cL_law 730 = .ok (.ireturn, 1) := by decide +kernel
theorem dL_law_731 : decode cL_law 731 = .ok (.aload_n 1, 1) := by decide +kernel
theorem dL_law_732 : decode cL_law 732 = .ok (.aload_n 0, 1) := by decide +kernel
theorem dL_law_733 : decode cL_law 733 = .ok (.iload_n 3, 1) := by decide +kernel
theorem dL_law_734 : decode cL_law 734 = .ok (.iconst 1, 1) := by decide +kernel
theorem dL_law_735 : decode cL_law 735 = .ok (.iadd, 1) := by decide +kernel
theorem dL_law_736 : decode cL_law 736 = .ok (.iaload, 1) := by decide +kernel
theorem dL_law_737 : decode cL_law 737 = .ok (.aload_n 0, 1) := by decide +kernel
theorem dL_law_738 : decode cL_law 738 = .ok (.iload_n 3, 1) := by decide +kernel
theorem dL_law_739 : decode cL_law 739 = .ok (.iconst 2, 1) := by decide +kernel
theorem dL_law_740 : decode cL_law 740 = .ok (.iadd, 1) := by decide +kernel
theorem dL_law_741 : decode cL_law 741 = .ok (.iaload, 1) := by decide +kernel
theorem dL_law_742 : decode cL_law 742 = .ok (.aload_n 0, 1) := by decide +kernel
theorem dL_law_743 : decode cL_law 743 = .ok (.iload_n 3, 1) := by decide +kernel
theorem dL_law_744 : decode cL_law 744 = .ok (.iconst 3, 1) := by decide +kernel
theorem dL_law_745 : decode cL_law 745 = .ok (.iadd, 1) := by decide +kernel
theorem dL_law_746 : decode cL_law 746 = .ok (.iaload, 1) := by decide +kernel
theorem dL_law_747 : decode cL_law 747 = .ok (.aload_n 0, 1) := by decide +kernel
theorem dL_law_748 : decode cL_law 748 = .ok (.iload_n 3, 1) := by decide +kernel
theorem dL_law_749 : decode cL_law 749 = .ok (.iconst 4, 1) := by decide +kernel
theorem dL_law_750 : decode cL_law 750 = .ok (.iadd, 1) := by decide +kernel
theorem dL_law_751 : decode cL_law 751 = .ok (.iaload, 1) := by decide +kernel
theorem dL_law_752 : decode cL_law 752 = .ok (.invokevirtual 85, 3) := by decide +kernel
theorem dL_law_755 : decode cL_law 755 = .ok (.aload_n 2, 1) := by decide +kernel
theorem dL_law_756 : decode cL_law 756 = .ok (.aload_n 0, 1) := by decide +kernel
theorem dL_law_757 : decode cL_law 757 = .ok (.iload_n 3, 1) := by decide +kernel
theorem dL_law_758 : decode cL_law 758 = .ok (.iconst 1, 1) := by decide +kernel
theorem dL_law_759 : decode cL_law 759 = .ok (.iadd, 1) := by decide +kernel
theorem dL_law_760 : decode cL_law 760 = .ok (.iaload, 1) := by decide +kernel
theorem dL_law_761 : decode cL_law 761 = .ok (.aload_n 0, 1) := by decide +kernel
theorem dL_law_762 : decode cL_law 762 = .ok (.iload_n 3, 1) := by decide +kernel
theorem dL_law_763 : decode cL_law 763 = .ok (.iconst 2, 1) := by decide +kernel
theorem dL_law_764 : decode cL_law 764 = .ok (.iadd, 1) := by decide +kernel
theorem dL_law_765 : decode cL_law 765 = .ok (.iaload, 1) := by decide +kernel
theorem dL_law_766 : decode cL_law 766 = .ok (.aload_n 0, 1) := by decide +kernel
theorem dL_law_767 : decode cL_law 767 = .ok (.iload_n 3, 1) := by decide +kernel
theorem dL_law_768 : decode cL_law 768 = .ok (.iconst 3, 1) := by decide +kernel
theorem dL_law_769 : decode cL_law 769 = .ok (.iadd, 1) := by decide +kernel
theorem dL_law_770 : decode cL_law 770 = .ok (.iaload, 1) := by decide +kernel
theorem dL_law_771 : decode cL_law 771 = .ok (.aload_n 0, 1) := by decide +kernel
theorem dL_law_772 : decode cL_law 772 = .ok (.iload_n 3, 1) := by decide +kernel
theorem dL_law_773 : decode cL_law 773 = .ok (.iconst 4, 1) := by decide +kernel
theorem dL_law_774 : decode cL_law 774 = .ok (.iadd, 1) := by decide +kernel
theorem dL_law_775 : decode cL_law 775 = .ok (.iaload, 1) := by decide +kernel
theorem dL_law_776 : decode cL_law 776 = .ok (.invokevirtual 89, 3) := by decide +kernel
theorem dL_law_779 : decode cL_law 779 = .ok (.if_icmp .eq 606, 3) := by decide +kernel
theorem dL_law_782 : decode cL_law 782 = .ok (.iconst 0, 1) := by decide +kernel
theorem dL_law_783 : decode cL_law 783 = .ok (.ireturn, 1) := by decide +kernel
theorem dL_law_784 : decode cL_law 784 = .ok (.aload_n 1, 1) := by decide +kernel
theorem dL_law_785 : decode cL_law 785 = .ok (.aload_n 0, 1) := by decide +kernel
theorem dL_law_786 : decode cL_law 786 = .ok (.iload_n 3, 1) := by decide +kernel
theorem dL_law_787 : decode cL_law 787 = .ok (.iconst 1, 1) := by decide +kernel
theorem dL_law_788 : decode cL_law 788 = .ok (.iadd, 1) := by decide +kernel
theorem dL_law_789 : decode cL_law 789 = .ok (.iaload, 1) := by decide +kernel
theorem dL_law_790 : decode cL_law 790 = .ok (.aload_n 0, 1) := by decide +kernel
theorem dL_law_791 : decode cL_law 791 = .ok (.iload_n 3, 1) := by decide +kernel
theorem dL_law_792 : decode cL_law 792 = .ok (.iconst 2, 1) := by decide +kernel
theorem dL_law_793 : decode cL_law 793 = .ok (.iadd, 1) := by decide +kernel
theorem dL_law_794 : decode cL_law 794 = .ok (.iaload, 1) := by decide +kernel
theorem dL_law_795 : decode cL_law 795 = .ok (.aload_n 0, 1) := by decide +kernel
theorem dL_law_796 : decode cL_law 796 = .ok (.iload_n 3, 1) := by decide +kernel
theorem dL_law_797 : decode cL_law 797 = .ok (.iconst 3, 1) := by decide +kernel
theorem dL_law_798 : decode cL_law 798 = .ok (.iadd, 1) := by decide +kernel
theorem dL_law_799 : decode cL_law 799 = .ok (.iaload, 1) := by decide +kernel
theorem dL_law_800 : decode cL_law 800 = .ok (.invokevirtual 90, 3) := by decide +kernel
theorem dL_law_803 : decode cL_law 803 = .ok (.aload_n 2, 1) := by decide +kernel
theorem dL_law_804 : decode cL_law 804 = .ok (.aload_n 0, 1) := by decide +kernel
theorem dL_law_805 : decode cL_law 805 = .ok (.iload_n 3, 1) := by decide +kernel
theorem dL_law_806 : decode cL_law 806 = .ok (.iconst 1, 1) := by decide +kernel
theorem dL_law_807 : decode cL_law 807 = .ok (.iadd, 1) := by decide +kernel
theorem dL_law_808 : decode cL_law 808 = .ok (.iaload, 1) := by decide +kernel
theorem dL_law_809 : decode cL_law 809 = .ok (.aload_n 0, 1) := by decide +kernel
theorem dL_law_810 : decode cL_law 810 = .ok (.iload_n 3, 1) := by decide +kernel
theorem dL_law_811 : decode cL_law 811 = .ok (.iconst 2, 1) := by decide +kernel
theorem dL_law_812 : decode cL_law 812 = .ok (.iadd, 1) := by decide +kernel
theorem dL_law_813 : decode cL_law 813 = .ok (.iaload, 1) := by decide +kernel
theorem dL_law_814 : decode cL_law 814 = .ok (.aload_n 0, 1) := by decide +kernel
theorem dL_law_815 : decode cL_law 815 = .ok (.iload_n 3, 1) := by decide +kernel
theorem dL_law_816 : decode cL_law 816 = .ok (.iconst 3, 1) := by decide +kernel
theorem dL_law_817 : decode cL_law 817 = .ok (.iadd, 1) := by decide +kernel
theorem dL_law_818 : decode cL_law 818 = .ok (.iaload, 1) := by decide +kernel
theorem dL_law_819 : decode cL_law 819 = .ok (.invokevirtual 93, 3) := by decide +kernel
theorem dL_law_822 : decode cL_law 822 = .ok (.if_icmp .eq 563, 3) := by decide +kernel
theorem dL_law_825 : decode cL_law 825 = .ok (.iconst 0, 1) := by decide +kernel
theorem dL_law_826 : decode cL_law 826 = .ok (.ireturn, 1) := by decide +kernel
theorem dL_law_827 : decode cL_law 827 = .ok (.aload_n 1, 1) := by decide +kernel
theorem dL_law_828 : decode cL_law 828 = .ok (.invokevirtual 94, 3) := by decide +kernel
theorem dL_law_831 : decode cL_law 831 = .ok (.aload_n 2, 1) := by decide +kernel
theorem dL_law_832 : decode cL_law 832 = .ok (.invokevirtual 97, 3) := by decide +kernel
theorem dL_law_835 : decode cL_law 835 = .ok (.if_icmp .eq 550, 3) := by decide +kernel
theorem dL_law_838 : decode cL_law 838 = .ok (.iconst 0, 1) := by decide +kernel
theorem dL_law_839 : decode cL_law 839 = .ok (.ireturn, 1) := by decide +kernel
theorem dL_law_840 : decode cL_law 840 = .ok (.aload_n 1, 1) := by decide +kernel
theorem dL_law_841 : decode cL_law 841 = .ok (.aload_n 0, 1) := by decide +kernel
theorem dL_law_842 : decode cL_law 842 = .ok (.iload_n 3, 1) := by decide +kernel
theorem dL_law_843 : decode cL_law 843 = .ok (.iconst 1, 1) := by decide +kernel
theorem dL_law_844 : decode cL_law 844 = .ok (.iadd, 1) := by decide +kernel
theorem dL_law_845 : decode cL_law 845 = .ok (.iaload, 1) := by decide +kernel
theorem dL_law_846 : decode cL_law 846 = .ok (.invokevirtual 98, 3) := by decide +kernel
theorem dL_law_849 : decode cL_law 849 = .ok (.aload_n 2, 1) := by decide +kernel
theorem dL_law_850 : decode cL_law 850 = .ok (.aload_n 0, 1) := by decide +kernel
theorem dL_law_851 : decode cL_law 851 = .ok (.iload_n 3, 1) := by decide +kernel
theorem dL_law_852 : decode cL_law 852 = .ok (.iconst 1, 1) := by decide +kernel
theorem dL_law_853 : decode cL_law 853 = .ok (.iadd, 1) := by decide +kernel
theorem dL_law_854 : decode cL_law 854 = .ok (.iaload, 1) := by decide +kernel
theorem dL_law_855 : decode cL_law 855 = .ok (.invokevirtual 101, 3) := by decide +kernel
theorem dL_law_858 : decode cL_law 858 = .ok (.if_icmp .eq 527, 3) := by decide +kernel
theorem dL_law_861 : decode cL_law 861 = .ok (.iconst 0, 1) := by decide +kernel
theorem dL_law_862 : decode cL_law 862 = .ok (.ireturn, 1) := by decide +kernel
theorem dL_law_863 : decode cL_law 863 = .ok (.aload_n 1, 1) := by decide +kernel
theorem dL_law_864 : decode cL_law 864 = .ok (.aload_n 0, 1) := by decide +kernel
theorem dL_law_865 : decode cL_law 865 = .ok (.iload_n 3, 1) := by decide +kernel
theorem dL_law_866 : decode cL_law 866 = .ok (.iconst 1, 1) := by decide +kernel
theorem dL_law_867 : decode cL_law 867 = .ok (.iadd, 1) := by decide +kernel
theorem dL_law_868 : decode cL_law 868 = .ok (.iaload, 1) := by decide +kernel
theorem dL_law_869 : decode cL_law 869 = .ok (.invokevirtual 102, 3) := by decide +kernel
theorem dL_law_872 : decode cL_law 872 = .ok (.aload_n 2, 1) := by decide +kernel
theorem dL_law_873 : decode cL_law 873 = .ok (.aload_n 0, 1) := by decide +kernel
theorem dL_law_874 : decode cL_law 874 = .ok (.iload_n 3, 1) := by decide +kernel
theorem dL_law_875 : decode cL_law 875 = .ok (.iconst 1, 1) := by decide +kernel
theorem dL_law_876 : decode cL_law 876 = .ok (.iadd, 1) := by decide +kernel
theorem dL_law_877 : decode cL_law 877 = .ok (.iaload, 1) := by decide +kernel
theorem dL_law_878 : decode cL_law 878 = .ok (.invokevirtual 105, 3) := by decide +kernel
theorem dL_law_881 : decode cL_law 881 = .ok (.if_icmp .eq 504, 3) := by decide +kernel
theorem dL_law_884 : decode cL_law 884 = .ok (.iconst 0, 1) := by decide +kernel
theorem dL_law_885 : decode cL_law 885 = .ok (.ireturn, 1) := by decide +kernel
theorem dL_law_886 : decode cL_law 886 = .ok (.aload_n 1, 1) := by decide +kernel
theorem dL_law_887 : decode cL_law 887 = .ok (.aload_n 0, 1) := by decide +kernel
theorem dL_law_888 : decode cL_law 888 = .ok (.iload_n 3, 1) := by decide +kernel
theorem dL_law_889 : decode cL_law 889 = .ok (.iconst 1, 1) := by decide +kernel
theorem dL_law_890 : decode cL_law 890 = .ok (.iadd, 1) := by decide +kernel
theorem dL_law_891 : decode cL_law 891 = .ok (.iaload, 1) := by decide +kernel
theorem dL_law_892 : decode cL_law 892 = .ok (.aload_n 0, 1) := by decide +kernel
theorem dL_law_893 : decode cL_law 893 = .ok (.iload_n 3, 1) := by decide +kernel
theorem dL_law_894 : decode cL_law 894 = .ok (.iconst 2, 1) := by decide +kernel
theorem dL_law_895 : decode cL_law 895 = .ok (.iadd, 1) := by decide +kernel
theorem dL_law_896 : decode cL_law 896 = .ok (.iaload, 1) := by decide +kernel
theorem dL_law_897 : decode cL_law 897 = .ok (.invokevirtual 106, 3) := by decide +kernel
theorem dL_law_900 : decode cL_law 900 = .ok (.aload_n 2, 1) := by decide +kernel
theorem dL_law_901 : decode cL_law 901 = .ok (.aload_n 0, 1) := by decide +kernel
theorem dL_law_902 : decode cL_law 902 = .ok (.iload_n 3, 1) := by decide +kernel
theorem dL_law_903 : decode cL_law 903 = .ok (.iconst 1, 1) := by decide +kernel
theorem dL_law_904 : decode cL_law 904 = .ok (.iadd, 1) := by decide +kernel
theorem dL_law_905 : decode cL_law 905 = .ok (.iaload, 1) := by decide +kernel
theorem dL_law_906 : decode cL_law 906 = .ok (.aload_n 0, 1) := by decide +kernel
theorem dL_law_907 : decode cL_law 907 = .ok (.iload_n 3, 1) := by decide +kernel
theorem dL_law_908 : decode cL_law 908 = .ok (.iconst 2, 1) := by decide +kernel
theorem dL_law_909 : decode cL_law 909 = .ok (.iadd, 1) := by decide +kernel
theorem dL_law_910 : decode cL_law 910 = .ok (.iaload, 1) := by decide +kernel
theorem dL_law_911 : decode cL_law 911 = .ok (.invokevirtual 109, 3) := by decide +kernel
theorem dL_law_914 : decode cL_law 914 = .ok (.if_icmp .eq 471, 3) := by decide +kernel
theorem dL_law_917 : decode cL_law 917 = .ok (.iconst 0, 1) := by decide +kernel
theorem dL_law_918 : decode cL_law 918 = .ok (.ireturn, 1) := by decide +kernel
theorem dL_law_919 : decode cL_law 919 = .ok (.aload_n 1, 1) := by decide +kernel
theorem dL_law_920 : decode cL_law 920 = .ok (.aload_n 0, 1) := by decide +kernel
theorem dL_law_921 : decode cL_law 921 = .ok (.iload_n 3, 1) := by decide +kernel
theorem dL_law_922 : decode cL_law 922 = .ok (.iconst 1, 1) := by decide +kernel
theorem dL_law_923 : decode cL_law 923 = .ok (.iadd, 1) := by decide +kernel
theorem dL_law_924 : decode cL_law 924 = .ok (.iaload, 1) := by decide +kernel
theorem dL_law_925 : decode cL_law 925 = .ok (.invokevirtual 110, 3) := by decide +kernel
theorem dL_law_928 : decode cL_law 928 = .ok (.aload_n 2, 1) := by decide +kernel
theorem dL_law_929 : decode cL_law 929 = .ok (.aload_n 0, 1) := by decide +kernel
theorem dL_law_930 : decode cL_law 930 = .ok (.iload_n 3, 1) := by decide +kernel
theorem dL_law_931 : decode cL_law 931 = .ok (.iconst 1, 1) := by decide +kernel
theorem dL_law_932 : decode cL_law 932 = .ok (.iadd, 1) := by decide +kernel
theorem dL_law_933 : decode cL_law 933 = .ok (.iaload, 1) := by decide +kernel
theorem dL_law_934 : decode cL_law 934 = .ok (.invokevirtual 113, 3) := by decide +kernel
theorem dL_law_937 : decode cL_law 937 = .ok (.if_icmp .eq 448, 3) := by decide +kernel
theorem dL_law_940 : decode cL_law 940 = .ok (.iconst 0, 1) := by decide +kernel
theorem dL_law_941 : decode cL_law 941 = .ok (.ireturn, 1) := by decide +kernel
theorem dL_law_942 : decode cL_law 942 = .ok (.aload_n 1, 1) := by decide +kernel
theorem dL_law_943 : decode cL_law 943 = .ok (.invokevirtual 114, 3) := by decide +kernel
theorem dL_law_946 : decode cL_law 946 = .ok (.aload_n 2, 1) := by decide +kernel
theorem dL_law_947 : decode cL_law 947 = .ok (.invokevirtual 117, 3) := by decide +kernel
theorem dL_law_950 : decode cL_law 950 = .ok (.if_icmp .eq 435, 3) := by decide +kernel
theorem dL_law_953 : decode cL_law 953 = .ok (.iconst 0, 1) := by decide +kernel
theorem dL_law_954 : decode cL_law 954 = .ok (.ireturn, 1) := by decide +kernel
theorem dL_law_955 : decode cL_law 955 = .ok (.aload_n 1, 1) := by decide +kernel
theorem dL_law_956 : decode cL_law 956 = .ok (.invokevirtual 118, 3) := by decide +kernel
theorem dL_law_959 : decode cL_law 959 = .ok (.aload_n 2, 1) := by decide +kernel
theorem dL_law_960 : decode cL_law 960 = .ok (.invokevirtual 121, 3) := by decide +kernel
theorem dL_law_963 : decode cL_law 963 = .ok (.if_icmp .eq 422, 3) := by decide +kernel
theorem dL_law_966 : decode cL_law 966 = .ok (.iconst 0, 1) := by decide +kernel
theorem dL_law_967 : decode cL_law 967 = .ok (.ireturn, 1) := by decide +kernel
theorem dL_law_968 : decode cL_law 968 = .ok (.aload_n 1, 1) := by decide +kernel
theorem dL_law_969 : decode cL_law 969 = .ok (.invokevirtual 122, 3) := by decide +kernel
theorem dL_law_972 : decode cL_law 972 = .ok (.aload_n 2, 1) := by decide +kernel
theorem dL_law_973 : decode cL_law 973 = .ok (.invokevirtual 125, 3) := by decide +kernel
theorem dL_law_976 : decode cL_law 976 = .ok (.if_icmp .eq 409, 3) := by decide +kernel
theorem dL_law_979 : decode cL_law 979 = .ok (.iconst 0, 1) := by decide +kernel
theorem dL_law_980 : decode cL_law 980 = .ok (.ireturn, 1) := by decide +kernel
theorem dL_law_981 : decode cL_law 981 = .ok (.aload_n 1, 1) := by decide +kernel
theorem dL_law_982 : decode cL_law 982 = .ok (.invokevirtual 126, 3) := by decide +kernel
theorem dL_law_985 : decode cL_law 985 = .ok (.aload_n 2, 1) := by decide +kernel
theorem dL_law_986 : decode cL_law 986 = .ok (.invokevirtual 129, 3) := by decide +kernel
theorem dL_law_989 : decode cL_law 989 = .ok (.if_icmp .eq 396, 3) := by decide +kernel
theorem dL_law_992 : decode cL_law 992 = .ok (.iconst 0, 1) := by decide +kernel
theorem dL_law_993 : decode cL_law 993 = .ok (.ireturn, 1) := by decide +kernel
theorem dL_law_994 : decode cL_law 994 = .ok (.aload_n 1, 1) := by decide +kernel
theorem dL_law_995 : decode cL_law 995 = .ok (.aload_n 0, 1) := by decide +kernel
theorem dL_law_996 : decode cL_law 996 = .ok (.iload_n 3, 1) := by decide +kernel
theorem dL_law_997 : decode cL_law 997 = .ok (.iconst 1, 1) := by decide +kernel
theorem dL_law_998 : decode cL_law 998 = .ok (.iadd, 1) := by decide +kernel
theorem dL_law_999 : decode cL_law 999 = .ok (.iaload, 1) := by decide +kernel
theorem dL_law_1000 : decode cL_law 1000 = .ok (.invokevirtual 130, 3) := by decide +kernel
theorem dL_law_1003 : decode cL_law 1003 = .ok (.aload_n 2, 1) := by decide +kernel
theorem dL_law_1004 : decode cL_law 1004 = .ok (.aload_n 0, 1) := by decide +kernel
theorem dL_law_1005 : decode cL_law 1005 = .ok (.iload_n 3, 1) := by decide +kernel
theorem dL_law_1006 : decode cL_law 1006 = .ok (.iconst 1, 1) := by decide +kernel
theorem dL_law_1007 : decode cL_law 1007 = .ok (.iadd, 1) := by decide +kernel
theorem dL_law_1008 : decode cL_law 1008 = .ok (.iaload, 1) := by decide +kernel
theorem dL_law_1009 : decode cL_law 1009 = .ok (.invokevirtual 133, 3) := by decide +kernel
theorem dL_law_1012 : decode cL_law 1012 = .ok (.if_icmp .eq 373, 3) := by decide +kernel
theorem dL_law_1015 : decode cL_law 1015 = .ok (.iconst 0, 1) := by decide +kernel
theorem dL_law_1016 : decode cL_law 1016 = .ok (.ireturn, 1) := by decide +kernel
theorem dL_law_1017 : decode cL_law 1017 = .ok (.aload_n 1, 1) := by decide +kernel
theorem dL_law_1018 : decode cL_law 1018 = .ok (.aload_n 0, 1) := by decide +kernel
theorem dL_law_1019 : decode cL_law 1019 = .ok (.iload_n 3, 1) := by decide +kernel
theorem dL_law_1020 : decode cL_law 1020 = .ok (.iconst 1, 1) := by decide +kernel
theorem dL_law_1021 : decode cL_law 1021 = .ok (.iadd, 1) := by decide +kernel
theorem dL_law_1022 : decode cL_law 1022 = .ok (.iaload, 1) := by decide +kernel
theorem dL_law_1023 : decode cL_law 1023 = .ok (.aload_n 0, 1) := by decide +kernel
theorem dL_law_1024 : decode cL_law 1024 = .ok (.iload_n 3, 1) := by decide +kernel
theorem dL_law_1025 : decode cL_law 1025 = .ok (.iconst 2, 1) := by decide +kernel
theorem dL_law_1026 : decode cL_law 1026 = .ok (.iadd, 1) := by decide +kernel
theorem dL_law_1027 : decode cL_law 1027 = .ok (.iaload, 1) := by decide +kernel
theorem dL_law_1028 : decode cL_law 1028 = .ok (.aload_n 0, 1) := by decide +kernel
theorem dL_law_1029 : decode cL_law 1029 = .ok (.iload_n 3, 1) := by decide +kernel
theorem dL_law_1030 : decode cL_law 1030 = .ok (.iconst 3, 1) := by decide +kernel
theorem dL_law_1031 : decode cL_law 1031 = .ok (.iadd, 1) := by decide +kernel
theorem dL_law_1032 : decode cL_law 1032 = .ok (.iaload, 1) := by decide +kernel
theorem dL_law_1033 : decode cL_law 1033 = .ok (.invokevirtual 134, 3) := by decide +kernel
theorem dL_law_1036 : decode cL_law 1036 = .ok (.aload_n 2, 1) := by decide +kernel
theorem dL_law_1037 : decode cL_law 1037 = .ok (.aload_n 0, 1) := by decide +kernel
theorem dL_law_1038 : decode cL_law 1038 = .ok (.iload_n 3, 1) := by decide +kernel
theorem dL_law_1039 : decode cL_law 1039 = .ok (.iconst 1, 1) := by decide +kernel
theorem dL_law_1040 : decode cL_law 1040 = .ok (.iadd, 1) := by decide +kernel
theorem dL_law_1041 : decode cL_law 1041 = .ok (.iaload, 1) := by decide +kernel
theorem dL_law_1042 : decode cL_law 1042 = .ok (.aload_n 0, 1) := by decide +kernel
theorem dL_law_1043 : decode cL_law 1043 = .ok (.iload_n 3, 1) := by decide +kernel
theorem dL_law_1044 : decode cL_law 1044 = .ok (.iconst 2, 1) := by decide +kernel
theorem dL_law_1045 : decode cL_law 1045 = .ok (.iadd, 1) := by decide +kernel
theorem dL_law_1046 : decode cL_law 1046 = .ok (.iaload, 1) := by decide +kernel
theorem dL_law_1047 : decode cL_law 1047 = .ok (.aload_n 0, 1) := by decide +kernel
theorem dL_law_1048 : decode cL_law 1048 = .ok (.iload_n 3, 1) := by decide +kernel
theorem dL_law_1049 : decode cL_law 1049 = .ok (.iconst 3, 1) := by decide +kernel
theorem dL_law_1050 : decode cL_law 1050 = .ok (.iadd, 1) := by decide +kernel
theorem dL_law_1051 : decode cL_law 1051 = .ok (.iaload, 1) := by decide +kernel
theorem dL_law_1052 : decode cL_law 1052 = .ok (.invokevirtual 137, 3) := by decide +kernel
theorem dL_law_1055 : decode cL_law 1055 = .ok (.if_icmp .eq 330, 3) := by decide +kernel
theorem dL_law_1058 : decode cL_law 1058 = .ok (.iconst 0, 1) := by decide +kernel
theorem dL_law_1059 : decode cL_law 1059 = .ok (.ireturn, 1) := by decide +kernel
theorem dL_law_1060 : decode cL_law 1060 = .ok (.aload_n 1, 1) := by decide +kernel
theorem dL_law_1061 : decode cL_law 1061 = .ok (.aload_n 0, 1) := by decide +kernel
theorem dL_law_1062 : decode cL_law 1062 = .ok (.iload_n 3, 1) := by decide +kernel
theorem dL_law_1063 : decode cL_law 1063 = .ok (.iconst 1, 1) := by decide +kernel
theorem dL_law_1064 : decode cL_law 1064 = .ok (.iadd, 1) := by decide +kernel
theorem dL_law_1065 : decode cL_law 1065 = .ok (.iaload, 1) := by decide +kernel
theorem dL_law_1066 : decode cL_law 1066 = .ok (.invokevirtual 138, 3) := by decide +kernel
theorem dL_law_1069 : decode cL_law 1069 = .ok (.aload_n 2, 1) := by decide +kernel
theorem dL_law_1070 : decode cL_law 1070 = .ok (.aload_n 0, 1) := by decide +kernel
theorem dL_law_1071 : decode cL_law 1071 = .ok (.iload_n 3, 1) := by decide +kernel
theorem dL_law_1072 : decode cL_law 1072 = .ok (.iconst 1, 1) := by decide +kernel
theorem dL_law_1073 : decode cL_law 1073 = .ok (.iadd, 1) := by decide +kernel
theorem dL_law_1074 : decode cL_law 1074 = .ok (.iaload, 1) := by decide +kernel
theorem dL_law_1075 : decode cL_law 1075 = .ok (.invokevirtual 141, 3) := by decide +kernel
theorem dL_law_1078 : decode cL_law 1078 = .ok (.if_icmp .eq 307, 3) := by decide +kernel
theorem dL_law_1081 : decode cL_law 1081 = .ok (.iconst 0, 1) := by decide +kernel
theorem dL_law_1082 : decode cL_law 1082 = .ok (.ireturn, 1) := by decide +kernel
theorem dL_law_1083 : decode cL_law 1083 = .ok (.aload_n 1, 1) := by decide +kernel
theorem dL_law_1084 : decode cL_law 1084 = .ok (.aload_n 0, 1) := by decide +kernel
theorem dL_law_1085 : decode cL_law 1085 = .ok (.iload_n 3, 1) := by decide +kernel
theorem dL_law_1086 : decode cL_law 1086 = .ok (.iconst 1, 1) := by decide +kernel
theorem dL_law_1087 : decode cL_law 1087 = .ok (.iadd, 1) := by decide +kernel
theorem dL_law_1088 : decode cL_law 1088 = .ok (.iaload, 1) := by decide +kernel
theorem dL_law_1089 : decode cL_law 1089 = .ok (.aload_n 0, 1) := by decide +kernel
theorem dL_law_1090 : decode cL_law 1090 = .ok (.iload_n 3, 1) := by decide +kernel
theorem dL_law_1091 : decode cL_law 1091 = .ok (.iconst 2, 1) := by decide +kernel
theorem dL_law_1092 : decode cL_law 1092 = .ok (.iadd, 1) := by decide +kernel
theorem dL_law_1093 : decode cL_law 1093 = .ok (.iaload, 1) := by decide +kernel
theorem dL_law_1094 : decode cL_law 1094 = .ok (.invokevirtual 142, 3) := by decide +kernel
theorem dL_law_1097 : decode cL_law 1097 = .ok (.aload_n 2, 1) := by decide +kernel
theorem dL_law_1098 : decode cL_law 1098 = .ok (.aload_n 0, 1) := by decide +kernel
theorem dL_law_1099 : decode cL_law 1099 = .ok (.iload_n 3, 1) := by decide +kernel
theorem dL_law_1100 : decode cL_law 1100 = .ok (.iconst 1, 1) := by decide +kernel
theorem dL_law_1101 : decode cL_law 1101 = .ok (.iadd, 1) := by decide +kernel
theorem dL_law_1102 : decode cL_law 1102 = .ok (.iaload, 1) := by decide +kernel
theorem dL_law_1103 : decode cL_law 1103 = .ok (.aload_n 0, 1) := by decide +kernel
theorem dL_law_1104 : decode cL_law 1104 = .ok (.iload_n 3, 1) := by decide +kernel
theorem dL_law_1105 : decode cL_law 1105 = .ok (.iconst 2, 1) := by decide +kernel
theorem dL_law_1106 : decode cL_law 1106 = .ok (.iadd, 1) := by decide +kernel
theorem dL_law_1107 : decode cL_law 1107 = .ok (.iaload, 1) := by decide +kernel
theorem dL_law_1108 : decode cL_law 1108 = .ok (.invokevirtual 145, 3) := by decide +kernel
theorem dL_law_1111 : decode cL_law 1111 = .ok (.if_icmp .eq 274, 3) := by decide +kernel
theorem dL_law_1114 : decode cL_law 1114 = .ok (.iconst 0, 1) := by decide +kernel
theorem dL_law_1115 : decode cL_law 1115 = .ok (.ireturn, 1) := by decide +kernel
theorem dL_law_1116 : decode cL_law 1116 = .ok (.aload_n 1, 1) := by decide +kernel
theorem dL_law_1117 : decode cL_law 1117 = .ok (.aload_n 0, 1) := by decide +kernel
theorem dL_law_1118 : decode cL_law 1118 = .ok (.iload_n 3, 1) := by decide +kernel
theorem dL_law_1119 : decode cL_law 1119 = .ok (.iconst 1, 1) := by decide +kernel
theorem dL_law_1120 : decode cL_law 1120 = .ok (.iadd, 1) := by decide +kernel
theorem dL_law_1121 : decode cL_law 1121 = .ok (.iaload, 1) := by decide +kernel
theorem dL_law_1122 : decode cL_law 1122 = .ok (.aload_n 0, 1) := by decide +kernel
theorem dL_law_1123 : decode cL_law 1123 = .ok (.iload_n 3, 1) := by decide +kernel
theorem dL_law_1124 : decode cL_law 1124 = .ok (.iconst 2, 1) := by decide +kernel
theorem dL_law_1125 : decode cL_law 1125 = .ok (.iadd, 1) := by decide +kernel
theorem dL_law_1126 : decode cL_law 1126 = .ok (.iaload, 1) := by decide +kernel
theorem dL_law_1127 : decode cL_law 1127 = .ok (.aload_n 0, 1) := by decide +kernel
theorem dL_law_1128 : decode cL_law 1128 = .ok (.iload_n 3, 1) := by decide +kernel
theorem dL_law_1129 : decode cL_law 1129 = .ok (.iconst 3, 1) := by decide +kernel
theorem dL_law_1130 : decode cL_law 1130 = .ok (.iadd, 1) := by decide +kernel
theorem dL_law_1131 : decode cL_law 1131 = .ok (.iaload, 1) := by decide +kernel
theorem dL_law_1132 : decode cL_law 1132 = .ok (.invokevirtual 146, 3) := by decide +kernel
theorem dL_law_1135 : decode cL_law 1135 = .ok (.aload_n 2, 1) := by decide +kernel
theorem dL_law_1136 : decode cL_law 1136 = .ok (.aload_n 0, 1) := by decide +kernel
theorem dL_law_1137 : decode cL_law 1137 = .ok (.iload_n 3, 1) := by decide +kernel
theorem dL_law_1138 : decode cL_law 1138 = .ok (.iconst 1, 1) := by decide +kernel
theorem dL_law_1139 : decode cL_law 1139 = .ok (.iadd, 1) := by decide +kernel
theorem dL_law_1140 : decode cL_law 1140 = .ok (.iaload, 1) := by decide +kernel
theorem dL_law_1141 : decode cL_law 1141 = .ok (.aload_n 0, 1) := by decide +kernel
theorem dL_law_1142 : decode cL_law 1142 = .ok (.iload_n 3, 1) := by decide +kernel
theorem dL_law_1143 : decode cL_law 1143 = .ok (.iconst 2, 1) := by decide +kernel
theorem dL_law_1144 : decode cL_law 1144 = .ok (.iadd, 1) := by decide +kernel
theorem dL_law_1145 : decode cL_law 1145 = .ok (.iaload, 1) := by decide +kernel
theorem dL_law_1146 : decode cL_law 1146 = .ok (.aload_n 0, 1) := by decide +kernel
theorem dL_law_1147 : decode cL_law 1147 = .ok (.iload_n 3, 1) := by decide +kernel
theorem dL_law_1148 : decode cL_law 1148 = .ok (.iconst 3, 1) := by decide +kernel
theorem dL_law_1149 : decode cL_law 1149 = .ok (.iadd, 1) := by decide +kernel
theorem dL_law_1150 : decode cL_law 1150 = .ok (.iaload, 1) := by decide +kernel
theorem dL_law_1151 : decode cL_law 1151 = .ok (.invokevirtual 149, 3) := by decide +kernel
theorem dL_law_1154 : decode cL_law 1154 = .ok (.if_icmp .eq 231, 3) := by decide +kernel
theorem dL_law_1157 : decode cL_law 1157 = .ok (.iconst 0, 1) := by decide +kernel
theorem dL_law_1158 : decode cL_law 1158 = .ok (.ireturn, 1) := by decide +kernel
theorem dL_law_1159 : decode cL_law 1159 = .ok (.aload_n 1, 1) := by decide +kernel
theorem dL_law_1160 : decode cL_law 1160 = .ok (.aload_n 0, 1) := by decide +kernel
theorem dL_law_1161 : decode cL_law 1161 = .ok (.iload_n 3, 1) := by decide +kernel
theorem dL_law_1162 : decode cL_law 1162 = .ok (.iconst 1, 1) := by decide +kernel
theorem dL_law_1163 : decode cL_law 1163 = .ok (.iadd, 1) := by decide +kernel
theorem dL_law_1164 : decode cL_law 1164 = .ok (.iaload, 1) := by decide +kernel
theorem dL_law_1165 : decode cL_law 1165 = .ok (.aload_n 0, 1) := by decide +kernel
theorem dL_law_1166 : decode cL_law 1166 = .ok (.iload_n 3, 1) := by decide +kernel
theorem dL_law_1167 : decode cL_law 1167 = .ok (.iconst 2, 1) := by decide +kernel
theorem dL_law_1168 : decode cL_law 1168 = .ok (.iadd, 1) := by decide +kernel
theorem dL_law_1169 : decode cL_law 1169 = .ok (.iaload, 1) := by decide +kernel
theorem dL_law_1170 : decode cL_law 1170 = .ok (.aload_n 0, 1) := by decide +kernel
theorem dL_law_1171 : decode cL_law 1171 = .ok (.iload_n 3, 1) := by decide +kernel
theorem dL_law_1172 : decode cL_law 1172 = .ok (.iconst 3, 1) := by decide +kernel
theorem dL_law_1173 : decode cL_law 1173 = .ok (.iadd, 1) := by decide +kernel
theorem dL_law_1174 : decode cL_law 1174 = .ok (.iaload, 1) := by decide +kernel
theorem dL_law_1175 : decode cL_law 1175 = .ok (.i2l, 1) := by decide +kernel
theorem dL_law_1176 : decode cL_law 1176 = .ok (.bipush 32, 2) := by decide +kernel
theorem dL_law_1178 : decode cL_law 1178 = .ok (.lshl, 1) := by decide +kernel
theorem dL_law_1179 : decode cL_law 1179 = .ok (.aload_n 0, 1) := by decide +kernel
theorem dL_law_1180 : decode cL_law 1180 = .ok (.iload_n 3, 1) := by decide +kernel
theorem dL_law_1181 : decode cL_law 1181 = .ok (.iconst 4, 1) := by decide +kernel
theorem dL_law_1182 : decode cL_law 1182 = .ok (.iadd, 1) := by decide +kernel
theorem dL_law_1183 : decode cL_law 1183 = .ok (.iaload, 1) := by decide +kernel
theorem dL_law_1184 : decode cL_law 1184 = .ok (.i2l, 1) := by decide +kernel
theorem dL_law_1185 : decode cL_law 1185 = .ok (.ldc2_w 150, 3) := by decide +kernel
theorem dL_law_1188 : decode cL_law 1188 = .ok (.land, 1) := by decide +kernel
theorem dL_law_1189 : decode cL_law 1189 = .ok (.lor, 1) := by decide +kernel
theorem dL_law_1190 : decode cL_law 1190 = .ok (.invokevirtual 152, 3) := by decide +kernel
theorem dL_law_1193 : decode cL_law 1193 = .ok (.aload_n 2, 1) := by decide +kernel
theorem dL_law_1194 : decode cL_law 1194 = .ok (.aload_n 0, 1) := by decide +kernel
theorem dL_law_1195 : decode cL_law 1195 = .ok (.iload_n 3, 1) := by decide +kernel
theorem dL_law_1196 : decode cL_law 1196 = .ok (.iconst 1, 1) := by decide +kernel
theorem dL_law_1197 : decode cL_law 1197 = .ok (.iadd, 1) := by decide +kernel
theorem dL_law_1198 : decode cL_law 1198 = .ok (.iaload, 1) := by decide +kernel
theorem dL_law_1199 : decode cL_law 1199 = .ok (.aload_n 0, 1) := by decide +kernel
theorem dL_law_1200 : decode cL_law 1200 = .ok (.iload_n 3, 1) := by decide +kernel
theorem dL_law_1201 : decode cL_law 1201 = .ok (.iconst 2, 1) := by decide +kernel
theorem dL_law_1202 : decode cL_law 1202 = .ok (.iadd, 1) := by decide +kernel
theorem dL_law_1203 : decode cL_law 1203 = .ok (.iaload, 1) := by decide +kernel
theorem dL_law_1204 : decode cL_law 1204 = .ok (.aload_n 0, 1) := by decide +kernel
theorem dL_law_1205 : decode cL_law 1205 = .ok (.iload_n 3, 1) := by decide +kernel
theorem dL_law_1206 : decode cL_law 1206 = .ok (.iconst 3, 1) := by decide +kernel
theorem dL_law_1207 : decode cL_law 1207 = .ok (.iadd, 1) := by decide +kernel
theorem dL_law_1208 : decode cL_law 1208 = .ok (.iaload, 1) := by decide +kernel
theorem dL_law_1209 : decode cL_law 1209 = .ok (.i2l, 1) := by decide +kernel
theorem dL_law_1210 : decode cL_law 1210 = .ok (.bipush 32, 2) := by decide +kernel
theorem dL_law_1212 : decode cL_law 1212 = .ok (.lshl, 1) := by decide +kernel
theorem dL_law_1213 : decode cL_law 1213 = .ok (.aload_n 0, 1) := by decide +kernel
theorem dL_law_1214 : decode cL_law 1214 = .ok (.iload_n 3, 1) := by decide +kernel
theorem dL_law_1215 : decode cL_law 1215 = .ok (.iconst 4, 1) := by decide +kernel
theorem dL_law_1216 : decode cL_law 1216 = .ok (.iadd, 1) := by decide +kernel
theorem dL_law_1217 : decode cL_law 1217 = .ok (.iaload, 1) := by decide +kernel
theorem dL_law_1218 : decode cL_law 1218 = .ok (.i2l, 1) := by decide +kernel
theorem dL_law_1219 : decode cL_law 1219 = .ok (.ldc2_w 150, 3) := by decide +kernel
theorem dL_law_1222 : decode cL_law 1222 = .ok (.land, 1) := by decide +kernel
theorem dL_law_1223 : decode cL_law 1223 = .ok (.lor, 1) := by decide +kernel
theorem dL_law_1224 : decode cL_law 1224 = .ok (.invokevirtual 156, 3) := by decide +kernel
theorem dL_law_1227 : decode cL_law 1227 = .ok (.if_icmp .eq 158, 3) := by decide +kernel
theorem dL_law_1230 : decode cL_law 1230 = .ok (.iconst 0, 1) := by decide +kernel
theorem dL_law_1231 : decode cL_law 1231 = .ok (.ireturn, 1) := by decide +kernel
theorem dL_law_1232 : decode cL_law 1232 = .ok (.aload_n 1, 1) := by decide +kernel
theorem dL_law_1233 : decode cL_law 1233 = .ok (.aload_n 0, 1) := by decide +kernel
theorem dL_law_1234 : decode cL_law 1234 = .ok (.iload_n 3, 1) := by decide +kernel
theorem dL_law_1235 : decode cL_law 1235 = .ok (.iconst 1, 1) := by decide +kernel
theorem dL_law_1236 : decode cL_law 1236 = .ok (.iadd, 1) := by decide +kernel
theorem dL_law_1237 : decode cL_law 1237 = .ok (.iaload, 1) := by decide +kernel
theorem dL_law_1238 : decode cL_law 1238 = .ok (.aload_n 0, 1) := by decide +kernel
theorem dL_law_1239 : decode cL_law 1239 = .ok (.iload_n 3, 1) := by decide +kernel
theorem dL_law_1240 : decode cL_law 1240 = .ok (.iconst 2, 1) := by decide +kernel
theorem dL_law_1241 : decode cL_law 1241 = .ok (.iadd, 1) := by decide +kernel
theorem dL_law_1242 : decode cL_law 1242 = .ok (.iaload, 1) := by decide +kernel
theorem dL_law_1243 : decode cL_law 1243 = .ok (.invokevirtual 157, 3) := by decide +kernel
theorem dL_law_1246 : decode cL_law 1246 = .ok (.aload_n 2, 1) := by decide +kernel
theorem dL_law_1247 : decode cL_law 1247 = .ok (.aload_n 0, 1) := by decide +kernel
theorem dL_law_1248 : decode cL_law 1248 = .ok (.iload_n 3, 1) := by decide +kernel
theorem dL_law_1249 : decode cL_law 1249 = .ok (.iconst 1, 1) := by decide +kernel
theorem dL_law_1250 : decode cL_law 1250 = .ok (.iadd, 1) := by decide +kernel
theorem dL_law_1251 : decode cL_law 1251 = .ok (.iaload, 1) := by decide +kernel
theorem dL_law_1252 : decode cL_law 1252 = .ok (.aload_n 0, 1) := by decide +kernel
theorem dL_law_1253 : decode cL_law 1253 = .ok (.iload_n 3, 1) := by decide +kernel
theorem dL_law_1254 : decode cL_law 1254 = .ok (.iconst 2, 1) := by decide +kernel
theorem dL_law_1255 : decode cL_law 1255 = .ok (.iadd, 1) := by decide +kernel
theorem dL_law_1256 : decode cL_law 1256 = .ok (.iaload, 1) := by decide +kernel
theorem dL_law_1257 : decode cL_law 1257 = .ok (.invokevirtual 161, 3) := by decide +kernel
theorem dL_law_1260 : decode cL_law 1260 = .ok (.lcmp, 1) := by decide +kernel
theorem dL_law_1261 : decode cL_law 1261 = .ok (.ifCond .eq 124, 3) := by decide +kernel
theorem dL_law_1264 : decode cL_law 1264 = .ok (.iconst 0, 1) := by decide +kernel
theorem dL_law_1265 : decode cL_law 1265 = .ok (.ireturn, 1) := by decide +kernel
theorem dL_law_1266 : decode cL_law 1266 = .ok (.aload_n 1, 1) := by decide +kernel
theorem dL_law_1267 : decode cL_law 1267 = .ok (.aload_n 0, 1) := by decide +kernel
theorem dL_law_1268 : decode cL_law 1268 = .ok (.iload_n 3, 1) := by decide +kernel
theorem dL_law_1269 : decode cL_law 1269 = .ok (.iconst 1, 1) := by decide +kernel
theorem dL_law_1270 : decode cL_law 1270 = .ok (.iadd, 1) := by decide +kernel
theorem dL_law_1271 : decode cL_law 1271 = .ok (.iaload, 1) := by decide +kernel
theorem dL_law_1272 : decode cL_law 1272 = .ok (.aload_n 0, 1) := by decide +kernel
theorem dL_law_1273 : decode cL_law 1273 = .ok (.iload_n 3, 1) := by decide +kernel
theorem dL_law_1274 : decode cL_law 1274 = .ok (.iconst 2, 1) := by decide +kernel
theorem dL_law_1275 : decode cL_law 1275 = .ok (.iadd, 1) := by decide +kernel
theorem dL_law_1276 : decode cL_law 1276 = .ok (.iaload, 1) := by decide +kernel
theorem dL_law_1277 : decode cL_law 1277 = .ok (.aload_n 0, 1) := by decide +kernel
theorem dL_law_1278 : decode cL_law 1278 = .ok (.iload_n 3, 1) := by decide +kernel
theorem dL_law_1279 : decode cL_law 1279 = .ok (.iconst 3, 1) := by decide +kernel
theorem dL_law_1280 : decode cL_law 1280 = .ok (.iadd, 1) := by decide +kernel
theorem dL_law_1281 : decode cL_law 1281 = .ok (.iaload, 1) := by decide +kernel
theorem dL_law_1282 : decode cL_law 1282 = .ok (.aload_n 0, 1) := by decide +kernel
theorem dL_law_1283 : decode cL_law 1283 = .ok (.iload_n 3, 1) := by decide +kernel
theorem dL_law_1284 : decode cL_law 1284 = .ok (.iconst 4, 1) := by decide +kernel
theorem dL_law_1285 : decode cL_law 1285 = .ok (.iadd, 1) := by decide +kernel
theorem dL_law_1286 : decode cL_law 1286 = .ok (.iaload, 1) := by decide +kernel
theorem dL_law_1287 : decode cL_law 1287 = .ok (.aload_n 0, 1) := by decide +kernel
theorem dL_law_1288 : decode cL_law 1288 = .ok (.iload_n 3, 1) := by decide +kernel
theorem dL_law_1289 : decode cL_law 1289 = .ok (.iconst 5, 1) := by decide +kernel
theorem dL_law_1290 : decode cL_law 1290 = .ok (.iadd, 1) := by decide +kernel
theorem dL_law_1291 : decode cL_law 1291 = .ok (.iaload, 1) := by decide +kernel
theorem dL_law_1292 : decode cL_law 1292 = .ok (.invokevirtual 162, 3) := by decide +kernel
theorem dL_law_1295 : decode cL_law 1295 = .ok (.aload_n 2, 1) := by decide +kernel
theorem dL_law_1296 : decode cL_law 1296 = .ok (.aload_n 0, 1) := by decide +kernel
theorem dL_law_1297 : decode cL_law 1297 = .ok (.iload_n 3, 1) := by decide +kernel
theorem dL_law_1298 : decode cL_law 1298 = .ok (.iconst 1, 1) := by decide +kernel
theorem dL_law_1299 : decode cL_law 1299 = .ok (.iadd, 1) := by decide +kernel
theorem dL_law_1300 : decode cL_law 1300 = .ok (.iaload, 1) := by decide +kernel
theorem dL_law_1301 : decode cL_law 1301 = .ok (.aload_n 0, 1) := by decide +kernel
theorem dL_law_1302 : decode cL_law 1302 = .ok (.iload_n 3, 1) := by decide +kernel
theorem dL_law_1303 : decode cL_law 1303 = .ok (.iconst 2, 1) := by decide +kernel
theorem dL_law_1304 : decode cL_law 1304 = .ok (.iadd, 1) := by decide +kernel
theorem dL_law_1305 : decode cL_law 1305 = .ok (.iaload, 1) := by decide +kernel
theorem dL_law_1306 : decode cL_law 1306 = .ok (.aload_n 0, 1) := by decide +kernel
theorem dL_law_1307 : decode cL_law 1307 = .ok (.iload_n 3, 1) := by decide +kernel
theorem dL_law_1308 : decode cL_law 1308 = .ok (.iconst 3, 1) := by decide +kernel
theorem dL_law_1309 : decode cL_law 1309 = .ok (.iadd, 1) := by decide +kernel
theorem dL_law_1310 : decode cL_law 1310 = .ok (.iaload, 1) := by decide +kernel
theorem dL_law_1311 : decode cL_law 1311 = .ok (.aload_n 0, 1) := by decide +kernel
theorem dL_law_1312 : decode cL_law 1312 = .ok (.iload_n 3, 1) := by decide +kernel
theorem dL_law_1313 : decode cL_law 1313 = .ok (.iconst 4, 1) := by decide +kernel
theorem dL_law_1314 : decode cL_law 1314 = .ok (.iadd, 1) := by decide +kernel
theorem dL_law_1315 : decode cL_law 1315 = .ok (.iaload, 1) := by decide +kernel
theorem dL_law_1316 : decode cL_law 1316 = .ok (.aload_n 0, 1) := by decide +kernel
theorem dL_law_1317 : decode cL_law 1317 = .ok (.iload_n 3, 1) := by decide +kernel
theorem dL_law_1318 : decode cL_law 1318 = .ok (.iconst 5, 1) := by decide +kernel
theorem dL_law_1319 : decode cL_law 1319 = .ok (.iadd, 1) := by decide +kernel
theorem dL_law_1320 : decode cL_law 1320 = .ok (.iaload, 1) := by decide +kernel
theorem dL_law_1321 : decode cL_law 1321 = .ok (.invokevirtual 166, 3) := by decide +kernel
theorem dL_law_1324 : decode cL_law 1324 = .ok (.if_icmp .eq 61, 3) := by decide +kernel
theorem dL_law_1327 : decode cL_law 1327 = .ok (.iconst 0, 1) := by decide +kernel
theorem dL_law_1328 : decode cL_law 1328 = .ok (.ireturn, 1) := by decide +kernel
theorem dL_law_1329 : decode cL_law 1329 = .ok (.aload_n 1, 1) := by decide +kernel
theorem dL_law_1330 : decode cL_law 1330 = .ok (.aload_n 0, 1) := by decide +kernel
theorem dL_law_1331 : decode cL_law 1331 = .ok (.iload_n 3, 1) := by decide +kernel
theorem dL_law_1332 : decode cL_law 1332 = .ok (.iconst 1, 1) := by decide +kernel
theorem dL_law_1333 : decode cL_law 1333 = .ok (.iadd, 1) := by decide +kernel
theorem dL_law_1334 : decode cL_law 1334 = .ok (.iaload, 1) := by decide +kernel
theorem dL_law_1335 : decode cL_law 1335 = .ok (.aload_n 0, 1) := by decide +kernel
theorem dL_law_1336 : decode cL_law 1336 = .ok (.iload_n 3, 1) := by decide +kernel
theorem dL_law_1337 : decode cL_law 1337 = .ok (.iconst 2, 1) := by decide +kernel
theorem dL_law_1338 : decode cL_law 1338 = .ok (.iadd, 1) := by decide +kernel
theorem dL_law_1339 : decode cL_law 1339 = .ok (.iaload, 1) := by decide +kernel
theorem dL_law_1340 : decode cL_law 1340 = .ok (.invokevirtual 167, 3) := by decide +kernel
theorem dL_law_1343 : decode cL_law 1343 = .ok (.aload_n 2, 1) := by decide +kernel
theorem dL_law_1344 : decode cL_law 1344 = .ok (.aload_n 0, 1) := by decide +kernel
theorem dL_law_1345 : decode cL_law 1345 = .ok (.iload_n 3, 1) := by decide +kernel
theorem dL_law_1346 : decode cL_law 1346 = .ok (.iconst 1, 1) := by decide +kernel
theorem dL_law_1347 : decode cL_law 1347 = .ok (.iadd, 1) := by decide +kernel
theorem dL_law_1348 : decode cL_law 1348 = .ok (.iaload, 1) := by decide +kernel
theorem dL_law_1349 : decode cL_law 1349 = .ok (.aload_n 0, 1) := by decide +kernel
theorem dL_law_1350 : decode cL_law 1350 = .ok (.iload_n 3, 1) := by decide +kernel
theorem dL_law_1351 : decode cL_law 1351 = .ok (.iconst 2, 1) := by decide +kernel
theorem dL_law_1352 : decode cL_law 1352 = .ok (.iadd, 1) := by decide +kernel
theorem dL_law_1353 : decode cL_law 1353 = .ok (.iaload, 1) := by decide +kernel
theorem dL_law_1354 : decode cL_law 1354 = .ok (.invokevirtual 170, 3) := by decide +kernel
theorem dL_law_1357 : decode cL_law 1357 = .ok (.if_icmp .eq 28, 3) := by decide +kernel
theorem dL_law_1360 : decode cL_law 1360 = .ok (.iconst 0, 1) := by decide +kernel
theorem dL_law_1361 : decode cL_law 1361 = .ok (.ireturn, 1) := by decide +kernel
theorem dL_law_1362 : decode cL_law 1362 = .ok (.aload_n 1, 1) := by decide +kernel
theorem dL_law_1363 : decode cL_law 1363 = .ok (.aload_n 0, 1) := by decide +kernel
theorem dL_law_1364 : decode cL_law 1364 = .ok (.iload_n 3, 1) := by decide +kernel
theorem dL_law_1365 : decode cL_law 1365 = .ok (.iconst 1, 1) := by decide +kernel
theorem dL_law_1366 : decode cL_law 1366 = .ok (.iadd, 1) := by decide +kernel
theorem dL_law_1367 : decode cL_law 1367 = .ok (.iaload, 1) := by decide +kernel
theorem dL_law_1368 : decode cL_law 1368 = .ok (.invokevirtual 171, 3) := by decide +kernel
theorem dL_law_1371 : decode cL_law 1371 = .ok (.aload_n 2, 1) := by decide +kernel
theorem dL_law_1372 : decode cL_law 1372 = .ok (.aload_n 0, 1) := by decide +kernel
theorem dL_law_1373 : decode cL_law 1373 = .ok (.iload_n 3, 1) := by decide +kernel
theorem dL_law_1374 : decode cL_law 1374 = .ok (.iconst 1, 1) := by decide +kernel
theorem dL_law_1375 : decode cL_law 1375 = .ok (.iadd, 1) := by decide +kernel
theorem dL_law_1376 : decode cL_law 1376 = .ok (.iaload, 1) := by decide +kernel
theorem dL_law_1377 : decode cL_law 1377 = .ok (.invokevirtual 174, 3) := by decide +kernel
theorem dL_law_1380 : decode cL_law 1380 = .ok (.if_icmp .eq 5, 3) := by decide +kernel
theorem dL_law_1383 : decode cL_law 1383 = .ok (.iconst 0, 1) := by decide +kernel
theorem dL_law_1384 : decode cL_law 1384 = .ok (.ireturn, 1) := by decide +kernel
theorem dL_law_1385 : decode cL_law 1385 = .ok (.iinc 3 6, 3) := by decide +kernel
theorem dL_law_1388 : decode cL_law 1388 = .ok (.goto (-1370), 3) := by decide +kernel
theorem dL_law_1391 : decode cL_law 1391 = .ok (.iconst 1, 1) := by decide +kernel
theorem dL_law_1392 : decode cL_law 1392 = .ok (.ireturn, 1) := by decide +kernel
end
