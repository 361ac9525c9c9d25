-- ===== PART A: goes FIRST, ahead of the names: the tables' words, and 'selects' of the private methods out of them =====
/-- a private method of a class that the tables say can be made, by its rows of tables_1 -/
def lw_okq (q : MethodName × Nat) : Prop := (q.1.cls ≠ "java/lang/invoke/MethodHandle" ∧ q.1.cls ≠ "java/lang/invoke/VarHandle") ∧ Cond.instantiable q.1.cls q.2 ∈ tables_1 ∧ Cond.privateMethod q.1 ∈ tables_1 ∧ Cond.instanceMethod q.1 ∈ tables_1
theorem lw_p0 : lw_okq (⟨"LeapArches", "not", "(I)Z"⟩, 19) := ⟨⟨by decide +kernel, by decide +kernel⟩, List.mem_of_getElem? (i := 21) (by decide +kernel), List.mem_of_getElem? (i := 463) (by decide +kernel), List.mem_of_getElem? (i := 464) (by decide +kernel)⟩
theorem lw_p1 : lw_okq (⟨"LeapArches", "yes", "()Z"⟩, 19) := ⟨⟨by decide +kernel, by decide +kernel⟩, List.mem_of_getElem? (i := 21) (by decide +kernel), List.mem_of_getElem? (i := 474) (by decide +kernel), List.mem_of_getElem? (i := 475) (by decide +kernel)⟩
theorem lw_p2 : lw_okq (⟨"LeapArches", "placeStatus", "(II)I"⟩, 19) := ⟨⟨by decide +kernel, by decide +kernel⟩, List.mem_of_getElem? (i := 21) (by decide +kernel), List.mem_of_getElem? (i := 482) (by decide +kernel), List.mem_of_getElem? (i := 483) (by decide +kernel)⟩
theorem lw_p3 : lw_okq (⟨"LeapArches$Tray", "cut", "(J)J"⟩, 3) := ⟨⟨by decide +kernel, by decide +kernel⟩, List.mem_of_getElem? (i := 30) (by decide +kernel), List.mem_of_getElem? (i := 499) (by decide +kernel), List.mem_of_getElem? (i := 500) (by decide +kernel)⟩
theorem lw_p4 : lw_okq (⟨"LeapArches", "none", "(I)I"⟩, 19) := ⟨⟨by decide +kernel, by decide +kernel⟩, List.mem_of_getElem? (i := 21) (by decide +kernel), List.mem_of_getElem? (i := 507) (by decide +kernel), List.mem_of_getElem? (i := 508) (by decide +kernel)⟩
theorem lw_p5 : lw_okq (⟨"LeapArches$Text", "findToken", "(I)I"⟩, 14) := ⟨⟨by decide +kernel, by decide +kernel⟩, List.mem_of_getElem? (i := 49) (by decide +kernel), List.mem_of_getElem? (i := 554) (by decide +kernel), List.mem_of_getElem? (i := 555) (by decide +kernel)⟩
theorem lw_p6 : lw_okq (⟨"LeapArches$Text", "findWord", "(I)I"⟩, 14) := ⟨⟨by decide +kernel, by decide +kernel⟩, List.mem_of_getElem? (i := 49) (by decide +kernel), List.mem_of_getElem? (i := 561) (by decide +kernel), List.mem_of_getElem? (i := 562) (by decide +kernel)⟩
theorem lw_p7 : lw_okq (⟨"LeapArches$Text", "findKeyword", "(II)I"⟩, 14) := ⟨⟨by decide +kernel, by decide +kernel⟩, List.mem_of_getElem? (i := 49) (by decide +kernel), List.mem_of_getElem? (i := 566) (by decide +kernel), List.mem_of_getElem? (i := 567) (by decide +kernel)⟩
theorem lw_p8 : lw_okq (⟨"LeapArches$Text", "findNumber", "(I)I"⟩, 14) := ⟨⟨by decide +kernel, by decide +kernel⟩, List.mem_of_getElem? (i := 49) (by decide +kernel), List.mem_of_getElem? (i := 622) (by decide +kernel), List.mem_of_getElem? (i := 623) (by decide +kernel)⟩
theorem lw_p9 : lw_okq (⟨"LeapArches$ViaductReader", "takePart", "(LLeapArches$Viaduct;)Z"⟩, 2) := ⟨⟨by decide +kernel, by decide +kernel⟩, List.mem_of_getElem? (i := 274) (by decide +kernel), List.mem_of_getElem? (i := 633) (by decide +kernel), List.mem_of_getElem? (i := 634) (by decide +kernel)⟩
theorem lw_p10 : lw_okq (⟨"LeapArches$ViaductReader", "takeRule", "(LLeapArches$Viaduct;I)Z"⟩, 2) := ⟨⟨by decide +kernel, by decide +kernel⟩, List.mem_of_getElem? (i := 274) (by decide +kernel), List.mem_of_getElem? (i := 637) (by decide +kernel), List.mem_of_getElem? (i := 638) (by decide +kernel)⟩
theorem lw_p11 : lw_okq (⟨"LeapArches$ViaductReader", "takeArch", "(LLeapArches$Viaduct;)Z"⟩, 2) := ⟨⟨by decide +kernel, by decide +kernel⟩, List.mem_of_getElem? (i := 274) (by decide +kernel), List.mem_of_getElem? (i := 658) (by decide +kernel), List.mem_of_getElem? (i := 659) (by decide +kernel)⟩
theorem lw_p12 : lw_okq (⟨"LeapArches$ViaductReader", "takeOption", "(II[II)Z"⟩, 2) := ⟨⟨by decide +kernel, by decide +kernel⟩, List.mem_of_getElem? (i := 274) (by decide +kernel), List.mem_of_getElem? (i := 666) (by decide +kernel), List.mem_of_getElem? (i := 667) (by decide +kernel)⟩
theorem lw_p13 : lw_okq (⟨"LeapArches$ViaductReader", "takePerson", "(LLeapArches$Viaduct;)Z"⟩, 2) := ⟨⟨by decide +kernel, by decide +kernel⟩, List.mem_of_getElem? (i := 274) (by decide +kernel), List.mem_of_getElem? (i := 670) (by decide +kernel), List.mem_of_getElem? (i := 671) (by decide +kernel)⟩
theorem lw_p14 : lw_okq (⟨"LeapArches$ViaductReader", "takePlant", "(LLeapArches$Viaduct;)Z"⟩, 2) := ⟨⟨by decide +kernel, by decide +kernel⟩, List.mem_of_getElem? (i := 274) (by decide +kernel), List.mem_of_getElem? (i := 682) (by decide +kernel), List.mem_of_getElem? (i := 683) (by decide +kernel)⟩
theorem lw_p15 : lw_okq (⟨"LeapArches", "given", "(I)I"⟩, 19) := ⟨⟨by decide +kernel, by decide +kernel⟩, List.mem_of_getElem? (i := 21) (by decide +kernel), List.mem_of_getElem? (i := 691) (by decide +kernel), List.mem_of_getElem? (i := 692) (by decide +kernel)⟩
def lw_privs_1 : List (MethodName × Nat) := [(⟨"LeapArches", "not", "(I)Z"⟩, 19), (⟨"LeapArches", "yes", "()Z"⟩, 19), (⟨"LeapArches", "placeStatus", "(II)I"⟩, 19), (⟨"LeapArches$Tray", "cut", "(J)J"⟩, 3), (⟨"LeapArches", "none", "(I)I"⟩, 19), (⟨"LeapArches$Text", "findToken", "(I)I"⟩, 14), (⟨"LeapArches$Text", "findWord", "(I)I"⟩, 14), (⟨"LeapArches$Text", "findKeyword", "(II)I"⟩, 14), (⟨"LeapArches$Text", "findNumber", "(I)I"⟩, 14), (⟨"LeapArches$ViaductReader", "takePart", "(LLeapArches$Viaduct;)Z"⟩, 2), (⟨"LeapArches$ViaductReader", "takeRule", "(LLeapArches$Viaduct;I)Z"⟩, 2), (⟨"LeapArches$ViaductReader", "takeArch", "(LLeapArches$Viaduct;)Z"⟩, 2), (⟨"LeapArches$ViaductReader", "takeOption", "(II[II)Z"⟩, 2), (⟨"LeapArches$ViaductReader", "takePerson", "(LLeapArches$Viaduct;)Z"⟩, 2), (⟨"LeapArches$ViaductReader", "takePlant", "(LLeapArches$Viaduct;)Z"⟩, 2), (⟨"LeapArches", "given", "(I)I"⟩, 19)]
theorem lw_r1 : ∀ q ∈ lw_privs_1, lw_okq q := List.forall_mem_cons.mpr ⟨lw_p0, List.forall_mem_cons.mpr ⟨lw_p1, List.forall_mem_cons.mpr ⟨lw_p2, List.forall_mem_cons.mpr ⟨lw_p3, List.forall_mem_cons.mpr ⟨lw_p4, List.forall_mem_cons.mpr ⟨lw_p5, List.forall_mem_cons.mpr ⟨lw_p6, List.forall_mem_cons.mpr ⟨lw_p7, List.forall_mem_cons.mpr ⟨lw_p8, List.forall_mem_cons.mpr ⟨lw_p9, List.forall_mem_cons.mpr ⟨lw_p10, List.forall_mem_cons.mpr ⟨lw_p11, List.forall_mem_cons.mpr ⟨lw_p12, List.forall_mem_cons.mpr ⟨lw_p13, List.forall_mem_cons.mpr ⟨lw_p14, List.forall_mem_cons.mpr ⟨lw_p15, fun _ h => absurd h List.not_mem_nil⟩⟩⟩⟩⟩⟩⟩⟩⟩⟩⟩⟩⟩⟩⟩⟩
theorem lw_p16 : lw_okq (⟨"LeapArches$StepsReader", "takeRow", "()Z"⟩, 5) := ⟨⟨by decide +kernel, by decide +kernel⟩, List.mem_of_getElem? (i := 287) (by decide +kernel), List.mem_of_getElem? (i := 707) (by decide +kernel), List.mem_of_getElem? (i := 708) (by decide +kernel)⟩
theorem lw_p17 : lw_okq (⟨"LeapArches$StepsReader", "takeEnd", "()Z"⟩, 5) := ⟨⟨by decide +kernel, by decide +kernel⟩, List.mem_of_getElem? (i := 287) (by decide +kernel), List.mem_of_getElem? (i := 711) (by decide +kernel), List.mem_of_getElem? (i := 712) (by decide +kernel)⟩
theorem lw_p18 : lw_okq (⟨"LeapArches$StepsReader", "takeRest", "(II)Z"⟩, 5) := ⟨⟨by decide +kernel, by decide +kernel⟩, List.mem_of_getElem? (i := 287) (by decide +kernel), List.mem_of_getElem? (i := 720) (by decide +kernel), List.mem_of_getElem? (i := 721) (by decide +kernel)⟩
theorem lw_p19 : lw_okq (⟨"LeapArches$StepsReader", "takeName", "()I"⟩, 5) := ⟨⟨by decide +kernel, by decide +kernel⟩, List.mem_of_getElem? (i := 287) (by decide +kernel), List.mem_of_getElem? (i := 724) (by decide +kernel), List.mem_of_getElem? (i := 725) (by decide +kernel)⟩
theorem lw_p20 : lw_okq (⟨"LeapArches$StepsReader", "takeTest", "(I)Z"⟩, 5) := ⟨⟨by decide +kernel, by decide +kernel⟩, List.mem_of_getElem? (i := 287) (by decide +kernel), List.mem_of_getElem? (i := 733) (by decide +kernel), List.mem_of_getElem? (i := 734) (by decide +kernel)⟩
theorem lw_p21 : lw_okq (⟨"LeapArches$Viaduct", "sumOfPeople", "([I)I"⟩, 20) := ⟨⟨by decide +kernel, by decide +kernel⟩, List.mem_of_getElem? (i := 107) (by decide +kernel), List.mem_of_getElem? (i := 757) (by decide +kernel), List.mem_of_getElem? (i := 758) (by decide +kernel)⟩
theorem lw_p22 : lw_okq (⟨"LeapArches$Viaduct", "strainBy", "(III)I"⟩, 20) := ⟨⟨by decide +kernel, by decide +kernel⟩, List.mem_of_getElem? (i := 107) (by decide +kernel), List.mem_of_getElem? (i := 781) (by decide +kernel), List.mem_of_getElem? (i := 782) (by decide +kernel)⟩
theorem lw_p23 : lw_okq (⟨"LeapArches$Viaduct", "stopBy", "(IIII)I"⟩, 20) := ⟨⟨by decide +kernel, by decide +kernel⟩, List.mem_of_getElem? (i := 107) (by decide +kernel), List.mem_of_getElem? (i := 805) (by decide +kernel), List.mem_of_getElem? (i := 806) (by decide +kernel)⟩
theorem lw_p24 : lw_okq (⟨"LeapArches$Viaduct", "tread", "(II)V"⟩, 20) := ⟨⟨by decide +kernel, by decide +kernel⟩, List.mem_of_getElem? (i := 107) (by decide +kernel), List.mem_of_getElem? (i := 809) (by decide +kernel), List.mem_of_getElem? (i := 810) (by decide +kernel)⟩
theorem lw_p25 : lw_okq (⟨"LeapArches$Viaduct", "land", "(II)V"⟩, 20) := ⟨⟨by decide +kernel, by decide +kernel⟩, List.mem_of_getElem? (i := 107) (by decide +kernel), List.mem_of_getElem? (i := 813) (by decide +kernel), List.mem_of_getElem? (i := 814) (by decide +kernel)⟩
theorem lw_p26 : lw_okq (⟨"LeapArches", "givenUnless", "(II)I"⟩, 19) := ⟨⟨by decide +kernel, by decide +kernel⟩, List.mem_of_getElem? (i := 21) (by decide +kernel), List.mem_of_getElem? (i := 821) (by decide +kernel), List.mem_of_getElem? (i := 822) (by decide +kernel)⟩
theorem lw_p27 : lw_okq (⟨"LeapArches", "put", "([IIIII)Z"⟩, 19) := ⟨⟨by decide +kernel, by decide +kernel⟩, List.mem_of_getElem? (i := 21) (by decide +kernel), List.mem_of_getElem? (i := 888) (by decide +kernel), List.mem_of_getElem? (i := 889) (by decide +kernel)⟩
theorem lw_p28 : lw_okq (⟨"LeapArches", "givenIfArch", "(I)I"⟩, 19) := ⟨⟨by decide +kernel, by decide +kernel⟩, List.mem_of_getElem? (i := 21) (by decide +kernel), List.mem_of_getElem? (i := 947) (by decide +kernel), List.mem_of_getElem? (i := 948) (by decide +kernel)⟩
theorem lw_p29 : lw_okq (⟨"LeapArches$Groups", "cheapestOf", "(I)I"⟩, 4) := ⟨⟨by decide +kernel, by decide +kernel⟩, List.mem_of_getElem? (i := 311) (by decide +kernel), List.mem_of_getElem? (i := 1015) (by decide +kernel), List.mem_of_getElem? (i := 1016) (by decide +kernel)⟩
theorem lw_p30 : lw_okq (⟨"LeapArches$Groups", "priceOfGroup", "(III)I"⟩, 4) := ⟨⟨by decide +kernel, by decide +kernel⟩, List.mem_of_getElem? (i := 311) (by decide +kernel), List.mem_of_getElem? (i := 1020) (by decide +kernel), List.mem_of_getElem? (i := 1021) (by decide +kernel)⟩
theorem lw_p31 : lw_okq (⟨"LeapArches", "isSetOfPeople", "(I)Z"⟩, 19) := ⟨⟨by decide +kernel, by decide +kernel⟩, List.mem_of_getElem? (i := 21) (by decide +kernel), List.mem_of_getElem? (i := 1037) (by decide +kernel), List.mem_of_getElem? (i := 1038) (by decide +kernel)⟩
def lw_privs_2 : List (MethodName × Nat) := [(⟨"LeapArches$StepsReader", "takeRow", "()Z"⟩, 5), (⟨"LeapArches$StepsReader", "takeEnd", "()Z"⟩, 5), (⟨"LeapArches$StepsReader", "takeRest", "(II)Z"⟩, 5), (⟨"LeapArches$StepsReader", "takeName", "()I"⟩, 5), (⟨"LeapArches$StepsReader", "takeTest", "(I)Z"⟩, 5), (⟨"LeapArches$Viaduct", "sumOfPeople", "([I)I"⟩, 20), (⟨"LeapArches$Viaduct", "strainBy", "(III)I"⟩, 20), (⟨"LeapArches$Viaduct", "stopBy", "(IIII)I"⟩, 20), (⟨"LeapArches$Viaduct", "tread", "(II)V"⟩, 20), (⟨"LeapArches$Viaduct", "land", "(II)V"⟩, 20), (⟨"LeapArches", "givenUnless", "(II)I"⟩, 19), (⟨"LeapArches", "put", "([IIIII)Z"⟩, 19), (⟨"LeapArches", "givenIfArch", "(I)I"⟩, 19), (⟨"LeapArches$Groups", "cheapestOf", "(I)I"⟩, 4), (⟨"LeapArches$Groups", "priceOfGroup", "(III)I"⟩, 4), (⟨"LeapArches", "isSetOfPeople", "(I)Z"⟩, 19)]
theorem lw_r2 : ∀ q ∈ lw_privs_2, lw_okq q := List.forall_mem_cons.mpr ⟨lw_p16, List.forall_mem_cons.mpr ⟨lw_p17, List.forall_mem_cons.mpr ⟨lw_p18, List.forall_mem_cons.mpr ⟨lw_p19, List.forall_mem_cons.mpr ⟨lw_p20, List.forall_mem_cons.mpr ⟨lw_p21, List.forall_mem_cons.mpr ⟨lw_p22, List.forall_mem_cons.mpr ⟨lw_p23, List.forall_mem_cons.mpr ⟨lw_p24, List.forall_mem_cons.mpr ⟨lw_p25, List.forall_mem_cons.mpr ⟨lw_p26, List.forall_mem_cons.mpr ⟨lw_p27, List.forall_mem_cons.mpr ⟨lw_p28, List.forall_mem_cons.mpr ⟨lw_p29, List.forall_mem_cons.mpr ⟨lw_p30, List.forall_mem_cons.mpr ⟨lw_p31, fun _ h => absurd h List.not_mem_nil⟩⟩⟩⟩⟩⟩⟩⟩⟩⟩⟩⟩⟩⟩⟩⟩
theorem lw_p32 : lw_okq (⟨"LeapArches$Groups", "leastMate", "(II)I"⟩, 4) := ⟨⟨by decide +kernel, by decide +kernel⟩, List.mem_of_getElem? (i := 311) (by decide +kernel), List.mem_of_getElem? (i := 1050) (by decide +kernel), List.mem_of_getElem? (i := 1051) (by decide +kernel)⟩
theorem lw_p33 : lw_okq (⟨"LeapArches$Viaduct", "bearsBehindJumps", "(III)Z"⟩, 20) := ⟨⟨by decide +kernel, by decide +kernel⟩, List.mem_of_getElem? (i := 107) (by decide +kernel), List.mem_of_getElem? (i := 1066) (by decide +kernel), List.mem_of_getElem? (i := 1067) (by decide +kernel)⟩
theorem lw_p34 : lw_okq (⟨"LeapArches", "twosStatus", "(III)I"⟩, 19) := ⟨⟨by decide +kernel, by decide +kernel⟩, List.mem_of_getElem? (i := 21) (by decide +kernel), List.mem_of_getElem? (i := 1079) (by decide +kernel), List.mem_of_getElem? (i := 1080) (by decide +kernel)⟩
theorem lw_p35 : lw_okq (⟨"LeapArches", "doubtsThatFit", "(III)I"⟩, 19) := ⟨⟨by decide +kernel, by decide +kernel⟩, List.mem_of_getElem? (i := 21) (by decide +kernel), List.mem_of_getElem? (i := 1084) (by decide +kernel), List.mem_of_getElem? (i := 1085) (by decide +kernel)⟩
theorem lw_p36 : lw_okq (⟨"LeapArches$Contest", "worth", "(I)I"⟩, 4) := ⟨⟨by decide +kernel, by decide +kernel⟩, List.mem_of_getElem? (i := 331) (by decide +kernel), List.mem_of_getElem? (i := 1124) (by decide +kernel), List.mem_of_getElem? (i := 1125) (by decide +kernel)⟩
theorem lw_p37 : lw_okq (⟨"LeapArches$Contest", "worthBehind", "(III)I"⟩, 4) := ⟨⟨by decide +kernel, by decide +kernel⟩, List.mem_of_getElem? (i := 331) (by decide +kernel), List.mem_of_getElem? (i := 1128) (by decide +kernel), List.mem_of_getElem? (i := 1129) (by decide +kernel)⟩
theorem lw_p38 : lw_okq (⟨"LeapArches$Contest", "canMove", "(II)Z"⟩, 4) := ⟨⟨by decide +kernel, by decide +kernel⟩, List.mem_of_getElem? (i := 331) (by decide +kernel), List.mem_of_getElem? (i := 1134) (by decide +kernel), List.mem_of_getElem? (i := 1135) (by decide +kernel)⟩
theorem lw_p39 : lw_okq (⟨"LeapArches$Viaduct", "sumOfPlants", "([II)I"⟩, 20) := ⟨⟨by decide +kernel, by decide +kernel⟩, List.mem_of_getElem? (i := 107) (by decide +kernel), List.mem_of_getElem? (i := 1162) (by decide +kernel), List.mem_of_getElem? (i := 1163) (by decide +kernel)⟩
theorem lw_p40 : lw_okq (⟨"LeapArches$Viaduct", "sizeOf", "(I)I"⟩, 20) := ⟨⟨by decide +kernel, by decide +kernel⟩, List.mem_of_getElem? (i := 107) (by decide +kernel), List.mem_of_getElem? (i := 1166) (by decide +kernel), List.mem_of_getElem? (i := 1167) (by decide +kernel)⟩
theorem lw_p41 : lw_okq (⟨"LeapArches", "tellOdds", "(II)V"⟩, 19) := ⟨⟨by decide +kernel, by decide +kernel⟩, List.mem_of_getElem? (i := 21) (by decide +kernel), List.mem_of_getElem? (i := 1179) (by decide +kernel), List.mem_of_getElem? (i := 1180) (by decide +kernel)⟩
theorem lw_p42 : lw_okq (⟨"LeapArches", "tell", "(JJ)V"⟩, 19) := ⟨⟨by decide +kernel, by decide +kernel⟩, List.mem_of_getElem? (i := 21) (by decide +kernel), List.mem_of_getElem? (i := 1183) (by decide +kernel), List.mem_of_getElem? (i := 1184) (by decide +kernel)⟩
theorem lw_p43 : lw_okq (⟨"LeapArches$Life", "rowBehindEnd", "(I)I"⟩, 7) := ⟨⟨by decide +kernel, by decide +kernel⟩, List.mem_of_getElem? (i := 350) (by decide +kernel), List.mem_of_getElem? (i := 1211) (by decide +kernel), List.mem_of_getElem? (i := 1212) (by decide +kernel)⟩
theorem lw_p44 : lw_okq (⟨"LeapArches$Life", "doStep", "(I)I"⟩, 7) := ⟨⟨by decide +kernel, by decide +kernel⟩, List.mem_of_getElem? (i := 350) (by decide +kernel), List.mem_of_getElem? (i := 1215) (by decide +kernel), List.mem_of_getElem? (i := 1216) (by decide +kernel)⟩
theorem lw_p45 : lw_okq (⟨"LeapArches$Life", "doAny", "()I"⟩, 7) := ⟨⟨by decide +kernel, by decide +kernel⟩, List.mem_of_getElem? (i := 350) (by decide +kernel), List.mem_of_getElem? (i := 1228) (by decide +kernel), List.mem_of_getElem? (i := 1229) (by decide +kernel)⟩
theorem lw_p46 : lw_okq (⟨"LeapArches$Life", "draw", "(I)I"⟩, 7) := ⟨⟨by decide +kernel, by decide +kernel⟩, List.mem_of_getElem? (i := 350) (by decide +kernel), List.mem_of_getElem? (i := 1232) (by decide +kernel), List.mem_of_getElem? (i := 1233) (by decide +kernel)⟩
theorem lw_p47 : lw_okq (⟨"LeapArches$Life", "rowBehindStep", "(I)I"⟩, 7) := ⟨⟨by decide +kernel, by decide +kernel⟩, List.mem_of_getElem? (i := 350) (by decide +kernel), List.mem_of_getElem? (i := 1237) (by decide +kernel), List.mem_of_getElem? (i := 1238) (by decide +kernel)⟩
def lw_privs_3 : List (MethodName × Nat) := [(⟨"LeapArches$Groups", "leastMate", "(II)I"⟩, 4), (⟨"LeapArches$Viaduct", "bearsBehindJumps", "(III)Z"⟩, 20), (⟨"LeapArches", "twosStatus", "(III)I"⟩, 19), (⟨"LeapArches", "doubtsThatFit", "(III)I"⟩, 19), (⟨"LeapArches$Contest", "worth", "(I)I"⟩, 4), (⟨"LeapArches$Contest", "worthBehind", "(III)I"⟩, 4), (⟨"LeapArches$Contest", "canMove", "(II)Z"⟩, 4), (⟨"LeapArches$Viaduct", "sumOfPlants", "([II)I"⟩, 20), (⟨"LeapArches$Viaduct", "sizeOf", "(I)I"⟩, 20), (⟨"LeapArches", "tellOdds", "(II)V"⟩, 19), (⟨"LeapArches", "tell", "(JJ)V"⟩, 19), (⟨"LeapArches$Life", "rowBehindEnd", "(I)I"⟩, 7), (⟨"LeapArches$Life", "doStep", "(I)I"⟩, 7), (⟨"LeapArches$Life", "doAny", "()I"⟩, 7), (⟨"LeapArches$Life", "draw", "(I)I"⟩, 7), (⟨"LeapArches$Life", "rowBehindStep", "(I)I"⟩, 7)]
theorem lw_r3 : ∀ q ∈ lw_privs_3, lw_okq q := List.forall_mem_cons.mpr ⟨lw_p32, List.forall_mem_cons.mpr ⟨lw_p33, List.forall_mem_cons.mpr ⟨lw_p34, List.forall_mem_cons.mpr ⟨lw_p35, List.forall_mem_cons.mpr ⟨lw_p36, List.forall_mem_cons.mpr ⟨lw_p37, List.forall_mem_cons.mpr ⟨lw_p38, List.forall_mem_cons.mpr ⟨lw_p39, List.forall_mem_cons.mpr ⟨lw_p40, List.forall_mem_cons.mpr ⟨lw_p41, List.forall_mem_cons.mpr ⟨lw_p42, List.forall_mem_cons.mpr ⟨lw_p43, List.forall_mem_cons.mpr ⟨lw_p44, List.forall_mem_cons.mpr ⟨lw_p45, List.forall_mem_cons.mpr ⟨lw_p46, List.forall_mem_cons.mpr ⟨lw_p47, fun _ h => absurd h List.not_mem_nil⟩⟩⟩⟩⟩⟩⟩⟩⟩⟩⟩⟩⟩⟩⟩⟩
theorem lw_p48 : lw_okq (⟨"LeapArches$Life", "holdsTest", "(I)Z"⟩, 7) := ⟨⟨by decide +kernel, by decide +kernel⟩, List.mem_of_getElem? (i := 350) (by decide +kernel), List.mem_of_getElem? (i := 1241) (by decide +kernel), List.mem_of_getElem? (i := 1242) (by decide +kernel)⟩
theorem lw_p49 : lw_okq (⟨"LeapArches$Life", "compare", "(II)Z"⟩, 7) := ⟨⟨by decide +kernel, by decide +kernel⟩, List.mem_of_getElem? (i := 350) (by decide +kernel), List.mem_of_getElem? (i := 1246) (by decide +kernel), List.mem_of_getElem? (i := 1247) (by decide +kernel)⟩
theorem lw_p50 : lw_okq (⟨"LeapArchesModel", "plain", "(I)V"⟩, 39) := ⟨⟨by decide +kernel, by decide +kernel⟩, List.mem_of_getElem? (i := 1275) (by decide +kernel), List.mem_of_getElem? (i := 1281) (by decide +kernel), List.mem_of_getElem? (i := 1282) (by decide +kernel)⟩
theorem lw_p51 : lw_okq (⟨"LeapArchesModel", "is", "(I)Z"⟩, 39) := ⟨⟨by decide +kernel, by decide +kernel⟩, List.mem_of_getElem? (i := 1275) (by decide +kernel), List.mem_of_getElem? (i := 1423) (by decide +kernel), List.mem_of_getElem? (i := 1424) (by decide +kernel)⟩
theorem lw_p52 : lw_okq (⟨"LeapArchesModel", "wrongPlace", "(II)I"⟩, 39) := ⟨⟨by decide +kernel, by decide +kernel⟩, List.mem_of_getElem? (i := 1275) (by decide +kernel), List.mem_of_getElem? (i := 1431) (by decide +kernel), List.mem_of_getElem? (i := 1432) (by decide +kernel)⟩
theorem lw_p53 : lw_okq (⟨"LeapArchesModel", "four", "(I)V"⟩, 39) := ⟨⟨by decide +kernel, by decide +kernel⟩, List.mem_of_getElem? (i := 1275) (by decide +kernel), List.mem_of_getElem? (i := 1451) (by decide +kernel), List.mem_of_getElem? (i := 1452) (by decide +kernel)⟩
theorem lw_p54 : lw_okq (⟨"LeapArchesModel", "begins", "(II)Z"⟩, 39) := ⟨⟨by decide +kernel, by decide +kernel⟩, List.mem_of_getElem? (i := 1275) (by decide +kernel), List.mem_of_getElem? (i := 1463) (by decide +kernel), List.mem_of_getElem? (i := 1464) (by decide +kernel)⟩
theorem lw_p55 : lw_okq (⟨"LeapArchesModel", "ahead", "()V"⟩, 39) := ⟨⟨by decide +kernel, by decide +kernel⟩, List.mem_of_getElem? (i := 1275) (by decide +kernel), List.mem_of_getElem? (i := 1467) (by decide +kernel), List.mem_of_getElem? (i := 1468) (by decide +kernel)⟩
theorem lw_p56 : lw_okq (⟨"LeapArchesModel", "byteAt", "(I)I"⟩, 39) := ⟨⟨by decide +kernel, by decide +kernel⟩, List.mem_of_getElem? (i := 1275) (by decide +kernel), List.mem_of_getElem? (i := 1471) (by decide +kernel), List.mem_of_getElem? (i := 1472) (by decide +kernel)⟩
theorem lw_p57 : lw_okq (⟨"LeapArchesModel", "refuse", "(I)I"⟩, 39) := ⟨⟨by decide +kernel, by decide +kernel⟩, List.mem_of_getElem? (i := 1275) (by decide +kernel), List.mem_of_getElem? (i := 1483) (by decide +kernel), List.mem_of_getElem? (i := 1484) (by decide +kernel)⟩
theorem lw_p58 : lw_okq (⟨"LeapArchesModel", "viaductPart", "()Z"⟩, 39) := ⟨⟨by decide +kernel, by decide +kernel⟩, List.mem_of_getElem? (i := 1275) (by decide +kernel), List.mem_of_getElem? (i := 1487) (by decide +kernel), List.mem_of_getElem? (i := 1488) (by decide +kernel)⟩
theorem lw_p59 : lw_okq (⟨"LeapArchesModel", "inWords", "(Ljava/lang/String;)I"⟩, 39) := ⟨⟨by decide +kernel, by decide +kernel⟩, List.mem_of_getElem? (i := 1275) (by decide +kernel), List.mem_of_getElem? (i := 1492) (by decide +kernel), List.mem_of_getElem? (i := 1493) (by decide +kernel)⟩
theorem lw_p60 : lw_okq (⟨"LeapArchesModel", "fails", "(I)Z"⟩, 39) := ⟨⟨by decide +kernel, by decide +kernel⟩, List.mem_of_getElem? (i := 1275) (by decide +kernel), List.mem_of_getElem? (i := 1498) (by decide +kernel), List.mem_of_getElem? (i := 1499) (by decide +kernel)⟩
theorem lw_p61 : lw_okq (⟨"LeapArchesModel", "number", "(III)Z"⟩, 39) := ⟨⟨by decide +kernel, by decide +kernel⟩, List.mem_of_getElem? (i := 1275) (by decide +kernel), List.mem_of_getElem? (i := 1502) (by decide +kernel), List.mem_of_getElem? (i := 1503) (by decide +kernel)⟩
theorem lw_p62 : lw_okq (⟨"LeapArchesModel", "anArch", "()Z"⟩, 39) := ⟨⟨by decide +kernel, by decide +kernel⟩, List.mem_of_getElem? (i := 1275) (by decide +kernel), List.mem_of_getElem? (i := 1506) (by decide +kernel), List.mem_of_getElem? (i := 1507) (by decide +kernel)⟩
theorem lw_p63 : lw_okq (⟨"LeapArchesModel", "isFull", "(II)Z"⟩, 39) := ⟨⟨by decide +kernel, by decide +kernel⟩, List.mem_of_getElem? (i := 1275) (by decide +kernel), List.mem_of_getElem? (i := 1510) (by decide +kernel), List.mem_of_getElem? (i := 1511) (by decide +kernel)⟩
def lw_privs_4 : List (MethodName × Nat) := [(⟨"LeapArches$Life", "holdsTest", "(I)Z"⟩, 7), (⟨"LeapArches$Life", "compare", "(II)Z"⟩, 7), (⟨"LeapArchesModel", "plain", "(I)V"⟩, 39), (⟨"LeapArchesModel", "is", "(I)Z"⟩, 39), (⟨"LeapArchesModel", "wrongPlace", "(II)I"⟩, 39), (⟨"LeapArchesModel", "four", "(I)V"⟩, 39), (⟨"LeapArchesModel", "begins", "(II)Z"⟩, 39), (⟨"LeapArchesModel", "ahead", "()V"⟩, 39), (⟨"LeapArchesModel", "byteAt", "(I)I"⟩, 39), (⟨"LeapArchesModel", "refuse", "(I)I"⟩, 39), (⟨"LeapArchesModel", "viaductPart", "()Z"⟩, 39), (⟨"LeapArchesModel", "inWords", "(Ljava/lang/String;)I"⟩, 39), (⟨"LeapArchesModel", "fails", "(I)Z"⟩, 39), (⟨"LeapArchesModel", "number", "(III)Z"⟩, 39), (⟨"LeapArchesModel", "anArch", "()Z"⟩, 39), (⟨"LeapArchesModel", "isFull", "(II)Z"⟩, 39)]
theorem lw_r4 : ∀ q ∈ lw_privs_4, lw_okq q := List.forall_mem_cons.mpr ⟨lw_p48, List.forall_mem_cons.mpr ⟨lw_p49, List.forall_mem_cons.mpr ⟨lw_p50, List.forall_mem_cons.mpr ⟨lw_p51, List.forall_mem_cons.mpr ⟨lw_p52, List.forall_mem_cons.mpr ⟨lw_p53, List.forall_mem_cons.mpr ⟨lw_p54, List.forall_mem_cons.mpr ⟨lw_p55, List.forall_mem_cons.mpr ⟨lw_p56, List.forall_mem_cons.mpr ⟨lw_p57, List.forall_mem_cons.mpr ⟨lw_p58, List.forall_mem_cons.mpr ⟨lw_p59, List.forall_mem_cons.mpr ⟨lw_p60, List.forall_mem_cons.mpr ⟨lw_p61, List.forall_mem_cons.mpr ⟨lw_p62, List.forall_mem_cons.mpr ⟨lw_p63, fun _ h => absurd h List.not_mem_nil⟩⟩⟩⟩⟩⟩⟩⟩⟩⟩⟩⟩⟩⟩⟩⟩
theorem lw_p64 : lw_okq (⟨"LeapArchesModel", "wantWord", "(Ljava/lang/String;I)Z"⟩, 39) := ⟨⟨by decide +kernel, by decide +kernel⟩, List.mem_of_getElem? (i := 1275) (by decide +kernel), List.mem_of_getElem? (i := 1517) (by decide +kernel), List.mem_of_getElem? (i := 1518) (by decide +kernel)⟩
theorem lw_p65 : lw_okq (⟨"LeapArchesModel", "perhaps", "(IIIII)Z"⟩, 39) := ⟨⟨by decide +kernel, by decide +kernel⟩, List.mem_of_getElem? (i := 1275) (by decide +kernel), List.mem_of_getElem? (i := 1521) (by decide +kernel), List.mem_of_getElem? (i := 1522) (by decide +kernel)⟩
theorem lw_p66 : lw_okq (⟨"LeapArchesModel", "isThere", "(I)Z"⟩, 39) := ⟨⟨by decide +kernel, by decide +kernel⟩, List.mem_of_getElem? (i := 1275) (by decide +kernel), List.mem_of_getElem? (i := 1525) (by decide +kernel), List.mem_of_getElem? (i := 1526) (by decide +kernel)⟩
theorem lw_p67 : lw_okq (⟨"LeapArchesModel", "aPerson", "()Z"⟩, 39) := ⟨⟨by decide +kernel, by decide +kernel⟩, List.mem_of_getElem? (i := 1275) (by decide +kernel), List.mem_of_getElem? (i := 1529) (by decide +kernel), List.mem_of_getElem? (i := 1530) (by decide +kernel)⟩
theorem lw_p68 : lw_okq (⟨"LeapArchesModel", "isName", "(Ljava/lang/String;)Z"⟩, 39) := ⟨⟨by decide +kernel, by decide +kernel⟩, List.mem_of_getElem? (i := 1275) (by decide +kernel), List.mem_of_getElem? (i := 1536) (by decide +kernel), List.mem_of_getElem? (i := 1537) (by decide +kernel)⟩
theorem lw_p69 : lw_okq (⟨"LeapArchesModel", "findHere", "(II)I"⟩, 39) := ⟨⟨by decide +kernel, by decide +kernel⟩, List.mem_of_getElem? (i := 1275) (by decide +kernel), List.mem_of_getElem? (i := 1540) (by decide +kernel), List.mem_of_getElem? (i := 1541) (by decide +kernel)⟩
theorem lw_p70 : lw_okq (⟨"LeapArchesModel", "nameHere", "()J"⟩, 39) := ⟨⟨by decide +kernel, by decide +kernel⟩, List.mem_of_getElem? (i := 1275) (by decide +kernel), List.mem_of_getElem? (i := 1544) (by decide +kernel), List.mem_of_getElem? (i := 1545) (by decide +kernel)⟩
theorem lw_p71 : lw_okq (⟨"LeapArchesModel", "aPlant", "()Z"⟩, 39) := ⟨⟨by decide +kernel, by decide +kernel⟩, List.mem_of_getElem? (i := 1275) (by decide +kernel), List.mem_of_getElem? (i := 1548) (by decide +kernel), List.mem_of_getElem? (i := 1549) (by decide +kernel)⟩
theorem lw_p72 : lw_okq (⟨"LeapArchesModel", "wantSign", "(I)Z"⟩, 39) := ⟨⟨by decide +kernel, by decide +kernel⟩, List.mem_of_getElem? (i := 1275) (by decide +kernel), List.mem_of_getElem? (i := 1555) (by decide +kernel), List.mem_of_getElem? (i := 1556) (by decide +kernel)⟩
theorem lw_p73 : lw_okq (⟨"LeapArchesModel", "isSign", "(I)Z"⟩, 39) := ⟨⟨by decide +kernel, by decide +kernel⟩, List.mem_of_getElem? (i := 1275) (by decide +kernel), List.mem_of_getElem? (i := 1559) (by decide +kernel), List.mem_of_getElem? (i := 1560) (by decide +kernel)⟩
theorem lw_p74 : lw_okq (⟨"LeapArchesModel", "taken", "(I)I"⟩, 39) := ⟨⟨by decide +kernel, by decide +kernel⟩, List.mem_of_getElem? (i := 1275) (by decide +kernel), List.mem_of_getElem? (i := 1563) (by decide +kernel), List.mem_of_getElem? (i := 1564) (by decide +kernel)⟩
theorem lw_p75 : lw_okq (⟨"LeapArchesModel", "gives", "(I)I"⟩, 39) := ⟨⟨by decide +kernel, by decide +kernel⟩, List.mem_of_getElem? (i := 1275) (by decide +kernel), List.mem_of_getElem? (i := 1567) (by decide +kernel), List.mem_of_getElem? (i := 1568) (by decide +kernel)⟩
theorem lw_p76 : lw_okq (⟨"LeapArchesModel", "decadeStep", "()Z"⟩, 39) := ⟨⟨by decide +kernel, by decide +kernel⟩, List.mem_of_getElem? (i := 1275) (by decide +kernel), List.mem_of_getElem? (i := 1575) (by decide +kernel), List.mem_of_getElem? (i := 1576) (by decide +kernel)⟩
theorem lw_p77 : lw_okq (⟨"LeapArchesModel", "decadeOrder", "(II)Z"⟩, 39) := ⟨⟨by decide +kernel, by decide +kernel⟩, List.mem_of_getElem? (i := 1275) (by decide +kernel), List.mem_of_getElem? (i := 1579) (by decide +kernel), List.mem_of_getElem? (i := 1580) (by decide +kernel)⟩
theorem lw_p78 : lw_okq (⟨"LeapArchesModel", "personTo", "(I)Z"⟩, 39) := ⟨⟨by decide +kernel, by decide +kernel⟩, List.mem_of_getElem? (i := 1275) (by decide +kernel), List.mem_of_getElem? (i := 1583) (by decide +kernel), List.mem_of_getElem? (i := 1584) (by decide +kernel)⟩
theorem lw_p79 : lw_okq (⟨"LeapArchesModel", "archTo", "(I)Z"⟩, 39) := ⟨⟨by decide +kernel, by decide +kernel⟩, List.mem_of_getElem? (i := 1275) (by decide +kernel), List.mem_of_getElem? (i := 1587) (by decide +kernel), List.mem_of_getElem? (i := 1588) (by decide +kernel)⟩
def lw_privs_5 : List (MethodName × Nat) := [(⟨"LeapArchesModel", "wantWord", "(Ljava/lang/String;I)Z"⟩, 39), (⟨"LeapArchesModel", "perhaps", "(IIIII)Z"⟩, 39), (⟨"LeapArchesModel", "isThere", "(I)Z"⟩, 39), (⟨"LeapArchesModel", "aPerson", "()Z"⟩, 39), (⟨"LeapArchesModel", "isName", "(Ljava/lang/String;)Z"⟩, 39), (⟨"LeapArchesModel", "findHere", "(II)I"⟩, 39), (⟨"LeapArchesModel", "nameHere", "()J"⟩, 39), (⟨"LeapArchesModel", "aPlant", "()Z"⟩, 39), (⟨"LeapArchesModel", "wantSign", "(I)Z"⟩, 39), (⟨"LeapArchesModel", "isSign", "(I)Z"⟩, 39), (⟨"LeapArchesModel", "taken", "(I)I"⟩, 39), (⟨"LeapArchesModel", "gives", "(I)I"⟩, 39), (⟨"LeapArchesModel", "decadeStep", "()Z"⟩, 39), (⟨"LeapArchesModel", "decadeOrder", "(II)Z"⟩, 39), (⟨"LeapArchesModel", "personTo", "(I)Z"⟩, 39), (⟨"LeapArchesModel", "archTo", "(I)Z"⟩, 39)]
theorem lw_r5 : ∀ q ∈ lw_privs_5, lw_okq q := List.forall_mem_cons.mpr ⟨lw_p64, List.forall_mem_cons.mpr ⟨lw_p65, List.forall_mem_cons.mpr ⟨lw_p66, List.forall_mem_cons.mpr ⟨lw_p67, List.forall_mem_cons.mpr ⟨lw_p68, List.forall_mem_cons.mpr ⟨lw_p69, List.forall_mem_cons.mpr ⟨lw_p70, List.forall_mem_cons.mpr ⟨lw_p71, List.forall_mem_cons.mpr ⟨lw_p72, List.forall_mem_cons.mpr ⟨lw_p73, List.forall_mem_cons.mpr ⟨lw_p74, List.forall_mem_cons.mpr ⟨lw_p75, List.forall_mem_cons.mpr ⟨lw_p76, List.forall_mem_cons.mpr ⟨lw_p77, List.forall_mem_cons.mpr ⟨lw_p78, List.forall_mem_cons.mpr ⟨lw_p79, fun _ h => absurd h List.not_mem_nil⟩⟩⟩⟩⟩⟩⟩⟩⟩⟩⟩⟩⟩⟩⟩⟩
theorem lw_p80 : lw_okq (⟨"LeapArchesModel", "test", "(I)Z"⟩, 39) := ⟨⟨by decide +kernel, by decide +kernel⟩, List.mem_of_getElem? (i := 1275) (by decide +kernel), List.mem_of_getElem? (i := 1591) (by decide +kernel), List.mem_of_getElem? (i := 1592) (by decide +kernel)⟩
theorem lw_p81 : lw_okq (⟨"LeapArchesModel", "areOver", "()I"⟩, 39) := ⟨⟨by decide +kernel, by decide +kernel⟩, List.mem_of_getElem? (i := 1275) (by decide +kernel), List.mem_of_getElem? (i := 1599) (by decide +kernel), List.mem_of_getElem? (i := 1600) (by decide +kernel)⟩
theorem lw_p82 : lw_okq (⟨"LeapArchesModel", "isOver", "(I)Z"⟩, 39) := ⟨⟨by decide +kernel, by decide +kernel⟩, List.mem_of_getElem? (i := 1275) (by decide +kernel), List.mem_of_getElem? (i := 1603) (by decide +kernel), List.mem_of_getElem? (i := 1604) (by decide +kernel)⟩
theorem lw_p83 : lw_okq (⟨"LeapArchesModel", "personOf", "(II)I"⟩, 39) := ⟨⟨by decide +kernel, by decide +kernel⟩, List.mem_of_getElem? (i := 1275) (by decide +kernel), List.mem_of_getElem? (i := 1607) (by decide +kernel), List.mem_of_getElem? (i := 1608) (by decide +kernel)⟩
theorem lw_p84 : lw_okq (⟨"LeapArchesModel", "together", "(I)I"⟩, 39) := ⟨⟨by decide +kernel, by decide +kernel⟩, List.mem_of_getElem? (i := 1275) (by decide +kernel), List.mem_of_getElem? (i := 1611) (by decide +kernel), List.mem_of_getElem? (i := 1612) (by decide +kernel)⟩
theorem lw_p85 : lw_okq (⟨"LeapArchesModel", "isArch", "(I)Z"⟩, 39) := ⟨⟨by decide +kernel, by decide +kernel⟩, List.mem_of_getElem? (i := 1275) (by decide +kernel), List.mem_of_getElem? (i := 1619) (by decide +kernel), List.mem_of_getElem? (i := 1620) (by decide +kernel)⟩
theorem lw_p86 : lw_okq (⟨"LeapArchesModel", "borneBy", "(I)I"⟩, 39) := ⟨⟨by decide +kernel, by decide +kernel⟩, List.mem_of_getElem? (i := 1275) (by decide +kernel), List.mem_of_getElem? (i := 1623) (by decide +kernel), List.mem_of_getElem? (i := 1624) (by decide +kernel)⟩
theorem lw_p87 : lw_okq (⟨"LeapArchesModel", "bears", "(III)Z"⟩, 39) := ⟨⟨by decide +kernel, by decide +kernel⟩, List.mem_of_getElem? (i := 1275) (by decide +kernel), List.mem_of_getElem? (i := 1627) (by decide +kernel), List.mem_of_getElem? (i := 1628) (by decide +kernel)⟩
theorem lw_p88 : lw_okq (⟨"LeapArchesModel", "strainBy", "(II)I"⟩, 39) := ⟨⟨by decide +kernel, by decide +kernel⟩, List.mem_of_getElem? (i := 1275) (by decide +kernel), List.mem_of_getElem? (i := 1631) (by decide +kernel), List.mem_of_getElem? (i := 1632) (by decide +kernel)⟩
theorem lw_p89 : lw_okq (⟨"LeapArchesModel", "dimOf", "(I)I"⟩, 39) := ⟨⟨by decide +kernel, by decide +kernel⟩, List.mem_of_getElem? (i := 1275) (by decide +kernel), List.mem_of_getElem? (i := 1635) (by decide +kernel), List.mem_of_getElem? (i := 1636) (by decide +kernel)⟩
theorem lw_p90 : lw_okq (⟨"LeapArchesModel", "archOf", "(II)I"⟩, 39) := ⟨⟨by decide +kernel, by decide +kernel⟩, List.mem_of_getElem? (i := 1275) (by decide +kernel), List.mem_of_getElem? (i := 1639) (by decide +kernel), List.mem_of_getElem? (i := 1640) (by decide +kernel)⟩
theorem lw_p91 : lw_okq (⟨"LeapArchesModel", "strainBoth", "(III)I"⟩, 39) := ⟨⟨by decide +kernel, by decide +kernel⟩, List.mem_of_getElem? (i := 1275) (by decide +kernel), List.mem_of_getElem? (i := 1643) (by decide +kernel), List.mem_of_getElem? (i := 1644) (by decide +kernel)⟩
theorem lw_p92 : lw_okq (⟨"LeapArchesModel", "isPerson", "(I)Z"⟩, 39) := ⟨⟨by decide +kernel, by decide +kernel⟩, List.mem_of_getElem? (i := 1275) (by decide +kernel), List.mem_of_getElem? (i := 1652) (by decide +kernel), List.mem_of_getElem? (i := 1653) (by decide +kernel)⟩
theorem lw_p93 : lw_okq (⟨"LeapArchesModel", "runs", "(II)I"⟩, 39) := ⟨⟨by decide +kernel, by decide +kernel⟩, List.mem_of_getElem? (i := 1275) (by decide +kernel), List.mem_of_getElem? (i := 1664) (by decide +kernel), List.mem_of_getElem? (i := 1665) (by decide +kernel)⟩
theorem lw_p94 : lw_okq (⟨"LeapArchesModel", "paysAt", "(II)V"⟩, 39) := ⟨⟨by decide +kernel, by decide +kernel⟩, List.mem_of_getElem? (i := 1275) (by decide +kernel), List.mem_of_getElem? (i := 1668) (by decide +kernel), List.mem_of_getElem? (i := 1669) (by decide +kernel)⟩
theorem lw_p95 : lw_okq (⟨"LeapArchesModel", "goes", "(II)V"⟩, 39) := ⟨⟨by decide +kernel, by decide +kernel⟩, List.mem_of_getElem? (i := 1275) (by decide +kernel), List.mem_of_getElem? (i := 1672) (by decide +kernel), List.mem_of_getElem? (i := 1673) (by decide +kernel)⟩
def lw_privs_6 : List (MethodName × Nat) := [(⟨"LeapArchesModel", "test", "(I)Z"⟩, 39), (⟨"LeapArchesModel", "areOver", "()I"⟩, 39), (⟨"LeapArchesModel", "isOver", "(I)Z"⟩, 39), (⟨"LeapArchesModel", "personOf", "(II)I"⟩, 39), (⟨"LeapArchesModel", "together", "(I)I"⟩, 39), (⟨"LeapArchesModel", "isArch", "(I)Z"⟩, 39), (⟨"LeapArchesModel", "borneBy", "(I)I"⟩, 39), (⟨"LeapArchesModel", "bears", "(III)Z"⟩, 39), (⟨"LeapArchesModel", "strainBy", "(II)I"⟩, 39), (⟨"LeapArchesModel", "dimOf", "(I)I"⟩, 39), (⟨"LeapArchesModel", "archOf", "(II)I"⟩, 39), (⟨"LeapArchesModel", "strainBoth", "(III)I"⟩, 39), (⟨"LeapArchesModel", "isPerson", "(I)Z"⟩, 39), (⟨"LeapArchesModel", "runs", "(II)I"⟩, 39), (⟨"LeapArchesModel", "paysAt", "(II)V"⟩, 39), (⟨"LeapArchesModel", "goes", "(II)V"⟩, 39)]
theorem lw_r6 : ∀ q ∈ lw_privs_6, lw_okq q := List.forall_mem_cons.mpr ⟨lw_p80, List.forall_mem_cons.mpr ⟨lw_p81, List.forall_mem_cons.mpr ⟨lw_p82, List.forall_mem_cons.mpr ⟨lw_p83, List.forall_mem_cons.mpr ⟨lw_p84, List.forall_mem_cons.mpr ⟨lw_p85, List.forall_mem_cons.mpr ⟨lw_p86, List.forall_mem_cons.mpr ⟨lw_p87, List.forall_mem_cons.mpr ⟨lw_p88, List.forall_mem_cons.mpr ⟨lw_p89, List.forall_mem_cons.mpr ⟨lw_p90, List.forall_mem_cons.mpr ⟨lw_p91, List.forall_mem_cons.mpr ⟨lw_p92, List.forall_mem_cons.mpr ⟨lw_p93, List.forall_mem_cons.mpr ⟨lw_p94, List.forall_mem_cons.mpr ⟨lw_p95, fun _ h => absurd h List.not_mem_nil⟩⟩⟩⟩⟩⟩⟩⟩⟩⟩⟩⟩⟩⟩⟩⟩
theorem lw_p96 : lw_okq (⟨"LeapArchesModel", "mayFall", "(I)V"⟩, 39) := ⟨⟨by decide +kernel, by decide +kernel⟩, List.mem_of_getElem? (i := 1275) (by decide +kernel), List.mem_of_getElem? (i := 1676) (by decide +kernel), List.mem_of_getElem? (i := 1677) (by decide +kernel)⟩
theorem lw_p97 : lw_okq (⟨"LeapArchesModel", "canRope", "(II)Z"⟩, 39) := ⟨⟨by decide +kernel, by decide +kernel⟩, List.mem_of_getElem? (i := 1275) (by decide +kernel), List.mem_of_getElem? (i := 1684) (by decide +kernel), List.mem_of_getElem? (i := 1685) (by decide +kernel)⟩
theorem lw_p98 : lw_okq (⟨"LeapArchesModel", "jumps", "(I)Z"⟩, 39) := ⟨⟨by decide +kernel, by decide +kernel⟩, List.mem_of_getElem? (i := 1275) (by decide +kernel), List.mem_of_getElem? (i := 1692) (by decide +kernel), List.mem_of_getElem? (i := 1693) (by decide +kernel)⟩
theorem lw_p99 : lw_okq (⟨"LeapArchesModel", "homes", "(I)Z"⟩, 39) := ⟨⟨by decide +kernel, by decide +kernel⟩, List.mem_of_getElem? (i := 1275) (by decide +kernel), List.mem_of_getElem? (i := 1700) (by decide +kernel), List.mem_of_getElem? (i := 1701) (by decide +kernel)⟩
theorem lw_p100 : lw_okq (⟨"LeapArchesModel", "daysGo", "(I)V"⟩, 39) := ⟨⟨by decide +kernel, by decide +kernel⟩, List.mem_of_getElem? (i := 1275) (by decide +kernel), List.mem_of_getElem? (i := 1712) (by decide +kernel), List.mem_of_getElem? (i := 1713) (by decide +kernel)⟩
theorem lw_p101 : lw_okq (⟨"LeapArchesModel", "dayGoes", "()V"⟩, 39) := ⟨⟨by decide +kernel, by decide +kernel⟩, List.mem_of_getElem? (i := 1275) (by decide +kernel), List.mem_of_getElem? (i := 1716) (by decide +kernel), List.mem_of_getElem? (i := 1717) (by decide +kernel)⟩
theorem lw_p102 : lw_okq (⟨"LeapArchesModel", "isIn", "(II)Z"⟩, 39) := ⟨⟨by decide +kernel, by decide +kernel⟩, List.mem_of_getElem? (i := 1275) (by decide +kernel), List.mem_of_getElem? (i := 1720) (by decide +kernel), List.mem_of_getElem? (i := 1721) (by decide +kernel)⟩
theorem lw_p103 : lw_okq (⟨"LeapArchesModel", "reachOf", "(II)I"⟩, 39) := ⟨⟨by decide +kernel, by decide +kernel⟩, List.mem_of_getElem? (i := 1275) (by decide +kernel), List.mem_of_getElem? (i := 1762) (by decide +kernel), List.mem_of_getElem? (i := 1763) (by decide +kernel)⟩
theorem lw_p104 : lw_okq (⟨"LeapArchesModel", "keeps", "(I)V"⟩, 39) := ⟨⟨by decide +kernel, by decide +kernel⟩, List.mem_of_getElem? (i := 1275) (by decide +kernel), List.mem_of_getElem? (i := 1766) (by decide +kernel), List.mem_of_getElem? (i := 1767) (by decide +kernel)⟩
theorem lw_p105 : lw_okq (⟨"LeapArchesModel", "restores", "(I)V"⟩, 39) := ⟨⟨by decide +kernel, by decide +kernel⟩, List.mem_of_getElem? (i := 1275) (by decide +kernel), List.mem_of_getElem? (i := 1770) (by decide +kernel), List.mem_of_getElem? (i := 1771) (by decide +kernel)⟩
theorem lw_p106 : lw_okq (⟨"LeapArchesModel", "stopOf", "(III)I"⟩, 39) := ⟨⟨by decide +kernel, by decide +kernel⟩, List.mem_of_getElem? (i := 1275) (by decide +kernel), List.mem_of_getElem? (i := 1782) (by decide +kernel), List.mem_of_getElem? (i := 1783) (by decide +kernel)⟩
theorem lw_p107 : lw_okq (⟨"LeapArchesModel", "orNone", "(I)I"⟩, 39) := ⟨⟨by decide +kernel, by decide +kernel⟩, List.mem_of_getElem? (i := 1275) (by decide +kernel), List.mem_of_getElem? (i := 1786) (by decide +kernel), List.mem_of_getElem? (i := 1787) (by decide +kernel)⟩
theorem lw_p108 : lw_okq (⟨"LeapArchesModel", "spanOf", "(I)I"⟩, 39) := ⟨⟨by decide +kernel, by decide +kernel⟩, List.mem_of_getElem? (i := 1275) (by decide +kernel), List.mem_of_getElem? (i := 1802) (by decide +kernel), List.mem_of_getElem? (i := 1803) (by decide +kernel)⟩
theorem lw_p109 : lw_okq (⟨"LeapArchesModel", "laysGroups", "()V"⟩, 39) := ⟨⟨by decide +kernel, by decide +kernel⟩, List.mem_of_getElem? (i := 1275) (by decide +kernel), List.mem_of_getElem? (i := 1825) (by decide +kernel), List.mem_of_getElem? (i := 1826) (by decide +kernel)⟩
theorem lw_p110 : lw_okq (⟨"LeapArchesModel", "everybody", "()I"⟩, 39) := ⟨⟨by decide +kernel, by decide +kernel⟩, List.mem_of_getElem? (i := 1275) (by decide +kernel), List.mem_of_getElem? (i := 1829) (by decide +kernel), List.mem_of_getElem? (i := 1830) (by decide +kernel)⟩
theorem lw_p111 : lw_okq (⟨"LeapArchesModel", "laysSet", "(I)V"⟩, 39) := ⟨⟨by decide +kernel, by decide +kernel⟩, List.mem_of_getElem? (i := 1275) (by decide +kernel), List.mem_of_getElem? (i := 1833) (by decide +kernel), List.mem_of_getElem? (i := 1834) (by decide +kernel)⟩
def lw_privs_7 : List (MethodName × Nat) := [(⟨"LeapArchesModel", "mayFall", "(I)V"⟩, 39), (⟨"LeapArchesModel", "canRope", "(II)Z"⟩, 39), (⟨"LeapArchesModel", "jumps", "(I)Z"⟩, 39), (⟨"LeapArchesModel", "homes", "(I)Z"⟩, 39), (⟨"LeapArchesModel", "daysGo", "(I)V"⟩, 39), (⟨"LeapArchesModel", "dayGoes", "()V"⟩, 39), (⟨"LeapArchesModel", "isIn", "(II)Z"⟩, 39), (⟨"LeapArchesModel", "reachOf", "(II)I"⟩, 39), (⟨"LeapArchesModel", "keeps", "(I)V"⟩, 39), (⟨"LeapArchesModel", "restores", "(I)V"⟩, 39), (⟨"LeapArchesModel", "stopOf", "(III)I"⟩, 39), (⟨"LeapArchesModel", "orNone", "(I)I"⟩, 39), (⟨"LeapArchesModel", "spanOf", "(I)I"⟩, 39), (⟨"LeapArchesModel", "laysGroups", "()V"⟩, 39), (⟨"LeapArchesModel", "everybody", "()I"⟩, 39), (⟨"LeapArchesModel", "laysSet", "(I)V"⟩, 39)]
theorem lw_r7 : ∀ q ∈ lw_privs_7, lw_okq q := List.forall_mem_cons.mpr ⟨lw_p96, List.forall_mem_cons.mpr ⟨lw_p97, List.forall_mem_cons.mpr ⟨lw_p98, List.forall_mem_cons.mpr ⟨lw_p99, List.forall_mem_cons.mpr ⟨lw_p100, List.forall_mem_cons.mpr ⟨lw_p101, List.forall_mem_cons.mpr ⟨lw_p102, List.forall_mem_cons.mpr ⟨lw_p103, List.forall_mem_cons.mpr ⟨lw_p104, List.forall_mem_cons.mpr ⟨lw_p105, List.forall_mem_cons.mpr ⟨lw_p106, List.forall_mem_cons.mpr ⟨lw_p107, List.forall_mem_cons.mpr ⟨lw_p108, List.forall_mem_cons.mpr ⟨lw_p109, List.forall_mem_cons.mpr ⟨lw_p110, List.forall_mem_cons.mpr ⟨lw_p111, fun _ h => absurd h List.not_mem_nil⟩⟩⟩⟩⟩⟩⟩⟩⟩⟩⟩⟩⟩⟩⟩⟩
theorem lw_p112 : lw_okq (⟨"LeapArchesModel", "isWell", "(II)Z"⟩, 39) := ⟨⟨by decide +kernel, by decide +kernel⟩, List.mem_of_getElem? (i := 1275) (by decide +kernel), List.mem_of_getElem? (i := 1841) (by decide +kernel), List.mem_of_getElem? (i := 1842) (by decide +kernel)⟩
theorem lw_p113 : lw_okq (⟨"LeapArchesModel", "arePeople", "(J)Z"⟩, 39) := ⟨⟨by decide +kernel, by decide +kernel⟩, List.mem_of_getElem? (i := 1275) (by decide +kernel), List.mem_of_getElem? (i := 1849) (by decide +kernel), List.mem_of_getElem? (i := 1850) (by decide +kernel)⟩
theorem lw_p114 : lw_okq (⟨"LeapArchesModel", "allTolls", "()I"⟩, 39) := ⟨⟨by decide +kernel, by decide +kernel⟩, List.mem_of_getElem? (i := 1275) (by decide +kernel), List.mem_of_getElem? (i := 1853) (by decide +kernel), List.mem_of_getElem? (i := 1854) (by decide +kernel)⟩
theorem lw_p115 : lw_okq (⟨"LeapArchesModel", "mateOf", "(I)I"⟩, 39) := ⟨⟨by decide +kernel, by decide +kernel⟩, List.mem_of_getElem? (i := 1275) (by decide +kernel), List.mem_of_getElem? (i := 1861) (by decide +kernel), List.mem_of_getElem? (i := 1862) (by decide +kernel)⟩
theorem lw_p116 : lw_okq (⟨"LeapArchesModel", "allJumps", "(I)I"⟩, 39) := ⟨⟨by decide +kernel, by decide +kernel⟩, List.mem_of_getElem? (i := 1275) (by decide +kernel), List.mem_of_getElem? (i := 1869) (by decide +kernel), List.mem_of_getElem? (i := 1870) (by decide +kernel)⟩
theorem lw_p117 : lw_okq (⟨"LeapArchesModel", "jumpsFor", "(II)I"⟩, 39) := ⟨⟨by decide +kernel, by decide +kernel⟩, List.mem_of_getElem? (i := 1275) (by decide +kernel), List.mem_of_getElem? (i := 1873) (by decide +kernel), List.mem_of_getElem? (i := 1874) (by decide +kernel)⟩
theorem lw_p118 : lw_okq (⟨"LeapArchesModel", "wrongSeen", "(III)I"⟩, 39) := ⟨⟨by decide +kernel, by decide +kernel⟩, List.mem_of_getElem? (i := 1275) (by decide +kernel), List.mem_of_getElem? (i := 1885) (by decide +kernel), List.mem_of_getElem? (i := 1886) (by decide +kernel)⟩
theorem lw_p119 : lw_okq (⟨"LeapArchesModel", "laysFits", "(III)I"⟩, 39) := ⟨⟨by decide +kernel, by decide +kernel⟩, List.mem_of_getElem? (i := 1275) (by decide +kernel), List.mem_of_getElem? (i := 1890) (by decide +kernel), List.mem_of_getElem? (i := 1891) (by decide +kernel)⟩
theorem lw_p120 : lw_okq (⟨"LeapArchesModel", "mostAlike", "(I)I"⟩, 39) := ⟨⟨by decide +kernel, by decide +kernel⟩, List.mem_of_getElem? (i := 1275) (by decide +kernel), List.mem_of_getElem? (i := 1902) (by decide +kernel), List.mem_of_getElem? (i := 1903) (by decide +kernel)⟩
theorem lw_p121 : lw_okq (⟨"LeapArchesModel", "areTwo", "(II)Z"⟩, 39) := ⟨⟨by decide +kernel, by decide +kernel⟩, List.mem_of_getElem? (i := 1275) (by decide +kernel), List.mem_of_getElem? (i := 1910) (by decide +kernel), List.mem_of_getElem? (i := 1911) (by decide +kernel)⟩
theorem lw_p122 : lw_okq (⟨"LeapArchesModel", "playing", "(III)I"⟩, 39) := ⟨⟨by decide +kernel, by decide +kernel⟩, List.mem_of_getElem? (i := 1275) (by decide +kernel), List.mem_of_getElem? (i := 1915) (by decide +kernel), List.mem_of_getElem? (i := 1916) (by decide +kernel)⟩
theorem lw_p123 : lw_okq (⟨"LeapArchesModel", "standing", "(II)I"⟩, 39) := ⟨⟨by decide +kernel, by decide +kernel⟩, List.mem_of_getElem? (i := 1275) (by decide +kernel), List.mem_of_getElem? (i := 1919) (by decide +kernel), List.mem_of_getElem? (i := 1920) (by decide +kernel)⟩
theorem lw_p124 : lw_okq (⟨"LeapArchesModel", "settles", "(II)V"⟩, 39) := ⟨⟨by decide +kernel, by decide +kernel⟩, List.mem_of_getElem? (i := 1275) (by decide +kernel), List.mem_of_getElem? (i := 1926) (by decide +kernel), List.mem_of_getElem? (i := 1927) (by decide +kernel)⟩
theorem lw_p125 : lw_okq (⟨"LeapArchesModel", "doesDeed", "(II)Z"⟩, 39) := ⟨⟨by decide +kernel, by decide +kernel⟩, List.mem_of_getElem? (i := 1275) (by decide +kernel), List.mem_of_getElem? (i := 1930) (by decide +kernel), List.mem_of_getElem? (i := 1931) (by decide +kernel)⟩
theorem lw_p126 : lw_okq (⟨"LeapArchesModel", "gardenOf", "(I)I"⟩, 39) := ⟨⟨by decide +kernel, by decide +kernel⟩, List.mem_of_getElem? (i := 1275) (by decide +kernel), List.mem_of_getElem? (i := 1942) (by decide +kernel), List.mem_of_getElem? (i := 1943) (by decide +kernel)⟩
theorem lw_p127 : lw_okq (⟨"LeapArchesModel", "plantsOf", "(II)I"⟩, 39) := ⟨⟨by decide +kernel, by decide +kernel⟩, List.mem_of_getElem? (i := 1275) (by decide +kernel), List.mem_of_getElem? (i := 1946) (by decide +kernel), List.mem_of_getElem? (i := 1947) (by decide +kernel)⟩
def lw_privs_8 : List (MethodName × Nat) := [(⟨"LeapArchesModel", "isWell", "(II)Z"⟩, 39), (⟨"LeapArchesModel", "arePeople", "(J)Z"⟩, 39), (⟨"LeapArchesModel", "allTolls", "()I"⟩, 39), (⟨"LeapArchesModel", "mateOf", "(I)I"⟩, 39), (⟨"LeapArchesModel", "allJumps", "(I)I"⟩, 39), (⟨"LeapArchesModel", "jumpsFor", "(II)I"⟩, 39), (⟨"LeapArchesModel", "wrongSeen", "(III)I"⟩, 39), (⟨"LeapArchesModel", "laysFits", "(III)I"⟩, 39), (⟨"LeapArchesModel", "mostAlike", "(I)I"⟩, 39), (⟨"LeapArchesModel", "areTwo", "(II)Z"⟩, 39), (⟨"LeapArchesModel", "playing", "(III)I"⟩, 39), (⟨"LeapArchesModel", "standing", "(II)I"⟩, 39), (⟨"LeapArchesModel", "settles", "(II)V"⟩, 39), (⟨"LeapArchesModel", "doesDeed", "(II)Z"⟩, 39), (⟨"LeapArchesModel", "gardenOf", "(I)I"⟩, 39), (⟨"LeapArchesModel", "plantsOf", "(II)I"⟩, 39)]
theorem lw_r8 : ∀ q ∈ lw_privs_8, lw_okq q := List.forall_mem_cons.mpr ⟨lw_p112, List.forall_mem_cons.mpr ⟨lw_p113, List.forall_mem_cons.mpr ⟨lw_p114, List.forall_mem_cons.mpr ⟨lw_p115, List.forall_mem_cons.mpr ⟨lw_p116, List.forall_mem_cons.mpr ⟨lw_p117, List.forall_mem_cons.mpr ⟨lw_p118, List.forall_mem_cons.mpr ⟨lw_p119, List.forall_mem_cons.mpr ⟨lw_p120, List.forall_mem_cons.mpr ⟨lw_p121, List.forall_mem_cons.mpr ⟨lw_p122, List.forall_mem_cons.mpr ⟨lw_p123, List.forall_mem_cons.mpr ⟨lw_p124, List.forall_mem_cons.mpr ⟨lw_p125, List.forall_mem_cons.mpr ⟨lw_p126, List.forall_mem_cons.mpr ⟨lw_p127, fun _ h => absurd h List.not_mem_nil⟩⟩⟩⟩⟩⟩⟩⟩⟩⟩⟩⟩⟩⟩⟩⟩
theorem lw_p128 : lw_okq (⟨"LeapArchesModel", "ahead0", "(I)I"⟩, 39) := ⟨⟨by decide +kernel, by decide +kernel⟩, List.mem_of_getElem? (i := 1275) (by decide +kernel), List.mem_of_getElem? (i := 1958) (by decide +kernel), List.mem_of_getElem? (i := 1959) (by decide +kernel)⟩
theorem lw_p129 : lw_okq (⟨"LeapArchesModel", "tellsBy", "(JJ)Z"⟩, 39) := ⟨⟨by decide +kernel, by decide +kernel⟩, List.mem_of_getElem? (i := 1275) (by decide +kernel), List.mem_of_getElem? (i := 1962) (by decide +kernel), List.mem_of_getElem? (i := 1963) (by decide +kernel)⟩
theorem lw_p130 : lw_okq (⟨"LeapArchesModel", "tellsDry", "(I)Z"⟩, 39) := ⟨⟨by decide +kernel, by decide +kernel⟩, List.mem_of_getElem? (i := 1275) (by decide +kernel), List.mem_of_getElem? (i := 1966) (by decide +kernel), List.mem_of_getElem? (i := 1967) (by decide +kernel)⟩
theorem lw_p131 : lw_okq (⟨"LeapArchesModel", "lives", "(I)V"⟩, 39) := ⟨⟨by decide +kernel, by decide +kernel⟩, List.mem_of_getElem? (i := 1275) (by decide +kernel), List.mem_of_getElem? (i := 1983) (by decide +kernel), List.mem_of_getElem? (i := 1984) (by decide +kernel)⟩
theorem lw_p132 : lw_okq (⟨"LeapArchesModel", "does", "(I)Z"⟩, 39) := ⟨⟨by decide +kernel, by decide +kernel⟩, List.mem_of_getElem? (i := 1275) (by decide +kernel), List.mem_of_getElem? (i := 1987) (by decide +kernel), List.mem_of_getElem? (i := 1988) (by decide +kernel)⟩
theorem lw_p133 : lw_okq (⟨"LeapArchesModel", "runsBy", "(I)Z"⟩, 39) := ⟨⟨by decide +kernel, by decide +kernel⟩, List.mem_of_getElem? (i := 1275) (by decide +kernel), List.mem_of_getElem? (i := 1991) (by decide +kernel), List.mem_of_getElem? (i := 1992) (by decide +kernel)⟩
theorem lw_p134 : lw_okq (⟨"LeapArchesModel", "ropesBy", "(II)Z"⟩, 39) := ⟨⟨by decide +kernel, by decide +kernel⟩, List.mem_of_getElem? (i := 1275) (by decide +kernel), List.mem_of_getElem? (i := 1995) (by decide +kernel), List.mem_of_getElem? (i := 1996) (by decide +kernel)⟩
theorem lw_p135 : lw_okq (⟨"LeapArchesModel", "daysBy", "(I)Z"⟩, 39) := ⟨⟨by decide +kernel, by decide +kernel⟩, List.mem_of_getElem? (i := 1275) (by decide +kernel), List.mem_of_getElem? (i := 1999) (by decide +kernel), List.mem_of_getElem? (i := 2000) (by decide +kernel)⟩
theorem lw_p136 : lw_okq (⟨"LeapArchesModel", "fogsTo", "(I)Z"⟩, 39) := ⟨⟨by decide +kernel, by decide +kernel⟩, List.mem_of_getElem? (i := 1275) (by decide +kernel), List.mem_of_getElem? (i := 2003) (by decide +kernel), List.mem_of_getElem? (i := 2004) (by decide +kernel)⟩
theorem lw_p137 : lw_okq (⟨"LeapArchesModel", "doesAny", "()Z"⟩, 39) := ⟨⟨by decide +kernel, by decide +kernel⟩, List.mem_of_getElem? (i := 1275) (by decide +kernel), List.mem_of_getElem? (i := 2007) (by decide +kernel), List.mem_of_getElem? (i := 2008) (by decide +kernel)⟩
theorem lw_p138 : lw_okq (⟨"LeapArchesModel", "draw", "(I)I"⟩, 39) := ⟨⟨by decide +kernel, by decide +kernel⟩, List.mem_of_getElem? (i := 1275) (by decide +kernel), List.mem_of_getElem? (i := 2011) (by decide +kernel), List.mem_of_getElem? (i := 2012) (by decide +kernel)⟩
theorem lw_p139 : lw_okq (⟨"LeapArchesModel", "holds", "(I)Z"⟩, 39) := ⟨⟨by decide +kernel, by decide +kernel⟩, List.mem_of_getElem? (i := 1275) (by decide +kernel), List.mem_of_getElem? (i := 2016) (by decide +kernel), List.mem_of_getElem? (i := 2017) (by decide +kernel)⟩
theorem lw_p140 : lw_okq (⟨"LeapArchesModel", "behindEnds", "(I)I"⟩, 39) := ⟨⟨by decide +kernel, by decide +kernel⟩, List.mem_of_getElem? (i := 1275) (by decide +kernel), List.mem_of_getElem? (i := 2020) (by decide +kernel), List.mem_of_getElem? (i := 2021) (by decide +kernel)⟩
theorem lw_p141 : lw_okq (⟨"LeapArchesModel", "copies", "(II)V"⟩, 39) := ⟨⟨by decide +kernel, by decide +kernel⟩, List.mem_of_getElem? (i := 1275) (by decide +kernel), List.mem_of_getElem? (i := 2036) (by decide +kernel), List.mem_of_getElem? (i := 2037) (by decide +kernel)⟩
def lw_privs_9 : List (MethodName × Nat) := [(⟨"LeapArchesModel", "ahead0", "(I)I"⟩, 39), (⟨"LeapArchesModel", "tellsBy", "(JJ)Z"⟩, 39), (⟨"LeapArchesModel", "tellsDry", "(I)Z"⟩, 39), (⟨"LeapArchesModel", "lives", "(I)V"⟩, 39), (⟨"LeapArchesModel", "does", "(I)Z"⟩, 39), (⟨"LeapArchesModel", "runsBy", "(I)Z"⟩, 39), (⟨"LeapArchesModel", "ropesBy", "(II)Z"⟩, 39), (⟨"LeapArchesModel", "daysBy", "(I)Z"⟩, 39), (⟨"LeapArchesModel", "fogsTo", "(I)Z"⟩, 39), (⟨"LeapArchesModel", "doesAny", "()Z"⟩, 39), (⟨"LeapArchesModel", "draw", "(I)I"⟩, 39), (⟨"LeapArchesModel", "holds", "(I)Z"⟩, 39), (⟨"LeapArchesModel", "behindEnds", "(I)I"⟩, 39), (⟨"LeapArchesModel", "copies", "(II)V"⟩, 39)]
theorem lw_r9 : ∀ q ∈ lw_privs_9, lw_okq q := List.forall_mem_cons.mpr ⟨lw_p128, List.forall_mem_cons.mpr ⟨lw_p129, List.forall_mem_cons.mpr ⟨lw_p130, List.forall_mem_cons.mpr ⟨lw_p131, List.forall_mem_cons.mpr ⟨lw_p132, List.forall_mem_cons.mpr ⟨lw_p133, List.forall_mem_cons.mpr ⟨lw_p134, List.forall_mem_cons.mpr ⟨lw_p135, List.forall_mem_cons.mpr ⟨lw_p136, List.forall_mem_cons.mpr ⟨lw_p137, List.forall_mem_cons.mpr ⟨lw_p138, List.forall_mem_cons.mpr ⟨lw_p139, List.forall_mem_cons.mpr ⟨lw_p140, List.forall_mem_cons.mpr ⟨lw_p141, fun _ h => absurd h List.not_mem_nil⟩⟩⟩⟩⟩⟩⟩⟩⟩⟩⟩⟩⟩⟩
def lw_privs : List (MethodName × Nat) := lw_privs_1 ++ (lw_privs_2 ++ (lw_privs_3 ++ (lw_privs_4 ++ (lw_privs_5 ++ (lw_privs_6 ++ (lw_privs_7 ++ (lw_privs_8 ++ (lw_privs_9))))))))
def lw_tbl : List Cond := k2_sels lw_privs ++ tables_1
theorem lw_privs_ok : ∀ q ∈ lw_privs, lw_okq q := by
  show ∀ q ∈ lw_privs_1 ++ (lw_privs_2 ++ (lw_privs_3 ++ (lw_privs_4 ++ (lw_privs_5 ++ (lw_privs_6 ++ (lw_privs_7 ++ (lw_privs_8 ++ (lw_privs_9)))))))), lw_okq q
  exact List.forall_mem_append.mpr ⟨lw_r1, List.forall_mem_append.mpr ⟨lw_r2, List.forall_mem_append.mpr ⟨lw_r3, List.forall_mem_append.mpr ⟨lw_r4, List.forall_mem_append.mpr ⟨lw_r5, List.forall_mem_append.mpr ⟨lw_r6, List.forall_mem_append.mpr ⟨lw_r7, List.forall_mem_append.mpr ⟨lw_r8, lw_r9⟩⟩⟩⟩⟩⟩⟩⟩
-- ===== end of PART A; then your names; then what follows =====
/-! ===== BEGIN words of one list among another's, by their places ===== -/
/-! ===== END ===== -/

/-! ===== BEGIN printed: names, fields, word lists, decode rows ===== -/
def RX0 : String := "LeapArches$Contest"
def TX0 : u_T := fun k => match k with
  | 0 => ("LeapArches$Contest", "ground", "LLeapArches$Viaduct;", false)
  | 1 => ("LeapArches$Contest", "first", "I", false)
  | 2 => ("LeapArches$Contest", "second", "I", false)
  | _ => ("LeapArches$Contest", "turns", "I", false)
def tyX0 : Nat → FieldType := fun k => match k with
  | 0 => .object "LeapArches$Viaduct"
  | 1 => .int
  | 2 => .int
  | _ => .int
abbrev wsX00 : List Cond := u_ws RX0 TX0 4
theorem nmX0 : ∀ a, a < 4 → ∀ b, b < 4 → a ≠ b → (TX0 a).2.1 ≠ (TX0 b).2.1 := by decide +kernel
theorem tyX0_ok : ∀ k, k < 4 → parseFieldDescriptor (TX0 k).2.2.1 = some (tyX0 k) := by decide +kernel
abbrev cX0_init : ByteArray := prog_2_method_1_code
def yX0_init : MethodName := ⟨RX0, "<init>", "(LLeapArches$Viaduct;)V"⟩
abbrev cX0_begin : ByteArray := prog_2_method_2_code
def yX0_begin : MethodName := ⟨RX0, "begin", "(LLeapArches$Viaduct;III)V"⟩
abbrev cX0_outcome : ByteArray := prog_2_method_3_code
def yX0_outcome : MethodName := ⟨RX0, "outcome", "()I"⟩
abbrev cX0_firstMove : ByteArray := prog_2_method_4_code
def yX0_firstMove : MethodName := ⟨RX0, "firstMove", "()I"⟩
abbrev cX0_worth : ByteArray := prog_2_method_5_code
def yX0_worth : MethodName := ⟨RX0, "worth", "(I)I"⟩
abbrev cX0_canMove : ByteArray := prog_2_method_6_code
def yX0_canMove : MethodName := ⟨RX0, "canMove", "(II)Z"⟩
abbrev cX0_worthBehind : ByteArray := prog_2_method_7_code
def yX0_worthBehind : MethodName := ⟨RX0, "worthBehind", "(III)I"⟩
def RX1 : String := "LeapArches$Groups"
def TX1 : u_T := fun k => match k with
  | 0 => ("LeapArches$Groups", "well", "[I", true)
  | 1 => ("LeapArches$Groups", "cost", "[I", true)
  | 2 => ("LeapArches$Groups", "people", "I", false)
  | _ => ("LeapArches$Groups", "tolls", "I", false)
def tyX1 : Nat → FieldType := fun k => match k with
  | 0 => .array .int
  | 1 => .array .int
  | 2 => .int
  | _ => .int
abbrev wsX10 : List Cond := u_ws RX1 TX1 4
theorem nmX1 : ∀ a, a < 4 → ∀ b, b < 4 → a ≠ b → (TX1 a).2.1 ≠ (TX1 b).2.1 := by decide +kernel
theorem tyX1_ok : ∀ k, k < 4 → parseFieldDescriptor (TX1 k).2.2.1 = some (tyX1 k) := by decide +kernel
abbrev cX1_init : ByteArray := prog_3_method_1_code
def yX1_init : MethodName := ⟨RX1, "<init>", "()V"⟩
abbrev cX1_weigh : ByteArray := prog_3_method_2_code
def yX1_weigh : MethodName := ⟨RX1, "weigh", "(LLeapArches$Viaduct;)V"⟩
abbrev cX1_wellWith : ByteArray := prog_3_method_3_code
def yX1_wellWith : MethodName := ⟨RX1, "wellWith", "(LLeapArches$Viaduct;I)I"⟩
abbrev cX1_cheapestOf : ByteArray := prog_3_method_4_code
def yX1_cheapestOf : MethodName := ⟨RX1, "cheapestOf", "(I)I"⟩
abbrev cX1_priceOfGroup : ByteArray := prog_3_method_5_code
def yX1_priceOfGroup : MethodName := ⟨RX1, "priceOfGroup", "(III)I"⟩
abbrev cX1_without : ByteArray := prog_3_method_6_code
def yX1_without : MethodName := ⟨RX1, "without", "(III)I"⟩
abbrev cX1_mostOver : ByteArray := prog_3_method_7_code
def yX1_mostOver : MethodName := ⟨RX1, "mostOver", "()I"⟩
abbrev cX1_mateOf : ByteArray := prog_3_method_8_code
def yX1_mateOf : MethodName := ⟨RX1, "mateOf", "(II)I"⟩
abbrev cX1_leastMate : ByteArray := prog_3_method_9_code
def yX1_leastMate : MethodName := ⟨RX1, "leastMate", "(II)I"⟩
def RX2 : String := "LeapArches$Life"
def TX2 : u_T := fun k => match k with
  | 0 => ("LeapArches$Life", "done", "I", false)
  | 1 => ("LeapArches$Life", "missed", "I", false)
  | 2 => ("LeapArches$Life", "left", "Z", false)
  | 3 => ("LeapArches$Life", "roundsLeft", "[I", true)
  | 4 => ("LeapArches$Life", "drawn", "I", false)
  | 5 => ("LeapArches$Life", "viaduct", "LLeapArches$Viaduct;", false)
  | _ => ("LeapArches$Life", "steps", "LLeapArches$Steps;", false)
def tyX2 : Nat → FieldType := fun k => match k with
  | 0 => .int
  | 1 => .int
  | 2 => .boolean
  | 3 => .array .int
  | 4 => .int
  | 5 => .object "LeapArches$Viaduct"
  | _ => .object "LeapArches$Steps"
abbrev wsX20 : List Cond := u_ws RX2 TX2 7
theorem nmX2 : ∀ a, a < 7 → ∀ b, b < 7 → a ≠ b → (TX2 a).2.1 ≠ (TX2 b).2.1 := by decide +kernel
theorem tyX2_ok : ∀ k, k < 7 → parseFieldDescriptor (TX2 k).2.2.1 = some (tyX2 k) := by decide +kernel
abbrev cX2_init : ByteArray := prog_4_method_1_code
def yX2_init : MethodName := ⟨RX2, "<init>", "(LLeapArches$Viaduct;LLeapArches$Steps;)V"⟩
abbrev cX2_goThrough : ByteArray := prog_4_method_2_code
def yX2_goThrough : MethodName := ⟨RX2, "goThrough", "(LLeapArches$Viaduct;LLeapArches$Steps;I)V"⟩
abbrev cX2_rowBehindEnd : ByteArray := prog_4_method_3_code
def yX2_rowBehindEnd : MethodName := ⟨RX2, "rowBehindEnd", "(I)I"⟩
abbrev cX2_rowBehindStep : ByteArray := prog_4_method_4_code
def yX2_rowBehindStep : MethodName := ⟨RX2, "rowBehindStep", "(I)I"⟩
abbrev cX2_holdsTest : ByteArray := prog_4_method_5_code
def yX2_holdsTest : MethodName := ⟨RX2, "holdsTest", "(I)Z"⟩
abbrev cX2_compare : ByteArray := prog_4_method_6_code
def yX2_compare : MethodName := ⟨RX2, "compare", "(II)Z"⟩
abbrev cX2_doStep : ByteArray := prog_4_method_7_code
def yX2_doStep : MethodName := ⟨RX2, "doStep", "(I)I"⟩
abbrev cX2_doAny : ByteArray := prog_4_method_8_code
def yX2_doAny : MethodName := ⟨RX2, "doAny", "()I"⟩
abbrev cX2_draw : ByteArray := prog_4_method_9_code
def yX2_draw : MethodName := ⟨RX2, "draw", "(I)I"⟩
def RX3 : String := "LeapArches$Steps"
def TX3 : u_T := fun k => match k with
  | 0 => ("LeapArches$Steps", "there", "Z", false)
  | 1 => ("LeapArches$Steps", "many", "I", false)
  | 2 => ("LeapArches$Steps", "rows", "I", false)
  | 3 => ("LeapArches$Steps", "word", "[I", true)
  | 4 => ("LeapArches$Steps", "first", "[I", true)
  | 5 => ("LeapArches$Steps", "second", "[I", true)
  | 6 => ("LeapArches$Steps", "test", "[I", true)
  | 7 => ("LeapArches$Steps", "compares", "[I", true)
  | _ => ("LeapArches$Steps", "partner", "[I", true)
def tyX3 : Nat → FieldType := fun k => match k with
  | 0 => .boolean
  | 1 => .int
  | 2 => .int
  | 3 => .array .int
  | 4 => .array .int
  | 5 => .array .int
  | 6 => .array .int
  | 7 => .array .int
  | _ => .array .int
abbrev wsX30 : List Cond := u_ws RX3 TX3 9
theorem nmX3 : ∀ a, a < 9 → ∀ b, b < 9 → a ≠ b → (TX3 a).2.1 ≠ (TX3 b).2.1 := by decide +kernel
theorem tyX3_ok : ∀ k, k < 9 → parseFieldDescriptor (TX3 k).2.2.1 = some (tyX3 k) := by decide +kernel
abbrev cX3_init : ByteArray := prog_5_method_1_code
def yX3_init : MethodName := ⟨RX3, "<init>", "()V"⟩
abbrev cX3_clear : ByteArray := prog_5_method_2_code
def yX3_clear : MethodName := ⟨RX3, "clear", "()V"⟩
abbrev cX3_takeOver : ByteArray := prog_5_method_3_code
def yX3_takeOver : MethodName := ⟨RX3, "takeOver", "(LLeapArches$Steps;)V"⟩
def RX4 : String := "LeapArches$StepsReader"
def TX4 : u_T := fun k => match k with
  | 0 => ("LeapArches$StepsReader", "text", "LLeapArches$Text;", true)
  | 1 => ("LeapArches$StepsReader", "open", "[I", true)
  | 2 => ("LeapArches$StepsReader", "depth", "I", false)
  | 3 => ("LeapArches$StepsReader", "steps", "LLeapArches$Steps;", false)
  | _ => ("LeapArches$StepsReader", "viaduct", "LLeapArches$Viaduct;", false)
def tyX4 : Nat → FieldType := fun k => match k with
  | 0 => .object "LeapArches$Text"
  | 1 => .array .int
  | 2 => .int
  | 3 => .object "LeapArches$Steps"
  | _ => .object "LeapArches$Viaduct"
abbrev wsX40 : List Cond := u_ws RX4 TX4 5
theorem nmX4 : ∀ a, a < 5 → ∀ b, b < 5 → a ≠ b → (TX4 a).2.1 ≠ (TX4 b).2.1 := by decide +kernel
theorem tyX4_ok : ∀ k, k < 5 → parseFieldDescriptor (TX4 k).2.2.1 = some (tyX4 k) := by decide +kernel
abbrev cX4_init : ByteArray := prog_6_method_1_code
def yX4_init : MethodName := ⟨RX4, "<init>", "(LLeapArches$Text;LLeapArches$Steps;LLeapArches$Viaduct;)V"⟩
abbrev cX4_readInto : ByteArray := prog_6_method_2_code
def yX4_readInto : MethodName := ⟨RX4, "readInto", "(LLeapArches$Steps;LLeapArches$Viaduct;)Z"⟩
abbrev cX4_takeRow : ByteArray := prog_6_method_3_code
def yX4_takeRow : MethodName := ⟨RX4, "takeRow", "()Z"⟩
abbrev cX4_beginsStep : ByteArray := prog_6_method_4_code
def yX4_beginsStep : MethodName := ⟨RX4, "beginsStep", "(I)Z"⟩
abbrev cX4_takeEnd : ByteArray := prog_6_method_5_code
def yX4_takeEnd : MethodName := ⟨RX4, "takeEnd", "()Z"⟩
abbrev cX4_takeRest : ByteArray := prog_6_method_6_code
def yX4_takeRest : MethodName := ⟨RX4, "takeRest", "(II)Z"⟩
abbrev cX4_takeTest : ByteArray := prog_6_method_7_code
def yX4_takeTest : MethodName := ⟨RX4, "takeTest", "(I)Z"⟩
abbrev cX4_takeName : ByteArray := prog_6_method_8_code
def yX4_takeName : MethodName := ⟨RX4, "takeName", "()I"⟩
abbrev cX4_keep : ByteArray := prog_6_method_9_code
def yX4_keep : MethodName := ⟨RX4, "keep", "([III)Z"⟩
def RX5 : String := "LeapArches$Text"
def TX5 : u_T := fun k => match k with
  | 0 => ("LeapArches$Text", "filled", "I", false)
  | 1 => ("LeapArches$Text", "code", "I", false)
  | 2 => ("LeapArches$Text", "value", "J", false)
  | 3 => ("LeapArches$Text", "fault", "I", false)
  | 4 => ("LeapArches$Text", "faultPlace", "I", false)
  | 5 => ("LeapArches$Text", "bytes", "[B", true)
  | 6 => ("LeapArches$Text", "length", "I", false)
  | 7 => ("LeapArches$Text", "next", "I", false)
  | 8 => ("LeapArches$Text", "codes", "[I", true)
  | 9 => ("LeapArches$Text", "places", "[I", true)
  | 10 => ("LeapArches$Text", "values", "[J", true)
  | 11 => ("LeapArches$Text", "tokens", "I", false)
  | 12 => ("LeapArches$Text", "cursor", "I", false)
  | _ => ("LeapArches$Text", "place", "I", false)
def tyX5 : Nat → FieldType := fun k => match k with
  | 0 => .int
  | 1 => .int
  | 2 => .long
  | 3 => .int
  | 4 => .int
  | 5 => .array .byte
  | 6 => .int
  | 7 => .int
  | 8 => .array .int
  | 9 => .array .int
  | 10 => .array .long
  | 11 => .int
  | 12 => .int
  | _ => .int
abbrev wsX50 : List Cond := u_ws RX5 TX5 14
theorem nmX5 : ∀ a, a < 14 → ∀ b, b < 14 → a ≠ b → (TX5 a).2.1 ≠ (TX5 b).2.1 := by decide +kernel
theorem tyX5_ok : ∀ k, k < 14 → parseFieldDescriptor (TX5 k).2.2.1 = some (tyX5 k) := by decide +kernel
abbrev cX5_init : ByteArray := prog_7_method_1_code
def yX5_init : MethodName := ⟨RX5, "<init>", "()V"⟩
abbrev cX5_hasRoomForTwenty : ByteArray := prog_7_method_2_code
def yX5_hasRoomForTwenty : MethodName := ⟨RX5, "hasRoomForTwenty", "()Z"⟩
abbrev cX5_addFour : ByteArray := prog_7_method_3_code
def yX5_addFour : MethodName := ⟨RX5, "addFour", "(I)V"⟩
abbrev cX5_open : ByteArray := prog_7_method_4_code
def yX5_open : MethodName := ⟨RX5, "open", "(I)V"⟩
abbrev cX5_gather : ByteArray := prog_7_method_5_code
def yX5_gather : MethodName := ⟨RX5, "gather", "()V"⟩
abbrev cX5_findToken : ByteArray := prog_7_method_6_code
def yX5_findToken : MethodName := ⟨RX5, "findToken", "(I)I"⟩
abbrev cX5_findWord : ByteArray := prog_7_method_7_code
def yX5_findWord : MethodName := ⟨RX5, "findWord", "(I)I"⟩
abbrev cX5_findNumber : ByteArray := prog_7_method_8_code
def yX5_findNumber : MethodName := ⟨RX5, "findNumber", "(I)I"⟩
abbrev cX5_findKeyword : ByteArray := prog_7_method_9_code
def yX5_findKeyword : MethodName := ⟨RX5, "findKeyword", "(II)I"⟩
abbrev cX5_isLetter : ByteArray := prog_7_method_10_code
def yX5_isLetter : MethodName := ⟨RX5, "isLetter", "(I)Z"⟩
abbrev cX5_isDigit : ByteArray := prog_7_method_11_code
def yX5_isDigit : MethodName := ⟨RX5, "isDigit", "(I)Z"⟩
abbrev cX5_signCode : ByteArray := prog_7_method_12_code
def yX5_signCode : MethodName := ⟨RX5, "signCode", "(I)I"⟩
abbrev cX5_advance : ByteArray := prog_7_method_13_code
def yX5_advance : MethodName := ⟨RX5, "advance", "()V"⟩
abbrev cX5_refuse : ByteArray := prog_7_method_14_code
def yX5_refuse : MethodName := ⟨RX5, "refuse", "(I)Z"⟩
abbrev cX5_take : ByteArray := prog_7_method_15_code
def yX5_take : MethodName := ⟨RX5, "take", "(I)Z"⟩
abbrev cX5_takeNumber : ByteArray := prog_7_method_16_code
def yX5_takeNumber : MethodName := ⟨RX5, "takeNumber", "(II)I"⟩
def RX6 : String := "LeapArches$Tray"
def TX6 : u_T := fun k => match k with
  | 0 => ("LeapArches$Tray", "numbers", "[J", true)
  | 1 => ("LeapArches$Tray", "sort", "I", false)
  | _ => ("LeapArches$Tray", "many", "I", false)
def tyX6 : Nat → FieldType := fun k => match k with
  | 0 => .array .long
  | 1 => .int
  | _ => .int
abbrev wsX60 : List Cond := u_ws RX6 TX6 3
theorem nmX6 : ∀ a, a < 3 → ∀ b, b < 3 → a ≠ b → (TX6 a).2.1 ≠ (TX6 b).2.1 := by decide +kernel
theorem tyX6_ok : ∀ k, k < 3 → parseFieldDescriptor (TX6 k).2.2.1 = some (tyX6 k) := by decide +kernel
abbrev cX6_init : ByteArray := prog_8_method_1_code
def yX6_init : MethodName := ⟨RX6, "<init>", "()V"⟩
abbrev cX6_isMissing : ByteArray := prog_8_method_2_code
def yX6_isMissing : MethodName := ⟨RX6, "isMissing", "()Z"⟩
abbrev cX6_hasPlace : ByteArray := prog_8_method_3_code
def yX6_hasPlace : MethodName := ⟨RX6, "hasPlace", "(I)Z"⟩
abbrev cX6_hasRow : ByteArray := prog_8_method_4_code
def yX6_hasRow : MethodName := ⟨RX6, "hasRow", "(II)Z"⟩
abbrev cX6_lay : ByteArray := prog_8_method_5_code
def yX6_lay : MethodName := ⟨RX6, "lay", "(II)V"⟩
abbrev cX6_put : ByteArray := prog_8_method_6_code
def yX6_put : MethodName := ⟨RX6, "put", "(IJ)V"⟩
abbrev cX6_cut : ByteArray := prog_8_method_7_code
def yX6_cut : MethodName := ⟨RX6, "cut", "(J)J"⟩
def RX7 : String := "LeapArches$Viaduct"
def TX7 : u_T := fun k => match k with
  | 0 => ("LeapArches$Viaduct", "arches", "I", false)
  | 1 => ("LeapArches$Viaduct", "holds", "[I", true)
  | 2 => ("LeapArches$Viaduct", "moss", "[I", true)
  | 3 => ("LeapArches$Viaduct", "toll", "[I", true)
  | 4 => ("LeapArches$Viaduct", "trod", "I", false)
  | 5 => ("LeapArches$Viaduct", "people", "I", false)
  | 6 => ("LeapArches$Viaduct", "names", "[J", true)
  | 7 => ("LeapArches$Viaduct", "weight", "[I", true)
  | 8 => ("LeapArches$Viaduct", "doubt", "[I", true)
  | 9 => ("LeapArches$Viaduct", "love", "[I", true)
  | 10 => ("LeapArches$Viaduct", "behind", "[I", true)
  | 11 => ("LeapArches$Viaduct", "paid", "[I", true)
  | 12 => ("LeapArches$Viaduct", "fell", "[I", true)
  | 13 => ("LeapArches$Viaduct", "plants", "I", false)
  | 14 => ("LeapArches$Viaduct", "size", "[I", true)
  | 15 => ("LeapArches$Viaduct", "joy", "[I", true)
  | 16 => ("LeapArches$Viaduct", "net", "I", false)
  | 17 => ("LeapArches$Viaduct", "fog", "I", false)
  | 18 => ("LeapArches$Viaduct", "odds", "I", false)
  | _ => ("LeapArches$Viaduct", "day", "I", false)
def tyX7 : Nat → FieldType := fun k => match k with
  | 0 => .int
  | 1 => .array .int
  | 2 => .array .int
  | 3 => .array .int
  | 4 => .int
  | 5 => .int
  | 6 => .array .long
  | 7 => .array .int
  | 8 => .array .int
  | 9 => .array .int
  | 10 => .array .int
  | 11 => .array .int
  | 12 => .array .int
  | 13 => .int
  | 14 => .array .int
  | 15 => .array .int
  | 16 => .int
  | 17 => .int
  | 18 => .int
  | _ => .int
abbrev wsX70 : List Cond := u_ws RX7 TX7 20
theorem nmX7 : ∀ a, a < 20 → ∀ b, b < 20 → a ≠ b → (TX7 a).2.1 ≠ (TX7 b).2.1 := by decide +kernel
theorem tyX7_ok : ∀ k, k < 20 → parseFieldDescriptor (TX7 k).2.2.1 = some (tyX7 k) := by decide +kernel
abbrev cX7_init : ByteArray := prog_9_method_1_code
def yX7_init : MethodName := ⟨RX7, "<init>", "()V"⟩
abbrev cX7_clear : ByteArray := prog_9_method_2_code
def yX7_clear : MethodName := ⟨RX7, "clear", "()V"⟩
abbrev cX7_takeOver : ByteArray := prog_9_method_3_code
def yX7_takeOver : MethodName := ⟨RX7, "takeOver", "(LLeapArches$Viaduct;)V"⟩
abbrev cX7_addArch : ByteArray := prog_9_method_4_code
def yX7_addArch : MethodName := ⟨RX7, "addArch", "(II)V"⟩
abbrev cX7_addPerson : ByteArray := prog_9_method_5_code
def yX7_addPerson : MethodName := ⟨RX7, "addPerson", "(JI)V"⟩
abbrev cX7_addPlant : ByteArray := prog_9_method_6_code
def yX7_addPlant : MethodName := ⟨RX7, "addPlant", "(II)V"⟩
abbrev cX7_hasArch : ByteArray := prog_9_method_7_code
def yX7_hasArch : MethodName := ⟨RX7, "hasArch", "(I)Z"⟩
abbrev cX7_hasPerson : ByteArray := prog_9_method_8_code
def yX7_hasPerson : MethodName := ⟨RX7, "hasPerson", "(I)Z"⟩
abbrev cX7_hasTwo : ByteArray := prog_9_method_9_code
def yX7_hasTwo : MethodName := ⟨RX7, "hasTwo", "(II)Z"⟩
abbrev cX7_personNamed : ByteArray := prog_9_method_10_code
def yX7_personNamed : MethodName := ⟨RX7, "personNamed", "(J)I"⟩
abbrev cX7_isOver : ByteArray := prog_9_method_11_code
def yX7_isOver : MethodName := ⟨RX7, "isOver", "(I)Z"⟩
abbrev cX7_peopleOver : ByteArray := prog_9_method_12_code
def yX7_peopleOver : MethodName := ⟨RX7, "peopleOver", "()I"⟩
abbrev cX7_paidByAll : ByteArray := prog_9_method_13_code
def yX7_paidByAll : MethodName := ⟨RX7, "paidByAll", "()I"⟩
abbrev cX7_fellByAll : ByteArray := prog_9_method_14_code
def yX7_fellByAll : MethodName := ⟨RX7, "fellByAll", "()I"⟩
abbrev cX7_behindAll : ByteArray := prog_9_method_15_code
def yX7_behindAll : MethodName := ⟨RX7, "behindAll", "()I"⟩
abbrev cX7_sumOfPeople : ByteArray := prog_9_method_16_code
def yX7_sumOfPeople : MethodName := ⟨RX7, "sumOfPeople", "([I)I"⟩
abbrev cX7_strainBy : ByteArray := prog_9_method_17_code
def yX7_strainBy : MethodName := ⟨RX7, "strainBy", "(III)I"⟩
abbrev cX7_strainAlone : ByteArray := prog_9_method_18_code
def yX7_strainAlone : MethodName := ⟨RX7, "strainAlone", "(II)I"⟩
abbrev cX7_strainRoped : ByteArray := prog_9_method_19_code
def yX7_strainRoped : MethodName := ⟨RX7, "strainRoped", "(III)I"⟩
abbrev cX7_bearsAlone : ByteArray := prog_9_method_20_code
def yX7_bearsAlone : MethodName := ⟨RX7, "bearsAlone", "(II)Z"⟩
abbrev cX7_borneBy : ByteArray := prog_9_method_21_code
def yX7_borneBy : MethodName := ⟨RX7, "borneBy", "(I)I"⟩
abbrev cX7_stopAlone : ByteArray := prog_9_method_22_code
def yX7_stopAlone : MethodName := ⟨RX7, "stopAlone", "(I)I"⟩
abbrev cX7_stopBy : ByteArray := prog_9_method_23_code
def yX7_stopBy : MethodName := ⟨RX7, "stopBy", "(IIII)I"⟩
abbrev cX7_stopIn : ByteArray := prog_9_method_24_code
def yX7_stopIn : MethodName := ⟨RX7, "stopIn", "(II)I"⟩
abbrev cX7_stopRoped : ByteArray := prog_9_method_25_code
def yX7_stopRoped : MethodName := ⟨RX7, "stopRoped", "(III)I"⟩
abbrev cX7_reachInFog : ByteArray := prog_9_method_26_code
def yX7_reachInFog : MethodName := ⟨RX7, "reachInFog", "(III)I"⟩
abbrev cX7_afterFall : ByteArray := prog_9_method_27_code
def yX7_afterFall : MethodName := ⟨RX7, "afterFall", "(II)I"⟩
abbrev cX7_tollsBetween : ByteArray := prog_9_method_28_code
def yX7_tollsBetween : MethodName := ⟨RX7, "tollsBetween", "(II)I"⟩
abbrev cX7_spanLength : ByteArray := prog_9_method_29_code
def yX7_spanLength : MethodName := ⟨RX7, "spanLength", "(II)I"⟩
abbrev cX7_spanBegin : ByteArray := prog_9_method_30_code
def yX7_spanBegin : MethodName := ⟨RX7, "spanBegin", "(I)I"⟩
abbrev cX7_weakestArch : ByteArray := prog_9_method_31_code
def yX7_weakestArch : MethodName := ⟨RX7, "weakestArch", "()I"⟩
abbrev cX7_mossAfter : ByteArray := prog_9_method_32_code
def yX7_mossAfter : MethodName := ⟨RX7, "mossAfter", "(II)I"⟩
abbrev cX7_mostAlike : ByteArray := prog_9_method_33_code
def yX7_mostAlike : MethodName := ⟨RX7, "mostAlike", "(III)I"⟩
abbrev cX7_letRun : ByteArray := prog_9_method_34_code
def yX7_letRun : MethodName := ⟨RX7, "letRun", "(I)I"⟩
abbrev cX7_letRope : ByteArray := prog_9_method_35_code
def yX7_letRope : MethodName := ⟨RX7, "letRope", "(II)I"⟩
abbrev cX7_tread : ByteArray := prog_9_method_36_code
def yX7_tread : MethodName := ⟨RX7, "tread", "(II)V"⟩
abbrev cX7_land : ByteArray := prog_9_method_37_code
def yX7_land : MethodName := ⟨RX7, "land", "(II)V"⟩
abbrev cX7_canJumpOn : ByteArray := prog_9_method_38_code
def yX7_canJumpOn : MethodName := ⟨RX7, "canJumpOn", "(I)Z"⟩
abbrev cX7_jumpOn : ByteArray := prog_9_method_39_code
def yX7_jumpOn : MethodName := ⟨RX7, "jumpOn", "(I)I"⟩
abbrev cX7_sendHome : ByteArray := prog_9_method_40_code
def yX7_sendHome : MethodName := ⟨RX7, "sendHome", "(I)I"⟩
abbrev cX7_changeFog : ByteArray := prog_9_method_41_code
def yX7_changeFog : MethodName := ⟨RX7, "changeFog", "(I)I"⟩
abbrev cX7_passDays : ByteArray := prog_9_method_42_code
def yX7_passDays : MethodName := ⟨RX7, "passDays", "(I)I"⟩
abbrev cX7_jumpsFor : ByteArray := prog_9_method_43_code
def yX7_jumpsFor : MethodName := ⟨RX7, "jumpsFor", "(II)I"⟩
abbrev cX7_bearsBehindJumps : ByteArray := prog_9_method_44_code
def yX7_bearsBehindJumps : MethodName := ⟨RX7, "bearsBehindJumps", "(III)Z"⟩
abbrev cX7_jumpsInAll : ByteArray := prog_9_method_45_code
def yX7_jumpsInAll : MethodName := ⟨RX7, "jumpsInAll", "(I)I"⟩
abbrev cX7_bestGarden : ByteArray := prog_9_method_46_code
def yX7_bestGarden : MethodName := ⟨RX7, "bestGarden", "(I)I"⟩
abbrev cX7_joyOf : ByteArray := prog_9_method_47_code
def yX7_joyOf : MethodName := ⟨RX7, "joyOf", "(I)I"⟩
abbrev cX7_sizeOf : ByteArray := prog_9_method_48_code
def yX7_sizeOf : MethodName := ⟨RX7, "sizeOf", "(I)I"⟩
abbrev cX7_sumOfPlants : ByteArray := prog_9_method_49_code
def yX7_sumOfPlants : MethodName := ⟨RX7, "sumOfPlants", "([II)I"⟩
def RX8 : String := "LeapArches$ViaductReader"
def TX8 : u_T := fun k => match k with
  | 0 => ("LeapArches$ViaductReader", "text", "LLeapArches$Text;", true)
  | _ => ("LeapArches$ViaductReader", "told", "I", false)
def tyX8 : Nat → FieldType := fun k => match k with
  | 0 => .object "LeapArches$Text"
  | _ => .int
abbrev wsX80 : List Cond := u_ws RX8 TX8 2
theorem nmX8 : ∀ a, a < 2 → ∀ b, b < 2 → a ≠ b → (TX8 a).2.1 ≠ (TX8 b).2.1 := by decide +kernel
theorem tyX8_ok : ∀ k, k < 2 → parseFieldDescriptor (TX8 k).2.2.1 = some (tyX8 k) := by decide +kernel
abbrev cX8_init : ByteArray := prog_10_method_1_code
def yX8_init : MethodName := ⟨RX8, "<init>", "(LLeapArches$Text;)V"⟩
abbrev cX8_readInto : ByteArray := prog_10_method_2_code
def yX8_readInto : MethodName := ⟨RX8, "readInto", "(LLeapArches$Viaduct;)Z"⟩
abbrev cX8_takePart : ByteArray := prog_10_method_3_code
def yX8_takePart : MethodName := ⟨RX8, "takePart", "(LLeapArches$Viaduct;)Z"⟩
abbrev cX8_takeRule : ByteArray := prog_10_method_4_code
def yX8_takeRule : MethodName := ⟨RX8, "takeRule", "(LLeapArches$Viaduct;I)Z"⟩
abbrev cX8_takeArch : ByteArray := prog_10_method_5_code
def yX8_takeArch : MethodName := ⟨RX8, "takeArch", "(LLeapArches$Viaduct;)Z"⟩
abbrev cX8_takePerson : ByteArray := prog_10_method_6_code
def yX8_takePerson : MethodName := ⟨RX8, "takePerson", "(LLeapArches$Viaduct;)Z"⟩
abbrev cX8_takePlant : ByteArray := prog_10_method_7_code
def yX8_takePlant : MethodName := ⟨RX8, "takePlant", "(LLeapArches$Viaduct;)Z"⟩
abbrev cX8_takeOption : ByteArray := prog_10_method_8_code
def yX8_takeOption : MethodName := ⟨RX8, "takeOption", "(II[II)Z"⟩
def RX9 : String := "LeapArches"
def TX9 : u_T := fun k => match k with
  | 0 => ("LeapArches", "latestStatus", "I", false)
  | 1 => ("LeapArches", "fractionTop", "J", false)
  | 2 => ("LeapArches", "fractionBottom", "J", false)
  | 3 => ("LeapArches", "trays", "[LLeapArches$Tray;", true)
  | 4 => ("LeapArches", "text", "LLeapArches$Text;", true)
  | 5 => ("LeapArches", "viaductReader", "LLeapArches$ViaductReader;", true)
  | 6 => ("LeapArches", "stepsReader", "LLeapArches$StepsReader;", true)
  | 7 => ("LeapArches", "now", "LLeapArches$Viaduct;", false)
  | 8 => ("LeapArches", "spare", "LLeapArches$Viaduct;", false)
  | 9 => ("LeapArches", "steps", "LLeapArches$Steps;", false)
  | 10 => ("LeapArches", "spareSteps", "LLeapArches$Steps;", false)
  | 11 => ("LeapArches", "markedViaducts", "[LLeapArches$Viaduct;", true)
  | 12 => ("LeapArches", "markedSteps", "[LLeapArches$Steps;", true)
  | 13 => ("LeapArches", "marks", "I", false)
  | 14 => ("LeapArches", "groups", "LLeapArches$Groups;", true)
  | 15 => ("LeapArches", "contest", "LLeapArches$Contest;", true)
  | 16 => ("LeapArches", "life", "LLeapArches$Life;", true)
  | 17 => ("LeapArches", "tally", "[I", true)
  | _ => ("LeapArches", "hasLived", "Z", false)
def tyX9 : Nat → FieldType := fun k => match k with
  | 0 => .int
  | 1 => .long
  | 2 => .long
  | 3 => .array (.object "LeapArches$Tray")
  | 4 => .object "LeapArches$Text"
  | 5 => .object "LeapArches$ViaductReader"
  | 6 => .object "LeapArches$StepsReader"
  | 7 => .object "LeapArches$Viaduct"
  | 8 => .object "LeapArches$Viaduct"
  | 9 => .object "LeapArches$Steps"
  | 10 => .object "LeapArches$Steps"
  | 11 => .array (.object "LeapArches$Viaduct")
  | 12 => .array (.object "LeapArches$Steps")
  | 13 => .int
  | 14 => .object "LeapArches$Groups"
  | 15 => .object "LeapArches$Contest"
  | 16 => .object "LeapArches$Life"
  | 17 => .array .int
  | _ => .boolean
abbrev wsX90 : List Cond := u_ws RX9 TX9 19
theorem nmX9 : ∀ a, a < 19 → ∀ b, b < 19 → a ≠ b → (TX9 a).2.1 ≠ (TX9 b).2.1 := by decide +kernel
theorem tyX9_ok : ∀ k, k < 19 → parseFieldDescriptor (TX9 k).2.2.1 = some (tyX9 k) := by decide +kernel
abbrev cX9_init : ByteArray := prog_1_method_1_code
def yX9_init : MethodName := ⟨RX9, "<init>", "()V"⟩
abbrev cX9_status : ByteArray := prog_1_method_2_code
def yX9_status : MethodName := ⟨RX9, "status", "()I"⟩
abbrev cX9_top : ByteArray := prog_1_method_3_code
def yX9_top : MethodName := ⟨RX9, "top", "()J"⟩
abbrev cX9_bottom : ByteArray := prog_1_method_4_code
def yX9_bottom : MethodName := ⟨RX9, "bottom", "()J"⟩
abbrev cX9_tray : ByteArray := prog_1_method_5_code
def yX9_tray : MethodName := ⟨RX9, "tray", "(III)Z"⟩
abbrev cX9_write : ByteArray := prog_1_method_6_code
def yX9_write : MethodName := ⟨RX9, "write", "(IIJ)Z"⟩
abbrev cX9_read : ByteArray := prog_1_method_7_code
def yX9_read : MethodName := ⟨RX9, "read", "(II)J"⟩
abbrev cX9_pour : ByteArray := prog_1_method_8_code
def yX9_pour : MethodName := ⟨RX9, "pour", "(IIIII)Z"⟩
abbrev cX9_feed : ByteArray := prog_1_method_9_code
def yX9_feed : MethodName := ⟨RX9, "feed", "(IIIII)I"⟩
abbrev cX9_viaduct : ByteArray := prog_1_method_10_code
def yX9_viaduct : MethodName := ⟨RX9, "viaduct", "(I)I"⟩
abbrev cX9_decades : ByteArray := prog_1_method_11_code
def yX9_decades : MethodName := ⟨RX9, "decades", "(I)I"⟩
abbrev cX9_fault : ByteArray := prog_1_method_12_code
def yX9_fault : MethodName := ⟨RX9, "fault", "(I)I"⟩
abbrev cX9_told : ByteArray := prog_1_method_13_code
def yX9_told : MethodName := ⟨RX9, "told", "(I)I"⟩
abbrev cX9_arch : ByteArray := prog_1_method_14_code
def yX9_arch : MethodName := ⟨RX9, "arch", "(II)I"⟩
abbrev cX9_person : ByteArray := prog_1_method_15_code
def yX9_person : MethodName := ⟨RX9, "person", "(II)I"⟩
abbrev cX9_plant : ByteArray := prog_1_method_16_code
def yX9_plant : MethodName := ⟨RX9, "plant", "(II)I"⟩
abbrev cX9_run : ByteArray := prog_1_method_17_code
def yX9_run : MethodName := ⟨RX9, "run", "(I)I"⟩
abbrev cX9_rope : ByteArray := prog_1_method_18_code
def yX9_rope : MethodName := ⟨RX9, "rope", "(II)I"⟩
abbrev cX9_jump : ByteArray := prog_1_method_19_code
def yX9_jump : MethodName := ⟨RX9, "jump", "(I)I"⟩
abbrev cX9_home : ByteArray := prog_1_method_20_code
def yX9_home : MethodName := ⟨RX9, "home", "(I)I"⟩
abbrev cX9_day : ByteArray := prog_1_method_21_code
def yX9_day : MethodName := ⟨RX9, "day", "(I)I"⟩
abbrev cX9_teach : ByteArray := prog_1_method_22_code
def yX9_teach : MethodName := ⟨RX9, "teach", "(III)Z"⟩
abbrev cX9_come : ByteArray := prog_1_method_23_code
def yX9_come : MethodName := ⟨RX9, "come", "(I)I"⟩
abbrev cX9_build : ByteArray := prog_1_method_24_code
def yX9_build : MethodName := ⟨RX9, "build", "(II)I"⟩
abbrev cX9_sow : ByteArray := prog_1_method_25_code
def yX9_sow : MethodName := ⟨RX9, "sow", "(II)I"⟩
abbrev cX9_rule : ByteArray := prog_1_method_26_code
def yX9_rule : MethodName := ⟨RX9, "rule", "(II)Z"⟩
abbrev cX9_strain : ByteArray := prog_1_method_27_code
def yX9_strain : MethodName := ⟨RX9, "strain", "(II)I"⟩
abbrev cX9_strainOf : ByteArray := prog_1_method_28_code
def yX9_strainOf : MethodName := ⟨RX9, "strainOf", "(III)I"⟩
abbrev cX9_reach : ByteArray := prog_1_method_29_code
def yX9_reach : MethodName := ⟨RX9, "reach", "(I)I"⟩
abbrev cX9_reachIn : ByteArray := prog_1_method_30_code
def yX9_reachIn : MethodName := ⟨RX9, "reachIn", "(II)I"⟩
abbrev cX9_stops : ByteArray := prog_1_method_31_code
def yX9_stops : MethodName := ⟨RX9, "stops", "(I)I"⟩
abbrev cX9_stopsBoth : ByteArray := prog_1_method_32_code
def yX9_stopsBoth : MethodName := ⟨RX9, "stopsBoth", "(II)I"⟩
abbrev cX9_pays : ByteArray := prog_1_method_33_code
def yX9_pays : MethodName := ⟨RX9, "pays", "(I)I"⟩
abbrev cX9_span : ByteArray := prog_1_method_34_code
def yX9_span : MethodName := ⟨RX9, "span", "(I)I"⟩
abbrev cX9_spanFrom : ByteArray := prog_1_method_35_code
def yX9_spanFrom : MethodName := ⟨RX9, "spanFrom", "(I)I"⟩
abbrev cX9_weakest : ByteArray := prog_1_method_36_code
def yX9_weakest : MethodName := ⟨RX9, "weakest", "()I"⟩
abbrev cX9_mossIn : ByteArray := prog_1_method_37_code
def yX9_mossIn : MethodName := ⟨RX9, "mossIn", "(II)I"⟩
abbrev cX9_most : ByteArray := prog_1_method_38_code
def yX9_most : MethodName := ⟨RX9, "most", "()I"⟩
abbrev cX9_cheapest : ByteArray := prog_1_method_39_code
def yX9_cheapest : MethodName := ⟨RX9, "cheapest", "(I)I"⟩
abbrev cX9_mate : ByteArray := prog_1_method_40_code
def yX9_mate : MethodName := ⟨RX9, "mate", "(II)I"⟩
abbrev cX9_mends : ByteArray := prog_1_method_41_code
def yX9_mends : MethodName := ⟨RX9, "mends", "(I)I"⟩
abbrev cX9_mendsAt : ByteArray := prog_1_method_42_code
def yX9_mendsAt : MethodName := ⟨RX9, "mendsAt", "(II)I"⟩
abbrev cX9_fits : ByteArray := prog_1_method_43_code
def yX9_fits : MethodName := ⟨RX9, "fits", "(III)I"⟩
abbrev cX9_fitsAt : ByteArray := prog_1_method_44_code
def yX9_fitsAt : MethodName := ⟨RX9, "fitsAt", "(IIII)I"⟩
abbrev cX9_ask : ByteArray := prog_1_method_45_code
def yX9_ask : MethodName := ⟨RX9, "ask", "(III)I"⟩
abbrev cX9_game : ByteArray := prog_1_method_46_code
def yX9_game : MethodName := ⟨RX9, "game", "(III)I"⟩
abbrev cX9_moveOf : ByteArray := prog_1_method_47_code
def yX9_moveOf : MethodName := ⟨RX9, "moveOf", "(III)I"⟩
abbrev cX9_garden : ByteArray := prog_1_method_48_code
def yX9_garden : MethodName := ⟨RX9, "garden", "(I)I"⟩
abbrev cX9_gardenSet : ByteArray := prog_1_method_49_code
def yX9_gardenSet : MethodName := ⟨RX9, "gardenSet", "(I)I"⟩
abbrev cX9_chance : ByteArray := prog_1_method_50_code
def yX9_chance : MethodName := ⟨RX9, "chance", "(I)Z"⟩
abbrev cX9_hope : ByteArray := prog_1_method_51_code
def yX9_hope : MethodName := ⟨RX9, "hope", "(II)Z"⟩
abbrev cX9_copyAt : ByteArray := prog_1_method_52_code
def yX9_copyAt : MethodName := ⟨RX9, "copyAt", "(I)I"⟩
abbrev cX9_live : ByteArray := prog_1_method_53_code
def yX9_live : MethodName := ⟨RX9, "live", "(I)I"⟩
abbrev cX9_lived : ByteArray := prog_1_method_54_code
def yX9_lived : MethodName := ⟨RX9, "lived", "(I)I"⟩
abbrev cX9_mean : ByteArray := prog_1_method_55_code
def yX9_mean : MethodName := ⟨RX9, "mean", "(II)Z"⟩
abbrev cX9_mark : ByteArray := prog_1_method_56_code
def yX9_mark : MethodName := ⟨RX9, "mark", "()I"⟩
abbrev cX9_undo : ByteArray := prog_1_method_57_code
def yX9_undo : MethodName := ⟨RX9, "undo", "()I"⟩
abbrev cX9_given : ByteArray := prog_1_method_58_code
def yX9_given : MethodName := ⟨RX9, "given", "(I)I"⟩
abbrev cX9_none : ByteArray := prog_1_method_59_code
def yX9_none : MethodName := ⟨RX9, "none", "(I)I"⟩
abbrev cX9_givenUnless : ByteArray := prog_1_method_60_code
def yX9_givenUnless : MethodName := ⟨RX9, "givenUnless", "(II)I"⟩
abbrev cX9_givenIfArch : ByteArray := prog_1_method_61_code
def yX9_givenIfArch : MethodName := ⟨RX9, "givenIfArch", "(I)I"⟩
abbrev cX9_yes : ByteArray := prog_1_method_62_code
def yX9_yes : MethodName := ⟨RX9, "yes", "()Z"⟩
abbrev cX9_not : ByteArray := prog_1_method_63_code
def yX9_not : MethodName := ⟨RX9, "not", "(I)Z"⟩
abbrev cX9_put : ByteArray := prog_1_method_64_code
def yX9_put : MethodName := ⟨RX9, "put", "([IIIII)Z"⟩
abbrev cX9_within : ByteArray := prog_1_method_65_code
def yX9_within : MethodName := ⟨RX9, "within", "(JJJ)Z"⟩
abbrev cX9_contains : ByteArray := prog_1_method_66_code
def yX9_contains : MethodName := ⟨RX9, "contains", "(II)Z"⟩
abbrev cX9_isTray : ByteArray := prog_1_method_67_code
def yX9_isTray : MethodName := ⟨RX9, "isTray", "(I)Z"⟩
abbrev cX9_isSetOfPeople : ByteArray := prog_1_method_68_code
def yX9_isSetOfPeople : MethodName := ⟨RX9, "isSetOfPeople", "(I)Z"⟩
abbrev cX9_placeStatus : ByteArray := prog_1_method_69_code
def yX9_placeStatus : MethodName := ⟨RX9, "placeStatus", "(II)I"⟩
abbrev cX9_twosStatus : ByteArray := prog_1_method_70_code
def yX9_twosStatus : MethodName := ⟨RX9, "twosStatus", "(III)I"⟩
abbrev cX9_doubtsThatFit : ByteArray := prog_1_method_71_code
def yX9_doubtsThatFit : MethodName := ⟨RX9, "doubtsThatFit", "(III)I"⟩
abbrev cX9_tellOdds : ByteArray := prog_1_method_72_code
def yX9_tellOdds : MethodName := ⟨RX9, "tellOdds", "(II)V"⟩
abbrev cX9_tell : ByteArray := prog_1_method_73_code
def yX9_tell : MethodName := ⟨RX9, "tell", "(JJ)V"⟩
abbrev cX9_commonDivisor : ByteArray := prog_1_method_74_code
def yX9_commonDivisor : MethodName := ⟨RX9, "commonDivisor", "(JJ)J"⟩
def RX10 : String := "LeapArchesModel"
def TX10 : u_T := fun k => match k with
  | 0 => ("LeapArchesModel", "at", "[I", true)
  | 1 => ("LeapArchesModel", "names", "[J", true)
  | 2 => ("LeapArchesModel", "status", "I", false)
  | 3 => ("LeapArchesModel", "top", "J", false)
  | 4 => ("LeapArchesModel", "bottom", "J", false)
  | 5 => ("LeapArchesModel", "sort", "[I", true)
  | 6 => ("LeapArchesModel", "trayMany", "[I", true)
  | 7 => ("LeapArchesModel", "trays", "[J", true)
  | 8 => ("LeapArchesModel", "tape", "[B", true)
  | 9 => ("LeapArchesModel", "text", "[B", true)
  | 10 => ("LeapArchesModel", "taped", "I", false)
  | 11 => ("LeapArchesModel", "size", "I", false)
  | 12 => ("LeapArchesModel", "token", "I", false)
  | 13 => ("LeapArchesModel", "from", "I", false)
  | 14 => ("LeapArchesModel", "end", "I", false)
  | 15 => ("LeapArchesModel", "value", "I", false)
  | 16 => ("LeapArchesModel", "faultKind", "I", false)
  | 17 => ("LeapArchesModel", "faultPlace", "I", false)
  | 18 => ("LeapArchesModel", "faults", "I", false)
  | 19 => ("LeapArchesModel", "seen", "I", false)
  | 20 => ("LeapArchesModel", "toldParts", "I", false)
  | 21 => ("LeapArchesModel", "opened", "[I", true)
  | 22 => ("LeapArchesModel", "depth", "I", false)
  | 23 => ("LeapArchesModel", "counted", "I", false)
  | 24 => ("LeapArchesModel", "spanMany", "I", false)
  | 25 => ("LeapArchesModel", "mostBy", "[I", true)
  | 26 => ("LeapArchesModel", "fewBy", "[I", true)
  | 27 => ("LeapArchesModel", "farBy", "[I", true)
  | 28 => ("LeapArchesModel", "fitsBy", "[Z", true)
  | 29 => ("LeapArchesModel", "doneAt", "[I", true)
  | 30 => ("LeapArchesModel", "gotAt", "[I", true)
  | 31 => ("LeapArchesModel", "bestDeed", "[I", true)
  | 32 => ("LeapArchesModel", "drawn", "I", false)
  | 33 => ("LeapArchesModel", "ranSteps", "I", false)
  | 34 => ("LeapArchesModel", "loops", "[I", true)
  | 35 => ("LeapArchesModel", "ran", "[I", true)
  | 36 => ("LeapArchesModel", "told1", "[I", true)
  | 37 => ("LeapArchesModel", "isTold", "Z", false)
  | _ => ("LeapArchesModel", "marks", "I", false)
def tyX10 : Nat → FieldType := fun k => match k with
  | 0 => .array .int
  | 1 => .array .long
  | 2 => .int
  | 3 => .long
  | 4 => .long
  | 5 => .array .int
  | 6 => .array .int
  | 7 => .array .long
  | 8 => .array .byte
  | 9 => .array .byte
  | 10 => .int
  | 11 => .int
  | 12 => .int
  | 13 => .int
  | 14 => .int
  | 15 => .int
  | 16 => .int
  | 17 => .int
  | 18 => .int
  | 19 => .int
  | 20 => .int
  | 21 => .array .int
  | 22 => .int
  | 23 => .int
  | 24 => .int
  | 25 => .array .int
  | 26 => .array .int
  | 27 => .array .int
  | 28 => .array .boolean
  | 29 => .array .int
  | 30 => .array .int
  | 31 => .array .int
  | 32 => .int
  | 33 => .int
  | 34 => .array .int
  | 35 => .array .int
  | 36 => .array .int
  | 37 => .boolean
  | _ => .int
abbrev wsX100 : List Cond := u_ws RX10 TX10 39
theorem nmX10 : ∀ a, a < 39 → ∀ b, b < 39 → a ≠ b → (TX10 a).2.1 ≠ (TX10 b).2.1 := by decide +kernel
theorem tyX10_ok : ∀ k, k < 39 → parseFieldDescriptor (TX10 k).2.2.1 = some (tyX10 k) := by decide +kernel
abbrev cX10_init : ByteArray := prog_12_method_1_code
def yX10_init : MethodName := ⟨RX10, "<init>", "()V"⟩
abbrev cX10_plain : ByteArray := prog_12_method_2_code
def yX10_plain : MethodName := ⟨RX10, "plain", "(I)V"⟩
abbrev cX10_status : ByteArray := prog_12_method_3_code
def yX10_status : MethodName := ⟨RX10, "status", "()I"⟩
abbrev cX10_top : ByteArray := prog_12_method_4_code
def yX10_top : MethodName := ⟨RX10, "top", "()J"⟩
abbrev cX10_bottom : ByteArray := prog_12_method_5_code
def yX10_bottom : MethodName := ⟨RX10, "bottom", "()J"⟩
abbrev cX10_is : ByteArray := prog_12_method_6_code
def yX10_is : MethodName := ⟨RX10, "is", "(I)Z"⟩
abbrev cX10_refuse : ByteArray := prog_12_method_7_code
def yX10_refuse : MethodName := ⟨RX10, "refuse", "(I)I"⟩
abbrev cX10_gives : ByteArray := prog_12_method_8_code
def yX10_gives : MethodName := ⟨RX10, "gives", "(I)I"⟩
abbrev cX10_orNone : ByteArray := prog_12_method_9_code
def yX10_orNone : MethodName := ⟨RX10, "orNone", "(I)I"⟩
abbrev cX10_tellsBy : ByteArray := prog_12_method_10_code
def yX10_tellsBy : MethodName := ⟨RX10, "tellsBy", "(JJ)Z"⟩
abbrev cX10_isTray : ByteArray := prog_12_method_11_code
def yX10_isTray : MethodName := ⟨RX10, "isTray", "(I)Z"⟩
abbrev cX10_cut : ByteArray := prog_12_method_12_code
def yX10_cut : MethodName := ⟨RX10, "cut", "(JI)J"⟩
abbrev cX10_tray : ByteArray := prog_12_method_13_code
def yX10_tray : MethodName := ⟨RX10, "tray", "(III)Z"⟩
abbrev cX10_wrongPlace : ByteArray := prog_12_method_14_code
def yX10_wrongPlace : MethodName := ⟨RX10, "wrongPlace", "(II)I"⟩
abbrev cX10_write : ByteArray := prog_12_method_15_code
def yX10_write : MethodName := ⟨RX10, "write", "(IIJ)Z"⟩
abbrev cX10_read : ByteArray := prog_12_method_16_code
def yX10_read : MethodName := ⟨RX10, "read", "(II)J"⟩
abbrev cX10_pour : ByteArray := prog_12_method_17_code
def yX10_pour : MethodName := ⟨RX10, "pour", "(IIIII)Z"⟩
abbrev cX10_isFrom : ByteArray := prog_12_method_18_code
def yX10_isFrom : MethodName := ⟨RX10, "isFrom", "(JJJ)Z"⟩
abbrev cX10_feed : ByteArray := prog_12_method_19_code
def yX10_feed : MethodName := ⟨RX10, "feed", "(IIIII)I"⟩
abbrev cX10_four : ByteArray := prog_12_method_20_code
def yX10_four : MethodName := ⟨RX10, "four", "(I)V"⟩
abbrev cX10_byteAt : ByteArray := prog_12_method_21_code
def yX10_byteAt : MethodName := ⟨RX10, "byteAt", "(I)I"⟩
abbrev cX10_isSmall : ByteArray := prog_12_method_22_code
def yX10_isSmall : MethodName := ⟨RX10, "isSmall", "(I)Z"⟩
abbrev cX10_isDigit : ByteArray := prog_12_method_23_code
def yX10_isDigit : MethodName := ⟨RX10, "isDigit", "(I)Z"⟩
abbrev cX10_ahead : ByteArray := prog_12_method_24_code
def yX10_ahead : MethodName := ⟨RX10, "ahead", "()V"⟩
abbrev cX10_isSign : ByteArray := prog_12_method_25_code
def yX10_isSign : MethodName := ⟨RX10, "isSign", "(I)Z"⟩
abbrev cX10_inWords : ByteArray := prog_12_method_26_code
def yX10_inWords : MethodName := ⟨RX10, "inWords", "(Ljava/lang/String;)I"⟩
abbrev cX10_fails : ByteArray := prog_12_method_27_code
def yX10_fails : MethodName := ⟨RX10, "fails", "(I)Z"⟩
abbrev cX10_begins : ByteArray := prog_12_method_28_code
def yX10_begins : MethodName := ⟨RX10, "begins", "(II)Z"⟩
abbrev cX10_wantSign : ByteArray := prog_12_method_29_code
def yX10_wantSign : MethodName := ⟨RX10, "wantSign", "(I)Z"⟩
abbrev cX10_wantWord : ByteArray := prog_12_method_30_code
def yX10_wantWord : MethodName := ⟨RX10, "wantWord", "(Ljava/lang/String;I)Z"⟩
abbrev cX10_number : ByteArray := prog_12_method_31_code
def yX10_number : MethodName := ⟨RX10, "number", "(III)Z"⟩
abbrev cX10_isName : ByteArray := prog_12_method_32_code
def yX10_isName : MethodName := ⟨RX10, "isName", "(Ljava/lang/String;)Z"⟩
abbrev cX10_nameHere : ByteArray := prog_12_method_33_code
def yX10_nameHere : MethodName := ⟨RX10, "nameHere", "()J"⟩
abbrev cX10_findHere : ByteArray := prog_12_method_34_code
def yX10_findHere : MethodName := ⟨RX10, "findHere", "(II)I"⟩
abbrev cX10_fault : ByteArray := prog_12_method_35_code
def yX10_fault : MethodName := ⟨RX10, "fault", "(I)I"⟩
abbrev cX10_taken : ByteArray := prog_12_method_36_code
def yX10_taken : MethodName := ⟨RX10, "taken", "(I)I"⟩
abbrev cX10_archRow : ByteArray := prog_12_method_37_code
def yX10_archRow : MethodName := ⟨RX10, "archRow", "(I)I"⟩
abbrev cX10_personRow : ByteArray := prog_12_method_38_code
def yX10_personRow : MethodName := ⟨RX10, "personRow", "(I)I"⟩
abbrev cX10_plantRow : ByteArray := prog_12_method_39_code
def yX10_plantRow : MethodName := ⟨RX10, "plantRow", "(I)I"⟩
abbrev cX10_isThere : ByteArray := prog_12_method_40_code
def yX10_isThere : MethodName := ⟨RX10, "isThere", "(I)Z"⟩
abbrev cX10_perhaps : ByteArray := prog_12_method_41_code
def yX10_perhaps : MethodName := ⟨RX10, "perhaps", "(IIIII)Z"⟩
abbrev cX10_isFull : ByteArray := prog_12_method_42_code
def yX10_isFull : MethodName := ⟨RX10, "isFull", "(II)Z"⟩
abbrev cX10_anArch : ByteArray := prog_12_method_43_code
def yX10_anArch : MethodName := ⟨RX10, "anArch", "()Z"⟩
abbrev cX10_aPerson : ByteArray := prog_12_method_44_code
def yX10_aPerson : MethodName := ⟨RX10, "aPerson", "()Z"⟩
abbrev cX10_aPlant : ByteArray := prog_12_method_45_code
def yX10_aPlant : MethodName := ⟨RX10, "aPlant", "()Z"⟩
abbrev cX10_viaductPart : ByteArray := prog_12_method_46_code
def yX10_viaductPart : MethodName := ⟨RX10, "viaductPart", "()Z"⟩
abbrev cX10_viaduct : ByteArray := prog_12_method_47_code
def yX10_viaduct : MethodName := ⟨RX10, "viaduct", "(I)I"⟩
abbrev cX10_personTo : ByteArray := prog_12_method_48_code
def yX10_personTo : MethodName := ⟨RX10, "personTo", "(I)Z"⟩
abbrev cX10_archTo : ByteArray := prog_12_method_49_code
def yX10_archTo : MethodName := ⟨RX10, "archTo", "(I)Z"⟩
abbrev cX10_test : ByteArray := prog_12_method_50_code
def yX10_test : MethodName := ⟨RX10, "test", "(I)Z"⟩
abbrev cX10_decadeOrder : ByteArray := prog_12_method_51_code
def yX10_decadeOrder : MethodName := ⟨RX10, "decadeOrder", "(II)Z"⟩
abbrev cX10_decadeStep : ByteArray := prog_12_method_52_code
def yX10_decadeStep : MethodName := ⟨RX10, "decadeStep", "()Z"⟩
abbrev cX10_decades : ByteArray := prog_12_method_53_code
def yX10_decades : MethodName := ⟨RX10, "decades", "(I)I"⟩
abbrev cX10_isArch : ByteArray := prog_12_method_54_code
def yX10_isArch : MethodName := ⟨RX10, "isArch", "(I)Z"⟩
abbrev cX10_isPerson : ByteArray := prog_12_method_55_code
def yX10_isPerson : MethodName := ⟨RX10, "isPerson", "(I)Z"⟩
abbrev cX10_arePeople : ByteArray := prog_12_method_56_code
def yX10_arePeople : MethodName := ⟨RX10, "arePeople", "(J)Z"⟩
abbrev cX10_isIn : ByteArray := prog_12_method_57_code
def yX10_isIn : MethodName := ⟨RX10, "isIn", "(II)Z"⟩
abbrev cX10_bits : ByteArray := prog_12_method_58_code
def yX10_bits : MethodName := ⟨RX10, "bits", "(I)I"⟩
abbrev cX10_firstOf : ByteArray := prog_12_method_59_code
def yX10_firstOf : MethodName := ⟨RX10, "firstOf", "(I)I"⟩
abbrev cX10_archOf : ByteArray := prog_12_method_60_code
def yX10_archOf : MethodName := ⟨RX10, "archOf", "(II)I"⟩
abbrev cX10_personOf : ByteArray := prog_12_method_61_code
def yX10_personOf : MethodName := ⟨RX10, "personOf", "(II)I"⟩
abbrev cX10_dimOf : ByteArray := prog_12_method_62_code
def yX10_dimOf : MethodName := ⟨RX10, "dimOf", "(I)I"⟩
abbrev cX10_strainBy : ByteArray := prog_12_method_63_code
def yX10_strainBy : MethodName := ⟨RX10, "strainBy", "(II)I"⟩
abbrev cX10_strainBoth : ByteArray := prog_12_method_64_code
def yX10_strainBoth : MethodName := ⟨RX10, "strainBoth", "(III)I"⟩
abbrev cX10_bears : ByteArray := prog_12_method_65_code
def yX10_bears : MethodName := ⟨RX10, "bears", "(III)Z"⟩
abbrev cX10_isOver : ByteArray := prog_12_method_66_code
def yX10_isOver : MethodName := ⟨RX10, "isOver", "(I)Z"⟩
abbrev cX10_areOver : ByteArray := prog_12_method_67_code
def yX10_areOver : MethodName := ⟨RX10, "areOver", "()I"⟩
abbrev cX10_borneBy : ByteArray := prog_12_method_68_code
def yX10_borneBy : MethodName := ⟨RX10, "borneBy", "(I)I"⟩
abbrev cX10_together : ByteArray := prog_12_method_69_code
def yX10_together : MethodName := ⟨RX10, "together", "(I)I"⟩
abbrev cX10_told : ByteArray := prog_12_method_70_code
def yX10_told : MethodName := ⟨RX10, "told", "(I)I"⟩
abbrev cX10_arch : ByteArray := prog_12_method_71_code
def yX10_arch : MethodName := ⟨RX10, "arch", "(II)I"⟩
abbrev cX10_person : ByteArray := prog_12_method_72_code
def yX10_person : MethodName := ⟨RX10, "person", "(II)I"⟩
abbrev cX10_plant : ByteArray := prog_12_method_73_code
def yX10_plant : MethodName := ⟨RX10, "plant", "(II)I"⟩
abbrev cX10_goes : ByteArray := prog_12_method_74_code
def yX10_goes : MethodName := ⟨RX10, "goes", "(II)V"⟩
abbrev cX10_paysAt : ByteArray := prog_12_method_75_code
def yX10_paysAt : MethodName := ⟨RX10, "paysAt", "(II)V"⟩
abbrev cX10_mayFall : ByteArray := prog_12_method_76_code
def yX10_mayFall : MethodName := ⟨RX10, "mayFall", "(I)V"⟩
abbrev cX10_runs : ByteArray := prog_12_method_77_code
def yX10_runs : MethodName := ⟨RX10, "runs", "(II)I"⟩
abbrev cX10_run : ByteArray := prog_12_method_78_code
def yX10_run : MethodName := ⟨RX10, "run", "(I)I"⟩
abbrev cX10_canRope : ByteArray := prog_12_method_79_code
def yX10_canRope : MethodName := ⟨RX10, "canRope", "(II)Z"⟩
abbrev cX10_rope : ByteArray := prog_12_method_80_code
def yX10_rope : MethodName := ⟨RX10, "rope", "(II)I"⟩
abbrev cX10_jumps : ByteArray := prog_12_method_81_code
def yX10_jumps : MethodName := ⟨RX10, "jumps", "(I)Z"⟩
abbrev cX10_jump : ByteArray := prog_12_method_82_code
def yX10_jump : MethodName := ⟨RX10, "jump", "(I)I"⟩
abbrev cX10_homes : ByteArray := prog_12_method_83_code
def yX10_homes : MethodName := ⟨RX10, "homes", "(I)Z"⟩
abbrev cX10_home : ByteArray := prog_12_method_84_code
def yX10_home : MethodName := ⟨RX10, "home", "(I)I"⟩
abbrev cX10_dayGoes : ByteArray := prog_12_method_85_code
def yX10_dayGoes : MethodName := ⟨RX10, "dayGoes", "()V"⟩
abbrev cX10_daysGo : ByteArray := prog_12_method_86_code
def yX10_daysGo : MethodName := ⟨RX10, "daysGo", "(I)V"⟩
abbrev cX10_day : ByteArray := prog_12_method_87_code
def yX10_day : MethodName := ⟨RX10, "day", "(I)I"⟩
abbrev cX10_teach : ByteArray := prog_12_method_88_code
def yX10_teach : MethodName := ⟨RX10, "teach", "(III)Z"⟩
abbrev cX10_come : ByteArray := prog_12_method_89_code
def yX10_come : MethodName := ⟨RX10, "come", "(I)I"⟩
abbrev cX10_build : ByteArray := prog_12_method_90_code
def yX10_build : MethodName := ⟨RX10, "build", "(II)I"⟩
abbrev cX10_sow : ByteArray := prog_12_method_91_code
def yX10_sow : MethodName := ⟨RX10, "sow", "(II)I"⟩
abbrev cX10_rule : ByteArray := prog_12_method_92_code
def yX10_rule : MethodName := ⟨RX10, "rule", "(II)Z"⟩
abbrev cX10_levelAt : ByteArray := prog_12_method_93_code
def yX10_levelAt : MethodName := ⟨RX10, "levelAt", "(I)I"⟩
abbrev cX10_keeps : ByteArray := prog_12_method_94_code
def yX10_keeps : MethodName := ⟨RX10, "keeps", "(I)V"⟩
abbrev cX10_restores : ByteArray := prog_12_method_95_code
def yX10_restores : MethodName := ⟨RX10, "restores", "(I)V"⟩
abbrev cX10_strain : ByteArray := prog_12_method_96_code
def yX10_strain : MethodName := ⟨RX10, "strain", "(II)I"⟩
abbrev cX10_strainOf : ByteArray := prog_12_method_97_code
def yX10_strainOf : MethodName := ⟨RX10, "strainOf", "(III)I"⟩
abbrev cX10_reachOf : ByteArray := prog_12_method_98_code
def yX10_reachOf : MethodName := ⟨RX10, "reachOf", "(II)I"⟩
abbrev cX10_reach : ByteArray := prog_12_method_99_code
def yX10_reach : MethodName := ⟨RX10, "reach", "(I)I"⟩
abbrev cX10_reachIn : ByteArray := prog_12_method_100_code
def yX10_reachIn : MethodName := ⟨RX10, "reachIn", "(II)I"⟩
abbrev cX10_stopOf : ByteArray := prog_12_method_101_code
def yX10_stopOf : MethodName := ⟨RX10, "stopOf", "(III)I"⟩
abbrev cX10_stops : ByteArray := prog_12_method_102_code
def yX10_stops : MethodName := ⟨RX10, "stops", "(I)I"⟩
abbrev cX10_stopsBoth : ByteArray := prog_12_method_103_code
def yX10_stopsBoth : MethodName := ⟨RX10, "stopsBoth", "(II)I"⟩
abbrev cX10_pays : ByteArray := prog_12_method_104_code
def yX10_pays : MethodName := ⟨RX10, "pays", "(I)I"⟩
abbrev cX10_spanOf : ByteArray := prog_12_method_105_code
def yX10_spanOf : MethodName := ⟨RX10, "spanOf", "(I)I"⟩
abbrev cX10_span : ByteArray := prog_12_method_106_code
def yX10_span : MethodName := ⟨RX10, "span", "(I)I"⟩
abbrev cX10_spanFrom : ByteArray := prog_12_method_107_code
def yX10_spanFrom : MethodName := ⟨RX10, "spanFrom", "(I)I"⟩
abbrev cX10_weakest : ByteArray := prog_12_method_108_code
def yX10_weakest : MethodName := ⟨RX10, "weakest", "()I"⟩
abbrev cX10_mossIn : ByteArray := prog_12_method_109_code
def yX10_mossIn : MethodName := ⟨RX10, "mossIn", "(II)I"⟩
abbrev cX10_isWell : ByteArray := prog_12_method_110_code
def yX10_isWell : MethodName := ⟨RX10, "isWell", "(II)Z"⟩
abbrev cX10_laysSet : ByteArray := prog_12_method_111_code
def yX10_laysSet : MethodName := ⟨RX10, "laysSet", "(I)V"⟩
abbrev cX10_everybody : ByteArray := prog_12_method_112_code
def yX10_everybody : MethodName := ⟨RX10, "everybody", "()I"⟩
abbrev cX10_laysGroups : ByteArray := prog_12_method_113_code
def yX10_laysGroups : MethodName := ⟨RX10, "laysGroups", "()V"⟩
abbrev cX10_most : ByteArray := prog_12_method_114_code
def yX10_most : MethodName := ⟨RX10, "most", "()I"⟩
abbrev cX10_allTolls : ByteArray := prog_12_method_115_code
def yX10_allTolls : MethodName := ⟨RX10, "allTolls", "()I"⟩
abbrev cX10_cheapest : ByteArray := prog_12_method_116_code
def yX10_cheapest : MethodName := ⟨RX10, "cheapest", "(I)I"⟩
abbrev cX10_mateOf : ByteArray := prog_12_method_117_code
def yX10_mateOf : MethodName := ⟨RX10, "mateOf", "(I)I"⟩
abbrev cX10_mate : ByteArray := prog_12_method_118_code
def yX10_mate : MethodName := ⟨RX10, "mate", "(II)I"⟩
abbrev cX10_jumpsFor : ByteArray := prog_12_method_119_code
def yX10_jumpsFor : MethodName := ⟨RX10, "jumpsFor", "(II)I"⟩
abbrev cX10_allJumps : ByteArray := prog_12_method_120_code
def yX10_allJumps : MethodName := ⟨RX10, "allJumps", "(I)I"⟩
abbrev cX10_mends : ByteArray := prog_12_method_121_code
def yX10_mends : MethodName := ⟨RX10, "mends", "(I)I"⟩
abbrev cX10_mendsAt : ByteArray := prog_12_method_122_code
def yX10_mendsAt : MethodName := ⟨RX10, "mendsAt", "(II)I"⟩
abbrev cX10_wrongSeen : ByteArray := prog_12_method_123_code
def yX10_wrongSeen : MethodName := ⟨RX10, "wrongSeen", "(III)I"⟩
abbrev cX10_laysFits : ByteArray := prog_12_method_124_code
def yX10_laysFits : MethodName := ⟨RX10, "laysFits", "(III)I"⟩
abbrev cX10_fits : ByteArray := prog_12_method_125_code
def yX10_fits : MethodName := ⟨RX10, "fits", "(III)I"⟩
abbrev cX10_fitsAt : ByteArray := prog_12_method_126_code
def yX10_fitsAt : MethodName := ⟨RX10, "fitsAt", "(IIII)I"⟩
abbrev cX10_mostAlike : ByteArray := prog_12_method_127_code
def yX10_mostAlike : MethodName := ⟨RX10, "mostAlike", "(I)I"⟩
abbrev cX10_ask : ByteArray := prog_12_method_128_code
def yX10_ask : MethodName := ⟨RX10, "ask", "(III)I"⟩
abbrev cX10_settles : ByteArray := prog_12_method_129_code
def yX10_settles : MethodName := ⟨RX10, "settles", "(II)V"⟩
abbrev cX10_doesDeed : ByteArray := prog_12_method_130_code
def yX10_doesDeed : MethodName := ⟨RX10, "doesDeed", "(II)Z"⟩
abbrev cX10_standing : ByteArray := prog_12_method_131_code
def yX10_standing : MethodName := ⟨RX10, "standing", "(II)I"⟩
abbrev cX10_playing : ByteArray := prog_12_method_132_code
def yX10_playing : MethodName := ⟨RX10, "playing", "(III)I"⟩
abbrev cX10_areTwo : ByteArray := prog_12_method_133_code
def yX10_areTwo : MethodName := ⟨RX10, "areTwo", "(II)Z"⟩
abbrev cX10_game : ByteArray := prog_12_method_134_code
def yX10_game : MethodName := ⟨RX10, "game", "(III)I"⟩
abbrev cX10_moveOf : ByteArray := prog_12_method_135_code
def yX10_moveOf : MethodName := ⟨RX10, "moveOf", "(III)I"⟩
abbrev cX10_plantsOf : ByteArray := prog_12_method_136_code
def yX10_plantsOf : MethodName := ⟨RX10, "plantsOf", "(II)I"⟩
abbrev cX10_gardenOf : ByteArray := prog_12_method_137_code
def yX10_gardenOf : MethodName := ⟨RX10, "gardenOf", "(I)I"⟩
abbrev cX10_garden : ByteArray := prog_12_method_138_code
def yX10_garden : MethodName := ⟨RX10, "garden", "(I)I"⟩
abbrev cX10_gardenSet : ByteArray := prog_12_method_139_code
def yX10_gardenSet : MethodName := ⟨RX10, "gardenSet", "(I)I"⟩
abbrev cX10_tellsDry : ByteArray := prog_12_method_140_code
def yX10_tellsDry : MethodName := ⟨RX10, "tellsDry", "(I)Z"⟩
abbrev cX10_ahead0 : ByteArray := prog_12_method_141_code
def yX10_ahead0 : MethodName := ⟨RX10, "ahead0", "(I)I"⟩
abbrev cX10_chance : ByteArray := prog_12_method_142_code
def yX10_chance : MethodName := ⟨RX10, "chance", "(I)Z"⟩
abbrev cX10_hope : ByteArray := prog_12_method_143_code
def yX10_hope : MethodName := ⟨RX10, "hope", "(II)Z"⟩
abbrev cX10_copyAt : ByteArray := prog_12_method_144_code
def yX10_copyAt : MethodName := ⟨RX10, "copyAt", "(I)I"⟩
abbrev cX10_draw : ByteArray := prog_12_method_145_code
def yX10_draw : MethodName := ⟨RX10, "draw", "(I)I"⟩
abbrev cX10_runsBy : ByteArray := prog_12_method_146_code
def yX10_runsBy : MethodName := ⟨RX10, "runsBy", "(I)Z"⟩
abbrev cX10_ropesBy : ByteArray := prog_12_method_147_code
def yX10_ropesBy : MethodName := ⟨RX10, "ropesBy", "(II)Z"⟩
abbrev cX10_daysBy : ByteArray := prog_12_method_148_code
def yX10_daysBy : MethodName := ⟨RX10, "daysBy", "(I)Z"⟩
abbrev cX10_fogsTo : ByteArray := prog_12_method_149_code
def yX10_fogsTo : MethodName := ⟨RX10, "fogsTo", "(I)Z"⟩
abbrev cX10_doesAny : ByteArray := prog_12_method_150_code
def yX10_doesAny : MethodName := ⟨RX10, "doesAny", "()Z"⟩
abbrev cX10_does : ByteArray := prog_12_method_151_code
def yX10_does : MethodName := ⟨RX10, "does", "(I)Z"⟩
abbrev cX10_holds : ByteArray := prog_12_method_152_code
def yX10_holds : MethodName := ⟨RX10, "holds", "(I)Z"⟩
abbrev cX10_behindEnds : ByteArray := prog_12_method_153_code
def yX10_behindEnds : MethodName := ⟨RX10, "behindEnds", "(I)I"⟩
abbrev cX10_lives : ByteArray := prog_12_method_154_code
def yX10_lives : MethodName := ⟨RX10, "lives", "(I)V"⟩
abbrev cX10_live : ByteArray := prog_12_method_155_code
def yX10_live : MethodName := ⟨RX10, "live", "(I)I"⟩
abbrev cX10_lived : ByteArray := prog_12_method_156_code
def yX10_lived : MethodName := ⟨RX10, "lived", "(I)I"⟩
abbrev cX10_mean : ByteArray := prog_12_method_157_code
def yX10_mean : MethodName := ⟨RX10, "mean", "(II)Z"⟩
abbrev cX10_copies : ByteArray := prog_12_method_158_code
def yX10_copies : MethodName := ⟨RX10, "copies", "(II)V"⟩
abbrev cX10_mark : ByteArray := prog_12_method_159_code
def yX10_mark : MethodName := ⟨RX10, "mark", "()I"⟩
abbrev cX10_undo : ByteArray := prog_12_method_160_code
def yX10_undo : MethodName := ⟨RX10, "undo", "()I"⟩
def RJx145de : String := "java/io/Serializable"
def TJx145de : u_T := fun k => match k with
  | _ => ("", "", "", false)
def tyJx145de : Nat → FieldType := fun k => match k with
  | _ => .int
abbrev wsJx145de0 : List Cond := u_ws RJx145de TJx145de 0
theorem nmJx145de : ∀ a, a < 0 → ∀ b, b < 0 → a ≠ b → (TJx145de a).2.1 ≠ (TJx145de b).2.1 := by decide +kernel
theorem tyJx145de_ok : ∀ k, k < 0 → parseFieldDescriptor (TJx145de k).2.2.1 = some (tyJx145de k) := by decide +kernel
def RJx9f9b0 : String := "java/lang/CharSequence"
def TJx9f9b0 : u_T := fun k => match k with
  | _ => ("", "", "", false)
def tyJx9f9b0 : Nat → FieldType := fun k => match k with
  | _ => .int
abbrev wsJx9f9b00 : List Cond := u_ws RJx9f9b0 TJx9f9b0 0
theorem nmJx9f9b0 : ∀ a, a < 0 → ∀ b, b < 0 → a ≠ b → (TJx9f9b0 a).2.1 ≠ (TJx9f9b0 b).2.1 := by decide +kernel
theorem tyJx9f9b0_ok : ∀ k, k < 0 → parseFieldDescriptor (TJx9f9b0 k).2.2.1 = some (tyJx9f9b0 k) := by decide +kernel
def RJxb160c : String := "java/lang/Comparable"
def TJxb160c : u_T := fun k => match k with
  | _ => ("", "", "", false)
def tyJxb160c : Nat → FieldType := fun k => match k with
  | _ => .int
abbrev wsJxb160c0 : List Cond := u_ws RJxb160c TJxb160c 0
theorem nmJxb160c : ∀ a, a < 0 → ∀ b, b < 0 → a ≠ b → (TJxb160c a).2.1 ≠ (TJxb160c b).2.1 := by decide +kernel
theorem tyJxb160c_ok : ∀ k, k < 0 → parseFieldDescriptor (TJxb160c k).2.2.1 = some (tyJxb160c k) := by decide +kernel
def RJ6 : String := "java/lang/Integer"
def TJ6 : u_T := fun k => match k with
  | _ => ("", "", "", false)
def tyJ6 : Nat → FieldType := fun k => match k with
  | _ => .int
abbrev wsJ60 : List Cond := u_ws RJ6 TJ6 0
theorem nmJ6 : ∀ a, a < 0 → ∀ b, b < 0 → a ≠ b → (TJ6 a).2.1 ≠ (TJ6 b).2.1 := by decide +kernel
theorem tyJ6_ok : ∀ k, k < 0 → parseFieldDescriptor (TJ6 k).2.2.1 = some (tyJ6 k) := by decide +kernel
abbrev cJ6_bitCount_0f7a4 : ByteArray := prog_13_method_49_code
def yJ6_bitCount_0f7a4 : MethodName := ⟨RJ6, "bitCount", "(I)I"⟩
def RJ9 : String := "java/lang/Math"
def TJ9 : u_T := fun k => match k with
  | _ => ("", "", "", false)
def tyJ9 : Nat → FieldType := fun k => match k with
  | _ => .int
abbrev wsJ90 : List Cond := u_ws RJ9 TJ9 0
theorem nmJ9 : ∀ a, a < 0 → ∀ b, b < 0 → a ≠ b → (TJ9 a).2.1 ≠ (TJ9 b).2.1 := by decide +kernel
theorem tyJ9_ok : ∀ k, k < 0 → parseFieldDescriptor (TJ9 k).2.2.1 = some (tyJ9 k) := by decide +kernel
abbrev cJ9_max_7cf53 : ByteArray := prog_14_method_65_code
def yJ9_max_7cf53 : MethodName := ⟨RJ9, "max", "(II)I"⟩
abbrev cJ9_min_7cf53 : ByteArray := prog_14_method_69_code
def yJ9_min_7cf53 : MethodName := ⟨RJ9, "min", "(II)I"⟩
def RJ0 : String := "java/lang/String"
def TJ0 : u_T := fun k => match k with
  | _ => ("", "", "", false)
def tyJ0 : Nat → FieldType := fun k => match k with
  | _ => .int
abbrev wsJ00 : List Cond := u_ws RJ0 TJ0 0
theorem nmJ0 : ∀ a, a < 0 → ∀ b, b < 0 → a ≠ b → (TJ0 a).2.1 ≠ (TJ0 b).2.1 := by decide +kernel
theorem tyJ0_ok : ∀ k, k < 0 → parseFieldDescriptor (TJ0 k).2.2.1 = some (tyJ0 k) := by decide +kernel
abbrev cJ0_length_8abf5 : ByteArray := prog_15_method_54_code
def yJ0_length_8abf5 : MethodName := ⟨RJ0, "length", "()I"⟩
abbrev cJ0_charAt_5068e : ByteArray := prog_15_method_56_code
def yJ0_charAt_5068e : MethodName := ⟨RJ0, "charAt", "(I)C"⟩
abbrev cJ0_coder_7d493 : ByteArray := prog_15_method_152_code
def yJ0_coder_7d493 : MethodName := ⟨RJ0, "coder", "()B"⟩
abbrev cJ0_isLatin1_aae02 : ByteArray := prog_15_method_154_code
def yJ0_isLatin1_aae02 : MethodName := ⟨RJ0, "isLatin1", "()Z"⟩
abbrev cJ0_checkIndex_df160 : ByteArray := prog_15_method_155_code
def yJ0_checkIndex_df160 : MethodName := ⟨RJ0, "checkIndex", "(II)V"⟩
def RJ1 : String := "java/lang/StringLatin1"
def TJ1 : u_T := fun k => match k with
  | _ => ("", "", "", false)
def tyJ1 : Nat → FieldType := fun k => match k with
  | _ => .int
abbrev wsJ10 : List Cond := u_ws RJ1 TJ1 0
theorem nmJ1 : ∀ a, a < 0 → ∀ b, b < 0 → a ≠ b → (TJ1 a).2.1 ≠ (TJ1 b).2.1 := by decide +kernel
theorem tyJ1_ok : ∀ k, k < 0 → parseFieldDescriptor (TJ1 k).2.2.1 = some (tyJ1 k) := by decide +kernel
abbrev cJ1_charAt_3b067 : ByteArray := prog_16_method_2_code
def yJ1_charAt_3b067 : MethodName := ⟨RJ1, "charAt", "([BI)C"⟩
def RJ2 : String := "java/lang/StringUTF16"
def TJ2 : u_T := fun k => match k with
  | _ => ("", "", "", false)
def tyJ2 : Nat → FieldType := fun k => match k with
  | _ => .int
abbrev wsJ20 : List Cond := u_ws RJ2 TJ2 0
theorem nmJ2 : ∀ a, a < 0 → ∀ b, b < 0 → a ≠ b → (TJ2 a).2.1 ≠ (TJ2 b).2.1 := by decide +kernel
theorem tyJ2_ok : ∀ k, k < 0 → parseFieldDescriptor (TJ2 k).2.2.1 = some (tyJ2 k) := by decide +kernel
abbrev cJ2_getChar_3b067 : ByteArray := prog_17_method_5_code
def yJ2_getChar_3b067 : MethodName := ⟨RJ2, "getChar", "([BI)C"⟩
abbrev cJ2_length_9d52b : ByteArray := prog_17_method_6_code
def yJ2_length_9d52b : MethodName := ⟨RJ2, "length", "([B)I"⟩
abbrev cJ2_charAt_3b067 : ByteArray := prog_17_method_83_code
def yJ2_charAt_3b067 : MethodName := ⟨RJ2, "charAt", "([BI)C"⟩
abbrev cJ2_checkIndex_2214a : ByteArray := prog_17_method_91_code
def yJ2_checkIndex_2214a : MethodName := ⟨RJ2, "checkIndex", "(I[B)V"⟩
def RJ10 : String := "java/lang/System"
def TJ10 : u_T := fun k => match k with
  | _ => ("", "", "", false)
def tyJ10 : Nat → FieldType := fun k => match k with
  | _ => .int
abbrev wsJ100 : List Cond := u_ws RJ10 TJ10 0
theorem nmJ10 : ∀ a, a < 0 → ∀ b, b < 0 → a ≠ b → (TJ10 a).2.1 ≠ (TJ10 b).2.1 := by decide +kernel
theorem tyJ10_ok : ∀ k, k < 0 → parseFieldDescriptor (TJ10 k).2.2.1 = some (tyJ10 k) := by decide +kernel
def RJxfd54e : String := "java/lang/constant/Constable"
def TJxfd54e : u_T := fun k => match k with
  | _ => ("", "", "", false)
def tyJxfd54e : Nat → FieldType := fun k => match k with
  | _ => .int
abbrev wsJxfd54e0 : List Cond := u_ws RJxfd54e TJxfd54e 0
theorem nmJxfd54e : ∀ a, a < 0 → ∀ b, b < 0 → a ≠ b → (TJxfd54e a).2.1 ≠ (TJxfd54e b).2.1 := by decide +kernel
theorem tyJxfd54e_ok : ∀ k, k < 0 → parseFieldDescriptor (TJxfd54e k).2.2.1 = some (tyJxfd54e k) := by decide +kernel
def RJx3cf43 : String := "java/lang/constant/ConstantDesc"
def TJx3cf43 : u_T := fun k => match k with
  | _ => ("", "", "", false)
def tyJx3cf43 : Nat → FieldType := fun k => match k with
  | _ => .int
abbrev wsJx3cf430 : List Cond := u_ws RJx3cf43 TJx3cf43 0
theorem nmJx3cf43 : ∀ a, a < 0 → ∀ b, b < 0 → a ≠ b → (TJx3cf43 a).2.1 ≠ (TJx3cf43 b).2.1 := by decide +kernel
theorem tyJx3cf43_ok : ∀ k, k < 0 → parseFieldDescriptor (TJx3cf43 k).2.2.1 = some (tyJx3cf43 k) := by decide +kernel
def RJ7 : String := "java/util/Arrays"
def TJ7 : u_T := fun k => match k with
  | _ => ("", "", "", false)
def tyJ7 : Nat → FieldType := fun k => match k with
  | _ => .int
abbrev wsJ70 : List Cond := u_ws RJ7 TJ7 0
theorem nmJ7 : ∀ a, a < 0 → ∀ b, b < 0 → a ≠ b → (TJ7 a).2.1 ≠ (TJ7 b).2.1 := by decide +kernel
theorem tyJ7_ok : ∀ k, k < 0 → parseFieldDescriptor (TJ7 k).2.2.1 = some (tyJ7 k) := by decide +kernel
abbrev cJ7_fill_d0a16 : ByteArray := prog_19_method_101_code
def yJ7_fill_d0a16 : MethodName := ⟨RJ7, "fill", "([JJ)V"⟩
def RJ3 : String := "jdk/internal/util/Preconditions"
def TJ3 : u_T := fun k => match k with
  | _ => ("", "", "", false)
def tyJ3 : Nat → FieldType := fun k => match k with
  | _ => .int
abbrev wsJ30 : List Cond := u_ws RJ3 TJ3 0
theorem nmJ3 : ∀ a, a < 0 → ∀ b, b < 0 → a ≠ b → (TJ3 a).2.1 ≠ (TJ3 b).2.1 := by decide +kernel
theorem tyJ3_ok : ∀ k, k < 0 → parseFieldDescriptor (TJ3 k).2.2.1 = some (tyJ3 k) := by decide +kernel
abbrev cJ3_checkIndex_8e157 : ByteArray := prog_20_method_11_code
def yJ3_checkIndex_8e157 : MethodName := ⟨RJ3, "checkIndex", "(IILjava/util/function/BiFunction;)I"⟩
def RL : String := "LeapArchesLaw"
abbrev cL_law : ByteArray := code
def yL_law : MethodName := ⟨RL, "law", "([I)Z"⟩
abbrev vwCl : List vw_C := [(RX0, TX0, 4), (RX1, TX1, 4), (RX2, TX2, 7), (RX3, TX3, 9), (RX4, TX4, 5), (RX5, TX5, 14), (RX6, TX6, 3), (RX7, TX7, 20), (RX8, TX8, 2), (RX9, TX9, 19), (RX10, TX10, 39)]
