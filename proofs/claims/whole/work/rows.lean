section
-- ===== PART A: goes FIRST, ahead of the names: the tables' words, and 'selects' of the private methods out of them =====
/-- a private method of a class that the tables say can be made, by its rows of tables_1 -/
def lw_okq (q : MethodName × Nat) : Prop := (q.1.cls ≠ "java/lang/invoke/MethodHandle" ∧ q.1.cls ≠ "java/lang/invoke/VarHandle") ∧ Cond.instantiable q.1.cls q.2 ∈ tables_1 ∧ Cond.privateMethod q.1 ∈ tables_1 ∧ Cond.instanceMethod q.1 ∈ tables_1
theorem lw_p0 : lw_okq (⟨"LeapArches", "not", "(I)Z"⟩, 19) := ⟨⟨by decide +kernel, by decide +kernel⟩, List.mem_of_getElem? (i := 21) (by decide +kernel), List.mem_of_getElem? (i := 463) (by decide +kernel), List.mem_of_getElem? (i := 464) (by decide +kernel)⟩
theorem lw_p1 : lw_okq (⟨"LeapArches", "yes", "()Z"⟩, 19) := ⟨⟨by decide +kernel, by decide +kernel⟩, List.mem_of_getElem? (i := 21) (by decide +kernel), List.mem_of_getElem? (i := 474) (by decide +kernel), List.mem_of_getElem? (i := 475) (by decide +kernel)⟩
theorem lw_p2 : lw_okq (⟨"LeapArches", "placeStatus", "(II)I"⟩, 19) := ⟨⟨by decide +kernel, by decide +kernel⟩, List.mem_of_getElem? (i := 21) (by decide +kernel), List.mem_of_getElem? (i := 482) (by decide +kernel), List.mem_of_getElem? (i := 483) (by decide +kernel)⟩
theorem lw_p3 : lw_okq (⟨"LeapArches$Tray", "cut", "(J)J"⟩, 3) := ⟨⟨by decide +kernel, by decide +kernel⟩, List.mem_of_getElem? (i := 30) (by decide +kernel), List.mem_of_getElem? (i := 499) (by decide +kernel), List.mem_of_getElem? (i := 500) (by decide +kernel)⟩
theorem lw_p4 : lw_okq (⟨"LeapArches", "none", "(I)I"⟩, 19) := ⟨⟨by decide +kernel, by decide +kernel⟩, List.mem_of_getElem? (i := 21) (by decide +kernel), List.mem_of_getElem? (i := 507) (by decide +kernel), List.mem_of_getElem? (i := 508) (by decide +kernel)⟩
theorem lw_p5 : lw_okq (⟨"LeapArches$Text", "findToken", "(I)I"⟩, 14) := ⟨⟨by decide +kernel, by decide +kernel⟩, List.mem_of_getElem? (i := 49) (by decide +kernel), List.mem_of_getElem? (i := 554) (by decide +kernel), List.mem_of_getElem? (i := 555) (by decide +kernel)⟩
theorem lw_p6 : lw_okq (⟨"LeapArches$Text", "findWord", "(I)I"⟩, 14) := ⟨⟨by decide +kernel, by decide +kernel⟩, List.mem_of_getElem? (i := 49) (by decide +kernel), List.mem_of_getElem? (i := 561) (by decide +kernel), List.mem_of_getElem? (i := 562) (by decide +kernel)⟩
theorem lw_p7 : lw_okq (⟨"LeapArches$Text", "findKeyword", "(II)I"⟩, 14) := ⟨⟨by decide +kernel, by decide +kernel⟩, List.mem_of_getElem? (i := 49) (by decide +kernel), List.mem_of_getElem? (i := 566) (by decide +kernel), List.mem_of_getElem? (i := 567) (by decide +kernel)⟩
theorem lw_p8 : lw_okq (⟨"LeapArches$Text", "findNumber", "(I)I"⟩, 14) := ⟨⟨by decide +kernel, by decide +kernel⟩, List.mem_of_getElem? (i := 49) (by decide +kernel), List.mem_of_getElem? (i := 622) (by decide +kernel), List.mem_of_getElem? (i := 623) (by decide +kernel)⟩
theorem lw_p9 : lw_okq (⟨"LeapArches$ViaductReader", "takePart", "(LLeapArches$Viaduct;)Z"⟩, 2) := ⟨⟨by decide +kernel, by decide +kernel⟩, List.mem_of_getElem? (i := 274) (by decide +kernel), List.mem_of_getElem? (i := 633) (by decide +kernel), List.mem_of_getElem? (i := 634) (by decide +kernel)⟩
theorem lw_p10 : lw_okq (⟨"LeapArches$ViaductReader", "takeRule", "(LLeapArches$Viaduct;I)Z"⟩, 2) := ⟨⟨by decide +kernel, by decide +kernel⟩, List.mem_of_getElem? (i := 274) (by decide +kernel), List.mem_of_getElem? (i := 637) (by decide +kernel), List.mem_of_getElem? (i := 638) (by decide +kernel)⟩
theorem lw_p11 : lw_okq (⟨"LeapArches$ViaductReader", "takeArch", "(LLeapArches$Viaduct;)Z"⟩, 2) := ⟨⟨by decide +kernel, by decide +kernel⟩, List.mem_of_getElem? (i := 274) (by decide +kernel), List.mem_of_getElem? (i := 658) (by decide +kernel), List.mem_of_getElem? (i := 659) (by decide +kernel)⟩
theorem lw_p12 : lw_okq (⟨"LeapArches$ViaductReader", "takeOption", "(II[II)Z"⟩, 2) := ⟨⟨by decide +kernel, by decide +kernel⟩, List.mem_of_getElem? (i := 274) (by decide +kernel), List.mem_of_getElem? (i := 666) (by decide +kernel), List.mem_of_getElem? (i := 667) (by decide +kernel)⟩
theorem lw_p13 : lw_okq (⟨"LeapArches$ViaductReader", "takePerson", "(LLeapArches$Viaduct;)Z"⟩, 2) := ⟨⟨by decide +kernel, by decide +kernel⟩, List.mem_of_getElem? (i := 274) (by decide +kernel), List.mem_of_getElem? (i := 670) (by decide +kernel), List.mem_of_getElem? (i := 671) (by decide +kernel)⟩
theorem lw_p14 : lw_okq (⟨"LeapArches$ViaductReader", "takePlant", "(LLeapArches$Viaduct;)Z"⟩, 2) := ⟨⟨by decide +kernel, by decide +kernel⟩, List.mem_of_getElem? (i := 274) (by decide +kernel), List.mem_of_getElem? (i := 682) (by decide +kernel), List.mem_of_getElem? (i := 683) (by decide +kernel)⟩
theorem lw_p15 : lw_okq (⟨"LeapArches", "given", "(I)I"⟩, 19) := ⟨⟨by decide +kernel, by decide +kernel⟩, List.mem_of_getElem? (i := 21) (by decide +kernel), List.mem_of_getElem? (i := 691) (by decide +kernel), List.mem_of_getElem? (i := 692) (by decide +kernel)⟩
def lw_privs_1 : List (MethodName × Nat) := [(⟨"LeapArches", "not", "(I)Z"⟩, 19), (⟨"LeapArches", "yes", "()Z"⟩, 19), (⟨"LeapArches", "placeStatus", "(II)I"⟩, 19), (⟨"LeapArches$Tray", "cut", "(J)J"⟩, 3), (⟨"LeapArches", "none", "(I)I"⟩, 19), (⟨"LeapArches$Text", "findToken", "(I)I"⟩, 14), (⟨"LeapArches$Text", "findWord", "(I)I"⟩, 14), (⟨"LeapArches$Text", "findKeyword", "(II)I"⟩, 14), (⟨"LeapArches$Text", "findNumber", "(I)I"⟩, 14), (⟨"LeapArches$ViaductReader", "takePart", "(LLeapArches$Viaduct;)Z"⟩, 2), (⟨"LeapArches$ViaductReader", "takeRule", "(LLeapArches$Viaduct;I)Z"⟩, 2), (⟨"LeapArches$ViaductReader", "takeArch", "(LLeapArches$Viaduct;)Z"⟩, 2), (⟨"LeapArches$ViaductReader", "takeOption", "(II[II)Z"⟩, 2), (⟨"LeapArches$ViaductReader", "takePerson", "(LLeapArches$Viaduct;)Z"⟩, 2), (⟨"LeapArches$ViaductReader", "takePlant", "(LLeapArches$Viaduct;)Z"⟩, 2), (⟨"LeapArches", "given", "(I)I"⟩, 19)]
theorem lw_r1 : ∀ q ∈ lw_privs_1, lw_okq q := List.forall_mem_cons.mpr ⟨lw_p0, List.forall_mem_cons.mpr ⟨lw_p1, List.forall_mem_cons.mpr ⟨lw_p2, List.forall_mem_cons.mpr ⟨lw_p3, List.forall_mem_cons.mpr ⟨lw_p4, List.forall_mem_cons.mpr ⟨lw_p5, List.forall_mem_cons.mpr ⟨lw_p6, List.forall_mem_cons.mpr ⟨lw_p7, List.forall_mem_cons.mpr ⟨lw_p8, List.forall_mem_cons.mpr ⟨lw_p9, List.forall_mem_cons.mpr ⟨lw_p10, List.forall_mem_cons.mpr ⟨lw_p11, List.forall_mem_cons.mpr ⟨lw_p12, List.forall_mem_cons.mpr ⟨lw_p13, List.forall_mem_cons.mpr ⟨lw_p14, List.forall_mem_cons.mpr ⟨lw_p15, fun _ h => absurd h List.not_mem_nil⟩⟩⟩⟩⟩⟩⟩⟩⟩⟩⟩⟩⟩⟩⟩⟩
theorem lw_p16 : lw_okq (⟨"LeapArches$StepsReader", "takeRow", "()Z"⟩, 5) := ⟨⟨by decide +kernel, by decide +kernel⟩, List.mem_of_getElem? (i := 287) (by decide +kernel), List.mem_of_getElem? (i := 707) (by decide +kernel), List.mem_of_getElem? (i := 708) (by decide +kernel)⟩
theorem lw_p17 : lw_okq (⟨"LeapArches$StepsReader", "takeEnd", "()Z"⟩, 5) := ⟨⟨by decide +kernel, by decide +kernel⟩, List.mem_of_getElem? (i := 287) (by decide +kernel), List.mem_of_getElem? (i := 711) (by decide +kernel), List.mem_of_getElem? (i := 712) (by decide +kernel)⟩
theorem lw_p18 : lw_okq (⟨"LeapArches$StepsReader", "takeRest", "(II)Z"⟩, 5) := ⟨⟨by decide +kernel, by decide +kernel⟩, List.mem_of_getElem? (i := 287) (by decide +kernel), List.mem_of_getElem? (i := 720) (by decide +kernel), List.mem_of_getElem? (i := 721) (by decide +kernel)⟩
theorem lw_p19 : lw_okq (⟨"LeapArches$StepsReader", "takeName", "()I"⟩, 5) := ⟨⟨by decide +kernel, by decide +kernel⟩, List.mem_of_getElem? (i := 287) (by decide +kernel), List.mem_of_getElem? (i := 724) (by decide +kernel), List.mem_of_getElem? (i := 725) (by decide +kernel)⟩
theorem lw_p20 : lw_okq (⟨"LeapArches$StepsReader", "takeTest", "(I)Z"⟩, 5) := ⟨⟨by decide +kernel, by decide +kernel⟩, List.mem_of_getElem? (i := 287) (by decide +kernel), List.mem_of_getElem? (i := 733) (by decide +kernel), List.mem_of_getElem? (i := 734) (by decide +kernel)⟩
theorem lw_p21 : lw_okq (⟨"LeapArches$Viaduct", "sumOfPeople", "([I)I"⟩, 20) := ⟨⟨by decide +kernel, by decide +kernel⟩, List.mem_of_getElem? (i := 107) (by decide +kernel), List.mem_of_getElem? (i := 757) (by decide +kernel), List.mem_of_getElem? (i := 758) (by decide +kernel)⟩
theorem lw_p22 : lw_okq (⟨"LeapArches$Viaduct", "strainBy", "(III)I"⟩, 20) := ⟨⟨by decide +kernel, by decide +kernel⟩, List.mem_of_getElem? (i := 107) (by decide +kernel), List.mem_of_getElem? (i := 781) (by decide +kernel), List.mem_of_getElem? (i := 782) (by decide +kernel)⟩
theorem lw_p23 : lw_okq (⟨"LeapArches$Viaduct", "stopBy", "(IIII)I"⟩, 20) := ⟨⟨by decide +kernel, by decide +kernel⟩, List.mem_of_getElem? (i := 107) (by decide +kernel), List.mem_of_getElem? (i := 805) (by decide +kernel), List.mem_of_getElem? (i := 806) (by decide +kernel)⟩
theorem lw_p24 : lw_okq (⟨"LeapArches$Viaduct", "tread", "(II)V"⟩, 20) := ⟨⟨by decide +kernel, by decide +kernel⟩, List.mem_of_getElem? (i := 107) (by decide +kernel), List.mem_of_getElem? (i := 809) (by decide +kernel), List.mem_of_getElem? (i := 810) (by decide +kernel)⟩
theorem lw_p25 : lw_okq (⟨"LeapArches$Viaduct", "land", "(II)V"⟩, 20) := ⟨⟨by decide +kernel, by decide +kernel⟩, List.mem_of_getElem? (i := 107) (by decide +kernel), List.mem_of_getElem? (i := 813) (by decide +kernel), List.mem_of_getElem? (i := 814) (by decide +kernel)⟩
theorem lw_p26 : lw_okq (⟨"LeapArches", "givenUnless", "(II)I"⟩, 19) := ⟨⟨by decide +kernel, by decide +kernel⟩, List.mem_of_getElem? (i := 21) (by decide +kernel), List.mem_of_getElem? (i := 821) (by decide +kernel), List.mem_of_getElem? (i := 822) (by decide +kernel)⟩
theorem lw_p27 : lw_okq (⟨"LeapArches", "put", "([IIIII)Z"⟩, 19) := ⟨⟨by decide +kernel, by decide +kernel⟩, List.mem_of_getElem? (i := 21) (by decide +kernel), List.mem_of_getElem? (i := 888) (by decide +kernel), List.mem_of_getElem? (i := 889) (by decide +kernel)⟩
theorem lw_p28 : lw_okq (⟨"LeapArches", "givenIfArch", "(I)I"⟩, 19) := ⟨⟨by decide +kernel, by decide +kernel⟩, List.mem_of_getElem? (i := 21) (by decide +kernel), List.mem_of_getElem? (i := 947) (by decide +kernel), List.mem_of_getElem? (i := 948) (by decide +kernel)⟩
theorem lw_p29 : lw_okq (⟨"LeapArches$Groups", "cheapestOf", "(I)I"⟩, 4) := ⟨⟨by decide +kernel, by decide +kernel⟩, List.mem_of_getElem? (i := 311) (by decide +kernel), List.mem_of_getElem? (i := 1015) (by decide +kernel), List.mem_of_getElem? (i := 1016) (by decide +kernel)⟩
theorem lw_p30 : lw_okq (⟨"LeapArches$Groups", "priceOfGroup", "(III)I"⟩, 4) := ⟨⟨by decide +kernel, by decide +kernel⟩, List.mem_of_getElem? (i := 311) (by decide +kernel), List.mem_of_getElem? (i := 1020) (by decide +kernel), List.mem_of_getElem? (i := 1021) (by decide +kernel)⟩
theorem lw_p31 : lw_okq (⟨"LeapArches", "isSetOfPeople", "(I)Z"⟩, 19) := ⟨⟨by decide +kernel, by decide +kernel⟩, List.mem_of_getElem? (i := 21) (by decide +kernel), List.mem_of_getElem? (i := 1037) (by decide +kernel), List.mem_of_getElem? (i := 1038) (by decide +kernel)⟩
def lw_privs_2 : List (MethodName × Nat) := [(⟨"LeapArches$StepsReader", "takeRow", "()Z"⟩, 5), (⟨"LeapArches$StepsReader", "takeEnd", "()Z"⟩, 5), (⟨"LeapArches$StepsReader", "takeRest", "(II)Z"⟩, 5), (⟨"LeapArches$StepsReader", "takeName", "()I"⟩, 5), (⟨"LeapArches$StepsReader", "takeTest", "(I)Z"⟩, 5), (⟨"LeapArches$Viaduct", "sumOfPeople", "([I)I"⟩, 20), (⟨"LeapArches$Viaduct", "strainBy", "(III)I"⟩, 20), (⟨"LeapArches$Viaduct", "stopBy", "(IIII)I"⟩, 20), (⟨"LeapArches$Viaduct", "tread", "(II)V"⟩, 20), (⟨"LeapArches$Viaduct", "land", "(II)V"⟩, 20), (⟨"LeapArches", "givenUnless", "(II)I"⟩, 19), (⟨"LeapArches", "put", "([IIIII)Z"⟩, 19), (⟨"LeapArches", "givenIfArch", "(I)I"⟩, 19), (⟨"LeapArches$Groups", "cheapestOf", "(I)I"⟩, 4), (⟨"LeapArches$Groups", "priceOfGroup", "(III)I"⟩, 4), (⟨"LeapArches", "isSetOfPeople", "(I)Z"⟩, 19)]
theorem lw_r2 : ∀ q ∈ lw_privs_2, lw_okq q := List.forall_mem_cons.mpr ⟨lw_p16, List.forall_mem_cons.mpr ⟨lw_p17, List.forall_mem_cons.mpr ⟨lw_p18, List.forall_mem_cons.mpr ⟨lw_p19, List.forall_mem_cons.mpr ⟨lw_p20, List.forall_mem_cons.mpr ⟨lw_p21, List.forall_mem_cons.mpr ⟨lw_p22, List.forall_mem_cons.mpr ⟨lw_p23, List.forall_mem_cons.mpr ⟨lw_p24, List.forall_mem_cons.mpr ⟨lw_p25, List.forall_mem_cons.mpr ⟨lw_p26, List.forall_mem_cons.mpr ⟨lw_p27, List.forall_mem_cons.mpr ⟨lw_p28, List.forall_mem_cons.mpr ⟨lw_p29, List.forall_mem_cons.mpr ⟨lw_p30, List.forall_mem_cons.mpr ⟨lw_p31, fun _ h => absurd h List.not_mem_nil⟩⟩⟩⟩⟩⟩⟩⟩⟩⟩⟩⟩⟩⟩⟩⟩
theorem lw_p32 : lw_okq (⟨"LeapArches$Groups", "leastMate", "(II)I"⟩, 4) := ⟨⟨by decide +kernel, by decide +kernel⟩, List.mem_of_getElem? (i := 311) (by decide +kernel), List.mem_of_getElem? (i := 1050) (by decide +kernel), List.mem_of_getElem? (i := 1051) (by decide +kernel)⟩
theorem lw_p33 : lw_okq (⟨"LeapArches$Viaduct", "bearsBehindJumps", "(III)Z"⟩, 20) := ⟨⟨by decide +kernel, by decide +kernel⟩, List.mem_of_getElem? (i := 107) (by decide +kernel), List.mem_of_getElem? (i := 1066) (by decide +kernel), List.mem_of_getElem? (i := 1067) (by decide +kernel)⟩
theorem lw_p34 : lw_okq (⟨"LeapArches", "twosStatus", "(III)I"⟩, 19) := ⟨⟨by decide +kernel, by decide +kernel⟩, List.mem_of_getElem? (i := 21) (by decide +kernel), List.mem_of_getElem? (i := 1079) (by decide +kernel), List.mem_of_getElem? (i := 1080) (by decide +kernel)⟩
theorem lw_p35 : lw_okq (⟨"LeapArches", "doubtsThatFit", "(III)I"⟩, 19) := ⟨⟨by decide +kernel, by decide +kernel⟩, List.mem_of_getElem? (i := 21) (by decide +kernel), List.mem_of_getElem? (i := 1084) (by decide +kernel), List.mem_of_getElem? (i := 1085) (by decide +kernel)⟩
theorem lw_p36 : lw_okq (⟨"LeapArches$Contest", "worth", "(I)I"⟩, 4) := ⟨⟨by decide +kernel, by decide +kernel⟩, List.mem_of_getElem? (i := 331) (by decide +kernel), List.mem_of_getElem? (i := 1124) (by decide +kernel), List.mem_of_getElem? (i := 1125) (by decide +kernel)⟩
theorem lw_p37 : lw_okq (⟨"LeapArches$Contest", "worthBehind", "(III)I"⟩, 4) := ⟨⟨by decide +kernel, by decide +kernel⟩, List.mem_of_getElem? (i := 331) (by decide +kernel), List.mem_of_getElem? (i := 1128) (by decide +kernel), List.mem_of_getElem? (i := 1129) (by decide +kernel)⟩
theorem lw_p38 : lw_okq (⟨"LeapArches$Contest", "canMove", "(II)Z"⟩, 4) := ⟨⟨by decide +kernel, by decide +kernel⟩, List.mem_of_getElem? (i := 331) (by decide +kernel), List.mem_of_getElem? (i := 1134) (by decide +kernel), List.mem_of_getElem? (i := 1135) (by decide +kernel)⟩
theorem lw_p39 : lw_okq (⟨"LeapArches$Viaduct", "sumOfPlants", "([II)I"⟩, 20) := ⟨⟨by decide +kernel, by decide +kernel⟩, List.mem_of_getElem? (i := 107) (by decide +kernel), List.mem_of_getElem? (i := 1162) (by decide +kernel), List.mem_of_getElem? (i := 1163) (by decide +kernel)⟩
theorem lw_p40 : lw_okq (⟨"LeapArches$Viaduct", "sizeOf", "(I)I"⟩, 20) := ⟨⟨by decide +kernel, by decide +kernel⟩, List.mem_of_getElem? (i := 107) (by decide +kernel), List.mem_of_getElem? (i := 1166) (by decide +kernel), List.mem_of_getElem? (i := 1167) (by decide +kernel)⟩
theorem lw_p41 : lw_okq (⟨"LeapArches", "tellOdds", "(II)V"⟩, 19) := ⟨⟨by decide +kernel, by decide +kernel⟩, List.mem_of_getElem? (i := 21) (by decide +kernel), List.mem_of_getElem? (i := 1179) (by decide +kernel), List.mem_of_getElem? (i := 1180) (by decide +kernel)⟩
theorem lw_p42 : lw_okq (⟨"LeapArches", "tell", "(JJ)V"⟩, 19) := ⟨⟨by decide +kernel, by decide +kernel⟩, List.mem_of_getElem? (i := 21) (by decide +kernel), List.mem_of_getElem? (i := 1183) (by decide +kernel), List.mem_of_getElem? (i := 1184) (by decide +kernel)⟩
theorem lw_p43 : lw_okq (⟨"LeapArches$Life", "rowBehindEnd", "(I)I"⟩, 7) := ⟨⟨by decide +kernel, by decide +kernel⟩, List.mem_of_getElem? (i := 350) (by decide +kernel), List.mem_of_getElem? (i := 1211) (by decide +kernel), List.mem_of_getElem? (i := 1212) (by decide +kernel)⟩
theorem lw_p44 : lw_okq (⟨"LeapArches$Life", "doStep", "(I)I"⟩, 7) := ⟨⟨by decide +kernel, by decide +kernel⟩, List.mem_of_getElem? (i := 350) (by decide +kernel), List.mem_of_getElem? (i := 1215) (by decide +kernel), List.mem_of_getElem? (i := 1216) (by decide +kernel)⟩
theorem lw_p45 : lw_okq (⟨"LeapArches$Life", "doAny", "()I"⟩, 7) := ⟨⟨by decide +kernel, by decide +kernel⟩, List.mem_of_getElem? (i := 350) (by decide +kernel), List.mem_of_getElem? (i := 1228) (by decide +kernel), List.mem_of_getElem? (i := 1229) (by decide +kernel)⟩
theorem lw_p46 : lw_okq (⟨"LeapArches$Life", "draw", "(I)I"⟩, 7) := ⟨⟨by decide +kernel, by decide +kernel⟩, List.mem_of_getElem? (i := 350) (by decide +kernel), List.mem_of_getElem? (i := 1232) (by decide +kernel), List.mem_of_getElem? (i := 1233) (by decide +kernel)⟩
theorem lw_p47 : lw_okq (⟨"LeapArches$Life", "rowBehindStep", "(I)I"⟩, 7) := ⟨⟨by decide +kernel, by decide +kernel⟩, List.mem_of_getElem? (i := 350) (by decide +kernel), List.mem_of_getElem? (i := 1237) (by decide +kernel), List.mem_of_getElem? (i := 1238) (by decide +kernel)⟩
def lw_privs_3 : List (MethodName × Nat) := [(⟨"LeapArches$Groups", "leastMate", "(II)I"⟩, 4), (⟨"LeapArches$Viaduct", "bearsBehindJumps", "(III)Z"⟩, 20), (⟨"LeapArches", "twosStatus", "(III)I"⟩, 19), (⟨"LeapArches", "doubtsThatFit", "(III)I"⟩, 19), (⟨"LeapArches$Contest", "worth", "(I)I"⟩, 4), (⟨"LeapArches$Contest", "worthBehind", "(III)I"⟩, 4), (⟨"LeapArches$Contest", "canMove", "(II)Z"⟩, 4), (⟨"LeapArches$Viaduct", "sumOfPlants", "([II)I"⟩, 20), (⟨"LeapArches$Viaduct", "sizeOf", "(I)I"⟩, 20), (⟨"LeapArches", "tellOdds", "(II)V"⟩, 19), (⟨"LeapArches", "tell", "(JJ)V"⟩, 19), (⟨"LeapArches$Life", "rowBehindEnd", "(I)I"⟩, 7), (⟨"LeapArches$Life", "doStep", "(I)I"⟩, 7), (⟨"LeapArches$Life", "doAny", "()I"⟩, 7), (⟨"LeapArches$Life", "draw", "(I)I"⟩, 7), (⟨"LeapArches$Life", "rowBehindStep", "(I)I"⟩, 7)]
theorem lw_r3 : ∀ q ∈ lw_privs_3, lw_okq q := List.forall_mem_cons.mpr ⟨lw_p32, List.forall_mem_cons.mpr ⟨lw_p33, List.forall_mem_cons.mpr ⟨lw_p34, List.forall_mem_cons.mpr ⟨lw_p35, List.forall_mem_cons.mpr ⟨lw_p36, List.forall_mem_cons.mpr ⟨lw_p37, List.forall_mem_cons.mpr ⟨lw_p38, List.forall_mem_cons.mpr ⟨lw_p39, List.forall_mem_cons.mpr ⟨lw_p40, List.forall_mem_cons.mpr ⟨lw_p41, List.forall_mem_cons.mpr ⟨lw_p42, List.forall_mem_cons.mpr ⟨lw_p43, List.forall_mem_cons.mpr ⟨lw_p44, List.forall_mem_cons.mpr ⟨lw_p45, List.forall_mem_cons.mpr ⟨lw_p46, List.forall_mem_cons.mpr ⟨lw_p47, fun _ h => absurd h List.not_mem_nil⟩⟩⟩⟩⟩⟩⟩⟩⟩⟩⟩⟩⟩⟩⟩⟩
theorem lw_p48 : lw_okq (⟨"LeapArches$Life", "holdsTest", "(I)Z"⟩, 7) := ⟨⟨by decide +kernel, by decide +kernel⟩, List.mem_of_getElem? (i := 350) (by decide +kernel), List.mem_of_getElem? (i := 1241) (by decide +kernel), List.mem_of_getElem? (i := 1242) (by decide +kernel)⟩
theorem lw_p49 : lw_okq (⟨"LeapArches$Life", "compare", "(II)Z"⟩, 7) := ⟨⟨by decide +kernel, by decide +kernel⟩, List.mem_of_getElem? (i := 350) (by decide +kernel), List.mem_of_getElem? (i := 1246) (by decide +kernel), List.mem_of_getElem? (i := 1247) (by decide +kernel)⟩
theorem lw_p50 : lw_okq (⟨"LeapArchesModel", "plain", "(I)V"⟩, 39) := ⟨⟨by decide +kernel, by decide +kernel⟩, List.mem_of_getElem? (i := 1275) (by decide +kernel), List.mem_of_getElem? (i := 1281) (by decide +kernel), List.mem_of_getElem? (i := 1282) (by decide +kernel)⟩
theorem lw_p51 : lw_okq (⟨"LeapArchesModel", "is", "(I)Z"⟩, 39) := ⟨⟨by decide +kernel, by decide +kernel⟩, List.mem_of_getElem? (i := 1275) (by decide +kernel), List.mem_of_getElem? (i := 1423) (by decide +kernel), List.mem_of_getElem? (i := 1424) (by decide +kernel)⟩
theorem lw_p52 : lw_okq (⟨"LeapArchesModel", "wrongPlace", "(II)I"⟩, 39) := ⟨⟨by decide +kernel, by decide +kernel⟩, List.mem_of_getElem? (i := 1275) (by decide +kernel), List.mem_of_getElem? (i := 1431) (by decide +kernel), List.mem_of_getElem? (i := 1432) (by decide +kernel)⟩
theorem lw_p53 : lw_okq (⟨"LeapArchesModel", "four", "(I)V"⟩, 39) := ⟨⟨by decide +kernel, by decide +kernel⟩, List.mem_of_getElem? (i := 1275) (by decide +kernel), List.mem_of_getElem? (i := 1451) (by decide +kernel), List.mem_of_getElem? (i := 1452) (by decide +kernel)⟩
theorem lw_p54 : lw_okq (⟨"LeapArchesModel", "begins", "(II)Z"⟩, 39) := ⟨⟨by decide +kernel, by decide +kernel⟩, List.mem_of_getElem? (i := 1275) (by decide +kernel), List.mem_of_getElem? (i := 1463) (by decide +kernel), List.mem_of_getElem? (i := 1464) (by decide +kernel)⟩
theorem lw_p55 : lw_okq (⟨"LeapArchesModel", "ahead", "()V"⟩, 39) := ⟨⟨by decide +kernel, by decide +kernel⟩, List.mem_of_getElem? (i := 1275) (by decide +kernel), List.mem_of_getElem? (i := 1467) (by decide +kernel), List.mem_of_getElem? (i := 1468) (by decide +kernel)⟩
theorem lw_p56 : lw_okq (⟨"LeapArchesModel", "byteAt", "(I)I"⟩, 39) := ⟨⟨by decide +kernel, by decide +kernel⟩, List.mem_of_getElem? (i := 1275) (by decide +kernel), List.mem_of_getElem? (i := 1471) (by decide +kernel), List.mem_of_getElem? (i := 1472) (by decide +kernel)⟩
theorem lw_p57 : lw_okq (⟨"LeapArchesModel", "refuse", "(I)I"⟩, 39) := ⟨⟨by decide +kernel, by decide +kernel⟩, List.mem_of_getElem? (i := 1275) (by decide +kernel), List.mem_of_getElem? (i := 1483) (by decide +kernel), List.mem_of_getElem? (i := 1484) (by decide +kernel)⟩
theorem lw_p58 : lw_okq (⟨"LeapArchesModel", "viaductPart", "()Z"⟩, 39) := ⟨⟨by decide +kernel, by decide +kernel⟩, List.mem_of_getElem? (i := 1275) (by decide +kernel), List.mem_of_getElem? (i := 1487) (by decide +kernel), List.mem_of_getElem? (i := 1488) (by decide +kernel)⟩
theorem lw_p59 : lw_okq (⟨"LeapArchesModel", "inWords", "(Ljava/lang/String;)I"⟩, 39) := ⟨⟨by decide +kernel, by decide +kernel⟩, List.mem_of_getElem? (i := 1275) (by decide +kernel), List.mem_of_getElem? (i := 1492) (by decide +kernel), List.mem_of_getElem? (i := 1493) (by decide +kernel)⟩
theorem lw_p60 : lw_okq (⟨"LeapArchesModel", "fails", "(I)Z"⟩, 39) := ⟨⟨by decide +kernel, by decide +kernel⟩, List.mem_of_getElem? (i := 1275) (by decide +kernel), List.mem_of_getElem? (i := 1498) (by decide +kernel), List.mem_of_getElem? (i := 1499) (by decide +kernel)⟩
theorem lw_p61 : lw_okq (⟨"LeapArchesModel", "number", "(III)Z"⟩, 39) := ⟨⟨by decide +kernel, by decide +kernel⟩, List.mem_of_getElem? (i := 1275) (by decide +kernel), List.mem_of_getElem? (i := 1502) (by decide +kernel), List.mem_of_getElem? (i := 1503) (by decide +kernel)⟩
theorem lw_p62 : lw_okq (⟨"LeapArchesModel", "anArch", "()Z"⟩, 39) := ⟨⟨by decide +kernel, by decide +kernel⟩, List.mem_of_getElem? (i := 1275) (by decide +kernel), List.mem_of_getElem? (i := 1506) (by decide +kernel), List.mem_of_getElem? (i := 1507) (by decide +kernel)⟩
theorem lw_p63 : lw_okq (⟨"LeapArchesModel", "isFull", "(II)Z"⟩, 39) := ⟨⟨by decide +kernel, by decide +kernel⟩, List.mem_of_getElem? (i := 1275) (by decide +kernel), List.mem_of_getElem? (i := 1510) (by decide +kernel), List.mem_of_getElem? (i := 1511) (by decide +kernel)⟩
def lw_privs_4 : List (MethodName × Nat) := [(⟨"LeapArches$Life", "holdsTest", "(I)Z"⟩, 7), (⟨"LeapArches$Life", "compare", "(II)Z"⟩, 7), (⟨"LeapArchesModel", "plain", "(I)V"⟩, 39), (⟨"LeapArchesModel", "is", "(I)Z"⟩, 39), (⟨"LeapArchesModel", "wrongPlace", "(II)I"⟩, 39), (⟨"LeapArchesModel", "four", "(I)V"⟩, 39), (⟨"LeapArchesModel", "begins", "(II)Z"⟩, 39), (⟨"LeapArchesModel", "ahead", "()V"⟩, 39), (⟨"LeapArchesModel", "byteAt", "(I)I"⟩, 39), (⟨"LeapArchesModel", "refuse", "(I)I"⟩, 39), (⟨"LeapArchesModel", "viaductPart", "()Z"⟩, 39), (⟨"LeapArchesModel", "inWords", "(Ljava/lang/String;)I"⟩, 39), (⟨"LeapArchesModel", "fails", "(I)Z"⟩, 39), (⟨"LeapArchesModel", "number", "(III)Z"⟩, 39), (⟨"LeapArchesModel", "anArch", "()Z"⟩, 39), (⟨"LeapArchesModel", "isFull", "(II)Z"⟩, 39)]
theorem lw_r4 : ∀ q ∈ lw_privs_4, lw_okq q := List.forall_mem_cons.mpr ⟨lw_p48, List.forall_mem_cons.mpr ⟨lw_p49, List.forall_mem_cons.mpr ⟨lw_p50, List.forall_mem_cons.mpr ⟨lw_p51, List.forall_mem_cons.mpr ⟨lw_p52, List.forall_mem_cons.mpr ⟨lw_p53, List.forall_mem_cons.mpr ⟨lw_p54, List.forall_mem_cons.mpr ⟨lw_p55, List.forall_mem_cons.mpr ⟨lw_p56, List.forall_mem_cons.mpr ⟨lw_p57, List.forall_mem_cons.mpr ⟨lw_p58, List.forall_mem_cons.mpr ⟨lw_p59, List.forall_mem_cons.mpr ⟨lw_p60, List.forall_mem_cons.mpr ⟨lw_p61, List.forall_mem_cons.mpr ⟨lw_p62, List.forall_mem_cons.mpr ⟨lw_p63, fun _ h => absurd h List.not_mem_nil⟩⟩⟩⟩⟩⟩⟩⟩⟩⟩⟩⟩⟩⟩⟩⟩
theorem lw_p64 : lw_okq (⟨"LeapArchesModel", "wantWord", "(Ljava/lang/String;I)Z"⟩, 39) := ⟨⟨by decide +kernel, by decide +kernel⟩, List.mem_of_getElem? (i := 1275) (by decide +kernel), List.mem_of_getElem? (i := 1517) (by decide +kernel), List.mem_of_getElem? (i := 1518) (by decide +kernel)⟩
theorem lw_p65 : lw_okq (⟨"LeapArchesModel", "perhaps", "(IIIII)Z"⟩, 39) := ⟨⟨by decide +kernel, by decide +kernel⟩, List.mem_of_getElem? (i := 1275) (by decide +kernel), List.mem_of_getElem? (i := 1521) (by decide +kernel), List.mem_of_getElem? (i := 1522) (by decide +kernel)⟩
theorem lw_p66 : lw_okq (⟨"LeapArchesModel", "isThere", "(I)Z"⟩, 39) := ⟨⟨by decide +kernel, by decide +kernel⟩, List.mem_of_getElem? (i := 1275) (by decide +kernel), List.mem_of_getElem? (i := 1525) (by decide +kernel), List.mem_of_getElem? (i := 1526) (by decide +kernel)⟩
theorem lw_p67 : lw_okq (⟨"LeapArchesModel", "aPerson", "()Z"⟩, 39) := ⟨⟨by decide +kernel, by decide +kernel⟩, List.mem_of_getElem? (i := 1275) (by decide +kernel), List.mem_of_getElem? (i := 1529) (by decide +kernel), List.mem_of_getElem? (i := 1530) (by decide +kernel)⟩
theorem lw_p68 : lw_okq (⟨"LeapArchesModel", "isName", "(Ljava/lang/String;)Z"⟩, 39) := ⟨⟨by decide +kernel, by decide +kernel⟩, List.mem_of_getElem? (i := 1275) (by decide +kernel), List.mem_of_getElem? (i := 1536) (by decide +kernel), List.mem_of_getElem? (i := 1537) (by decide +kernel)⟩
theorem lw_p69 : lw_okq (⟨"LeapArchesModel", "findHere", "(II)I"⟩, 39) := ⟨⟨by decide +kernel, by decide +kernel⟩, List.mem_of_getElem? (i := 1275) (by decide +kernel), List.mem_of_getElem? (i := 1540) (by decide +kernel), List.mem_of_getElem? (i := 1541) (by decide +kernel)⟩
theorem lw_p70 : lw_okq (⟨"LeapArchesModel", "nameHere", "()J"⟩, 39) := ⟨⟨by decide +kernel, by decide +kernel⟩, List.mem_of_getElem? (i := 1275) (by decide +kernel), List.mem_of_getElem? (i := 1544) (by decide +kernel), List.mem_of_getElem? (i := 1545) (by decide +kernel)⟩
theorem lw_p71 : lw_okq (⟨"LeapArchesModel", "aPlant", "()Z"⟩, 39) := ⟨⟨by decide +kernel, by decide +kernel⟩, List.mem_of_getElem? (i := 1275) (by decide +kernel), List.mem_of_getElem? (i := 1548) (by decide +kernel), List.mem_of_getElem? (i := 1549) (by decide +kernel)⟩
theorem lw_p72 : lw_okq (⟨"LeapArchesModel", "wantSign", "(I)Z"⟩, 39) := ⟨⟨by decide +kernel, by decide +kernel⟩, List.mem_of_getElem? (i := 1275) (by decide +kernel), List.mem_of_getElem? (i := 1555) (by decide +kernel), List.mem_of_getElem? (i := 1556) (by decide +kernel)⟩
theorem lw_p73 : lw_okq (⟨"LeapArchesModel", "isSign", "(I)Z"⟩, 39) := ⟨⟨by decide +kernel, by decide +kernel⟩, List.mem_of_getElem? (i := 1275) (by decide +kernel), List.mem_of_getElem? (i := 1559) (by decide +kernel), List.mem_of_getElem? (i := 1560) (by decide +kernel)⟩
theorem lw_p74 : lw_okq (⟨"LeapArchesModel", "taken", "(I)I"⟩, 39) := ⟨⟨by decide +kernel, by decide +kernel⟩, List.mem_of_getElem? (i := 1275) (by decide +kernel), List.mem_of_getElem? (i := 1563) (by decide +kernel), List.mem_of_getElem? (i := 1564) (by decide +kernel)⟩
theorem lw_p75 : lw_okq (⟨"LeapArchesModel", "gives", "(I)I"⟩, 39) := ⟨⟨by decide +kernel, by decide +kernel⟩, List.mem_of_getElem? (i := 1275) (by decide +kernel), List.mem_of_getElem? (i := 1567) (by decide +kernel), List.mem_of_getElem? (i := 1568) (by decide +kernel)⟩
theorem lw_p76 : lw_okq (⟨"LeapArchesModel", "decadeStep", "()Z"⟩, 39) := ⟨⟨by decide +kernel, by decide +kernel⟩, List.mem_of_getElem? (i := 1275) (by decide +kernel), List.mem_of_getElem? (i := 1575) (by decide +kernel), List.mem_of_getElem? (i := 1576) (by decide +kernel)⟩
theorem lw_p77 : lw_okq (⟨"LeapArchesModel", "decadeOrder", "(II)Z"⟩, 39) := ⟨⟨by decide +kernel, by decide +kernel⟩, List.mem_of_getElem? (i := 1275) (by decide +kernel), List.mem_of_getElem? (i := 1579) (by decide +kernel), List.mem_of_getElem? (i := 1580) (by decide +kernel)⟩
theorem lw_p78 : lw_okq (⟨"LeapArchesModel", "personTo", "(I)Z"⟩, 39) := ⟨⟨by decide +kernel, by decide +kernel⟩, List.mem_of_getElem? (i := 1275) (by decide +kernel), List.mem_of_getElem? (i := 1583) (by decide +kernel), List.mem_of_getElem? (i := 1584) (by decide +kernel)⟩
theorem lw_p79 : lw_okq (⟨"LeapArchesModel", "archTo", "(I)Z"⟩, 39) := ⟨⟨by decide +kernel, by decide +kernel⟩, List.mem_of_getElem? (i := 1275) (by decide +kernel), List.mem_of_getElem? (i := 1587) (by decide +kernel), List.mem_of_getElem? (i := 1588) (by decide +kernel)⟩
def lw_privs_5 : List (MethodName × Nat) := [(⟨"LeapArchesModel", "wantWord", "(Ljava/lang/String;I)Z"⟩, 39), (⟨"LeapArchesModel", "perhaps", "(IIIII)Z"⟩, 39), (⟨"LeapArchesModel", "isThere", "(I)Z"⟩, 39), (⟨"LeapArchesModel", "aPerson", "()Z"⟩, 39), (⟨"LeapArchesModel", "isName", "(Ljava/lang/String;)Z"⟩, 39), (⟨"LeapArchesModel", "findHere", "(II)I"⟩, 39), (⟨"LeapArchesModel", "nameHere", "()J"⟩, 39), (⟨"LeapArchesModel", "aPlant", "()Z"⟩, 39), (⟨"LeapArchesModel", "wantSign", "(I)Z"⟩, 39), (⟨"LeapArchesModel", "isSign", "(I)Z"⟩, 39), (⟨"LeapArchesModel", "taken", "(I)I"⟩, 39), (⟨"LeapArchesModel", "gives", "(I)I"⟩, 39), (⟨"LeapArchesModel", "decadeStep", "()Z"⟩, 39), (⟨"LeapArchesModel", "decadeOrder", "(II)Z"⟩, 39), (⟨"LeapArchesModel", "personTo", "(I)Z"⟩, 39), (⟨"LeapArchesModel", "archTo", "(I)Z"⟩, 39)]
theorem lw_r5 : ∀ q ∈ lw_privs_5, lw_okq q := List.forall_mem_cons.mpr ⟨lw_p64, List.forall_mem_cons.mpr ⟨lw_p65, List.forall_mem_cons.mpr ⟨lw_p66, List.forall_mem_cons.mpr ⟨lw_p67, List.forall_mem_cons.mpr ⟨lw_p68, List.forall_mem_cons.mpr ⟨lw_p69, List.forall_mem_cons.mpr ⟨lw_p70, List.forall_mem_cons.mpr ⟨lw_p71, List.forall_mem_cons.mpr ⟨lw_p72, List.forall_mem_cons.mpr ⟨lw_p73, List.forall_mem_cons.mpr ⟨lw_p74, List.forall_mem_cons.mpr ⟨lw_p75, List.forall_mem_cons.mpr ⟨lw_p76, List.forall_mem_cons.mpr ⟨lw_p77, List.forall_mem_cons.mpr ⟨lw_p78, List.forall_mem_cons.mpr ⟨lw_p79, fun _ h => absurd h List.not_mem_nil⟩⟩⟩⟩⟩⟩⟩⟩⟩⟩⟩⟩⟩⟩⟩⟩
theorem lw_p80 : lw_okq (⟨"LeapArchesModel", "test", "(I)Z"⟩, 39) := ⟨⟨by decide +kernel, by decide +kernel⟩, List.mem_of_getElem? (i := 1275) (by decide +kernel), List.mem_of_getElem? (i := 1591) (by decide +kernel), List.mem_of_getElem? (i := 1592) (by decide +kernel)⟩
theorem lw_p81 : lw_okq (⟨"LeapArchesModel", "areOver", "()I"⟩, 39) := ⟨⟨by decide +kernel, by decide +kernel⟩, List.mem_of_getElem? (i := 1275) (by decide +kernel), List.mem_of_getElem? (i := 1599) (by decide +kernel), List.mem_of_getElem? (i := 1600) (by decide +kernel)⟩
theorem lw_p82 : lw_okq (⟨"LeapArchesModel", "isOver", "(I)Z"⟩, 39) := ⟨⟨by decide +kernel, by decide +kernel⟩, List.mem_of_getElem? (i := 1275) (by decide +kernel), List.mem_of_getElem? (i := 1603) (by decide +kernel), List.mem_of_getElem? (i := 1604) (by decide +kernel)⟩
theorem lw_p83 : lw_okq (⟨"LeapArchesModel", "personOf", "(II)I"⟩, 39) := ⟨⟨by decide +kernel, by decide +kernel⟩, List.mem_of_getElem? (i := 1275) (by decide +kernel), List.mem_of_getElem? (i := 1607) (by decide +kernel), List.mem_of_getElem? (i := 1608) (by decide +kernel)⟩
theorem lw_p84 : lw_okq (⟨"LeapArchesModel", "together", "(I)I"⟩, 39) := ⟨⟨by decide +kernel, by decide +kernel⟩, List.mem_of_getElem? (i := 1275) (by decide +kernel), List.mem_of_getElem? (i := 1611) (by decide +kernel), List.mem_of_getElem? (i := 1612) (by decide +kernel)⟩
theorem lw_p85 : lw_okq (⟨"LeapArchesModel", "isArch", "(I)Z"⟩, 39) := ⟨⟨by decide +kernel, by decide +kernel⟩, List.mem_of_getElem? (i := 1275) (by decide +kernel), List.mem_of_getElem? (i := 1619) (by decide +kernel), List.mem_of_getElem? (i := 1620) (by decide +kernel)⟩
theorem lw_p86 : lw_okq (⟨"LeapArchesModel", "borneBy", "(I)I"⟩, 39) := ⟨⟨by decide +kernel, by decide +kernel⟩, List.mem_of_getElem? (i := 1275) (by decide +kernel), List.mem_of_getElem? (i := 1623) (by decide +kernel), List.mem_of_getElem? (i := 1624) (by decide +kernel)⟩
theorem lw_p87 : lw_okq (⟨"LeapArchesModel", "bears", "(III)Z"⟩, 39) := ⟨⟨by decide +kernel, by decide +kernel⟩, List.mem_of_getElem? (i := 1275) (by decide +kernel), List.mem_of_getElem? (i := 1627) (by decide +kernel), List.mem_of_getElem? (i := 1628) (by decide +kernel)⟩
theorem lw_p88 : lw_okq (⟨"LeapArchesModel", "strainBy", "(II)I"⟩, 39) := ⟨⟨by decide +kernel, by decide +kernel⟩, List.mem_of_getElem? (i := 1275) (by decide +kernel), List.mem_of_getElem? (i := 1631) (by decide +kernel), List.mem_of_getElem? (i := 1632) (by decide +kernel)⟩
theorem lw_p89 : lw_okq (⟨"LeapArchesModel", "dimOf", "(I)I"⟩, 39) := ⟨⟨by decide +kernel, by decide +kernel⟩, List.mem_of_getElem? (i := 1275) (by decide +kernel), List.mem_of_getElem? (i := 1635) (by decide +kernel), List.mem_of_getElem? (i := 1636) (by decide +kernel)⟩
theorem lw_p90 : lw_okq (⟨"LeapArchesModel", "archOf", "(II)I"⟩, 39) := ⟨⟨by decide +kernel, by decide +kernel⟩, List.mem_of_getElem? (i := 1275) (by decide +kernel), List.mem_of_getElem? (i := 1639) (by decide +kernel), List.mem_of_getElem? (i := 1640) (by decide +kernel)⟩
theorem lw_p91 : lw_okq (⟨"LeapArchesModel", "strainBoth", "(III)I"⟩, 39) := ⟨⟨by decide +kernel, by decide +kernel⟩, List.mem_of_getElem? (i := 1275) (by decide +kernel), List.mem_of_getElem? (i := 1643) (by decide +kernel), List.mem_of_getElem? (i := 1644) (by decide +kernel)⟩
theorem lw_p92 : lw_okq (⟨"LeapArchesModel", "isPerson", "(I)Z"⟩, 39) := ⟨⟨by decide +kernel, by decide +kernel⟩, List.mem_of_getElem? (i := 1275) (by decide +kernel), List.mem_of_getElem? (i := 1652) (by decide +kernel), List.mem_of_getElem? (i := 1653) (by decide +kernel)⟩
theorem lw_p93 : lw_okq (⟨"LeapArchesModel", "runs", "(II)I"⟩, 39) := ⟨⟨by decide +kernel, by decide +kernel⟩, List.mem_of_getElem? (i := 1275) (by decide +kernel), List.mem_of_getElem? (i := 1664) (by decide +kernel), List.mem_of_getElem? (i := 1665) (by decide +kernel)⟩
theorem lw_p94 : lw_okq (⟨"LeapArchesModel", "paysAt", "(II)V"⟩, 39) := ⟨⟨by decide +kernel, by decide +kernel⟩, List.mem_of_getElem? (i := 1275) (by decide +kernel), List.mem_of_getElem? (i := 1668) (by decide +kernel), List.mem_of_getElem? (i := 1669) (by decide +kernel)⟩
theorem lw_p95 : lw_okq (⟨"LeapArchesModel", "goes", "(II)V"⟩, 39) := ⟨⟨by decide +kernel, by decide +kernel⟩, List.mem_of_getElem? (i := 1275) (by decide +kernel), List.mem_of_getElem? (i := 1672) (by decide +kernel), List.mem_of_getElem? (i := 1673) (by decide +kernel)⟩
def lw_privs_6 : List (MethodName × Nat) := [(⟨"LeapArchesModel", "test", "(I)Z"⟩, 39), (⟨"LeapArchesModel", "areOver", "()I"⟩, 39), (⟨"LeapArchesModel", "isOver", "(I)Z"⟩, 39), (⟨"LeapArchesModel", "personOf", "(II)I"⟩, 39), (⟨"LeapArchesModel", "together", "(I)I"⟩, 39), (⟨"LeapArchesModel", "isArch", "(I)Z"⟩, 39), (⟨"LeapArchesModel", "borneBy", "(I)I"⟩, 39), (⟨"LeapArchesModel", "bears", "(III)Z"⟩, 39), (⟨"LeapArchesModel", "strainBy", "(II)I"⟩, 39), (⟨"LeapArchesModel", "dimOf", "(I)I"⟩, 39), (⟨"LeapArchesModel", "archOf", "(II)I"⟩, 39), (⟨"LeapArchesModel", "strainBoth", "(III)I"⟩, 39), (⟨"LeapArchesModel", "isPerson", "(I)Z"⟩, 39), (⟨"LeapArchesModel", "runs", "(II)I"⟩, 39), (⟨"LeapArchesModel", "paysAt", "(II)V"⟩, 39), (⟨"LeapArchesModel", "goes", "(II)V"⟩, 39)]
theorem lw_r6 : ∀ q ∈ lw_privs_6, lw_okq q := List.forall_mem_cons.mpr ⟨lw_p80, List.forall_mem_cons.mpr ⟨lw_p81, List.forall_mem_cons.mpr ⟨lw_p82, List.forall_mem_cons.mpr ⟨lw_p83, List.forall_mem_cons.mpr ⟨lw_p84, List.forall_mem_cons.mpr ⟨lw_p85, List.forall_mem_cons.mpr ⟨lw_p86, List.forall_mem_cons.mpr ⟨lw_p87, List.forall_mem_cons.mpr ⟨lw_p88, List.forall_mem_cons.mpr ⟨lw_p89, List.forall_mem_cons.mpr ⟨lw_p90, List.forall_mem_cons.mpr ⟨lw_p91, List.forall_mem_cons.mpr ⟨lw_p92, List.forall_mem_cons.mpr ⟨lw_p93, List.forall_mem_cons.mpr ⟨lw_p94, List.forall_mem_cons.mpr ⟨lw_p95, fun _ h => absurd h List.not_mem_nil⟩⟩⟩⟩⟩⟩⟩⟩⟩⟩⟩⟩⟩⟩⟩⟩
theorem lw_p96 : lw_okq (⟨"LeapArchesModel", "mayFall", "(I)V"⟩, 39) := ⟨⟨by decide +kernel, by decide +kernel⟩, List.mem_of_getElem? (i := 1275) (by decide +kernel), List.mem_of_getElem? (i := 1676) (by decide +kernel), List.mem_of_getElem? (i := 1677) (by decide +kernel)⟩
theorem lw_p97 : lw_okq (⟨"LeapArchesModel", "canRope", "(II)Z"⟩, 39) := ⟨⟨by decide +kernel, by decide +kernel⟩, List.mem_of_getElem? (i := 1275) (by decide +kernel), List.mem_of_getElem? (i := 1684) (by decide +kernel), List.mem_of_getElem? (i := 1685) (by decide +kernel)⟩
theorem lw_p98 : lw_okq (⟨"LeapArchesModel", "jumps", "(I)Z"⟩, 39) := ⟨⟨by decide +kernel, by decide +kernel⟩, List.mem_of_getElem? (i := 1275) (by decide +kernel), List.mem_of_getElem? (i := 1692) (by decide +kernel), List.mem_of_getElem? (i := 1693) (by decide +kernel)⟩
theorem lw_p99 : lw_okq (⟨"LeapArchesModel", "homes", "(I)Z"⟩, 39) := ⟨⟨by decide +kernel, by decide +kernel⟩, List.mem_of_getElem? (i := 1275) (by decide +kernel), List.mem_of_getElem? (i := 1700) (by decide +kernel), List.mem_of_getElem? (i := 1701) (by decide +kernel)⟩
theorem lw_p100 : lw_okq (⟨"LeapArchesModel", "daysGo", "(I)V"⟩, 39) := ⟨⟨by decide +kernel, by decide +kernel⟩, List.mem_of_getElem? (i := 1275) (by decide +kernel), List.mem_of_getElem? (i := 1712) (by decide +kernel), List.mem_of_getElem? (i := 1713) (by decide +kernel)⟩
theorem lw_p101 : lw_okq (⟨"LeapArchesModel", "dayGoes", "()V"⟩, 39) := ⟨⟨by decide +kernel, by decide +kernel⟩, List.mem_of_getElem? (i := 1275) (by decide +kernel), List.mem_of_getElem? (i := 1716) (by decide +kernel), List.mem_of_getElem? (i := 1717) (by decide +kernel)⟩
theorem lw_p102 : lw_okq (⟨"LeapArchesModel", "isIn", "(II)Z"⟩, 39) := ⟨⟨by decide +kernel, by decide +kernel⟩, List.mem_of_getElem? (i := 1275) (by decide +kernel), List.mem_of_getElem? (i := 1720) (by decide +kernel), List.mem_of_getElem? (i := 1721) (by decide +kernel)⟩
theorem lw_p103 : lw_okq (⟨"LeapArchesModel", "reachOf", "(II)I"⟩, 39) := ⟨⟨by decide +kernel, by decide +kernel⟩, List.mem_of_getElem? (i := 1275) (by decide +kernel), List.mem_of_getElem? (i := 1762) (by decide +kernel), List.mem_of_getElem? (i := 1763) (by decide +kernel)⟩
theorem lw_p104 : lw_okq (⟨"LeapArchesModel", "keeps", "(I)V"⟩, 39) := ⟨⟨by decide +kernel, by decide +kernel⟩, List.mem_of_getElem? (i := 1275) (by decide +kernel), List.mem_of_getElem? (i := 1766) (by decide +kernel), List.mem_of_getElem? (i := 1767) (by decide +kernel)⟩
theorem lw_p105 : lw_okq (⟨"LeapArchesModel", "restores", "(I)V"⟩, 39) := ⟨⟨by decide +kernel, by decide +kernel⟩, List.mem_of_getElem? (i := 1275) (by decide +kernel), List.mem_of_getElem? (i := 1770) (by decide +kernel), List.mem_of_getElem? (i := 1771) (by decide +kernel)⟩
theorem lw_p106 : lw_okq (⟨"LeapArchesModel", "stopOf", "(III)I"⟩, 39) := ⟨⟨by decide +kernel, by decide +kernel⟩, List.mem_of_getElem? (i := 1275) (by decide +kernel), List.mem_of_getElem? (i := 1782) (by decide +kernel), List.mem_of_getElem? (i := 1783) (by decide +kernel)⟩
theorem lw_p107 : lw_okq (⟨"LeapArchesModel", "orNone", "(I)I"⟩, 39) := ⟨⟨by decide +kernel, by decide +kernel⟩, List.mem_of_getElem? (i := 1275) (by decide +kernel), List.mem_of_getElem? (i := 1786) (by decide +kernel), List.mem_of_getElem? (i := 1787) (by decide +kernel)⟩
theorem lw_p108 : lw_okq (⟨"LeapArchesModel", "spanOf", "(I)I"⟩, 39) := ⟨⟨by decide +kernel, by decide +kernel⟩, List.mem_of_getElem? (i := 1275) (by decide +kernel), List.mem_of_getElem? (i := 1802) (by decide +kernel), List.mem_of_getElem? (i := 1803) (by decide +kernel)⟩
theorem lw_p109 : lw_okq (⟨"LeapArchesModel", "laysGroups", "()V"⟩, 39) := ⟨⟨by decide +kernel, by decide +kernel⟩, List.mem_of_getElem? (i := 1275) (by decide +kernel), List.mem_of_getElem? (i := 1825) (by decide +kernel), List.mem_of_getElem? (i := 1826) (by decide +kernel)⟩
theorem lw_p110 : lw_okq (⟨"LeapArchesModel", "everybody", "()I"⟩, 39) := ⟨⟨by decide +kernel, by decide +kernel⟩, List.mem_of_getElem? (i := 1275) (by decide +kernel), List.mem_of_getElem? (i := 1829) (by decide +kernel), List.mem_of_getElem? (i := 1830) (by decide +kernel)⟩
theorem lw_p111 : lw_okq (⟨"LeapArchesModel", "laysSet", "(I)V"⟩, 39) := ⟨⟨by decide +kernel, by decide +kernel⟩, List.mem_of_getElem? (i := 1275) (by decide +kernel), List.mem_of_getElem? (i := 1833) (by decide +kernel), List.mem_of_getElem? (i := 1834) (by decide +kernel)⟩
def lw_privs_7 : List (MethodName × Nat) := [(⟨"LeapArchesModel", "mayFall", "(I)V"⟩, 39), (⟨"LeapArchesModel", "canRope", "(II)Z"⟩, 39), (⟨"LeapArchesModel", "jumps", "(I)Z"⟩, 39), (⟨"LeapArchesModel", "homes", "(I)Z"⟩, 39), (⟨"LeapArchesModel", "daysGo", "(I)V"⟩, 39), (⟨"LeapArchesModel", "dayGoes", "()V"⟩, 39), (⟨"LeapArchesModel", "isIn", "(II)Z"⟩, 39), (⟨"LeapArchesModel", "reachOf", "(II)I"⟩, 39), (⟨"LeapArchesModel", "keeps", "(I)V"⟩, 39), (⟨"LeapArchesModel", "restores", "(I)V"⟩, 39), (⟨"LeapArchesModel", "stopOf", "(III)I"⟩, 39), (⟨"LeapArchesModel", "orNone", "(I)I"⟩, 39), (⟨"LeapArchesModel", "spanOf", "(I)I"⟩, 39), (⟨"LeapArchesModel", "laysGroups", "()V"⟩, 39), (⟨"LeapArchesModel", "everybody", "()I"⟩, 39), (⟨"LeapArchesModel", "laysSet", "(I)V"⟩, 39)]
theorem lw_r7 : ∀ q ∈ lw_privs_7, lw_okq q := List.forall_mem_cons.mpr ⟨lw_p96, List.forall_mem_cons.mpr ⟨lw_p97, List.forall_mem_cons.mpr ⟨lw_p98, List.forall_mem_cons.mpr ⟨lw_p99, List.forall_mem_cons.mpr ⟨lw_p100, List.forall_mem_cons.mpr ⟨lw_p101, List.forall_mem_cons.mpr ⟨lw_p102, List.forall_mem_cons.mpr ⟨lw_p103, List.forall_mem_cons.mpr ⟨lw_p104, List.forall_mem_cons.mpr ⟨lw_p105, List.forall_mem_cons.mpr ⟨lw_p106, List.forall_mem_cons.mpr ⟨lw_p107, List.forall_mem_cons.mpr ⟨lw_p108, List.forall_mem_cons.mpr ⟨lw_p109, List.forall_mem_cons.mpr ⟨lw_p110, List.forall_mem_cons.mpr ⟨lw_p111, fun _ h => absurd h List.not_mem_nil⟩⟩⟩⟩⟩⟩⟩⟩⟩⟩⟩⟩⟩⟩⟩⟩
theorem lw_p112 : lw_okq (⟨"LeapArchesModel", "isWell", "(II)Z"⟩, 39) := ⟨⟨by decide +kernel, by decide +kernel⟩, List.mem_of_getElem? (i := 1275) (by decide +kernel), List.mem_of_getElem? (i := 1841) (by decide +kernel), List.mem_of_getElem? (i := 1842) (by decide +kernel)⟩
theorem lw_p113 : lw_okq (⟨"LeapArchesModel", "arePeople", "(J)Z"⟩, 39) := ⟨⟨by decide +kernel, by decide +kernel⟩, List.mem_of_getElem? (i := 1275) (by decide +kernel), List.mem_of_getElem? (i := 1849) (by decide +kernel), List.mem_of_getElem? (i := 1850) (by decide +kernel)⟩
theorem lw_p114 : lw_okq (⟨"LeapArchesModel", "allTolls", "()I"⟩, 39) := ⟨⟨by decide +kernel, by decide +kernel⟩, List.mem_of_getElem? (i := 1275) (by decide +kernel), List.mem_of_getElem? (i := 1853) (by decide +kernel), List.mem_of_getElem? (i := 1854) (by decide +kernel)⟩
theorem lw_p115 : lw_okq (⟨"LeapArchesModel", "mateOf", "(I)I"⟩, 39) := ⟨⟨by decide +kernel, by decide +kernel⟩, List.mem_of_getElem? (i := 1275) (by decide +kernel), List.mem_of_getElem? (i := 1861) (by decide +kernel), List.mem_of_getElem? (i := 1862) (by decide +kernel)⟩
theorem lw_p116 : lw_okq (⟨"LeapArchesModel", "allJumps", "(I)I"⟩, 39) := ⟨⟨by decide +kernel, by decide +kernel⟩, List.mem_of_getElem? (i := 1275) (by decide +kernel), List.mem_of_getElem? (i := 1869) (by decide +kernel), List.mem_of_getElem? (i := 1870) (by decide +kernel)⟩
theorem lw_p117 : lw_okq (⟨"LeapArchesModel", "jumpsFor", "(II)I"⟩, 39) := ⟨⟨by decide +kernel, by decide +kernel⟩, List.mem_of_getElem? (i := 1275) (by decide +kernel), List.mem_of_getElem? (i := 1873) (by decide +kernel), List.mem_of_getElem? (i := 1874) (by decide +kernel)⟩
theorem lw_p118 : lw_okq (⟨"LeapArchesModel", "wrongSeen", "(III)I"⟩, 39) := ⟨⟨by decide +kernel, by decide +kernel⟩, List.mem_of_getElem? (i := 1275) (by decide +kernel), List.mem_of_getElem? (i := 1885) (by decide +kernel), List.mem_of_getElem? (i := 1886) (by decide +kernel)⟩
theorem lw_p119 : lw_okq (⟨"LeapArchesModel", "laysFits", "(III)I"⟩, 39) := ⟨⟨by decide +kernel, by decide +kernel⟩, List.mem_of_getElem? (i := 1275) (by decide +kernel), List.mem_of_getElem? (i := 1890) (by decide +kernel), List.mem_of_getElem? (i := 1891) (by decide +kernel)⟩
theorem lw_p120 : lw_okq (⟨"LeapArchesModel", "mostAlike", "(I)I"⟩, 39) := ⟨⟨by decide +kernel, by decide +kernel⟩, List.mem_of_getElem? (i := 1275) (by decide +kernel), List.mem_of_getElem? (i := 1902) (by decide +kernel), List.mem_of_getElem? (i := 1903) (by decide +kernel)⟩
theorem lw_p121 : lw_okq (⟨"LeapArchesModel", "areTwo", "(II)Z"⟩, 39) := ⟨⟨by decide +kernel, by decide +kernel⟩, List.mem_of_getElem? (i := 1275) (by decide +kernel), List.mem_of_getElem? (i := 1910) (by decide +kernel), List.mem_of_getElem? (i := 1911) (by decide +kernel)⟩
theorem lw_p122 : lw_okq (⟨"LeapArchesModel", "playing", "(III)I"⟩, 39) := ⟨⟨by decide +kernel, by decide +kernel⟩, List.mem_of_getElem? (i := 1275) (by decide +kernel), List.mem_of_getElem? (i := 1915) (by decide +kernel), List.mem_of_getElem? (i := 1916) (by decide +kernel)⟩
theorem lw_p123 : lw_okq (⟨"LeapArchesModel", "standing", "(II)I"⟩, 39) := ⟨⟨by decide +kernel, by decide +kernel⟩, List.mem_of_getElem? (i := 1275) (by decide +kernel), List.mem_of_getElem? (i := 1919) (by decide +kernel), List.mem_of_getElem? (i := 1920) (by decide +kernel)⟩
theorem lw_p124 : lw_okq (⟨"LeapArchesModel", "settles", "(II)V"⟩, 39) := ⟨⟨by decide +kernel, by decide +kernel⟩, List.mem_of_getElem? (i := 1275) (by decide +kernel), List.mem_of_getElem? (i := 1926) (by decide +kernel), List.mem_of_getElem? (i := 1927) (by decide +kernel)⟩
theorem lw_p125 : lw_okq (⟨"LeapArchesModel", "doesDeed", "(II)Z"⟩, 39) := ⟨⟨by decide +kernel, by decide +kernel⟩, List.mem_of_getElem? (i := 1275) (by decide +kernel), List.mem_of_getElem? (i := 1930) (by decide +kernel), List.mem_of_getElem? (i := 1931) (by decide +kernel)⟩
theorem lw_p126 : lw_okq (⟨"LeapArchesModel", "gardenOf", "(I)I"⟩, 39) := ⟨⟨by decide +kernel, by decide +kernel⟩, List.mem_of_getElem? (i := 1275) (by decide +kernel), List.mem_of_getElem? (i := 1942) (by decide +kernel), List.mem_of_getElem? (i := 1943) (by decide +kernel)⟩
theorem lw_p127 : lw_okq (⟨"LeapArchesModel", "plantsOf", "(II)I"⟩, 39) := ⟨⟨by decide +kernel, by decide +kernel⟩, List.mem_of_getElem? (i := 1275) (by decide +kernel), List.mem_of_getElem? (i := 1946) (by decide +kernel), List.mem_of_getElem? (i := 1947) (by decide +kernel)⟩
def lw_privs_8 : List (MethodName × Nat) := [(⟨"LeapArchesModel", "isWell", "(II)Z"⟩, 39), (⟨"LeapArchesModel", "arePeople", "(J)Z"⟩, 39), (⟨"LeapArchesModel", "allTolls", "()I"⟩, 39), (⟨"LeapArchesModel", "mateOf", "(I)I"⟩, 39), (⟨"LeapArchesModel", "allJumps", "(I)I"⟩, 39), (⟨"LeapArchesModel", "jumpsFor", "(II)I"⟩, 39), (⟨"LeapArchesModel", "wrongSeen", "(III)I"⟩, 39), (⟨"LeapArchesModel", "laysFits", "(III)I"⟩, 39), (⟨"LeapArchesModel", "mostAlike", "(I)I"⟩, 39), (⟨"LeapArchesModel", "areTwo", "(II)Z"⟩, 39), (⟨"LeapArchesModel", "playing", "(III)I"⟩, 39), (⟨"LeapArchesModel", "standing", "(II)I"⟩, 39), (⟨"LeapArchesModel", "settles", "(II)V"⟩, 39), (⟨"LeapArchesModel", "doesDeed", "(II)Z"⟩, 39), (⟨"LeapArchesModel", "gardenOf", "(I)I"⟩, 39), (⟨"LeapArchesModel", "plantsOf", "(II)I"⟩, 39)]
theorem lw_r8 : ∀ q ∈ lw_privs_8, lw_okq q := List.forall_mem_cons.mpr ⟨lw_p112, List.forall_mem_cons.mpr ⟨lw_p113, List.forall_mem_cons.mpr ⟨lw_p114, List.forall_mem_cons.mpr ⟨lw_p115, List.forall_mem_cons.mpr ⟨lw_p116, List.forall_mem_cons.mpr ⟨lw_p117, List.forall_mem_cons.mpr ⟨lw_p118, List.forall_mem_cons.mpr ⟨lw_p119, List.forall_mem_cons.mpr ⟨lw_p120, List.forall_mem_cons.mpr ⟨lw_p121, List.forall_mem_cons.mpr ⟨lw_p122, List.forall_mem_cons.mpr ⟨lw_p123, List.forall_mem_cons.mpr ⟨lw_p124, List.forall_mem_cons.mpr ⟨lw_p125, List.forall_mem_cons.mpr ⟨lw_p126, List.forall_mem_cons.mpr ⟨lw_p127, fun _ h => absurd h List.not_mem_nil⟩⟩⟩⟩⟩⟩⟩⟩⟩⟩⟩⟩⟩⟩⟩⟩
theorem lw_p128 : lw_okq (⟨"LeapArchesModel", "ahead0", "(I)I"⟩, 39) := ⟨⟨by decide +kernel, by decide +kernel⟩, List.mem_of_getElem? (i := 1275) (by decide +kernel), List.mem_of_getElem? (i := 1958) (by decide +kernel), List.mem_of_getElem? (i := 1959) (by decide +kernel)⟩
theorem lw_p129 : lw_okq (⟨"LeapArchesModel", "tellsBy", "(JJ)Z"⟩, 39) := ⟨⟨by decide +kernel, by decide +kernel⟩, List.mem_of_getElem? (i := 1275) (by decide +kernel), List.mem_of_getElem? (i := 1962) (by decide +kernel), List.mem_of_getElem? (i := 1963) (by decide +kernel)⟩
theorem lw_p130 : lw_okq (⟨"LeapArchesModel", "tellsDry", "(I)Z"⟩, 39) := ⟨⟨by decide +kernel, by decide +kernel⟩, List.mem_of_getElem? (i := 1275) (by decide +kernel), List.mem_of_getElem? (i := 1966) (by decide +kernel), List.mem_of_getElem? (i := 1967) (by decide +kernel)⟩
theorem lw_p131 : lw_okq (⟨"LeapArchesModel", "lives", "(I)V"⟩, 39) := ⟨⟨by decide +kernel, by decide +kernel⟩, List.mem_of_getElem? (i := 1275) (by decide +kernel), List.mem_of_getElem? (i := 1983) (by decide +kernel), List.mem_of_getElem? (i := 1984) (by decide +kernel)⟩
theorem lw_p132 : lw_okq (⟨"LeapArchesModel", "does", "(I)Z"⟩, 39) := ⟨⟨by decide +kernel, by decide +kernel⟩, List.mem_of_getElem? (i := 1275) (by decide +kernel), List.mem_of_getElem? (i := 1987) (by decide +kernel), List.mem_of_getElem? (i := 1988) (by decide +kernel)⟩
theorem lw_p133 : lw_okq (⟨"LeapArchesModel", "runsBy", "(I)Z"⟩, 39) := ⟨⟨by decide +kernel, by decide +kernel⟩, List.mem_of_getElem? (i := 1275) (by decide +kernel), List.mem_of_getElem? (i := 1991) (by decide +kernel), List.mem_of_getElem? (i := 1992) (by decide +kernel)⟩
theorem lw_p134 : lw_okq (⟨"LeapArchesModel", "ropesBy", "(II)Z"⟩, 39) := ⟨⟨by decide +kernel, by decide +kernel⟩, List.mem_of_getElem? (i := 1275) (by decide +kernel), List.mem_of_getElem? (i := 1995) (by decide +kernel), List.mem_of_getElem? (i := 1996) (by decide +kernel)⟩
theorem lw_p135 : lw_okq (⟨"LeapArchesModel", "daysBy", "(I)Z"⟩, 39) := ⟨⟨by decide +kernel, by decide +kernel⟩, List.mem_of_getElem? (i := 1275) (by decide +kernel), List.mem_of_getElem? (i := 1999) (by decide +kernel), List.mem_of_getElem? (i := 2000) (by decide +kernel)⟩
theorem lw_p136 : lw_okq (⟨"LeapArchesModel", "fogsTo", "(I)Z"⟩, 39) := ⟨⟨by decide +kernel, by decide +kernel⟩, List.mem_of_getElem? (i := 1275) (by decide +kernel), List.mem_of_getElem? (i := 2003) (by decide +kernel), List.mem_of_getElem? (i := 2004) (by decide +kernel)⟩
theorem lw_p137 : lw_okq (⟨"LeapArchesModel", "doesAny", "()Z"⟩, 39) := ⟨⟨by decide +kernel, by decide +kernel⟩, List.mem_of_getElem? (i := 1275) (by decide +kernel), List.mem_of_getElem? (i := 2007) (by decide +kernel), List.mem_of_getElem? (i := 2008) (by decide +kernel)⟩
theorem lw_p138 : lw_okq (⟨"LeapArchesModel", "draw", "(I)I"⟩, 39) := ⟨⟨by decide +kernel, by decide +kernel⟩, List.mem_of_getElem? (i := 1275) (by decide +kernel), List.mem_of_getElem? (i := 2011) (by decide +kernel), List.mem_of_getElem? (i := 2012) (by decide +kernel)⟩
theorem lw_p139 : lw_okq (⟨"LeapArchesModel", "holds", "(I)Z"⟩, 39) := ⟨⟨by decide +kernel, by decide +kernel⟩, List.mem_of_getElem? (i := 1275) (by decide +kernel), List.mem_of_getElem? (i := 2016) (by decide +kernel), List.mem_of_getElem? (i := 2017) (by decide +kernel)⟩
theorem lw_p140 : lw_okq (⟨"LeapArchesModel", "behindEnds", "(I)I"⟩, 39) := ⟨⟨by decide +kernel, by decide +kernel⟩, List.mem_of_getElem? (i := 1275) (by decide +kernel), List.mem_of_getElem? (i := 2020) (by decide +kernel), List.mem_of_getElem? (i := 2021) (by decide +kernel)⟩
theorem lw_p141 : lw_okq (⟨"LeapArchesModel", "copies", "(II)V"⟩, 39) := ⟨⟨by decide +kernel, by decide +kernel⟩, List.mem_of_getElem? (i := 1275) (by decide +kernel), List.mem_of_getElem? (i := 2036) (by decide +kernel), List.mem_of_getElem? (i := 2037) (by decide +kernel)⟩
def lw_privs_9 : List (MethodName × Nat) := [(⟨"LeapArchesModel", "ahead0", "(I)I"⟩, 39), (⟨"LeapArchesModel", "tellsBy", "(JJ)Z"⟩, 39), (⟨"LeapArchesModel", "tellsDry", "(I)Z"⟩, 39), (⟨"LeapArchesModel", "lives", "(I)V"⟩, 39), (⟨"LeapArchesModel", "does", "(I)Z"⟩, 39), (⟨"LeapArchesModel", "runsBy", "(I)Z"⟩, 39), (⟨"LeapArchesModel", "ropesBy", "(II)Z"⟩, 39), (⟨"LeapArchesModel", "daysBy", "(I)Z"⟩, 39), (⟨"LeapArchesModel", "fogsTo", "(I)Z"⟩, 39), (⟨"LeapArchesModel", "doesAny", "()Z"⟩, 39), (⟨"LeapArchesModel", "draw", "(I)I"⟩, 39), (⟨"LeapArchesModel", "holds", "(I)Z"⟩, 39), (⟨"LeapArchesModel", "behindEnds", "(I)I"⟩, 39), (⟨"LeapArchesModel", "copies", "(II)V"⟩, 39)]
theorem lw_r9 : ∀ q ∈ lw_privs_9, lw_okq q := List.forall_mem_cons.mpr ⟨lw_p128, List.forall_mem_cons.mpr ⟨lw_p129, List.forall_mem_cons.mpr ⟨lw_p130, List.forall_mem_cons.mpr ⟨lw_p131, List.forall_mem_cons.mpr ⟨lw_p132, List.forall_mem_cons.mpr ⟨lw_p133, List.forall_mem_cons.mpr ⟨lw_p134, List.forall_mem_cons.mpr ⟨lw_p135, List.forall_mem_cons.mpr ⟨lw_p136, List.forall_mem_cons.mpr ⟨lw_p137, List.forall_mem_cons.mpr ⟨lw_p138, List.forall_mem_cons.mpr ⟨lw_p139, List.forall_mem_cons.mpr ⟨lw_p140, List.forall_mem_cons.mpr ⟨lw_p141, fun _ h => absurd h List.not_mem_nil⟩⟩⟩⟩⟩⟩⟩⟩⟩⟩⟩⟩⟩⟩
def lw_privs : List (MethodName × Nat) := lw_privs_1 ++ (lw_privs_2 ++ (lw_privs_3 ++ (lw_privs_4 ++ (lw_privs_5 ++ (lw_privs_6 ++ (lw_privs_7 ++ (lw_privs_8 ++ (lw_privs_9))))))))
def lw_tbl : List Cond := k2_sels lw_privs ++ tables_1
theorem lw_privs_ok : ∀ q ∈ lw_privs, lw_okq q := by
  show ∀ q ∈ lw_privs_1 ++ (lw_privs_2 ++ (lw_privs_3 ++ (lw_privs_4 ++ (lw_privs_5 ++ (lw_privs_6 ++ (lw_privs_7 ++ (lw_privs_8 ++ (lw_privs_9)))))))), lw_okq q
  exact List.forall_mem_append.mpr ⟨lw_r1, List.forall_mem_append.mpr ⟨lw_r2, List.forall_mem_append.mpr ⟨lw_r3, List.forall_mem_append.mpr ⟨lw_r4, List.forall_mem_append.mpr ⟨lw_r5, List.forall_mem_append.mpr ⟨lw_r6, List.forall_mem_append.mpr ⟨lw_r7, List.forall_mem_append.mpr ⟨lw_r8, lw_r9⟩⟩⟩⟩⟩⟩⟩⟩
-- ===== end of PART A; then your names; then what follows =====
/-! ===== BEGIN words of one list among another's, by their places ===== -/
/-! ===== END ===== -/

/-! ===== BEGIN printed: names, fields, word lists, decode rows ===== -/
def RX0 : String := "LeapArches$Contest"
def TX0 : u_T := fun k => match k with
  | 0 => ("LeapArches$Contest", "ground", "LLeapArches$Viaduct;", false)
  | 1 => ("LeapArches$Contest", "first", "I", false)
  | 2 => ("LeapArches$Contest", "second", "I", false)
  | _ => ("LeapArches$Contest", "turns", "I", false)
def tyX0 : Nat → FieldType := fun k => match k with
  | 0 => .object "LeapArches$Viaduct"
  | 1 => .int
  | 2 => .int
  | _ => .int
abbrev wsX00 : List Cond := u_ws RX0 TX0 4
theorem nmX0 : ∀ a, a < 4 → ∀ b, b < 4 → a ≠ b → (TX0 a).2.1 ≠ (TX0 b).2.1 := by decide +kernel
theorem tyX0_ok : ∀ k, k < 4 → parseFieldDescriptor (TX0 k).2.2.1 = some (tyX0 k) := by decide +kernel
abbrev cX0_init : ByteArray := prog_2_method_1_code
def yX0_init : MethodName := ⟨RX0, "<init>", "(LLeapArches$Viaduct;)V"⟩
abbrev cX0_begin : ByteArray := prog_2_method_2_code
def yX0_begin : MethodName := ⟨RX0, "begin", "(LLeapArches$Viaduct;III)V"⟩
abbrev cX0_outcome : ByteArray := prog_2_method_3_code
def yX0_outcome : MethodName := ⟨RX0, "outcome", "()I"⟩
abbrev cX0_firstMove : ByteArray := prog_2_method_4_code
def yX0_firstMove : MethodName := ⟨RX0, "firstMove", "()I"⟩
abbrev cX0_worth : ByteArray := prog_2_method_5_code
def yX0_worth : MethodName := ⟨RX0, "worth", "(I)I"⟩
abbrev cX0_canMove : ByteArray := prog_2_method_6_code
def yX0_canMove : MethodName := ⟨RX0, "canMove", "(II)Z"⟩
abbrev cX0_worthBehind : ByteArray := prog_2_method_7_code
def yX0_worthBehind : MethodName := ⟨RX0, "worthBehind", "(III)I"⟩
def RX1 : String := "LeapArches$Groups"
def TX1 : u_T := fun k => match k with
  | 0 => ("LeapArches$Groups", "well", "[I", true)
  | 1 => ("LeapArches$Groups", "cost", "[I", true)
  | 2 => ("LeapArches$Groups", "people", "I", false)
  | _ => ("LeapArches$Groups", "tolls", "I", false)
def tyX1 : Nat → FieldType := fun k => match k with
  | 0 => .array .int
  | 1 => .array .int
  | 2 => .int
  | _ => .int
abbrev wsX10 : List Cond := u_ws RX1 TX1 4
theorem nmX1 : ∀ a, a < 4 → ∀ b, b < 4 → a ≠ b → (TX1 a).2.1 ≠ (TX1 b).2.1 := by decide +kernel
theorem tyX1_ok : ∀ k, k < 4 → parseFieldDescriptor (TX1 k).2.2.1 = some (tyX1 k) := by decide +kernel
abbrev cX1_init : ByteArray := prog_3_method_1_code
def yX1_init : MethodName := ⟨RX1, "<init>", "()V"⟩
abbrev cX1_weigh : ByteArray := prog_3_method_2_code
def yX1_weigh : MethodName := ⟨RX1, "weigh", "(LLeapArches$Viaduct;)V"⟩
abbrev cX1_wellWith : ByteArray := prog_3_method_3_code
def yX1_wellWith : MethodName := ⟨RX1, "wellWith", "(LLeapArches$Viaduct;I)I"⟩
abbrev cX1_cheapestOf : ByteArray := prog_3_method_4_code
def yX1_cheapestOf : MethodName := ⟨RX1, "cheapestOf", "(I)I"⟩
abbrev cX1_priceOfGroup : ByteArray := prog_3_method_5_code
def yX1_priceOfGroup : MethodName := ⟨RX1, "priceOfGroup", "(III)I"⟩
abbrev cX1_without : ByteArray := prog_3_method_6_code
def yX1_without : MethodName := ⟨RX1, "without", "(III)I"⟩
abbrev cX1_mostOver : ByteArray := prog_3_method_7_code
def yX1_mostOver : MethodName := ⟨RX1, "mostOver", "()I"⟩
abbrev cX1_mateOf : ByteArray := prog_3_method_8_code
def yX1_mateOf : MethodName := ⟨RX1, "mateOf", "(II)I"⟩
abbrev cX1_leastMate : ByteArray := prog_3_method_9_code
def yX1_leastMate : MethodName := ⟨RX1, "leastMate", "(II)I"⟩
def RX2 : String := "LeapArches$Life"
def TX2 : u_T := fun k => match k with
  | 0 => ("LeapArches$Life", "done", "I", false)
  | 1 => ("LeapArches$Life", "missed", "I", false)
  | 2 => ("LeapArches$Life", "left", "Z", false)
  | 3 => ("LeapArches$Life", "roundsLeft", "[I", true)
  | 4 => ("LeapArches$Life", "drawn", "I", false)
  | 5 => ("LeapArches$Life", "viaduct", "LLeapArches$Viaduct;", false)
  | _ => ("LeapArches$Life", "steps", "LLeapArches$Steps;", false)
def tyX2 : Nat → FieldType := fun k => match k with
  | 0 => .int
  | 1 => .int
  | 2 => .boolean
  | 3 => .array .int
  | 4 => .int
  | 5 => .object "LeapArches$Viaduct"
  | _ => .object "LeapArches$Steps"
abbrev wsX20 : List Cond := u_ws RX2 TX2 7
theorem nmX2 : ∀ a, a < 7 → ∀ b, b < 7 → a ≠ b → (TX2 a).2.1 ≠ (TX2 b).2.1 := by decide +kernel
theorem tyX2_ok : ∀ k, k < 7 → parseFieldDescriptor (TX2 k).2.2.1 = some (tyX2 k) := by decide +kernel
abbrev cX2_init : ByteArray := prog_4_method_1_code
def yX2_init : MethodName := ⟨RX2, "<init>", "(LLeapArches$Viaduct;LLeapArches$Steps;)V"⟩
abbrev cX2_goThrough : ByteArray := prog_4_method_2_code
def yX2_goThrough : MethodName := ⟨RX2, "goThrough", "(LLeapArches$Viaduct;LLeapArches$Steps;I)V"⟩
abbrev cX2_rowBehindEnd : ByteArray := prog_4_method_3_code
def yX2_rowBehindEnd : MethodName := ⟨RX2, "rowBehindEnd", "(I)I"⟩
abbrev cX2_rowBehindStep : ByteArray := prog_4_method_4_code
def yX2_rowBehindStep : MethodName := ⟨RX2, "rowBehindStep", "(I)I"⟩
abbrev cX2_holdsTest : ByteArray := prog_4_method_5_code
def yX2_holdsTest : MethodName := ⟨RX2, "holdsTest", "(I)Z"⟩
abbrev cX2_compare : ByteArray := prog_4_method_6_code
def yX2_compare : MethodName := ⟨RX2, "compare", "(II)Z"⟩
abbrev cX2_doStep : ByteArray := prog_4_method_7_code
def yX2_doStep : MethodName := ⟨RX2, "doStep", "(I)I"⟩
abbrev cX2_doAny : ByteArray := prog_4_method_8_code
def yX2_doAny : MethodName := ⟨RX2, "doAny", "()I"⟩
abbrev cX2_draw : ByteArray := prog_4_method_9_code
def yX2_draw : MethodName := ⟨RX2, "draw", "(I)I"⟩
def RX3 : String := "LeapArches$Steps"
def TX3 : u_T := fun k => match k with
  | 0 => ("LeapArches$Steps", "there", "Z", false)
  | 1 => ("LeapArches$Steps", "many", "I", false)
  | 2 => ("LeapArches$Steps", "rows", "I", false)
  | 3 => ("LeapArches$Steps", "word", "[I", true)
  | 4 => ("LeapArches$Steps", "first", "[I", true)
  | 5 => ("LeapArches$Steps", "second", "[I", true)
  | 6 => ("LeapArches$Steps", "test", "[I", true)
  | 7 => ("LeapArches$Steps", "compares", "[I", true)
  | _ => ("LeapArches$Steps", "partner", "[I", true)
def tyX3 : Nat → FieldType := fun k => match k with
  | 0 => .boolean
  | 1 => .int
  | 2 => .int
  | 3 => .array .int
  | 4 => .array .int
  | 5 => .array .int
  | 6 => .array .int
  | 7 => .array .int
  | _ => .array .int
abbrev wsX30 : List Cond := u_ws RX3 TX3 9
theorem nmX3 : ∀ a, a < 9 → ∀ b, b < 9 → a ≠ b → (TX3 a).2.1 ≠ (TX3 b).2.1 := by decide +kernel
theorem tyX3_ok : ∀ k, k < 9 → parseFieldDescriptor (TX3 k).2.2.1 = some (tyX3 k) := by decide +kernel
abbrev cX3_init : ByteArray := prog_5_method_1_code
def yX3_init : MethodName := ⟨RX3, "<init>", "()V"⟩
abbrev cX3_clear : ByteArray := prog_5_method_2_code
def yX3_clear : MethodName := ⟨RX3, "clear", "()V"⟩
abbrev cX3_takeOver : ByteArray := prog_5_method_3_code
def yX3_takeOver : MethodName := ⟨RX3, "takeOver", "(LLeapArches$Steps;)V"⟩
def RX4 : String := "LeapArches$StepsReader"
def TX4 : u_T := fun k => match k with
  | 0 => ("LeapArches$StepsReader", "text", "LLeapArches$Text;", true)
  | 1 => ("LeapArches$StepsReader", "open", "[I", true)
  | 2 => ("LeapArches$StepsReader", "depth", "I", false)
  | 3 => ("LeapArches$StepsReader", "steps", "LLeapArches$Steps;", false)
  | _ => ("LeapArches$StepsReader", "viaduct", "LLeapArches$Viaduct;", false)
def tyX4 : Nat → FieldType := fun k => match k with
  | 0 => .object "LeapArches$Text"
  | 1 => .array .int
  | 2 => .int
  | 3 => .object "LeapArches$Steps"
  | _ => .object "LeapArches$Viaduct"
abbrev wsX40 : List Cond := u_ws RX4 TX4 5
theorem nmX4 : ∀ a, a < 5 → ∀ b, b < 5 → a ≠ b → (TX4 a).2.1 ≠ (TX4 b).2.1 := by decide +kernel
theorem tyX4_ok : ∀ k, k < 5 → parseFieldDescriptor (TX4 k).2.2.1 = some (tyX4 k) := by decide +kernel
abbrev cX4_init : ByteArray := prog_6_method_1_code
def yX4_init : MethodName := ⟨RX4, "<init>", "(LLeapArches$Text;LLeapArches$Steps;LLeapArches$Viaduct;)V"⟩
abbrev cX4_readInto : ByteArray := prog_6_method_2_code
def yX4_readInto : MethodName := ⟨RX4, "readInto", "(LLeapArches$Steps;LLeapArches$Viaduct;)Z"⟩
abbrev cX4_takeRow : ByteArray := prog_6_method_3_code
def yX4_takeRow : MethodName := ⟨RX4, "takeRow", "()Z"⟩
abbrev cX4_beginsStep : ByteArray := prog_6_method_4_code
def yX4_beginsStep : MethodName := ⟨RX4, "beginsStep", "(I)Z"⟩
abbrev cX4_takeEnd : ByteArray := prog_6_method_5_code
def yX4_takeEnd : MethodName := ⟨RX4, "takeEnd", "()Z"⟩
abbrev cX4_takeRest : ByteArray := prog_6_method_6_code
def yX4_takeRest : MethodName := ⟨RX4, "takeRest", "(II)Z"⟩
abbrev cX4_takeTest : ByteArray := prog_6_method_7_code
def yX4_takeTest : MethodName := ⟨RX4, "takeTest", "(I)Z"⟩
abbrev cX4_takeName : ByteArray := prog_6_method_8_code
def yX4_takeName : MethodName := ⟨RX4, "takeName", "()I"⟩
abbrev cX4_keep : ByteArray := prog_6_method_9_code
def yX4_keep : MethodName := ⟨RX4, "keep", "([III)Z"⟩
def RX5 : String := "LeapArches$Text"
def TX5 : u_T := fun k => match k with
  | 0 => ("LeapArches$Text", "filled", "I", false)
  | 1 => ("LeapArches$Text", "code", "I", false)
  | 2 => ("LeapArches$Text", "value", "J", false)
  | 3 => ("LeapArches$Text", "fault", "I", false)
  | 4 => ("LeapArches$Text", "faultPlace", "I", false)
  | 5 => ("LeapArches$Text", "bytes", "[B", true)
  | 6 => ("LeapArches$Text", "length", "I", false)
  | 7 => ("LeapArches$Text", "next", "I", false)
  | 8 => ("LeapArches$Text", "codes", "[I", true)
  | 9 => ("LeapArches$Text", "places", "[I", true)
  | 10 => ("LeapArches$Text", "values", "[J", true)
  | 11 => ("LeapArches$Text", "tokens", "I", false)
  | 12 => ("LeapArches$Text", "cursor", "I", false)
  | _ => ("LeapArches$Text", "place", "I", false)
def tyX5 : Nat → FieldType := fun k => match k with
  | 0 => .int
  | 1 => .int
  | 2 => .long
  | 3 => .int
  | 4 => .int
  | 5 => .array .byte
  | 6 => .int
  | 7 => .int
  | 8 => .array .int
  | 9 => .array .int
  | 10 => .array .long
  | 11 => .int
  | 12 => .int
  | _ => .int
abbrev wsX50 : List Cond := u_ws RX5 TX5 14
theorem nmX5 : ∀ a, a < 14 → ∀ b, b < 14 → a ≠ b → (TX5 a).2.1 ≠ (TX5 b).2.1 := by decide +kernel
theorem tyX5_ok : ∀ k, k < 14 → parseFieldDescriptor (TX5 k).2.2.1 = some (tyX5 k) := by decide +kernel
abbrev cX5_init : ByteArray := prog_7_method_1_code
def yX5_init : MethodName := ⟨RX5, "<init>", "()V"⟩
abbrev cX5_hasRoomForTwenty : ByteArray := prog_7_method_2_code
def yX5_hasRoomForTwenty : MethodName := ⟨RX5, "hasRoomForTwenty", "()Z"⟩
abbrev cX5_addFour : ByteArray := prog_7_method_3_code
def yX5_addFour : MethodName := ⟨RX5, "addFour", "(I)V"⟩
abbrev cX5_open : ByteArray := prog_7_method_4_code
def yX5_open : MethodName := ⟨RX5, "open", "(I)V"⟩
abbrev cX5_gather : ByteArray := prog_7_method_5_code
def yX5_gather : MethodName := ⟨RX5, "gather", "()V"⟩
abbrev cX5_findToken : ByteArray := prog_7_method_6_code
def yX5_findToken : MethodName := ⟨RX5, "findToken", "(I)I"⟩
abbrev cX5_findWord : ByteArray := prog_7_method_7_code
def yX5_findWord : MethodName := ⟨RX5, "findWord", "(I)I"⟩
abbrev cX5_findNumber : ByteArray := prog_7_method_8_code
def yX5_findNumber : MethodName := ⟨RX5, "findNumber", "(I)I"⟩
abbrev cX5_findKeyword : ByteArray := prog_7_method_9_code
def yX5_findKeyword : MethodName := ⟨RX5, "findKeyword", "(II)I"⟩
abbrev cX5_isLetter : ByteArray := prog_7_method_10_code
def yX5_isLetter : MethodName := ⟨RX5, "isLetter", "(I)Z"⟩
abbrev cX5_isDigit : ByteArray := prog_7_method_11_code
def yX5_isDigit : MethodName := ⟨RX5, "isDigit", "(I)Z"⟩
abbrev cX5_signCode : ByteArray := prog_7_method_12_code
def yX5_signCode : MethodName := ⟨RX5, "signCode", "(I)I"⟩
abbrev cX5_advance : ByteArray := prog_7_method_13_code
def yX5_advance : MethodName := ⟨RX5, "advance", "()V"⟩
abbrev cX5_refuse : ByteArray := prog_7_method_14_code
def yX5_refuse : MethodName := ⟨RX5, "refuse", "(I)Z"⟩
abbrev cX5_take : ByteArray := prog_7_method_15_code
def yX5_take : MethodName := ⟨RX5, "take", "(I)Z"⟩
abbrev cX5_takeNumber : ByteArray := prog_7_method_16_code
def yX5_takeNumber : MethodName := ⟨RX5, "takeNumber", "(II)I"⟩
def RX6 : String := "LeapArches$Tray"
def TX6 : u_T := fun k => match k with
  | 0 => ("LeapArches$Tray", "numbers", "[J", true)
  | 1 => ("LeapArches$Tray", "sort", "I", false)
  | _ => ("LeapArches$Tray", "many", "I", false)
def tyX6 : Nat → FieldType := fun k => match k with
  | 0 => .array .long
  | 1 => .int
  | _ => .int
abbrev wsX60 : List Cond := u_ws RX6 TX6 3
theorem nmX6 : ∀ a, a < 3 → ∀ b, b < 3 → a ≠ b → (TX6 a).2.1 ≠ (TX6 b).2.1 := by decide +kernel
theorem tyX6_ok : ∀ k, k < 3 → parseFieldDescriptor (TX6 k).2.2.1 = some (tyX6 k) := by decide +kernel
abbrev cX6_init : ByteArray := prog_8_method_1_code
def yX6_init : MethodName := ⟨RX6, "<init>", "()V"⟩
abbrev cX6_isMissing : ByteArray := prog_8_method_2_code
def yX6_isMissing : MethodName := ⟨RX6, "isMissing", "()Z"⟩
abbrev cX6_hasPlace : ByteArray := prog_8_method_3_code
def yX6_hasPlace : MethodName := ⟨RX6, "hasPlace", "(I)Z"⟩
abbrev cX6_hasRow : ByteArray := prog_8_method_4_code
def yX6_hasRow : MethodName := ⟨RX6, "hasRow", "(II)Z"⟩
abbrev cX6_lay : ByteArray := prog_8_method_5_code
def yX6_lay : MethodName := ⟨RX6, "lay", "(II)V"⟩
abbrev cX6_put : ByteArray := prog_8_method_6_code
def yX6_put : MethodName := ⟨RX6, "put", "(IJ)V"⟩
abbrev cX6_cut : ByteArray := prog_8_method_7_code
def yX6_cut : MethodName := ⟨RX6, "cut", "(J)J"⟩
def RX7 : String := "LeapArches$Viaduct"
def TX7 : u_T := fun k => match k with
  | 0 => ("LeapArches$Viaduct", "arches", "I", false)
  | 1 => ("LeapArches$Viaduct", "holds", "[I", true)
  | 2 => ("LeapArches$Viaduct", "moss", "[I", true)
  | 3 => ("LeapArches$Viaduct", "toll", "[I", true)
  | 4 => ("LeapArches$Viaduct", "trod", "I", false)
  | 5 => ("LeapArches$Viaduct", "people", "I", false)
  | 6 => ("LeapArches$Viaduct", "names", "[J", true)
  | 7 => ("LeapArches$Viaduct", "weight", "[I", true)
  | 8 => ("LeapArches$Viaduct", "doubt", "[I", true)
  | 9 => ("LeapArches$Viaduct", "love", "[I", true)
  | 10 => ("LeapArches$Viaduct", "behind", "[I", true)
  | 11 => ("LeapArches$Viaduct", "paid", "[I", true)
  | 12 => ("LeapArches$Viaduct", "fell", "[I", true)
  | 13 => ("LeapArches$Viaduct", "plants", "I", false)
  | 14 => ("LeapArches$Viaduct", "size", "[I", true)
  | 15 => ("LeapArches$Viaduct", "joy", "[I", true)
  | 16 => ("LeapArches$Viaduct", "net", "I", false)
  | 17 => ("LeapArches$Viaduct", "fog", "I", false)
  | 18 => ("LeapArches$Viaduct", "odds", "I", false)
  | _ => ("LeapArches$Viaduct", "day", "I", false)
def tyX7 : Nat → FieldType := fun k => match k with
  | 0 => .int
  | 1 => .array .int
  | 2 => .array .int
  | 3 => .array .int
  | 4 => .int
  | 5 => .int
  | 6 => .array .long
  | 7 => .array .int
  | 8 => .array .int
  | 9 => .array .int
  | 10 => .array .int
  | 11 => .array .int
  | 12 => .array .int
  | 13 => .int
  | 14 => .array .int
  | 15 => .array .int
  | 16 => .int
  | 17 => .int
  | 18 => .int
  | _ => .int
abbrev wsX70 : List Cond := u_ws RX7 TX7 20
theorem nmX7 : ∀ a, a < 20 → ∀ b, b < 20 → a ≠ b → (TX7 a).2.1 ≠ (TX7 b).2.1 := by decide +kernel
theorem tyX7_ok : ∀ k, k < 20 → parseFieldDescriptor (TX7 k).2.2.1 = some (tyX7 k) := by decide +kernel
abbrev cX7_init : ByteArray := prog_9_method_1_code
def yX7_init : MethodName := ⟨RX7, "<init>", "()V"⟩
abbrev cX7_clear : ByteArray := prog_9_method_2_code
def yX7_clear : MethodName := ⟨RX7, "clear", "()V"⟩
abbrev cX7_takeOver : ByteArray := prog_9_method_3_code
def yX7_takeOver : MethodName := ⟨RX7, "takeOver", "(LLeapArches$Viaduct;)V"⟩
abbrev cX7_addArch : ByteArray := prog_9_method_4_code
def yX7_addArch : MethodName := ⟨RX7, "addArch", "(II)V"⟩
abbrev cX7_addPerson : ByteArray := prog_9_method_5_code
def yX7_addPerson : MethodName := ⟨RX7, "addPerson", "(JI)V"⟩
abbrev cX7_addPlant : ByteArray := prog_9_method_6_code
def yX7_addPlant : MethodName := ⟨RX7, "addPlant", "(II)V"⟩
abbrev cX7_hasArch : ByteArray := prog_9_method_7_code
def yX7_hasArch : MethodName := ⟨RX7, "hasArch", "(I)Z"⟩
abbrev cX7_hasPerson : ByteArray := prog_9_method_8_code
def yX7_hasPerson : MethodName := ⟨RX7, "hasPerson", "(I)Z"⟩
abbrev cX7_hasTwo : ByteArray := prog_9_method_9_code
def yX7_hasTwo : MethodName := ⟨RX7, "hasTwo", "(II)Z"⟩
abbrev cX7_personNamed : ByteArray := prog_9_method_10_code
def yX7_personNamed : MethodName := ⟨RX7, "personNamed", "(J)I"⟩
abbrev cX7_isOver : ByteArray := prog_9_method_11_code
def yX7_isOver : MethodName := ⟨RX7, "isOver", "(I)Z"⟩
abbrev cX7_peopleOver : ByteArray := prog_9_method_12_code
def yX7_peopleOver : MethodName := ⟨RX7, "peopleOver", "()I"⟩
abbrev cX7_paidByAll : ByteArray := prog_9_method_13_code
def yX7_paidByAll : MethodName := ⟨RX7, "paidByAll", "()I"⟩
abbrev cX7_fellByAll : ByteArray := prog_9_method_14_code
def yX7_fellByAll : MethodName := ⟨RX7, "fellByAll", "()I"⟩
abbrev cX7_behindAll : ByteArray := prog_9_method_15_code
def yX7_behindAll : MethodName := ⟨RX7, "behindAll", "()I"⟩
abbrev cX7_sumOfPeople : ByteArray := prog_9_method_16_code
def yX7_sumOfPeople : MethodName := ⟨RX7, "sumOfPeople", "([I)I"⟩
abbrev cX7_strainBy : ByteArray := prog_9_method_17_code
def yX7_strainBy : MethodName := ⟨RX7, "strainBy", "(III)I"⟩
abbrev cX7_strainAlone : ByteArray := prog_9_method_18_code
def yX7_strainAlone : MethodName := ⟨RX7, "strainAlone", "(II)I"⟩
abbrev cX7_strainRoped : ByteArray := prog_9_method_19_code
def yX7_strainRoped : MethodName := ⟨RX7, "strainRoped", "(III)I"⟩
abbrev cX7_bearsAlone : ByteArray := prog_9_method_20_code
def yX7_bearsAlone : MethodName := ⟨RX7, "bearsAlone", "(II)Z"⟩
abbrev cX7_borneBy : ByteArray := prog_9_method_21_code
def yX7_borneBy : MethodName := ⟨RX7, "borneBy", "(I)I"⟩
abbrev cX7_stopAlone : ByteArray := prog_9_method_22_code
def yX7_stopAlone : MethodName := ⟨RX7, "stopAlone", "(I)I"⟩
abbrev cX7_stopBy : ByteArray := prog_9_method_23_code
def yX7_stopBy : MethodName := ⟨RX7, "stopBy", "(IIII)I"⟩
abbrev cX7_stopIn : ByteArray := prog_9_method_24_code
def yX7_stopIn : MethodName := ⟨RX7, "stopIn", "(II)I"⟩
abbrev cX7_stopRoped : ByteArray := prog_9_method_25_code
def yX7_stopRoped : MethodName := ⟨RX7, "stopRoped", "(III)I"⟩
abbrev cX7_reachInFog : ByteArray := prog_9_method_26_code
def yX7_reachInFog : MethodName := ⟨RX7, "reachInFog", "(III)I"⟩
abbrev cX7_afterFall : ByteArray := prog_9_method_27_code
def yX7_afterFall : MethodName := ⟨RX7, "afterFall", "(II)I"⟩
abbrev cX7_tollsBetween : ByteArray := prog_9_method_28_code
def yX7_tollsBetween : MethodName := ⟨RX7, "tollsBetween", "(II)I"⟩
abbrev cX7_spanLength : ByteArray := prog_9_method_29_code
def yX7_spanLength : MethodName := ⟨RX7, "spanLength", "(II)I"⟩
abbrev cX7_spanBegin : ByteArray := prog_9_method_30_code
def yX7_spanBegin : MethodName := ⟨RX7, "spanBegin", "(I)I"⟩
abbrev cX7_weakestArch : ByteArray := prog_9_method_31_code
def yX7_weakestArch : MethodName := ⟨RX7, "weakestArch", "()I"⟩
abbrev cX7_mossAfter : ByteArray := prog_9_method_32_code
def yX7_mossAfter : MethodName := ⟨RX7, "mossAfter", "(II)I"⟩
abbrev cX7_mostAlike : ByteArray := prog_9_method_33_code
def yX7_mostAlike : MethodName := ⟨RX7, "mostAlike", "(III)I"⟩
abbrev cX7_letRun : ByteArray := prog_9_method_34_code
def yX7_letRun : MethodName := ⟨RX7, "letRun", "(I)I"⟩
abbrev cX7_letRope : ByteArray := prog_9_method_35_code
def yX7_letRope : MethodName := ⟨RX7, "letRope", "(II)I"⟩
abbrev cX7_tread : ByteArray := prog_9_method_36_code
def yX7_tread : MethodName := ⟨RX7, "tread", "(II)V"⟩
abbrev cX7_land : ByteArray := prog_9_method_37_code
def yX7_land : MethodName := ⟨RX7, "land", "(II)V"⟩
abbrev cX7_canJumpOn : ByteArray := prog_9_method_38_code
def yX7_canJumpOn : MethodName := ⟨RX7, "canJumpOn", "(I)Z"⟩
abbrev cX7_jumpOn : ByteArray := prog_9_method_39_code
def yX7_jumpOn : MethodName := ⟨RX7, "jumpOn", "(I)I"⟩
abbrev cX7_sendHome : ByteArray := prog_9_method_40_code
def yX7_sendHome : MethodName := ⟨RX7, "sendHome", "(I)I"⟩
abbrev cX7_changeFog : ByteArray := prog_9_method_41_code
def yX7_changeFog : MethodName := ⟨RX7, "changeFog", "(I)I"⟩
abbrev cX7_passDays : ByteArray := prog_9_method_42_code
def yX7_passDays : MethodName := ⟨RX7, "passDays", "(I)I"⟩
abbrev cX7_jumpsFor : ByteArray := prog_9_method_43_code
def yX7_jumpsFor : MethodName := ⟨RX7, "jumpsFor", "(II)I"⟩
abbrev cX7_bearsBehindJumps : ByteArray := prog_9_method_44_code
def yX7_bearsBehindJumps : MethodName := ⟨RX7, "bearsBehindJumps", "(III)Z"⟩
abbrev cX7_jumpsInAll : ByteArray := prog_9_method_45_code
def yX7_jumpsInAll : MethodName := ⟨RX7, "jumpsInAll", "(I)I"⟩
abbrev cX7_bestGarden : ByteArray := prog_9_method_46_code
def yX7_bestGarden : MethodName := ⟨RX7, "bestGarden", "(I)I"⟩
abbrev cX7_joyOf : ByteArray := prog_9_method_47_code
def yX7_joyOf : MethodName := ⟨RX7, "joyOf", "(I)I"⟩
abbrev cX7_sizeOf : ByteArray := prog_9_method_48_code
def yX7_sizeOf : MethodName := ⟨RX7, "sizeOf", "(I)I"⟩
abbrev cX7_sumOfPlants : ByteArray := prog_9_method_49_code
def yX7_sumOfPlants : MethodName := ⟨RX7, "sumOfPlants", "([II)I"⟩
def RX8 : String := "LeapArches$ViaductReader"
def TX8 : u_T := fun k => match k with
  | 0 => ("LeapArches$ViaductReader", "text", "LLeapArches$Text;", true)
  | _ => ("LeapArches$ViaductReader", "told", "I", false)
def tyX8 : Nat → FieldType := fun k => match k with
  | 0 => .object "LeapArches$Text"
  | _ => .int
abbrev wsX80 : List Cond := u_ws RX8 TX8 2
theorem nmX8 : ∀ a, a < 2 → ∀ b, b < 2 → a ≠ b → (TX8 a).2.1 ≠ (TX8 b).2.1 := by decide +kernel
theorem tyX8_ok : ∀ k, k < 2 → parseFieldDescriptor (TX8 k).2.2.1 = some (tyX8 k) := by decide +kernel
abbrev cX8_init : ByteArray := prog_10_method_1_code
def yX8_init : MethodName := ⟨RX8, "<init>", "(LLeapArches$Text;)V"⟩
abbrev cX8_readInto : ByteArray := prog_10_method_2_code
def yX8_readInto : MethodName := ⟨RX8, "readInto", "(LLeapArches$Viaduct;)Z"⟩
abbrev cX8_takePart : ByteArray := prog_10_method_3_code
def yX8_takePart : MethodName := ⟨RX8, "takePart", "(LLeapArches$Viaduct;)Z"⟩
abbrev cX8_takeRule : ByteArray := prog_10_method_4_code
def yX8_takeRule : MethodName := ⟨RX8, "takeRule", "(LLeapArches$Viaduct;I)Z"⟩
abbrev cX8_takeArch : ByteArray := prog_10_method_5_code
def yX8_takeArch : MethodName := ⟨RX8, "takeArch", "(LLeapArches$Viaduct;)Z"⟩
abbrev cX8_takePerson : ByteArray := prog_10_method_6_code
def yX8_takePerson : MethodName := ⟨RX8, "takePerson", "(LLeapArches$Viaduct;)Z"⟩
abbrev cX8_takePlant : ByteArray := prog_10_method_7_code
def yX8_takePlant : MethodName := ⟨RX8, "takePlant", "(LLeapArches$Viaduct;)Z"⟩
abbrev cX8_takeOption : ByteArray := prog_10_method_8_code
def yX8_takeOption : MethodName := ⟨RX8, "takeOption", "(II[II)Z"⟩
def RX9 : String := "LeapArches"
def TX9 : u_T := fun k => match k with
  | 0 => ("LeapArches", "latestStatus", "I", false)
  | 1 => ("LeapArches", "fractionTop", "J", false)
  | 2 => ("LeapArches", "fractionBottom", "J", false)
  | 3 => ("LeapArches", "trays", "[LLeapArches$Tray;", true)
  | 4 => ("LeapArches", "text", "LLeapArches$Text;", true)
  | 5 => ("LeapArches", "viaductReader", "LLeapArches$ViaductReader;", true)
  | 6 => ("LeapArches", "stepsReader", "LLeapArches$StepsReader;", true)
  | 7 => ("LeapArches", "now", "LLeapArches$Viaduct;", false)
  | 8 => ("LeapArches", "spare", "LLeapArches$Viaduct;", false)
  | 9 => ("LeapArches", "steps", "LLeapArches$Steps;", false)
  | 10 => ("LeapArches", "spareSteps", "LLeapArches$Steps;", false)
  | 11 => ("LeapArches", "markedViaducts", "[LLeapArches$Viaduct;", true)
  | 12 => ("LeapArches", "markedSteps", "[LLeapArches$Steps;", true)
  | 13 => ("LeapArches", "marks", "I", false)
  | 14 => ("LeapArches", "groups", "LLeapArches$Groups;", true)
  | 15 => ("LeapArches", "contest", "LLeapArches$Contest;", true)
  | 16 => ("LeapArches", "life", "LLeapArches$Life;", true)
  | 17 => ("LeapArches", "tally", "[I", true)
  | _ => ("LeapArches", "hasLived", "Z", false)
def tyX9 : Nat → FieldType := fun k => match k with
  | 0 => .int
  | 1 => .long
  | 2 => .long
  | 3 => .array (.object "LeapArches$Tray")
  | 4 => .object "LeapArches$Text"
  | 5 => .object "LeapArches$ViaductReader"
  | 6 => .object "LeapArches$StepsReader"
  | 7 => .object "LeapArches$Viaduct"
  | 8 => .object "LeapArches$Viaduct"
  | 9 => .object "LeapArches$Steps"
  | 10 => .object "LeapArches$Steps"
  | 11 => .array (.object "LeapArches$Viaduct")
  | 12 => .array (.object "LeapArches$Steps")
  | 13 => .int
  | 14 => .object "LeapArches$Groups"
  | 15 => .object "LeapArches$Contest"
  | 16 => .object "LeapArches$Life"
  | 17 => .array .int
  | _ => .boolean
abbrev wsX90 : List Cond := u_ws RX9 TX9 19
theorem nmX9 : ∀ a, a < 19 → ∀ b, b < 19 → a ≠ b → (TX9 a).2.1 ≠ (TX9 b).2.1 := by decide +kernel
theorem tyX9_ok : ∀ k, k < 19 → parseFieldDescriptor (TX9 k).2.2.1 = some (tyX9 k) := by decide +kernel
abbrev cX9_init : ByteArray := prog_1_method_1_code
def yX9_init : MethodName := ⟨RX9, "<init>", "()V"⟩
abbrev cX9_status : ByteArray := prog_1_method_2_code
def yX9_status : MethodName := ⟨RX9, "status", "()I"⟩
abbrev cX9_top : ByteArray := prog_1_method_3_code
def yX9_top : MethodName := ⟨RX9, "top", "()J"⟩
abbrev cX9_bottom : ByteArray := prog_1_method_4_code
def yX9_bottom : MethodName := ⟨RX9, "bottom", "()J"⟩
abbrev cX9_tray : ByteArray := prog_1_method_5_code
def yX9_tray : MethodName := ⟨RX9, "tray", "(III)Z"⟩
abbrev cX9_write : ByteArray := prog_1_method_6_code
def yX9_write : MethodName := ⟨RX9, "write", "(IIJ)Z"⟩
abbrev cX9_read : ByteArray := prog_1_method_7_code
def yX9_read : MethodName := ⟨RX9, "read", "(II)J"⟩
abbrev cX9_pour : ByteArray := prog_1_method_8_code
def yX9_pour : MethodName := ⟨RX9, "pour", "(IIIII)Z"⟩
abbrev cX9_feed : ByteArray := prog_1_method_9_code
def yX9_feed : MethodName := ⟨RX9, "feed", "(IIIII)I"⟩
abbrev cX9_viaduct : ByteArray := prog_1_method_10_code
def yX9_viaduct : MethodName := ⟨RX9, "viaduct", "(I)I"⟩
abbrev cX9_decades : ByteArray := prog_1_method_11_code
def yX9_decades : MethodName := ⟨RX9, "decades", "(I)I"⟩
abbrev cX9_fault : ByteArray := prog_1_method_12_code
def yX9_fault : MethodName := ⟨RX9, "fault", "(I)I"⟩
abbrev cX9_told : ByteArray := prog_1_method_13_code
def yX9_told : MethodName := ⟨RX9, "told", "(I)I"⟩
abbrev cX9_arch : ByteArray := prog_1_method_14_code
def yX9_arch : MethodName := ⟨RX9, "arch", "(II)I"⟩
abbrev cX9_person : ByteArray := prog_1_method_15_code
def yX9_person : MethodName := ⟨RX9, "person", "(II)I"⟩
abbrev cX9_plant : ByteArray := prog_1_method_16_code
def yX9_plant : MethodName := ⟨RX9, "plant", "(II)I"⟩
abbrev cX9_run : ByteArray := prog_1_method_17_code
def yX9_run : MethodName := ⟨RX9, "run", "(I)I"⟩
abbrev cX9_rope : ByteArray := prog_1_method_18_code
def yX9_rope : MethodName := ⟨RX9, "rope", "(II)I"⟩
abbrev cX9_jump : ByteArray := prog_1_method_19_code
def yX9_jump : MethodName := ⟨RX9, "jump", "(I)I"⟩
abbrev cX9_home : ByteArray := prog_1_method_20_code
def yX9_home : MethodName := ⟨RX9, "home", "(I)I"⟩
abbrev cX9_day : ByteArray := prog_1_method_21_code
def yX9_day : MethodName := ⟨RX9, "day", "(I)I"⟩
abbrev cX9_teach : ByteArray := prog_1_method_22_code
def yX9_teach : MethodName := ⟨RX9, "teach", "(III)Z"⟩
abbrev cX9_come : ByteArray := prog_1_method_23_code
def yX9_come : MethodName := ⟨RX9, "come", "(I)I"⟩
abbrev cX9_build : ByteArray := prog_1_method_24_code
def yX9_build : MethodName := ⟨RX9, "build", "(II)I"⟩
abbrev cX9_sow : ByteArray := prog_1_method_25_code
def yX9_sow : MethodName := ⟨RX9, "sow", "(II)I"⟩
abbrev cX9_rule : ByteArray := prog_1_method_26_code
def yX9_rule : MethodName := ⟨RX9, "rule", "(II)Z"⟩
abbrev cX9_strain : ByteArray := prog_1_method_27_code
def yX9_strain : MethodName := ⟨RX9, "strain", "(II)I"⟩
abbrev cX9_strainOf : ByteArray := prog_1_method_28_code
def yX9_strainOf : MethodName := ⟨RX9, "strainOf", "(III)I"⟩
abbrev cX9_reach : ByteArray := prog_1_method_29_code
def yX9_reach : MethodName := ⟨RX9, "reach", "(I)I"⟩
abbrev cX9_reachIn : ByteArray := prog_1_method_30_code
def yX9_reachIn : MethodName := ⟨RX9, "reachIn", "(II)I"⟩
abbrev cX9_stops : ByteArray := prog_1_method_31_code
def yX9_stops : MethodName := ⟨RX9, "stops", "(I)I"⟩
abbrev cX9_stopsBoth : ByteArray := prog_1_method_32_code
def yX9_stopsBoth : MethodName := ⟨RX9, "stopsBoth", "(II)I"⟩
abbrev cX9_pays : ByteArray := prog_1_method_33_code
def yX9_pays : MethodName := ⟨RX9, "pays", "(I)I"⟩
abbrev cX9_span : ByteArray := prog_1_method_34_code
def yX9_span : MethodName := ⟨RX9, "span", "(I)I"⟩
abbrev cX9_spanFrom : ByteArray := prog_1_method_35_code
def yX9_spanFrom : MethodName := ⟨RX9, "spanFrom", "(I)I"⟩
abbrev cX9_weakest : ByteArray := prog_1_method_36_code
def yX9_weakest : MethodName := ⟨RX9, "weakest", "()I"⟩
abbrev cX9_mossIn : ByteArray := prog_1_method_37_code
def yX9_mossIn : MethodName := ⟨RX9, "mossIn", "(II)I"⟩
abbrev cX9_most : ByteArray := prog_1_method_38_code
def yX9_most : MethodName := ⟨RX9, "most", "()I"⟩
abbrev cX9_cheapest : ByteArray := prog_1_method_39_code
def yX9_cheapest : MethodName := ⟨RX9, "cheapest", "(I)I"⟩
abbrev cX9_mate : ByteArray := prog_1_method_40_code
def yX9_mate : MethodName := ⟨RX9, "mate", "(II)I"⟩
abbrev cX9_mends : ByteArray := prog_1_method_41_code
def yX9_mends : MethodName := ⟨RX9, "mends", "(I)I"⟩
abbrev cX9_mendsAt : ByteArray := prog_1_method_42_code
def yX9_mendsAt : MethodName := ⟨RX9, "mendsAt", "(II)I"⟩
abbrev cX9_fits : ByteArray := prog_1_method_43_code
def yX9_fits : MethodName := ⟨RX9, "fits", "(III)I"⟩
abbrev cX9_fitsAt : ByteArray := prog_1_method_44_code
def yX9_fitsAt : MethodName := ⟨RX9, "fitsAt", "(IIII)I"⟩
abbrev cX9_ask : ByteArray := prog_1_method_45_code
def yX9_ask : MethodName := ⟨RX9, "ask", "(III)I"⟩
abbrev cX9_game : ByteArray := prog_1_method_46_code
def yX9_game : MethodName := ⟨RX9, "game", "(III)I"⟩
abbrev cX9_moveOf : ByteArray := prog_1_method_47_code
def yX9_moveOf : MethodName := ⟨RX9, "moveOf", "(III)I"⟩
abbrev cX9_garden : ByteArray := prog_1_method_48_code
def yX9_garden : MethodName := ⟨RX9, "garden", "(I)I"⟩
abbrev cX9_gardenSet : ByteArray := prog_1_method_49_code
def yX9_gardenSet : MethodName := ⟨RX9, "gardenSet", "(I)I"⟩
abbrev cX9_chance : ByteArray := prog_1_method_50_code
def yX9_chance : MethodName := ⟨RX9, "chance", "(I)Z"⟩
abbrev cX9_hope : ByteArray := prog_1_method_51_code
def yX9_hope : MethodName := ⟨RX9, "hope", "(II)Z"⟩
abbrev cX9_copyAt : ByteArray := prog_1_method_52_code
def yX9_copyAt : MethodName := ⟨RX9, "copyAt", "(I)I"⟩
abbrev cX9_live : ByteArray := prog_1_method_53_code
def yX9_live : MethodName := ⟨RX9, "live", "(I)I"⟩
abbrev cX9_lived : ByteArray := prog_1_method_54_code
def yX9_lived : MethodName := ⟨RX9, "lived", "(I)I"⟩
abbrev cX9_mean : ByteArray := prog_1_method_55_code
def yX9_mean : MethodName := ⟨RX9, "mean", "(II)Z"⟩
abbrev cX9_mark : ByteArray := prog_1_method_56_code
def yX9_mark : MethodName := ⟨RX9, "mark", "()I"⟩
abbrev cX9_undo : ByteArray := prog_1_method_57_code
def yX9_undo : MethodName := ⟨RX9, "undo", "()I"⟩
abbrev cX9_given : ByteArray := prog_1_method_58_code
def yX9_given : MethodName := ⟨RX9, "given", "(I)I"⟩
abbrev cX9_none : ByteArray := prog_1_method_59_code
def yX9_none : MethodName := ⟨RX9, "none", "(I)I"⟩
abbrev cX9_givenUnless : ByteArray := prog_1_method_60_code
def yX9_givenUnless : MethodName := ⟨RX9, "givenUnless", "(II)I"⟩
abbrev cX9_givenIfArch : ByteArray := prog_1_method_61_code
def yX9_givenIfArch : MethodName := ⟨RX9, "givenIfArch", "(I)I"⟩
abbrev cX9_yes : ByteArray := prog_1_method_62_code
def yX9_yes : MethodName := ⟨RX9, "yes", "()Z"⟩
abbrev cX9_not : ByteArray := prog_1_method_63_code
def yX9_not : MethodName := ⟨RX9, "not", "(I)Z"⟩
abbrev cX9_put : ByteArray := prog_1_method_64_code
def yX9_put : MethodName := ⟨RX9, "put", "([IIIII)Z"⟩
abbrev cX9_within : ByteArray := prog_1_method_65_code
def yX9_within : MethodName := ⟨RX9, "within", "(JJJ)Z"⟩
abbrev cX9_contains : ByteArray := prog_1_method_66_code
def yX9_contains : MethodName := ⟨RX9, "contains", "(II)Z"⟩
abbrev cX9_isTray : ByteArray := prog_1_method_67_code
def yX9_isTray : MethodName := ⟨RX9, "isTray", "(I)Z"⟩
abbrev cX9_isSetOfPeople : ByteArray := prog_1_method_68_code
def yX9_isSetOfPeople : MethodName := ⟨RX9, "isSetOfPeople", "(I)Z"⟩
abbrev cX9_placeStatus : ByteArray := prog_1_method_69_code
def yX9_placeStatus : MethodName := ⟨RX9, "placeStatus", "(II)I"⟩
abbrev cX9_twosStatus : ByteArray := prog_1_method_70_code
def yX9_twosStatus : MethodName := ⟨RX9, "twosStatus", "(III)I"⟩
abbrev cX9_doubtsThatFit : ByteArray := prog_1_method_71_code
def yX9_doubtsThatFit : MethodName := ⟨RX9, "doubtsThatFit", "(III)I"⟩
abbrev cX9_tellOdds : ByteArray := prog_1_method_72_code
def yX9_tellOdds : MethodName := ⟨RX9, "tellOdds", "(II)V"⟩
abbrev cX9_tell : ByteArray := prog_1_method_73_code
def yX9_tell : MethodName := ⟨RX9, "tell", "(JJ)V"⟩
abbrev cX9_commonDivisor : ByteArray := prog_1_method_74_code
def yX9_commonDivisor : MethodName := ⟨RX9, "commonDivisor", "(JJ)J"⟩
def RX10 : String := "LeapArchesModel"
def TX10 : u_T := fun k => match k with
  | 0 => ("LeapArchesModel", "at", "[I", true)
  | 1 => ("LeapArchesModel", "names", "[J", true)
  | 2 => ("LeapArchesModel", "status", "I", false)
  | 3 => ("LeapArchesModel", "top", "J", false)
  | 4 => ("LeapArchesModel", "bottom", "J", false)
  | 5 => ("LeapArchesModel", "sort", "[I", true)
  | 6 => ("LeapArchesModel", "trayMany", "[I", true)
  | 7 => ("LeapArchesModel", "trays", "[J", true)
  | 8 => ("LeapArchesModel", "tape", "[B", true)
  | 9 => ("LeapArchesModel", "text", "[B", true)
  | 10 => ("LeapArchesModel", "taped", "I", false)
  | 11 => ("LeapArchesModel", "size", "I", false)
  | 12 => ("LeapArchesModel", "token", "I", false)
  | 13 => ("LeapArchesModel", "from", "I", false)
  | 14 => ("LeapArchesModel", "end", "I", false)
  | 15 => ("LeapArchesModel", "value", "I", false)
  | 16 => ("LeapArchesModel", "faultKind", "I", false)
  | 17 => ("LeapArchesModel", "faultPlace", "I", false)
  | 18 => ("LeapArchesModel", "faults", "I", false)
  | 19 => ("LeapArchesModel", "seen", "I", false)
  | 20 => ("LeapArchesModel", "toldParts", "I", false)
  | 21 => ("LeapArchesModel", "opened", "[I", true)
  | 22 => ("LeapArchesModel", "depth", "I", false)
  | 23 => ("LeapArchesModel", "counted", "I", false)
  | 24 => ("LeapArchesModel", "spanMany", "I", false)
  | 25 => ("LeapArchesModel", "mostBy", "[I", true)
  | 26 => ("LeapArchesModel", "fewBy", "[I", true)
  | 27 => ("LeapArchesModel", "farBy", "[I", true)
  | 28 => ("LeapArchesModel", "fitsBy", "[Z", true)
  | 29 => ("LeapArchesModel", "doneAt", "[I", true)
  | 30 => ("LeapArchesModel", "gotAt", "[I", true)
  | 31 => ("LeapArchesModel", "bestDeed", "[I", true)
  | 32 => ("LeapArchesModel", "drawn", "I", false)
  | 33 => ("LeapArchesModel", "ranSteps", "I", false)
  | 34 => ("LeapArchesModel", "loops", "[I", true)
  | 35 => ("LeapArchesModel", "ran", "[I", true)
  | 36 => ("LeapArchesModel", "told1", "[I", true)
  | 37 => ("LeapArchesModel", "isTold", "Z", false)
  | _ => ("LeapArchesModel", "marks", "I", false)
def tyX10 : Nat → FieldType := fun k => match k with
  | 0 => .array .int
  | 1 => .array .long
  | 2 => .int
  | 3 => .long
  | 4 => .long
  | 5 => .array .int
  | 6 => .array .int
  | 7 => .array .long
  | 8 => .array .byte
  | 9 => .array .byte
  | 10 => .int
  | 11 => .int
  | 12 => .int
  | 13 => .int
  | 14 => .int
  | 15 => .int
  | 16 => .int
  | 17 => .int
  | 18 => .int
  | 19 => .int
  | 20 => .int
  | 21 => .array .int
  | 22 => .int
  | 23 => .int
  | 24 => .int
  | 25 => .array .int
  | 26 => .array .int
  | 27 => .array .int
  | 28 => .array .boolean
  | 29 => .array .int
  | 30 => .array .int
  | 31 => .array .int
  | 32 => .int
  | 33 => .int
  | 34 => .array .int
  | 35 => .array .int
  | 36 => .array .int
  | 37 => .boolean
  | _ => .int
abbrev wsX100 : List Cond := u_ws RX10 TX10 39
theorem nmX10 : ∀ a, a < 39 → ∀ b, b < 39 → a ≠ b → (TX10 a).2.1 ≠ (TX10 b).2.1 := by decide +kernel
theorem tyX10_ok : ∀ k, k < 39 → parseFieldDescriptor (TX10 k).2.2.1 = some (tyX10 k) := by decide +kernel
abbrev cX10_init : ByteArray := prog_12_method_1_code
def yX10_init : MethodName := ⟨RX10, "<init>", "()V"⟩
abbrev cX10_plain : ByteArray := prog_12_method_2_code
def yX10_plain : MethodName := ⟨RX10, "plain", "(I)V"⟩
abbrev cX10_status : ByteArray := prog_12_method_3_code
def yX10_status : MethodName := ⟨RX10, "status", "()I"⟩
abbrev cX10_top : ByteArray := prog_12_method_4_code
def yX10_top : MethodName := ⟨RX10, "top", "()J"⟩
abbrev cX10_bottom : ByteArray := prog_12_method_5_code
def yX10_bottom : MethodName := ⟨RX10, "bottom", "()J"⟩
abbrev cX10_is : ByteArray := prog_12_method_6_code
def yX10_is : MethodName := ⟨RX10, "is", "(I)Z"⟩
abbrev cX10_refuse : ByteArray := prog_12_method_7_code
def yX10_refuse : MethodName := ⟨RX10, "refuse", "(I)I"⟩
abbrev cX10_gives : ByteArray := prog_12_method_8_code
def yX10_gives : MethodName := ⟨RX10, "gives", "(I)I"⟩
abbrev cX10_orNone : ByteArray := prog_12_method_9_code
def yX10_orNone : MethodName := ⟨RX10, "orNone", "(I)I"⟩
abbrev cX10_tellsBy : ByteArray := prog_12_method_10_code
def yX10_tellsBy : MethodName := ⟨RX10, "tellsBy", "(JJ)Z"⟩
abbrev cX10_isTray : ByteArray := prog_12_method_11_code
def yX10_isTray : MethodName := ⟨RX10, "isTray", "(I)Z"⟩
abbrev cX10_cut : ByteArray := prog_12_method_12_code
def yX10_cut : MethodName := ⟨RX10, "cut", "(JI)J"⟩
abbrev cX10_tray : ByteArray := prog_12_method_13_code
def yX10_tray : MethodName := ⟨RX10, "tray", "(III)Z"⟩
abbrev cX10_wrongPlace : ByteArray := prog_12_method_14_code
def yX10_wrongPlace : MethodName := ⟨RX10, "wrongPlace", "(II)I"⟩
abbrev cX10_write : ByteArray := prog_12_method_15_code
def yX10_write : MethodName := ⟨RX10, "write", "(IIJ)Z"⟩
abbrev cX10_read : ByteArray := prog_12_method_16_code
def yX10_read : MethodName := ⟨RX10, "read", "(II)J"⟩
abbrev cX10_pour : ByteArray := prog_12_method_17_code
def yX10_pour : MethodName := ⟨RX10, "pour", "(IIIII)Z"⟩
abbrev cX10_isFrom : ByteArray := prog_12_method_18_code
def yX10_isFrom : MethodName := ⟨RX10, "isFrom", "(JJJ)Z"⟩
abbrev cX10_feed : ByteArray := prog_12_method_19_code
def yX10_feed : MethodName := ⟨RX10, "feed", "(IIIII)I"⟩
abbrev cX10_four : ByteArray := prog_12_method_20_code
def yX10_four : MethodName := ⟨RX10, "four", "(I)V"⟩
abbrev cX10_byteAt : ByteArray := prog_12_method_21_code
def yX10_byteAt : MethodName := ⟨RX10, "byteAt", "(I)I"⟩
abbrev cX10_isSmall : ByteArray := prog_12_method_22_code
def yX10_isSmall : MethodName := ⟨RX10, "isSmall", "(I)Z"⟩
abbrev cX10_isDigit : ByteArray := prog_12_method_23_code
def yX10_isDigit : MethodName := ⟨RX10, "isDigit", "(I)Z"⟩
abbrev cX10_ahead : ByteArray := prog_12_method_24_code
def yX10_ahead : MethodName := ⟨RX10, "ahead", "()V"⟩
abbrev cX10_isSign : ByteArray := prog_12_method_25_code
def yX10_isSign : MethodName := ⟨RX10, "isSign", "(I)Z"⟩
abbrev cX10_inWords : ByteArray := prog_12_method_26_code
def yX10_inWords : MethodName := ⟨RX10, "inWords", "(Ljava/lang/String;)I"⟩
abbrev cX10_fails : ByteArray := prog_12_method_27_code
def yX10_fails : MethodName := ⟨RX10, "fails", "(I)Z"⟩
abbrev cX10_begins : ByteArray := prog_12_method_28_code
def yX10_begins : MethodName := ⟨RX10, "begins", "(II)Z"⟩
abbrev cX10_wantSign : ByteArray := prog_12_method_29_code
def yX10_wantSign : MethodName := ⟨RX10, "wantSign", "(I)Z"⟩
abbrev cX10_wantWord : ByteArray := prog_12_method_30_code
def yX10_wantWord : MethodName := ⟨RX10, "wantWord", "(Ljava/lang/String;I)Z"⟩
abbrev cX10_number : ByteArray := prog_12_method_31_code
def yX10_number : MethodName := ⟨RX10, "number", "(III)Z"⟩
abbrev cX10_isName : ByteArray := prog_12_method_32_code
def yX10_isName : MethodName := ⟨RX10, "isName", "(Ljava/lang/String;)Z"⟩
abbrev cX10_nameHere : ByteArray := prog_12_method_33_code
def yX10_nameHere : MethodName := ⟨RX10, "nameHere", "()J"⟩
abbrev cX10_findHere : ByteArray := prog_12_method_34_code
def yX10_findHere : MethodName := ⟨RX10, "findHere", "(II)I"⟩
abbrev cX10_fault : ByteArray := prog_12_method_35_code
def yX10_fault : MethodName := ⟨RX10, "fault", "(I)I"⟩
abbrev cX10_taken : ByteArray := prog_12_method_36_code
def yX10_taken : MethodName := ⟨RX10, "taken", "(I)I"⟩
abbrev cX10_archRow : ByteArray := prog_12_method_37_code
def yX10_archRow : MethodName := ⟨RX10, "archRow", "(I)I"⟩
abbrev cX10_personRow : ByteArray := prog_12_method_38_code
def yX10_personRow : MethodName := ⟨RX10, "personRow", "(I)I"⟩
abbrev cX10_plantRow : ByteArray := prog_12_method_39_code
def yX10_plantRow : MethodName := ⟨RX10, "plantRow", "(I)I"⟩
abbrev cX10_isThere : ByteArray := prog_12_method_40_code
def yX10_isThere : MethodName := ⟨RX10, "isThere", "(I)Z"⟩
abbrev cX10_perhaps : ByteArray := prog_12_method_41_code
def yX10_perhaps : MethodName := ⟨RX10, "perhaps", "(IIIII)Z"⟩
abbrev cX10_isFull : ByteArray := prog_12_method_42_code
def yX10_isFull : MethodName := ⟨RX10, "isFull", "(II)Z"⟩
abbrev cX10_anArch : ByteArray := prog_12_method_43_code
def yX10_anArch : MethodName := ⟨RX10, "anArch", "()Z"⟩
abbrev cX10_aPerson : ByteArray := prog_12_method_44_code
def yX10_aPerson : MethodName := ⟨RX10, "aPerson", "()Z"⟩
abbrev cX10_aPlant : ByteArray := prog_12_method_45_code
def yX10_aPlant : MethodName := ⟨RX10, "aPlant", "()Z"⟩
abbrev cX10_viaductPart : ByteArray := prog_12_method_46_code
def yX10_viaductPart : MethodName := ⟨RX10, "viaductPart", "()Z"⟩
abbrev cX10_viaduct : ByteArray := prog_12_method_47_code
def yX10_viaduct : MethodName := ⟨RX10, "viaduct", "(I)I"⟩
abbrev cX10_personTo : ByteArray := prog_12_method_48_code
def yX10_personTo : MethodName := ⟨RX10, "personTo", "(I)Z"⟩
abbrev cX10_archTo : ByteArray := prog_12_method_49_code
def yX10_archTo : MethodName := ⟨RX10, "archTo", "(I)Z"⟩
abbrev cX10_test : ByteArray := prog_12_method_50_code
def yX10_test : MethodName := ⟨RX10, "test", "(I)Z"⟩
abbrev cX10_decadeOrder : ByteArray := prog_12_method_51_code
def yX10_decadeOrder : MethodName := ⟨RX10, "decadeOrder", "(II)Z"⟩
abbrev cX10_decadeStep : ByteArray := prog_12_method_52_code
def yX10_decadeStep : MethodName := ⟨RX10, "decadeStep", "()Z"⟩
abbrev cX10_decades : ByteArray := prog_12_method_53_code
def yX10_decades : MethodName := ⟨RX10, "decades", "(I)I"⟩
abbrev cX10_isArch : ByteArray := prog_12_method_54_code
def yX10_isArch : MethodName := ⟨RX10, "isArch", "(I)Z"⟩
abbrev cX10_isPerson : ByteArray := prog_12_method_55_code
def yX10_isPerson : MethodName := ⟨RX10, "isPerson", "(I)Z"⟩
abbrev cX10_arePeople : ByteArray := prog_12_method_56_code
def yX10_arePeople : MethodName := ⟨RX10, "arePeople", "(J)Z"⟩
abbrev cX10_isIn : ByteArray := prog_12_method_57_code
def yX10_isIn : MethodName := ⟨RX10, "isIn", "(II)Z"⟩
abbrev cX10_bits : ByteArray := prog_12_method_58_code
def yX10_bits : MethodName := ⟨RX10, "bits", "(I)I"⟩
abbrev cX10_firstOf : ByteArray := prog_12_method_59_code
def yX10_firstOf : MethodName := ⟨RX10, "firstOf", "(I)I"⟩
abbrev cX10_archOf : ByteArray := prog_12_method_60_code
def yX10_archOf : MethodName := ⟨RX10, "archOf", "(II)I"⟩
abbrev cX10_personOf : ByteArray := prog_12_method_61_code
def yX10_personOf : MethodName := ⟨RX10, "personOf", "(II)I"⟩
abbrev cX10_dimOf : ByteArray := prog_12_method_62_code
def yX10_dimOf : MethodName := ⟨RX10, "dimOf", "(I)I"⟩
abbrev cX10_strainBy : ByteArray := prog_12_method_63_code
def yX10_strainBy : MethodName := ⟨RX10, "strainBy", "(II)I"⟩
abbrev cX10_strainBoth : ByteArray := prog_12_method_64_code
def yX10_strainBoth : MethodName := ⟨RX10, "strainBoth", "(III)I"⟩
abbrev cX10_bears : ByteArray := prog_12_method_65_code
def yX10_bears : MethodName := ⟨RX10, "bears", "(III)Z"⟩
abbrev cX10_isOver : ByteArray := prog_12_method_66_code
def yX10_isOver : MethodName := ⟨RX10, "isOver", "(I)Z"⟩
abbrev cX10_areOver : ByteArray := prog_12_method_67_code
def yX10_areOver : MethodName := ⟨RX10, "areOver", "()I"⟩
abbrev cX10_borneBy : ByteArray := prog_12_method_68_code
def yX10_borneBy : MethodName := ⟨RX10, "borneBy", "(I)I"⟩
abbrev cX10_together : ByteArray := prog_12_method_69_code
def yX10_together : MethodName := ⟨RX10, "together", "(I)I"⟩
abbrev cX10_told : ByteArray := prog_12_method_70_code
def yX10_told : MethodName := ⟨RX10, "told", "(I)I"⟩
abbrev cX10_arch : ByteArray := prog_12_method_71_code
def yX10_arch : MethodName := ⟨RX10, "arch", "(II)I"⟩
abbrev cX10_person : ByteArray := prog_12_method_72_code
def yX10_person : MethodName := ⟨RX10, "person", "(II)I"⟩
abbrev cX10_plant : ByteArray := prog_12_method_73_code
def yX10_plant : MethodName := ⟨RX10, "plant", "(II)I"⟩
abbrev cX10_goes : ByteArray := prog_12_method_74_code
def yX10_goes : MethodName := ⟨RX10, "goes", "(II)V"⟩
abbrev cX10_paysAt : ByteArray := prog_12_method_75_code
def yX10_paysAt : MethodName := ⟨RX10, "paysAt", "(II)V"⟩
abbrev cX10_mayFall : ByteArray := prog_12_method_76_code
def yX10_mayFall : MethodName := ⟨RX10, "mayFall", "(I)V"⟩
abbrev cX10_runs : ByteArray := prog_12_method_77_code
def yX10_runs : MethodName := ⟨RX10, "runs", "(II)I"⟩
abbrev cX10_run : ByteArray := prog_12_method_78_code
def yX10_run : MethodName := ⟨RX10, "run", "(I)I"⟩
abbrev cX10_canRope : ByteArray := prog_12_method_79_code
def yX10_canRope : MethodName := ⟨RX10, "canRope", "(II)Z"⟩
abbrev cX10_rope : ByteArray := prog_12_method_80_code
def yX10_rope : MethodName := ⟨RX10, "rope", "(II)I"⟩
abbrev cX10_jumps : ByteArray := prog_12_method_81_code
def yX10_jumps : MethodName := ⟨RX10, "jumps", "(I)Z"⟩
abbrev cX10_jump : ByteArray := prog_12_method_82_code
def yX10_jump : MethodName := ⟨RX10, "jump", "(I)I"⟩
abbrev cX10_homes : ByteArray := prog_12_method_83_code
def yX10_homes : MethodName := ⟨RX10, "homes", "(I)Z"⟩
abbrev cX10_home : ByteArray := prog_12_method_84_code
def yX10_home : MethodName := ⟨RX10, "home", "(I)I"⟩
abbrev cX10_dayGoes : ByteArray := prog_12_method_85_code
def yX10_dayGoes : MethodName := ⟨RX10, "dayGoes", "()V"⟩
abbrev cX10_daysGo : ByteArray := prog_12_method_86_code
def yX10_daysGo : MethodName := ⟨RX10, "daysGo", "(I)V"⟩
abbrev cX10_day : ByteArray := prog_12_method_87_code
def yX10_day : MethodName := ⟨RX10, "day", "(I)I"⟩
abbrev cX10_teach : ByteArray := prog_12_method_88_code
def yX10_teach : MethodName := ⟨RX10, "teach", "(III)Z"⟩
abbrev cX10_come : ByteArray := prog_12_method_89_code
def yX10_come : MethodName := ⟨RX10, "come", "(I)I"⟩
abbrev cX10_build : ByteArray := prog_12_method_90_code
def yX10_build : MethodName := ⟨RX10, "build", "(II)I"⟩
abbrev cX10_sow : ByteArray := prog_12_method_91_code
def yX10_sow : MethodName := ⟨RX10, "sow", "(II)I"⟩
abbrev cX10_rule : ByteArray := prog_12_method_92_code
def yX10_rule : MethodName := ⟨RX10, "rule", "(II)Z"⟩
abbrev cX10_levelAt : ByteArray := prog_12_method_93_code
def yX10_levelAt : MethodName := ⟨RX10, "levelAt", "(I)I"⟩
abbrev cX10_keeps : ByteArray := prog_12_method_94_code
def yX10_keeps : MethodName := ⟨RX10, "keeps", "(I)V"⟩
abbrev cX10_restores : ByteArray := prog_12_method_95_code
def yX10_restores : MethodName := ⟨RX10, "restores", "(I)V"⟩
abbrev cX10_strain : ByteArray := prog_12_method_96_code
def yX10_strain : MethodName := ⟨RX10, "strain", "(II)I"⟩
abbrev cX10_strainOf : ByteArray := prog_12_method_97_code
def yX10_strainOf : MethodName := ⟨RX10, "strainOf", "(III)I"⟩
abbrev cX10_reachOf : ByteArray := prog_12_method_98_code
def yX10_reachOf : MethodName := ⟨RX10, "reachOf", "(II)I"⟩
abbrev cX10_reach : ByteArray := prog_12_method_99_code
def yX10_reach : MethodName := ⟨RX10, "reach", "(I)I"⟩
abbrev cX10_reachIn : ByteArray := prog_12_method_100_code
def yX10_reachIn : MethodName := ⟨RX10, "reachIn", "(II)I"⟩
abbrev cX10_stopOf : ByteArray := prog_12_method_101_code
def yX10_stopOf : MethodName := ⟨RX10, "stopOf", "(III)I"⟩
abbrev cX10_stops : ByteArray := prog_12_method_102_code
def yX10_stops : MethodName := ⟨RX10, "stops", "(I)I"⟩
abbrev cX10_stopsBoth : ByteArray := prog_12_method_103_code
def yX10_stopsBoth : MethodName := ⟨RX10, "stopsBoth", "(II)I"⟩
abbrev cX10_pays : ByteArray := prog_12_method_104_code
def yX10_pays : MethodName := ⟨RX10, "pays", "(I)I"⟩
abbrev cX10_spanOf : ByteArray := prog_12_method_105_code
def yX10_spanOf : MethodName := ⟨RX10, "spanOf", "(I)I"⟩
abbrev cX10_span : ByteArray := prog_12_method_106_code
def yX10_span : MethodName := ⟨RX10, "span", "(I)I"⟩
abbrev cX10_spanFrom : ByteArray := prog_12_method_107_code
def yX10_spanFrom : MethodName := ⟨RX10, "spanFrom", "(I)I"⟩
abbrev cX10_weakest : ByteArray := prog_12_method_108_code
def yX10_weakest : MethodName := ⟨RX10, "weakest", "()I"⟩
abbrev cX10_mossIn : ByteArray := prog_12_method_109_code
def yX10_mossIn : MethodName := ⟨RX10, "mossIn", "(II)I"⟩
abbrev cX10_isWell : ByteArray := prog_12_method_110_code
def yX10_isWell : MethodName := ⟨RX10, "isWell", "(II)Z"⟩
abbrev cX10_laysSet : ByteArray := prog_12_method_111_code
def yX10_laysSet : MethodName := ⟨RX10, "laysSet", "(I)V"⟩
abbrev cX10_everybody : ByteArray := prog_12_method_112_code
def yX10_everybody : MethodName := ⟨RX10, "everybody", "()I"⟩
abbrev cX10_laysGroups : ByteArray := prog_12_method_113_code
def yX10_laysGroups : MethodName := ⟨RX10, "laysGroups", "()V"⟩
abbrev cX10_most : ByteArray := prog_12_method_114_code
def yX10_most : MethodName := ⟨RX10, "most", "()I"⟩
abbrev cX10_allTolls : ByteArray := prog_12_method_115_code
def yX10_allTolls : MethodName := ⟨RX10, "allTolls", "()I"⟩
abbrev cX10_cheapest : ByteArray := prog_12_method_116_code
def yX10_cheapest : MethodName := ⟨RX10, "cheapest", "(I)I"⟩
abbrev cX10_mateOf : ByteArray := prog_12_method_117_code
def yX10_mateOf : MethodName := ⟨RX10, "mateOf", "(I)I"⟩
abbrev cX10_mate : ByteArray := prog_12_method_118_code
def yX10_mate : MethodName := ⟨RX10, "mate", "(II)I"⟩
abbrev cX10_jumpsFor : ByteArray := prog_12_method_119_code
def yX10_jumpsFor : MethodName := ⟨RX10, "jumpsFor", "(II)I"⟩
abbrev cX10_allJumps : ByteArray := prog_12_method_120_code
def yX10_allJumps : MethodName := ⟨RX10, "allJumps", "(I)I"⟩
abbrev cX10_mends : ByteArray := prog_12_method_121_code
def yX10_mends : MethodName := ⟨RX10, "mends", "(I)I"⟩
abbrev cX10_mendsAt : ByteArray := prog_12_method_122_code
def yX10_mendsAt : MethodName := ⟨RX10, "mendsAt", "(II)I"⟩
abbrev cX10_wrongSeen : ByteArray := prog_12_method_123_code
def yX10_wrongSeen : MethodName := ⟨RX10, "wrongSeen", "(III)I"⟩
abbrev cX10_laysFits : ByteArray := prog_12_method_124_code
def yX10_laysFits : MethodName := ⟨RX10, "laysFits", "(III)I"⟩
abbrev cX10_fits : ByteArray := prog_12_method_125_code
def yX10_fits : MethodName := ⟨RX10, "fits", "(III)I"⟩
abbrev cX10_fitsAt : ByteArray := prog_12_method_126_code
def yX10_fitsAt : MethodName := ⟨RX10, "fitsAt", "(IIII)I"⟩
abbrev cX10_mostAlike : ByteArray := prog_12_method_127_code
def yX10_mostAlike : MethodName := ⟨RX10, "mostAlike", "(I)I"⟩
abbrev cX10_ask : ByteArray := prog_12_method_128_code
def yX10_ask : MethodName := ⟨RX10, "ask", "(III)I"⟩
abbrev cX10_settles : ByteArray := prog_12_method_129_code
def yX10_settles : MethodName := ⟨RX10, "settles", "(II)V"⟩
abbrev cX10_doesDeed : ByteArray := prog_12_method_130_code
def yX10_doesDeed : MethodName := ⟨RX10, "doesDeed", "(II)Z"⟩
abbrev cX10_standing : ByteArray := prog_12_method_131_code
def yX10_standing : MethodName := ⟨RX10, "standing", "(II)I"⟩
abbrev cX10_playing : ByteArray := prog_12_method_132_code
def yX10_playing : MethodName := ⟨RX10, "playing", "(III)I"⟩
abbrev cX10_areTwo : ByteArray := prog_12_method_133_code
def yX10_areTwo : MethodName := ⟨RX10, "areTwo", "(II)Z"⟩
abbrev cX10_game : ByteArray := prog_12_method_134_code
def yX10_game : MethodName := ⟨RX10, "game", "(III)I"⟩
abbrev cX10_moveOf : ByteArray := prog_12_method_135_code
def yX10_moveOf : MethodName := ⟨RX10, "moveOf", "(III)I"⟩
abbrev cX10_plantsOf : ByteArray := prog_12_method_136_code
def yX10_plantsOf : MethodName := ⟨RX10, "plantsOf", "(II)I"⟩
abbrev cX10_gardenOf : ByteArray := prog_12_method_137_code
def yX10_gardenOf : MethodName := ⟨RX10, "gardenOf", "(I)I"⟩
abbrev cX10_garden : ByteArray := prog_12_method_138_code
def yX10_garden : MethodName := ⟨RX10, "garden", "(I)I"⟩
abbrev cX10_gardenSet : ByteArray := prog_12_method_139_code
def yX10_gardenSet : MethodName := ⟨RX10, "gardenSet", "(I)I"⟩
abbrev cX10_tellsDry : ByteArray := prog_12_method_140_code
def yX10_tellsDry : MethodName := ⟨RX10, "tellsDry", "(I)Z"⟩
abbrev cX10_ahead0 : ByteArray := prog_12_method_141_code
def yX10_ahead0 : MethodName := ⟨RX10, "ahead0", "(I)I"⟩
abbrev cX10_chance : ByteArray := prog_12_method_142_code
def yX10_chance : MethodName := ⟨RX10, "chance", "(I)Z"⟩
abbrev cX10_hope : ByteArray := prog_12_method_143_code
def yX10_hope : MethodName := ⟨RX10, "hope", "(II)Z"⟩
abbrev cX10_copyAt : ByteArray := prog_12_method_144_code
def yX10_copyAt : MethodName := ⟨RX10, "copyAt", "(I)I"⟩
abbrev cX10_draw : ByteArray := prog_12_method_145_code
def yX10_draw : MethodName := ⟨RX10, "draw", "(I)I"⟩
abbrev cX10_runsBy : ByteArray := prog_12_method_146_code
def yX10_runsBy : MethodName := ⟨RX10, "runsBy", "(I)Z"⟩
abbrev cX10_ropesBy : ByteArray := prog_12_method_147_code
def yX10_ropesBy : MethodName := ⟨RX10, "ropesBy", "(II)Z"⟩
abbrev cX10_daysBy : ByteArray := prog_12_method_148_code
def yX10_daysBy : MethodName := ⟨RX10, "daysBy", "(I)Z"⟩
abbrev cX10_fogsTo : ByteArray := prog_12_method_149_code
def yX10_fogsTo : MethodName := ⟨RX10, "fogsTo", "(I)Z"⟩
abbrev cX10_doesAny : ByteArray := prog_12_method_150_code
def yX10_doesAny : MethodName := ⟨RX10, "doesAny", "()Z"⟩
abbrev cX10_does : ByteArray := prog_12_method_151_code
def yX10_does : MethodName := ⟨RX10, "does", "(I)Z"⟩
abbrev cX10_holds : ByteArray := prog_12_method_152_code
def yX10_holds : MethodName := ⟨RX10, "holds", "(I)Z"⟩
abbrev cX10_behindEnds : ByteArray := prog_12_method_153_code
def yX10_behindEnds : MethodName := ⟨RX10, "behindEnds", "(I)I"⟩
abbrev cX10_lives : ByteArray := prog_12_method_154_code
def yX10_lives : MethodName := ⟨RX10, "lives", "(I)V"⟩
abbrev cX10_live : ByteArray := prog_12_method_155_code
def yX10_live : MethodName := ⟨RX10, "live", "(I)I"⟩
abbrev cX10_lived : ByteArray := prog_12_method_156_code
def yX10_lived : MethodName := ⟨RX10, "lived", "(I)I"⟩
abbrev cX10_mean : ByteArray := prog_12_method_157_code
def yX10_mean : MethodName := ⟨RX10, "mean", "(II)Z"⟩
abbrev cX10_copies : ByteArray := prog_12_method_158_code
def yX10_copies : MethodName := ⟨RX10, "copies", "(II)V"⟩
abbrev cX10_mark : ByteArray := prog_12_method_159_code
def yX10_mark : MethodName := ⟨RX10, "mark", "()I"⟩
abbrev cX10_undo : ByteArray := prog_12_method_160_code
def yX10_undo : MethodName := ⟨RX10, "undo", "()I"⟩
def RJx145de : String := "java/io/Serializable"
def TJx145de : u_T := fun k => match k with
  | _ => ("", "", "", false)
def tyJx145de : Nat → FieldType := fun k => match k with
  | _ => .int
abbrev wsJx145de0 : List Cond := u_ws RJx145de TJx145de 0
theorem nmJx145de : ∀ a, a < 0 → ∀ b, b < 0 → a ≠ b → (TJx145de a).2.1 ≠ (TJx145de b).2.1 := by decide +kernel
theorem tyJx145de_ok : ∀ k, k < 0 → parseFieldDescriptor (TJx145de k).2.2.1 = some (tyJx145de k) := by decide +kernel
def RJx9f9b0 : String := "java/lang/CharSequence"
def TJx9f9b0 : u_T := fun k => match k with
  | _ => ("", "", "", false)
def tyJx9f9b0 : Nat → FieldType := fun k => match k with
  | _ => .int
abbrev wsJx9f9b00 : List Cond := u_ws RJx9f9b0 TJx9f9b0 0
theorem nmJx9f9b0 : ∀ a, a < 0 → ∀ b, b < 0 → a ≠ b → (TJx9f9b0 a).2.1 ≠ (TJx9f9b0 b).2.1 := by decide +kernel
theorem tyJx9f9b0_ok : ∀ k, k < 0 → parseFieldDescriptor (TJx9f9b0 k).2.2.1 = some (tyJx9f9b0 k) := by decide +kernel
def RJxb160c : String := "java/lang/Comparable"
def TJxb160c : u_T := fun k => match k with
  | _ => ("", "", "", false)
def tyJxb160c : Nat → FieldType := fun k => match k with
  | _ => .int
abbrev wsJxb160c0 : List Cond := u_ws RJxb160c TJxb160c 0
theorem nmJxb160c : ∀ a, a < 0 → ∀ b, b < 0 → a ≠ b → (TJxb160c a).2.1 ≠ (TJxb160c b).2.1 := by decide +kernel
theorem tyJxb160c_ok : ∀ k, k < 0 → parseFieldDescriptor (TJxb160c k).2.2.1 = some (tyJxb160c k) := by decide +kernel
def RJ6 : String := "java/lang/Integer"
def TJ6 : u_T := fun k => match k with
  | _ => ("", "", "", false)
def tyJ6 : Nat → FieldType := fun k => match k with
  | _ => .int
abbrev wsJ60 : List Cond := u_ws RJ6 TJ6 0
theorem nmJ6 : ∀ a, a < 0 → ∀ b, b < 0 → a ≠ b → (TJ6 a).2.1 ≠ (TJ6 b).2.1 := by decide +kernel
theorem tyJ6_ok : ∀ k, k < 0 → parseFieldDescriptor (TJ6 k).2.2.1 = some (tyJ6 k) := by decide +kernel
abbrev cJ6_bitCount_0f7a4 : ByteArray := prog_13_method_49_code
def yJ6_bitCount_0f7a4 : MethodName := ⟨RJ6, "bitCount", "(I)I"⟩
def RJ9 : String := "java/lang/Math"
def TJ9 : u_T := fun k => match k with
  | _ => ("", "", "", false)
def tyJ9 : Nat → FieldType := fun k => match k with
  | _ => .int
abbrev wsJ90 : List Cond := u_ws RJ9 TJ9 0
theorem nmJ9 : ∀ a, a < 0 → ∀ b, b < 0 → a ≠ b → (TJ9 a).2.1 ≠ (TJ9 b).2.1 := by decide +kernel
theorem tyJ9_ok : ∀ k, k < 0 → parseFieldDescriptor (TJ9 k).2.2.1 = some (tyJ9 k) := by decide +kernel
abbrev cJ9_max_7cf53 : ByteArray := prog_14_method_65_code
def yJ9_max_7cf53 : MethodName := ⟨RJ9, "max", "(II)I"⟩
abbrev cJ9_min_7cf53 : ByteArray := prog_14_method_69_code
def yJ9_min_7cf53 : MethodName := ⟨RJ9, "min", "(II)I"⟩
def RJ0 : String := "java/lang/String"
def TJ0 : u_T := fun k => match k with
  | _ => ("", "", "", false)
def tyJ0 : Nat → FieldType := fun k => match k with
  | _ => .int
abbrev wsJ00 : List Cond := u_ws RJ0 TJ0 0
theorem nmJ0 : ∀ a, a < 0 → ∀ b, b < 0 → a ≠ b → (TJ0 a).2.1 ≠ (TJ0 b).2.1 := by decide +kernel
theorem tyJ0_ok : ∀ k, k < 0 → parseFieldDescriptor (TJ0 k).2.2.1 = some (tyJ0 k) := by decide +kernel
abbrev cJ0_length_8abf5 : ByteArray := prog_15_method_54_code
def yJ0_length_8abf5 : MethodName := ⟨RJ0, "length", "()I"⟩
abbrev cJ0_charAt_5068e : ByteArray := prog_15_method_56_code
def yJ0_charAt_5068e : MethodName := ⟨RJ0, "charAt", "(I)C"⟩
abbrev cJ0_coder_7d493 : ByteArray := prog_15_method_152_code
def yJ0_coder_7d493 : MethodName := ⟨RJ0, "coder", "()B"⟩
abbrev cJ0_isLatin1_aae02 : ByteArray := prog_15_method_154_code
def yJ0_isLatin1_aae02 : MethodName := ⟨RJ0, "isLatin1", "()Z"⟩
abbrev cJ0_checkIndex_df160 : ByteArray := prog_15_method_155_code
def yJ0_checkIndex_df160 : MethodName := ⟨RJ0, "checkIndex", "(II)V"⟩
def RJ1 : String := "java/lang/StringLatin1"
def TJ1 : u_T := fun k => match k with
  | _ => ("", "", "", false)
def tyJ1 : Nat → FieldType := fun k => match k with
  | _ => .int
abbrev wsJ10 : List Cond := u_ws RJ1 TJ1 0
theorem nmJ1 : ∀ a, a < 0 → ∀ b, b < 0 → a ≠ b → (TJ1 a).2.1 ≠ (TJ1 b).2.1 := by decide +kernel
theorem tyJ1_ok : ∀ k, k < 0 → parseFieldDescriptor (TJ1 k).2.2.1 = some (tyJ1 k) := by decide +kernel
abbrev cJ1_charAt_3b067 : ByteArray := prog_16_method_2_code
def yJ1_charAt_3b067 : MethodName := ⟨RJ1, "charAt", "([BI)C"⟩
def RJ2 : String := "java/lang/StringUTF16"
def TJ2 : u_T := fun k => match k with
  | _ => ("", "", "", false)
def tyJ2 : Nat → FieldType := fun k => match k with
  | _ => .int
abbrev wsJ20 : List Cond := u_ws RJ2 TJ2 0
theorem nmJ2 : ∀ a, a < 0 → ∀ b, b < 0 → a ≠ b → (TJ2 a).2.1 ≠ (TJ2 b).2.1 := by decide +kernel
theorem tyJ2_ok : ∀ k, k < 0 → parseFieldDescriptor (TJ2 k).2.2.1 = some (tyJ2 k) := by decide +kernel
abbrev cJ2_getChar_3b067 : ByteArray := prog_17_method_5_code
def yJ2_getChar_3b067 : MethodName := ⟨RJ2, "getChar", "([BI)C"⟩
abbrev cJ2_length_9d52b : ByteArray := prog_17_method_6_code
def yJ2_length_9d52b : MethodName := ⟨RJ2, "length", "([B)I"⟩
abbrev cJ2_charAt_3b067 : ByteArray := prog_17_method_83_code
def yJ2_charAt_3b067 : MethodName := ⟨RJ2, "charAt", "([BI)C"⟩
abbrev cJ2_checkIndex_2214a : ByteArray := prog_17_method_91_code
def yJ2_checkIndex_2214a : MethodName := ⟨RJ2, "checkIndex", "(I[B)V"⟩
def RJ10 : String := "java/lang/System"
def TJ10 : u_T := fun k => match k with
  | _ => ("", "", "", false)
def tyJ10 : Nat → FieldType := fun k => match k with
  | _ => .int
abbrev wsJ100 : List Cond := u_ws RJ10 TJ10 0
theorem nmJ10 : ∀ a, a < 0 → ∀ b, b < 0 → a ≠ b → (TJ10 a).2.1 ≠ (TJ10 b).2.1 := by decide +kernel
theorem tyJ10_ok : ∀ k, k < 0 → parseFieldDescriptor (TJ10 k).2.2.1 = some (tyJ10 k) := by decide +kernel
def RJxfd54e : String := "java/lang/constant/Constable"
def TJxfd54e : u_T := fun k => match k with
  | _ => ("", "", "", false)
def tyJxfd54e : Nat → FieldType := fun k => match k with
  | _ => .int
abbrev wsJxfd54e0 : List Cond := u_ws RJxfd54e TJxfd54e 0
theorem nmJxfd54e : ∀ a, a < 0 → ∀ b, b < 0 → a ≠ b → (TJxfd54e a).2.1 ≠ (TJxfd54e b).2.1 := by decide +kernel
theorem tyJxfd54e_ok : ∀ k, k < 0 → parseFieldDescriptor (TJxfd54e k).2.2.1 = some (tyJxfd54e k) := by decide +kernel
def RJx3cf43 : String := "java/lang/constant/ConstantDesc"
def TJx3cf43 : u_T := fun k => match k with
  | _ => ("", "", "", false)
def tyJx3cf43 : Nat → FieldType := fun k => match k with
  | _ => .int
abbrev wsJx3cf430 : List Cond := u_ws RJx3cf43 TJx3cf43 0
theorem nmJx3cf43 : ∀ a, a < 0 → ∀ b, b < 0 → a ≠ b → (TJx3cf43 a).2.1 ≠ (TJx3cf43 b).2.1 := by decide +kernel
theorem tyJx3cf43_ok : ∀ k, k < 0 → parseFieldDescriptor (TJx3cf43 k).2.2.1 = some (tyJx3cf43 k) := by decide +kernel
def RJ7 : String := "java/util/Arrays"
def TJ7 : u_T := fun k => match k with
  | _ => ("", "", "", false)
def tyJ7 : Nat → FieldType := fun k => match k with
  | _ => .int
abbrev wsJ70 : List Cond := u_ws RJ7 TJ7 0
theorem nmJ7 : ∀ a, a < 0 → ∀ b, b < 0 → a ≠ b → (TJ7 a).2.1 ≠ (TJ7 b).2.1 := by decide +kernel
theorem tyJ7_ok : ∀ k, k < 0 → parseFieldDescriptor (TJ7 k).2.2.1 = some (tyJ7 k) := by decide +kernel
abbrev cJ7_fill_d0a16 : ByteArray := prog_19_method_101_code
def yJ7_fill_d0a16 : MethodName := ⟨RJ7, "fill", "([JJ)V"⟩
def RJ3 : String := "jdk/internal/util/Preconditions"
def TJ3 : u_T := fun k => match k with
  | _ => ("", "", "", false)
def tyJ3 : Nat → FieldType := fun k => match k with
  | _ => .int
abbrev wsJ30 : List Cond := u_ws RJ3 TJ3 0
theorem nmJ3 : ∀ a, a < 0 → ∀ b, b < 0 → a ≠ b → (TJ3 a).2.1 ≠ (TJ3 b).2.1 := by decide +kernel
theorem tyJ3_ok : ∀ k, k < 0 → parseFieldDescriptor (TJ3 k).2.2.1 = some (tyJ3 k) := by decide +kernel
abbrev cJ3_checkIndex_8e157 : ByteArray := prog_20_method_11_code
def yJ3_checkIndex_8e157 : MethodName := ⟨RJ3, "checkIndex", "(IILjava/util/function/BiFunction;)I"⟩
def RL : String := "LeapArchesLaw"
abbrev cL_law : ByteArray := code
def yL_law : MethodName := ⟨RL, "law", "([I)Z"⟩
abbrev vwCl : List vw_C := [(RX0, TX0, 4), (RX1, TX1, 4), (RX2, TX2, 7), (RX3, TX3, 9), (RX4, TX4, 5), (RX5, TX5, 14), (RX6, TX6, 3), (RX7, TX7, 20), (RX8, TX8, 2), (RX9, TX9, 19), (RX10, TX10, 39)]
end
section
/-! A small machine of our own: ints, longs and references as mathematical values, a memory of cells by number.
Its runs are tied to the real machine in part 03; everything later is said of it alone. -/
abbrev MV : Type := Int ⊕ (Int ⊕ Nat)
abbrev vI (z : Int) : MV := Sum.inl z
abbrev vL (z : Int) : MV := Sum.inr (Sum.inl z)
abbrev vR (r : Nat) : MV := Sum.inr (Sum.inr r)
/-- shapes (kind, length) of the cells; numbers by cell and place; references by cell and place -/
abbrev Mem : Type := List (Nat × Nat) × (Nat → Int → Int) × (Nat → Int → Nat)
abbrev Lo : Type := List (Option MV)
abbrev Info : Type := Nat × Int × Int × List (Int × Nat)
abbrev OpI : Type := Instr × Info
abbrev RetP : Type := Option MV → Mem → Prop
abbrev Cal : Type := Nat → List MV → Mem → RetP → Prop
abbrev Jmp : Type := Nat → Lo → List MV → Mem → Prop
abbrev Blk : Type := Lo → List MV → Mem → Prop
def totS (S : List (Nat × Nat)) : Nat := (S.map (·.2)).sum
end
section
/-! the methods' instructions, by program out of javap's listing -/
abbrev i0 : Info := (0, 0, 0, [])
def KX6_init : List (Nat × List OpI) := [(0, [(.aload_n 0, i0), (.invokespecial 3, (1999, 0, 0, [])), (.aload_n 0, i0), (.bipush 60, i0), (.newarray .long, (101, 0, 0, [])), (.putfield 9, (6, 0, 2, [])), (.aload_n 0, i0), (.iconst 0, i0), (.putfield 15, (6, 1, 0, [])), (.aload_n 0, i0), (.iconst (-1), i0), (.putfield 19, (6, 2, 0, [])), (.return_, i0)])]
def KX6_isMissing : List (Nat × List OpI) := [(0, [(.aload_n 0, i0), (.getfield 19, (6, 2, 0, [])), (.iconst (-1), i0), (.if_icmp .ne 7, (12, 0, 0, [])), (.iconst 1, i0), (.goto 4, (13, 0, 0, []))]),
  (12, [(.iconst 0, i0), (.nop, (13, 0, 0, []))]),
  (13, [(.ireturn, (1, 0, 0, []))])]
def KX6_hasPlace : List (Nat × List OpI) := [(0, [(.iload_n 1, i0), (.ifCond .lt 15, (16, 0, 0, [])), (.iload_n 1, i0), (.aload_n 0, i0), (.getfield 19, (6, 2, 0, [])), (.if_icmp .ge 7, (16, 0, 0, [])), (.iconst 1, i0), (.goto 4, (17, 0, 0, []))]),
  (16, [(.iconst 0, i0), (.nop, (17, 0, 0, []))]),
  (17, [(.ireturn, (1, 0, 0, []))])]
def KX6_hasRow : List (Nat × List OpI) := [(0, [(.iload_n 1, i0), (.ifCond .lt 25, (26, 0, 0, [])), (.iload_n 2, i0), (.ifCond .lt 21, (26, 0, 0, [])), (.iload_n 1, i0), (.i2l, i0), (.iload_n 2, i0), (.i2l, i0), (.ladd, i0), (.aload_n 0, i0), (.getfield 19, (6, 2, 0, [])), (.i2l, i0), (.lcmp, i0), (.ifCond .gt 7, (26, 0, 0, [])), (.iconst 1, i0), (.goto 4, (27, 0, 0, []))]),
  (26, [(.iconst 0, i0), (.nop, (27, 0, 0, []))]),
  (27, [(.ireturn, (1, 0, 0, []))])]
def KX6_lay : List (Nat × List OpI) := [(0, [(.aload_n 0, i0), (.getfield 9, (6, 0, 2, [])), (.lconst 0, i0), (.invokestatic 22, (352, 2, 0, [])), (.aload_n 0, i0), (.iload_n 1, i0), (.putfield 15, (6, 1, 0, [])), (.aload_n 0, i0), (.iload_n 2, i0), (.putfield 19, (6, 2, 0, [])), (.return_, i0)])]
def KX6_put : List (Nat × List OpI) := [(0, [(.aload_n 0, i0), (.iload_n 1, i0), (.invokevirtual 28, (2, 2, 6, [])), (.ifCond .eq 14, (19, 0, 0, [])), (.aload_n 0, i0), (.getfield 9, (6, 0, 2, [])), (.iload_n 1, i0), (.aload_n 0, i0), (.lload_n 2, i0), (.invokevirtual 32, (6, 2, 6, [])), (.lastore, i0), (.nop, (19, 0, 0, []))]),
  (19, [(.return_, i0)])]
def KX6_cut : List (Nat × List OpI) := [(0, [(.aload_n 0, i0), (.getfield 15, (6, 1, 0, [])), (.tableswitch 42 0 2 #[28, 33, 38], (46, 28, 0, [(0, 32), (1, 37), (2, 42)]))]),
  (32, [(.lload_n 1, i0), (.l2i, i0), (.i2b, i0), (.i2l, i0), (.lreturn, i0)]),
  (37, [(.lload_n 1, i0), (.l2i, i0), (.i2s, i0), (.i2l, i0), (.lreturn, i0)]),
  (42, [(.lload_n 1, i0), (.l2i, i0), (.i2l, i0), (.lreturn, i0)]),
  (46, [(.lload_n 1, i0), (.lreturn, i0)])]
def KX7_init : List (Nat × List OpI) := [(0, [(.aload_n 0, i0), (.invokespecial 3, (1999, 0, 0, [])), (.aload_n 0, i0), (.bipush 9, i0), (.newarray .int, (100, 0, 0, [])), (.putfield 9, (7, 1, 2, [])), (.aload_n 0, i0), (.bipush 9, i0), (.newarray .int, (100, 0, 0, [])), (.putfield 15, (7, 2, 2, [])), (.aload_n 0, i0), (.bipush 9, i0), (.newarray .int, (100, 0, 0, [])), (.putfield 18, (7, 3, 2, [])), (.aload_n 0, i0), (.bipush 6, i0), (.newarray .long, (101, 0, 0, [])), (.putfield 21, (7, 6, 2, [])), (.aload_n 0, i0), (.bipush 6, i0), (.newarray .int, (100, 0, 0, [])), (.putfield 25, (7, 7, 2, [])), (.aload_n 0, i0), (.bipush 6, i0), (.newarray .int, (100, 0, 0, [])), (.putfield 28, (7, 8, 2, [])), (.aload_n 0, i0), (.bipush 6, i0), (.newarray .int, (100, 0, 0, [])), (.putfield 31, (7, 9, 2, [])), (.aload_n 0, i0), (.bipush 6, i0), (.newarray .int, (100, 0, 0, [])), (.putfield 34, (7, 10, 2, [])), (.aload_n 0, i0), (.bipush 6, i0), (.newarray .int, (100, 0, 0, [])), (.putfield 37, (7, 11, 2, [])), (.aload_n 0, i0), (.bipush 6, i0), (.newarray .int, (100, 0, 0, [])), (.putfield 40, (7, 12, 2, [])), (.aload_n 0, i0), (.bipush 8, i0), (.newarray .int, (100, 0, 0, [])), (.putfield 43, (7, 14, 2, [])), (.aload_n 0, i0), (.bipush 8, i0), (.newarray .int, (100, 0, 0, [])), (.putfield 46, (7, 15, 2, [])), (.aload_n 0, i0), (.invokevirtual 49, (8, 1, 7, [])), (.return_, i0)])]
def KX7_clear : List (Nat × List OpI) := [(0, [(.aload_n 0, i0), (.iconst 0, i0), (.putfield 52, (7, 0, 0, [])), (.aload_n 0, i0), (.iconst 0, i0), (.putfield 56, (7, 4, 0, [])), (.aload_n 0, i0), (.iconst 0, i0), (.putfield 59, (7, 5, 0, [])), (.aload_n 0, i0), (.iconst 0, i0), (.putfield 62, (7, 13, 0, [])), (.aload_n 0, i0), (.iconst 3, i0), (.putfield 65, (7, 16, 0, [])), (.aload_n 0, i0), (.iconst 0, i0), (.putfield 68, (7, 17, 0, [])), (.aload_n 0, i0), (.iconst 2, i0), (.putfield 71, (7, 18, 0, [])), (.aload_n 0, i0), (.iconst 0, i0), (.putfield 74, (7, 19, 0, [])), (.return_, i0)])]
def KX7_takeOver : List (Nat × List OpI) := [(0, [(.aload_n 0, i0), (.aload_n 1, i0), (.getfield 52, (7, 0, 0, [])), (.putfield 52, (7, 0, 0, [])), (.aload_n 1, i0), (.getfield 9, (7, 1, 2, [])), (.iconst 0, i0), (.aload_n 0, i0), (.getfield 9, (7, 1, 2, [])), (.iconst 0, i0), (.bipush 9, i0), (.invokestatic 77, (1003, 100, 0, [])), (.aload_n 1, i0), (.getfield 15, (7, 2, 2, [])), (.iconst 0, i0), (.aload_n 0, i0), (.getfield 15, (7, 2, 2, [])), (.iconst 0, i0), (.bipush 9, i0), (.invokestatic 77, (1003, 100, 0, [])), (.aload_n 1, i0), (.getfield 18, (7, 3, 2, [])), (.iconst 0, i0), (.aload_n 0, i0), (.getfield 18, (7, 3, 2, [])), (.iconst 0, i0), (.bipush 9, i0), (.invokestatic 77, (1003, 100, 0, [])), (.aload_n 0, i0), (.aload_n 1, i0), (.getfield 56, (7, 4, 0, [])), (.putfield 56, (7, 4, 0, [])), (.aload_n 0, i0), (.aload_n 1, i0), (.getfield 59, (7, 5, 0, [])), (.putfield 59, (7, 5, 0, [])), (.aload_n 1, i0), (.getfield 21, (7, 6, 2, [])), (.iconst 0, i0), (.aload_n 0, i0), (.getfield 21, (7, 6, 2, [])), (.iconst 0, i0), (.bipush 6, i0), (.invokestatic 77, (1003, 101, 0, [])), (.aload_n 1, i0), (.getfield 25, (7, 7, 2, [])), (.iconst 0, i0), (.aload_n 0, i0), (.getfield 25, (7, 7, 2, [])), (.iconst 0, i0), (.bipush 6, i0), (.invokestatic 77, (1003, 100, 0, [])), (.aload_n 1, i0), (.getfield 28, (7, 8, 2, [])), (.iconst 0, i0), (.aload_n 0, i0), (.getfield 28, (7, 8, 2, [])), (.iconst 0, i0), (.bipush 6, i0), (.invokestatic 77, (1003, 100, 0, [])), (.aload_n 1, i0), (.getfield 31, (7, 9, 2, [])), (.iconst 0, i0), (.aload_n 0, i0), (.getfield 31, (7, 9, 2, [])), (.iconst 0, i0), (.bipush 6, i0), (.invokestatic 77, (1003, 100, 0, [])), (.aload_n 1, i0), (.getfield 34, (7, 10, 2, [])), (.iconst 0, i0), (.aload_n 0, i0), (.getfield 34, (7, 10, 2, [])), (.iconst 0, i0), (.bipush 6, i0), (.invokestatic 77, (1003, 100, 0, [])), (.aload_n 1, i0), (.getfield 37, (7, 11, 2, [])), (.iconst 0, i0), (.aload_n 0, i0), (.getfield 37, (7, 11, 2, [])), (.iconst 0, i0), (.bipush 6, i0), (.invokestatic 77, (1003, 100, 0, [])), (.aload_n 1, i0), (.getfield 40, (7, 12, 2, [])), (.iconst 0, i0), (.aload_n 0, i0), (.getfield 40, (7, 12, 2, [])), (.iconst 0, i0), (.bipush 6, i0), (.invokestatic 77, (1003, 100, 0, [])), (.aload_n 0, i0), (.aload_n 1, i0), (.getfield 62, (7, 13, 0, [])), (.putfield 62, (7, 13, 0, [])), (.aload_n 1, i0), (.getfield 43, (7, 14, 2, [])), (.iconst 0, i0), (.aload_n 0, i0), (.getfield 43, (7, 14, 2, [])), (.iconst 0, i0), (.bipush 8, i0), (.invokestatic 77, (1003, 100, 0, [])), (.aload_n 1, i0), (.getfield 46, (7, 15, 2, [])), (.iconst 0, i0), (.aload_n 0, i0), (.getfield 46, (7, 15, 2, [])), (.iconst 0, i0), (.bipush 8, i0), (.invokestatic 77, (1003, 100, 0, [])), (.aload_n 0, i0), (.aload_n 1, i0), (.getfield 65, (7, 16, 0, [])), (.putfield 65, (7, 16, 0, [])), (.aload_n 0, i0), (.aload_n 1, i0), (.getfield 68, (7, 17, 0, [])), (.putfield 68, (7, 17, 0, [])), (.aload_n 0, i0), (.aload_n 1, i0), (.getfield 71, (7, 18, 0, [])), (.putfield 71, (7, 18, 0, [])), (.aload_n 0, i0), (.aload_n 1, i0), (.getfield 74, (7, 19, 0, [])), (.putfield 74, (7, 19, 0, [])), (.return_, i0)])]
def KX7_addArch : List (Nat × List OpI) := [(0, [(.aload_n 0, i0), (.getfield 52, (7, 0, 0, [])), (.bipush 9, i0), (.if_icmp .lt 4, (10, 0, 0, [])), (.return_, i0)]),
  (10, [(.aload_n 0, i0), (.getfield 9, (7, 1, 2, [])), (.aload_n 0, i0), (.getfield 52, (7, 0, 0, [])), (.iload_n 1, i0), (.iastore, i0), (.aload_n 0, i0), (.getfield 15, (7, 2, 2, [])), (.aload_n 0, i0), (.getfield 52, (7, 0, 0, [])), (.iconst 0, i0), (.iastore, i0), (.aload_n 0, i0), (.getfield 18, (7, 3, 2, [])), (.aload_n 0, i0), (.getfield 52, (7, 0, 0, [])), (.iload_n 2, i0), (.iastore, i0), (.aload_n 0, i0), (.dup, i0), (.getfield 52, (7, 0, 0, [])), (.iconst 1, i0), (.iadd, i0), (.putfield 52, (7, 0, 0, [])), (.return_, i0)])]
def KX7_addPerson : List (Nat × List OpI) := [(0, [(.aload_n 0, i0), (.getfield 59, (7, 5, 0, [])), (.bipush 6, i0), (.if_icmp .lt 4, (10, 0, 0, [])), (.return_, i0)]),
  (10, [(.aload_n 0, i0), (.getfield 21, (7, 6, 2, [])), (.aload_n 0, i0), (.getfield 59, (7, 5, 0, [])), (.lload_n 1, i0), (.lastore, i0), (.aload_n 0, i0), (.getfield 25, (7, 7, 2, [])), (.aload_n 0, i0), (.getfield 59, (7, 5, 0, [])), (.iload_n 3, i0), (.iastore, i0), (.aload_n 0, i0), (.getfield 28, (7, 8, 2, [])), (.aload_n 0, i0), (.getfield 59, (7, 5, 0, [])), (.iconst 1, i0), (.iastore, i0), (.aload_n 0, i0), (.getfield 31, (7, 9, 2, [])), (.aload_n 0, i0), (.getfield 59, (7, 5, 0, [])), (.iconst 0, i0), (.iastore, i0), (.aload_n 0, i0), (.getfield 34, (7, 10, 2, [])), (.aload_n 0, i0), (.getfield 59, (7, 5, 0, [])), (.iconst 0, i0), (.iastore, i0), (.aload_n 0, i0), (.getfield 37, (7, 11, 2, [])), (.aload_n 0, i0), (.getfield 59, (7, 5, 0, [])), (.iconst 0, i0), (.iastore, i0), (.aload_n 0, i0), (.getfield 40, (7, 12, 2, [])), (.aload_n 0, i0), (.getfield 59, (7, 5, 0, [])), (.iconst 0, i0), (.iastore, i0), (.aload_n 0, i0), (.dup, i0), (.getfield 59, (7, 5, 0, [])), (.iconst 1, i0), (.iadd, i0), (.putfield 59, (7, 5, 0, [])), (.return_, i0)])]
def KX7_addPlant : List (Nat × List OpI) := [(0, [(.aload_n 0, i0), (.getfield 62, (7, 13, 0, [])), (.bipush 8, i0), (.if_icmp .lt 4, (10, 0, 0, [])), (.return_, i0)]),
  (10, [(.aload_n 0, i0), (.getfield 43, (7, 14, 2, [])), (.aload_n 0, i0), (.getfield 62, (7, 13, 0, [])), (.iload_n 1, i0), (.iastore, i0), (.aload_n 0, i0), (.getfield 46, (7, 15, 2, [])), (.aload_n 0, i0), (.getfield 62, (7, 13, 0, [])), (.iload_n 2, i0), (.iastore, i0), (.aload_n 0, i0), (.dup, i0), (.getfield 62, (7, 13, 0, [])), (.iconst 1, i0), (.iadd, i0), (.putfield 62, (7, 13, 0, [])), (.return_, i0)])]
def KX7_hasArch : List (Nat × List OpI) := [(0, [(.iload_n 1, i0), (.ifCond .lt 15, (16, 0, 0, [])), (.iload_n 1, i0), (.aload_n 0, i0), (.getfield 52, (7, 0, 0, [])), (.if_icmp .ge 7, (16, 0, 0, [])), (.iconst 1, i0), (.goto 4, (17, 0, 0, []))]),
  (16, [(.iconst 0, i0), (.nop, (17, 0, 0, []))]),
  (17, [(.ireturn, (1, 0, 0, []))])]
def KX7_hasPerson : List (Nat × List OpI) := [(0, [(.iload_n 1, i0), (.ifCond .lt 15, (16, 0, 0, [])), (.iload_n 1, i0), (.aload_n 0, i0), (.getfield 59, (7, 5, 0, [])), (.if_icmp .ge 7, (16, 0, 0, [])), (.iconst 1, i0), (.goto 4, (17, 0, 0, []))]),
  (16, [(.iconst 0, i0), (.nop, (17, 0, 0, []))]),
  (17, [(.ireturn, (1, 0, 0, []))])]
def KX7_hasTwo : List (Nat × List OpI) := [(0, [(.aload_n 0, i0), (.iload_n 1, i0), (.invokevirtual 83, (14, 2, 7, [])), (.ifCond .eq 20, (25, 0, 0, [])), (.aload_n 0, i0), (.iload_n 2, i0), (.invokevirtual 83, (14, 2, 7, [])), (.ifCond .eq 12, (25, 0, 0, [])), (.iload_n 1, i0), (.iload_n 2, i0), (.if_icmp .eq 7, (25, 0, 0, [])), (.iconst 1, i0), (.goto 4, (26, 0, 0, []))]),
  (25, [(.iconst 0, i0), (.nop, (26, 0, 0, []))]),
  (26, [(.ireturn, (1, 0, 0, []))])]
def KX7_personNamed : List (Nat × List OpI) := [(0, [(.iconst 0, i0), (.istore_n 3, i0), (.nop, (2, 0, 0, []))]),
  (2, [(.iload_n 3, i0), (.aload_n 0, i0), (.getfield 59, (7, 5, 0, [])), (.if_icmp .ge 22, (29, 0, 0, [])), (.aload_n 0, i0), (.getfield 21, (7, 6, 2, [])), (.iload_n 3, i0), (.laload, i0), (.lload_n 1, i0), (.lcmp, i0), (.ifCond .ne 5, (23, 0, 0, [])), (.iload_n 3, i0), (.ireturn, (0, 0, 0, []))]),
  (23, [(.iinc 3 1, i0), (.goto (-24), (2, 0, 0, []))]),
  (29, [(.iconst (-1), i0), (.ireturn, (0, 0, 0, []))])]
def KX7_isOver : List (Nat × List OpI) := [(0, [(.aload_n 0, i0), (.getfield 34, (7, 10, 2, [])), (.iload_n 1, i0), (.iaload, (100, 0, 0, [])), (.aload_n 0, i0), (.getfield 52, (7, 0, 0, [])), (.if_icmp .lt 7, (17, 0, 0, [])), (.iconst 1, i0), (.goto 4, (18, 0, 0, []))]),
  (17, [(.iconst 0, i0), (.nop, (18, 0, 0, []))]),
  (18, [(.ireturn, (1, 0, 0, []))])]
def KX7_peopleOver : List (Nat × List OpI) := [(0, [(.iconst 0, i0), (.istore_n 1, i0), (.iconst 0, i0), (.istore_n 2, i0), (.nop, (4, 0, 0, []))]),
  (4, [(.iload_n 2, i0), (.aload_n 0, i0), (.getfield 59, (7, 5, 0, [])), (.if_icmp .ge 23, (32, 0, 0, [])), (.aload_n 0, i0), (.iload_n 2, i0), (.invokevirtual 87, (17, 2, 7, [])), (.ifCond .eq 9, (26, 0, 0, [])), (.iload_n 1, i0), (.iconst 1, i0), (.iload_n 2, i0), (.ishl, i0), (.ior, i0), (.istore_n 1, i0), (.nop, (26, 0, 0, []))]),
  (26, [(.iinc 2 1, i0), (.goto (-25), (4, 0, 0, []))]),
  (32, [(.iload_n 1, i0), (.ireturn, (0, 0, 0, []))])]
def KX7_paidByAll : List (Nat × List OpI) := [(0, [(.aload_n 0, i0), (.aload_n 0, i0), (.getfield 37, (7, 11, 2, [])), (.invokevirtual 90, (22, 2, 7, [])), (.ireturn, (0, 0, 0, []))])]
def KX7_fellByAll : List (Nat × List OpI) := [(0, [(.aload_n 0, i0), (.aload_n 0, i0), (.getfield 40, (7, 12, 2, [])), (.invokevirtual 90, (22, 2, 7, [])), (.ireturn, (0, 0, 0, []))])]
def KX7_behindAll : List (Nat × List OpI) := [(0, [(.aload_n 0, i0), (.aload_n 0, i0), (.getfield 34, (7, 10, 2, [])), (.invokevirtual 90, (22, 2, 7, [])), (.ireturn, (0, 0, 0, []))])]
def KX7_sumOfPeople : List (Nat × List OpI) := [(0, [(.iconst 0, i0), (.istore_n 2, i0), (.iconst 0, i0), (.istore_n 3, i0), (.nop, (4, 0, 0, []))]),
  (4, [(.iload_n 3, i0), (.aload_n 0, i0), (.getfield 59, (7, 5, 0, [])), (.if_icmp .ge 15, (24, 0, 0, [])), (.iload_n 2, i0), (.aload_n 1, i0), (.iload_n 3, i0), (.iaload, (100, 0, 0, [])), (.iadd, i0), (.istore_n 2, i0), (.iinc 3 1, i0), (.goto (-17), (4, 0, 0, []))]),
  (24, [(.iload_n 2, i0), (.ireturn, (0, 0, 0, []))])]
def KX7_strainBy : List (Nat × List OpI) := [(0, [(.aload_n 0, i0), (.getfield 25, (7, 7, 2, [])), (.iload_n 1, i0), (.iaload, (100, 0, 0, [])), (.aload_n 0, i0), (.getfield 31, (7, 9, 2, [])), (.iload_n 1, i0), (.iaload, (100, 0, 0, [])), (.isub, i0), (.iload_n 2, i0), (.iload_n 3, i0), (.imul, i0), (.iadd, i0), (.ireturn, (0, 0, 0, []))])]
def KX7_strainAlone : List (Nat × List OpI) := [(0, [(.aload_n 0, i0), (.iload_n 1, i0), (.aload_n 0, i0), (.getfield 28, (7, 8, 2, [])), (.iload_n 1, i0), (.iaload, (100, 0, 0, [])), (.aload_n 0, i0), (.getfield 15, (7, 2, 2, [])), (.iload_n 2, i0), (.iaload, (100, 0, 0, [])), (.aload_n 0, i0), (.getfield 68, (7, 17, 0, [])), (.iadd, i0), (.invokevirtual 94, (23, 4, 7, [])), (.ireturn, (0, 0, 0, []))])]
def KX7_strainRoped : List (Nat × List OpI) := [(0, [(.aload_n 0, i0), (.getfield 25, (7, 7, 2, [])), (.iload_n 1, i0), (.iaload, (100, 0, 0, [])), (.aload_n 0, i0), (.getfield 25, (7, 7, 2, [])), (.iload_n 2, i0), (.iaload, (100, 0, 0, [])), (.invokestatic 98, (1000, 2, 0, [])), (.istore 4, i0), (.aload_n 0, i0), (.getfield 25, (7, 7, 2, [])), (.iload_n 1, i0), (.iaload, (100, 0, 0, [])), (.aload_n 0, i0), (.getfield 25, (7, 7, 2, [])), (.iload_n 2, i0), (.iaload, (100, 0, 0, [])), (.invokestatic 104, (1001, 2, 0, [])), (.istore 5, i0), (.aload_n 0, i0), (.getfield 28, (7, 8, 2, [])), (.iload_n 1, i0), (.iaload, (100, 0, 0, [])), (.aload_n 0, i0), (.getfield 28, (7, 8, 2, [])), (.iload_n 2, i0), (.iaload, (100, 0, 0, [])), (.invokestatic 104, (1001, 2, 0, [])), (.istore 6, i0), (.iload 4, i0), (.iload 5, i0), (.iconst 2, i0), (.idiv, i0), (.iadd, i0), (.aload_n 0, i0), (.getfield 31, (7, 9, 2, [])), (.iload_n 1, i0), (.iaload, (100, 0, 0, [])), (.isub, i0), (.aload_n 0, i0), (.getfield 31, (7, 9, 2, [])), (.iload_n 2, i0), (.iaload, (100, 0, 0, [])), (.isub, i0), (.iload 6, i0), (.aload_n 0, i0), (.getfield 15, (7, 2, 2, [])), (.iload_n 3, i0), (.iaload, (100, 0, 0, [])), (.aload_n 0, i0), (.getfield 68, (7, 17, 0, [])), (.iadd, i0), (.imul, i0), (.iadd, i0), (.ireturn, (0, 0, 0, []))])]
def KX7_bearsAlone : List (Nat × List OpI) := [(0, [(.aload_n 0, i0), (.iload_n 1, i0), (.iload_n 2, i0), (.invokevirtual 107, (24, 3, 7, [])), (.aload_n 0, i0), (.getfield 9, (7, 1, 2, [])), (.iload_n 2, i0), (.iaload, (100, 0, 0, [])), (.if_icmp .gt 7, (19, 0, 0, [])), (.iconst 1, i0), (.goto 4, (20, 0, 0, []))]),
  (19, [(.iconst 0, i0), (.nop, (20, 0, 0, []))]),
  (20, [(.ireturn, (1, 0, 0, []))])]
def KX7_borneBy : List (Nat × List OpI) := [(0, [(.iconst 0, i0), (.istore_n 2, i0), (.iconst 0, i0), (.istore_n 3, i0), (.nop, (4, 0, 0, []))]),
  (4, [(.iload_n 3, i0), (.aload_n 0, i0), (.getfield 59, (7, 5, 0, [])), (.if_icmp .ge 24, (33, 0, 0, [])), (.aload_n 0, i0), (.iload_n 3, i0), (.iload_n 1, i0), (.invokevirtual 110, (26, 3, 7, [])), (.ifCond .eq 9, (27, 0, 0, [])), (.iload_n 2, i0), (.iconst 1, i0), (.iload_n 3, i0), (.ishl, i0), (.ior, i0), (.istore_n 2, i0), (.nop, (27, 0, 0, []))]),
  (27, [(.iinc 3 1, i0), (.goto (-26), (4, 0, 0, []))]),
  (33, [(.iload_n 2, i0), (.ireturn, (0, 0, 0, []))])]
def KX7_stopAlone : List (Nat × List OpI) := [(0, [(.aload_n 0, i0), (.iload_n 1, i0), (.aload_n 0, i0), (.getfield 34, (7, 10, 2, [])), (.iload_n 1, i0), (.iaload, (100, 0, 0, [])), (.aload_n 0, i0), (.getfield 28, (7, 8, 2, [])), (.iload_n 1, i0), (.iaload, (100, 0, 0, [])), (.aload_n 0, i0), (.getfield 68, (7, 17, 0, [])), (.invokevirtual 114, (29, 5, 7, [])), (.ireturn, (0, 0, 0, []))])]
def KX7_stopBy : List (Nat × List OpI) := [(0, [(.iload_n 2, i0), (.istore 5, i0), (.nop, (3, 0, 0, []))]),
  (3, [(.iload 5, i0), (.aload_n 0, i0), (.getfield 52, (7, 0, 0, [])), (.if_icmp .ge 35, (44, 0, 0, [])), (.aload_n 0, i0), (.iload_n 1, i0), (.iload_n 3, i0), (.aload_n 0, i0), (.getfield 15, (7, 2, 2, [])), (.iload 5, i0), (.iaload, (100, 0, 0, [])), (.iload 4, i0), (.iadd, i0), (.invokevirtual 94, (23, 4, 7, [])), (.aload_n 0, i0), (.getfield 9, (7, 1, 2, [])), (.iload 5, i0), (.iaload, (100, 0, 0, [])), (.if_icmp .gt 9, (44, 0, 0, [])), (.iinc 5 1, i0), (.goto (-38), (3, 0, 0, []))]),
  (44, [(.iload 5, i0), (.ireturn, (0, 0, 0, []))])]
def KX7_stopIn : List (Nat × List OpI) := [(0, [(.aload_n 0, i0), (.getfield 34, (7, 10, 2, [])), (.iload_n 1, i0), (.iaload, (100, 0, 0, [])), (.istore_n 3, i0), (.nop, (7, 0, 0, []))]),
  (7, [(.iload_n 3, i0), (.aload_n 0, i0), (.getfield 52, (7, 0, 0, [])), (.if_icmp .ge 40, (52, 0, 0, [])), (.aload_n 0, i0), (.iload_n 1, i0), (.aload_n 0, i0), (.getfield 28, (7, 8, 2, [])), (.iload_n 1, i0), (.iaload, (100, 0, 0, [])), (.aload_n 0, i0), (.iload_n 3, i0), (.iload_n 2, i0), (.invokevirtual 118, (38, 3, 7, [])), (.aload_n 0, i0), (.getfield 68, (7, 17, 0, [])), (.iadd, i0), (.invokevirtual 94, (23, 4, 7, [])), (.aload_n 0, i0), (.getfield 9, (7, 1, 2, [])), (.iload_n 3, i0), (.iaload, (100, 0, 0, [])), (.if_icmp .gt 9, (52, 0, 0, [])), (.iinc 3 1, i0), (.goto (-42), (7, 0, 0, []))]),
  (52, [(.iload_n 3, i0), (.ireturn, (0, 0, 0, []))])]
def KX7_stopRoped : List (Nat × List OpI) := [(0, [(.iload_n 3, i0), (.istore 4, i0), (.nop, (3, 0, 0, []))]),
  (3, [(.iload 4, i0), (.aload_n 0, i0), (.getfield 52, (7, 0, 0, [])), (.if_icmp .ge 27, (36, 0, 0, [])), (.aload_n 0, i0), (.iload_n 1, i0), (.iload_n 2, i0), (.iload 4, i0), (.invokevirtual 121, (25, 4, 7, [])), (.aload_n 0, i0), (.getfield 9, (7, 1, 2, [])), (.iload 4, i0), (.iaload, (100, 0, 0, [])), (.if_icmp .gt 9, (36, 0, 0, [])), (.iinc 4 1, i0), (.goto (-30), (3, 0, 0, []))]),
  (36, [(.iload 4, i0), (.ireturn, (0, 0, 0, []))])]
def KX7_reachInFog : List (Nat × List OpI) := [(0, [(.aload_n 0, i0), (.aload_n 0, i0), (.iload_n 1, i0), (.iconst 0, i0), (.iload_n 2, i0), (.iload_n 3, i0), (.invokevirtual 114, (29, 5, 7, [])), (.iload_n 2, i0), (.invokevirtual 124, (33, 3, 7, [])), (.ireturn, (0, 0, 0, []))])]
def KX7_afterFall : List (Nat × List OpI) := [(0, [(.iload_n 1, i0), (.aload_n 0, i0), (.getfield 52, (7, 0, 0, [])), (.if_icmp .ge 19, (24, 0, 0, [])), (.iload_n 2, i0), (.ifCond .le 15, (24, 0, 0, [])), (.iload_n 1, i0), (.aload_n 0, i0), (.getfield 65, (7, 16, 0, [])), (.if_icmp .le 7, (24, 0, 0, [])), (.iconst 1, i0), (.goto 4, (25, 0, 0, []))]),
  (24, [(.iconst 0, i0), (.nop, (25, 0, 0, []))]),
  (25, [(.istore_n 3, i0), (.iload_n 3, i0), (.ifCond .eq 10, (37, 0, 0, [])), (.aload_n 0, i0), (.getfield 65, (7, 16, 0, [])), (.goto 4, (38, 0, 0, []))]),
  (37, [(.iload_n 1, i0), (.nop, (38, 0, 0, []))]),
  (38, [(.ireturn, (0, 0, 0, []))])]
def KX7_tollsBetween : List (Nat × List OpI) := [(0, [(.iconst 0, i0), (.istore_n 3, i0), (.iload_n 1, i0), (.istore 4, i0), (.nop, (5, 0, 0, []))]),
  (5, [(.iload 4, i0), (.iload_n 2, i0), (.if_icmp .ge 19, (27, 0, 0, [])), (.iload_n 3, i0), (.aload_n 0, i0), (.getfield 18, (7, 3, 2, [])), (.iload 4, i0), (.iaload, (100, 0, 0, [])), (.iadd, i0), (.istore_n 3, i0), (.iinc 4 1, i0), (.goto (-19), (5, 0, 0, []))]),
  (27, [(.iload_n 3, i0), (.ireturn, (0, 0, 0, []))])]
def KX7_spanLength : List (Nat × List OpI) := [(0, [(.iload_n 2, i0), (.istore_n 3, i0), (.nop, (2, 0, 0, []))]),
  (2, [(.iload_n 3, i0), (.aload_n 0, i0), (.getfield 52, (7, 0, 0, [])), (.if_icmp .ge 18, (25, 0, 0, [])), (.aload_n 0, i0), (.iload_n 1, i0), (.iload_n 3, i0), (.invokevirtual 110, (26, 3, 7, [])), (.ifCond .eq 9, (25, 0, 0, [])), (.iinc 3 1, i0), (.goto (-20), (2, 0, 0, []))]),
  (25, [(.iload_n 3, i0), (.iload_n 2, i0), (.isub, i0), (.ireturn, (0, 0, 0, []))])]
def KX7_spanBegin : List (Nat × List OpI) := [(0, [(.iconst 0, i0), (.istore_n 2, i0), (.iconst 1, i0), (.istore_n 3, i0), (.nop, (4, 0, 0, []))]),
  (4, [(.iload_n 3, i0), (.aload_n 0, i0), (.getfield 52, (7, 0, 0, [])), (.if_icmp .ge 26, (35, 0, 0, [])), (.aload_n 0, i0), (.iload_n 1, i0), (.iload_n 3, i0), (.invokevirtual 127, (35, 3, 7, [])), (.aload_n 0, i0), (.iload_n 1, i0), (.iload_n 2, i0), (.invokevirtual 127, (35, 3, 7, [])), (.if_icmp .le 5, (29, 0, 0, [])), (.iload_n 3, i0), (.istore_n 2, i0), (.nop, (29, 0, 0, []))]),
  (29, [(.iinc 3 1, i0), (.goto (-28), (4, 0, 0, []))]),
  (35, [(.iload_n 2, i0), (.ireturn, (0, 0, 0, []))])]
def KX7_weakestArch : List (Nat × List OpI) := [(0, [(.iconst (-1), i0), (.istore_n 1, i0), (.bipush 7, i0), (.istore_n 2, i0), (.iconst 0, i0), (.istore_n 3, i0), (.nop, (7, 0, 0, []))]),
  (7, [(.iload_n 3, i0), (.aload_n 0, i0), (.getfield 52, (7, 0, 0, [])), (.if_icmp .ge 30, (42, 0, 0, [])), (.aload_n 0, i0), (.iload_n 3, i0), (.invokevirtual 130, (27, 2, 7, [])), (.invokestatic 134, (351, 1, 0, [])), (.istore 4, i0), (.iload 4, i0), (.iload_n 2, i0), (.if_icmp .ge 8, (36, 0, 0, [])), (.iload_n 3, i0), (.istore_n 1, i0), (.iload 4, i0), (.istore_n 2, i0), (.nop, (36, 0, 0, []))]),
  (36, [(.iinc 3 1, i0), (.goto (-32), (7, 0, 0, []))]),
  (42, [(.iload_n 1, i0), (.ireturn, (0, 0, 0, []))])]
def KX7_mossAfter : List (Nat × List OpI) := [(0, [(.iload_n 2, i0), (.ifCond .gt 10, (11, 0, 0, [])), (.aload_n 0, i0), (.getfield 15, (7, 2, 2, [])), (.iload_n 1, i0), (.iaload, (100, 0, 0, [])), (.ireturn, (0, 0, 0, []))]),
  (11, [(.aload_n 0, i0), (.getfield 56, (7, 4, 0, [])), (.iload_n 1, i0), (.invokestatic 139, (182, 2, 0, [])), (.ifCond .eq 18, (37, 0, 0, [])), (.iconst 0, i0), (.aload_n 0, i0), (.getfield 15, (7, 2, 2, [])), (.iload_n 1, i0), (.iaload, (100, 0, 0, [])), (.iconst 1, i0), (.isub, i0), (.invokestatic 98, (1000, 2, 0, [])), (.goto 11, (45, 0, 0, []))]),
  (37, [(.aload_n 0, i0), (.getfield 15, (7, 2, 2, [])), (.iload_n 1, i0), (.iaload, (100, 0, 0, [])), (.iconst 1, i0), (.iadd, i0), (.nop, (45, 0, 0, []))]),
  (45, [(.istore_n 3, i0), (.bipush 9, i0), (.iload_n 3, i0), (.iload_n 2, i0), (.iadd, i0), (.iconst 1, i0), (.isub, i0), (.invokestatic 104, (1001, 2, 0, [])), (.ireturn, (0, 0, 0, []))])]
def KX7_mostAlike : List (Nat × List OpI) := [(0, [(.iconst 0, i0), (.istore 4, i0), (.iconst 0, i0), (.istore 5, i0), (.nop, (6, 0, 0, []))]),
  (6, [(.iload 5, i0), (.aload_n 0, i0), (.getfield 52, (7, 0, 0, [])), (.if_icmp .gt 62, (74, 0, 0, [])), (.iconst 0, i0), (.istore 6, i0), (.iconst 0, i0), (.istore 7, i0), (.nop, (21, 0, 0, []))]),
  (21, [(.iload 7, i0), (.bipush 9, i0), (.if_icmp .gt 34, (59, 0, 0, [])), (.iload_n 2, i0), (.iload 7, i0), (.invokestatic 139, (182, 2, 0, [])), (.ifCond .eq 19, (53, 0, 0, [])), (.aload_n 0, i0), (.iload_n 1, i0), (.iload 7, i0), (.iload_n 3, i0), (.invokevirtual 142, (32, 4, 7, [])), (.iload 5, i0), (.if_icmp .ne 6, (53, 0, 0, [])), (.iinc 6 1, i0), (.nop, (53, 0, 0, []))]),
  (53, [(.iinc 7 1, i0), (.goto (-35), (21, 0, 0, []))]),
  (59, [(.iload 4, i0), (.iload 6, i0), (.invokestatic 98, (1000, 2, 0, [])), (.istore 4, i0), (.iinc 5 1, i0), (.goto (-65), (6, 0, 0, []))]),
  (74, [(.iload 4, i0), (.ireturn, (0, 0, 0, []))])]
def KX7_letRun : List (Nat × List OpI) := [(0, [(.aload_n 0, i0), (.iload_n 1, i0), (.invokevirtual 87, (17, 2, 7, [])), (.ifCond .eq 5, (10, 0, 0, [])), (.iconst (-1), i0), (.ireturn, (0, 0, 0, []))]),
  (10, [(.aload_n 0, i0), (.iload_n 1, i0), (.aload_n 0, i0), (.getfield 34, (7, 10, 2, [])), (.iload_n 1, i0), (.iaload, (100, 0, 0, [])), (.aload_n 0, i0), (.getfield 28, (7, 8, 2, [])), (.iload_n 1, i0), (.iaload, (100, 0, 0, [])), (.aload_n 0, i0), (.getfield 68, (7, 17, 0, [])), (.invokevirtual 114, (29, 5, 7, [])), (.istore_n 2, i0), (.aload_n 0, i0), (.iload_n 1, i0), (.iload_n 2, i0), (.invokevirtual 145, (42, 3, 7, [])), (.aload_n 0, i0), (.iload_n 1, i0), (.iload_n 2, i0), (.invokevirtual 149, (43, 3, 7, [])), (.aload_n 0, i0), (.getfield 34, (7, 10, 2, [])), (.iload_n 1, i0), (.iaload, (100, 0, 0, [])), (.ireturn, (0, 0, 0, []))])]
def KX7_letRope : List (Nat × List OpI) := [(0, [(.iload_n 1, i0), (.iload_n 2, i0), (.if_icmp .eq 26, (28, 0, 0, [])), (.aload_n 0, i0), (.getfield 34, (7, 10, 2, [])), (.iload_n 1, i0), (.iaload, (100, 0, 0, [])), (.aload_n 0, i0), (.getfield 34, (7, 10, 2, [])), (.iload_n 2, i0), (.iaload, (100, 0, 0, [])), (.if_icmp .ne 11, (28, 0, 0, [])), (.aload_n 0, i0), (.iload_n 1, i0), (.invokevirtual 87, (17, 2, 7, [])), (.ifCond .eq 5, (30, 0, 0, [])), (.nop, (28, 0, 0, []))]),
  (28, [(.iconst (-1), i0), (.ireturn, (0, 0, 0, []))]),
  (30, [(.aload_n 0, i0), (.getfield 34, (7, 10, 2, [])), (.iload_n 1, i0), (.iaload, (100, 0, 0, [])), (.istore_n 3, i0), (.aload_n 0, i0), (.iload_n 1, i0), (.iload_n 2, i0), (.iload_n 3, i0), (.invokevirtual 152, (31, 4, 7, [])), (.istore 4, i0), (.aload_n 0, i0), (.iload_n 1, i0), (.iload 4, i0), (.invokevirtual 145, (42, 3, 7, [])), (.aload_n 0, i0), (.iload_n 1, i0), (.iload 4, i0), (.invokevirtual 149, (43, 3, 7, [])), (.aload_n 0, i0), (.iload_n 2, i0), (.iload 4, i0), (.invokevirtual 149, (43, 3, 7, [])), (.iload 4, i0), (.iload_n 3, i0), (.isub, i0), (.ireturn, (0, 0, 0, []))])]
def KX7_tread : List (Nat × List OpI) := [(0, [(.aload_n 0, i0), (.getfield 34, (7, 10, 2, [])), (.iload_n 1, i0), (.iaload, (100, 0, 0, [])), (.istore_n 3, i0), (.nop, (7, 0, 0, []))]),
  (7, [(.iload_n 3, i0), (.iload_n 2, i0), (.if_icmp .ge 36, (45, 0, 0, [])), (.aload_n 0, i0), (.getfield 37, (7, 11, 2, [])), (.iload_n 1, i0), (.dup2, i0), (.iaload, (100, 0, 0, [])), (.aload_n 0, i0), (.getfield 18, (7, 3, 2, [])), (.iload_n 3, i0), (.iaload, (100, 0, 0, [])), (.iadd, i0), (.iastore, i0), (.aload_n 0, i0), (.dup, i0), (.getfield 56, (7, 4, 0, [])), (.iconst 1, i0), (.iload_n 3, i0), (.ishl, i0), (.ior, i0), (.putfield 56, (7, 4, 0, [])), (.iinc 3 1, i0), (.goto (-35), (7, 0, 0, []))]),
  (45, [(.return_, i0)])]
def KX7_land : List (Nat × List OpI) := [(0, [(.aload_n 0, i0), (.getfield 34, (7, 10, 2, [])), (.iload_n 1, i0), (.aload_n 0, i0), (.iload_n 2, i0), (.aload_n 0, i0), (.getfield 28, (7, 8, 2, [])), (.iload_n 1, i0), (.iaload, (100, 0, 0, [])), (.invokevirtual 124, (33, 3, 7, [])), (.iastore, i0), (.aload_n 0, i0), (.getfield 34, (7, 10, 2, [])), (.iload_n 1, i0), (.iaload, (100, 0, 0, [])), (.iload_n 2, i0), (.if_icmp .ge 13, (37, 0, 0, [])), (.aload_n 0, i0), (.getfield 40, (7, 12, 2, [])), (.iload_n 1, i0), (.dup2, i0), (.iaload, (100, 0, 0, [])), (.iconst 1, i0), (.iadd, i0), (.iastore, i0), (.nop, (37, 0, 0, []))]),
  (37, [(.return_, i0)])]
def KX7_canJumpOn : List (Nat × List OpI) := [(0, [(.aload_n 0, i0), (.getfield 9, (7, 1, 2, [])), (.iload_n 1, i0), (.iaload, (100, 0, 0, [])), (.bipush 60, i0), (.if_icmp .lt 12, (20, 0, 0, [])), (.aload_n 0, i0), (.getfield 15, (7, 2, 2, [])), (.iload_n 1, i0), (.iaload, (100, 0, 0, [])), (.ifCond .le 7, (24, 0, 0, [])), (.nop, (20, 0, 0, []))]),
  (20, [(.iconst 1, i0), (.goto 4, (25, 0, 0, []))]),
  (24, [(.iconst 0, i0), (.nop, (25, 0, 0, []))]),
  (25, [(.ireturn, (1, 0, 0, []))])]
def KX7_jumpOn : List (Nat × List OpI) := [(0, [(.aload_n 0, i0), (.iload_n 1, i0), (.invokevirtual 155, (44, 2, 7, [])), (.ifCond .ne 5, (10, 0, 0, [])), (.iconst (-1), i0), (.ireturn, (0, 0, 0, []))]),
  (10, [(.aload_n 0, i0), (.getfield 9, (7, 1, 2, [])), (.iload_n 1, i0), (.bipush 60, i0), (.aload_n 0, i0), (.getfield 9, (7, 1, 2, [])), (.iload_n 1, i0), (.iaload, (100, 0, 0, [])), (.iconst 1, i0), (.iadd, i0), (.invokestatic 104, (1001, 2, 0, [])), (.iastore, i0), (.aload_n 0, i0), (.getfield 15, (7, 2, 2, [])), (.iload_n 1, i0), (.iconst 0, i0), (.aload_n 0, i0), (.getfield 15, (7, 2, 2, [])), (.iload_n 1, i0), (.iaload, (100, 0, 0, [])), (.iconst 1, i0), (.isub, i0), (.invokestatic 98, (1000, 2, 0, [])), (.iastore, i0), (.aload_n 0, i0), (.dup, i0), (.getfield 56, (7, 4, 0, [])), (.iconst 1, i0), (.iload_n 1, i0), (.ishl, i0), (.ior, i0), (.putfield 56, (7, 4, 0, [])), (.aload_n 0, i0), (.getfield 9, (7, 1, 2, [])), (.iload_n 1, i0), (.iaload, (100, 0, 0, [])), (.ireturn, (0, 0, 0, []))])]
def KX7_sendHome : List (Nat × List OpI) := [(0, [(.aload_n 0, i0), (.getfield 34, (7, 10, 2, [])), (.iload_n 1, i0), (.iaload, (100, 0, 0, [])), (.ifCond .ne 5, (11, 0, 0, [])), (.iconst (-1), i0), (.ireturn, (0, 0, 0, []))]),
  (11, [(.aload_n 0, i0), (.getfield 34, (7, 10, 2, [])), (.iload_n 1, i0), (.iaload, (100, 0, 0, [])), (.istore_n 2, i0), (.aload_n 0, i0), (.getfield 34, (7, 10, 2, [])), (.iload_n 1, i0), (.iconst 0, i0), (.iastore, i0), (.iload_n 2, i0), (.ireturn, (0, 0, 0, []))])]
def KX7_changeFog : List (Nat × List OpI) := [(0, [(.aload_n 0, i0), (.getfield 68, (7, 17, 0, [])), (.iload_n 1, i0), (.if_icmp .ne 5, (10, 0, 0, [])), (.iconst (-1), i0), (.ireturn, (0, 0, 0, []))]),
  (10, [(.aload_n 0, i0), (.iload_n 1, i0), (.putfield 68, (7, 17, 0, [])), (.aload_n 0, i0), (.getfield 68, (7, 17, 0, [])), (.ireturn, (0, 0, 0, []))])]
def KX7_passDays : List (Nat × List OpI) := [(0, [(.iload_n 1, i0), (.sipush 9999, i0), (.aload_n 0, i0), (.getfield 74, (7, 19, 0, [])), (.isub, i0), (.if_icmp .le 5, (14, 0, 0, [])), (.iconst (-1), i0), (.ireturn, (0, 0, 0, []))]),
  (14, [(.iconst 0, i0), (.istore_n 2, i0), (.iconst 0, i0), (.istore_n 3, i0), (.nop, (18, 0, 0, []))]),
  (18, [(.iload_n 3, i0), (.aload_n 0, i0), (.getfield 52, (7, 0, 0, [])), (.if_icmp .ge 30, (53, 0, 0, [])), (.aload_n 0, i0), (.getfield 15, (7, 2, 2, [])), (.iload_n 3, i0), (.aload_n 0, i0), (.iload_n 3, i0), (.iload_n 1, i0), (.invokevirtual 118, (38, 3, 7, [])), (.iastore, i0), (.iload_n 2, i0), (.aload_n 0, i0), (.getfield 15, (7, 2, 2, [])), (.iload_n 3, i0), (.iaload, (100, 0, 0, [])), (.iadd, i0), (.istore_n 2, i0), (.iinc 3 1, i0), (.goto (-32), (18, 0, 0, []))]),
  (53, [(.aload_n 0, i0), (.iconst 0, i0), (.putfield 56, (7, 4, 0, [])), (.aload_n 0, i0), (.dup, i0), (.getfield 74, (7, 19, 0, [])), (.iload_n 1, i0), (.iadd, i0), (.putfield 74, (7, 19, 0, [])), (.iload_n 2, i0), (.ireturn, (0, 0, 0, []))])]
def KX7_jumpsFor : List (Nat × List OpI) := [(0, [(.iconst 0, i0), (.istore_n 3, i0), (.nop, (2, 0, 0, []))]),
  (2, [(.iload_n 3, i0), (.bipush 60, i0), (.if_icmp .gt 21, (26, 0, 0, [])), (.aload_n 0, i0), (.iload_n 1, i0), (.iload_n 2, i0), (.iload_n 3, i0), (.invokevirtual 158, (50, 4, 7, [])), (.ifCond .eq 5, (20, 0, 0, [])), (.iload_n 3, i0), (.ireturn, (0, 0, 0, []))]),
  (20, [(.iinc 3 1, i0), (.goto (-21), (2, 0, 0, []))]),
  (26, [(.iconst (-1), i0), (.ireturn, (0, 0, 0, []))])]
def KX7_bearsBehindJumps : List (Nat × List OpI) := [(0, [(.bipush 60, i0), (.aload_n 0, i0), (.getfield 9, (7, 1, 2, [])), (.iload_n 2, i0), (.iaload, (100, 0, 0, [])), (.iload_n 3, i0), (.iadd, i0), (.invokestatic 104, (1001, 2, 0, [])), (.istore 4, i0), (.iconst 0, i0), (.aload_n 0, i0), (.getfield 15, (7, 2, 2, [])), (.iload_n 2, i0), (.iaload, (100, 0, 0, [])), (.iload_n 3, i0), (.isub, i0), (.invokestatic 98, (1000, 2, 0, [])), (.istore 5, i0), (.iconst 0, i0), (.istore 6, i0), (.nop, (32, 0, 0, []))]),
  (32, [(.iload 6, i0), (.aload_n 0, i0), (.getfield 59, (7, 5, 0, [])), (.if_icmp .ge 45, (83, 0, 0, [])), (.iload_n 1, i0), (.iload 6, i0), (.invokestatic 139, (182, 2, 0, [])), (.ifCond .eq 30, (77, 0, 0, [])), (.aload_n 0, i0), (.iload 6, i0), (.aload_n 0, i0), (.getfield 28, (7, 8, 2, [])), (.iload 6, i0), (.iaload, (100, 0, 0, [])), (.iload 5, i0), (.aload_n 0, i0), (.getfield 68, (7, 17, 0, [])), (.iadd, i0), (.invokevirtual 94, (23, 4, 7, [])), (.iload 4, i0), (.if_icmp .le 5, (77, 0, 0, [])), (.iconst 0, i0), (.ireturn, (1, 0, 0, []))]),
  (77, [(.iinc 6 1, i0), (.goto (-48), (32, 0, 0, []))]),
  (83, [(.iconst 1, i0), (.ireturn, (1, 0, 0, []))])]
def KX7_jumpsInAll : List (Nat × List OpI) := [(0, [(.iconst 0, i0), (.istore_n 2, i0), (.iconst 0, i0), (.istore_n 3, i0), (.nop, (4, 0, 0, []))]),
  (4, [(.iload_n 3, i0), (.aload_n 0, i0), (.getfield 52, (7, 0, 0, [])), (.if_icmp .ge 30, (39, 0, 0, [])), (.aload_n 0, i0), (.iload_n 1, i0), (.iload_n 3, i0), (.invokevirtual 162, (49, 3, 7, [])), (.istore 4, i0), (.iload 4, i0), (.iconst (-1), i0), (.if_icmp .ne 5, (28, 0, 0, [])), (.iconst (-1), i0), (.ireturn, (0, 0, 0, []))]),
  (28, [(.iload_n 2, i0), (.iload 4, i0), (.iadd, i0), (.istore_n 2, i0), (.iinc 3 1, i0), (.goto (-32), (4, 0, 0, []))]),
  (39, [(.iload_n 2, i0), (.ireturn, (0, 0, 0, []))])]
def KX7_bestGarden : List (Nat × List OpI) := [(0, [(.iconst 0, i0), (.istore_n 2, i0), (.iconst 0, i0), (.istore_n 3, i0), (.iconst 1, i0), (.istore 4, i0), (.nop, (7, 0, 0, []))]),
  (7, [(.iload 4, i0), (.iconst 1, i0), (.aload_n 0, i0), (.getfield 62, (7, 13, 0, [])), (.ishl, i0), (.if_icmp .ge 39, (54, 0, 0, [])), (.aload_n 0, i0), (.iload 4, i0), (.invokevirtual 165, (53, 2, 7, [])), (.istore 5, i0), (.iload 5, i0), (.iload_n 3, i0), (.if_icmp .le 19, (48, 0, 0, [])), (.aload_n 0, i0), (.iload 4, i0), (.invokevirtual 168, (54, 2, 7, [])), (.iload_n 1, i0), (.if_icmp .gt 9, (48, 0, 0, [])), (.iload 4, i0), (.istore_n 2, i0), (.iload 5, i0), (.istore_n 3, i0), (.nop, (48, 0, 0, []))]),
  (48, [(.iinc 4 1, i0), (.goto (-44), (7, 0, 0, []))]),
  (54, [(.iload_n 2, i0), (.ireturn, (0, 0, 0, []))])]
def KX7_joyOf : List (Nat × List OpI) := [(0, [(.aload_n 0, i0), (.aload_n 0, i0), (.getfield 46, (7, 15, 2, [])), (.iload_n 1, i0), (.invokevirtual 171, (55, 3, 7, [])), (.ireturn, (0, 0, 0, []))])]
def KX7_sizeOf : List (Nat × List OpI) := [(0, [(.aload_n 0, i0), (.aload_n 0, i0), (.getfield 43, (7, 14, 2, [])), (.iload_n 1, i0), (.invokevirtual 171, (55, 3, 7, [])), (.ireturn, (0, 0, 0, []))])]
def KX7_sumOfPlants : List (Nat × List OpI) := [(0, [(.iconst 0, i0), (.istore_n 3, i0), (.iconst 0, i0), (.istore 4, i0), (.nop, (5, 0, 0, []))]),
  (5, [(.iload 4, i0), (.aload_n 0, i0), (.getfield 62, (7, 13, 0, [])), (.if_icmp .ge 25, (36, 0, 0, [])), (.iload_n 2, i0), (.iload 4, i0), (.invokestatic 139, (182, 2, 0, [])), (.ifCond .eq 10, (30, 0, 0, [])), (.iload_n 3, i0), (.aload_n 1, i0), (.iload 4, i0), (.iaload, (100, 0, 0, [])), (.iadd, i0), (.istore_n 3, i0), (.nop, (30, 0, 0, []))]),
  (30, [(.iinc 4 1, i0), (.goto (-28), (5, 0, 0, []))]),
  (36, [(.iload_n 3, i0), (.ireturn, (0, 0, 0, []))])]
def KX5_init : List (Nat × List OpI) := [(0, [(.aload_n 0, i0), (.invokespecial 3, (1999, 0, 0, [])), (.aload_n 0, i0), (.sipush 900, i0), (.newarray .byte, (102, 0, 0, [])), (.putfield 9, (5, 5, 2, [])), (.aload_n 0, i0), (.bipush 12, i0), (.newarray .int, (100, 0, 0, [])), (.putfield 15, (5, 8, 2, [])), (.aload_n 0, i0), (.bipush 12, i0), (.newarray .int, (100, 0, 0, [])), (.putfield 19, (5, 9, 2, [])), (.aload_n 0, i0), (.bipush 12, i0), (.newarray .long, (101, 0, 0, [])), (.putfield 22, (5, 10, 2, [])), (.aload_n 0, i0), (.iconst (-1), i0), (.putfield 26, (5, 3, 0, [])), (.aload_n 0, i0), (.iconst (-1), i0), (.putfield 30, (5, 4, 0, [])), (.return_, i0)])]
def KX5_hasRoomForTwenty : List (Nat × List OpI) := [(0, [(.aload_n 0, i0), (.getfield 33, (5, 0, 0, [])), (.bipush 20, i0), (.iadd, i0), (.sipush 900, i0), (.if_icmp .gt 7, (17, 0, 0, [])), (.iconst 1, i0), (.goto 4, (18, 0, 0, []))]),
  (17, [(.iconst 0, i0), (.nop, (18, 0, 0, []))]),
  (18, [(.ireturn, (1, 0, 0, []))])]
def KX5_addFour : List (Nat × List OpI) := [(0, [(.bipush 24, i0), (.istore_n 2, i0), (.nop, (3, 0, 0, []))]),
  (3, [(.iload_n 2, i0), (.ifCond .lt 42, (46, 0, 0, [])), (.aload_n 0, i0), (.getfield 33, (5, 0, 0, [])), (.sipush 900, i0), (.if_icmp .ge 32, (46, 0, 0, [])), (.aload_n 0, i0), (.getfield 9, (5, 5, 2, [])), (.aload_n 0, i0), (.getfield 33, (5, 0, 0, [])), (.iload_n 1, i0), (.iload_n 2, i0), (.ishr, i0), (.i2b, i0), (.bastore, (102, 0, 0, [])), (.aload_n 0, i0), (.dup, i0), (.getfield 33, (5, 0, 0, [])), (.iconst 1, i0), (.iadd, i0), (.putfield 33, (5, 0, 0, [])), (.iinc 2 (-8), i0), (.goto (-40), (3, 0, 0, []))]),
  (46, [(.return_, i0)])]
def KX5_open : List (Nat × List OpI) := [(0, [(.aload_n 0, i0), (.iload_n 1, i0), (.sipush 900, i0), (.invokestatic 36, (1001, 2, 0, [])), (.putfield 42, (5, 6, 0, [])), (.aload_n 0, i0), (.iconst 0, i0), (.putfield 45, (5, 7, 0, [])), (.aload_n 0, i0), (.iconst 0, i0), (.putfield 26, (5, 3, 0, [])), (.aload_n 0, i0), (.iconst (-1), i0), (.putfield 30, (5, 4, 0, [])), (.return_, i0)])]
def KX5_gather : List (Nat × List OpI) := [(0, [(.aload_n 0, i0), (.iconst 0, i0), (.putfield 48, (5, 11, 0, [])), (.iconst 0, i0), (.istore_n 1, i0), (.iconst 0, i0), (.istore_n 2, i0), (.nop, (9, 0, 0, []))]),
  (9, [(.iload_n 2, i0), (.bipush 12, i0), (.if_icmp .ge 60, (72, 0, 0, [])), (.iload_n 1, i0), (.ifCond .ne 56, (72, 0, 0, [])), (.aload_n 0, i0), (.iload_n 2, i0), (.invokevirtual 51, (61, 2, 5, [])), (.istore_n 3, i0), (.aload_n 0, i0), (.getfield 15, (5, 8, 2, [])), (.iload_n 2, i0), (.iload_n 3, i0), (.iastore, i0), (.aload_n 0, i0), (.dup, i0), (.getfield 48, (5, 11, 0, [])), (.iconst 1, i0), (.iadd, i0), (.putfield 48, (5, 11, 0, [])), (.iload_n 3, i0), (.bipush 28, i0), (.if_icmp .eq 15, (60, 0, 0, [])), (.iload_n 3, i0), (.bipush 32, i0), (.if_icmp .eq 9, (60, 0, 0, [])), (.iload_n 3, i0), (.bipush 33, i0), (.if_icmp .ne 7, (64, 0, 0, [])), (.nop, (60, 0, 0, []))]),
  (60, [(.iconst 1, i0), (.goto 4, (65, 0, 0, []))]),
  (64, [(.iconst 0, i0), (.nop, (65, 0, 0, []))]),
  (65, [(.istore_n 1, i0), (.iinc 2 1, i0), (.goto (-60), (9, 0, 0, []))]),
  (72, [(.aload_n 0, i0), (.iconst (-1), i0), (.putfield 55, (5, 12, 0, [])), (.aload_n 0, i0), (.invokevirtual 58, (68, 1, 5, [])), (.return_, i0)])]
def KX5_findToken : List (Nat × List OpI) := [(0, [(.aload_n 0, i0), (.getfield 45, (5, 7, 0, [])), (.aload_n 0, i0), (.getfield 42, (5, 6, 0, [])), (.if_icmp .ge 44, (52, 0, 0, [])), (.aload_n 0, i0), (.getfield 9, (5, 5, 2, [])), (.aload_n 0, i0), (.getfield 45, (5, 7, 0, [])), (.baload, (102, 0, 0, [])), (.bipush 10, i0), (.if_icmp .eq 17, (39, 0, 0, [])), (.aload_n 0, i0), (.getfield 9, (5, 5, 2, [])), (.aload_n 0, i0), (.getfield 45, (5, 7, 0, [])), (.baload, (102, 0, 0, [])), (.bipush 32, i0), (.if_icmp .ne 16, (52, 0, 0, [])), (.nop, (39, 0, 0, []))]),
  (39, [(.aload_n 0, i0), (.dup, i0), (.getfield 45, (5, 7, 0, [])), (.iconst 1, i0), (.iadd, i0), (.putfield 45, (5, 7, 0, [])), (.goto (-49), (0, 0, 0, []))]),
  (52, [(.aload_n 0, i0), (.getfield 19, (5, 9, 2, [])), (.iload_n 1, i0), (.aload_n 0, i0), (.getfield 45, (5, 7, 0, [])), (.iastore, i0), (.aload_n 0, i0), (.getfield 22, (5, 10, 2, [])), (.iload_n 1, i0), (.lconst 0, i0), (.lastore, i0), (.aload_n 0, i0), (.getfield 45, (5, 7, 0, [])), (.aload_n 0, i0), (.getfield 42, (5, 6, 0, [])), (.if_icmp .lt 6, (83, 0, 0, [])), (.bipush 32, i0), (.ireturn, (0, 0, 0, []))]),
  (83, [(.aload_n 0, i0), (.getfield 9, (5, 5, 2, [])), (.aload_n 0, i0), (.getfield 45, (5, 7, 0, [])), (.baload, (102, 0, 0, [])), (.invokestatic 61, (65, 1, 0, [])), (.ifCond .eq 9, (104, 0, 0, [])), (.aload_n 0, i0), (.iload_n 1, i0), (.invokevirtual 65, (62, 2, 5, [])), (.ireturn, (0, 0, 0, []))]),
  (104, [(.aload_n 0, i0), (.getfield 9, (5, 5, 2, [])), (.aload_n 0, i0), (.getfield 45, (5, 7, 0, [])), (.baload, (102, 0, 0, [])), (.invokestatic 68, (66, 1, 0, [])), (.ifCond .eq 9, (125, 0, 0, [])), (.aload_n 0, i0), (.iload_n 1, i0), (.invokevirtual 71, (63, 2, 5, [])), (.ireturn, (0, 0, 0, []))]),
  (125, [(.aload_n 0, i0), (.dup, i0), (.getfield 45, (5, 7, 0, [])), (.iconst 1, i0), (.iadd, i0), (.putfield 45, (5, 7, 0, [])), (.aload_n 0, i0), (.getfield 9, (5, 5, 2, [])), (.aload_n 0, i0), (.getfield 45, (5, 7, 0, [])), (.iconst 1, i0), (.isub, i0), (.baload, (102, 0, 0, [])), (.invokestatic 74, (67, 1, 0, [])), (.ireturn, (0, 0, 0, []))])]
def KX5_findWord : List (Nat × List OpI) := [(0, [(.aload_n 0, i0), (.getfield 45, (5, 7, 0, [])), (.istore_n 2, i0), (.lconst 0, i0), (.lstore_n 3, i0), (.nop, (7, 0, 0, []))]),
  (7, [(.aload_n 0, i0), (.getfield 45, (5, 7, 0, [])), (.aload_n 0, i0), (.getfield 42, (5, 6, 0, [])), (.if_icmp .ge 53, (68, 0, 0, [])), (.aload_n 0, i0), (.getfield 9, (5, 5, 2, [])), (.aload_n 0, i0), (.getfield 45, (5, 7, 0, [])), (.baload, (102, 0, 0, [])), (.invokestatic 61, (65, 1, 0, [])), (.ifCond .eq 38, (68, 0, 0, [])), (.lload_n 3, i0), (.ldc2_w 77, (0, 0, 32, [])), (.lmul, i0), (.aload_n 0, i0), (.getfield 9, (5, 5, 2, [])), (.aload_n 0, i0), (.getfield 45, (5, 7, 0, [])), (.baload, (102, 0, 0, [])), (.bipush 97, i0), (.isub, i0), (.iconst 1, i0), (.iadd, i0), (.i2l, i0), (.ladd, i0), (.lstore_n 3, i0), (.aload_n 0, i0), (.dup, i0), (.getfield 45, (5, 7, 0, [])), (.iconst 1, i0), (.iadd, i0), (.putfield 45, (5, 7, 0, [])), (.goto (-58), (7, 0, 0, []))]),
  (68, [(.aload_n 0, i0), (.getfield 22, (5, 10, 2, [])), (.iload_n 1, i0), (.lload_n 3, i0), (.lastore, i0), (.aload_n 0, i0), (.getfield 45, (5, 7, 0, [])), (.iload_n 2, i0), (.isub, i0), (.bipush 8, i0), (.if_icmp .le 6, (89, 0, 0, [])), (.bipush 26, i0), (.ireturn, (0, 0, 0, []))]),
  (89, [(.aload_n 0, i0), (.iload_n 2, i0), (.aload_n 0, i0), (.getfield 45, (5, 7, 0, [])), (.iload_n 2, i0), (.isub, i0), (.invokevirtual 79, (64, 3, 5, [])), (.istore 5, i0), (.iload 5, i0), (.iconst (-1), i0), (.if_icmp .ne 8, (113, 0, 0, [])), (.bipush 25, i0), (.goto 5, (115, 0, 0, []))]),
  (113, [(.iload 5, i0), (.nop, (115, 0, 0, []))]),
  (115, [(.ireturn, (0, 0, 0, []))])]
def KX5_findNumber : List (Nat × List OpI) := [(0, [(.aload_n 0, i0), (.getfield 45, (5, 7, 0, [])), (.istore_n 2, i0), (.iconst 0, i0), (.istore_n 3, i0), (.nop, (7, 0, 0, []))]),
  (7, [(.aload_n 0, i0), (.getfield 45, (5, 7, 0, [])), (.aload_n 0, i0), (.getfield 42, (5, 6, 0, [])), (.if_icmp .ge 59, (74, 0, 0, [])), (.aload_n 0, i0), (.getfield 9, (5, 5, 2, [])), (.aload_n 0, i0), (.getfield 45, (5, 7, 0, [])), (.baload, (102, 0, 0, [])), (.invokestatic 68, (66, 1, 0, [])), (.ifCond .eq 44, (74, 0, 0, [])), (.aload_n 0, i0), (.getfield 45, (5, 7, 0, [])), (.iload_n 2, i0), (.isub, i0), (.iconst 4, i0), (.if_icmp .ge 21, (61, 0, 0, [])), (.iload_n 3, i0), (.bipush 10, i0), (.imul, i0), (.aload_n 0, i0), (.getfield 9, (5, 5, 2, [])), (.aload_n 0, i0), (.getfield 45, (5, 7, 0, [])), (.baload, (102, 0, 0, [])), (.bipush 48, i0), (.isub, i0), (.iadd, i0), (.istore_n 3, i0), (.nop, (61, 0, 0, []))]),
  (61, [(.aload_n 0, i0), (.dup, i0), (.getfield 45, (5, 7, 0, [])), (.iconst 1, i0), (.iadd, i0), (.putfield 45, (5, 7, 0, [])), (.goto (-64), (7, 0, 0, []))]),
  (74, [(.aload_n 0, i0), (.getfield 22, (5, 10, 2, [])), (.iload_n 1, i0), (.iload_n 3, i0), (.i2l, i0), (.lastore, i0), (.aload_n 0, i0), (.getfield 45, (5, 7, 0, [])), (.iload_n 2, i0), (.isub, i0), (.iconst 4, i0), (.if_icmp .le 8, (97, 0, 0, [])), (.bipush 33, i0), (.goto 5, (99, 0, 0, []))]),
  (97, [(.bipush 27, i0), (.nop, (99, 0, 0, []))]),
  (99, [(.ireturn, (0, 0, 0, []))])]
def KX5_findKeyword : List (Nat × List OpI) := [(0, [(.iconst 0, i0), (.istore_n 3, i0), (.iconst 0, i0), (.istore 4, i0), (.iconst 0, i0), (.istore 5, i0), (.nop, (8, 0, 0, []))]),
  (8, [(.iload 5, i0), (.ldc 82, (1, 900001, 0, [])), (.invokevirtual 84, (1005, 1, 99, [])), (.if_icmp .ge 77, (92, 0, 0, [])), (.ldc 82, (1, 900001, 0, [])), (.iload 5, i0), (.invokevirtual 89, (1006, 2, 99, [])), (.istore 6, i0), (.iload 6, i0), (.bipush 32, i0), (.if_icmp .ne 20, (51, 0, 0, [])), (.iload 4, i0), (.iload_n 2, i0), (.if_icmp .ne 5, (42, 0, 0, [])), (.iload_n 3, i0), (.ireturn, (0, 0, 0, []))]),
  (42, [(.iinc 3 1, i0), (.iconst 0, i0), (.istore 4, i0), (.goto 38, (86, 0, 0, []))]),
  (51, [(.iload 4, i0), (.iconst (-1), i0), (.if_icmp .eq 29, (83, 0, 0, [])), (.iload 4, i0), (.iload_n 2, i0), (.if_icmp .ge 23, (83, 0, 0, [])), (.aload_n 0, i0), (.getfield 9, (5, 5, 2, [])), (.iload_n 1, i0), (.iload 4, i0), (.iadd, i0), (.baload, (102, 0, 0, [])), (.iload 6, i0), (.if_icmp .ne 9, (83, 0, 0, [])), (.iinc 4 1, i0), (.goto 6, (86, 0, 0, []))]),
  (83, [(.iconst (-1), i0), (.istore 4, i0), (.nop, (86, 0, 0, []))]),
  (86, [(.iinc 5 1, i0), (.goto (-81), (8, 0, 0, []))]),
  (92, [(.iconst (-1), i0), (.ireturn, (0, 0, 0, []))])]
def KX5_isLetter : List (Nat × List OpI) := [(0, [(.iload_n 0, i0), (.bipush 97, i0), (.if_icmp .lt 13, (16, 0, 0, [])), (.iload_n 0, i0), (.bipush 122, i0), (.if_icmp .gt 7, (16, 0, 0, [])), (.iconst 1, i0), (.goto 4, (17, 0, 0, []))]),
  (16, [(.iconst 0, i0), (.nop, (17, 0, 0, []))]),
  (17, [(.ireturn, (1, 0, 0, []))])]
def KX5_isDigit : List (Nat × List OpI) := [(0, [(.iload_n 0, i0), (.bipush 48, i0), (.if_icmp .lt 13, (16, 0, 0, [])), (.iload_n 0, i0), (.bipush 57, i0), (.if_icmp .gt 7, (16, 0, 0, [])), (.iconst 1, i0), (.goto 4, (17, 0, 0, []))]),
  (16, [(.iconst 0, i0), (.nop, (17, 0, 0, []))]),
  (17, [(.ireturn, (1, 0, 0, []))])]
def KX5_signCode : List (Nat × List OpI) := [(0, [(.iload_n 0, i0), (.tableswitch 43 59 62 #[31, 34, 40, 37], (44, 31, 59, [(59, 32), (60, 35), (61, 41), (62, 38)]))]),
  (32, [(.bipush 28, i0), (.ireturn, (0, 0, 0, []))]),
  (35, [(.bipush 29, i0), (.ireturn, (0, 0, 0, []))]),
  (38, [(.bipush 30, i0), (.ireturn, (0, 0, 0, []))]),
  (41, [(.bipush 31, i0), (.ireturn, (0, 0, 0, []))]),
  (44, [(.bipush 33, i0), (.ireturn, (0, 0, 0, []))])]
def KX5_advance : List (Nat × List OpI) := [(0, [(.aload_n 0, i0), (.dup, i0), (.getfield 55, (5, 12, 0, [])), (.iconst 1, i0), (.iadd, i0), (.putfield 55, (5, 12, 0, [])), (.aload_n 0, i0), (.getfield 55, (5, 12, 0, [])), (.ifCond .lt 18, (32, 0, 0, [])), (.aload_n 0, i0), (.getfield 55, (5, 12, 0, [])), (.aload_n 0, i0), (.getfield 48, (5, 11, 0, [])), (.if_icmp .ge 7, (32, 0, 0, [])), (.iconst 1, i0), (.goto 4, (33, 0, 0, []))]),
  (32, [(.iconst 0, i0), (.nop, (33, 0, 0, []))]),
  (33, [(.istore_n 1, i0), (.aload_n 0, i0), (.iload_n 1, i0), (.ifCond .eq 15, (51, 0, 0, [])), (.aload_n 0, i0), (.getfield 15, (5, 8, 2, [])), (.aload_n 0, i0), (.getfield 55, (5, 12, 0, [])), (.iaload, (100, 0, 0, [])), (.goto 5, (53, 0, 0, []))]),
  (51, [(.bipush 32, i0), (.nop, (53, 0, 0, []))]),
  (53, [(.putfield 93, (5, 1, 0, [])), (.aload_n 0, i0), (.iload_n 1, i0), (.ifCond .eq 15, (73, 0, 0, [])), (.aload_n 0, i0), (.getfield 22, (5, 10, 2, [])), (.aload_n 0, i0), (.getfield 55, (5, 12, 0, [])), (.laload, i0), (.goto 4, (74, 0, 0, []))]),
  (73, [(.lconst 0, i0), (.nop, (74, 0, 0, []))]),
  (74, [(.putfield 96, (5, 2, 1, [])), (.aload_n 0, i0), (.iload_n 1, i0), (.ifCond .eq 15, (94, 0, 0, [])), (.aload_n 0, i0), (.getfield 19, (5, 9, 2, [])), (.aload_n 0, i0), (.getfield 55, (5, 12, 0, [])), (.iaload, (100, 0, 0, [])), (.goto 7, (98, 0, 0, []))]),
  (94, [(.aload_n 0, i0), (.getfield 42, (5, 6, 0, [])), (.nop, (98, 0, 0, []))]),
  (98, [(.putfield 100, (5, 13, 0, [])), (.return_, i0)])]
def KX5_refuse : List (Nat × List OpI) := [(0, [(.aload_n 0, i0), (.aload_n 0, i0), (.getfield 93, (5, 1, 0, [])), (.bipush 33, i0), (.if_icmp .ne 7, (14, 0, 0, [])), (.iconst 1, i0), (.goto 4, (15, 0, 0, []))]),
  (14, [(.iload_n 1, i0), (.nop, (15, 0, 0, []))]),
  (15, [(.putfield 26, (5, 3, 0, [])), (.aload_n 0, i0), (.aload_n 0, i0), (.getfield 100, (5, 13, 0, [])), (.putfield 30, (5, 4, 0, [])), (.iconst 0, i0), (.ireturn, (1, 0, 0, []))])]
def KX5_take : List (Nat × List OpI) := [(0, [(.aload_n 0, i0), (.getfield 93, (5, 1, 0, [])), (.iload_n 1, i0), (.if_icmp .eq 9, (14, 0, 0, [])), (.aload_n 0, i0), (.iconst 2, i0), (.invokevirtual 103, (69, 2, 5, [])), (.ireturn, (1, 0, 0, []))]),
  (14, [(.aload_n 0, i0), (.invokevirtual 58, (68, 1, 5, [])), (.iconst 1, i0), (.ireturn, (1, 0, 0, []))])]
def KX5_takeNumber : List (Nat × List OpI) := [(0, [(.aload_n 0, i0), (.getfield 93, (5, 1, 0, [])), (.bipush 27, i0), (.if_icmp .eq 11, (17, 0, 0, [])), (.aload_n 0, i0), (.iconst 2, i0), (.invokevirtual 103, (69, 2, 5, [])), (.pop, i0), (.iconst (-1), i0), (.ireturn, (0, 0, 0, []))]),
  (17, [(.aload_n 0, i0), (.getfield 96, (5, 2, 1, [])), (.iload_n 1, i0), (.i2l, i0), (.lcmp, i0), (.ifCond .lt 13, (37, 0, 0, [])), (.aload_n 0, i0), (.getfield 96, (5, 2, 1, [])), (.iload_n 2, i0), (.i2l, i0), (.lcmp, i0), (.ifCond .le 11, (45, 0, 0, [])), (.nop, (37, 0, 0, []))]),
  (37, [(.aload_n 0, i0), (.iconst 4, i0), (.invokevirtual 103, (69, 2, 5, [])), (.pop, i0), (.iconst (-1), i0), (.ireturn, (0, 0, 0, []))]),
  (45, [(.aload_n 0, i0), (.getfield 96, (5, 2, 1, [])), (.l2i, i0), (.istore_n 3, i0), (.aload_n 0, i0), (.invokevirtual 58, (68, 1, 5, [])), (.iload_n 3, i0), (.ireturn, (0, 0, 0, []))])]
def KX3_init : List (Nat × List OpI) := [(0, [(.aload_n 0, i0), (.invokespecial 3, (1999, 0, 0, [])), (.aload_n 0, i0), (.bipush 60, i0), (.newarray .int, (100, 0, 0, [])), (.putfield 9, (3, 3, 2, [])), (.aload_n 0, i0), (.bipush 60, i0), (.newarray .int, (100, 0, 0, [])), (.putfield 15, (3, 4, 2, [])), (.aload_n 0, i0), (.bipush 60, i0), (.newarray .int, (100, 0, 0, [])), (.putfield 18, (3, 5, 2, [])), (.aload_n 0, i0), (.bipush 60, i0), (.newarray .int, (100, 0, 0, [])), (.putfield 21, (3, 6, 2, [])), (.aload_n 0, i0), (.bipush 60, i0), (.newarray .int, (100, 0, 0, [])), (.putfield 24, (3, 7, 2, [])), (.aload_n 0, i0), (.bipush 60, i0), (.newarray .int, (100, 0, 0, [])), (.putfield 27, (3, 8, 2, [])), (.aload_n 0, i0), (.invokevirtual 30, (73, 1, 3, [])), (.return_, i0)])]
def KX3_clear : List (Nat × List OpI) := [(0, [(.aload_n 0, i0), (.iconst 0, i0), (.putfield 33, (3, 0, 3, [])), (.aload_n 0, i0), (.iconst 0, i0), (.putfield 37, (3, 1, 0, [])), (.aload_n 0, i0), (.iconst 0, i0), (.putfield 41, (3, 2, 0, [])), (.return_, i0)])]
def KX3_takeOver : List (Nat × List OpI) := [(0, [(.aload_n 0, i0), (.aload_n 1, i0), (.getfield 33, (3, 0, 0, [])), (.putfield 33, (3, 0, 3, [])), (.aload_n 0, i0), (.aload_n 1, i0), (.getfield 37, (3, 1, 0, [])), (.putfield 37, (3, 1, 0, [])), (.aload_n 0, i0), (.aload_n 1, i0), (.getfield 41, (3, 2, 0, [])), (.putfield 41, (3, 2, 0, [])), (.aload_n 1, i0), (.getfield 9, (3, 3, 2, [])), (.iconst 0, i0), (.aload_n 0, i0), (.getfield 9, (3, 3, 2, [])), (.iconst 0, i0), (.bipush 60, i0), (.invokestatic 44, (1003, 100, 0, [])), (.aload_n 1, i0), (.getfield 15, (3, 4, 2, [])), (.iconst 0, i0), (.aload_n 0, i0), (.getfield 15, (3, 4, 2, [])), (.iconst 0, i0), (.bipush 60, i0), (.invokestatic 44, (1003, 100, 0, [])), (.aload_n 1, i0), (.getfield 18, (3, 5, 2, [])), (.iconst 0, i0), (.aload_n 0, i0), (.getfield 18, (3, 5, 2, [])), (.iconst 0, i0), (.bipush 60, i0), (.invokestatic 44, (1003, 100, 0, [])), (.aload_n 1, i0), (.getfield 21, (3, 6, 2, [])), (.iconst 0, i0), (.aload_n 0, i0), (.getfield 21, (3, 6, 2, [])), (.iconst 0, i0), (.bipush 60, i0), (.invokestatic 44, (1003, 100, 0, [])), (.aload_n 1, i0), (.getfield 24, (3, 7, 2, [])), (.iconst 0, i0), (.aload_n 0, i0), (.getfield 24, (3, 7, 2, [])), (.iconst 0, i0), (.bipush 60, i0), (.invokestatic 44, (1003, 100, 0, [])), (.aload_n 1, i0), (.getfield 27, (3, 8, 2, [])), (.iconst 0, i0), (.aload_n 0, i0), (.getfield 27, (3, 8, 2, [])), (.iconst 0, i0), (.bipush 60, i0), (.invokestatic 44, (1003, 100, 0, [])), (.return_, i0)])]
def KX8_init : List (Nat × List OpI) := [(0, [(.aload_n 0, i0), (.invokespecial 3, (1999, 0, 0, [])), (.aload_n 0, i0), (.aload_n 1, i0), (.putfield 9, (8, 0, 2, [])), (.return_, i0)])]
def KX8_readInto : List (Nat × List OpI) := [(0, [(.aload_n 1, i0), (.invokevirtual 15, (8, 1, 7, [])), (.aload_n 0, i0), (.iconst 0, i0), (.putfield 20, (8, 1, 0, [])), (.iconst 0, i0), (.istore_n 2, i0), (.nop, (11, 0, 0, []))]),
  (11, [(.iload_n 2, i0), (.sipush 900, i0), (.if_icmp .gt 40, (55, 0, 0, [])), (.aload_n 0, i0), (.getfield 9, (8, 0, 2, [])), (.invokevirtual 24, (60, 1, 5, [])), (.aload_n 0, i0), (.getfield 9, (8, 0, 2, [])), (.getfield 29, (5, 1, 0, [])), (.bipush 32, i0), (.if_icmp .ne 5, (39, 0, 0, [])), (.iconst 1, i0), (.ireturn, (1, 0, 0, []))]),
  (39, [(.aload_n 0, i0), (.aload_n 1, i0), (.invokevirtual 32, (77, 2, 8, [])), (.ifCond .ne 5, (49, 0, 0, [])), (.iconst 0, i0), (.ireturn, (1, 0, 0, []))]),
  (49, [(.iinc 2 1, i0), (.goto (-41), (11, 0, 0, []))]),
  (55, [(.iconst 0, i0), (.ireturn, (1, 0, 0, []))])]
def KX8_takePart : List (Nat × List OpI) := [(0, [(.aload_n 0, i0), (.getfield 9, (8, 0, 2, [])), (.getfield 29, (5, 1, 0, [])), (.tableswitch 96 0 12 #[65, 65, 65, 78, 96, 96, 96, 84, 96, 96, 96, 96, 90], (103, 65, 0, [(0, 72), (1, 72), (2, 72), (3, 85), (4, 103), (5, 103), (6, 103), (7, 91), (8, 103), (9, 103), (10, 103), (11, 103), (12, 97)]))]),
  (72, [(.aload_n 0, i0), (.aload_n 1, i0), (.aload_n 0, i0), (.getfield 9, (8, 0, 2, [])), (.getfield 29, (5, 1, 0, [])), (.invokevirtual 36, (78, 3, 8, [])), (.ireturn, (1, 0, 0, []))]),
  (85, [(.aload_n 0, i0), (.aload_n 1, i0), (.invokevirtual 40, (79, 2, 8, [])), (.ireturn, (1, 0, 0, []))]),
  (91, [(.aload_n 0, i0), (.aload_n 1, i0), (.invokevirtual 43, (80, 2, 8, [])), (.ireturn, (1, 0, 0, []))]),
  (97, [(.aload_n 0, i0), (.aload_n 1, i0), (.invokevirtual 46, (81, 2, 8, [])), (.ireturn, (1, 0, 0, []))]),
  (103, [(.aload_n 0, i0), (.getfield 9, (8, 0, 2, [])), (.iconst 2, i0), (.invokevirtual 49, (69, 2, 5, [])), (.ireturn, (1, 0, 0, []))])]
def KX8_takeRule : List (Nat × List OpI) := [(0, [(.aload_n 0, i0), (.getfield 20, (8, 1, 0, [])), (.iload_n 2, i0), (.invokestatic 53, (182, 2, 0, [])), (.ifCond .eq 12, (20, 0, 0, [])), (.aload_n 0, i0), (.getfield 9, (8, 0, 2, [])), (.iconst 5, i0), (.invokevirtual 49, (69, 2, 5, [])), (.ireturn, (1, 0, 0, []))]),
  (20, [(.aload_n 0, i0), (.dup, i0), (.getfield 20, (8, 1, 0, [])), (.iconst 1, i0), (.iload_n 2, i0), (.ishl, i0), (.ior, i0), (.putfield 20, (8, 1, 0, [])), (.aload_n 0, i0), (.getfield 9, (8, 0, 2, [])), (.invokevirtual 57, (68, 1, 5, [])), (.iload_n 2, i0), (.ifCond .ne 8, (48, 0, 0, [])), (.bipush 9, i0), (.goto 14, (59, 0, 0, []))]),
  (48, [(.iload_n 2, i0), (.iconst 1, i0), (.if_icmp .ne 7, (57, 0, 0, [])), (.iconst 5, i0), (.goto 5, (59, 0, 0, []))]),
  (57, [(.bipush 16, i0), (.nop, (59, 0, 0, []))]),
  (59, [(.istore_n 3, i0), (.aload_n 0, i0), (.getfield 9, (8, 0, 2, [])), (.iconst 0, i0), (.iload_n 3, i0), (.invokevirtual 60, (71, 3, 5, [])), (.istore 4, i0), (.iload 4, i0), (.iconst (-1), i0), (.if_icmp .ne 5, (79, 0, 0, [])), (.iconst 0, i0), (.ireturn, (1, 0, 0, []))]),
  (79, [(.iload_n 2, i0), (.ifCond .ne 12, (92, 0, 0, [])), (.aload_n 1, i0), (.iload 4, i0), (.putfield 64, (7, 16, 0, [])), (.goto 23, (112, 0, 0, []))]),
  (92, [(.iload_n 2, i0), (.iconst 1, i0), (.if_icmp .ne 12, (106, 0, 0, [])), (.aload_n 1, i0), (.iload 4, i0), (.putfield 67, (7, 17, 0, [])), (.goto 9, (112, 0, 0, []))]),
  (106, [(.aload_n 1, i0), (.iload 4, i0), (.putfield 70, (7, 18, 0, [])), (.nop, (112, 0, 0, []))]),
  (112, [(.aload_n 0, i0), (.getfield 9, (8, 0, 2, [])), (.bipush 28, i0), (.invokevirtual 73, (70, 2, 5, [])), (.ireturn, (1, 0, 0, []))])]
def KX8_takeArch : List (Nat × List OpI) := [(0, [(.aload_n 1, i0), (.getfield 76, (7, 0, 0, [])), (.bipush 9, i0), (.if_icmp .lt 13, (19, 0, 0, [])), (.aload_n 0, i0), (.getfield 9, (8, 0, 2, [])), (.bipush 6, i0), (.invokevirtual 49, (69, 2, 5, [])), (.ireturn, (1, 0, 0, []))]),
  (19, [(.aload_n 0, i0), (.getfield 9, (8, 0, 2, [])), (.invokevirtual 57, (68, 1, 5, [])), (.aload_n 0, i0), (.getfield 9, (8, 0, 2, [])), (.iconst 4, i0), (.invokevirtual 73, (70, 2, 5, [])), (.ifCond .ne 5, (39, 0, 0, [])), (.iconst 0, i0), (.ireturn, (1, 0, 0, []))]),
  (39, [(.aload_n 0, i0), (.getfield 9, (8, 0, 2, [])), (.iconst 0, i0), (.bipush 60, i0), (.invokevirtual 60, (71, 3, 5, [])), (.istore_n 2, i0), (.iload_n 2, i0), (.iconst (-1), i0), (.if_icmp .ne 5, (57, 0, 0, [])), (.iconst 0, i0), (.ireturn, (1, 0, 0, []))]),
  (57, [(.aload_n 1, i0), (.getfield 76, (7, 0, 0, [])), (.istore_n 3, i0), (.aload_n 1, i0), (.iload_n 2, i0), (.iconst 1, i0), (.invokevirtual 79, (10, 3, 7, [])), (.aload_n 0, i0), (.iconst 5, i0), (.bipush 9, i0), (.aload_n 1, i0), (.getfield 83, (7, 2, 2, [])), (.iload_n 3, i0), (.invokevirtual 87, (82, 5, 8, [])), (.ifCond .eq 35, (115, 0, 0, [])), (.aload_n 0, i0), (.bipush 6, i0), (.bipush 9, i0), (.aload_n 1, i0), (.getfield 91, (7, 3, 2, [])), (.iload_n 3, i0), (.invokevirtual 87, (82, 5, 8, [])), (.ifCond .eq 19, (115, 0, 0, [])), (.aload_n 0, i0), (.getfield 9, (8, 0, 2, [])), (.bipush 28, i0), (.invokevirtual 73, (70, 2, 5, [])), (.ifCond .eq 7, (115, 0, 0, [])), (.iconst 1, i0), (.goto 4, (116, 0, 0, []))]),
  (115, [(.iconst 0, i0), (.nop, (116, 0, 0, []))]),
  (116, [(.ireturn, (1, 0, 0, []))])]
def KX8_takePerson : List (Nat × List OpI) := [(0, [(.aload_n 1, i0), (.getfield 94, (7, 5, 0, [])), (.bipush 6, i0), (.if_icmp .lt 13, (19, 0, 0, [])), (.aload_n 0, i0), (.getfield 9, (8, 0, 2, [])), (.bipush 6, i0), (.invokevirtual 49, (69, 2, 5, [])), (.ireturn, (1, 0, 0, []))]),
  (19, [(.aload_n 0, i0), (.getfield 9, (8, 0, 2, [])), (.invokevirtual 57, (68, 1, 5, [])), (.aload_n 0, i0), (.getfield 9, (8, 0, 2, [])), (.getfield 29, (5, 1, 0, [])), (.bipush 25, i0), (.if_icmp .eq 12, (47, 0, 0, [])), (.aload_n 0, i0), (.getfield 9, (8, 0, 2, [])), (.iconst 2, i0), (.invokevirtual 49, (69, 2, 5, [])), (.ireturn, (1, 0, 0, []))]),
  (47, [(.aload_n 0, i0), (.getfield 9, (8, 0, 2, [])), (.getfield 97, (5, 2, 1, [])), (.lstore_n 2, i0), (.aload_n 1, i0), (.lload_n 2, i0), (.invokevirtual 101, (16, 2, 7, [])), (.iconst (-1), i0), (.if_icmp .eq 12, (73, 0, 0, [])), (.aload_n 0, i0), (.getfield 9, (8, 0, 2, [])), (.iconst 3, i0), (.invokevirtual 49, (69, 2, 5, [])), (.ireturn, (1, 0, 0, []))]),
  (73, [(.aload_n 0, i0), (.getfield 9, (8, 0, 2, [])), (.invokevirtual 57, (68, 1, 5, [])), (.aload_n 0, i0), (.getfield 9, (8, 0, 2, [])), (.bipush 8, i0), (.invokevirtual 73, (70, 2, 5, [])), (.ifCond .ne 5, (94, 0, 0, [])), (.iconst 0, i0), (.ireturn, (1, 0, 0, []))]),
  (94, [(.aload_n 0, i0), (.getfield 9, (8, 0, 2, [])), (.iconst 1, i0), (.bipush 40, i0), (.invokevirtual 60, (71, 3, 5, [])), (.istore 4, i0), (.iload 4, i0), (.iconst (-1), i0), (.if_icmp .ne 5, (114, 0, 0, [])), (.iconst 0, i0), (.ireturn, (1, 0, 0, []))]),
  (114, [(.aload_n 1, i0), (.getfield 94, (7, 5, 0, [])), (.istore 5, i0), (.aload_n 1, i0), (.lload_n 2, i0), (.iload 4, i0), (.invokevirtual 105, (11, 3, 7, [])), (.aload_n 0, i0), (.bipush 9, i0), (.bipush 9, i0), (.aload_n 1, i0), (.getfield 109, (7, 8, 2, [])), (.iload 5, i0), (.invokevirtual 87, (82, 5, 8, [])), (.ifCond .eq 55, (196, 0, 0, [])), (.aload_n 0, i0), (.bipush 10, i0), (.bipush 9, i0), (.aload_n 1, i0), (.getfield 112, (7, 9, 2, [])), (.iload 5, i0), (.invokevirtual 87, (82, 5, 8, [])), (.ifCond .eq 38, (196, 0, 0, [])), (.aload_n 0, i0), (.bipush 11, i0), (.aload_n 1, i0), (.getfield 76, (7, 0, 0, [])), (.aload_n 1, i0), (.getfield 115, (7, 10, 2, [])), (.iload 5, i0), (.invokevirtual 87, (82, 5, 8, [])), (.ifCond .eq 19, (196, 0, 0, [])), (.aload_n 0, i0), (.getfield 9, (8, 0, 2, [])), (.bipush 28, i0), (.invokevirtual 73, (70, 2, 5, [])), (.ifCond .eq 7, (196, 0, 0, [])), (.iconst 1, i0), (.goto 4, (197, 0, 0, []))]),
  (196, [(.iconst 0, i0), (.nop, (197, 0, 0, []))]),
  (197, [(.ireturn, (1, 0, 0, []))])]
def KX8_takePlant : List (Nat × List OpI) := [(0, [(.aload_n 1, i0), (.getfield 118, (7, 13, 0, [])), (.bipush 8, i0), (.if_icmp .lt 13, (19, 0, 0, [])), (.aload_n 0, i0), (.getfield 9, (8, 0, 2, [])), (.bipush 6, i0), (.invokevirtual 49, (69, 2, 5, [])), (.ireturn, (1, 0, 0, []))]),
  (19, [(.aload_n 0, i0), (.getfield 9, (8, 0, 2, [])), (.invokevirtual 57, (68, 1, 5, [])), (.aload_n 0, i0), (.getfield 9, (8, 0, 2, [])), (.iconst 1, i0), (.bipush 30, i0), (.invokevirtual 60, (71, 3, 5, [])), (.istore_n 2, i0), (.iload_n 2, i0), (.iconst (-1), i0), (.if_icmp .eq 15, (54, 0, 0, [])), (.aload_n 0, i0), (.getfield 9, (8, 0, 2, [])), (.bipush 13, i0), (.invokevirtual 73, (70, 2, 5, [])), (.ifCond .ne 5, (56, 0, 0, [])), (.nop, (54, 0, 0, []))]),
  (54, [(.iconst 0, i0), (.ireturn, (1, 0, 0, []))]),
  (56, [(.aload_n 0, i0), (.getfield 9, (8, 0, 2, [])), (.iconst 0, i0), (.bipush 99, i0), (.invokevirtual 60, (71, 3, 5, [])), (.istore_n 3, i0), (.iload_n 3, i0), (.iconst (-1), i0), (.if_icmp .ne 5, (74, 0, 0, [])), (.iconst 0, i0), (.ireturn, (1, 0, 0, []))]),
  (74, [(.aload_n 1, i0), (.iload_n 2, i0), (.iload_n 3, i0), (.invokevirtual 121, (12, 3, 7, [])), (.aload_n 0, i0), (.getfield 9, (8, 0, 2, [])), (.bipush 28, i0), (.invokevirtual 73, (70, 2, 5, [])), (.ireturn, (1, 0, 0, []))])]
def KX8_takeOption : List (Nat × List OpI) := [(0, [(.aload_n 0, i0), (.getfield 9, (8, 0, 2, [])), (.getfield 29, (5, 1, 0, [])), (.iload_n 1, i0), (.if_icmp .eq 5, (13, 0, 0, [])), (.iconst 1, i0), (.ireturn, (1, 0, 0, []))]),
  (13, [(.aload_n 0, i0), (.getfield 9, (8, 0, 2, [])), (.invokevirtual 57, (68, 1, 5, [])), (.aload_n 0, i0), (.getfield 9, (8, 0, 2, [])), (.iconst 0, i0), (.iload_n 2, i0), (.invokevirtual 60, (71, 3, 5, [])), (.istore 5, i0), (.iload 5, i0), (.iconst (-1), i0), (.if_icmp .ne 5, (39, 0, 0, [])), (.iconst 0, i0), (.ireturn, (1, 0, 0, []))]),
  (39, [(.aload_n 3, i0), (.iload 4, i0), (.iload 5, i0), (.iastore, i0), (.iconst 1, i0), (.ireturn, (1, 0, 0, []))])]
def KX4_init : List (Nat × List OpI) := [(0, [(.aload_n 0, i0), (.invokespecial 3, (1999, 0, 0, [])), (.aload_n 0, i0), (.aload_n 1, i0), (.putfield 9, (4, 0, 2, [])), (.aload_n 0, i0), (.aload_n 2, i0), (.putfield 15, (4, 3, 2, [])), (.aload_n 0, i0), (.aload_n 3, i0), (.putfield 19, (4, 4, 2, [])), (.aload_n 0, i0), (.iconst 3, i0), (.newarray .int, (100, 0, 0, [])), (.putfield 23, (4, 1, 2, [])), (.return_, i0)])]
def KX4_readInto : List (Nat × List OpI) := [(0, [(.aload_n 0, i0), (.aload_n 1, i0), (.putfield 15, (4, 3, 2, [])), (.aload_n 0, i0), (.aload_n 2, i0), (.putfield 19, (4, 4, 2, [])), (.aload_n 0, i0), (.getfield 15, (4, 3, 2, [])), (.invokevirtual 27, (73, 1, 3, [])), (.aload_n 0, i0), (.iconst 0, i0), (.putfield 32, (4, 2, 0, [])), (.iconst 0, i0), (.istore_n 3, i0), (.nop, (24, 0, 0, []))]),
  (24, [(.iload_n 3, i0), (.sipush 300, i0), (.if_icmp .gt 83, (111, 0, 0, [])), (.aload_n 0, i0), (.getfield 9, (4, 0, 2, [])), (.invokevirtual 36, (60, 1, 5, [])), (.aload_n 0, i0), (.getfield 9, (4, 0, 2, [])), (.getfield 41, (5, 1, 0, [])), (.bipush 32, i0), (.if_icmp .ne 49, (96, 0, 0, [])), (.aload_n 0, i0), (.getfield 15, (4, 3, 2, [])), (.aload_n 0, i0), (.getfield 32, (4, 2, 0, [])), (.ifCond .ne 7, (65, 0, 0, [])), (.iconst 1, i0), (.goto 4, (66, 0, 0, []))]),
  (65, [(.iconst 0, i0), (.nop, (66, 0, 0, []))]),
  (66, [(.putfield 44, (3, 0, 3, [])), (.aload_n 0, i0), (.getfield 15, (4, 3, 2, [])), (.getfield 44, (3, 0, 0, [])), (.ifCond .ne 14, (90, 0, 0, [])), (.aload_n 0, i0), (.getfield 9, (4, 0, 2, [])), (.iconst 2, i0), (.invokevirtual 48, (69, 2, 5, [])), (.ifCond .eq 7, (94, 0, 0, [])), (.nop, (90, 0, 0, []))]),
  (90, [(.iconst 1, i0), (.goto 4, (95, 0, 0, []))]),
  (94, [(.iconst 0, i0), (.nop, (95, 0, 0, []))]),
  (95, [(.ireturn, (1, 0, 0, []))]),
  (96, [(.aload_n 0, i0), (.invokevirtual 52, (85, 1, 4, [])), (.ifCond .ne 5, (105, 0, 0, [])), (.iconst 0, i0), (.ireturn, (1, 0, 0, []))]),
  (105, [(.iinc 3 1, i0), (.goto (-84), (24, 0, 0, []))]),
  (111, [(.iconst 0, i0), (.ireturn, (1, 0, 0, []))])]
def KX4_takeRow : List (Nat × List OpI) := [(0, [(.aload_n 0, i0), (.getfield 9, (4, 0, 2, [])), (.getfield 41, (5, 1, 0, [])), (.istore_n 1, i0), (.iload_n 1, i0), (.bipush 23, i0), (.if_icmp .ne 8, (19, 0, 0, [])), (.aload_n 0, i0), (.invokevirtual 56, (87, 1, 4, [])), (.ireturn, (1, 0, 0, []))]),
  (19, [(.iload_n 1, i0), (.invokestatic 59, (86, 1, 0, [])), (.ifCond .ne 12, (35, 0, 0, [])), (.aload_n 0, i0), (.getfield 9, (4, 0, 2, [])), (.iconst 2, i0), (.invokevirtual 48, (69, 2, 5, [])), (.ireturn, (1, 0, 0, []))]),
  (35, [(.aload_n 0, i0), (.getfield 15, (4, 3, 2, [])), (.getfield 62, (3, 1, 0, [])), (.bipush 30, i0), (.if_icmp .ge 15, (59, 0, 0, [])), (.aload_n 0, i0), (.getfield 15, (4, 3, 2, [])), (.getfield 65, (3, 2, 0, [])), (.bipush 60, i0), (.if_icmp .lt 13, (69, 0, 0, [])), (.nop, (59, 0, 0, []))]),
  (59, [(.aload_n 0, i0), (.getfield 9, (4, 0, 2, [])), (.bipush 6, i0), (.invokevirtual 48, (69, 2, 5, [])), (.ireturn, (1, 0, 0, []))]),
  (69, [(.iload_n 1, i0), (.bipush 20, i0), (.if_icmp .eq 9, (81, 0, 0, [])), (.iload_n 1, i0), (.bipush 22, i0), (.if_icmp .ne 7, (85, 0, 0, [])), (.nop, (81, 0, 0, []))]),
  (81, [(.iconst 1, i0), (.goto 4, (86, 0, 0, []))]),
  (85, [(.iconst 0, i0), (.nop, (86, 0, 0, []))]),
  (86, [(.istore_n 2, i0), (.iload_n 2, i0), (.ifCond .eq 21, (109, 0, 0, [])), (.aload_n 0, i0), (.getfield 32, (4, 2, 0, [])), (.iconst 3, i0), (.if_icmp .lt 13, (109, 0, 0, [])), (.aload_n 0, i0), (.getfield 9, (4, 0, 2, [])), (.bipush 7, i0), (.invokevirtual 48, (69, 2, 5, [])), (.ireturn, (1, 0, 0, []))]),
  (109, [(.aload_n 0, i0), (.getfield 15, (4, 3, 2, [])), (.getfield 65, (3, 2, 0, [])), (.istore_n 3, i0), (.aload_n 0, i0), (.getfield 15, (4, 3, 2, [])), (.getfield 68, (3, 3, 2, [])), (.iload_n 3, i0), (.iload_n 1, i0), (.iastore, i0), (.aload_n 0, i0), (.getfield 9, (4, 0, 2, [])), (.invokevirtual 71, (68, 1, 5, [])), (.aload_n 0, i0), (.iload_n 1, i0), (.iload_n 3, i0), (.invokevirtual 74, (88, 3, 4, [])), (.ifCond .eq 15, (155, 0, 0, [])), (.aload_n 0, i0), (.getfield 9, (4, 0, 2, [])), (.bipush 28, i0), (.invokevirtual 78, (70, 2, 5, [])), (.ifCond .ne 5, (157, 0, 0, [])), (.nop, (155, 0, 0, []))]),
  (155, [(.iconst 0, i0), (.ireturn, (1, 0, 0, []))]),
  (157, [(.iload_n 2, i0), (.ifCond .eq 23, (181, 0, 0, [])), (.aload_n 0, i0), (.getfield 23, (4, 1, 2, [])), (.aload_n 0, i0), (.getfield 32, (4, 2, 0, [])), (.iload_n 3, i0), (.iastore, i0), (.aload_n 0, i0), (.dup, i0), (.getfield 32, (4, 2, 0, [])), (.iconst 1, i0), (.iadd, i0), (.putfield 32, (4, 2, 0, [])), (.nop, (181, 0, 0, []))]),
  (181, [(.aload_n 0, i0), (.getfield 15, (4, 3, 2, [])), (.dup, i0), (.getfield 65, (3, 2, 0, [])), (.iconst 1, i0), (.iadd, i0), (.putfield 65, (3, 2, 0, [])), (.aload_n 0, i0), (.getfield 15, (4, 3, 2, [])), (.dup, i0), (.getfield 62, (3, 1, 0, [])), (.iconst 1, i0), (.iadd, i0), (.putfield 62, (3, 1, 0, [])), (.iconst 1, i0), (.ireturn, (1, 0, 0, []))])]
def KX4_beginsStep : List (Nat × List OpI) := [(0, [(.iload_n 0, i0), (.tableswitch 113 1 24 #[111, 113, 113, 113, 113, 113, 113, 113, 113, 113, 113, 113, 113, 111, 111, 111, 111, 111, 111, 111, 113, 111, 113, 111], (114, 111, 1, [(1, 112), (2, 114), (3, 114), (4, 114), (5, 114), (6, 114), (7, 114), (8, 114), (9, 114), (10, 114), (11, 114), (12, 114), (13, 114), (14, 112), (15, 112), (16, 112), (17, 112), (18, 112), (19, 112), (20, 112), (21, 114), (22, 112), (23, 114), (24, 112)]))]),
  (112, [(.iconst 1, i0), (.ireturn, (1, 0, 0, []))]),
  (114, [(.iconst 0, i0), (.ireturn, (1, 0, 0, []))])]
def KX4_takeEnd : List (Nat × List OpI) := [(0, [(.aload_n 0, i0), (.getfield 32, (4, 2, 0, [])), (.ifCond .le 15, (19, 0, 0, [])), (.aload_n 0, i0), (.getfield 15, (4, 3, 2, [])), (.getfield 65, (3, 2, 0, [])), (.bipush 60, i0), (.if_icmp .lt 12, (28, 0, 0, [])), (.nop, (19, 0, 0, []))]),
  (19, [(.aload_n 0, i0), (.getfield 9, (4, 0, 2, [])), (.iconst 2, i0), (.invokevirtual 48, (69, 2, 5, [])), (.ireturn, (1, 0, 0, []))]),
  (28, [(.aload_n 0, i0), (.getfield 9, (4, 0, 2, [])), (.invokevirtual 71, (68, 1, 5, [])), (.aload_n 0, i0), (.getfield 9, (4, 0, 2, [])), (.bipush 28, i0), (.invokevirtual 78, (70, 2, 5, [])), (.ifCond .ne 5, (49, 0, 0, [])), (.iconst 0, i0), (.ireturn, (1, 0, 0, []))]),
  (49, [(.aload_n 0, i0), (.dup, i0), (.getfield 32, (4, 2, 0, [])), (.iconst 1, i0), (.isub, i0), (.putfield 32, (4, 2, 0, [])), (.aload_n 0, i0), (.getfield 15, (4, 3, 2, [])), (.getfield 65, (3, 2, 0, [])), (.istore_n 1, i0), (.aload_n 0, i0), (.getfield 15, (4, 3, 2, [])), (.getfield 68, (3, 3, 2, [])), (.iload_n 1, i0), (.bipush 23, i0), (.iastore, i0), (.aload_n 0, i0), (.getfield 15, (4, 3, 2, [])), (.getfield 81, (3, 8, 2, [])), (.iload_n 1, i0), (.aload_n 0, i0), (.getfield 23, (4, 1, 2, [])), (.aload_n 0, i0), (.getfield 32, (4, 2, 0, [])), (.iaload, (100, 0, 0, [])), (.iastore, i0), (.aload_n 0, i0), (.getfield 15, (4, 3, 2, [])), (.getfield 81, (3, 8, 2, [])), (.aload_n 0, i0), (.getfield 23, (4, 1, 2, [])), (.aload_n 0, i0), (.getfield 32, (4, 2, 0, [])), (.iaload, (100, 0, 0, [])), (.iload_n 1, i0), (.iastore, i0), (.aload_n 0, i0), (.getfield 15, (4, 3, 2, [])), (.dup, i0), (.getfield 65, (3, 2, 0, [])), (.iconst 1, i0), (.iadd, i0), (.putfield 65, (3, 2, 0, [])), (.iconst 1, i0), (.ireturn, (1, 0, 0, []))])]
def KX4_takeRest : List (Nat × List OpI) := [(0, [(.iload_n 1, i0), (.tableswitch 261 1 22 #[212, 261, 261, 261, 261, 261, 261, 261, 261, 261, 261, 261, 261, 103, 119, 161, 103, 190, 261, 255, 261, 233], (262, 103, 1, [(1, 213), (2, 262), (3, 262), (4, 262), (5, 262), (6, 262), (7, 262), (8, 262), (9, 262), (10, 262), (11, 262), (12, 262), (13, 262), (14, 104), (15, 120), (16, 162), (17, 104), (18, 191), (19, 262), (20, 256), (21, 262), (22, 234)]))]),
  (104, [(.aload_n 0, i0), (.getfield 15, (4, 3, 2, [])), (.getfield 84, (3, 4, 2, [])), (.iload_n 2, i0), (.aload_n 0, i0), (.invokevirtual 87, (90, 1, 4, [])), (.invokestatic 91, (91, 3, 0, [])), (.ireturn, (1, 0, 0, []))]),
  (120, [(.aload_n 0, i0), (.getfield 15, (4, 3, 2, [])), (.getfield 84, (3, 4, 2, [])), (.iload_n 2, i0), (.aload_n 0, i0), (.invokevirtual 87, (90, 1, 4, [])), (.invokestatic 91, (91, 3, 0, [])), (.ifCond .eq 25, (160, 0, 0, [])), (.aload_n 0, i0), (.getfield 15, (4, 3, 2, [])), (.getfield 95, (3, 5, 2, [])), (.iload_n 2, i0), (.aload_n 0, i0), (.invokevirtual 87, (90, 1, 4, [])), (.invokestatic 91, (91, 3, 0, [])), (.ifCond .eq 7, (160, 0, 0, [])), (.iconst 1, i0), (.goto 4, (161, 0, 0, []))]),
  (160, [(.iconst 0, i0), (.nop, (161, 0, 0, []))]),
  (161, [(.ireturn, (1, 0, 0, []))]),
  (162, [(.aload_n 0, i0), (.getfield 15, (4, 3, 2, [])), (.getfield 84, (3, 4, 2, [])), (.iload_n 2, i0), (.aload_n 0, i0), (.getfield 9, (4, 0, 2, [])), (.iconst 0, i0), (.aload_n 0, i0), (.getfield 19, (4, 4, 2, [])), (.getfield 98, (7, 0, 0, [])), (.iconst 1, i0), (.isub, i0), (.invokevirtual 103, (71, 3, 5, [])), (.invokestatic 91, (91, 3, 0, [])), (.ireturn, (1, 0, 0, []))]),
  (191, [(.aload_n 0, i0), (.getfield 15, (4, 3, 2, [])), (.getfield 84, (3, 4, 2, [])), (.iload_n 2, i0), (.aload_n 0, i0), (.getfield 9, (4, 0, 2, [])), (.iconst 1, i0), (.bipush 40, i0), (.invokevirtual 103, (71, 3, 5, [])), (.invokestatic 91, (91, 3, 0, [])), (.ireturn, (1, 0, 0, []))]),
  (213, [(.aload_n 0, i0), (.getfield 15, (4, 3, 2, [])), (.getfield 84, (3, 4, 2, [])), (.iload_n 2, i0), (.aload_n 0, i0), (.getfield 9, (4, 0, 2, [])), (.iconst 0, i0), (.iconst 5, i0), (.invokevirtual 103, (71, 3, 5, [])), (.invokestatic 91, (91, 3, 0, [])), (.ireturn, (1, 0, 0, []))]),
  (234, [(.aload_n 0, i0), (.getfield 15, (4, 3, 2, [])), (.getfield 84, (3, 4, 2, [])), (.iload_n 2, i0), (.aload_n 0, i0), (.getfield 9, (4, 0, 2, [])), (.iconst 1, i0), (.bipush 99, i0), (.invokevirtual 103, (71, 3, 5, [])), (.invokestatic 91, (91, 3, 0, [])), (.ireturn, (1, 0, 0, []))]),
  (256, [(.aload_n 0, i0), (.iload_n 2, i0), (.invokevirtual 107, (89, 2, 4, [])), (.ireturn, (1, 0, 0, []))]),
  (262, [(.iconst 1, i0), (.ireturn, (1, 0, 0, []))])]
def KX4_takeTest : List (Nat × List OpI) := [(0, [(.aload_n 0, i0), (.getfield 9, (4, 0, 2, [])), (.getfield 41, (5, 1, 0, [])), (.istore_n 2, i0), (.aload_n 0, i0), (.getfield 15, (4, 3, 2, [])), (.getfield 110, (3, 6, 2, [])), (.iload_n 1, i0), (.iload_n 2, i0), (.iastore, i0), (.iload_n 2, i0), (.bipush 21, i0), (.if_icmp .eq 23, (44, 0, 0, [])), (.iload_n 2, i0), (.bipush 11, i0), (.if_icmp .eq 17, (44, 0, 0, [])), (.iload_n 2, i0), (.iconst 5, i0), (.if_icmp .eq 12, (44, 0, 0, [])), (.aload_n 0, i0), (.getfield 9, (4, 0, 2, [])), (.iconst 2, i0), (.invokevirtual 48, (69, 2, 5, [])), (.ireturn, (1, 0, 0, []))]),
  (44, [(.aload_n 0, i0), (.getfield 9, (4, 0, 2, [])), (.invokevirtual 71, (68, 1, 5, [])), (.iload_n 2, i0), (.iconst 5, i0), (.if_icmp .ne 23, (76, 0, 0, [])), (.aload_n 0, i0), (.getfield 9, (4, 0, 2, [])), (.iconst 0, i0), (.aload_n 0, i0), (.getfield 19, (4, 4, 2, [])), (.getfield 98, (7, 0, 0, [])), (.iconst 1, i0), (.isub, i0), (.invokevirtual 103, (71, 3, 5, [])), (.goto 7, (80, 0, 0, []))]),
  (76, [(.aload_n 0, i0), (.invokevirtual 87, (90, 1, 4, [])), (.nop, (80, 0, 0, []))]),
  (80, [(.istore_n 3, i0), (.aload_n 0, i0), (.getfield 15, (4, 3, 2, [])), (.getfield 84, (3, 4, 2, [])), (.iload_n 1, i0), (.iload_n 3, i0), (.invokestatic 91, (91, 3, 0, [])), (.ifCond .ne 5, (98, 0, 0, [])), (.iconst 0, i0), (.ireturn, (1, 0, 0, []))]),
  (98, [(.iload_n 2, i0), (.bipush 21, i0), (.if_icmp .ne 5, (106, 0, 0, [])), (.iconst 1, i0), (.ireturn, (1, 0, 0, []))]),
  (106, [(.aload_n 0, i0), (.getfield 9, (4, 0, 2, [])), (.getfield 41, (5, 1, 0, [])), (.istore 4, i0), (.iload 4, i0), (.bipush 29, i0), (.if_icmp .eq 26, (145, 0, 0, [])), (.iload 4, i0), (.bipush 30, i0), (.if_icmp .eq 19, (145, 0, 0, [])), (.iload 4, i0), (.bipush 31, i0), (.if_icmp .eq 12, (145, 0, 0, [])), (.aload_n 0, i0), (.getfield 9, (4, 0, 2, [])), (.iconst 2, i0), (.invokevirtual 48, (69, 2, 5, [])), (.ireturn, (1, 0, 0, []))]),
  (145, [(.aload_n 0, i0), (.getfield 15, (4, 3, 2, [])), (.getfield 113, (3, 7, 2, [])), (.iload_n 1, i0), (.iload 4, i0), (.iastore, i0), (.aload_n 0, i0), (.getfield 9, (4, 0, 2, [])), (.invokevirtual 71, (68, 1, 5, [])), (.aload_n 0, i0), (.getfield 15, (4, 3, 2, [])), (.getfield 95, (3, 5, 2, [])), (.iload_n 1, i0), (.aload_n 0, i0), (.getfield 9, (4, 0, 2, [])), (.iconst 0, i0), (.bipush 9, i0), (.invokevirtual 103, (71, 3, 5, [])), (.invokestatic 91, (91, 3, 0, [])), (.ireturn, (1, 0, 0, []))])]
def KX4_takeName : List (Nat × List OpI) := [(0, [(.aload_n 0, i0), (.getfield 9, (4, 0, 2, [])), (.getfield 41, (5, 1, 0, [])), (.bipush 25, i0), (.if_icmp .eq 14, (23, 0, 0, [])), (.aload_n 0, i0), (.getfield 9, (4, 0, 2, [])), (.iconst 2, i0), (.invokevirtual 48, (69, 2, 5, [])), (.pop, i0), (.iconst (-1), i0), (.ireturn, (0, 0, 0, []))]),
  (23, [(.aload_n 0, i0), (.getfield 19, (4, 4, 2, [])), (.aload_n 0, i0), (.getfield 9, (4, 0, 2, [])), (.getfield 116, (5, 2, 1, [])), (.invokevirtual 120, (16, 2, 7, [])), (.istore_n 1, i0), (.iload_n 1, i0), (.iconst (-1), i0), (.if_icmp .ne 14, (54, 0, 0, [])), (.aload_n 0, i0), (.getfield 9, (4, 0, 2, [])), (.iconst 3, i0), (.invokevirtual 48, (69, 2, 5, [])), (.pop, i0), (.iconst (-1), i0), (.ireturn, (0, 0, 0, []))]),
  (54, [(.aload_n 0, i0), (.getfield 9, (4, 0, 2, [])), (.invokevirtual 71, (68, 1, 5, [])), (.iload_n 1, i0), (.ireturn, (0, 0, 0, []))])]
def KX4_keep : List (Nat × List OpI) := [(0, [(.aload_n 0, i0), (.iload_n 1, i0), (.iload_n 2, i0), (.iastore, i0), (.iload_n 2, i0), (.iconst (-1), i0), (.if_icmp .eq 7, (13, 0, 0, [])), (.iconst 1, i0), (.goto 4, (14, 0, 0, []))]),
  (13, [(.iconst 0, i0), (.nop, (14, 0, 0, []))]),
  (14, [(.ireturn, (1, 0, 0, []))])]
def KX1_init : List (Nat × List OpI) := [(0, [(.aload_n 0, i0), (.invokespecial 3, (1999, 0, 0, [])), (.aload_n 0, i0), (.bipush 6, i0), (.newarray .int, (100, 0, 0, [])), (.putfield 9, (1, 0, 2, [])), (.aload_n 0, i0), (.bipush 64, i0), (.newarray .int, (100, 0, 0, [])), (.putfield 15, (1, 1, 2, [])), (.return_, i0)])]
def KX1_weigh : List (Nat × List OpI) := [(0, [(.aload_n 0, i0), (.aload_n 1, i0), (.getfield 18, (7, 5, 0, [])), (.putfield 24, (1, 2, 0, [])), (.aload_n 0, i0), (.aload_n 1, i0), (.iconst 0, i0), (.aload_n 1, i0), (.getfield 25, (7, 0, 0, [])), (.invokevirtual 28, (34, 3, 7, [])), (.putfield 32, (1, 3, 0, [])), (.iconst 0, i0), (.istore_n 2, i0), (.nop, (23, 0, 0, []))]),
  (23, [(.iload_n 2, i0), (.aload_n 0, i0), (.getfield 24, (1, 2, 0, [])), (.if_icmp .ge 20, (48, 0, 0, [])), (.aload_n 0, i0), (.getfield 9, (1, 0, 2, [])), (.iload_n 2, i0), (.aload_n 1, i0), (.iload_n 2, i0), (.invokestatic 35, (94, 2, 0, [])), (.iastore, i0), (.iinc 2 1, i0), (.goto (-22), (23, 0, 0, []))]),
  (48, [(.aload_n 0, i0), (.getfield 15, (1, 1, 2, [])), (.iconst 0, i0), (.iconst 0, i0), (.iastore, i0), (.iconst 1, i0), (.istore_n 2, i0), (.nop, (57, 0, 0, []))]),
  (57, [(.iload_n 2, i0), (.iconst 1, i0), (.aload_n 0, i0), (.getfield 24, (1, 2, 0, [])), (.ishl, i0), (.if_icmp .ge 20, (84, 0, 0, [])), (.aload_n 0, i0), (.getfield 15, (1, 1, 2, [])), (.iload_n 2, i0), (.aload_n 0, i0), (.iload_n 2, i0), (.invokevirtual 39, (95, 2, 1, [])), (.iastore, i0), (.iinc 2 1, i0), (.goto (-24), (57, 0, 0, []))]),
  (84, [(.return_, i0)])]
def KX1_wellWith : List (Nat × List OpI) := [(0, [(.iconst 0, i0), (.istore_n 2, i0), (.iconst 0, i0), (.istore_n 3, i0), (.nop, (4, 0, 0, []))]),
  (4, [(.iload_n 3, i0), (.aload_n 0, i0), (.getfield 18, (7, 5, 0, [])), (.if_icmp .ge 67, (76, 0, 0, [])), (.iload_n 3, i0), (.iload_n 1, i0), (.if_icmp .ne 24, (38, 0, 0, [])), (.aload_n 0, i0), (.iload_n 3, i0), (.iconst 0, i0), (.invokevirtual 43, (35, 3, 7, [])), (.aload_n 0, i0), (.getfield 25, (7, 0, 0, [])), (.if_icmp .ne 7, (34, 0, 0, [])), (.iconst 1, i0), (.goto 26, (57, 0, 0, []))]),
  (34, [(.iconst 0, i0), (.goto 22, (57, 0, 0, []))]),
  (38, [(.aload_n 0, i0), (.iload_n 1, i0), (.iload_n 3, i0), (.iconst 0, i0), (.invokevirtual 46, (31, 4, 7, [])), (.aload_n 0, i0), (.getfield 25, (7, 0, 0, [])), (.if_icmp .ne 7, (56, 0, 0, [])), (.iconst 1, i0), (.goto 4, (57, 0, 0, []))]),
  (56, [(.iconst 0, i0), (.nop, (57, 0, 0, []))]),
  (57, [(.istore 4, i0), (.iload 4, i0), (.ifCond .eq 9, (70, 0, 0, [])), (.iload_n 2, i0), (.iconst 1, i0), (.iload_n 3, i0), (.ishl, i0), (.ior, i0), (.istore_n 2, i0), (.nop, (70, 0, 0, []))]),
  (70, [(.iinc 3 1, i0), (.goto (-69), (4, 0, 0, []))]),
  (76, [(.iload_n 2, i0), (.ireturn, (0, 0, 0, []))])]
def KX1_cheapestOf : List (Nat × List OpI) := [(0, [(.iconst 0, i0), (.istore_n 2, i0), (.nop, (2, 0, 0, []))]),
  (2, [(.iload_n 2, i0), (.aload_n 0, i0), (.getfield 24, (1, 2, 0, [])), (.if_icmp .ge 17, (24, 0, 0, [])), (.iload_n 1, i0), (.iload_n 2, i0), (.invokestatic 50, (182, 2, 0, [])), (.ifCond .ne 9, (24, 0, 0, [])), (.iinc 2 1, i0), (.goto (-19), (2, 0, 0, []))]),
  (24, [(.iconst (-1), i0), (.istore_n 3, i0), (.iload_n 2, i0), (.istore 4, i0), (.nop, (29, 0, 0, []))]),
  (29, [(.iload 4, i0), (.aload_n 0, i0), (.getfield 24, (1, 2, 0, [])), (.if_icmp .ge 39, (74, 0, 0, [])), (.aload_n 0, i0), (.iload_n 1, i0), (.iload_n 2, i0), (.iload 4, i0), (.invokevirtual 54, (96, 4, 1, [])), (.istore 5, i0), (.iload 5, i0), (.iconst (-1), i0), (.if_icmp .eq 17, (68, 0, 0, [])), (.iload_n 3, i0), (.iconst (-1), i0), (.if_icmp .eq 9, (65, 0, 0, [])), (.iload 5, i0), (.iload_n 3, i0), (.if_icmp .ge 6, (68, 0, 0, [])), (.nop, (65, 0, 0, []))]),
  (65, [(.iload 5, i0), (.istore_n 3, i0), (.nop, (68, 0, 0, []))]),
  (68, [(.iinc 4 1, i0), (.goto (-42), (29, 0, 0, []))]),
  (74, [(.iload_n 3, i0), (.ireturn, (0, 0, 0, []))])]
def KX1_priceOfGroup : List (Nat × List OpI) := [(0, [(.iload_n 1, i0), (.iload_n 3, i0), (.invokestatic 50, (182, 2, 0, [])), (.ifCond .eq 16, (21, 0, 0, [])), (.aload_n 0, i0), (.getfield 9, (1, 0, 2, [])), (.iload_n 2, i0), (.iaload, (100, 0, 0, [])), (.iload_n 3, i0), (.invokestatic 50, (182, 2, 0, [])), (.ifCond .ne 5, (23, 0, 0, [])), (.nop, (21, 0, 0, []))]),
  (21, [(.iconst (-1), i0), (.ireturn, (0, 0, 0, []))]),
  (23, [(.aload_n 0, i0), (.getfield 15, (1, 1, 2, [])), (.iload_n 1, i0), (.iload_n 2, i0), (.iload_n 3, i0), (.invokestatic 57, (97, 3, 0, [])), (.iaload, (100, 0, 0, [])), (.istore 4, i0), (.iload 4, i0), (.iconst (-1), i0), (.if_icmp .ne 7, (46, 0, 0, [])), (.iconst (-1), i0), (.goto 10, (53, 0, 0, []))]),
  (46, [(.iload 4, i0), (.aload_n 0, i0), (.getfield 32, (1, 3, 0, [])), (.iadd, i0), (.nop, (53, 0, 0, []))]),
  (53, [(.ireturn, (0, 0, 0, []))])]
def KX1_without : List (Nat × List OpI) := [(0, [(.iload_n 0, i0), (.iconst 1, i0), (.iload_n 1, i0), (.ishl, i0), (.iconst (-1), i0), (.ixor, i0), (.iand, i0), (.iconst 1, i0), (.iload_n 2, i0), (.ishl, i0), (.iconst (-1), i0), (.ixor, i0), (.iand, i0), (.ireturn, (0, 0, 0, []))])]
def KX1_mostOver : List (Nat × List OpI) := [(0, [(.iconst 0, i0), (.istore_n 1, i0), (.iconst 1, i0), (.istore_n 2, i0), (.nop, (4, 0, 0, []))]),
  (4, [(.iload_n 2, i0), (.iconst 1, i0), (.aload_n 0, i0), (.getfield 24, (1, 2, 0, [])), (.ishl, i0), (.if_icmp .ge 28, (39, 0, 0, [])), (.aload_n 0, i0), (.getfield 15, (1, 1, 2, [])), (.iload_n 2, i0), (.iaload, (100, 0, 0, [])), (.iconst (-1), i0), (.if_icmp .eq 12, (33, 0, 0, [])), (.iload_n 1, i0), (.iload_n 2, i0), (.invokestatic 60, (351, 1, 0, [])), (.invokestatic 65, (1000, 2, 0, [])), (.istore_n 1, i0), (.nop, (33, 0, 0, []))]),
  (33, [(.iinc 2 1, i0), (.goto (-32), (4, 0, 0, []))]),
  (39, [(.iload_n 1, i0), (.ireturn, (0, 0, 0, []))])]
def KX1_mateOf : List (Nat × List OpI) := [(0, [(.aload_n 0, i0), (.getfield 15, (1, 1, 2, [])), (.iload_n 1, i0), (.iaload, (100, 0, 0, [])), (.iconst (-1), i0), (.if_icmp .ne 5, (12, 0, 0, [])), (.iconst (-1), i0), (.ireturn, (0, 0, 0, []))]),
  (12, [(.iload_n 1, i0), (.istore_n 3, i0), (.iconst 0, i0), (.istore 4, i0), (.nop, (17, 0, 0, []))]),
  (17, [(.iload 4, i0), (.aload_n 0, i0), (.getfield 24, (1, 2, 0, [])), (.if_icmp .ge 63, (86, 0, 0, [])), (.iload_n 3, i0), (.iload 4, i0), (.invokestatic 50, (182, 2, 0, [])), (.ifCond .ne 6, (38, 0, 0, [])), (.goto 45, (80, 0, 0, []))]),
  (38, [(.aload_n 0, i0), (.iload_n 3, i0), (.iload 4, i0), (.invokevirtual 70, (100, 3, 1, [])), (.istore 5, i0), (.iload 5, i0), (.iconst (-1), i0), (.if_icmp .eq 9, (59, 0, 0, [])), (.iload 4, i0), (.iload_n 2, i0), (.if_icmp .ne 6, (62, 0, 0, [])), (.nop, (59, 0, 0, []))]),
  (59, [(.iload 5, i0), (.ireturn, (0, 0, 0, []))]),
  (62, [(.iload 5, i0), (.iload_n 2, i0), (.if_icmp .ne 6, (71, 0, 0, [])), (.iload 4, i0), (.ireturn, (0, 0, 0, []))]),
  (71, [(.iload_n 3, i0), (.iload 4, i0), (.iload 5, i0), (.invokestatic 57, (97, 3, 0, [])), (.istore_n 3, i0), (.nop, (80, 0, 0, []))]),
  (80, [(.iinc 4 1, i0), (.goto (-66), (17, 0, 0, []))]),
  (86, [(.iconst (-1), i0), (.ireturn, (0, 0, 0, []))])]
def KX1_leastMate : List (Nat × List OpI) := [(0, [(.iload_n 2, i0), (.istore_n 3, i0), (.nop, (2, 0, 0, []))]),
  (2, [(.iload_n 3, i0), (.aload_n 0, i0), (.getfield 24, (1, 2, 0, [])), (.if_icmp .ge 37, (44, 0, 0, [])), (.aload_n 0, i0), (.iload_n 1, i0), (.iload_n 2, i0), (.iload_n 3, i0), (.invokevirtual 54, (96, 4, 1, [])), (.istore 4, i0), (.iload 4, i0), (.iconst (-1), i0), (.if_icmp .eq 16, (38, 0, 0, [])), (.iload 4, i0), (.aload_n 0, i0), (.getfield 15, (1, 1, 2, [])), (.iload_n 1, i0), (.iaload, (100, 0, 0, [])), (.if_icmp .ne 5, (38, 0, 0, [])), (.iload_n 3, i0), (.ireturn, (0, 0, 0, []))]),
  (38, [(.iinc 3 1, i0), (.goto (-39), (2, 0, 0, []))]),
  (44, [(.iconst (-1), i0), (.ireturn, (0, 0, 0, []))])]
def KX0_init : List (Nat × List OpI) := [(0, [(.aload_n 0, i0), (.invokespecial 3, (1999, 0, 0, [])), (.aload_n 0, i0), (.aload_n 1, i0), (.putfield 9, (0, 0, 2, [])), (.return_, i0)])]
def KX0_begin : List (Nat × List OpI) := [(0, [(.aload_n 0, i0), (.aload_n 1, i0), (.putfield 9, (0, 0, 2, [])), (.aload_n 0, i0), (.iload_n 2, i0), (.putfield 15, (0, 1, 0, [])), (.aload_n 0, i0), (.iload_n 3, i0), (.putfield 19, (0, 2, 0, [])), (.aload_n 0, i0), (.iload 4, i0), (.putfield 22, (0, 3, 0, [])), (.return_, i0)])]
def KX0_outcome : List (Nat × List OpI) := [(0, [(.aload_n 0, i0), (.iconst 0, i0), (.invokevirtual 25, (105, 2, 0, [])), (.ireturn, (0, 0, 0, []))])]
def KX0_firstMove : List (Nat × List OpI) := [(0, [(.aload_n 0, i0), (.iconst 0, i0), (.invokevirtual 25, (105, 2, 0, [])), (.istore_n 1, i0), (.iconst 0, i0), (.istore_n 2, i0), (.nop, (8, 0, 0, []))]),
  (8, [(.iload_n 2, i0), (.iconst 2, i0), (.if_icmp .ge 37, (47, 0, 0, [])), (.aload_n 0, i0), (.aload_n 0, i0), (.getfield 15, (0, 1, 0, [])), (.iload_n 2, i0), (.invokevirtual 29, (106, 3, 0, [])), (.ifCond .eq 19, (41, 0, 0, [])), (.aload_n 0, i0), (.iconst 0, i0), (.aload_n 0, i0), (.getfield 15, (0, 1, 0, [])), (.iload_n 2, i0), (.invokevirtual 33, (107, 4, 0, [])), (.iload_n 1, i0), (.if_icmp .ne 5, (41, 0, 0, [])), (.iload_n 2, i0), (.ireturn, (0, 0, 0, []))]),
  (41, [(.iinc 2 1, i0), (.goto (-36), (8, 0, 0, []))]),
  (47, [(.iconst 2, i0), (.ireturn, (0, 0, 0, []))])]
def KX0_worth : List (Nat × List OpI) := [(0, [(.iload_n 1, i0), (.aload_n 0, i0), (.getfield 22, (0, 3, 0, [])), (.if_icmp .ge 8, (13, 0, 0, [])), (.iload_n 1, i0), (.iconst 4, i0), (.if_icmp .lt 29, (39, 0, 0, [])), (.nop, (13, 0, 0, []))]),
  (13, [(.aload_n 0, i0), (.getfield 9, (0, 0, 2, [])), (.getfield 37, (7, 10, 2, [])), (.aload_n 0, i0), (.getfield 15, (0, 1, 0, [])), (.iaload, (100, 0, 0, [])), (.aload_n 0, i0), (.getfield 9, (0, 0, 2, [])), (.getfield 37, (7, 10, 2, [])), (.aload_n 0, i0), (.getfield 19, (0, 2, 0, [])), (.iaload, (100, 0, 0, [])), (.isub, i0), (.ireturn, (0, 0, 0, []))]),
  (39, [(.iload_n 1, i0), (.iconst 2, i0), (.irem, i0), (.ifCond .ne 7, (49, 0, 0, [])), (.iconst 1, i0), (.goto 4, (50, 0, 0, []))]),
  (49, [(.iconst 0, i0), (.nop, (50, 0, 0, []))]),
  (50, [(.istore_n 2, i0), (.iload_n 2, i0), (.ifCond .eq 10, (62, 0, 0, [])), (.aload_n 0, i0), (.getfield 15, (0, 1, 0, [])), (.goto 7, (66, 0, 0, []))]),
  (62, [(.aload_n 0, i0), (.getfield 19, (0, 2, 0, [])), (.nop, (66, 0, 0, []))]),
  (66, [(.istore_n 3, i0), (.aload_n 0, i0), (.iload_n 1, i0), (.iload_n 3, i0), (.iconst 2, i0), (.invokevirtual 33, (107, 4, 0, [])), (.istore 4, i0), (.iconst 0, i0), (.istore 5, i0), (.nop, (79, 0, 0, []))]),
  (79, [(.iload 5, i0), (.iconst 2, i0), (.if_icmp .ge 52, (134, 0, 0, [])), (.aload_n 0, i0), (.iload_n 3, i0), (.iload 5, i0), (.invokevirtual 29, (106, 3, 0, [])), (.ifCond .eq 36, (128, 0, 0, [])), (.aload_n 0, i0), (.iload_n 1, i0), (.iload_n 3, i0), (.iload 5, i0), (.invokevirtual 33, (107, 4, 0, [])), (.istore 6, i0), (.iload_n 2, i0), (.ifCond .eq 13, (119, 0, 0, [])), (.iload 4, i0), (.iload 6, i0), (.invokestatic 43, (1000, 2, 0, [])), (.goto 10, (126, 0, 0, []))]),
  (119, [(.iload 4, i0), (.iload 6, i0), (.invokestatic 49, (1001, 2, 0, [])), (.nop, (126, 0, 0, []))]),
  (126, [(.istore 4, i0), (.nop, (128, 0, 0, []))]),
  (128, [(.iinc 5 1, i0), (.goto (-52), (79, 0, 0, []))]),
  (134, [(.iload 4, i0), (.ireturn, (0, 0, 0, []))])]
def KX0_canMove : List (Nat × List OpI) := [(0, [(.aload_n 0, i0), (.getfield 9, (0, 0, 2, [])), (.getfield 37, (7, 10, 2, [])), (.iload_n 1, i0), (.iaload, (100, 0, 0, [])), (.istore_n 3, i0), (.iload_n 2, i0), (.lookupswitch 82 #[(0, 25), (1, 54)], (93, 25, 0, [(0, 36), (1, 65)]))]),
  (36, [(.aload_n 0, i0), (.getfield 9, (0, 0, 2, [])), (.iload_n 3, i0), (.invokevirtual 52, (13, 2, 7, [])), (.ifCond .eq 19, (63, 0, 0, [])), (.aload_n 0, i0), (.getfield 9, (0, 0, 2, [])), (.iload_n 1, i0), (.iload_n 3, i0), (.invokevirtual 56, (26, 3, 7, [])), (.ifCond .eq 7, (63, 0, 0, [])), (.iconst 1, i0), (.goto 4, (64, 0, 0, []))]),
  (63, [(.iconst 0, i0), (.nop, (64, 0, 0, []))]),
  (64, [(.ireturn, (1, 0, 0, []))]),
  (65, [(.aload_n 0, i0), (.getfield 9, (0, 0, 2, [])), (.iload_n 3, i0), (.invokevirtual 52, (13, 2, 7, [])), (.ifCond .eq 18, (91, 0, 0, [])), (.aload_n 0, i0), (.getfield 9, (0, 0, 2, [])), (.iload_n 3, i0), (.invokevirtual 59, (44, 2, 7, [])), (.ifCond .eq 7, (91, 0, 0, [])), (.iconst 1, i0), (.goto 4, (92, 0, 0, []))]),
  (91, [(.iconst 0, i0), (.nop, (92, 0, 0, []))]),
  (92, [(.ireturn, (1, 0, 0, []))]),
  (93, [(.iconst 1, i0), (.ireturn, (1, 0, 0, []))])]
def KX0_worthBehind : List (Nat × List OpI) := [(0, [(.iload_n 3, i0), (.ifCond .ne 41, (42, 0, 0, [])), (.aload_n 0, i0), (.getfield 9, (0, 0, 2, [])), (.getfield 37, (7, 10, 2, [])), (.iload_n 2, i0), (.dup2, i0), (.iaload, (100, 0, 0, [])), (.iconst 1, i0), (.iadd, i0), (.iastore, i0), (.aload_n 0, i0), (.iload_n 1, i0), (.iconst 1, i0), (.iadd, i0), (.invokevirtual 25, (105, 2, 0, [])), (.istore 4, i0), (.aload_n 0, i0), (.getfield 9, (0, 0, 2, [])), (.getfield 37, (7, 10, 2, [])), (.iload_n 2, i0), (.dup2, i0), (.iaload, (100, 0, 0, [])), (.iconst 1, i0), (.isub, i0), (.iastore, i0), (.iload 4, i0), (.ireturn, (0, 0, 0, []))]),
  (42, [(.aload_n 0, i0), (.getfield 9, (0, 0, 2, [])), (.getfield 37, (7, 10, 2, [])), (.iload_n 2, i0), (.iaload, (100, 0, 0, [])), (.istore 4, i0), (.iload_n 3, i0), (.iconst 2, i0), (.if_icmp .eq 15, (70, 0, 0, [])), (.aload_n 0, i0), (.getfield 9, (0, 0, 2, [])), (.iload 4, i0), (.invokevirtual 52, (13, 2, 7, [])), (.ifCond .ne 11, (78, 0, 0, [])), (.nop, (70, 0, 0, []))]),
  (70, [(.aload_n 0, i0), (.iload_n 1, i0), (.iconst 1, i0), (.iadd, i0), (.invokevirtual 25, (105, 2, 0, [])), (.ireturn, (0, 0, 0, []))]),
  (78, [(.aload_n 0, i0), (.getfield 9, (0, 0, 2, [])), (.getfield 62, (7, 1, 2, [])), (.iload 4, i0), (.iaload, (100, 0, 0, [])), (.istore 5, i0), (.aload_n 0, i0), (.getfield 9, (0, 0, 2, [])), (.getfield 65, (7, 2, 2, [])), (.iload 4, i0), (.iaload, (100, 0, 0, [])), (.istore 6, i0), (.aload_n 0, i0), (.getfield 9, (0, 0, 2, [])), (.iload 4, i0), (.invokevirtual 68, (45, 2, 7, [])), (.pop, i0), (.aload_n 0, i0), (.iload_n 1, i0), (.iconst 1, i0), (.iadd, i0), (.invokevirtual 25, (105, 2, 0, [])), (.istore 7, i0), (.aload_n 0, i0), (.getfield 9, (0, 0, 2, [])), (.getfield 62, (7, 1, 2, [])), (.iload 4, i0), (.iload 5, i0), (.iastore, i0), (.aload_n 0, i0), (.getfield 9, (0, 0, 2, [])), (.getfield 65, (7, 2, 2, [])), (.iload 4, i0), (.iload 6, i0), (.iastore, i0), (.iload 7, i0), (.ireturn, (0, 0, 0, []))])]
def KX2_init : List (Nat × List OpI) := [(0, [(.aload_n 0, i0), (.invokespecial 3, (1999, 0, 0, [])), (.aload_n 0, i0), (.aload_n 1, i0), (.putfield 9, (2, 5, 2, [])), (.aload_n 0, i0), (.aload_n 2, i0), (.putfield 15, (2, 6, 2, [])), (.aload_n 0, i0), (.bipush 60, i0), (.newarray .int, (100, 0, 0, [])), (.putfield 19, (2, 3, 2, [])), (.return_, i0)])]
def KX2_goThrough : List (Nat × List OpI) := [(0, [(.aload_n 0, i0), (.aload_n 1, i0), (.putfield 9, (2, 5, 2, [])), (.aload_n 0, i0), (.aload_n 2, i0), (.putfield 15, (2, 6, 2, [])), (.aload_n 0, i0), (.iload_n 3, i0), (.putfield 23, (2, 4, 0, [])), (.aload_n 0, i0), (.iconst 0, i0), (.putfield 27, (2, 0, 0, [])), (.aload_n 0, i0), (.iconst 0, i0), (.putfield 30, (2, 1, 0, [])), (.aload_n 0, i0), (.iconst 0, i0), (.putfield 33, (2, 2, 3, [])), (.iconst 0, i0), (.istore 4, i0), (.iconst 0, i0), (.istore 5, i0), (.nop, (36, 0, 0, []))]),
  (36, [(.iload 5, i0), (.sipush 10000, i0), (.if_icmp .ge 101, (142, 0, 0, [])), (.iload 4, i0), (.aload_n 0, i0), (.getfield 15, (2, 6, 2, [])), (.getfield 37, (3, 2, 0, [])), (.if_icmp .ge 89, (142, 0, 0, [])), (.aload_n 0, i0), (.getfield 15, (2, 6, 2, [])), (.getfield 42, (3, 3, 2, [])), (.iload 4, i0), (.iaload, (100, 0, 0, [])), (.bipush 23, i0), (.if_icmp .ne 14, (82, 0, 0, [])), (.aload_n 0, i0), (.iload 4, i0), (.invokevirtual 45, (110, 2, 2, [])), (.istore 4, i0), (.goto 57, (136, 0, 0, []))]),
  (82, [(.aload_n 0, i0), (.getfield 27, (2, 0, 0, [])), (.sipush 300, i0), (.if_icmp .lt 9, (98, 0, 0, [])), (.aload_n 0, i0), (.iconst 1, i0), (.putfield 33, (2, 2, 3, [])), (.return_, i0)]),
  (98, [(.aload_n 0, i0), (.dup, i0), (.getfield 27, (2, 0, 0, [])), (.iconst 1, i0), (.iadd, i0), (.putfield 27, (2, 0, 0, [])), (.aload_n 0, i0), (.iload 4, i0), (.invokevirtual 49, (114, 2, 2, [])), (.iconst (-1), i0), (.if_icmp .ne 13, (128, 0, 0, [])), (.aload_n 0, i0), (.dup, i0), (.getfield 30, (2, 1, 0, [])), (.iconst 1, i0), (.iadd, i0), (.putfield 30, (2, 1, 0, [])), (.nop, (128, 0, 0, []))]),
  (128, [(.aload_n 0, i0), (.iload 4, i0), (.invokevirtual 52, (111, 2, 2, [])), (.istore 4, i0), (.nop, (136, 0, 0, []))]),
  (136, [(.iinc 5 1, i0), (.goto (-103), (36, 0, 0, []))]),
  (142, [(.return_, i0)])]
def KX2_rowBehindEnd : List (Nat × List OpI) := [(0, [(.aload_n 0, i0), (.getfield 15, (2, 6, 2, [])), (.getfield 55, (3, 8, 2, [])), (.iload_n 1, i0), (.iaload, (100, 0, 0, [])), (.istore_n 2, i0), (.aload_n 0, i0), (.getfield 15, (2, 6, 2, [])), (.getfield 42, (3, 3, 2, [])), (.iload_n 2, i0), (.iaload, (100, 0, 0, [])), (.bipush 22, i0), (.if_icmp .ne 26, (47, 0, 0, [])), (.aload_n 0, i0), (.getfield 19, (2, 3, 2, [])), (.iload_n 2, i0), (.iaload, (100, 0, 0, [])), (.ifCond .le 17, (47, 0, 0, [])), (.aload_n 0, i0), (.getfield 19, (2, 3, 2, [])), (.iload_n 2, i0), (.dup2, i0), (.iaload, (100, 0, 0, [])), (.iconst 1, i0), (.isub, i0), (.iastore, i0), (.iload_n 2, i0), (.iconst 1, i0), (.iadd, i0), (.ireturn, (0, 0, 0, []))]),
  (47, [(.iload_n 1, i0), (.iconst 1, i0), (.iadd, i0), (.ireturn, (0, 0, 0, []))])]
def KX2_rowBehindStep : List (Nat × List OpI) := [(0, [(.aload_n 0, i0), (.getfield 15, (2, 6, 2, [])), (.getfield 42, (3, 3, 2, [])), (.iload_n 1, i0), (.iaload, (100, 0, 0, [])), (.tableswitch 109 20 24 #[43, 109, 69, 109, 35], (118, 35, 20, [(20, 52), (21, 118), (22, 78), (23, 118), (24, 44)]))]),
  (44, [(.aload_n 0, i0), (.getfield 15, (2, 6, 2, [])), (.getfield 37, (3, 2, 0, [])), (.ireturn, (0, 0, 0, []))]),
  (52, [(.aload_n 0, i0), (.iload_n 1, i0), (.invokevirtual 58, (112, 2, 2, [])), (.ifCond .eq 9, (66, 0, 0, [])), (.iload_n 1, i0), (.iconst 1, i0), (.iadd, i0), (.goto 14, (77, 0, 0, []))]),
  (66, [(.aload_n 0, i0), (.getfield 15, (2, 6, 2, [])), (.getfield 55, (3, 8, 2, [])), (.iload_n 1, i0), (.iaload, (100, 0, 0, [])), (.iconst 1, i0), (.iadd, i0), (.nop, (77, 0, 0, []))]),
  (77, [(.ireturn, (0, 0, 0, []))]),
  (78, [(.aload_n 0, i0), (.getfield 19, (2, 3, 2, [])), (.iload_n 1, i0), (.aload_n 0, i0), (.getfield 15, (2, 6, 2, [])), (.getfield 55, (3, 8, 2, [])), (.iload_n 1, i0), (.iaload, (100, 0, 0, [])), (.iload_n 1, i0), (.iconst 1, i0), (.iadd, i0), (.if_icmp .ne 7, (102, 0, 0, [])), (.iconst 0, i0), (.goto 14, (113, 0, 0, []))]),
  (102, [(.aload_n 0, i0), (.getfield 15, (2, 6, 2, [])), (.getfield 62, (3, 4, 2, [])), (.iload_n 1, i0), (.iaload, (100, 0, 0, [])), (.iconst 1, i0), (.isub, i0), (.nop, (113, 0, 0, []))]),
  (113, [(.iastore, i0), (.iload_n 1, i0), (.iconst 1, i0), (.iadd, i0), (.ireturn, (0, 0, 0, []))]),
  (118, [(.iload_n 1, i0), (.iconst 1, i0), (.iadd, i0), (.ireturn, (0, 0, 0, []))])]
def KX2_holdsTest : List (Nat × List OpI) := [(0, [(.aload_n 0, i0), (.getfield 15, (2, 6, 2, [])), (.getfield 62, (3, 4, 2, [])), (.iload_n 1, i0), (.iaload, (100, 0, 0, [])), (.istore_n 2, i0), (.aload_n 0, i0), (.getfield 15, (2, 6, 2, [])), (.getfield 65, (3, 6, 2, [])), (.iload_n 1, i0), (.iaload, (100, 0, 0, [])), (.lookupswitch 49 #[(11, 34), (21, 25)], (68, 25, 0, [(11, 53), (21, 44)]))]),
  (44, [(.aload_n 0, i0), (.getfield 9, (2, 5, 2, [])), (.iload_n 2, i0), (.invokevirtual 68, (17, 2, 7, [])), (.ireturn, (1, 0, 0, []))]),
  (53, [(.aload_n 0, i0), (.aload_n 0, i0), (.getfield 9, (2, 5, 2, [])), (.getfield 73, (7, 10, 2, [])), (.iload_n 2, i0), (.iaload, (100, 0, 0, [])), (.iload_n 1, i0), (.invokevirtual 76, (113, 3, 2, [])), (.ireturn, (1, 0, 0, []))]),
  (68, [(.aload_n 0, i0), (.aload_n 0, i0), (.getfield 9, (2, 5, 2, [])), (.getfield 80, (7, 2, 2, [])), (.iload_n 2, i0), (.iaload, (100, 0, 0, [])), (.iload_n 1, i0), (.invokevirtual 76, (113, 3, 2, [])), (.ireturn, (1, 0, 0, []))])]
def KX2_compare : List (Nat × List OpI) := [(0, [(.aload_n 0, i0), (.getfield 15, (2, 6, 2, [])), (.getfield 83, (3, 7, 2, [])), (.iload_n 2, i0), (.iaload, (100, 0, 0, [])), (.lookupswitch 65 #[(29, 27), (30, 46)], (74, 27, 0, [(29, 36), (30, 55)]))]),
  (36, [(.iload_n 1, i0), (.aload_n 0, i0), (.getfield 15, (2, 6, 2, [])), (.getfield 86, (3, 5, 2, [])), (.iload_n 2, i0), (.iaload, (100, 0, 0, [])), (.if_icmp .ge 7, (53, 0, 0, [])), (.iconst 1, i0), (.goto 4, (54, 0, 0, []))]),
  (53, [(.iconst 0, i0), (.nop, (54, 0, 0, []))]),
  (54, [(.ireturn, (1, 0, 0, []))]),
  (55, [(.iload_n 1, i0), (.aload_n 0, i0), (.getfield 15, (2, 6, 2, [])), (.getfield 86, (3, 5, 2, [])), (.iload_n 2, i0), (.iaload, (100, 0, 0, [])), (.if_icmp .le 7, (72, 0, 0, [])), (.iconst 1, i0), (.goto 4, (73, 0, 0, []))]),
  (72, [(.iconst 0, i0), (.nop, (73, 0, 0, []))]),
  (73, [(.ireturn, (1, 0, 0, []))]),
  (74, [(.iload_n 1, i0), (.aload_n 0, i0), (.getfield 15, (2, 6, 2, [])), (.getfield 86, (3, 5, 2, [])), (.iload_n 2, i0), (.iaload, (100, 0, 0, [])), (.if_icmp .ne 7, (91, 0, 0, [])), (.iconst 1, i0), (.goto 4, (92, 0, 0, []))]),
  (91, [(.iconst 0, i0), (.nop, (92, 0, 0, []))]),
  (92, [(.ireturn, (1, 0, 0, []))])]
def KX2_doStep : List (Nat × List OpI) := [(0, [(.aload_n 0, i0), (.getfield 15, (2, 6, 2, [])), (.getfield 62, (3, 4, 2, [])), (.iload_n 1, i0), (.iaload, (100, 0, 0, [])), (.istore_n 2, i0), (.aload_n 0, i0), (.getfield 15, (2, 6, 2, [])), (.getfield 42, (3, 3, 2, [])), (.iload_n 1, i0), (.iaload, (100, 0, 0, [])), (.tableswitch 157 1 19 #[143, 157, 157, 157, 157, 157, 157, 157, 157, 157, 157, 157, 157, 89, 98, 116, 125, 134, 152], (176, 89, 1, [(1, 162), (2, 176), (3, 176), (4, 176), (5, 176), (6, 176), (7, 176), (8, 176), (9, 176), (10, 176), (11, 176), (12, 176), (13, 176), (14, 108), (15, 117), (16, 135), (17, 144), (18, 153), (19, 171)]))]),
  (108, [(.aload_n 0, i0), (.getfield 9, (2, 5, 2, [])), (.iload_n 2, i0), (.invokevirtual 89, (40, 2, 7, [])), (.ireturn, (0, 0, 0, []))]),
  (117, [(.aload_n 0, i0), (.getfield 9, (2, 5, 2, [])), (.iload_n 2, i0), (.aload_n 0, i0), (.getfield 15, (2, 6, 2, [])), (.getfield 86, (3, 5, 2, [])), (.iload_n 1, i0), (.iaload, (100, 0, 0, [])), (.invokevirtual 92, (41, 3, 7, [])), (.ireturn, (0, 0, 0, []))]),
  (135, [(.aload_n 0, i0), (.getfield 9, (2, 5, 2, [])), (.iload_n 2, i0), (.invokevirtual 96, (45, 2, 7, [])), (.ireturn, (0, 0, 0, []))]),
  (144, [(.aload_n 0, i0), (.getfield 9, (2, 5, 2, [])), (.iload_n 2, i0), (.invokevirtual 99, (46, 2, 7, [])), (.ireturn, (0, 0, 0, []))]),
  (153, [(.aload_n 0, i0), (.getfield 9, (2, 5, 2, [])), (.iload_n 2, i0), (.invokevirtual 102, (48, 2, 7, [])), (.ireturn, (0, 0, 0, []))]),
  (162, [(.aload_n 0, i0), (.getfield 9, (2, 5, 2, [])), (.iload_n 2, i0), (.invokevirtual 105, (47, 2, 7, [])), (.ireturn, (0, 0, 0, []))]),
  (171, [(.aload_n 0, i0), (.invokevirtual 108, (115, 1, 2, [])), (.ireturn, (0, 0, 0, []))]),
  (176, [(.iload_n 1, i0), (.ireturn, (0, 0, 0, []))])]
def KX2_doAny : List (Nat × List OpI) := [(0, [(.aload_n 0, i0), (.getfield 9, (2, 5, 2, [])), (.getfield 112, (7, 5, 0, [])), (.ifCond .gt 5, (12, 0, 0, [])), (.iconst (-1), i0), (.ireturn, (0, 0, 0, []))]),
  (12, [(.aload_n 0, i0), (.aload_n 0, i0), (.getfield 9, (2, 5, 2, [])), (.getfield 112, (7, 5, 0, [])), (.invokevirtual 115, (116, 2, 2, [])), (.istore_n 1, i0), (.aload_n 0, i0), (.bipush 16, i0), (.invokevirtual 115, (116, 2, 2, [])), (.aload_n 0, i0), (.getfield 9, (2, 5, 2, [])), (.getfield 118, (7, 18, 0, [])), (.if_icmp .ge 7, (44, 0, 0, [])), (.iconst 1, i0), (.goto 4, (45, 0, 0, []))]),
  (44, [(.iconst 0, i0), (.nop, (45, 0, 0, []))]),
  (45, [(.istore_n 2, i0), (.iload_n 2, i0), (.ifCond .eq 14, (61, 0, 0, [])), (.aload_n 0, i0), (.getfield 9, (2, 5, 2, [])), (.iload_n 1, i0), (.invokevirtual 89, (40, 2, 7, [])), (.goto 11, (69, 0, 0, []))]),
  (61, [(.aload_n 0, i0), (.getfield 9, (2, 5, 2, [])), (.iload_n 1, i0), (.invokevirtual 99, (46, 2, 7, [])), (.nop, (69, 0, 0, []))]),
  (69, [(.ireturn, (0, 0, 0, []))])]
def KX2_draw : List (Nat × List OpI) := [(0, [(.aload_n 0, i0), (.aload_n 0, i0), (.getfield 23, (2, 4, 0, [])), (.sipush 3217, i0), (.imul, i0), (.sipush 11447, i0), (.iadd, i0), (.ldc 121, (0, 0, 65536, [])), (.irem, i0), (.putfield 23, (2, 4, 0, [])), (.iload_n 1, i0), (.ifCond .le 15, (35, 0, 0, [])), (.aload_n 0, i0), (.getfield 23, (2, 4, 0, [])), (.bipush 8, i0), (.idiv, i0), (.iload_n 1, i0), (.irem, i0), (.goto 4, (36, 0, 0, []))]),
  (35, [(.iconst 0, i0), (.nop, (36, 0, 0, []))]),
  (36, [(.ireturn, (0, 0, 0, []))])]
def KX9_init : List (Nat × List OpI) := [(0, [(.aload_n 0, i0), (.invokespecial 1, (1999, 0, 0, [])), (.aload_n 0, i0), (.iconst 0, i0), (.putfield 9, (9, 0, 0, [])), (.aload_n 0, i0), (.lconst 0, i0), (.putfield 13, (9, 1, 1, [])), (.aload_n 0, i0), (.lconst 1, i0), (.putfield 17, (9, 2, 1, [])), (.aload_n 0, i0), (.iconst 4, i0), (.anewarray 20, (104, 6, 0, [])), (.putfield 22, (9, 3, 2, [])), (.iconst 0, i0), (.istore_n 1, i0), (.nop, (29, 0, 0, []))]),
  (29, [(.iload_n 1, i0), (.iconst 4, i0), (.if_icmp .ge 22, (53, 0, 0, [])), (.aload_n 0, i0), (.getfield 22, (9, 3, 2, [])), (.iload_n 1, i0), (.new 20, (6, 3, 0, [])), (.dup, i0), (.invokespecial 26, (0, 1, 6, [(1, 60)])), (.aastore, (104, 6, 0, [])), (.iinc 1 1, i0), (.goto (-21), (29, 0, 0, []))]),
  (53, [(.aload_n 0, i0), (.new 27, (5, 14, 0, [])), (.dup, i0), (.invokespecial 29, (56, 1, 5, [(4, 936)])), (.putfield 30, (9, 4, 2, [])), (.aload_n 0, i0), (.new 34, (7, 20, 0, [])), (.dup, i0), (.invokespecial 36, (7, 1, 7, [(12, 85)])), (.putfield 37, (9, 7, 2, [])), (.aload_n 0, i0), (.new 34, (7, 20, 0, [])), (.dup, i0), (.invokespecial 36, (7, 1, 7, [(12, 85)])), (.putfield 41, (9, 8, 2, [])), (.aload_n 0, i0), (.new 44, (3, 9, 0, [])), (.dup, i0), (.invokespecial 46, (72, 1, 3, [(6, 360)])), (.putfield 47, (9, 9, 2, [])), (.aload_n 0, i0), (.new 44, (3, 9, 0, [])), (.dup, i0), (.invokespecial 46, (72, 1, 3, [(6, 360)])), (.putfield 51, (9, 10, 2, [])), (.aload_n 0, i0), (.new 54, (8, 2, 0, [])), (.dup, i0), (.aload_n 0, i0), (.getfield 30, (9, 4, 2, [])), (.invokespecial 56, (75, 2, 8, [(0, 0)])), (.putfield 59, (9, 5, 2, [])), (.aload_n 0, i0), (.new 63, (4, 5, 0, [])), (.dup, i0), (.aload_n 0, i0), (.getfield 30, (9, 4, 2, [])), (.aload_n 0, i0), (.getfield 51, (9, 10, 2, [])), (.aload_n 0, i0), (.getfield 37, (9, 7, 2, [])), (.invokespecial 65, (83, 4, 4, [(1, 3)])), (.putfield 68, (9, 6, 2, [])), (.aload_n 0, i0), (.iconst 3, i0), (.anewarray 34, (105, 7, 0, [])), (.putfield 72, (9, 11, 2, [])), (.aload_n 0, i0), (.iconst 3, i0), (.anewarray 44, (106, 3, 0, [])), (.putfield 76, (9, 12, 2, [])), (.iconst 0, i0), (.istore_n 1, i0), (.nop, (164, 0, 0, []))]),
  (164, [(.iload_n 1, i0), (.iconst 3, i0), (.if_icmp .ge 35, (201, 0, 0, [])), (.aload_n 0, i0), (.getfield 72, (9, 11, 2, [])), (.iload_n 1, i0), (.new 34, (7, 20, 0, [])), (.dup, i0), (.invokespecial 36, (7, 1, 7, [(12, 85)])), (.aastore, (105, 7, 0, [])), (.aload_n 0, i0), (.getfield 76, (9, 12, 2, [])), (.iload_n 1, i0), (.new 44, (3, 9, 0, [])), (.dup, i0), (.invokespecial 46, (72, 1, 3, [(6, 360)])), (.aastore, (106, 3, 0, [])), (.iinc 1 1, i0), (.goto (-34), (164, 0, 0, []))]),
  (201, [(.aload_n 0, i0), (.iconst 0, i0), (.putfield 80, (9, 13, 0, [])), (.aload_n 0, i0), (.new 83, (1, 4, 0, [])), (.dup, i0), (.invokespecial 85, (92, 1, 1, [(2, 70)])), (.putfield 86, (9, 14, 2, [])), (.aload_n 0, i0), (.new 90, (0, 4, 0, [])), (.dup, i0), (.aload_n 0, i0), (.getfield 41, (9, 8, 2, [])), (.invokespecial 92, (101, 2, 0, [(0, 0)])), (.putfield 95, (9, 15, 2, [])), (.aload_n 0, i0), (.new 99, (2, 7, 0, [])), (.dup, i0), (.aload_n 0, i0), (.getfield 37, (9, 7, 2, [])), (.aload_n 0, i0), (.getfield 47, (9, 9, 2, [])), (.invokespecial 101, (108, 3, 2, [(1, 60)])), (.putfield 104, (9, 16, 2, [])), (.aload_n 0, i0), (.iconst 5, i0), (.newarray .int, (100, 0, 0, [])), (.putfield 108, (9, 17, 2, [])), (.aload_n 0, i0), (.iconst 0, i0), (.putfield 112, (9, 18, 3, [])), (.return_, i0)])]
def KX9_status : List (Nat × List OpI) := [(0, [(.aload_n 0, i0), (.getfield 9, (9, 0, 0, [])), (.ireturn, (0, 0, 0, []))])]
def KX9_top : List (Nat × List OpI) := [(0, [(.aload_n 0, i0), (.getfield 13, (9, 1, 1, [])), (.lreturn, i0)])]
def KX9_bottom : List (Nat × List OpI) := [(0, [(.aload_n 0, i0), (.getfield 17, (9, 2, 1, [])), (.lreturn, i0)])]
def KX9_tray : List (Nat × List OpI) := [(0, [(.iload_n 1, i0), (.invokestatic 116, (183, 1, 0, [])), (.ifCond .eq 27, (31, 0, 0, [])), (.iload_n 2, i0), (.i2l, i0), (.lconst 0, i0), (.ldc2_w 120, (0, 0, 3, [])), (.invokestatic 122, (181, 3, 0, [])), (.ifCond .eq 15, (31, 0, 0, [])), (.iload_n 3, i0), (.i2l, i0), (.lconst 0, i0), (.ldc2_w 126, (0, 0, 60, [])), (.invokestatic 122, (181, 3, 0, [])), (.ifCond .ne 9, (37, 0, 0, [])), (.nop, (31, 0, 0, []))]),
  (31, [(.aload_n 0, i0), (.iconst 1, i0), (.invokevirtual 128, (179, 2, 9, [])), (.ireturn, (1, 0, 0, []))]),
  (37, [(.aload_n 0, i0), (.getfield 22, (9, 3, 2, [])), (.iload_n 1, i0), (.aaload, (104, 0, 0, [])), (.iload_n 2, i0), (.iload_n 3, i0), (.invokevirtual 131, (4, 3, 6, [])), (.aload_n 0, i0), (.invokevirtual 135, (178, 1, 9, [])), (.ireturn, (1, 0, 0, []))])]
def KX9_write : List (Nat × List OpI) := [(0, [(.aload_n 0, i0), (.iload_n 1, i0), (.iload_n 2, i0), (.invokevirtual 139, (185, 3, 9, [])), (.istore 5, i0), (.iload 5, i0), (.ifCond .eq 10, (20, 0, 0, [])), (.aload_n 0, i0), (.iload 5, i0), (.invokevirtual 128, (179, 2, 9, [])), (.ireturn, (1, 0, 0, []))]),
  (20, [(.aload_n 0, i0), (.getfield 22, (9, 3, 2, [])), (.iload_n 1, i0), (.aaload, (104, 0, 0, [])), (.iload_n 2, i0), (.lload_n 3, i0), (.invokevirtual 143, (5, 3, 6, [])), (.aload_n 0, i0), (.invokevirtual 135, (178, 1, 9, [])), (.ireturn, (1, 0, 0, []))])]
def KX9_read : List (Nat × List OpI) := [(0, [(.aload_n 0, i0), (.iload_n 1, i0), (.iload_n 2, i0), (.invokevirtual 139, (185, 3, 9, [])), (.istore_n 3, i0), (.iload_n 3, i0), (.ifCond .eq 10, (18, 0, 0, [])), (.aload_n 0, i0), (.iload_n 3, i0), (.invokevirtual 147, (175, 2, 9, [])), (.i2l, i0), (.lreturn, i0)]),
  (18, [(.aload_n 0, i0), (.iconst 0, i0), (.putfield 9, (9, 0, 0, [])), (.aload_n 0, i0), (.getfield 22, (9, 3, 2, [])), (.iload_n 1, i0), (.aaload, (104, 0, 0, [])), (.getfield 151, (6, 0, 2, [])), (.iload_n 2, i0), (.laload, i0), (.lreturn, i0)])]
def KX9_pour : List (Nat × List OpI) := [(0, [(.iload_n 1, i0), (.invokestatic 116, (183, 1, 0, [])), (.ifCond .eq 24, (28, 0, 0, [])), (.iload_n 3, i0), (.invokestatic 116, (183, 1, 0, [])), (.ifCond .eq 17, (28, 0, 0, [])), (.iload_n 2, i0), (.ifCond .lt 13, (28, 0, 0, [])), (.iload 4, i0), (.ifCond .lt 8, (28, 0, 0, [])), (.iload 5, i0), (.ifCond .ge 9, (34, 0, 0, [])), (.nop, (28, 0, 0, []))]),
  (28, [(.aload_n 0, i0), (.iconst 1, i0), (.invokevirtual 128, (179, 2, 9, [])), (.ireturn, (1, 0, 0, []))]),
  (34, [(.aload_n 0, i0), (.getfield 22, (9, 3, 2, [])), (.iload_n 1, i0), (.aaload, (104, 0, 0, [])), (.astore 6, i0), (.aload_n 0, i0), (.getfield 22, (9, 3, 2, [])), (.iload_n 3, i0), (.aaload, (104, 0, 0, [])), (.astore 7, i0), (.aload 6, i0), (.invokevirtual 155, (1, 1, 6, [])), (.ifCond .ne 11, (66, 0, 0, [])), (.aload 7, i0), (.invokevirtual 155, (1, 1, 6, [])), (.ifCond .eq 9, (72, 0, 0, [])), (.nop, (66, 0, 0, []))]),
  (66, [(.aload_n 0, i0), (.iconst 2, i0), (.invokevirtual 128, (179, 2, 9, [])), (.ireturn, (1, 0, 0, []))]),
  (72, [(.aload 6, i0), (.getfield 158, (6, 1, 0, [])), (.aload 7, i0), (.getfield 158, (6, 1, 0, [])), (.if_icmp .eq 10, (92, 0, 0, [])), (.aload_n 0, i0), (.bipush 8, i0), (.invokevirtual 128, (179, 2, 9, [])), (.ireturn, (1, 0, 0, []))]),
  (92, [(.aload 6, i0), (.iload_n 2, i0), (.iload 5, i0), (.invokevirtual 161, (3, 3, 6, [])), (.ifCond .eq 15, (115, 0, 0, [])), (.aload 7, i0), (.iload 4, i0), (.iload 5, i0), (.invokevirtual 161, (3, 3, 6, [])), (.ifCond .ne 9, (121, 0, 0, [])), (.nop, (115, 0, 0, []))]),
  (115, [(.aload_n 0, i0), (.iconst 3, i0), (.invokevirtual 128, (179, 2, 9, [])), (.ireturn, (1, 0, 0, []))]),
  (121, [(.aload 6, i0), (.getfield 151, (6, 0, 2, [])), (.iload_n 2, i0), (.aload 7, i0), (.getfield 151, (6, 0, 2, [])), (.iload 4, i0), (.iload 5, i0), (.invokestatic 165, (1003, 101, 0, [])), (.aload_n 0, i0), (.invokevirtual 135, (178, 1, 9, [])), (.ireturn, (1, 0, 0, []))])]
def KX9_feed : List (Nat × List OpI) := [(0, [(.aload_n 0, i0), (.getfield 30, (9, 4, 2, [])), (.invokevirtual 171, (57, 1, 5, [])), (.ifCond .ne 5, (12, 0, 0, [])), (.iconst (-1), i0), (.ireturn, (0, 0, 0, []))]),
  (12, [(.aload_n 0, i0), (.getfield 30, (9, 4, 2, [])), (.iload_n 1, i0), (.invokevirtual 174, (58, 2, 5, [])), (.aload_n 0, i0), (.getfield 30, (9, 4, 2, [])), (.iload_n 2, i0), (.invokevirtual 174, (58, 2, 5, [])), (.aload_n 0, i0), (.getfield 30, (9, 4, 2, [])), (.iload_n 3, i0), (.invokevirtual 174, (58, 2, 5, [])), (.aload_n 0, i0), (.getfield 30, (9, 4, 2, [])), (.iload 4, i0), (.invokevirtual 174, (58, 2, 5, [])), (.aload_n 0, i0), (.getfield 30, (9, 4, 2, [])), (.iload 5, i0), (.invokevirtual 174, (58, 2, 5, [])), (.aload_n 0, i0), (.getfield 30, (9, 4, 2, [])), (.getfield 178, (5, 0, 0, [])), (.ireturn, (0, 0, 0, []))])]
def KX9_viaduct : List (Nat × List OpI) := [(0, [(.iload_n 1, i0), (.i2l, i0), (.lconst 0, i0), (.aload_n 0, i0), (.getfield 30, (9, 4, 2, [])), (.getfield 178, (5, 0, 0, [])), (.i2l, i0), (.invokestatic 122, (181, 3, 0, [])), (.ifCond .ne 9, (23, 0, 0, [])), (.aload_n 0, i0), (.iconst 1, i0), (.invokevirtual 147, (175, 2, 9, [])), (.ireturn, (0, 0, 0, []))]),
  (23, [(.aload_n 0, i0), (.getfield 30, (9, 4, 2, [])), (.iload_n 1, i0), (.invokevirtual 181, (59, 2, 5, [])), (.aload_n 0, i0), (.getfield 59, (9, 5, 2, [])), (.aload_n 0, i0), (.getfield 41, (9, 8, 2, [])), (.invokevirtual 184, (76, 2, 8, [])), (.istore_n 2, i0), (.aload_n 0, i0), (.getfield 30, (9, 4, 2, [])), (.iconst 0, i0), (.putfield 178, (5, 0, 0, [])), (.iload_n 2, i0), (.ifCond .ne 10, (62, 0, 0, [])), (.aload_n 0, i0), (.bipush 9, i0), (.invokevirtual 147, (175, 2, 9, [])), (.ireturn, (0, 0, 0, []))]),
  (62, [(.aload_n 0, i0), (.getfield 37, (9, 7, 2, [])), (.astore_n 3, i0), (.aload_n 0, i0), (.aload_n 0, i0), (.getfield 41, (9, 8, 2, [])), (.putfield 37, (9, 7, 2, [])), (.aload_n 0, i0), (.aload_n 3, i0), (.putfield 41, (9, 8, 2, [])), (.aload_n 0, i0), (.getfield 47, (9, 9, 2, [])), (.invokevirtual 188, (73, 1, 3, [])), (.aload_n 0, i0), (.aload_n 0, i0), (.getfield 37, (9, 7, 2, [])), (.getfield 191, (7, 5, 0, [])), (.invokevirtual 194, (174, 2, 9, [])), (.ireturn, (0, 0, 0, []))])]
def KX9_decades : List (Nat × List OpI) := [(0, [(.iload_n 1, i0), (.i2l, i0), (.lconst 0, i0), (.sipush 300, i0), (.aload_n 0, i0), (.getfield 30, (9, 4, 2, [])), (.getfield 178, (5, 0, 0, [])), (.invokestatic 197, (1001, 2, 0, [])), (.i2l, i0), (.invokestatic 122, (181, 3, 0, [])), (.ifCond .ne 9, (29, 0, 0, [])), (.aload_n 0, i0), (.iconst 1, i0), (.invokevirtual 147, (175, 2, 9, [])), (.ireturn, (0, 0, 0, []))]),
  (29, [(.aload_n 0, i0), (.getfield 30, (9, 4, 2, [])), (.iload_n 1, i0), (.invokevirtual 181, (59, 2, 5, [])), (.aload_n 0, i0), (.getfield 68, (9, 6, 2, [])), (.aload_n 0, i0), (.getfield 51, (9, 10, 2, [])), (.aload_n 0, i0), (.getfield 37, (9, 7, 2, [])), (.invokevirtual 202, (84, 3, 4, [])), (.istore_n 2, i0), (.aload_n 0, i0), (.getfield 30, (9, 4, 2, [])), (.iconst 0, i0), (.putfield 178, (5, 0, 0, [])), (.iload_n 2, i0), (.ifCond .ne 10, (72, 0, 0, [])), (.aload_n 0, i0), (.bipush 9, i0), (.invokevirtual 147, (175, 2, 9, [])), (.ireturn, (0, 0, 0, []))]),
  (72, [(.aload_n 0, i0), (.getfield 47, (9, 9, 2, [])), (.astore_n 3, i0), (.aload_n 0, i0), (.aload_n 0, i0), (.getfield 51, (9, 10, 2, [])), (.putfield 47, (9, 9, 2, [])), (.aload_n 0, i0), (.aload_n 3, i0), (.putfield 51, (9, 10, 2, [])), (.aload_n 0, i0), (.aload_n 0, i0), (.getfield 47, (9, 9, 2, [])), (.getfield 205, (3, 1, 0, [])), (.invokevirtual 194, (174, 2, 9, [])), (.ireturn, (0, 0, 0, []))])]
def KX9_fault : List (Nat × List OpI) := [(0, [(.iload_n 1, i0), (.lookupswitch 43 #[(0, 27), (1, 35)], (44, 27, 0, [(0, 28), (1, 36)]))]),
  (28, [(.aload_n 0, i0), (.getfield 30, (9, 4, 2, [])), (.getfield 208, (5, 3, 0, [])), (.ireturn, (0, 0, 0, []))]),
  (36, [(.aload_n 0, i0), (.getfield 30, (9, 4, 2, [])), (.getfield 211, (5, 4, 0, [])), (.ireturn, (0, 0, 0, []))]),
  (44, [(.iconst (-1), i0), (.ireturn, (0, 0, 0, []))])]
def KX9_told : List (Nat × List OpI) := [(0, [(.iload_n 1, i0), (.tableswitch 175 0 9 #[55, 67, 79, 91, 103, 115, 127, 139, 151, 163], (176, 55, 0, [(0, 56), (1, 68), (2, 80), (3, 92), (4, 104), (5, 116), (6, 128), (7, 140), (8, 152), (9, 164)]))]),
  (56, [(.aload_n 0, i0), (.aload_n 0, i0), (.getfield 37, (9, 7, 2, [])), (.getfield 214, (7, 0, 0, [])), (.invokevirtual 194, (174, 2, 9, [])), (.ireturn, (0, 0, 0, []))]),
  (68, [(.aload_n 0, i0), (.aload_n 0, i0), (.getfield 37, (9, 7, 2, [])), (.getfield 191, (7, 5, 0, [])), (.invokevirtual 194, (174, 2, 9, [])), (.ireturn, (0, 0, 0, []))]),
  (80, [(.aload_n 0, i0), (.aload_n 0, i0), (.getfield 37, (9, 7, 2, [])), (.getfield 217, (7, 13, 0, [])), (.invokevirtual 194, (174, 2, 9, [])), (.ireturn, (0, 0, 0, []))]),
  (92, [(.aload_n 0, i0), (.aload_n 0, i0), (.getfield 37, (9, 7, 2, [])), (.getfield 220, (7, 16, 0, [])), (.invokevirtual 194, (174, 2, 9, [])), (.ireturn, (0, 0, 0, []))]),
  (104, [(.aload_n 0, i0), (.aload_n 0, i0), (.getfield 37, (9, 7, 2, [])), (.getfield 223, (7, 17, 0, [])), (.invokevirtual 194, (174, 2, 9, [])), (.ireturn, (0, 0, 0, []))]),
  (116, [(.aload_n 0, i0), (.aload_n 0, i0), (.getfield 37, (9, 7, 2, [])), (.getfield 226, (7, 18, 0, [])), (.invokevirtual 194, (174, 2, 9, [])), (.ireturn, (0, 0, 0, []))]),
  (128, [(.aload_n 0, i0), (.aload_n 0, i0), (.getfield 37, (9, 7, 2, [])), (.getfield 229, (7, 19, 0, [])), (.invokevirtual 194, (174, 2, 9, [])), (.ireturn, (0, 0, 0, []))]),
  (140, [(.aload_n 0, i0), (.aload_n 0, i0), (.getfield 37, (9, 7, 2, [])), (.invokevirtual 232, (18, 1, 7, [])), (.invokevirtual 194, (174, 2, 9, [])), (.ireturn, (0, 0, 0, []))]),
  (152, [(.aload_n 0, i0), (.aload_n 0, i0), (.getfield 37, (9, 7, 2, [])), (.getfield 236, (7, 4, 0, [])), (.invokevirtual 194, (174, 2, 9, [])), (.ireturn, (0, 0, 0, []))]),
  (164, [(.aload_n 0, i0), (.aload_n 0, i0), (.getfield 37, (9, 7, 2, [])), (.invokevirtual 239, (19, 1, 7, [])), (.invokevirtual 194, (174, 2, 9, [])), (.ireturn, (0, 0, 0, []))]),
  (176, [(.aload_n 0, i0), (.iconst 1, i0), (.invokevirtual 147, (175, 2, 9, [])), (.ireturn, (0, 0, 0, []))])]
def KX9_arch : List (Nat × List OpI) := [(0, [(.aload_n 0, i0), (.getfield 37, (9, 7, 2, [])), (.iload_n 1, i0), (.invokevirtual 242, (13, 2, 7, [])), (.ifCond .ne 9, (17, 0, 0, [])), (.aload_n 0, i0), (.iconst 1, i0), (.invokevirtual 147, (175, 2, 9, [])), (.ireturn, (0, 0, 0, []))]),
  (17, [(.iload_n 2, i0), (.tableswitch 85 0 3 #[30, 44, 58, 72], (103, 30, 0, [(0, 48), (1, 62), (2, 76), (3, 90)]))]),
  (48, [(.aload_n 0, i0), (.aload_n 0, i0), (.getfield 37, (9, 7, 2, [])), (.getfield 245, (7, 1, 2, [])), (.iload_n 1, i0), (.iaload, (100, 0, 0, [])), (.invokevirtual 194, (174, 2, 9, [])), (.ireturn, (0, 0, 0, []))]),
  (62, [(.aload_n 0, i0), (.aload_n 0, i0), (.getfield 37, (9, 7, 2, [])), (.getfield 248, (7, 2, 2, [])), (.iload_n 1, i0), (.iaload, (100, 0, 0, [])), (.invokevirtual 194, (174, 2, 9, [])), (.ireturn, (0, 0, 0, []))]),
  (76, [(.aload_n 0, i0), (.aload_n 0, i0), (.getfield 37, (9, 7, 2, [])), (.getfield 251, (7, 3, 2, [])), (.iload_n 1, i0), (.iaload, (100, 0, 0, [])), (.invokevirtual 194, (174, 2, 9, [])), (.ireturn, (0, 0, 0, []))]),
  (90, [(.aload_n 0, i0), (.aload_n 0, i0), (.getfield 37, (9, 7, 2, [])), (.iload_n 1, i0), (.invokevirtual 254, (27, 2, 7, [])), (.invokevirtual 194, (174, 2, 9, [])), (.ireturn, (0, 0, 0, []))]),
  (103, [(.aload_n 0, i0), (.iconst 1, i0), (.invokevirtual 147, (175, 2, 9, [])), (.ireturn, (0, 0, 0, []))])]
def KX9_person : List (Nat × List OpI) := [(0, [(.aload_n 0, i0), (.getfield 37, (9, 7, 2, [])), (.iload_n 1, i0), (.invokevirtual 257, (14, 2, 7, [])), (.ifCond .ne 9, (17, 0, 0, [])), (.aload_n 0, i0), (.iconst 1, i0), (.invokevirtual 147, (175, 2, 9, [])), (.ireturn, (0, 0, 0, []))]),
  (17, [(.iload_n 2, i0), (.tableswitch 122 0 5 #[38, 52, 66, 80, 94, 108], (140, 38, 0, [(0, 56), (1, 70), (2, 84), (3, 98), (4, 112), (5, 126)]))]),
  (56, [(.aload_n 0, i0), (.aload_n 0, i0), (.getfield 37, (9, 7, 2, [])), (.getfield 260, (7, 7, 2, [])), (.iload_n 1, i0), (.iaload, (100, 0, 0, [])), (.invokevirtual 194, (174, 2, 9, [])), (.ireturn, (0, 0, 0, []))]),
  (70, [(.aload_n 0, i0), (.aload_n 0, i0), (.getfield 37, (9, 7, 2, [])), (.getfield 263, (7, 8, 2, [])), (.iload_n 1, i0), (.iaload, (100, 0, 0, [])), (.invokevirtual 194, (174, 2, 9, [])), (.ireturn, (0, 0, 0, []))]),
  (84, [(.aload_n 0, i0), (.aload_n 0, i0), (.getfield 37, (9, 7, 2, [])), (.getfield 266, (7, 9, 2, [])), (.iload_n 1, i0), (.iaload, (100, 0, 0, [])), (.invokevirtual 194, (174, 2, 9, [])), (.ireturn, (0, 0, 0, []))]),
  (98, [(.aload_n 0, i0), (.aload_n 0, i0), (.getfield 37, (9, 7, 2, [])), (.getfield 269, (7, 10, 2, [])), (.iload_n 1, i0), (.iaload, (100, 0, 0, [])), (.invokevirtual 194, (174, 2, 9, [])), (.ireturn, (0, 0, 0, []))]),
  (112, [(.aload_n 0, i0), (.aload_n 0, i0), (.getfield 37, (9, 7, 2, [])), (.getfield 272, (7, 11, 2, [])), (.iload_n 1, i0), (.iaload, (100, 0, 0, [])), (.invokevirtual 194, (174, 2, 9, [])), (.ireturn, (0, 0, 0, []))]),
  (126, [(.aload_n 0, i0), (.aload_n 0, i0), (.getfield 37, (9, 7, 2, [])), (.getfield 275, (7, 12, 2, [])), (.iload_n 1, i0), (.iaload, (100, 0, 0, [])), (.invokevirtual 194, (174, 2, 9, [])), (.ireturn, (0, 0, 0, []))]),
  (140, [(.aload_n 0, i0), (.iconst 1, i0), (.invokevirtual 147, (175, 2, 9, [])), (.ireturn, (0, 0, 0, []))])]
def KX9_plant : List (Nat × List OpI) := [(0, [(.iload_n 1, i0), (.i2l, i0), (.lconst 0, i0), (.aload_n 0, i0), (.getfield 37, (9, 7, 2, [])), (.getfield 217, (7, 13, 0, [])), (.iconst 1, i0), (.isub, i0), (.i2l, i0), (.invokestatic 122, (181, 3, 0, [])), (.ifCond .ne 9, (25, 0, 0, [])), (.aload_n 0, i0), (.iconst 1, i0), (.invokevirtual 147, (175, 2, 9, [])), (.ireturn, (0, 0, 0, []))]),
  (25, [(.iload_n 2, i0), (.lookupswitch 54 #[(0, 26), (1, 40)], (80, 26, 0, [(0, 52), (1, 66)]))]),
  (52, [(.aload_n 0, i0), (.aload_n 0, i0), (.getfield 37, (9, 7, 2, [])), (.getfield 278, (7, 14, 2, [])), (.iload_n 1, i0), (.iaload, (100, 0, 0, [])), (.invokevirtual 194, (174, 2, 9, [])), (.ireturn, (0, 0, 0, []))]),
  (66, [(.aload_n 0, i0), (.aload_n 0, i0), (.getfield 37, (9, 7, 2, [])), (.getfield 281, (7, 15, 2, [])), (.iload_n 1, i0), (.iaload, (100, 0, 0, [])), (.invokevirtual 194, (174, 2, 9, [])), (.ireturn, (0, 0, 0, []))]),
  (80, [(.aload_n 0, i0), (.iconst 1, i0), (.invokevirtual 147, (175, 2, 9, [])), (.ireturn, (0, 0, 0, []))])]
def KX9_run : List (Nat × List OpI) := [(0, [(.aload_n 0, i0), (.getfield 37, (9, 7, 2, [])), (.iload_n 1, i0), (.invokevirtual 257, (14, 2, 7, [])), (.ifCond .ne 9, (17, 0, 0, [])), (.aload_n 0, i0), (.iconst 1, i0), (.invokevirtual 147, (175, 2, 9, [])), (.ireturn, (0, 0, 0, []))]),
  (17, [(.aload_n 0, i0), (.aload_n 0, i0), (.getfield 37, (9, 7, 2, [])), (.iload_n 1, i0), (.invokevirtual 284, (40, 2, 7, [])), (.bipush 7, i0), (.invokevirtual 287, (176, 3, 9, [])), (.ireturn, (0, 0, 0, []))])]
def KX9_rope : List (Nat × List OpI) := [(0, [(.aload_n 0, i0), (.getfield 37, (9, 7, 2, [])), (.iload_n 1, i0), (.iload_n 2, i0), (.invokevirtual 290, (15, 3, 7, [])), (.ifCond .ne 9, (18, 0, 0, [])), (.aload_n 0, i0), (.iconst 1, i0), (.invokevirtual 147, (175, 2, 9, [])), (.ireturn, (0, 0, 0, []))]),
  (18, [(.aload_n 0, i0), (.aload_n 0, i0), (.getfield 37, (9, 7, 2, [])), (.iload_n 1, i0), (.iload_n 2, i0), (.invokevirtual 293, (41, 3, 7, [])), (.bipush 7, i0), (.invokevirtual 287, (176, 3, 9, [])), (.ireturn, (0, 0, 0, []))])]
def KX9_jump : List (Nat × List OpI) := [(0, [(.aload_n 0, i0), (.getfield 37, (9, 7, 2, [])), (.iload_n 1, i0), (.invokevirtual 242, (13, 2, 7, [])), (.ifCond .ne 9, (17, 0, 0, [])), (.aload_n 0, i0), (.iconst 1, i0), (.invokevirtual 147, (175, 2, 9, [])), (.ireturn, (0, 0, 0, []))]),
  (17, [(.aload_n 0, i0), (.aload_n 0, i0), (.getfield 37, (9, 7, 2, [])), (.iload_n 1, i0), (.invokevirtual 296, (45, 2, 7, [])), (.bipush 7, i0), (.invokevirtual 287, (176, 3, 9, [])), (.ireturn, (0, 0, 0, []))])]
def KX9_home : List (Nat × List OpI) := [(0, [(.aload_n 0, i0), (.getfield 37, (9, 7, 2, [])), (.iload_n 1, i0), (.invokevirtual 257, (14, 2, 7, [])), (.ifCond .ne 9, (17, 0, 0, [])), (.aload_n 0, i0), (.iconst 1, i0), (.invokevirtual 147, (175, 2, 9, [])), (.ireturn, (0, 0, 0, []))]),
  (17, [(.aload_n 0, i0), (.aload_n 0, i0), (.getfield 37, (9, 7, 2, [])), (.iload_n 1, i0), (.invokevirtual 299, (46, 2, 7, [])), (.bipush 7, i0), (.invokevirtual 287, (176, 3, 9, [])), (.ireturn, (0, 0, 0, []))])]
def KX9_day : List (Nat × List OpI) := [(0, [(.iload_n 1, i0), (.i2l, i0), (.lconst 1, i0), (.ldc2_w 302, (0, 0, 99, [])), (.invokestatic 122, (181, 3, 0, [])), (.ifCond .ne 9, (18, 0, 0, [])), (.aload_n 0, i0), (.iconst 1, i0), (.invokevirtual 147, (175, 2, 9, [])), (.ireturn, (0, 0, 0, []))]),
  (18, [(.aload_n 0, i0), (.aload_n 0, i0), (.getfield 37, (9, 7, 2, [])), (.iload_n 1, i0), (.invokevirtual 304, (48, 2, 7, [])), (.iconst 4, i0), (.invokevirtual 287, (176, 3, 9, [])), (.ireturn, (0, 0, 0, []))])]
def KX9_teach : List (Nat × List OpI) := [(0, [(.aload_n 0, i0), (.getfield 37, (9, 7, 2, [])), (.iload_n 1, i0), (.invokevirtual 257, (14, 2, 7, [])), (.ifCond .ne 9, (17, 0, 0, [])), (.aload_n 0, i0), (.iconst 1, i0), (.invokevirtual 128, (179, 2, 9, [])), (.ireturn, (1, 0, 0, []))]),
  (17, [(.iload_n 2, i0), (.tableswitch 77 0 2 #[26, 43, 60], (95, 26, 0, [(0, 44), (1, 61), (2, 78)]))]),
  (44, [(.aload_n 0, i0), (.aload_n 0, i0), (.getfield 37, (9, 7, 2, [])), (.getfield 260, (7, 7, 2, [])), (.iload_n 1, i0), (.iload_n 3, i0), (.iconst 1, i0), (.bipush 40, i0), (.invokevirtual 307, (180, 6, 9, [])), (.ireturn, (1, 0, 0, []))]),
  (61, [(.aload_n 0, i0), (.aload_n 0, i0), (.getfield 37, (9, 7, 2, [])), (.getfield 263, (7, 8, 2, [])), (.iload_n 1, i0), (.iload_n 3, i0), (.iconst 0, i0), (.bipush 9, i0), (.invokevirtual 307, (180, 6, 9, [])), (.ireturn, (1, 0, 0, []))]),
  (78, [(.aload_n 0, i0), (.aload_n 0, i0), (.getfield 37, (9, 7, 2, [])), (.getfield 266, (7, 9, 2, [])), (.iload_n 1, i0), (.iload_n 3, i0), (.iconst 0, i0), (.bipush 9, i0), (.invokevirtual 307, (180, 6, 9, [])), (.ireturn, (1, 0, 0, []))]),
  (95, [(.aload_n 0, i0), (.iconst 1, i0), (.invokevirtual 128, (179, 2, 9, [])), (.ireturn, (1, 0, 0, []))])]
def KX9_come : List (Nat × List OpI) := [(0, [(.iload_n 1, i0), (.i2l, i0), (.lconst 1, i0), (.ldc2_w 310, (0, 0, 40, [])), (.invokestatic 122, (181, 3, 0, [])), (.ifCond .ne 9, (18, 0, 0, [])), (.aload_n 0, i0), (.iconst 1, i0), (.invokevirtual 147, (175, 2, 9, [])), (.ireturn, (0, 0, 0, []))]),
  (18, [(.aload_n 0, i0), (.getfield 37, (9, 7, 2, [])), (.getfield 191, (7, 5, 0, [])), (.bipush 6, i0), (.if_icmp .lt 9, (36, 0, 0, [])), (.aload_n 0, i0), (.iconst 4, i0), (.invokevirtual 147, (175, 2, 9, [])), (.ireturn, (0, 0, 0, []))]),
  (36, [(.aload_n 0, i0), (.getfield 37, (9, 7, 2, [])), (.lconst 0, i0), (.iload_n 1, i0), (.invokevirtual 312, (11, 3, 7, [])), (.aload_n 0, i0), (.aload_n 0, i0), (.getfield 37, (9, 7, 2, [])), (.getfield 191, (7, 5, 0, [])), (.iconst 1, i0), (.isub, i0), (.invokevirtual 194, (174, 2, 9, [])), (.ireturn, (0, 0, 0, []))])]
def KX9_build : List (Nat × List OpI) := [(0, [(.iload_n 1, i0), (.i2l, i0), (.lconst 0, i0), (.ldc2_w 126, (0, 0, 60, [])), (.invokestatic 122, (181, 3, 0, [])), (.ifCond .eq 15, (24, 0, 0, [])), (.iload_n 2, i0), (.i2l, i0), (.lconst 0, i0), (.ldc2_w 316, (0, 0, 9, [])), (.invokestatic 122, (181, 3, 0, [])), (.ifCond .ne 9, (30, 0, 0, [])), (.nop, (24, 0, 0, []))]),
  (24, [(.aload_n 0, i0), (.iconst 1, i0), (.invokevirtual 147, (175, 2, 9, [])), (.ireturn, (0, 0, 0, []))]),
  (30, [(.aload_n 0, i0), (.getfield 37, (9, 7, 2, [])), (.getfield 214, (7, 0, 0, [])), (.bipush 9, i0), (.if_icmp .lt 9, (48, 0, 0, [])), (.aload_n 0, i0), (.iconst 4, i0), (.invokevirtual 147, (175, 2, 9, [])), (.ireturn, (0, 0, 0, []))]),
  (48, [(.aload_n 0, i0), (.getfield 37, (9, 7, 2, [])), (.iload_n 1, i0), (.iload_n 2, i0), (.invokevirtual 318, (10, 3, 7, [])), (.aload_n 0, i0), (.aload_n 0, i0), (.getfield 37, (9, 7, 2, [])), (.getfield 214, (7, 0, 0, [])), (.iconst 1, i0), (.isub, i0), (.invokevirtual 194, (174, 2, 9, [])), (.ireturn, (0, 0, 0, []))])]
def KX9_sow : List (Nat × List OpI) := [(0, [(.iload_n 1, i0), (.i2l, i0), (.lconst 1, i0), (.ldc2_w 321, (0, 0, 30, [])), (.invokestatic 122, (181, 3, 0, [])), (.ifCond .eq 15, (24, 0, 0, [])), (.iload_n 2, i0), (.i2l, i0), (.lconst 0, i0), (.ldc2_w 302, (0, 0, 99, [])), (.invokestatic 122, (181, 3, 0, [])), (.ifCond .ne 9, (30, 0, 0, [])), (.nop, (24, 0, 0, []))]),
  (24, [(.aload_n 0, i0), (.iconst 1, i0), (.invokevirtual 147, (175, 2, 9, [])), (.ireturn, (0, 0, 0, []))]),
  (30, [(.aload_n 0, i0), (.getfield 37, (9, 7, 2, [])), (.getfield 217, (7, 13, 0, [])), (.bipush 8, i0), (.if_icmp .lt 9, (48, 0, 0, [])), (.aload_n 0, i0), (.iconst 4, i0), (.invokevirtual 147, (175, 2, 9, [])), (.ireturn, (0, 0, 0, []))]),
  (48, [(.aload_n 0, i0), (.getfield 37, (9, 7, 2, [])), (.iload_n 1, i0), (.iload_n 2, i0), (.invokevirtual 323, (12, 3, 7, [])), (.aload_n 0, i0), (.aload_n 0, i0), (.getfield 37, (9, 7, 2, [])), (.getfield 217, (7, 13, 0, [])), (.iconst 1, i0), (.isub, i0), (.invokevirtual 194, (174, 2, 9, [])), (.ireturn, (0, 0, 0, []))])]
def KX9_rule : List (Nat × List OpI) := [(0, [(.iload_n 1, i0), (.iconst 3, i0), (.if_icmp .ne 28, (30, 0, 0, [])), (.iload_n 2, i0), (.i2l, i0), (.lconst 0, i0), (.ldc2_w 316, (0, 0, 9, [])), (.invokestatic 122, (181, 3, 0, [])), (.ifCond .eq 16, (30, 0, 0, [])), (.aload_n 0, i0), (.getfield 37, (9, 7, 2, [])), (.iload_n 2, i0), (.putfield 220, (7, 16, 0, [])), (.aload_n 0, i0), (.invokevirtual 135, (178, 1, 9, [])), (.ireturn, (1, 0, 0, []))]),
  (30, [(.iload_n 1, i0), (.iconst 4, i0), (.if_icmp .ne 28, (60, 0, 0, [])), (.iload_n 2, i0), (.i2l, i0), (.lconst 0, i0), (.ldc2_w 326, (0, 0, 5, [])), (.invokestatic 122, (181, 3, 0, [])), (.ifCond .eq 16, (60, 0, 0, [])), (.aload_n 0, i0), (.getfield 37, (9, 7, 2, [])), (.iload_n 2, i0), (.putfield 223, (7, 17, 0, [])), (.aload_n 0, i0), (.invokevirtual 135, (178, 1, 9, [])), (.ireturn, (1, 0, 0, []))]),
  (60, [(.iload_n 1, i0), (.iconst 5, i0), (.if_icmp .ne 28, (90, 0, 0, [])), (.iload_n 2, i0), (.i2l, i0), (.lconst 0, i0), (.ldc2_w 328, (0, 0, 16, [])), (.invokestatic 122, (181, 3, 0, [])), (.ifCond .eq 16, (90, 0, 0, [])), (.aload_n 0, i0), (.getfield 37, (9, 7, 2, [])), (.iload_n 2, i0), (.putfield 226, (7, 18, 0, [])), (.aload_n 0, i0), (.invokevirtual 135, (178, 1, 9, [])), (.ireturn, (1, 0, 0, []))]),
  (90, [(.aload_n 0, i0), (.iconst 1, i0), (.invokevirtual 128, (179, 2, 9, [])), (.ireturn, (1, 0, 0, []))])]
def KX9_strain : List (Nat × List OpI) := [(0, [(.aload_n 0, i0), (.getfield 37, (9, 7, 2, [])), (.iload_n 1, i0), (.invokevirtual 257, (14, 2, 7, [])), (.ifCond .eq 14, (22, 0, 0, [])), (.aload_n 0, i0), (.getfield 37, (9, 7, 2, [])), (.iload_n 2, i0), (.invokevirtual 242, (13, 2, 7, [])), (.ifCond .ne 9, (28, 0, 0, [])), (.nop, (22, 0, 0, []))]),
  (22, [(.aload_n 0, i0), (.iconst 1, i0), (.invokevirtual 147, (175, 2, 9, [])), (.ireturn, (0, 0, 0, []))]),
  (28, [(.aload_n 0, i0), (.aload_n 0, i0), (.getfield 37, (9, 7, 2, [])), (.iload_n 1, i0), (.iload_n 2, i0), (.invokevirtual 330, (24, 3, 7, [])), (.invokevirtual 194, (174, 2, 9, [])), (.ireturn, (0, 0, 0, []))])]
def KX9_strainOf : List (Nat × List OpI) := [(0, [(.aload_n 0, i0), (.getfield 37, (9, 7, 2, [])), (.iload_n 1, i0), (.iload_n 2, i0), (.invokevirtual 290, (15, 3, 7, [])), (.ifCond .eq 14, (23, 0, 0, [])), (.aload_n 0, i0), (.getfield 37, (9, 7, 2, [])), (.iload_n 3, i0), (.invokevirtual 242, (13, 2, 7, [])), (.ifCond .ne 9, (29, 0, 0, [])), (.nop, (23, 0, 0, []))]),
  (23, [(.aload_n 0, i0), (.iconst 1, i0), (.invokevirtual 147, (175, 2, 9, [])), (.ireturn, (0, 0, 0, []))]),
  (29, [(.aload_n 0, i0), (.aload_n 0, i0), (.getfield 37, (9, 7, 2, [])), (.iload_n 1, i0), (.iload_n 2, i0), (.iload_n 3, i0), (.invokevirtual 333, (25, 4, 7, [])), (.invokevirtual 194, (174, 2, 9, [])), (.ireturn, (0, 0, 0, []))])]
def KX9_reach : List (Nat × List OpI) := [(0, [(.aload_n 0, i0), (.getfield 37, (9, 7, 2, [])), (.iload_n 1, i0), (.invokevirtual 257, (14, 2, 7, [])), (.ifCond .ne 9, (17, 0, 0, [])), (.aload_n 0, i0), (.iconst 1, i0), (.invokevirtual 147, (175, 2, 9, [])), (.ireturn, (0, 0, 0, []))]),
  (17, [(.aload_n 0, i0), (.aload_n 0, i0), (.getfield 37, (9, 7, 2, [])), (.aload_n 0, i0), (.getfield 37, (9, 7, 2, [])), (.iload_n 1, i0), (.invokevirtual 337, (28, 2, 7, [])), (.aload_n 0, i0), (.getfield 37, (9, 7, 2, [])), (.getfield 263, (7, 8, 2, [])), (.iload_n 1, i0), (.iaload, (100, 0, 0, [])), (.invokevirtual 340, (33, 3, 7, [])), (.invokevirtual 194, (174, 2, 9, [])), (.ireturn, (0, 0, 0, []))])]
def KX9_reachIn : List (Nat × List OpI) := [(0, [(.aload_n 0, i0), (.getfield 37, (9, 7, 2, [])), (.iload_n 1, i0), (.invokevirtual 257, (14, 2, 7, [])), (.ifCond .eq 15, (23, 0, 0, [])), (.iload_n 2, i0), (.i2l, i0), (.lconst 0, i0), (.ldc2_w 310, (0, 0, 40, [])), (.invokestatic 122, (181, 3, 0, [])), (.ifCond .ne 9, (29, 0, 0, [])), (.nop, (23, 0, 0, []))]),
  (23, [(.aload_n 0, i0), (.iconst 1, i0), (.invokevirtual 147, (175, 2, 9, [])), (.ireturn, (0, 0, 0, []))]),
  (29, [(.aload_n 0, i0), (.aload_n 0, i0), (.getfield 37, (9, 7, 2, [])), (.aload_n 0, i0), (.getfield 37, (9, 7, 2, [])), (.iload_n 1, i0), (.iload_n 2, i0), (.invokevirtual 343, (30, 3, 7, [])), (.aload_n 0, i0), (.getfield 37, (9, 7, 2, [])), (.getfield 263, (7, 8, 2, [])), (.iload_n 1, i0), (.iaload, (100, 0, 0, [])), (.invokevirtual 340, (33, 3, 7, [])), (.invokevirtual 194, (174, 2, 9, [])), (.ireturn, (0, 0, 0, []))])]
def KX9_stops : List (Nat × List OpI) := [(0, [(.aload_n 0, i0), (.getfield 37, (9, 7, 2, [])), (.iload_n 1, i0), (.invokevirtual 257, (14, 2, 7, [])), (.ifCond .ne 9, (17, 0, 0, [])), (.aload_n 0, i0), (.iconst 1, i0), (.invokevirtual 147, (175, 2, 9, [])), (.ireturn, (0, 0, 0, []))]),
  (17, [(.aload_n 0, i0), (.aload_n 0, i0), (.getfield 37, (9, 7, 2, [])), (.iload_n 1, i0), (.invokevirtual 337, (28, 2, 7, [])), (.invokevirtual 346, (177, 2, 9, [])), (.ireturn, (0, 0, 0, []))])]
def KX9_stopsBoth : List (Nat × List OpI) := [(0, [(.aload_n 0, i0), (.getfield 37, (9, 7, 2, [])), (.iload_n 1, i0), (.iload_n 2, i0), (.invokevirtual 290, (15, 3, 7, [])), (.ifCond .ne 9, (18, 0, 0, [])), (.aload_n 0, i0), (.iconst 1, i0), (.invokevirtual 147, (175, 2, 9, [])), (.ireturn, (0, 0, 0, []))]),
  (18, [(.aload_n 0, i0), (.aload_n 0, i0), (.getfield 37, (9, 7, 2, [])), (.iload_n 1, i0), (.iload_n 2, i0), (.iconst 0, i0), (.invokevirtual 349, (31, 4, 7, [])), (.invokevirtual 346, (177, 2, 9, [])), (.ireturn, (0, 0, 0, []))])]
def KX9_pays : List (Nat × List OpI) := [(0, [(.aload_n 0, i0), (.getfield 37, (9, 7, 2, [])), (.iload_n 1, i0), (.invokevirtual 257, (14, 2, 7, [])), (.ifCond .ne 9, (17, 0, 0, [])), (.aload_n 0, i0), (.iconst 1, i0), (.invokevirtual 147, (175, 2, 9, [])), (.ireturn, (0, 0, 0, []))]),
  (17, [(.aload_n 0, i0), (.aload_n 0, i0), (.getfield 37, (9, 7, 2, [])), (.aload_n 0, i0), (.getfield 37, (9, 7, 2, [])), (.getfield 269, (7, 10, 2, [])), (.iload_n 1, i0), (.iaload, (100, 0, 0, [])), (.aload_n 0, i0), (.getfield 37, (9, 7, 2, [])), (.iload_n 1, i0), (.invokevirtual 337, (28, 2, 7, [])), (.invokevirtual 352, (34, 3, 7, [])), (.invokevirtual 194, (174, 2, 9, [])), (.ireturn, (0, 0, 0, []))])]
def KX9_span : List (Nat × List OpI) := [(0, [(.aload_n 0, i0), (.getfield 37, (9, 7, 2, [])), (.iload_n 1, i0), (.invokevirtual 257, (14, 2, 7, [])), (.ifCond .ne 9, (17, 0, 0, [])), (.aload_n 0, i0), (.iconst 1, i0), (.invokevirtual 147, (175, 2, 9, [])), (.ireturn, (0, 0, 0, []))]),
  (17, [(.aload_n 0, i0), (.aload_n 0, i0), (.getfield 37, (9, 7, 2, [])), (.iload_n 1, i0), (.aload_n 0, i0), (.getfield 37, (9, 7, 2, [])), (.iload_n 1, i0), (.invokevirtual 355, (36, 2, 7, [])), (.invokevirtual 358, (35, 3, 7, [])), (.invokevirtual 194, (174, 2, 9, [])), (.ireturn, (0, 0, 0, []))])]
def KX9_spanFrom : List (Nat × List OpI) := [(0, [(.aload_n 0, i0), (.getfield 37, (9, 7, 2, [])), (.iload_n 1, i0), (.invokevirtual 257, (14, 2, 7, [])), (.ifCond .ne 9, (17, 0, 0, [])), (.aload_n 0, i0), (.iconst 1, i0), (.invokevirtual 147, (175, 2, 9, [])), (.ireturn, (0, 0, 0, []))]),
  (17, [(.aload_n 0, i0), (.getfield 37, (9, 7, 2, [])), (.iload_n 1, i0), (.invokevirtual 355, (36, 2, 7, [])), (.istore_n 2, i0), (.aload_n 0, i0), (.getfield 37, (9, 7, 2, [])), (.iload_n 1, i0), (.iload_n 2, i0), (.invokevirtual 358, (35, 3, 7, [])), (.ifCond .ne 10, (45, 0, 0, [])), (.aload_n 0, i0), (.bipush 6, i0), (.invokevirtual 147, (175, 2, 9, [])), (.ireturn, (0, 0, 0, []))]),
  (45, [(.aload_n 0, i0), (.iload_n 2, i0), (.invokevirtual 194, (174, 2, 9, [])), (.ireturn, (0, 0, 0, []))])]
def KX9_weakest : List (Nat × List OpI) := [(0, [(.aload_n 0, i0), (.aload_n 0, i0), (.getfield 37, (9, 7, 2, [])), (.invokevirtual 361, (37, 1, 7, [])), (.bipush 6, i0), (.invokevirtual 287, (176, 3, 9, [])), (.ireturn, (0, 0, 0, []))])]
def KX9_mossIn : List (Nat × List OpI) := [(0, [(.aload_n 0, i0), (.getfield 37, (9, 7, 2, [])), (.iload_n 1, i0), (.invokevirtual 242, (13, 2, 7, [])), (.ifCond .eq 15, (23, 0, 0, [])), (.iload_n 2, i0), (.i2l, i0), (.lconst 0, i0), (.ldc2_w 310, (0, 0, 40, [])), (.invokestatic 122, (181, 3, 0, [])), (.ifCond .ne 9, (29, 0, 0, [])), (.nop, (23, 0, 0, []))]),
  (23, [(.aload_n 0, i0), (.iconst 1, i0), (.invokevirtual 147, (175, 2, 9, [])), (.ireturn, (0, 0, 0, []))]),
  (29, [(.aload_n 0, i0), (.aload_n 0, i0), (.getfield 37, (9, 7, 2, [])), (.iload_n 1, i0), (.iload_n 2, i0), (.invokevirtual 364, (38, 3, 7, [])), (.invokevirtual 194, (174, 2, 9, [])), (.ireturn, (0, 0, 0, []))])]
def KX9_most : List (Nat × List OpI) := [(0, [(.aload_n 0, i0), (.getfield 86, (9, 14, 2, [])), (.aload_n 0, i0), (.getfield 37, (9, 7, 2, [])), (.invokevirtual 367, (93, 2, 1, [])), (.aload_n 0, i0), (.aload_n 0, i0), (.getfield 86, (9, 14, 2, [])), (.invokevirtual 370, (98, 1, 1, [])), (.invokevirtual 194, (174, 2, 9, [])), (.ireturn, (0, 0, 0, []))])]
def KX9_cheapest : List (Nat × List OpI) := [(0, [(.aload_n 0, i0), (.iload_n 1, i0), (.invokevirtual 373, (184, 2, 9, [])), (.ifCond .ne 9, (14, 0, 0, [])), (.aload_n 0, i0), (.iconst 1, i0), (.invokevirtual 147, (175, 2, 9, [])), (.ireturn, (0, 0, 0, []))]),
  (14, [(.aload_n 0, i0), (.getfield 86, (9, 14, 2, [])), (.aload_n 0, i0), (.getfield 37, (9, 7, 2, [])), (.invokevirtual 367, (93, 2, 1, [])), (.aload_n 0, i0), (.aload_n 0, i0), (.getfield 86, (9, 14, 2, [])), (.getfield 376, (1, 1, 2, [])), (.iload_n 1, i0), (.iaload, (100, 0, 0, [])), (.bipush 6, i0), (.invokevirtual 287, (176, 3, 9, [])), (.ireturn, (0, 0, 0, []))])]
def KX9_mate : List (Nat × List OpI) := [(0, [(.aload_n 0, i0), (.iload_n 1, i0), (.invokevirtual 373, (184, 2, 9, [])), (.ifCond .eq 22, (27, 0, 0, [])), (.aload_n 0, i0), (.getfield 37, (9, 7, 2, [])), (.iload_n 2, i0), (.invokevirtual 257, (14, 2, 7, [])), (.ifCond .eq 11, (27, 0, 0, [])), (.iload_n 1, i0), (.iload_n 2, i0), (.invokestatic 379, (182, 2, 0, [])), (.ifCond .ne 9, (33, 0, 0, [])), (.nop, (27, 0, 0, []))]),
  (27, [(.aload_n 0, i0), (.iconst 1, i0), (.invokevirtual 147, (175, 2, 9, [])), (.ireturn, (0, 0, 0, []))]),
  (33, [(.aload_n 0, i0), (.getfield 86, (9, 14, 2, [])), (.aload_n 0, i0), (.getfield 37, (9, 7, 2, [])), (.invokevirtual 367, (93, 2, 1, [])), (.aload_n 0, i0), (.aload_n 0, i0), (.getfield 86, (9, 14, 2, [])), (.iload_n 1, i0), (.iload_n 2, i0), (.invokevirtual 382, (99, 3, 1, [])), (.bipush 6, i0), (.invokevirtual 287, (176, 3, 9, [])), (.ireturn, (0, 0, 0, []))])]
def KX9_mends : List (Nat × List OpI) := [(0, [(.aload_n 0, i0), (.iload_n 1, i0), (.invokevirtual 373, (184, 2, 9, [])), (.ifCond .ne 9, (14, 0, 0, [])), (.aload_n 0, i0), (.iconst 1, i0), (.invokevirtual 147, (175, 2, 9, [])), (.ireturn, (0, 0, 0, []))]),
  (14, [(.aload_n 0, i0), (.aload_n 0, i0), (.getfield 37, (9, 7, 2, [])), (.iload_n 1, i0), (.invokevirtual 385, (51, 2, 7, [])), (.bipush 6, i0), (.invokevirtual 287, (176, 3, 9, [])), (.ireturn, (0, 0, 0, []))])]
def KX9_mendsAt : List (Nat × List OpI) := [(0, [(.aload_n 0, i0), (.iload_n 1, i0), (.invokevirtual 373, (184, 2, 9, [])), (.ifCond .eq 14, (19, 0, 0, [])), (.aload_n 0, i0), (.getfield 37, (9, 7, 2, [])), (.iload_n 2, i0), (.invokevirtual 242, (13, 2, 7, [])), (.ifCond .ne 9, (25, 0, 0, [])), (.nop, (19, 0, 0, []))]),
  (19, [(.aload_n 0, i0), (.iconst 1, i0), (.invokevirtual 147, (175, 2, 9, [])), (.ireturn, (0, 0, 0, []))]),
  (25, [(.aload_n 0, i0), (.getfield 37, (9, 7, 2, [])), (.iload_n 1, i0), (.invokevirtual 385, (51, 2, 7, [])), (.iconst (-1), i0), (.if_icmp .ne 10, (44, 0, 0, [])), (.aload_n 0, i0), (.bipush 6, i0), (.invokevirtual 147, (175, 2, 9, [])), (.ireturn, (0, 0, 0, []))]),
  (44, [(.aload_n 0, i0), (.aload_n 0, i0), (.getfield 37, (9, 7, 2, [])), (.iload_n 1, i0), (.iload_n 2, i0), (.invokevirtual 388, (49, 3, 7, [])), (.invokevirtual 194, (174, 2, 9, [])), (.ireturn, (0, 0, 0, []))])]
def KX9_fits : List (Nat × List OpI) := [(0, [(.aload_n 0, i0), (.iload_n 1, i0), (.iload_n 2, i0), (.iload_n 3, i0), (.invokevirtual 391, (186, 4, 9, [])), (.istore 4, i0), (.iload 4, i0), (.ifCond .eq 10, (21, 0, 0, [])), (.aload_n 0, i0), (.iload 4, i0), (.invokevirtual 147, (175, 2, 9, [])), (.ireturn, (0, 0, 0, []))]),
  (21, [(.aload_n 0, i0), (.aload_n 0, i0), (.iload_n 1, i0), (.iload_n 2, i0), (.iload_n 3, i0), (.invokevirtual 394, (187, 4, 9, [])), (.invokestatic 397, (351, 1, 0, [])), (.invokevirtual 194, (174, 2, 9, [])), (.ireturn, (0, 0, 0, []))])]
def KX9_fitsAt : List (Nat × List OpI) := [(0, [(.iload 4, i0), (.ifCond .ge 9, (11, 0, 0, [])), (.aload_n 0, i0), (.iconst 1, i0), (.invokevirtual 147, (175, 2, 9, [])), (.ireturn, (0, 0, 0, []))]),
  (11, [(.aload_n 0, i0), (.iload_n 1, i0), (.iload_n 2, i0), (.iload_n 3, i0), (.invokevirtual 391, (186, 4, 9, [])), (.istore 5, i0), (.iload 5, i0), (.ifCond .eq 10, (32, 0, 0, [])), (.aload_n 0, i0), (.iload 5, i0), (.invokevirtual 147, (175, 2, 9, [])), (.ireturn, (0, 0, 0, []))]),
  (32, [(.aload_n 0, i0), (.iload_n 1, i0), (.iload_n 2, i0), (.iload_n 3, i0), (.invokevirtual 394, (187, 4, 9, [])), (.istore 6, i0), (.iconst 0, i0), (.istore 7, i0), (.iconst 0, i0), (.istore 8, i0), (.nop, (47, 0, 0, []))]),
  (47, [(.iload 8, i0), (.bipush 9, i0), (.if_icmp .gt 36, (87, 0, 0, [])), (.iload 6, i0), (.iload 8, i0), (.invokestatic 379, (182, 2, 0, [])), (.ifCond .eq 20, (81, 0, 0, [])), (.iload 7, i0), (.iload 4, i0), (.if_icmp .ne 10, (78, 0, 0, [])), (.aload_n 0, i0), (.iload 8, i0), (.invokevirtual 194, (174, 2, 9, [])), (.ireturn, (0, 0, 0, []))]),
  (78, [(.iinc 7 1, i0), (.nop, (81, 0, 0, []))]),
  (81, [(.iinc 8 1, i0), (.goto (-37), (47, 0, 0, []))]),
  (87, [(.aload_n 0, i0), (.bipush 6, i0), (.invokevirtual 147, (175, 2, 9, [])), (.ireturn, (0, 0, 0, []))])]
def KX9_ask : List (Nat × List OpI) := [(0, [(.aload_n 0, i0), (.iload_n 1, i0), (.iload_n 2, i0), (.iload_n 3, i0), (.invokevirtual 391, (186, 4, 9, [])), (.istore 4, i0), (.iload 4, i0), (.ifCond .eq 10, (21, 0, 0, [])), (.aload_n 0, i0), (.iload 4, i0), (.invokevirtual 147, (175, 2, 9, [])), (.ireturn, (0, 0, 0, []))]),
  (21, [(.aload_n 0, i0), (.iload_n 1, i0), (.iload_n 2, i0), (.iload_n 3, i0), (.invokevirtual 394, (187, 4, 9, [])), (.istore 5, i0), (.iload 5, i0), (.invokestatic 397, (351, 1, 0, [])), (.iconst 2, i0), (.if_icmp .ge 10, (46, 0, 0, [])), (.aload_n 0, i0), (.bipush 6, i0), (.invokevirtual 147, (175, 2, 9, [])), (.ireturn, (0, 0, 0, []))]),
  (46, [(.iconst 0, i0), (.istore 6, i0), (.aload_n 0, i0), (.getfield 37, (9, 7, 2, [])), (.iload_n 1, i0), (.iload 5, i0), (.iconst 0, i0), (.invokevirtual 402, (39, 4, 7, [])), (.istore 7, i0), (.iconst 1, i0), (.istore 8, i0), (.nop, (65, 0, 0, []))]),
  (65, [(.iload 8, i0), (.iconst 5, i0), (.if_icmp .gt 38, (106, 0, 0, [])), (.aload_n 0, i0), (.getfield 37, (9, 7, 2, [])), (.iload_n 1, i0), (.iload 5, i0), (.iload 8, i0), (.invokevirtual 402, (39, 4, 7, [])), (.istore 9, i0), (.iload 9, i0), (.iload 7, i0), (.if_icmp .ge 11, (100, 0, 0, [])), (.iload 8, i0), (.istore 6, i0), (.iload 9, i0), (.istore 7, i0), (.nop, (100, 0, 0, []))]),
  (100, [(.iinc 8 1, i0), (.goto (-38), (65, 0, 0, []))]),
  (106, [(.aload_n 0, i0), (.iload 6, i0), (.invokevirtual 194, (174, 2, 9, [])), (.ireturn, (0, 0, 0, []))])]
def KX9_game : List (Nat × List OpI) := [(0, [(.aload_n 0, i0), (.getfield 37, (9, 7, 2, [])), (.iload_n 1, i0), (.iload_n 2, i0), (.invokevirtual 290, (15, 3, 7, [])), (.ifCond .eq 15, (24, 0, 0, [])), (.iload_n 3, i0), (.i2l, i0), (.lconst 0, i0), (.ldc2_w 405, (0, 0, 4, [])), (.invokestatic 122, (181, 3, 0, [])), (.ifCond .ne 9, (30, 0, 0, [])), (.nop, (24, 0, 0, []))]),
  (24, [(.aload_n 0, i0), (.iconst 1, i0), (.invokevirtual 147, (175, 2, 9, [])), (.ireturn, (0, 0, 0, []))]),
  (30, [(.aload_n 0, i0), (.getfield 41, (9, 8, 2, [])), (.aload_n 0, i0), (.getfield 37, (9, 7, 2, [])), (.invokevirtual 407, (9, 2, 7, [])), (.aload_n 0, i0), (.getfield 95, (9, 15, 2, [])), (.aload_n 0, i0), (.getfield 41, (9, 8, 2, [])), (.iload_n 1, i0), (.iload_n 2, i0), (.iload_n 3, i0), (.invokevirtual 410, (102, 5, 0, [])), (.aload_n 0, i0), (.aload_n 0, i0), (.getfield 95, (9, 15, 2, [])), (.invokevirtual 414, (103, 1, 0, [])), (.invokevirtual 194, (174, 2, 9, [])), (.ireturn, (0, 0, 0, []))])]
def KX9_moveOf : List (Nat × List OpI) := [(0, [(.aload_n 0, i0), (.getfield 37, (9, 7, 2, [])), (.iload_n 1, i0), (.iload_n 2, i0), (.invokevirtual 290, (15, 3, 7, [])), (.ifCond .eq 15, (24, 0, 0, [])), (.iload_n 3, i0), (.i2l, i0), (.lconst 1, i0), (.ldc2_w 405, (0, 0, 4, [])), (.invokestatic 122, (181, 3, 0, [])), (.ifCond .ne 9, (30, 0, 0, [])), (.nop, (24, 0, 0, []))]),
  (24, [(.aload_n 0, i0), (.iconst 1, i0), (.invokevirtual 147, (175, 2, 9, [])), (.ireturn, (0, 0, 0, []))]),
  (30, [(.aload_n 0, i0), (.getfield 41, (9, 8, 2, [])), (.aload_n 0, i0), (.getfield 37, (9, 7, 2, [])), (.invokevirtual 407, (9, 2, 7, [])), (.aload_n 0, i0), (.getfield 95, (9, 15, 2, [])), (.aload_n 0, i0), (.getfield 41, (9, 8, 2, [])), (.iload_n 1, i0), (.iload_n 2, i0), (.iload_n 3, i0), (.invokevirtual 410, (102, 5, 0, [])), (.aload_n 0, i0), (.aload_n 0, i0), (.getfield 95, (9, 15, 2, [])), (.invokevirtual 417, (104, 1, 0, [])), (.invokevirtual 194, (174, 2, 9, [])), (.ireturn, (0, 0, 0, []))])]
def KX9_garden : List (Nat × List OpI) := [(0, [(.iload_n 1, i0), (.i2l, i0), (.lconst 0, i0), (.ldc2_w 302, (0, 0, 99, [])), (.invokestatic 122, (181, 3, 0, [])), (.ifCond .ne 9, (18, 0, 0, [])), (.aload_n 0, i0), (.iconst 1, i0), (.invokevirtual 147, (175, 2, 9, [])), (.ireturn, (0, 0, 0, []))]),
  (18, [(.aload_n 0, i0), (.aload_n 0, i0), (.getfield 37, (9, 7, 2, [])), (.aload_n 0, i0), (.getfield 37, (9, 7, 2, [])), (.iload_n 1, i0), (.invokevirtual 420, (52, 2, 7, [])), (.invokevirtual 423, (53, 2, 7, [])), (.invokevirtual 194, (174, 2, 9, [])), (.ireturn, (0, 0, 0, []))])]
def KX9_gardenSet : List (Nat × List OpI) := [(0, [(.iload_n 1, i0), (.i2l, i0), (.lconst 0, i0), (.ldc2_w 302, (0, 0, 99, [])), (.invokestatic 122, (181, 3, 0, [])), (.ifCond .ne 9, (18, 0, 0, [])), (.aload_n 0, i0), (.iconst 1, i0), (.invokevirtual 147, (175, 2, 9, [])), (.ireturn, (0, 0, 0, []))]),
  (18, [(.aload_n 0, i0), (.aload_n 0, i0), (.getfield 37, (9, 7, 2, [])), (.iload_n 1, i0), (.invokevirtual 420, (52, 2, 7, [])), (.invokevirtual 194, (174, 2, 9, [])), (.ireturn, (0, 0, 0, []))])]
def KX9_chance : List (Nat × List OpI) := [(0, [(.aload_n 0, i0), (.getfield 37, (9, 7, 2, [])), (.iload_n 1, i0), (.invokevirtual 257, (14, 2, 7, [])), (.ifCond .ne 9, (17, 0, 0, [])), (.aload_n 0, i0), (.iconst 1, i0), (.invokevirtual 128, (179, 2, 9, [])), (.ireturn, (1, 0, 0, []))]),
  (17, [(.aload_n 0, i0), (.iload_n 1, i0), (.aload_n 0, i0), (.getfield 37, (9, 7, 2, [])), (.getfield 214, (7, 0, 0, [])), (.aload_n 0, i0), (.getfield 37, (9, 7, 2, [])), (.getfield 269, (7, 10, 2, [])), (.iload_n 1, i0), (.iaload, (100, 0, 0, [])), (.isub, i0), (.invokevirtual 426, (188, 3, 9, [])), (.aload_n 0, i0), (.invokevirtual 135, (178, 1, 9, [])), (.ireturn, (1, 0, 0, []))])]
def KX9_hope : List (Nat × List OpI) := [(0, [(.aload_n 0, i0), (.getfield 37, (9, 7, 2, [])), (.iload_n 1, i0), (.invokevirtual 257, (14, 2, 7, [])), (.ifCond .eq 15, (23, 0, 0, [])), (.iload_n 2, i0), (.i2l, i0), (.lconst 0, i0), (.ldc2_w 316, (0, 0, 9, [])), (.invokestatic 122, (181, 3, 0, [])), (.ifCond .ne 9, (29, 0, 0, [])), (.nop, (23, 0, 0, []))]),
  (23, [(.aload_n 0, i0), (.iconst 1, i0), (.invokevirtual 128, (179, 2, 9, [])), (.ireturn, (1, 0, 0, []))]),
  (29, [(.aload_n 0, i0), (.iload_n 1, i0), (.iload_n 2, i0), (.invokevirtual 426, (188, 3, 9, [])), (.aload_n 0, i0), (.invokevirtual 135, (178, 1, 9, [])), (.ireturn, (1, 0, 0, []))])]
def KX9_copyAt : List (Nat × List OpI) := [(0, [(.iload_n 1, i0), (.invokestatic 116, (183, 1, 0, [])), (.ifCond .ne 9, (13, 0, 0, [])), (.aload_n 0, i0), (.iconst 1, i0), (.invokevirtual 147, (175, 2, 9, [])), (.ireturn, (0, 0, 0, []))]),
  (13, [(.aload_n 0, i0), (.getfield 22, (9, 3, 2, [])), (.iload_n 1, i0), (.aaload, (104, 0, 0, [])), (.astore_n 2, i0), (.aload_n 2, i0), (.invokevirtual 155, (1, 1, 6, [])), (.ifCond .eq 9, (33, 0, 0, [])), (.aload_n 0, i0), (.iconst 2, i0), (.invokevirtual 147, (175, 2, 9, [])), (.ireturn, (0, 0, 0, []))]),
  (33, [(.aload_n 2, i0), (.iconst 0, i0), (.aload_n 0, i0), (.getfield 37, (9, 7, 2, [])), (.getfield 191, (7, 5, 0, [])), (.invokevirtual 161, (3, 3, 6, [])), (.ifCond .ne 9, (54, 0, 0, [])), (.aload_n 0, i0), (.iconst 3, i0), (.invokevirtual 147, (175, 2, 9, [])), (.ireturn, (0, 0, 0, []))]),
  (54, [(.iconst 0, i0), (.istore_n 3, i0), (.nop, (56, 0, 0, []))]),
  (56, [(.iload_n 3, i0), (.aload_n 0, i0), (.getfield 37, (9, 7, 2, [])), (.getfield 191, (7, 5, 0, [])), (.if_icmp .ge 24, (88, 0, 0, [])), (.aload_n 2, i0), (.iload_n 3, i0), (.aload_n 0, i0), (.getfield 37, (9, 7, 2, [])), (.getfield 269, (7, 10, 2, [])), (.iload_n 3, i0), (.iaload, (100, 0, 0, [])), (.i2l, i0), (.invokevirtual 143, (5, 3, 6, [])), (.iinc 3 1, i0), (.goto (-29), (56, 0, 0, []))]),
  (88, [(.aload_n 0, i0), (.aload_n 0, i0), (.getfield 37, (9, 7, 2, [])), (.getfield 191, (7, 5, 0, [])), (.invokevirtual 194, (174, 2, 9, [])), (.ireturn, (0, 0, 0, []))])]
def KX9_live : List (Nat × List OpI) := [(0, [(.iload_n 1, i0), (.i2l, i0), (.lconst 0, i0), (.ldc2_w 429, (0, 0, 9999, [])), (.invokestatic 122, (181, 3, 0, [])), (.ifCond .ne 9, (18, 0, 0, [])), (.aload_n 0, i0), (.iconst 1, i0), (.invokevirtual 147, (175, 2, 9, [])), (.ireturn, (0, 0, 0, []))]),
  (18, [(.aload_n 0, i0), (.getfield 47, (9, 9, 2, [])), (.getfield 431, (3, 0, 0, [])), (.ifCond .ne 10, (35, 0, 0, [])), (.aload_n 0, i0), (.bipush 6, i0), (.invokevirtual 147, (175, 2, 9, [])), (.ireturn, (0, 0, 0, []))]),
  (35, [(.aload_n 0, i0), (.getfield 37, (9, 7, 2, [])), (.getfield 229, (7, 19, 0, [])), (.istore_n 2, i0), (.aload_n 0, i0), (.getfield 37, (9, 7, 2, [])), (.invokevirtual 434, (20, 1, 7, [])), (.istore_n 3, i0), (.aload_n 0, i0), (.getfield 37, (9, 7, 2, [])), (.invokevirtual 239, (19, 1, 7, [])), (.istore 4, i0), (.aload_n 0, i0), (.getfield 104, (9, 16, 2, [])), (.aload_n 0, i0), (.getfield 37, (9, 7, 2, [])), (.aload_n 0, i0), (.getfield 47, (9, 9, 2, [])), (.iload_n 1, i0), (.invokevirtual 437, (109, 4, 2, [])), (.aload_n 0, i0), (.getfield 108, (9, 17, 2, [])), (.iconst 0, i0), (.aload_n 0, i0), (.getfield 104, (9, 16, 2, [])), (.getfield 441, (2, 1, 0, [])), (.iastore, i0), (.aload_n 0, i0), (.getfield 108, (9, 17, 2, [])), (.iconst 1, i0), (.aload_n 0, i0), (.getfield 37, (9, 7, 2, [])), (.getfield 229, (7, 19, 0, [])), (.iload_n 2, i0), (.isub, i0), (.iastore, i0), (.aload_n 0, i0), (.getfield 108, (9, 17, 2, [])), (.iconst 2, i0), (.aload_n 0, i0), (.getfield 37, (9, 7, 2, [])), (.invokevirtual 434, (20, 1, 7, [])), (.iload_n 3, i0), (.isub, i0), (.iastore, i0), (.aload_n 0, i0), (.getfield 108, (9, 17, 2, [])), (.iconst 3, i0), (.aload_n 0, i0), (.getfield 37, (9, 7, 2, [])), (.invokevirtual 239, (19, 1, 7, [])), (.iload 4, i0), (.isub, i0), (.iastore, i0), (.aload_n 0, i0), (.getfield 108, (9, 17, 2, [])), (.iconst 4, i0), (.aload_n 0, i0), (.getfield 104, (9, 16, 2, [])), (.getfield 444, (2, 2, 0, [])), (.ifCond .eq 7, (154, 0, 0, [])), (.iconst 1, i0), (.goto 4, (155, 0, 0, []))]),
  (154, [(.iconst 0, i0), (.nop, (155, 0, 0, []))]),
  (155, [(.iastore, i0), (.aload_n 0, i0), (.iconst 1, i0), (.putfield 112, (9, 18, 3, [])), (.aload_n 0, i0), (.aload_n 0, i0), (.getfield 104, (9, 16, 2, [])), (.getfield 447, (2, 0, 0, [])), (.invokevirtual 194, (174, 2, 9, [])), (.ireturn, (0, 0, 0, []))])]
def KX9_lived : List (Nat × List OpI) := [(0, [(.iload_n 1, i0), (.i2l, i0), (.lconst 0, i0), (.ldc2_w 405, (0, 0, 4, [])), (.invokestatic 122, (181, 3, 0, [])), (.ifCond .ne 9, (18, 0, 0, [])), (.aload_n 0, i0), (.iconst 1, i0), (.invokevirtual 147, (175, 2, 9, [])), (.ireturn, (0, 0, 0, []))]),
  (18, [(.aload_n 0, i0), (.getfield 112, (9, 18, 0, [])), (.ifCond .ne 10, (32, 0, 0, [])), (.aload_n 0, i0), (.bipush 6, i0), (.invokevirtual 147, (175, 2, 9, [])), (.ireturn, (0, 0, 0, []))]),
  (32, [(.aload_n 0, i0), (.aload_n 0, i0), (.getfield 108, (9, 17, 2, [])), (.iload_n 1, i0), (.iaload, (100, 0, 0, [])), (.invokevirtual 194, (174, 2, 9, [])), (.ireturn, (0, 0, 0, []))])]
def KX9_mean : List (Nat × List OpI) := [(0, [(.iload_n 1, i0), (.i2l, i0), (.lconst 0, i0), (.ldc2_w 429, (0, 0, 9999, [])), (.invokestatic 122, (181, 3, 0, [])), (.ifCond .eq 26, (35, 0, 0, [])), (.iload_n 2, i0), (.i2l, i0), (.lconst 1, i0), (.ldc2_w 450, (0, 0, 20, [])), (.invokestatic 122, (181, 3, 0, [])), (.ifCond .eq 14, (35, 0, 0, [])), (.iload_n 1, i0), (.iload_n 2, i0), (.iadd, i0), (.iconst 1, i0), (.isub, i0), (.sipush 9999, i0), (.if_icmp .le 9, (41, 0, 0, [])), (.nop, (35, 0, 0, []))]),
  (35, [(.aload_n 0, i0), (.iconst 1, i0), (.invokevirtual 128, (179, 2, 9, [])), (.ireturn, (1, 0, 0, []))]),
  (41, [(.aload_n 0, i0), (.getfield 47, (9, 9, 2, [])), (.getfield 431, (3, 0, 0, [])), (.ifCond .ne 10, (58, 0, 0, [])), (.aload_n 0, i0), (.bipush 6, i0), (.invokevirtual 128, (179, 2, 9, [])), (.ireturn, (1, 0, 0, []))]),
  (58, [(.lconst 0, i0), (.lstore_n 3, i0), (.iconst 0, i0), (.istore 5, i0), (.nop, (63, 0, 0, []))]),
  (63, [(.iload 5, i0), (.iload_n 2, i0), (.if_icmp .ge 50, (116, 0, 0, [])), (.aload_n 0, i0), (.getfield 41, (9, 8, 2, [])), (.aload_n 0, i0), (.getfield 37, (9, 7, 2, [])), (.invokevirtual 407, (9, 2, 7, [])), (.aload_n 0, i0), (.getfield 104, (9, 16, 2, [])), (.aload_n 0, i0), (.getfield 41, (9, 8, 2, [])), (.aload_n 0, i0), (.getfield 47, (9, 9, 2, [])), (.iload_n 1, i0), (.iload 5, i0), (.iadd, i0), (.invokevirtual 437, (109, 4, 2, [])), (.lload_n 3, i0), (.aload_n 0, i0), (.getfield 41, (9, 8, 2, [])), (.invokevirtual 452, (21, 1, 7, [])), (.i2l, i0), (.ladd, i0), (.lstore_n 3, i0), (.iinc 5 1, i0), (.goto (-50), (63, 0, 0, []))]),
  (116, [(.aload_n 0, i0), (.lload_n 3, i0), (.iload_n 2, i0), (.i2l, i0), (.invokevirtual 455, (189, 3, 9, [])), (.aload_n 0, i0), (.invokevirtual 135, (178, 1, 9, [])), (.ireturn, (1, 0, 0, []))])]
def KX9_mark : List (Nat × List OpI) := [(0, [(.aload_n 0, i0), (.getfield 80, (9, 13, 0, [])), (.iconst 3, i0), (.if_icmp .lt 9, (14, 0, 0, [])), (.aload_n 0, i0), (.iconst 4, i0), (.invokevirtual 147, (175, 2, 9, [])), (.ireturn, (0, 0, 0, []))]),
  (14, [(.aload_n 0, i0), (.getfield 72, (9, 11, 2, [])), (.aload_n 0, i0), (.getfield 80, (9, 13, 0, [])), (.aaload, (105, 0, 0, [])), (.aload_n 0, i0), (.getfield 37, (9, 7, 2, [])), (.invokevirtual 407, (9, 2, 7, [])), (.aload_n 0, i0), (.getfield 76, (9, 12, 2, [])), (.aload_n 0, i0), (.getfield 80, (9, 13, 0, [])), (.aaload, (106, 0, 0, [])), (.aload_n 0, i0), (.getfield 47, (9, 9, 2, [])), (.invokevirtual 459, (74, 2, 3, [])), (.aload_n 0, i0), (.dup, i0), (.getfield 80, (9, 13, 0, [])), (.iconst 1, i0), (.iadd, i0), (.putfield 80, (9, 13, 0, [])), (.aload_n 0, i0), (.aload_n 0, i0), (.getfield 80, (9, 13, 0, [])), (.invokevirtual 194, (174, 2, 9, [])), (.ireturn, (0, 0, 0, []))])]
def KX9_undo : List (Nat × List OpI) := [(0, [(.aload_n 0, i0), (.getfield 80, (9, 13, 0, [])), (.ifCond .gt 10, (14, 0, 0, [])), (.aload_n 0, i0), (.bipush 6, i0), (.invokevirtual 147, (175, 2, 9, [])), (.ireturn, (0, 0, 0, []))]),
  (14, [(.aload_n 0, i0), (.dup, i0), (.getfield 80, (9, 13, 0, [])), (.iconst 1, i0), (.isub, i0), (.putfield 80, (9, 13, 0, [])), (.aload_n 0, i0), (.getfield 37, (9, 7, 2, [])), (.aload_n 0, i0), (.getfield 72, (9, 11, 2, [])), (.aload_n 0, i0), (.getfield 80, (9, 13, 0, [])), (.aaload, (105, 0, 0, [])), (.invokevirtual 407, (9, 2, 7, [])), (.aload_n 0, i0), (.getfield 47, (9, 9, 2, [])), (.aload_n 0, i0), (.getfield 76, (9, 12, 2, [])), (.aload_n 0, i0), (.getfield 80, (9, 13, 0, [])), (.aaload, (106, 0, 0, [])), (.invokevirtual 459, (74, 2, 3, [])), (.aload_n 0, i0), (.aload_n 0, i0), (.getfield 80, (9, 13, 0, [])), (.invokevirtual 194, (174, 2, 9, [])), (.ireturn, (0, 0, 0, []))])]
def KX9_given : List (Nat × List OpI) := [(0, [(.aload_n 0, i0), (.iconst 0, i0), (.putfield 9, (9, 0, 0, [])), (.iload_n 1, i0), (.ireturn, (0, 0, 0, []))])]
def KX9_none : List (Nat × List OpI) := [(0, [(.aload_n 0, i0), (.iload_n 1, i0), (.putfield 9, (9, 0, 0, [])), (.iconst (-1), i0), (.ireturn, (0, 0, 0, []))])]
def KX9_givenUnless : List (Nat × List OpI) := [(0, [(.iload_n 1, i0), (.iconst (-1), i0), (.if_icmp .ne 11, (13, 0, 0, [])), (.aload_n 0, i0), (.iload_n 2, i0), (.invokevirtual 147, (175, 2, 9, [])), (.goto 8, (18, 0, 0, []))]),
  (13, [(.aload_n 0, i0), (.iload_n 1, i0), (.invokevirtual 194, (174, 2, 9, [])), (.nop, (18, 0, 0, []))]),
  (18, [(.ireturn, (0, 0, 0, []))])]
def KX9_givenIfArch : List (Nat × List OpI) := [(0, [(.aload_n 0, i0), (.getfield 37, (9, 7, 2, [])), (.iload_n 1, i0), (.invokevirtual 242, (13, 2, 7, [])), (.ifCond .eq 11, (19, 0, 0, [])), (.aload_n 0, i0), (.iload_n 1, i0), (.invokevirtual 194, (174, 2, 9, [])), (.goto 9, (25, 0, 0, []))]),
  (19, [(.aload_n 0, i0), (.bipush 6, i0), (.invokevirtual 147, (175, 2, 9, [])), (.nop, (25, 0, 0, []))]),
  (25, [(.ireturn, (0, 0, 0, []))])]
def KX9_yes : List (Nat × List OpI) := [(0, [(.aload_n 0, i0), (.iconst 0, i0), (.putfield 9, (9, 0, 0, [])), (.iconst 1, i0), (.ireturn, (1, 0, 0, []))])]
def KX9_not : List (Nat × List OpI) := [(0, [(.aload_n 0, i0), (.iload_n 1, i0), (.putfield 9, (9, 0, 0, [])), (.iconst 0, i0), (.ireturn, (1, 0, 0, []))])]
def KX9_put : List (Nat × List OpI) := [(0, [(.iload_n 3, i0), (.i2l, i0), (.iload 4, i0), (.i2l, i0), (.iload 5, i0), (.i2l, i0), (.invokestatic 122, (181, 3, 0, [])), (.ifCond .ne 9, (20, 0, 0, [])), (.aload_n 0, i0), (.iconst 1, i0), (.invokevirtual 128, (179, 2, 9, [])), (.ireturn, (1, 0, 0, []))]),
  (20, [(.aload_n 1, i0), (.iload_n 2, i0), (.iload_n 3, i0), (.iastore, i0), (.aload_n 0, i0), (.invokevirtual 135, (178, 1, 9, [])), (.ireturn, (1, 0, 0, []))])]
def KX9_within : List (Nat × List OpI) := [(0, [(.lload_n 0, i0), (.lload_n 2, i0), (.lcmp, i0), (.ifCond .lt 14, (17, 0, 0, [])), (.lload_n 0, i0), (.lload 4, i0), (.lcmp, i0), (.ifCond .gt 7, (17, 0, 0, [])), (.iconst 1, i0), (.goto 4, (18, 0, 0, []))]),
  (17, [(.iconst 0, i0), (.nop, (18, 0, 0, []))]),
  (18, [(.ireturn, (1, 0, 0, []))])]
def KX9_contains : List (Nat × List OpI) := [(0, [(.iload_n 0, i0), (.iload_n 1, i0), (.ishr, i0), (.iconst 1, i0), (.iand, i0), (.ifCond .eq 7, (12, 0, 0, [])), (.iconst 1, i0), (.goto 4, (13, 0, 0, []))]),
  (12, [(.iconst 0, i0), (.nop, (13, 0, 0, []))]),
  (13, [(.ireturn, (1, 0, 0, []))])]
def KX9_isTray : List (Nat × List OpI) := [(0, [(.iload_n 0, i0), (.ifCond .lt 12, (13, 0, 0, [])), (.iload_n 0, i0), (.iconst 4, i0), (.if_icmp .ge 7, (13, 0, 0, [])), (.iconst 1, i0), (.goto 4, (14, 0, 0, []))]),
  (13, [(.iconst 0, i0), (.nop, (14, 0, 0, []))]),
  (14, [(.ireturn, (1, 0, 0, []))])]
def KX9_isSetOfPeople : List (Nat × List OpI) := [(0, [(.iload_n 1, i0), (.i2l, i0), (.lconst 0, i0), (.iconst 1, i0), (.aload_n 0, i0), (.getfield 37, (9, 7, 2, [])), (.getfield 191, (7, 5, 0, [])), (.ishl, i0), (.iconst 1, i0), (.isub, i0), (.i2l, i0), (.invokestatic 122, (181, 3, 0, [])), (.ireturn, (1, 0, 0, []))])]
def KX9_placeStatus : List (Nat × List OpI) := [(0, [(.iload_n 1, i0), (.invokestatic 116, (183, 1, 0, [])), (.ifCond .ne 5, (9, 0, 0, [])), (.iconst 1, i0), (.ireturn, (0, 0, 0, []))]),
  (9, [(.aload_n 0, i0), (.getfield 22, (9, 3, 2, [])), (.iload_n 1, i0), (.aaload, (104, 0, 0, [])), (.invokevirtual 155, (1, 1, 6, [])), (.ifCond .eq 5, (23, 0, 0, [])), (.iconst 2, i0), (.ireturn, (0, 0, 0, []))]),
  (23, [(.aload_n 0, i0), (.getfield 22, (9, 3, 2, [])), (.iload_n 1, i0), (.aaload, (104, 0, 0, [])), (.iload_n 2, i0), (.invokevirtual 462, (2, 2, 6, [])), (.ifCond .eq 7, (40, 0, 0, [])), (.iconst 0, i0), (.goto 4, (41, 0, 0, []))]),
  (40, [(.iconst 3, i0), (.nop, (41, 0, 0, []))]),
  (41, [(.ireturn, (0, 0, 0, []))])]
def KX9_twosStatus : List (Nat × List OpI) := [(0, [(.aload_n 0, i0), (.getfield 37, (9, 7, 2, [])), (.iload_n 1, i0), (.invokevirtual 257, (14, 2, 7, [])), (.ifCond .eq 22, (30, 0, 0, [])), (.iload_n 2, i0), (.invokestatic 116, (183, 1, 0, [])), (.ifCond .eq 15, (30, 0, 0, [])), (.iload_n 3, i0), (.i2l, i0), (.lconst 0, i0), (.ldc2_w 450, (0, 0, 20, [])), (.invokestatic 122, (181, 3, 0, [])), (.ifCond .ne 5, (32, 0, 0, [])), (.nop, (30, 0, 0, []))]),
  (30, [(.iconst 1, i0), (.ireturn, (0, 0, 0, []))]),
  (32, [(.aload_n 0, i0), (.getfield 22, (9, 3, 2, [])), (.iload_n 2, i0), (.aaload, (104, 0, 0, [])), (.astore 4, i0), (.aload 4, i0), (.invokevirtual 155, (1, 1, 6, [])), (.ifCond .eq 5, (50, 0, 0, [])), (.iconst 2, i0), (.ireturn, (0, 0, 0, []))]),
  (50, [(.aload 4, i0), (.iconst 0, i0), (.iconst 2, i0), (.iload_n 3, i0), (.imul, i0), (.invokevirtual 161, (3, 3, 6, [])), (.ifCond .ne 5, (64, 0, 0, [])), (.iconst 3, i0), (.ireturn, (0, 0, 0, []))]),
  (64, [(.iconst 0, i0), (.istore 5, i0), (.nop, (67, 0, 0, []))]),
  (67, [(.iload 5, i0), (.iload_n 3, i0), (.if_icmp .ge 58, (128, 0, 0, [])), (.aload 4, i0), (.getfield 151, (6, 0, 2, [])), (.iconst 2, i0), (.iload 5, i0), (.imul, i0), (.laload, i0), (.lconst 0, i0), (.ldc2_w 326, (0, 0, 5, [])), (.invokestatic 122, (181, 3, 0, [])), (.ifCond .eq 30, (120, 0, 0, [])), (.aload 4, i0), (.getfield 151, (6, 0, 2, [])), (.iconst 2, i0), (.iload 5, i0), (.imul, i0), (.iconst 1, i0), (.iadd, i0), (.laload, i0), (.lconst 0, i0), (.aload_n 0, i0), (.getfield 37, (9, 7, 2, [])), (.getfield 214, (7, 0, 0, [])), (.i2l, i0), (.invokestatic 122, (181, 3, 0, [])), (.ifCond .ne 5, (122, 0, 0, [])), (.nop, (120, 0, 0, []))]),
  (120, [(.iconst 5, i0), (.ireturn, (0, 0, 0, []))]),
  (122, [(.iinc 5 1, i0), (.goto (-58), (67, 0, 0, []))]),
  (128, [(.iconst 0, i0), (.ireturn, (0, 0, 0, []))])]
def KX9_doubtsThatFit : List (Nat × List OpI) := [(0, [(.aload_n 0, i0), (.getfield 22, (9, 3, 2, [])), (.iload_n 2, i0), (.aaload, (104, 0, 0, [])), (.getfield 151, (6, 0, 2, [])), (.astore 4, i0), (.iconst 0, i0), (.istore 5, i0), (.iconst 0, i0), (.istore 6, i0), (.nop, (17, 0, 0, []))]),
  (17, [(.iload 6, i0), (.bipush 9, i0), (.if_icmp .gt 85, (106, 0, 0, [])), (.iconst 1, i0), (.istore 7, i0), (.iconst 0, i0), (.istore 8, i0), (.nop, (30, 0, 0, []))]),
  (30, [(.iload 8, i0), (.iload_n 3, i0), (.if_icmp .ge 53, (86, 0, 0, [])), (.iload 7, i0), (.ifCond .eq 48, (86, 0, 0, [])), (.aload_n 0, i0), (.getfield 37, (9, 7, 2, [])), (.iload_n 1, i0), (.iload 6, i0), (.aload 4, i0), (.iconst 2, i0), (.iload 8, i0), (.imul, i0), (.laload, i0), (.l2i, i0), (.invokevirtual 465, (32, 4, 7, [])), (.i2l, i0), (.aload 4, i0), (.iconst 2, i0), (.iload 8, i0), (.imul, i0), (.iconst 1, i0), (.iadd, i0), (.laload, i0), (.lcmp, i0), (.ifCond .ne 7, (77, 0, 0, [])), (.iconst 1, i0), (.goto 4, (78, 0, 0, []))]),
  (77, [(.iconst 0, i0), (.nop, (78, 0, 0, []))]),
  (78, [(.istore 7, i0), (.iinc 8 1, i0), (.goto (-53), (30, 0, 0, []))]),
  (86, [(.iload 7, i0), (.ifCond .eq 12, (100, 0, 0, [])), (.iload 5, i0), (.iconst 1, i0), (.iload 6, i0), (.ishl, i0), (.ior, i0), (.istore 5, i0), (.nop, (100, 0, 0, []))]),
  (100, [(.iinc 6 1, i0), (.goto (-86), (17, 0, 0, []))]),
  (106, [(.iload 5, i0), (.ireturn, (0, 0, 0, []))])]
def KX9_tellOdds : List (Nat × List OpI) := [(0, [(.aload_n 0, i0), (.getfield 37, (9, 7, 2, [])), (.iload_n 1, i0), (.invokevirtual 337, (28, 2, 7, [])), (.aload_n 0, i0), (.getfield 37, (9, 7, 2, [])), (.getfield 269, (7, 10, 2, [])), (.iload_n 1, i0), (.iaload, (100, 0, 0, [])), (.isub, i0), (.istore_n 3, i0), (.iload_n 2, i0), (.iload_n 3, i0), (.if_icmp .le 10, (31, 0, 0, [])), (.aload_n 0, i0), (.lconst 0, i0), (.lconst 1, i0), (.invokevirtual 455, (189, 3, 9, [])), (.return_, i0)]),
  (31, [(.lconst 1, i0), (.lstore 4, i0), (.lconst 1, i0), (.lstore 6, i0), (.iconst 0, i0), (.istore 8, i0), (.nop, (40, 0, 0, []))]),
  (40, [(.iload 8, i0), (.iload_n 2, i0), (.if_icmp .ge 33, (76, 0, 0, [])), (.lload 4, i0), (.bipush 16, i0), (.aload_n 0, i0), (.getfield 37, (9, 7, 2, [])), (.getfield 226, (7, 18, 0, [])), (.isub, i0), (.i2l, i0), (.lmul, i0), (.lstore 4, i0), (.lload 6, i0), (.ldc2_w 328, (0, 0, 16, [])), (.lmul, i0), (.lstore 6, i0), (.iinc 8 1, i0), (.goto (-33), (40, 0, 0, []))]),
  (76, [(.aload_n 0, i0), (.lload 4, i0), (.lload 6, i0), (.invokevirtual 455, (189, 3, 9, [])), (.return_, i0)])]
def KX9_tell : List (Nat × List OpI) := [(0, [(.lload_n 1, i0), (.lload_n 3, i0), (.invokestatic 468, (190, 2, 0, [])), (.lstore 5, i0), (.lload 5, i0), (.lconst 0, i0), (.lcmp, i0), (.ifCond .gt 4, (15, 0, 0, [])), (.return_, i0)]),
  (15, [(.aload_n 0, i0), (.lload_n 1, i0), (.lload 5, i0), (.ldiv, i0), (.putfield 13, (9, 1, 1, [])), (.aload_n 0, i0), (.lload_n 3, i0), (.lload 5, i0), (.ldiv, i0), (.putfield 17, (9, 2, 1, [])), (.return_, i0)])]
def KX9_commonDivisor : List (Nat × List OpI) := [(0, [(.lload_n 0, i0), (.lstore 4, i0), (.lload_n 2, i0), (.lstore 6, i0), (.iconst 0, i0), (.istore 8, i0), (.nop, (9, 0, 0, []))]),
  (9, [(.iload 8, i0), (.bipush 100, i0), (.if_icmp .ge 31, (44, 0, 0, [])), (.lload 6, i0), (.lconst 0, i0), (.lcmp, i0), (.ifCond .eq 24, (44, 0, 0, [])), (.lload 4, i0), (.lload 6, i0), (.lrem, i0), (.lstore 9, i0), (.lload 6, i0), (.lstore 4, i0), (.lload 9, i0), (.lstore 6, i0), (.iinc 8 1, i0), (.goto (-32), (9, 0, 0, []))]),
  (44, [(.lload 4, i0), (.lreturn, i0)])]
def KX10_init : List (Nat × List OpI) := [(0, [(.aload_n 0, i0), (.invokespecial 1, (1999, 0, 0, [])), (.aload_n 0, i0), (.sipush 3198, i0), (.newarray .int, (100, 0, 0, [])), (.putfield 7, (10, 0, 2, [])), (.aload_n 0, i0), (.bipush 36, i0), (.newarray .long, (101, 0, 0, [])), (.putfield 13, (10, 1, 2, [])), (.aload_n 0, i0), (.lconst 1, i0), (.putfield 17, (10, 4, 1, [])), (.aload_n 0, i0), (.iconst 4, i0), (.newarray .int, (100, 0, 0, [])), (.putfield 21, (10, 5, 2, [])), (.aload_n 0, i0), (.iconst 4, i0), (.newarray .int, (100, 0, 0, [])), (.dup, i0), (.iconst 0, i0), (.iconst (-1), i0), (.iastore, i0), (.dup, i0), (.iconst 1, i0), (.iconst (-1), i0), (.iastore, i0), (.dup, i0), (.iconst 2, i0), (.iconst (-1), i0), (.iastore, i0), (.dup, i0), (.iconst 3, i0), (.iconst (-1), i0), (.iastore, i0), (.putfield 24, (10, 6, 2, [])), (.aload_n 0, i0), (.sipush 240, i0), (.newarray .long, (101, 0, 0, [])), (.putfield 27, (10, 7, 2, [])), (.aload_n 0, i0), (.sipush 900, i0), (.newarray .byte, (102, 0, 0, [])), (.putfield 30, (10, 8, 2, [])), (.aload_n 0, i0), (.sipush 900, i0), (.newarray .byte, (102, 0, 0, [])), (.putfield 34, (10, 9, 2, [])), (.aload_n 0, i0), (.iconst (-1), i0), (.putfield 37, (10, 16, 0, [])), (.aload_n 0, i0), (.iconst (-1), i0), (.putfield 41, (10, 17, 0, [])), (.aload_n 0, i0), (.iconst 3, i0), (.newarray .int, (100, 0, 0, [])), (.putfield 44, (10, 21, 2, [])), (.aload_n 0, i0), (.bipush 64, i0), (.newarray .int, (100, 0, 0, [])), (.putfield 47, (10, 25, 2, [])), (.aload_n 0, i0), (.bipush 64, i0), (.newarray .int, (100, 0, 0, [])), (.putfield 50, (10, 26, 2, [])), (.aload_n 0, i0), (.bipush 60, i0), (.newarray .int, (100, 0, 0, [])), (.putfield 53, (10, 27, 2, [])), (.aload_n 0, i0), (.bipush 10, i0), (.newarray .boolean, (103, 0, 0, [])), (.putfield 56, (10, 28, 2, [])), (.aload_n 0, i0), (.iconst 5, i0), (.newarray .int, (100, 0, 0, [])), (.putfield 60, (10, 29, 2, [])), (.aload_n 0, i0), (.iconst 5, i0), (.newarray .int, (100, 0, 0, [])), (.putfield 63, (10, 30, 2, [])), (.aload_n 0, i0), (.iconst 5, i0), (.newarray .int, (100, 0, 0, [])), (.putfield 66, (10, 31, 2, [])), (.aload_n 0, i0), (.bipush 80, i0), (.newarray .int, (100, 0, 0, [])), (.putfield 69, (10, 34, 2, [])), (.aload_n 0, i0), (.iconst 5, i0), (.newarray .int, (100, 0, 0, [])), (.putfield 72, (10, 35, 2, [])), (.aload_n 0, i0), (.iconst 5, i0), (.newarray .int, (100, 0, 0, [])), (.putfield 75, (10, 36, 2, [])), (.aload_n 0, i0), (.iconst 0, i0), (.invokevirtual 78, (192, 2, 10, [])), (.return_, i0)])]
def KX10_plain : List (Nat × List OpI) := [(0, [(.iconst 0, i0), (.istore_n 2, i0), (.nop, (2, 0, 0, []))]),
  (2, [(.iload_n 2, i0), (.sipush 458, i0), (.if_icmp .ge 18, (24, 0, 0, [])), (.aload_n 0, i0), (.getfield 7, (10, 0, 2, [])), (.iload_n 1, i0), (.iload_n 2, i0), (.iadd, i0), (.iconst 0, i0), (.iastore, i0), (.iinc 2 1, i0), (.goto (-19), (2, 0, 0, []))]),
  (24, [(.aload_n 0, i0), (.getfield 7, (10, 0, 2, [])), (.iload_n 1, i0), (.iconst 3, i0), (.iadd, i0), (.iconst 3, i0), (.iastore, i0), (.aload_n 0, i0), (.getfield 7, (10, 0, 2, [])), (.iload_n 1, i0), (.iconst 5, i0), (.iadd, i0), (.iconst 2, i0), (.iastore, i0), (.aload_n 0, i0), (.getfield 7, (10, 0, 2, [])), (.iload_n 1, i0), (.bipush 7, i0), (.iadd, i0), (.iconst (-1), i0), (.iastore, i0), (.return_, i0)])]
def KX10_status : List (Nat × List OpI) := [(0, [(.aload_n 0, i0), (.getfield 82, (10, 2, 0, [])), (.ireturn, (0, 0, 0, []))])]
def KX10_top : List (Nat × List OpI) := [(0, [(.aload_n 0, i0), (.getfield 85, (10, 3, 1, [])), (.lreturn, i0)])]
def KX10_bottom : List (Nat × List OpI) := [(0, [(.aload_n 0, i0), (.getfield 17, (10, 4, 1, [])), (.lreturn, i0)])]
def KX10_is : List (Nat × List OpI) := [(0, [(.aload_n 0, i0), (.iload_n 1, i0), (.putfield 82, (10, 2, 0, [])), (.iload_n 1, i0), (.ifCond .ne 7, (13, 0, 0, [])), (.iconst 1, i0), (.goto 4, (14, 0, 0, []))]),
  (13, [(.iconst 0, i0), (.nop, (14, 0, 0, []))]),
  (14, [(.ireturn, (1, 0, 0, []))])]
def KX10_refuse : List (Nat × List OpI) := [(0, [(.aload_n 0, i0), (.iload_n 1, i0), (.putfield 82, (10, 2, 0, [])), (.iconst (-1), i0), (.ireturn, (0, 0, 0, []))])]
def KX10_gives : List (Nat × List OpI) := [(0, [(.aload_n 0, i0), (.iconst 0, i0), (.putfield 82, (10, 2, 0, [])), (.iload_n 1, i0), (.ireturn, (0, 0, 0, []))])]
def KX10_orNone : List (Nat × List OpI) := [(0, [(.iload_n 1, i0), (.iconst (-1), i0), (.if_icmp .ne 10, (12, 0, 0, [])), (.aload_n 0, i0), (.bipush 6, i0), (.invokevirtual 88, (197, 2, 10, [])), (.ireturn, (0, 0, 0, []))]),
  (12, [(.aload_n 0, i0), (.iload_n 1, i0), (.invokevirtual 92, (198, 2, 10, [])), (.ireturn, (0, 0, 0, []))])]
def KX10_tellsBy : List (Nat × List OpI) := [(0, [(.lload_n 1, i0), (.lstore 5, i0), (.lload_n 3, i0), (.lstore 7, i0), (.nop, (6, 0, 0, []))]),
  (6, [(.lload 7, i0), (.lconst 0, i0), (.lcmp, i0), (.ifCond .eq 21, (31, 0, 0, [])), (.lload 5, i0), (.lload 7, i0), (.lrem, i0), (.lstore 9, i0), (.lload 7, i0), (.lstore 5, i0), (.lload 9, i0), (.lstore 7, i0), (.goto (-22), (6, 0, 0, []))]),
  (31, [(.aload_n 0, i0), (.lload_n 1, i0), (.lload 5, i0), (.ldiv, i0), (.putfield 85, (10, 3, 1, [])), (.aload_n 0, i0), (.lload_n 3, i0), (.lload 5, i0), (.ldiv, i0), (.putfield 17, (10, 4, 1, [])), (.aload_n 0, i0), (.iconst 0, i0), (.invokevirtual 95, (196, 2, 10, [])), (.ireturn, (1, 0, 0, []))])]
def KX10_isTray : List (Nat × List OpI) := [(0, [(.iload_n 0, i0), (.ifCond .lt 12, (13, 0, 0, [])), (.iload_n 0, i0), (.iconst 4, i0), (.if_icmp .ge 7, (13, 0, 0, [])), (.iconst 1, i0), (.goto 4, (14, 0, 0, []))]),
  (13, [(.iconst 0, i0), (.nop, (14, 0, 0, []))]),
  (14, [(.ireturn, (1, 0, 0, []))])]
def KX10_cut : List (Nat × List OpI) := [(0, [(.iload_n 2, i0), (.ifCond .ne 10, (11, 0, 0, [])), (.lload_n 0, i0), (.l2i, i0), (.i2b, i0), (.i2l, i0), (.goto 27, (35, 0, 0, []))]),
  (11, [(.iload_n 2, i0), (.iconst 1, i0), (.if_icmp .ne 10, (23, 0, 0, [])), (.lload_n 0, i0), (.l2i, i0), (.i2s, i0), (.i2l, i0), (.goto 15, (35, 0, 0, []))]),
  (23, [(.iload_n 2, i0), (.iconst 2, i0), (.if_icmp .ne 9, (34, 0, 0, [])), (.lload_n 0, i0), (.l2i, i0), (.i2l, i0), (.goto 4, (35, 0, 0, []))]),
  (34, [(.lload_n 0, i0), (.nop, (35, 0, 0, []))]),
  (35, [(.lreturn, i0)])]
def KX10_tray : List (Nat × List OpI) := [(0, [(.iload_n 1, i0), (.invokestatic 99, (201, 1, 0, [])), (.ifCond .eq 22, (26, 0, 0, [])), (.iload_n 2, i0), (.ifCond .lt 18, (26, 0, 0, [])), (.iload_n 2, i0), (.iconst 3, i0), (.if_icmp .gt 13, (26, 0, 0, [])), (.iload_n 3, i0), (.ifCond .lt 9, (26, 0, 0, [])), (.iload_n 3, i0), (.bipush 60, i0), (.if_icmp .le 9, (32, 0, 0, [])), (.nop, (26, 0, 0, []))]),
  (26, [(.aload_n 0, i0), (.iconst 1, i0), (.invokevirtual 95, (196, 2, 10, [])), (.ireturn, (1, 0, 0, []))]),
  (32, [(.aload_n 0, i0), (.getfield 21, (10, 5, 2, [])), (.iload_n 1, i0), (.iload_n 2, i0), (.iastore, i0), (.aload_n 0, i0), (.getfield 24, (10, 6, 2, [])), (.iload_n 1, i0), (.iload_n 3, i0), (.iastore, i0), (.iconst 0, i0), (.istore 4, i0), (.nop, (49, 0, 0, []))]),
  (49, [(.iload 4, i0), (.iload_n 3, i0), (.if_icmp .ge 22, (74, 0, 0, [])), (.aload_n 0, i0), (.getfield 27, (10, 7, 2, [])), (.bipush 60, i0), (.iload_n 1, i0), (.imul, i0), (.iload 4, i0), (.iadd, i0), (.lconst 0, i0), (.lastore, i0), (.iinc 4 1, i0), (.goto (-22), (49, 0, 0, []))]),
  (74, [(.aload_n 0, i0), (.iconst 0, i0), (.invokevirtual 95, (196, 2, 10, [])), (.ireturn, (1, 0, 0, []))])]
def KX10_wrongPlace : List (Nat × List OpI) := [(0, [(.iload_n 1, i0), (.invokestatic 99, (201, 1, 0, [])), (.ifCond .ne 7, (11, 0, 0, [])), (.iconst 1, i0), (.goto 36, (44, 0, 0, []))]),
  (11, [(.aload_n 0, i0), (.getfield 24, (10, 6, 2, [])), (.iload_n 1, i0), (.iaload, (100, 0, 0, [])), (.iconst (-1), i0), (.if_icmp .ne 7, (25, 0, 0, [])), (.iconst 2, i0), (.goto 22, (44, 0, 0, []))]),
  (25, [(.iload_n 2, i0), (.ifCond .lt 13, (39, 0, 0, [])), (.iload_n 2, i0), (.aload_n 0, i0), (.getfield 24, (10, 6, 2, [])), (.iload_n 1, i0), (.iaload, (100, 0, 0, [])), (.if_icmp .lt 7, (43, 0, 0, [])), (.nop, (39, 0, 0, []))]),
  (39, [(.iconst 3, i0), (.goto 4, (44, 0, 0, []))]),
  (43, [(.iconst 0, i0), (.nop, (44, 0, 0, []))]),
  (44, [(.ireturn, (0, 0, 0, []))])]
def KX10_write : List (Nat × List OpI) := [(0, [(.aload_n 0, i0), (.iload_n 1, i0), (.iload_n 2, i0), (.invokevirtual 102, (204, 3, 10, [])), (.istore 5, i0), (.iload 5, i0), (.ifCond .ne 24, (34, 0, 0, [])), (.aload_n 0, i0), (.getfield 27, (10, 7, 2, [])), (.bipush 60, i0), (.iload_n 1, i0), (.imul, i0), (.iload_n 2, i0), (.iadd, i0), (.lload_n 3, i0), (.aload_n 0, i0), (.getfield 21, (10, 5, 2, [])), (.iload_n 1, i0), (.iaload, (100, 0, 0, [])), (.invokestatic 106, (202, 2, 0, [])), (.lastore, i0), (.nop, (34, 0, 0, []))]),
  (34, [(.aload_n 0, i0), (.iload 5, i0), (.invokevirtual 95, (196, 2, 10, [])), (.ireturn, (1, 0, 0, []))])]
def KX10_read : List (Nat × List OpI) := [(0, [(.aload_n 0, i0), (.aload_n 0, i0), (.iload_n 1, i0), (.iload_n 2, i0), (.invokevirtual 102, (204, 3, 10, [])), (.putfield 82, (10, 2, 0, [])), (.aload_n 0, i0), (.getfield 82, (10, 2, 0, [])), (.ifCond .le 9, (23, 0, 0, [])), (.ldc2_w 110, (0, 0, (-1), [])), (.goto 14, (34, 0, 0, []))]),
  (23, [(.aload_n 0, i0), (.getfield 27, (10, 7, 2, [])), (.bipush 60, i0), (.iload_n 1, i0), (.imul, i0), (.iload_n 2, i0), (.iadd, i0), (.laload, i0), (.nop, (34, 0, 0, []))]),
  (34, [(.lreturn, i0)])]
def KX10_pour : List (Nat × List OpI) := [(0, [(.iload_n 1, i0), (.invokestatic 99, (201, 1, 0, [])), (.ifCond .eq 24, (28, 0, 0, [])), (.iload_n 3, i0), (.invokestatic 99, (201, 1, 0, [])), (.ifCond .eq 17, (28, 0, 0, [])), (.iload_n 2, i0), (.ifCond .lt 13, (28, 0, 0, [])), (.iload 4, i0), (.ifCond .lt 8, (28, 0, 0, [])), (.iload 5, i0), (.ifCond .ge 9, (34, 0, 0, [])), (.nop, (28, 0, 0, []))]),
  (28, [(.aload_n 0, i0), (.iconst 1, i0), (.invokevirtual 95, (196, 2, 10, [])), (.ireturn, (1, 0, 0, []))]),
  (34, [(.aload_n 0, i0), (.getfield 24, (10, 6, 2, [])), (.iload_n 1, i0), (.iaload, (100, 0, 0, [])), (.iconst (-1), i0), (.if_icmp .eq 13, (54, 0, 0, [])), (.aload_n 0, i0), (.getfield 24, (10, 6, 2, [])), (.iload_n 3, i0), (.iaload, (100, 0, 0, [])), (.iconst (-1), i0), (.if_icmp .ne 9, (60, 0, 0, [])), (.nop, (54, 0, 0, []))]),
  (54, [(.aload_n 0, i0), (.iconst 2, i0), (.invokevirtual 95, (196, 2, 10, [])), (.ireturn, (1, 0, 0, []))]),
  (60, [(.aload_n 0, i0), (.getfield 21, (10, 5, 2, [])), (.iload_n 1, i0), (.iaload, (100, 0, 0, [])), (.aload_n 0, i0), (.getfield 21, (10, 5, 2, [])), (.iload_n 3, i0), (.iaload, (100, 0, 0, [])), (.if_icmp .eq 10, (82, 0, 0, [])), (.aload_n 0, i0), (.bipush 8, i0), (.invokevirtual 95, (196, 2, 10, [])), (.ireturn, (1, 0, 0, []))]),
  (82, [(.iload 5, i0), (.aload_n 0, i0), (.getfield 24, (10, 6, 2, [])), (.iload_n 1, i0), (.iaload, (100, 0, 0, [])), (.iload_n 2, i0), (.isub, i0), (.if_icmp .gt 17, (109, 0, 0, [])), (.iload 5, i0), (.aload_n 0, i0), (.getfield 24, (10, 6, 2, [])), (.iload_n 3, i0), (.iaload, (100, 0, 0, [])), (.iload 4, i0), (.isub, i0), (.if_icmp .le 9, (115, 0, 0, [])), (.nop, (109, 0, 0, []))]),
  (109, [(.aload_n 0, i0), (.iconst 3, i0), (.invokevirtual 95, (196, 2, 10, [])), (.ireturn, (1, 0, 0, []))]),
  (115, [(.iconst 0, i0), (.istore 6, i0), (.nop, (118, 0, 0, []))]),
  (118, [(.iload 6, i0), (.iload 5, i0), (.if_icmp .ge 58, (180, 0, 0, [])), (.iload_n 2, i0), (.iload 4, i0), (.if_icmp .ge 13, (141, 0, 0, [])), (.iload 5, i0), (.iconst 1, i0), (.isub, i0), (.iload 6, i0), (.isub, i0), (.goto 5, (143, 0, 0, []))]),
  (141, [(.iload 6, i0), (.nop, (143, 0, 0, []))]),
  (143, [(.istore 7, i0), (.aload_n 0, i0), (.getfield 27, (10, 7, 2, [])), (.bipush 60, i0), (.iload_n 3, i0), (.imul, i0), (.iload 4, i0), (.iadd, i0), (.iload 7, i0), (.iadd, i0), (.aload_n 0, i0), (.getfield 27, (10, 7, 2, [])), (.bipush 60, i0), (.iload_n 1, i0), (.imul, i0), (.iload_n 2, i0), (.iadd, i0), (.iload 7, i0), (.iadd, i0), (.laload, i0), (.lastore, i0), (.iinc 6 1, i0), (.goto (-59), (118, 0, 0, []))]),
  (180, [(.aload_n 0, i0), (.iconst 0, i0), (.invokevirtual 95, (196, 2, 10, [])), (.ireturn, (1, 0, 0, []))])]
def KX10_isFrom : List (Nat × List OpI) := [(0, [(.lload_n 0, i0), (.lload_n 2, i0), (.lcmp, i0), (.ifCond .lt 14, (17, 0, 0, [])), (.lload_n 0, i0), (.lload 4, i0), (.lcmp, i0), (.ifCond .gt 7, (17, 0, 0, [])), (.iconst 1, i0), (.goto 4, (18, 0, 0, []))]),
  (17, [(.iconst 0, i0), (.nop, (18, 0, 0, []))]),
  (18, [(.ireturn, (1, 0, 0, []))])]
def KX10_feed : List (Nat × List OpI) := [(0, [(.aload_n 0, i0), (.getfield 112, (10, 10, 0, [])), (.bipush 20, i0), (.iadd, i0), (.sipush 900, i0), (.if_icmp .le 5, (15, 0, 0, [])), (.iconst (-1), i0), (.ireturn, (0, 0, 0, []))]),
  (15, [(.aload_n 0, i0), (.iload_n 1, i0), (.invokevirtual 115, (210, 2, 10, [])), (.aload_n 0, i0), (.iload_n 2, i0), (.invokevirtual 115, (210, 2, 10, [])), (.aload_n 0, i0), (.iload_n 3, i0), (.invokevirtual 115, (210, 2, 10, [])), (.aload_n 0, i0), (.iload 4, i0), (.invokevirtual 115, (210, 2, 10, [])), (.aload_n 0, i0), (.iload 5, i0), (.invokevirtual 115, (210, 2, 10, [])), (.aload_n 0, i0), (.getfield 112, (10, 10, 0, [])), (.ireturn, (0, 0, 0, []))])]
def KX10_four : List (Nat × List OpI) := [(0, [(.bipush 24, i0), (.istore_n 2, i0), (.nop, (3, 0, 0, []))]),
  (3, [(.iload_n 2, i0), (.ifCond .lt 32, (36, 0, 0, [])), (.aload_n 0, i0), (.getfield 30, (10, 8, 2, [])), (.aload_n 0, i0), (.getfield 112, (10, 10, 0, [])), (.iload_n 1, i0), (.iload_n 2, i0), (.ishr, i0), (.i2b, i0), (.bastore, (102, 0, 0, [])), (.aload_n 0, i0), (.dup, i0), (.getfield 112, (10, 10, 0, [])), (.iconst 1, i0), (.iadd, i0), (.putfield 112, (10, 10, 0, [])), (.iinc 2 (-8), i0), (.goto (-30), (3, 0, 0, []))]),
  (36, [(.return_, i0)])]
def KX10_byteAt : List (Nat × List OpI) := [(0, [(.iload_n 1, i0), (.aload_n 0, i0), (.getfield 118, (10, 11, 0, [])), (.if_icmp .ge 16, (21, 0, 0, [])), (.aload_n 0, i0), (.getfield 34, (10, 9, 2, [])), (.iload_n 1, i0), (.baload, (102, 0, 0, [])), (.sipush 255, i0), (.iand, i0), (.goto 4, (22, 0, 0, []))]),
  (21, [(.iconst (-1), i0), (.nop, (22, 0, 0, []))]),
  (22, [(.ireturn, (0, 0, 0, []))])]
def KX10_isSmall : List (Nat × List OpI) := [(0, [(.iload_n 0, i0), (.bipush 97, i0), (.if_icmp .lt 13, (16, 0, 0, [])), (.iload_n 0, i0), (.bipush 122, i0), (.if_icmp .gt 7, (16, 0, 0, [])), (.iconst 1, i0), (.goto 4, (17, 0, 0, []))]),
  (16, [(.iconst 0, i0), (.nop, (17, 0, 0, []))]),
  (17, [(.ireturn, (1, 0, 0, []))])]
def KX10_isDigit : List (Nat × List OpI) := [(0, [(.iload_n 0, i0), (.bipush 48, i0), (.if_icmp .lt 13, (16, 0, 0, [])), (.iload_n 0, i0), (.bipush 57, i0), (.if_icmp .gt 7, (16, 0, 0, [])), (.iconst 1, i0), (.goto 4, (17, 0, 0, []))]),
  (16, [(.iconst 0, i0), (.nop, (17, 0, 0, []))]),
  (17, [(.ireturn, (1, 0, 0, []))])]
def KX10_ahead : List (Nat × List OpI) := [(0, [(.aload_n 0, i0), (.aload_n 0, i0), (.getfield 121, (10, 14, 0, [])), (.invokevirtual 124, (211, 2, 10, [])), (.bipush 32, i0), (.if_icmp .eq 16, (26, 0, 0, [])), (.aload_n 0, i0), (.aload_n 0, i0), (.getfield 121, (10, 14, 0, [])), (.invokevirtual 124, (211, 2, 10, [])), (.bipush 10, i0), (.if_icmp .ne 16, (39, 0, 0, [])), (.nop, (26, 0, 0, []))]),
  (26, [(.aload_n 0, i0), (.dup, i0), (.getfield 121, (10, 14, 0, [])), (.iconst 1, i0), (.iadd, i0), (.putfield 121, (10, 14, 0, [])), (.goto (-36), (0, 0, 0, []))]),
  (39, [(.aload_n 0, i0), (.aload_n 0, i0), (.getfield 121, (10, 14, 0, [])), (.putfield 127, (10, 13, 0, [])), (.aload_n 0, i0), (.aload_n 0, i0), (.getfield 121, (10, 14, 0, [])), (.invokevirtual 124, (211, 2, 10, [])), (.istore_n 1, i0), (.aload_n 0, i0), (.iload_n 1, i0), (.putfield 130, (10, 15, 0, [])), (.iload_n 1, i0), (.iconst (-1), i0), (.if_icmp .ne 11, (74, 0, 0, [])), (.aload_n 0, i0), (.iconst 0, i0), (.putfield 133, (10, 12, 0, [])), (.goto 180, (251, 0, 0, []))]),
  (74, [(.iload_n 1, i0), (.invokestatic 136, (212, 1, 0, [])), (.ifCond .eq 38, (116, 0, 0, [])), (.nop, (81, 0, 0, []))]),
  (81, [(.aload_n 0, i0), (.aload_n 0, i0), (.getfield 121, (10, 14, 0, [])), (.invokevirtual 124, (211, 2, 10, [])), (.invokestatic 136, (212, 1, 0, [])), (.ifCond .eq 16, (108, 0, 0, [])), (.aload_n 0, i0), (.dup, i0), (.getfield 121, (10, 14, 0, [])), (.iconst 1, i0), (.iadd, i0), (.putfield 121, (10, 14, 0, [])), (.goto (-24), (81, 0, 0, []))]),
  (108, [(.aload_n 0, i0), (.iconst 2, i0), (.putfield 133, (10, 12, 0, [])), (.goto 138, (251, 0, 0, []))]),
  (116, [(.iload_n 1, i0), (.invokestatic 139, (213, 1, 0, [])), (.ifCond .eq 88, (208, 0, 0, [])), (.aload_n 0, i0), (.iconst 0, i0), (.putfield 130, (10, 15, 0, [])), (.nop, (128, 0, 0, []))]),
  (128, [(.aload_n 0, i0), (.aload_n 0, i0), (.getfield 121, (10, 14, 0, [])), (.invokevirtual 124, (211, 2, 10, [])), (.invokestatic 139, (213, 1, 0, [])), (.ifCond .eq 44, (183, 0, 0, [])), (.aload_n 0, i0), (.ldc 142, (0, 0, 100000, [])), (.bipush 10, i0), (.aload_n 0, i0), (.getfield 130, (10, 15, 0, [])), (.imul, i0), (.aload_n 0, i0), (.aload_n 0, i0), (.getfield 121, (10, 14, 0, [])), (.invokevirtual 124, (211, 2, 10, [])), (.iadd, i0), (.bipush 48, i0), (.isub, i0), (.invokestatic 143, (1001, 2, 0, [])), (.putfield 130, (10, 15, 0, [])), (.aload_n 0, i0), (.dup, i0), (.getfield 121, (10, 14, 0, [])), (.iconst 1, i0), (.iadd, i0), (.putfield 121, (10, 14, 0, [])), (.goto (-52), (128, 0, 0, []))]),
  (183, [(.aload_n 0, i0), (.aload_n 0, i0), (.getfield 121, (10, 14, 0, [])), (.aload_n 0, i0), (.getfield 127, (10, 13, 0, [])), (.isub, i0), (.iconst 4, i0), (.if_icmp .le 7, (201, 0, 0, [])), (.iconst 1, i0), (.goto 4, (202, 0, 0, []))]),
  (201, [(.iconst 3, i0), (.nop, (202, 0, 0, []))]),
  (202, [(.putfield 133, (10, 12, 0, [])), (.goto 46, (251, 0, 0, []))]),
  (208, [(.aload_n 0, i0), (.dup, i0), (.getfield 121, (10, 14, 0, [])), (.iconst 1, i0), (.iadd, i0), (.putfield 121, (10, 14, 0, [])), (.aload_n 0, i0), (.iload_n 1, i0), (.bipush 59, i0), (.if_icmp .eq 21, (243, 0, 0, [])), (.iload_n 1, i0), (.bipush 60, i0), (.if_icmp .eq 15, (243, 0, 0, [])), (.iload_n 1, i0), (.bipush 62, i0), (.if_icmp .eq 9, (243, 0, 0, [])), (.iload_n 1, i0), (.bipush 61, i0), (.if_icmp .ne 7, (247, 0, 0, [])), (.nop, (243, 0, 0, []))]),
  (243, [(.iconst 4, i0), (.goto 4, (248, 0, 0, []))]),
  (247, [(.iconst 1, i0), (.nop, (248, 0, 0, []))]),
  (248, [(.putfield 133, (10, 12, 0, [])), (.nop, (251, 0, 0, []))]),
  (251, [(.return_, i0)])]
def KX10_isSign : List (Nat × List OpI) := [(0, [(.aload_n 0, i0), (.getfield 133, (10, 12, 0, [])), (.iconst 4, i0), (.if_icmp .ne 15, (20, 0, 0, [])), (.aload_n 0, i0), (.getfield 130, (10, 15, 0, [])), (.iload_n 1, i0), (.if_icmp .ne 7, (20, 0, 0, [])), (.iconst 1, i0), (.goto 4, (21, 0, 0, []))]),
  (20, [(.iconst 0, i0), (.nop, (21, 0, 0, []))]),
  (21, [(.ireturn, (1, 0, 0, []))])]
def KX10_inWords : List (Nat × List OpI) := [(0, [(.aload_n 0, i0), (.getfield 133, (10, 12, 0, [])), (.iconst 2, i0), (.if_icmp .eq 5, (10, 0, 0, [])), (.iconst (-1), i0), (.ireturn, (0, 0, 0, []))]),
  (10, [(.iconst 0, i0), (.istore_n 2, i0), (.iconst 1, i0), (.istore_n 3, i0), (.nop, (14, 0, 0, []))]),
  (14, [(.iload_n 3, i0), (.aload_n 1, i0), (.invokevirtual 148, (1005, 1, 99, [])), (.if_icmp .ge 114, (133, 0, 0, [])), (.iload_n 3, i0), (.istore 4, i0), (.nop, (25, 0, 0, []))]),
  (25, [(.aload_n 1, i0), (.iload 4, i0), (.invokevirtual 154, (1006, 2, 99, [])), (.bipush 32, i0), (.if_icmp .eq 9, (42, 0, 0, [])), (.iinc 4 1, i0), (.goto (-14), (25, 0, 0, []))]),
  (42, [(.iload 4, i0), (.iload_n 3, i0), (.isub, i0), (.aload_n 0, i0), (.getfield 121, (10, 14, 0, [])), (.aload_n 0, i0), (.getfield 127, (10, 13, 0, [])), (.isub, i0), (.if_icmp .ne 7, (62, 0, 0, [])), (.iconst 1, i0), (.goto 4, (63, 0, 0, []))]),
  (62, [(.iconst 0, i0), (.nop, (63, 0, 0, []))]),
  (63, [(.istore 5, i0), (.iload_n 3, i0), (.istore 6, i0), (.nop, (68, 0, 0, []))]),
  (68, [(.iload 6, i0), (.iload 4, i0), (.if_icmp .ge 43, (115, 0, 0, [])), (.iload 5, i0), (.ifCond .eq 38, (115, 0, 0, [])), (.aload_n 1, i0), (.iload 6, i0), (.invokevirtual 154, (1006, 2, 99, [])), (.aload_n 0, i0), (.aload_n 0, i0), (.getfield 127, (10, 13, 0, [])), (.iload 6, i0), (.iadd, i0), (.iload_n 3, i0), (.isub, i0), (.invokevirtual 124, (211, 2, 10, [])), (.if_icmp .ne 7, (106, 0, 0, [])), (.iconst 1, i0), (.goto 4, (107, 0, 0, []))]),
  (106, [(.iconst 0, i0), (.nop, (107, 0, 0, []))]),
  (107, [(.istore 5, i0), (.iinc 6 1, i0), (.goto (-44), (68, 0, 0, []))]),
  (115, [(.iload 5, i0), (.ifCond .eq 5, (122, 0, 0, [])), (.iload_n 2, i0), (.ireturn, (0, 0, 0, []))]),
  (122, [(.iinc 2 1, i0), (.iload 4, i0), (.iconst 1, i0), (.iadd, i0), (.istore_n 3, i0), (.goto (-116), (14, 0, 0, []))]),
  (133, [(.iconst (-1), i0), (.ireturn, (0, 0, 0, []))])]
def KX10_fails : List (Nat × List OpI) := [(0, [(.aload_n 0, i0), (.getfield 158, (10, 18, 0, [])), (.ifCond .ne 28, (32, 0, 0, [])), (.aload_n 0, i0), (.aload_n 0, i0), (.getfield 133, (10, 12, 0, [])), (.iconst 1, i0), (.if_icmp .ne 7, (20, 0, 0, [])), (.iconst 1, i0), (.goto 4, (21, 0, 0, []))]),
  (20, [(.iload_n 1, i0), (.nop, (21, 0, 0, []))]),
  (21, [(.putfield 158, (10, 18, 0, [])), (.aload_n 0, i0), (.aload_n 0, i0), (.getfield 127, (10, 13, 0, [])), (.putfield 41, (10, 17, 0, [])), (.nop, (32, 0, 0, []))]),
  (32, [(.iconst 0, i0), (.ireturn, (1, 0, 0, []))])]
def KX10_begins : List (Nat × List OpI) := [(0, [(.iload_n 1, i0), (.ifCond .lt 16, (17, 0, 0, [])), (.iload_n 1, i0), (.aload_n 0, i0), (.getfield 112, (10, 10, 0, [])), (.if_icmp .gt 8, (17, 0, 0, [])), (.iload_n 1, i0), (.iload_n 2, i0), (.if_icmp .le 5, (19, 0, 0, [])), (.nop, (17, 0, 0, []))]),
  (17, [(.iconst 0, i0), (.ireturn, (1, 0, 0, []))]),
  (19, [(.aload_n 0, i0), (.iload_n 1, i0), (.putfield 118, (10, 11, 0, [])), (.iconst 0, i0), (.istore_n 3, i0), (.nop, (26, 0, 0, []))]),
  (26, [(.iload_n 3, i0), (.iload_n 1, i0), (.if_icmp .ge 21, (49, 0, 0, [])), (.aload_n 0, i0), (.getfield 34, (10, 9, 2, [])), (.iload_n 3, i0), (.aload_n 0, i0), (.getfield 30, (10, 8, 2, [])), (.iload_n 3, i0), (.baload, (102, 0, 0, [])), (.bastore, (102, 0, 0, [])), (.iinc 3 1, i0), (.goto (-20), (26, 0, 0, []))]),
  (49, [(.aload_n 0, i0), (.iconst 0, i0), (.putfield 112, (10, 10, 0, [])), (.aload_n 0, i0), (.iconst 0, i0), (.putfield 158, (10, 18, 0, [])), (.aload_n 0, i0), (.iconst (-1), i0), (.putfield 41, (10, 17, 0, [])), (.aload_n 0, i0), (.iconst 0, i0), (.putfield 121, (10, 14, 0, [])), (.aload_n 0, i0), (.iconst 0, i0), (.putfield 161, (10, 19, 0, [])), (.aload_n 0, i0), (.invokevirtual 164, (214, 1, 10, [])), (.iconst 1, i0), (.ireturn, (1, 0, 0, []))])]
def KX10_wantSign : List (Nat × List OpI) := [(0, [(.aload_n 0, i0), (.iload_n 1, i0), (.invokevirtual 167, (215, 2, 10, [])), (.ifCond .ne 9, (14, 0, 0, [])), (.aload_n 0, i0), (.iconst 2, i0), (.invokevirtual 170, (217, 2, 10, [])), (.ireturn, (1, 0, 0, []))]),
  (14, [(.aload_n 0, i0), (.invokevirtual 164, (214, 1, 10, [])), (.iconst 1, i0), (.ireturn, (1, 0, 0, []))])]
def KX10_wantWord : List (Nat × List OpI) := [(0, [(.aload_n 0, i0), (.aload_n 1, i0), (.invokevirtual 173, (216, 2, 10, [])), (.iload_n 2, i0), (.if_icmp .eq 9, (15, 0, 0, [])), (.aload_n 0, i0), (.iconst 2, i0), (.invokevirtual 170, (217, 2, 10, [])), (.ireturn, (1, 0, 0, []))]),
  (15, [(.aload_n 0, i0), (.invokevirtual 164, (214, 1, 10, [])), (.iconst 1, i0), (.ireturn, (1, 0, 0, []))])]
def KX10_number : List (Nat × List OpI) := [(0, [(.aload_n 0, i0), (.getfield 133, (10, 12, 0, [])), (.iconst 3, i0), (.if_icmp .eq 9, (14, 0, 0, [])), (.aload_n 0, i0), (.iconst 2, i0), (.invokevirtual 170, (217, 2, 10, [])), (.ireturn, (1, 0, 0, []))]),
  (14, [(.aload_n 0, i0), (.getfield 130, (10, 15, 0, [])), (.iload_n 2, i0), (.if_icmp .lt 11, (30, 0, 0, [])), (.aload_n 0, i0), (.getfield 130, (10, 15, 0, [])), (.iload_n 3, i0), (.if_icmp .le 9, (36, 0, 0, [])), (.nop, (30, 0, 0, []))]),
  (30, [(.aload_n 0, i0), (.iconst 4, i0), (.invokevirtual 170, (217, 2, 10, [])), (.ireturn, (1, 0, 0, []))]),
  (36, [(.aload_n 0, i0), (.getfield 7, (10, 0, 2, [])), (.iload_n 1, i0), (.aload_n 0, i0), (.getfield 130, (10, 15, 0, [])), (.iastore, i0), (.aload_n 0, i0), (.invokevirtual 164, (214, 1, 10, [])), (.iconst 1, i0), (.ireturn, (1, 0, 0, []))])]
def KX10_isName : List (Nat × List OpI) := [(0, [(.aload_n 0, i0), (.getfield 133, (10, 12, 0, [])), (.iconst 2, i0), (.if_icmp .ne 30, (35, 0, 0, [])), (.aload_n 0, i0), (.getfield 121, (10, 14, 0, [])), (.aload_n 0, i0), (.getfield 127, (10, 13, 0, [])), (.isub, i0), (.bipush 8, i0), (.if_icmp .gt 16, (35, 0, 0, [])), (.aload_n 0, i0), (.aload_n 1, i0), (.invokevirtual 173, (216, 2, 10, [])), (.iconst (-1), i0), (.if_icmp .ne 7, (35, 0, 0, [])), (.iconst 1, i0), (.goto 4, (36, 0, 0, []))]),
  (35, [(.iconst 0, i0), (.nop, (36, 0, 0, []))]),
  (36, [(.ireturn, (1, 0, 0, []))])]
def KX10_nameHere : List (Nat × List OpI) := [(0, [(.lconst 0, i0), (.lstore_n 1, i0), (.aload_n 0, i0), (.getfield 127, (10, 13, 0, [])), (.istore_n 3, i0), (.nop, (7, 0, 0, []))]),
  (7, [(.iload_n 3, i0), (.aload_n 0, i0), (.getfield 121, (10, 14, 0, [])), (.if_icmp .ge 21, (33, 0, 0, [])), (.lload_n 1, i0), (.bipush 8, i0), (.lshl, i0), (.aload_n 0, i0), (.iload_n 3, i0), (.invokevirtual 124, (211, 2, 10, [])), (.i2l, i0), (.lor, i0), (.lstore_n 1, i0), (.iinc 3 1, i0), (.goto (-23), (7, 0, 0, []))]),
  (33, [(.lload_n 1, i0), (.lreturn, i0)])]
def KX10_findHere : List (Nat × List OpI) := [(0, [(.iconst 0, i0), (.istore_n 3, i0), (.nop, (2, 0, 0, []))]),
  (2, [(.iload_n 3, i0), (.iload_n 2, i0), (.if_icmp .ge 27, (31, 0, 0, [])), (.aload_n 0, i0), (.getfield 13, (10, 1, 2, [])), (.iload_n 1, i0), (.iload_n 3, i0), (.iadd, i0), (.laload, i0), (.aload_n 0, i0), (.invokevirtual 177, (223, 1, 10, [])), (.lcmp, i0), (.ifCond .ne 5, (25, 0, 0, [])), (.iload_n 3, i0), (.ireturn, (0, 0, 0, []))]),
  (25, [(.iinc 3 1, i0), (.goto (-26), (2, 0, 0, []))]),
  (31, [(.iconst (-1), i0), (.ireturn, (0, 0, 0, []))])]
def KX10_fault : List (Nat × List OpI) := [(0, [(.iload_n 1, i0), (.ifCond .ne 10, (11, 0, 0, [])), (.aload_n 0, i0), (.getfield 37, (10, 16, 0, [])), (.goto 16, (24, 0, 0, []))]),
  (11, [(.iload_n 1, i0), (.iconst 1, i0), (.if_icmp .ne 10, (23, 0, 0, [])), (.aload_n 0, i0), (.getfield 41, (10, 17, 0, [])), (.goto 4, (24, 0, 0, []))]),
  (23, [(.iconst (-1), i0), (.nop, (24, 0, 0, []))]),
  (24, [(.ireturn, (0, 0, 0, []))])]
def KX10_taken : List (Nat × List OpI) := [(0, [(.aload_n 0, i0), (.aload_n 0, i0), (.getfield 158, (10, 18, 0, [])), (.putfield 37, (10, 16, 0, [])), (.aload_n 0, i0), (.getfield 158, (10, 18, 0, [])), (.ifCond .le 12, (24, 0, 0, [])), (.aload_n 0, i0), (.bipush 9, i0), (.invokevirtual 88, (197, 2, 10, [])), (.goto 8, (29, 0, 0, []))]),
  (24, [(.aload_n 0, i0), (.iload_n 1, i0), (.invokevirtual 92, (198, 2, 10, [])), (.nop, (29, 0, 0, []))]),
  (29, [(.ireturn, (0, 0, 0, []))])]
def KX10_archRow : List (Nat × List OpI) := [(0, [(.bipush 10, i0), (.iconst 3, i0), (.iload_n 0, i0), (.imul, i0), (.iadd, i0), (.ireturn, (0, 0, 0, []))])]
def KX10_personRow : List (Nat × List OpI) := [(0, [(.bipush 37, i0), (.bipush 6, i0), (.iload_n 0, i0), (.imul, i0), (.iadd, i0), (.ireturn, (0, 0, 0, []))])]
def KX10_plantRow : List (Nat × List OpI) := [(0, [(.bipush 73, i0), (.iconst 2, i0), (.iload_n 0, i0), (.imul, i0), (.iadd, i0), (.ireturn, (0, 0, 0, []))])]
def KX10_isThere : List (Nat × List OpI) := [(0, [(.aload_n 0, i0), (.ldc 181, (1, 900002, 0, [])), (.invokevirtual 173, (216, 2, 10, [])), (.iload_n 1, i0), (.if_icmp .eq 5, (12, 0, 0, [])), (.iconst 0, i0), (.ireturn, (1, 0, 0, []))]),
  (12, [(.aload_n 0, i0), (.invokevirtual 164, (214, 1, 10, [])), (.iconst 1, i0), (.ireturn, (1, 0, 0, []))])]
def KX10_perhaps : List (Nat × List OpI) := [(0, [(.aload_n 0, i0), (.iload_n 1, i0), (.invokevirtual 183, (230, 2, 10, [])), (.ifCond .eq 12, (17, 0, 0, [])), (.aload_n 0, i0), (.iload_n 2, i0), (.iload_n 3, i0), (.iload 4, i0), (.invokevirtual 186, (221, 4, 10, [])), (.ireturn, (1, 0, 0, []))]),
  (17, [(.aload_n 0, i0), (.getfield 7, (10, 0, 2, [])), (.iload_n 2, i0), (.iload 5, i0), (.iastore, i0), (.iconst 1, i0), (.ireturn, (1, 0, 0, []))])]
def KX10_isFull : List (Nat × List OpI) := [(0, [(.aload_n 0, i0), (.getfield 7, (10, 0, 2, [])), (.sipush 1832, i0), (.iload_n 1, i0), (.iadd, i0), (.iaload, (100, 0, 0, [])), (.iload_n 2, i0), (.if_icmp .ne 7, (18, 0, 0, [])), (.iconst 1, i0), (.goto 4, (19, 0, 0, []))]),
  (18, [(.iconst 0, i0), (.nop, (19, 0, 0, []))]),
  (19, [(.ireturn, (1, 0, 0, []))])]
def KX10_anArch : List (Nat × List OpI) := [(0, [(.aload_n 0, i0), (.iconst 0, i0), (.bipush 9, i0), (.invokevirtual 190, (232, 3, 10, [])), (.ifCond .eq 10, (17, 0, 0, [])), (.aload_n 0, i0), (.bipush 6, i0), (.invokevirtual 170, (217, 2, 10, [])), (.ireturn, (1, 0, 0, []))]),
  (17, [(.sipush 1832, i0), (.aload_n 0, i0), (.getfield 7, (10, 0, 2, [])), (.sipush 1832, i0), (.iaload, (100, 0, 0, [])), (.invokestatic 194, (227, 1, 0, [])), (.iadd, i0), (.istore_n 1, i0), (.aload_n 0, i0), (.invokevirtual 164, (214, 1, 10, [])), (.aload_n 0, i0), (.ldc 181, (1, 900002, 0, [])), (.bipush 6, i0), (.invokevirtual 197, (220, 3, 10, [])), (.ifCond .eq 14, (59, 0, 0, [])), (.aload_n 0, i0), (.iload_n 1, i0), (.iconst 0, i0), (.bipush 60, i0), (.invokevirtual 186, (221, 4, 10, [])), (.ifCond .ne 5, (61, 0, 0, [])), (.nop, (59, 0, 0, []))]),
  (59, [(.iconst 0, i0), (.ireturn, (1, 0, 0, []))]),
  (61, [(.aload_n 0, i0), (.bipush 7, i0), (.iload_n 1, i0), (.iconst 1, i0), (.iadd, i0), (.iconst 0, i0), (.bipush 9, i0), (.iconst 0, i0), (.invokevirtual 201, (231, 6, 10, [])), (.ifCond .eq 19, (93, 0, 0, [])), (.aload_n 0, i0), (.bipush 8, i0), (.iload_n 1, i0), (.iconst 2, i0), (.iadd, i0), (.iconst 0, i0), (.bipush 9, i0), (.iconst 1, i0), (.invokevirtual 201, (231, 6, 10, [])), (.ifCond .ne 5, (95, 0, 0, [])), (.nop, (93, 0, 0, []))]),
  (93, [(.iconst 0, i0), (.ireturn, (1, 0, 0, []))]),
  (95, [(.aload_n 0, i0), (.getfield 7, (10, 0, 2, [])), (.sipush 1832, i0), (.dup2, i0), (.iaload, (100, 0, 0, [])), (.iconst 1, i0), (.iadd, i0), (.iastore, i0), (.iconst 1, i0), (.ireturn, (1, 0, 0, []))])]
def KX10_aPerson : List (Nat × List OpI) := [(0, [(.aload_n 0, i0), (.getfield 7, (10, 0, 2, [])), (.sipush 1833, i0), (.iaload, (100, 0, 0, [])), (.istore_n 1, i0), (.sipush 1832, i0), (.iload_n 1, i0), (.invokestatic 205, (228, 1, 0, [])), (.iadd, i0), (.istore_n 2, i0), (.aload_n 0, i0), (.iconst 1, i0), (.bipush 6, i0), (.invokevirtual 190, (232, 3, 10, [])), (.ifCond .eq 10, (35, 0, 0, [])), (.aload_n 0, i0), (.bipush 6, i0), (.invokevirtual 170, (217, 2, 10, [])), (.ireturn, (1, 0, 0, []))]),
  (35, [(.aload_n 0, i0), (.invokevirtual 164, (214, 1, 10, [])), (.aload_n 0, i0), (.ldc 181, (1, 900002, 0, [])), (.invokevirtual 208, (222, 2, 10, [])), (.ifCond .ne 9, (54, 0, 0, [])), (.aload_n 0, i0), (.iconst 2, i0), (.invokevirtual 170, (217, 2, 10, [])), (.ireturn, (1, 0, 0, []))]),
  (54, [(.aload_n 0, i0), (.bipush 24, i0), (.iload_n 1, i0), (.invokevirtual 212, (224, 3, 10, [])), (.iconst (-1), i0), (.if_icmp .eq 9, (71, 0, 0, [])), (.aload_n 0, i0), (.iconst 3, i0), (.invokevirtual 170, (217, 2, 10, [])), (.ireturn, (1, 0, 0, []))]),
  (71, [(.aload_n 0, i0), (.getfield 13, (10, 1, 2, [])), (.bipush 24, i0), (.iload_n 1, i0), (.iadd, i0), (.aload_n 0, i0), (.invokevirtual 177, (223, 1, 10, [])), (.lastore, i0), (.aload_n 0, i0), (.invokevirtual 164, (214, 1, 10, [])), (.aload_n 0, i0), (.ldc 181, (1, 900002, 0, [])), (.bipush 9, i0), (.invokevirtual 197, (220, 3, 10, [])), (.ifCond .eq 30, (126, 0, 0, [])), (.aload_n 0, i0), (.iload_n 2, i0), (.iconst 1, i0), (.bipush 40, i0), (.invokevirtual 186, (221, 4, 10, [])), (.ifCond .eq 19, (126, 0, 0, [])), (.aload_n 0, i0), (.bipush 10, i0), (.iload_n 2, i0), (.iconst 1, i0), (.iadd, i0), (.iconst 0, i0), (.bipush 9, i0), (.iconst 1, i0), (.invokevirtual 201, (231, 6, 10, [])), (.ifCond .ne 5, (128, 0, 0, [])), (.nop, (126, 0, 0, []))]),
  (126, [(.iconst 0, i0), (.ireturn, (1, 0, 0, []))]),
  (128, [(.aload_n 0, i0), (.bipush 11, i0), (.iload_n 2, i0), (.iconst 2, i0), (.iadd, i0), (.iconst 0, i0), (.bipush 9, i0), (.iconst 0, i0), (.invokevirtual 201, (231, 6, 10, [])), (.ifCond .eq 25, (166, 0, 0, [])), (.aload_n 0, i0), (.bipush 12, i0), (.iload_n 2, i0), (.iconst 3, i0), (.iadd, i0), (.iconst 0, i0), (.aload_n 0, i0), (.getfield 7, (10, 0, 2, [])), (.sipush 1832, i0), (.iaload, (100, 0, 0, [])), (.iconst 0, i0), (.invokevirtual 201, (231, 6, 10, [])), (.ifCond .ne 5, (168, 0, 0, [])), (.nop, (166, 0, 0, []))]),
  (166, [(.iconst 0, i0), (.ireturn, (1, 0, 0, []))]),
  (168, [(.aload_n 0, i0), (.getfield 7, (10, 0, 2, [])), (.sipush 1833, i0), (.dup2, i0), (.iaload, (100, 0, 0, [])), (.iconst 1, i0), (.iadd, i0), (.iastore, i0), (.iconst 1, i0), (.ireturn, (1, 0, 0, []))])]
def KX10_aPlant : List (Nat × List OpI) := [(0, [(.aload_n 0, i0), (.iconst 2, i0), (.bipush 8, i0), (.invokevirtual 190, (232, 3, 10, [])), (.ifCond .eq 10, (17, 0, 0, [])), (.aload_n 0, i0), (.bipush 6, i0), (.invokevirtual 170, (217, 2, 10, [])), (.ireturn, (1, 0, 0, []))]),
  (17, [(.sipush 1832, i0), (.aload_n 0, i0), (.getfield 7, (10, 0, 2, [])), (.sipush 1834, i0), (.iaload, (100, 0, 0, [])), (.invokestatic 215, (229, 1, 0, [])), (.iadd, i0), (.istore_n 1, i0), (.aload_n 0, i0), (.invokevirtual 164, (214, 1, 10, [])), (.aload_n 0, i0), (.iload_n 1, i0), (.iconst 1, i0), (.bipush 30, i0), (.invokevirtual 186, (221, 4, 10, [])), (.ifCond .eq 27, (72, 0, 0, [])), (.aload_n 0, i0), (.ldc 181, (1, 900002, 0, [])), (.bipush 13, i0), (.invokevirtual 197, (220, 3, 10, [])), (.ifCond .eq 16, (72, 0, 0, [])), (.aload_n 0, i0), (.iload_n 1, i0), (.iconst 1, i0), (.iadd, i0), (.iconst 0, i0), (.bipush 99, i0), (.invokevirtual 186, (221, 4, 10, [])), (.ifCond .ne 5, (74, 0, 0, [])), (.nop, (72, 0, 0, []))]),
  (72, [(.iconst 0, i0), (.ireturn, (1, 0, 0, []))]),
  (74, [(.aload_n 0, i0), (.getfield 7, (10, 0, 2, [])), (.sipush 1834, i0), (.dup2, i0), (.iaload, (100, 0, 0, [])), (.iconst 1, i0), (.iadd, i0), (.iastore, i0), (.iconst 1, i0), (.ireturn, (1, 0, 0, []))])]
def KX10_viaductPart : List (Nat × List OpI) := [(0, [(.aload_n 0, i0), (.ldc 181, (1, 900002, 0, [])), (.invokevirtual 173, (216, 2, 10, [])), (.istore_n 1, i0), (.iload_n 1, i0), (.ifCond .lt 8, (16, 0, 0, [])), (.iload_n 1, i0), (.iconst 5, i0), (.if_icmp .le 9, (22, 0, 0, [])), (.nop, (16, 0, 0, []))]),
  (16, [(.aload_n 0, i0), (.iconst 2, i0), (.invokevirtual 170, (217, 2, 10, [])), (.ireturn, (1, 0, 0, []))]),
  (22, [(.iload_n 1, i0), (.iconst 2, i0), (.if_icmp .gt 21, (45, 0, 0, [])), (.aload_n 0, i0), (.getfield 218, (10, 20, 0, [])), (.iload_n 1, i0), (.ishr, i0), (.iconst 1, i0), (.iand, i0), (.iconst 1, i0), (.if_icmp .ne 9, (45, 0, 0, [])), (.aload_n 0, i0), (.iconst 5, i0), (.invokevirtual 170, (217, 2, 10, [])), (.ireturn, (1, 0, 0, []))]),
  (45, [(.aload_n 0, i0), (.dup, i0), (.getfield 218, (10, 20, 0, [])), (.iconst 1, i0), (.iload_n 1, i0), (.ishl, i0), (.ior, i0), (.putfield 218, (10, 20, 0, [])), (.iload_n 1, i0), (.iconst 2, i0), (.if_icmp .gt 7, (66, 0, 0, [])), (.aload_n 0, i0), (.invokevirtual 164, (214, 1, 10, [])), (.nop, (66, 0, 0, []))]),
  (66, [(.iload_n 1, i0), (.tableswitch 90 0 4 #[33, 47, 60, 74, 82], (157, 33, 0, [(0, 100), (1, 114), (2, 127), (3, 141), (4, 149)]))]),
  (100, [(.aload_n 0, i0), (.sipush 1835, i0), (.iconst 0, i0), (.bipush 9, i0), (.invokevirtual 186, (221, 4, 10, [])), (.istore_n 2, i0), (.goto 51, (162, 0, 0, []))]),
  (114, [(.aload_n 0, i0), (.sipush 1836, i0), (.iconst 0, i0), (.iconst 5, i0), (.invokevirtual 186, (221, 4, 10, [])), (.istore_n 2, i0), (.goto 38, (162, 0, 0, []))]),
  (127, [(.aload_n 0, i0), (.sipush 1837, i0), (.iconst 0, i0), (.bipush 16, i0), (.invokevirtual 186, (221, 4, 10, [])), (.istore_n 2, i0), (.goto 24, (162, 0, 0, []))]),
  (141, [(.aload_n 0, i0), (.invokevirtual 221, (233, 1, 10, [])), (.istore_n 2, i0), (.goto 16, (162, 0, 0, []))]),
  (149, [(.aload_n 0, i0), (.invokevirtual 225, (234, 1, 10, [])), (.istore_n 2, i0), (.goto 8, (162, 0, 0, []))]),
  (157, [(.aload_n 0, i0), (.invokevirtual 228, (235, 1, 10, [])), (.istore_n 2, i0), (.nop, (162, 0, 0, []))]),
  (162, [(.iload_n 2, i0), (.ifCond .eq 16, (179, 0, 0, [])), (.aload_n 0, i0), (.bipush 59, i0), (.invokevirtual 231, (219, 2, 10, [])), (.ifCond .eq 7, (179, 0, 0, [])), (.iconst 1, i0), (.goto 4, (180, 0, 0, []))]),
  (179, [(.iconst 0, i0), (.nop, (180, 0, 0, []))]),
  (180, [(.ireturn, (1, 0, 0, []))])]
def KX10_viaduct : List (Nat × List OpI) := [(0, [(.aload_n 0, i0), (.iload_n 1, i0), (.sipush 900, i0), (.invokevirtual 234, (218, 3, 10, [])), (.ifCond .ne 9, (17, 0, 0, [])), (.aload_n 0, i0), (.iconst 1, i0), (.invokevirtual 88, (197, 2, 10, [])), (.ireturn, (0, 0, 0, []))]),
  (17, [(.aload_n 0, i0), (.sipush 1832, i0), (.invokevirtual 78, (192, 2, 10, [])), (.aload_n 0, i0), (.iconst 0, i0), (.putfield 218, (10, 20, 0, [])), (.iconst 1, i0), (.istore_n 2, i0), (.nop, (31, 0, 0, []))]),
  (31, [(.iload_n 2, i0), (.ifCond .eq 18, (50, 0, 0, [])), (.aload_n 0, i0), (.getfield 133, (10, 12, 0, [])), (.ifCond .eq 11, (50, 0, 0, [])), (.aload_n 0, i0), (.invokevirtual 237, (236, 1, 10, [])), (.istore_n 2, i0), (.goto (-16), (31, 0, 0, []))]),
  (50, [(.aload_n 0, i0), (.getfield 158, (10, 18, 0, [])), (.ifCond .ne 63, (117, 0, 0, [])), (.iconst 0, i0), (.istore_n 3, i0), (.nop, (59, 0, 0, []))]),
  (59, [(.iload_n 3, i0), (.sipush 458, i0), (.if_icmp .ge 25, (88, 0, 0, [])), (.aload_n 0, i0), (.getfield 7, (10, 0, 2, [])), (.iload_n 3, i0), (.aload_n 0, i0), (.getfield 7, (10, 0, 2, [])), (.sipush 1832, i0), (.iload_n 3, i0), (.iadd, i0), (.iaload, (100, 0, 0, [])), (.iastore, i0), (.iinc 3 1, i0), (.goto (-26), (59, 0, 0, []))]),
  (88, [(.iconst 0, i0), (.istore_n 3, i0), (.nop, (90, 0, 0, []))]),
  (90, [(.iload_n 3, i0), (.bipush 6, i0), (.if_icmp .ge 24, (117, 0, 0, [])), (.aload_n 0, i0), (.getfield 13, (10, 1, 2, [])), (.iload_n 3, i0), (.aload_n 0, i0), (.getfield 13, (10, 1, 2, [])), (.bipush 24, i0), (.iload_n 3, i0), (.iadd, i0), (.laload, i0), (.lastore, i0), (.iinc 3 1, i0), (.goto (-24), (90, 0, 0, []))]),
  (117, [(.aload_n 0, i0), (.aload_n 0, i0), (.getfield 7, (10, 0, 2, [])), (.iconst 1, i0), (.iaload, (100, 0, 0, [])), (.invokevirtual 240, (226, 2, 10, [])), (.ireturn, (0, 0, 0, []))])]
def KX10_personTo : List (Nat × List OpI) := [(0, [(.aload_n 0, i0), (.ldc 181, (1, 900002, 0, [])), (.invokevirtual 208, (222, 2, 10, [])), (.ifCond .ne 9, (15, 0, 0, [])), (.aload_n 0, i0), (.iconst 2, i0), (.invokevirtual 170, (217, 2, 10, [])), (.ireturn, (1, 0, 0, []))]),
  (15, [(.aload_n 0, i0), (.getfield 7, (10, 0, 2, [])), (.iload_n 1, i0), (.aload_n 0, i0), (.iconst 0, i0), (.aload_n 0, i0), (.getfield 7, (10, 0, 2, [])), (.iconst 1, i0), (.iaload, (100, 0, 0, [])), (.invokevirtual 212, (224, 3, 10, [])), (.iastore, i0), (.aload_n 0, i0), (.getfield 7, (10, 0, 2, [])), (.iload_n 1, i0), (.iaload, (100, 0, 0, [])), (.iconst (-1), i0), (.if_icmp .ne 9, (48, 0, 0, [])), (.aload_n 0, i0), (.iconst 3, i0), (.invokevirtual 170, (217, 2, 10, [])), (.ireturn, (1, 0, 0, []))]),
  (48, [(.aload_n 0, i0), (.invokevirtual 164, (214, 1, 10, [])), (.iconst 1, i0), (.ireturn, (1, 0, 0, []))])]
def KX10_archTo : List (Nat × List OpI) := [(0, [(.aload_n 0, i0), (.iload_n 1, i0), (.iconst 0, i0), (.aload_n 0, i0), (.getfield 7, (10, 0, 2, [])), (.iconst 0, i0), (.iaload, (100, 0, 0, [])), (.iconst 1, i0), (.isub, i0), (.invokevirtual 186, (221, 4, 10, [])), (.ireturn, (1, 0, 0, []))])]
def KX10_test : List (Nat × List OpI) := [(0, [(.aload_n 0, i0), (.ldc 181, (1, 900002, 0, [])), (.invokevirtual 173, (216, 2, 10, [])), (.istore_n 2, i0), (.iload_n 2, i0), (.bipush 7, i0), (.if_icmp .eq 21, (31, 0, 0, [])), (.iload_n 2, i0), (.bipush 12, i0), (.if_icmp .eq 15, (31, 0, 0, [])), (.iload_n 2, i0), (.bipush 24, i0), (.if_icmp .eq 9, (31, 0, 0, [])), (.aload_n 0, i0), (.iconst 2, i0), (.invokevirtual 170, (217, 2, 10, [])), (.ireturn, (1, 0, 0, []))]),
  (31, [(.aload_n 0, i0), (.getfield 7, (10, 0, 2, [])), (.iload_n 1, i0), (.sipush 2000, i0), (.iload_n 2, i0), (.iadd, i0), (.iastore, i0), (.aload_n 0, i0), (.invokevirtual 164, (214, 1, 10, [])), (.iload_n 2, i0), (.bipush 24, i0), (.if_icmp .ne 11, (60, 0, 0, [])), (.aload_n 0, i0), (.iload_n 1, i0), (.iconst 1, i0), (.iadd, i0), (.invokevirtual 243, (238, 2, 10, [])), (.ireturn, (1, 0, 0, []))]),
  (60, [(.iload_n 2, i0), (.bipush 12, i0), (.if_icmp .ne 13, (76, 0, 0, [])), (.aload_n 0, i0), (.iload_n 1, i0), (.iconst 1, i0), (.iadd, i0), (.invokevirtual 243, (238, 2, 10, [])), (.goto 10, (83, 0, 0, []))]),
  (76, [(.aload_n 0, i0), (.iload_n 1, i0), (.iconst 1, i0), (.iadd, i0), (.invokevirtual 246, (239, 2, 10, [])), (.nop, (83, 0, 0, []))]),
  (83, [(.istore_n 3, i0), (.iload_n 3, i0), (.ifCond .ne 5, (90, 0, 0, [])), (.iconst 0, i0), (.ireturn, (1, 0, 0, []))]),
  (90, [(.aload_n 0, i0), (.bipush 60, i0), (.invokevirtual 167, (215, 2, 10, [])), (.ifCond .ne 27, (123, 0, 0, [])), (.aload_n 0, i0), (.bipush 62, i0), (.invokevirtual 167, (215, 2, 10, [])), (.ifCond .ne 18, (123, 0, 0, [])), (.aload_n 0, i0), (.bipush 61, i0), (.invokevirtual 167, (215, 2, 10, [])), (.ifCond .ne 9, (123, 0, 0, [])), (.aload_n 0, i0), (.iconst 2, i0), (.invokevirtual 170, (217, 2, 10, [])), (.ireturn, (1, 0, 0, []))]),
  (123, [(.aload_n 0, i0), (.getfield 7, (10, 0, 2, [])), (.iload_n 1, i0), (.iconst 5, i0), (.iadd, i0), (.aload_n 0, i0), (.getfield 130, (10, 15, 0, [])), (.iastore, i0), (.aload_n 0, i0), (.invokevirtual 164, (214, 1, 10, [])), (.aload_n 0, i0), (.iload_n 1, i0), (.iconst 2, i0), (.iadd, i0), (.iconst 0, i0), (.bipush 9, i0), (.invokevirtual 186, (221, 4, 10, [])), (.ireturn, (1, 0, 0, []))])]
def KX10_decadeOrder : List (Nat × List OpI) := [(0, [(.iload_n 1, i0), (.tableswitch 179 1 21 #[152, 179, 179, 179, 179, 179, 179, 179, 179, 179, 179, 179, 179, 99, 107, 133, 99, 141, 179, 173, 162], (180, 99, 1, [(1, 153), (2, 180), (3, 180), (4, 180), (5, 180), (6, 180), (7, 180), (8, 180), (9, 180), (10, 180), (11, 180), (12, 180), (13, 180), (14, 100), (15, 108), (16, 134), (17, 100), (18, 142), (19, 180), (20, 174), (21, 163)]))]),
  (100, [(.aload_n 0, i0), (.iload_n 2, i0), (.iconst 1, i0), (.iadd, i0), (.invokevirtual 243, (238, 2, 10, [])), (.ireturn, (1, 0, 0, []))]),
  (108, [(.aload_n 0, i0), (.iload_n 2, i0), (.iconst 1, i0), (.iadd, i0), (.invokevirtual 243, (238, 2, 10, [])), (.ifCond .eq 17, (132, 0, 0, [])), (.aload_n 0, i0), (.iload_n 2, i0), (.iconst 2, i0), (.iadd, i0), (.invokevirtual 243, (238, 2, 10, [])), (.ifCond .eq 7, (132, 0, 0, [])), (.iconst 1, i0), (.goto 4, (133, 0, 0, []))]),
  (132, [(.iconst 0, i0), (.nop, (133, 0, 0, []))]),
  (133, [(.ireturn, (1, 0, 0, []))]),
  (134, [(.aload_n 0, i0), (.iload_n 2, i0), (.iconst 1, i0), (.iadd, i0), (.invokevirtual 246, (239, 2, 10, [])), (.ireturn, (1, 0, 0, []))]),
  (142, [(.aload_n 0, i0), (.iload_n 2, i0), (.iconst 1, i0), (.iadd, i0), (.iconst 1, i0), (.bipush 40, i0), (.invokevirtual 186, (221, 4, 10, [])), (.ireturn, (1, 0, 0, []))]),
  (153, [(.aload_n 0, i0), (.iload_n 2, i0), (.iconst 1, i0), (.iadd, i0), (.iconst 0, i0), (.iconst 5, i0), (.invokevirtual 186, (221, 4, 10, [])), (.ireturn, (1, 0, 0, []))]),
  (163, [(.aload_n 0, i0), (.iload_n 2, i0), (.iconst 1, i0), (.iadd, i0), (.iconst 1, i0), (.bipush 99, i0), (.invokevirtual 186, (221, 4, 10, [])), (.ireturn, (1, 0, 0, []))]),
  (174, [(.aload_n 0, i0), (.iload_n 2, i0), (.invokevirtual 249, (240, 2, 10, [])), (.ireturn, (1, 0, 0, []))]),
  (180, [(.iconst 1, i0), (.ireturn, (1, 0, 0, []))])]
def KX10_decadeStep : List (Nat × List OpI) := [(0, [(.aload_n 0, i0), (.ldc 181, (1, 900002, 0, [])), (.invokevirtual 173, (216, 2, 10, [])), (.istore_n 1, i0), (.aload_n 0, i0), (.getfield 7, (10, 0, 2, [])), (.sipush 1839, i0), (.iaload, (100, 0, 0, [])), (.istore_n 2, i0), (.sipush 1922, i0), (.bipush 6, i0), (.iload_n 2, i0), (.imul, i0), (.iadd, i0), (.istore_n 3, i0), (.iload_n 1, i0), (.bipush 20, i0), (.if_icmp .eq 9, (37, 0, 0, [])), (.iload_n 1, i0), (.bipush 21, i0), (.if_icmp .ne 7, (41, 0, 0, [])), (.nop, (37, 0, 0, []))]),
  (37, [(.iconst 1, i0), (.goto 4, (42, 0, 0, []))]),
  (41, [(.iconst 0, i0), (.nop, (42, 0, 0, []))]),
  (42, [(.istore 4, i0), (.iload_n 1, i0), (.iconst 1, i0), (.if_icmp .eq 15, (61, 0, 0, [])), (.iload_n 1, i0), (.bipush 14, i0), (.if_icmp .lt 22, (74, 0, 0, [])), (.iload_n 1, i0), (.bipush 23, i0), (.if_icmp .gt 16, (74, 0, 0, [])), (.nop, (61, 0, 0, []))]),
  (61, [(.iload_n 1, i0), (.bipush 22, i0), (.if_icmp .ne 16, (80, 0, 0, [])), (.aload_n 0, i0), (.getfield 252, (10, 22, 0, [])), (.ifCond .ne 9, (80, 0, 0, [])), (.nop, (74, 0, 0, []))]),
  (74, [(.aload_n 0, i0), (.iconst 2, i0), (.invokevirtual 170, (217, 2, 10, [])), (.ireturn, (1, 0, 0, []))]),
  (80, [(.iload_n 1, i0), (.bipush 22, i0), (.if_icmp .eq 19, (102, 0, 0, [])), (.aload_n 0, i0), (.getfield 255, (10, 23, 0, [])), (.bipush 30, i0), (.if_icmp .ne 10, (102, 0, 0, [])), (.aload_n 0, i0), (.bipush 6, i0), (.invokevirtual 170, (217, 2, 10, [])), (.ireturn, (1, 0, 0, []))]),
  (102, [(.iload 4, i0), (.ifCond .eq 18, (122, 0, 0, [])), (.aload_n 0, i0), (.getfield 252, (10, 22, 0, [])), (.iconst 3, i0), (.if_icmp .ne 10, (122, 0, 0, [])), (.aload_n 0, i0), (.bipush 7, i0), (.invokevirtual 170, (217, 2, 10, [])), (.ireturn, (1, 0, 0, []))]),
  (122, [(.aload_n 0, i0), (.dup, i0), (.getfield 255, (10, 23, 0, [])), (.iload_n 1, i0), (.bipush 22, i0), (.if_icmp .ne 7, (137, 0, 0, [])), (.iconst 0, i0), (.goto 4, (138, 0, 0, []))]),
  (137, [(.iconst 1, i0), (.nop, (138, 0, 0, []))]),
  (138, [(.iadd, i0), (.putfield 255, (10, 23, 0, [])), (.aload_n 0, i0), (.getfield 7, (10, 0, 2, [])), (.iload_n 3, i0), (.iload_n 1, i0), (.iastore, i0), (.iconst 1, i0), (.istore 5, i0), (.nop, (152, 0, 0, []))]),
  (152, [(.iload 5, i0), (.bipush 6, i0), (.if_icmp .ge 19, (175, 0, 0, [])), (.aload_n 0, i0), (.getfield 7, (10, 0, 2, [])), (.iload_n 3, i0), (.iload 5, i0), (.iadd, i0), (.iconst 0, i0), (.iastore, i0), (.iinc 5 1, i0), (.goto (-20), (152, 0, 0, []))]),
  (175, [(.aload_n 0, i0), (.getfield 7, (10, 0, 2, [])), (.sipush 1839, i0), (.dup2, i0), (.iaload, (100, 0, 0, [])), (.iconst 1, i0), (.iadd, i0), (.iastore, i0), (.aload_n 0, i0), (.invokevirtual 164, (214, 1, 10, [])), (.aload_n 0, i0), (.iload_n 1, i0), (.iload_n 3, i0), (.invokevirtual 258, (241, 3, 10, [])), (.ifCond .ne 5, (202, 0, 0, [])), (.iconst 0, i0), (.ireturn, (1, 0, 0, []))]),
  (202, [(.iload 4, i0), (.ifCond .eq 23, (227, 0, 0, [])), (.aload_n 0, i0), (.getfield 44, (10, 21, 2, [])), (.aload_n 0, i0), (.getfield 252, (10, 22, 0, [])), (.iload_n 2, i0), (.iastore, i0), (.aload_n 0, i0), (.dup, i0), (.getfield 252, (10, 22, 0, [])), (.iconst 1, i0), (.iadd, i0), (.putfield 252, (10, 22, 0, [])), (.nop, (227, 0, 0, []))]),
  (227, [(.iload_n 1, i0), (.bipush 22, i0), (.if_icmp .ne 54, (284, 0, 0, [])), (.aload_n 0, i0), (.dup, i0), (.getfield 252, (10, 22, 0, [])), (.iconst 1, i0), (.isub, i0), (.putfield 252, (10, 22, 0, [])), (.aload_n 0, i0), (.getfield 7, (10, 0, 2, [])), (.iload_n 3, i0), (.iconst 4, i0), (.iadd, i0), (.aload_n 0, i0), (.getfield 44, (10, 21, 2, [])), (.aload_n 0, i0), (.getfield 252, (10, 22, 0, [])), (.iaload, (100, 0, 0, [])), (.iastore, i0), (.aload_n 0, i0), (.getfield 7, (10, 0, 2, [])), (.sipush 1922, i0), (.bipush 6, i0), (.aload_n 0, i0), (.getfield 44, (10, 21, 2, [])), (.aload_n 0, i0), (.getfield 252, (10, 22, 0, [])), (.iaload, (100, 0, 0, [])), (.imul, i0), (.iadd, i0), (.iconst 4, i0), (.iadd, i0), (.iload_n 2, i0), (.iastore, i0), (.nop, (284, 0, 0, []))]),
  (284, [(.aload_n 0, i0), (.bipush 59, i0), (.invokevirtual 231, (219, 2, 10, [])), (.ireturn, (1, 0, 0, []))])]
def KX10_decades : List (Nat × List OpI) := [(0, [(.aload_n 0, i0), (.iload_n 1, i0), (.sipush 300, i0), (.invokevirtual 234, (218, 3, 10, [])), (.ifCond .ne 9, (17, 0, 0, [])), (.aload_n 0, i0), (.iconst 1, i0), (.invokevirtual 88, (197, 2, 10, [])), (.ireturn, (0, 0, 0, []))]),
  (17, [(.aload_n 0, i0), (.getfield 7, (10, 0, 2, [])), (.sipush 1839, i0), (.iconst 0, i0), (.iastore, i0), (.aload_n 0, i0), (.iconst 0, i0), (.putfield 252, (10, 22, 0, [])), (.aload_n 0, i0), (.iconst 0, i0), (.putfield 255, (10, 23, 0, [])), (.iconst 1, i0), (.istore_n 2, i0), (.nop, (38, 0, 0, []))]),
  (38, [(.iload_n 2, i0), (.ifCond .eq 18, (57, 0, 0, [])), (.aload_n 0, i0), (.getfield 133, (10, 12, 0, [])), (.ifCond .eq 11, (57, 0, 0, [])), (.aload_n 0, i0), (.invokevirtual 261, (242, 1, 10, [])), (.istore_n 2, i0), (.goto (-16), (38, 0, 0, []))]),
  (57, [(.aload_n 0, i0), (.getfield 158, (10, 18, 0, [])), (.ifCond .ne 16, (77, 0, 0, [])), (.aload_n 0, i0), (.getfield 252, (10, 22, 0, [])), (.ifCond .le 9, (77, 0, 0, [])), (.aload_n 0, i0), (.iconst 2, i0), (.invokevirtual 170, (217, 2, 10, [])), (.pop, i0), (.nop, (77, 0, 0, []))]),
  (77, [(.aload_n 0, i0), (.getfield 158, (10, 18, 0, [])), (.ifCond .ne 50, (131, 0, 0, [])), (.aload_n 0, i0), (.getfield 7, (10, 0, 2, [])), (.bipush 7, i0), (.aload_n 0, i0), (.getfield 7, (10, 0, 2, [])), (.sipush 1839, i0), (.iaload, (100, 0, 0, [])), (.iastore, i0), (.bipush 90, i0), (.istore_n 3, i0), (.nop, (102, 0, 0, []))]),
  (102, [(.iload_n 3, i0), (.sipush 450, i0), (.if_icmp .ge 25, (131, 0, 0, [])), (.aload_n 0, i0), (.getfield 7, (10, 0, 2, [])), (.iload_n 3, i0), (.aload_n 0, i0), (.getfield 7, (10, 0, 2, [])), (.sipush 1832, i0), (.iload_n 3, i0), (.iadd, i0), (.iaload, (100, 0, 0, [])), (.iastore, i0), (.iinc 3 1, i0), (.goto (-26), (102, 0, 0, []))]),
  (131, [(.aload_n 0, i0), (.aload_n 0, i0), (.getfield 255, (10, 23, 0, [])), (.invokevirtual 240, (226, 2, 10, [])), (.ireturn, (0, 0, 0, []))])]
def KX10_isArch : List (Nat × List OpI) := [(0, [(.iload_n 1, i0), (.ifCond .lt 17, (18, 0, 0, [])), (.iload_n 1, i0), (.aload_n 0, i0), (.getfield 7, (10, 0, 2, [])), (.iconst 0, i0), (.iaload, (100, 0, 0, [])), (.if_icmp .ge 7, (18, 0, 0, [])), (.iconst 1, i0), (.goto 4, (19, 0, 0, []))]),
  (18, [(.iconst 0, i0), (.nop, (19, 0, 0, []))]),
  (19, [(.ireturn, (1, 0, 0, []))])]
def KX10_isPerson : List (Nat × List OpI) := [(0, [(.iload_n 1, i0), (.ifCond .lt 17, (18, 0, 0, [])), (.iload_n 1, i0), (.aload_n 0, i0), (.getfield 7, (10, 0, 2, [])), (.iconst 1, i0), (.iaload, (100, 0, 0, [])), (.if_icmp .ge 7, (18, 0, 0, [])), (.iconst 1, i0), (.goto 4, (19, 0, 0, []))]),
  (18, [(.iconst 0, i0), (.nop, (19, 0, 0, []))]),
  (19, [(.ireturn, (1, 0, 0, []))])]
def KX10_arePeople : List (Nat × List OpI) := [(0, [(.lload_n 1, i0), (.lconst 0, i0), (.lconst 1, i0), (.aload_n 0, i0), (.getfield 7, (10, 0, 2, [])), (.iconst 1, i0), (.iaload, (100, 0, 0, [])), (.lshl, i0), (.lconst 1, i0), (.lsub, i0), (.invokestatic 264, (208, 3, 0, [])), (.ireturn, (1, 0, 0, []))])]
def KX10_isIn : List (Nat × List OpI) := [(0, [(.iload_n 1, i0), (.iload_n 2, i0), (.ishr, i0), (.iconst 1, i0), (.iand, i0), (.iconst 1, i0), (.if_icmp .ne 7, (13, 0, 0, [])), (.iconst 1, i0), (.goto 4, (14, 0, 0, []))]),
  (13, [(.iconst 0, i0), (.nop, (14, 0, 0, []))]),
  (14, [(.ireturn, (1, 0, 0, []))])]
def KX10_bits : List (Nat × List OpI) := [(0, [(.iconst 0, i0), (.istore_n 1, i0), (.iload_n 0, i0), (.istore_n 2, i0), (.nop, (4, 0, 0, []))]),
  (4, [(.iload_n 2, i0), (.ifCond .eq 15, (20, 0, 0, [])), (.iinc 1 1, i0), (.iload_n 2, i0), (.iload_n 2, i0), (.iconst 1, i0), (.isub, i0), (.iand, i0), (.istore_n 2, i0), (.goto (-13), (4, 0, 0, []))]),
  (20, [(.iload_n 1, i0), (.ireturn, (0, 0, 0, []))])]
def KX10_firstOf : List (Nat × List OpI) := [(0, [(.iconst 0, i0), (.istore_n 1, i0), (.nop, (2, 0, 0, []))]),
  (2, [(.iload_n 0, i0), (.iload_n 1, i0), (.ishr, i0), (.iconst 1, i0), (.iand, i0), (.ifCond .ne 9, (16, 0, 0, [])), (.iinc 1 1, i0), (.goto (-11), (2, 0, 0, []))]),
  (16, [(.iload_n 1, i0), (.ireturn, (0, 0, 0, []))])]
def KX10_archOf : List (Nat × List OpI) := [(0, [(.aload_n 0, i0), (.getfield 7, (10, 0, 2, [])), (.iload_n 1, i0), (.invokestatic 194, (227, 1, 0, [])), (.iload_n 2, i0), (.iadd, i0), (.iaload, (100, 0, 0, [])), (.ireturn, (0, 0, 0, []))])]
def KX10_personOf : List (Nat × List OpI) := [(0, [(.aload_n 0, i0), (.getfield 7, (10, 0, 2, [])), (.iload_n 1, i0), (.invokestatic 205, (228, 1, 0, [])), (.iload_n 2, i0), (.iadd, i0), (.iaload, (100, 0, 0, [])), (.ireturn, (0, 0, 0, []))])]
def KX10_dimOf : List (Nat × List OpI) := [(0, [(.aload_n 0, i0), (.iload_n 1, i0), (.iconst 1, i0), (.invokevirtual 268, (250, 3, 10, [])), (.aload_n 0, i0), (.getfield 7, (10, 0, 2, [])), (.iconst 4, i0), (.iaload, (100, 0, 0, [])), (.iadd, i0), (.ireturn, (0, 0, 0, []))])]
def KX10_strainBy : List (Nat × List OpI) := [(0, [(.aload_n 0, i0), (.iload_n 1, i0), (.iconst 0, i0), (.invokevirtual 271, (251, 3, 10, [])), (.aload_n 0, i0), (.iload_n 1, i0), (.iconst 2, i0), (.invokevirtual 271, (251, 3, 10, [])), (.isub, i0), (.aload_n 0, i0), (.iload_n 1, i0), (.iconst 1, i0), (.invokevirtual 271, (251, 3, 10, [])), (.aload_n 0, i0), (.iload_n 2, i0), (.invokevirtual 274, (252, 2, 10, [])), (.imul, i0), (.iadd, i0), (.ireturn, (0, 0, 0, []))])]
def KX10_strainBoth : List (Nat × List OpI) := [(0, [(.aload_n 0, i0), (.iload_n 1, i0), (.iconst 0, i0), (.invokevirtual 271, (251, 3, 10, [])), (.aload_n 0, i0), (.iload_n 2, i0), (.iconst 0, i0), (.invokevirtual 271, (251, 3, 10, [])), (.invokestatic 277, (1000, 2, 0, [])), (.istore 4, i0), (.aload_n 0, i0), (.iload_n 1, i0), (.iconst 0, i0), (.invokevirtual 271, (251, 3, 10, [])), (.aload_n 0, i0), (.iload_n 2, i0), (.iconst 0, i0), (.invokevirtual 271, (251, 3, 10, [])), (.invokestatic 143, (1001, 2, 0, [])), (.istore 5, i0), (.aload_n 0, i0), (.iload_n 1, i0), (.iconst 1, i0), (.invokevirtual 271, (251, 3, 10, [])), (.aload_n 0, i0), (.iload_n 2, i0), (.iconst 1, i0), (.invokevirtual 271, (251, 3, 10, [])), (.invokestatic 143, (1001, 2, 0, [])), (.istore 6, i0), (.iload 4, i0), (.iload 5, i0), (.iconst 2, i0), (.idiv, i0), (.iadd, i0), (.aload_n 0, i0), (.iload_n 1, i0), (.iconst 2, i0), (.invokevirtual 271, (251, 3, 10, [])), (.isub, i0), (.aload_n 0, i0), (.iload_n 2, i0), (.iconst 2, i0), (.invokevirtual 271, (251, 3, 10, [])), (.isub, i0), (.iload 6, i0), (.aload_n 0, i0), (.iload_n 3, i0), (.invokevirtual 274, (252, 2, 10, [])), (.imul, i0), (.iadd, i0), (.ireturn, (0, 0, 0, []))])]
def KX10_bears : List (Nat × List OpI) := [(0, [(.iload_n 2, i0), (.iload_n 3, i0), (.if_icmp .ne 12, (14, 0, 0, [])), (.aload_n 0, i0), (.iload_n 2, i0), (.iload_n 1, i0), (.invokevirtual 280, (253, 3, 10, [])), (.goto 10, (21, 0, 0, []))]),
  (14, [(.aload_n 0, i0), (.iload_n 2, i0), (.iload_n 3, i0), (.iload_n 1, i0), (.invokevirtual 283, (254, 4, 10, [])), (.nop, (21, 0, 0, []))]),
  (21, [(.aload_n 0, i0), (.iload_n 1, i0), (.iconst 0, i0), (.invokevirtual 268, (250, 3, 10, [])), (.if_icmp .gt 7, (34, 0, 0, [])), (.iconst 1, i0), (.goto 4, (35, 0, 0, []))]),
  (34, [(.iconst 0, i0), (.nop, (35, 0, 0, []))]),
  (35, [(.ireturn, (1, 0, 0, []))])]
def KX10_isOver : List (Nat × List OpI) := [(0, [(.aload_n 0, i0), (.iload_n 1, i0), (.iconst 3, i0), (.invokevirtual 271, (251, 3, 10, [])), (.aload_n 0, i0), (.getfield 7, (10, 0, 2, [])), (.iconst 0, i0), (.iaload, (100, 0, 0, [])), (.if_icmp .ne 7, (19, 0, 0, [])), (.iconst 1, i0), (.goto 4, (20, 0, 0, []))]),
  (19, [(.iconst 0, i0), (.nop, (20, 0, 0, []))]),
  (20, [(.ireturn, (1, 0, 0, []))])]
def KX10_areOver : List (Nat × List OpI) := [(0, [(.iconst 0, i0), (.istore_n 1, i0), (.iconst 0, i0), (.istore_n 2, i0), (.nop, (4, 0, 0, []))]),
  (4, [(.iload_n 2, i0), (.aload_n 0, i0), (.getfield 7, (10, 0, 2, [])), (.iconst 1, i0), (.iaload, (100, 0, 0, [])), (.if_icmp .ge 27, (38, 0, 0, [])), (.iload_n 1, i0), (.aload_n 0, i0), (.iload_n 2, i0), (.invokevirtual 287, (256, 2, 10, [])), (.ifCond .eq 9, (29, 0, 0, [])), (.iconst 1, i0), (.iload_n 2, i0), (.ishl, i0), (.goto 4, (30, 0, 0, []))]),
  (29, [(.iconst 0, i0), (.nop, (30, 0, 0, []))]),
  (30, [(.ior, i0), (.istore_n 1, i0), (.iinc 2 1, i0), (.goto (-31), (4, 0, 0, []))]),
  (38, [(.iload_n 1, i0), (.ireturn, (0, 0, 0, []))])]
def KX10_borneBy : List (Nat × List OpI) := [(0, [(.iconst 0, i0), (.istore_n 2, i0), (.iconst 0, i0), (.istore_n 3, i0), (.nop, (4, 0, 0, []))]),
  (4, [(.iload_n 3, i0), (.aload_n 0, i0), (.getfield 7, (10, 0, 2, [])), (.iconst 1, i0), (.iaload, (100, 0, 0, [])), (.if_icmp .ge 29, (40, 0, 0, [])), (.iload_n 2, i0), (.aload_n 0, i0), (.iload_n 1, i0), (.iload_n 3, i0), (.iload_n 3, i0), (.invokevirtual 290, (255, 4, 10, [])), (.ifCond .eq 9, (31, 0, 0, [])), (.iconst 1, i0), (.iload_n 3, i0), (.ishl, i0), (.goto 4, (32, 0, 0, []))]),
  (31, [(.iconst 0, i0), (.nop, (32, 0, 0, []))]),
  (32, [(.ior, i0), (.istore_n 2, i0), (.iinc 3 1, i0), (.goto (-33), (4, 0, 0, []))]),
  (40, [(.iload_n 2, i0), (.ireturn, (0, 0, 0, []))])]
def KX10_together : List (Nat × List OpI) := [(0, [(.iconst 0, i0), (.istore_n 2, i0), (.iconst 0, i0), (.istore_n 3, i0), (.nop, (4, 0, 0, []))]),
  (4, [(.iload_n 3, i0), (.aload_n 0, i0), (.getfield 7, (10, 0, 2, [])), (.iconst 1, i0), (.iaload, (100, 0, 0, [])), (.if_icmp .ge 18, (29, 0, 0, [])), (.iload_n 2, i0), (.aload_n 0, i0), (.iload_n 3, i0), (.iload_n 1, i0), (.invokevirtual 271, (251, 3, 10, [])), (.iadd, i0), (.istore_n 2, i0), (.iinc 3 1, i0), (.goto (-22), (4, 0, 0, []))]),
  (29, [(.iload_n 2, i0), (.ireturn, (0, 0, 0, []))])]
def KX10_told : List (Nat × List OpI) := [(0, [(.iload_n 1, i0), (.ifCond .lt 9, (10, 0, 0, [])), (.iload_n 1, i0), (.bipush 9, i0), (.if_icmp .le 9, (16, 0, 0, [])), (.nop, (10, 0, 0, []))]),
  (10, [(.aload_n 0, i0), (.iconst 1, i0), (.invokevirtual 88, (197, 2, 10, [])), (.ireturn, (0, 0, 0, []))]),
  (16, [(.iload_n 1, i0), (.tableswitch 58 7 9 #[27, 36, 48], (75, 27, 7, [(7, 44), (8, 53), (9, 65)]))]),
  (44, [(.aload_n 0, i0), (.aload_n 0, i0), (.invokevirtual 293, (257, 1, 10, [])), (.invokevirtual 92, (198, 2, 10, [])), (.ireturn, (0, 0, 0, []))]),
  (53, [(.aload_n 0, i0), (.aload_n 0, i0), (.getfield 7, (10, 0, 2, [])), (.bipush 8, i0), (.iaload, (100, 0, 0, [])), (.invokevirtual 92, (198, 2, 10, [])), (.ireturn, (0, 0, 0, []))]),
  (65, [(.aload_n 0, i0), (.aload_n 0, i0), (.iconst 4, i0), (.invokevirtual 296, (259, 2, 10, [])), (.invokevirtual 92, (198, 2, 10, [])), (.ireturn, (0, 0, 0, []))]),
  (75, [(.aload_n 0, i0), (.aload_n 0, i0), (.getfield 7, (10, 0, 2, [])), (.iload_n 1, i0), (.iaload, (100, 0, 0, [])), (.invokevirtual 92, (198, 2, 10, [])), (.ireturn, (0, 0, 0, []))])]
def KX10_arch : List (Nat × List OpI) := [(0, [(.aload_n 0, i0), (.iload_n 1, i0), (.invokevirtual 299, (244, 2, 10, [])), (.ifCond .eq 12, (17, 0, 0, [])), (.iload_n 2, i0), (.ifCond .lt 8, (17, 0, 0, [])), (.iload_n 2, i0), (.iconst 3, i0), (.if_icmp .le 9, (23, 0, 0, [])), (.nop, (17, 0, 0, []))]),
  (17, [(.aload_n 0, i0), (.iconst 1, i0), (.invokevirtual 88, (197, 2, 10, [])), (.ireturn, (0, 0, 0, []))]),
  (23, [(.aload_n 0, i0), (.iload_n 2, i0), (.iconst 3, i0), (.if_icmp .ne 11, (37, 0, 0, [])), (.aload_n 0, i0), (.iload_n 1, i0), (.invokevirtual 302, (258, 2, 10, [])), (.goto 9, (43, 0, 0, []))]),
  (37, [(.aload_n 0, i0), (.iload_n 1, i0), (.iload_n 2, i0), (.invokevirtual 268, (250, 3, 10, [])), (.nop, (43, 0, 0, []))]),
  (43, [(.invokevirtual 92, (198, 2, 10, [])), (.ireturn, (0, 0, 0, []))])]
def KX10_person : List (Nat × List OpI) := [(0, [(.aload_n 0, i0), (.iload_n 1, i0), (.invokevirtual 305, (245, 2, 10, [])), (.ifCond .eq 12, (17, 0, 0, [])), (.iload_n 2, i0), (.ifCond .lt 8, (17, 0, 0, [])), (.iload_n 2, i0), (.iconst 5, i0), (.if_icmp .le 9, (23, 0, 0, [])), (.nop, (17, 0, 0, []))]),
  (17, [(.aload_n 0, i0), (.iconst 1, i0), (.invokevirtual 88, (197, 2, 10, [])), (.ireturn, (0, 0, 0, []))]),
  (23, [(.aload_n 0, i0), (.aload_n 0, i0), (.iload_n 1, i0), (.iload_n 2, i0), (.invokevirtual 271, (251, 3, 10, [])), (.invokevirtual 92, (198, 2, 10, [])), (.ireturn, (0, 0, 0, []))])]
def KX10_plant : List (Nat × List OpI) := [(0, [(.iload_n 1, i0), (.ifCond .lt 22, (23, 0, 0, [])), (.iload_n 1, i0), (.aload_n 0, i0), (.getfield 7, (10, 0, 2, [])), (.iconst 2, i0), (.iaload, (100, 0, 0, [])), (.if_icmp .ge 12, (23, 0, 0, [])), (.iload_n 2, i0), (.ifCond .lt 8, (23, 0, 0, [])), (.iload_n 2, i0), (.iconst 1, i0), (.if_icmp .le 9, (29, 0, 0, [])), (.nop, (23, 0, 0, []))]),
  (23, [(.aload_n 0, i0), (.iconst 1, i0), (.invokevirtual 88, (197, 2, 10, [])), (.ireturn, (0, 0, 0, []))]),
  (29, [(.aload_n 0, i0), (.aload_n 0, i0), (.getfield 7, (10, 0, 2, [])), (.iload_n 1, i0), (.invokestatic 215, (229, 1, 0, [])), (.iload_n 2, i0), (.iadd, i0), (.iaload, (100, 0, 0, [])), (.invokevirtual 92, (198, 2, 10, [])), (.ireturn, (0, 0, 0, []))])]
def KX10_goes : List (Nat × List OpI) := [(0, [(.aload_n 0, i0), (.getfield 7, (10, 0, 2, [])), (.bipush 8, i0), (.dup2, i0), (.iaload, (100, 0, 0, [])), (.iconst 1, i0), (.iload_n 2, i0), (.ishl, i0), (.ior, i0), (.iastore, i0), (.aload_n 0, i0), (.getfield 7, (10, 0, 2, [])), (.iload_n 1, i0), (.invokestatic 205, (228, 1, 0, [])), (.iconst 3, i0), (.iadd, i0), (.dup2, i0), (.iaload, (100, 0, 0, [])), (.iconst 1, i0), (.iadd, i0), (.iastore, i0), (.return_, i0)])]
def KX10_paysAt : List (Nat × List OpI) := [(0, [(.aload_n 0, i0), (.getfield 7, (10, 0, 2, [])), (.iload_n 1, i0), (.invokestatic 205, (228, 1, 0, [])), (.iconst 4, i0), (.iadd, i0), (.dup2, i0), (.iaload, (100, 0, 0, [])), (.aload_n 0, i0), (.iload_n 2, i0), (.iconst 2, i0), (.invokevirtual 268, (250, 3, 10, [])), (.iadd, i0), (.iastore, i0), (.return_, i0)])]
def KX10_mayFall : List (Nat × List OpI) := [(0, [(.aload_n 0, i0), (.iload_n 1, i0), (.invokevirtual 287, (256, 2, 10, [])), (.ifCond .ne 27, (32, 0, 0, [])), (.aload_n 0, i0), (.iload_n 1, i0), (.iconst 1, i0), (.invokevirtual 271, (251, 3, 10, [])), (.ifCond .eq 18, (32, 0, 0, [])), (.aload_n 0, i0), (.iload_n 1, i0), (.iconst 3, i0), (.invokevirtual 271, (251, 3, 10, [])), (.aload_n 0, i0), (.getfield 7, (10, 0, 2, [])), (.iconst 3, i0), (.iaload, (100, 0, 0, [])), (.if_icmp .gt 4, (33, 0, 0, [])), (.nop, (32, 0, 0, []))]),
  (32, [(.return_, i0)]),
  (33, [(.aload_n 0, i0), (.getfield 7, (10, 0, 2, [])), (.iload_n 1, i0), (.invokestatic 205, (228, 1, 0, [])), (.iconst 3, i0), (.iadd, i0), (.aload_n 0, i0), (.getfield 7, (10, 0, 2, [])), (.iconst 3, i0), (.iaload, (100, 0, 0, [])), (.iastore, i0), (.aload_n 0, i0), (.getfield 7, (10, 0, 2, [])), (.iload_n 1, i0), (.invokestatic 205, (228, 1, 0, [])), (.iconst 5, i0), (.iadd, i0), (.dup2, i0), (.iaload, (100, 0, 0, [])), (.iconst 1, i0), (.iadd, i0), (.iastore, i0), (.return_, i0)])]
def KX10_runs : List (Nat × List OpI) := [(0, [(.iconst 0, i0), (.istore_n 3, i0), (.nop, (2, 0, 0, []))]),
  (2, [(.aload_n 0, i0), (.iload_n 1, i0), (.invokevirtual 287, (256, 2, 10, [])), (.ifCond .ne 58, (65, 0, 0, [])), (.aload_n 0, i0), (.aload_n 0, i0), (.iload_n 1, i0), (.iconst 3, i0), (.invokevirtual 271, (251, 3, 10, [])), (.iload_n 1, i0), (.iload_n 2, i0), (.invokevirtual 290, (255, 4, 10, [])), (.ifCond .eq 43, (65, 0, 0, [])), (.aload_n 0, i0), (.iload_n 1, i0), (.iconst 3, i0), (.invokevirtual 271, (251, 3, 10, [])), (.istore 4, i0), (.aload_n 0, i0), (.iload_n 1, i0), (.iload 4, i0), (.invokevirtual 308, (265, 3, 10, [])), (.aload_n 0, i0), (.iload_n 1, i0), (.iload 4, i0), (.invokevirtual 312, (264, 3, 10, [])), (.iload_n 2, i0), (.iload_n 1, i0), (.if_icmp .eq 10, (59, 0, 0, [])), (.aload_n 0, i0), (.iload_n 2, i0), (.iload 4, i0), (.invokevirtual 312, (264, 3, 10, [])), (.nop, (59, 0, 0, []))]),
  (59, [(.iinc 3 1, i0), (.goto (-60), (2, 0, 0, []))]),
  (65, [(.aload_n 0, i0), (.iload_n 1, i0), (.invokevirtual 315, (266, 2, 10, [])), (.iload_n 2, i0), (.iload_n 1, i0), (.if_icmp .eq 8, (80, 0, 0, [])), (.aload_n 0, i0), (.iload_n 2, i0), (.invokevirtual 315, (266, 2, 10, [])), (.nop, (80, 0, 0, []))]),
  (80, [(.iload_n 3, i0), (.ireturn, (0, 0, 0, []))])]
def KX10_run : List (Nat × List OpI) := [(0, [(.aload_n 0, i0), (.iload_n 1, i0), (.invokevirtual 305, (245, 2, 10, [])), (.ifCond .ne 9, (14, 0, 0, [])), (.aload_n 0, i0), (.iconst 1, i0), (.invokevirtual 88, (197, 2, 10, [])), (.ireturn, (0, 0, 0, []))]),
  (14, [(.aload_n 0, i0), (.iload_n 1, i0), (.invokevirtual 287, (256, 2, 10, [])), (.ifCond .eq 10, (29, 0, 0, [])), (.aload_n 0, i0), (.bipush 7, i0), (.invokevirtual 88, (197, 2, 10, [])), (.ireturn, (0, 0, 0, []))]),
  (29, [(.aload_n 0, i0), (.iload_n 1, i0), (.iload_n 1, i0), (.invokevirtual 318, (267, 3, 10, [])), (.pop, i0), (.aload_n 0, i0), (.aload_n 0, i0), (.iload_n 1, i0), (.iconst 3, i0), (.invokevirtual 271, (251, 3, 10, [])), (.invokevirtual 92, (198, 2, 10, [])), (.ireturn, (0, 0, 0, []))])]
def KX10_canRope : List (Nat × List OpI) := [(0, [(.iload_n 1, i0), (.iload_n 2, i0), (.if_icmp .eq 30, (32, 0, 0, [])), (.aload_n 0, i0), (.iload_n 1, i0), (.iconst 3, i0), (.invokevirtual 271, (251, 3, 10, [])), (.aload_n 0, i0), (.iload_n 2, i0), (.iconst 3, i0), (.invokevirtual 271, (251, 3, 10, [])), (.if_icmp .ne 15, (32, 0, 0, [])), (.aload_n 0, i0), (.iload_n 1, i0), (.invokevirtual 287, (256, 2, 10, [])), (.ifCond .ne 7, (32, 0, 0, [])), (.iconst 1, i0), (.goto 4, (33, 0, 0, []))]),
  (32, [(.iconst 0, i0), (.nop, (33, 0, 0, []))]),
  (33, [(.ireturn, (1, 0, 0, []))])]
def KX10_rope : List (Nat × List OpI) := [(0, [(.aload_n 0, i0), (.iload_n 1, i0), (.invokevirtual 305, (245, 2, 10, [])), (.ifCond .eq 16, (21, 0, 0, [])), (.aload_n 0, i0), (.iload_n 2, i0), (.invokevirtual 305, (245, 2, 10, [])), (.ifCond .eq 8, (21, 0, 0, [])), (.iload_n 1, i0), (.iload_n 2, i0), (.if_icmp .ne 9, (27, 0, 0, [])), (.nop, (21, 0, 0, []))]),
  (21, [(.aload_n 0, i0), (.iconst 1, i0), (.invokevirtual 88, (197, 2, 10, [])), (.ireturn, (0, 0, 0, []))]),
  (27, [(.aload_n 0, i0), (.iload_n 1, i0), (.iload_n 2, i0), (.invokevirtual 321, (269, 3, 10, [])), (.ifCond .eq 16, (49, 0, 0, [])), (.aload_n 0, i0), (.aload_n 0, i0), (.iload_n 1, i0), (.iload_n 2, i0), (.invokevirtual 318, (267, 3, 10, [])), (.invokevirtual 92, (198, 2, 10, [])), (.goto 9, (55, 0, 0, []))]),
  (49, [(.aload_n 0, i0), (.bipush 7, i0), (.invokevirtual 88, (197, 2, 10, [])), (.nop, (55, 0, 0, []))]),
  (55, [(.ireturn, (0, 0, 0, []))])]
def KX10_jumps : List (Nat × List OpI) := [(0, [(.iload_n 1, i0), (.invokestatic 194, (227, 1, 0, [])), (.istore_n 2, i0), (.aload_n 0, i0), (.getfield 7, (10, 0, 2, [])), (.iload_n 2, i0), (.iaload, (100, 0, 0, [])), (.bipush 60, i0), (.if_icmp .ne 16, (29, 0, 0, [])), (.aload_n 0, i0), (.getfield 7, (10, 0, 2, [])), (.iload_n 2, i0), (.iconst 1, i0), (.iadd, i0), (.iaload, (100, 0, 0, [])), (.ifCond .ne 5, (29, 0, 0, [])), (.iconst 0, i0), (.ireturn, (1, 0, 0, []))]),
  (29, [(.aload_n 0, i0), (.getfield 7, (10, 0, 2, [])), (.iload_n 2, i0), (.bipush 60, i0), (.aload_n 0, i0), (.getfield 7, (10, 0, 2, [])), (.iload_n 2, i0), (.iaload, (100, 0, 0, [])), (.iconst 1, i0), (.iadd, i0), (.invokestatic 143, (1001, 2, 0, [])), (.iastore, i0), (.aload_n 0, i0), (.getfield 7, (10, 0, 2, [])), (.iload_n 2, i0), (.iconst 1, i0), (.iadd, i0), (.iconst 0, i0), (.aload_n 0, i0), (.getfield 7, (10, 0, 2, [])), (.iload_n 2, i0), (.iconst 1, i0), (.iadd, i0), (.iaload, (100, 0, 0, [])), (.iconst 1, i0), (.isub, i0), (.invokestatic 277, (1000, 2, 0, [])), (.iastore, i0), (.aload_n 0, i0), (.getfield 7, (10, 0, 2, [])), (.bipush 8, i0), (.dup2, i0), (.iaload, (100, 0, 0, [])), (.iconst 1, i0), (.iload_n 1, i0), (.ishl, i0), (.ior, i0), (.iastore, i0), (.iconst 1, i0), (.ireturn, (1, 0, 0, []))])]
def KX10_jump : List (Nat × List OpI) := [(0, [(.aload_n 0, i0), (.iload_n 1, i0), (.invokevirtual 299, (244, 2, 10, [])), (.ifCond .ne 9, (14, 0, 0, [])), (.aload_n 0, i0), (.iconst 1, i0), (.invokevirtual 88, (197, 2, 10, [])), (.ireturn, (0, 0, 0, []))]),
  (14, [(.aload_n 0, i0), (.iload_n 1, i0), (.invokevirtual 324, (271, 2, 10, [])), (.ifCond .eq 16, (35, 0, 0, [])), (.aload_n 0, i0), (.aload_n 0, i0), (.iload_n 1, i0), (.iconst 0, i0), (.invokevirtual 268, (250, 3, 10, [])), (.invokevirtual 92, (198, 2, 10, [])), (.goto 9, (41, 0, 0, []))]),
  (35, [(.aload_n 0, i0), (.bipush 7, i0), (.invokevirtual 88, (197, 2, 10, [])), (.nop, (41, 0, 0, []))]),
  (41, [(.ireturn, (0, 0, 0, []))])]
def KX10_homes : List (Nat × List OpI) := [(0, [(.aload_n 0, i0), (.iload_n 1, i0), (.iconst 3, i0), (.invokevirtual 271, (251, 3, 10, [])), (.ifCond .le 7, (13, 0, 0, [])), (.iconst 1, i0), (.goto 4, (14, 0, 0, []))]),
  (13, [(.iconst 0, i0), (.nop, (14, 0, 0, []))]),
  (14, [(.istore_n 2, i0), (.aload_n 0, i0), (.getfield 7, (10, 0, 2, [])), (.iload_n 1, i0), (.invokestatic 205, (228, 1, 0, [])), (.iconst 3, i0), (.iadd, i0), (.iconst 0, i0), (.iastore, i0), (.iload_n 2, i0), (.ireturn, (1, 0, 0, []))])]
def KX10_home : List (Nat × List OpI) := [(0, [(.aload_n 0, i0), (.iload_n 1, i0), (.invokevirtual 305, (245, 2, 10, [])), (.ifCond .ne 9, (14, 0, 0, [])), (.aload_n 0, i0), (.iconst 1, i0), (.invokevirtual 88, (197, 2, 10, [])), (.ireturn, (0, 0, 0, []))]),
  (14, [(.aload_n 0, i0), (.iload_n 1, i0), (.iconst 3, i0), (.invokevirtual 271, (251, 3, 10, [])), (.istore_n 2, i0), (.aload_n 0, i0), (.iload_n 1, i0), (.invokevirtual 327, (273, 2, 10, [])), (.ifCond .eq 11, (37, 0, 0, [])), (.aload_n 0, i0), (.iload_n 2, i0), (.invokevirtual 92, (198, 2, 10, [])), (.goto 9, (43, 0, 0, []))]),
  (37, [(.aload_n 0, i0), (.bipush 7, i0), (.invokevirtual 88, (197, 2, 10, [])), (.nop, (43, 0, 0, []))]),
  (43, [(.ireturn, (0, 0, 0, []))])]
def KX10_dayGoes : List (Nat × List OpI) := [(0, [(.iconst 0, i0), (.istore_n 1, i0), (.nop, (2, 0, 0, []))]),
  (2, [(.iload_n 1, i0), (.aload_n 0, i0), (.getfield 7, (10, 0, 2, [])), (.iconst 0, i0), (.iaload, (100, 0, 0, [])), (.if_icmp .ge 58, (67, 0, 0, [])), (.aload_n 0, i0), (.iload_n 1, i0), (.iconst 1, i0), (.invokevirtual 268, (250, 3, 10, [])), (.aload_n 0, i0), (.aload_n 0, i0), (.getfield 7, (10, 0, 2, [])), (.bipush 8, i0), (.iaload, (100, 0, 0, [])), (.iload_n 1, i0), (.invokevirtual 330, (247, 3, 10, [])), (.ifCond .eq 7, (37, 0, 0, [])), (.iconst (-1), i0), (.goto 4, (38, 0, 0, []))]),
  (37, [(.iconst 1, i0), (.nop, (38, 0, 0, []))]),
  (38, [(.iadd, i0), (.istore_n 2, i0), (.aload_n 0, i0), (.getfield 7, (10, 0, 2, [])), (.iload_n 1, i0), (.invokestatic 194, (227, 1, 0, [])), (.iconst 1, i0), (.iadd, i0), (.iconst 0, i0), (.bipush 9, i0), (.iload_n 2, i0), (.invokestatic 143, (1001, 2, 0, [])), (.invokestatic 277, (1000, 2, 0, [])), (.iastore, i0), (.iinc 1 1, i0), (.goto (-62), (2, 0, 0, []))]),
  (67, [(.aload_n 0, i0), (.getfield 7, (10, 0, 2, [])), (.bipush 8, i0), (.iconst 0, i0), (.iastore, i0), (.aload_n 0, i0), (.getfield 7, (10, 0, 2, [])), (.bipush 6, i0), (.dup2, i0), (.iaload, (100, 0, 0, [])), (.iconst 1, i0), (.iadd, i0), (.iastore, i0), (.return_, i0)])]
def KX10_daysGo : List (Nat × List OpI) := [(0, [(.iconst 0, i0), (.istore_n 2, i0), (.nop, (2, 0, 0, []))]),
  (2, [(.iload_n 2, i0), (.iload_n 1, i0), (.if_icmp .ge 13, (17, 0, 0, [])), (.aload_n 0, i0), (.invokevirtual 333, (275, 1, 10, [])), (.iinc 2 1, i0), (.goto (-12), (2, 0, 0, []))]),
  (17, [(.return_, i0)])]
def KX10_day : List (Nat × List OpI) := [(0, [(.iload_n 1, i0), (.i2l, i0), (.lconst 1, i0), (.ldc2_w 336, (0, 0, 99, [])), (.invokestatic 264, (208, 3, 0, [])), (.ifCond .ne 9, (18, 0, 0, [])), (.aload_n 0, i0), (.iconst 1, i0), (.invokevirtual 88, (197, 2, 10, [])), (.ireturn, (0, 0, 0, []))]),
  (18, [(.aload_n 0, i0), (.getfield 7, (10, 0, 2, [])), (.bipush 6, i0), (.iaload, (100, 0, 0, [])), (.iload_n 1, i0), (.iadd, i0), (.sipush 9999, i0), (.if_icmp .le 9, (39, 0, 0, [])), (.aload_n 0, i0), (.iconst 4, i0), (.invokevirtual 88, (197, 2, 10, [])), (.ireturn, (0, 0, 0, []))]),
  (39, [(.aload_n 0, i0), (.iload_n 1, i0), (.invokevirtual 338, (276, 2, 10, [])), (.iconst 0, i0), (.istore_n 2, i0), (.iconst 0, i0), (.istore_n 3, i0), (.nop, (48, 0, 0, []))]),
  (48, [(.iload_n 3, i0), (.aload_n 0, i0), (.getfield 7, (10, 0, 2, [])), (.iconst 0, i0), (.iaload, (100, 0, 0, [])), (.if_icmp .ge 18, (73, 0, 0, [])), (.iload_n 2, i0), (.aload_n 0, i0), (.iload_n 3, i0), (.iconst 1, i0), (.invokevirtual 268, (250, 3, 10, [])), (.iadd, i0), (.istore_n 2, i0), (.iinc 3 1, i0), (.goto (-22), (48, 0, 0, []))]),
  (73, [(.aload_n 0, i0), (.iload_n 2, i0), (.invokevirtual 92, (198, 2, 10, [])), (.ireturn, (0, 0, 0, []))])]
def KX10_teach : List (Nat × List OpI) := [(0, [(.aload_n 0, i0), (.iload_n 1, i0), (.invokevirtual 305, (245, 2, 10, [])), (.ifCond .eq 12, (17, 0, 0, [])), (.iload_n 2, i0), (.ifCond .lt 8, (17, 0, 0, [])), (.iload_n 2, i0), (.iconst 2, i0), (.if_icmp .le 9, (23, 0, 0, [])), (.nop, (17, 0, 0, []))]),
  (17, [(.aload_n 0, i0), (.iconst 1, i0), (.invokevirtual 95, (196, 2, 10, [])), (.ireturn, (1, 0, 0, []))]),
  (23, [(.iload_n 3, i0), (.i2l, i0), (.iload_n 2, i0), (.ifCond .ne 7, (33, 0, 0, [])), (.lconst 1, i0), (.goto 4, (34, 0, 0, []))]),
  (33, [(.lconst 0, i0), (.nop, (34, 0, 0, []))]),
  (34, [(.iload_n 2, i0), (.ifCond .ne 9, (44, 0, 0, [])), (.ldc2_w 341, (0, 0, 40, [])), (.goto 6, (47, 0, 0, []))]),
  (44, [(.ldc2_w 343, (0, 0, 9, [])), (.nop, (47, 0, 0, []))]),
  (47, [(.invokestatic 264, (208, 3, 0, [])), (.ifCond .ne 9, (59, 0, 0, [])), (.aload_n 0, i0), (.iconst 1, i0), (.invokevirtual 95, (196, 2, 10, [])), (.ireturn, (1, 0, 0, []))]),
  (59, [(.aload_n 0, i0), (.getfield 7, (10, 0, 2, [])), (.iload_n 1, i0), (.invokestatic 205, (228, 1, 0, [])), (.iload_n 2, i0), (.iadd, i0), (.iload_n 3, i0), (.iastore, i0), (.aload_n 0, i0), (.iconst 0, i0), (.invokevirtual 95, (196, 2, 10, [])), (.ireturn, (1, 0, 0, []))])]
def KX10_come : List (Nat × List OpI) := [(0, [(.iload_n 1, i0), (.i2l, i0), (.lconst 1, i0), (.ldc2_w 341, (0, 0, 40, [])), (.invokestatic 264, (208, 3, 0, [])), (.ifCond .ne 9, (18, 0, 0, [])), (.aload_n 0, i0), (.iconst 1, i0), (.invokevirtual 88, (197, 2, 10, [])), (.ireturn, (0, 0, 0, []))]),
  (18, [(.aload_n 0, i0), (.getfield 7, (10, 0, 2, [])), (.iconst 1, i0), (.iaload, (100, 0, 0, [])), (.istore_n 2, i0), (.iload_n 2, i0), (.bipush 6, i0), (.if_icmp .ne 9, (37, 0, 0, [])), (.aload_n 0, i0), (.iconst 4, i0), (.invokevirtual 88, (197, 2, 10, [])), (.ireturn, (0, 0, 0, []))]),
  (37, [(.aload_n 0, i0), (.getfield 7, (10, 0, 2, [])), (.iconst 1, i0), (.dup2, i0), (.iaload, (100, 0, 0, [])), (.iconst 1, i0), (.iadd, i0), (.iastore, i0), (.iconst 0, i0), (.istore_n 3, i0), (.nop, (49, 0, 0, []))]),
  (49, [(.iload_n 3, i0), (.bipush 6, i0), (.if_icmp .ge 21, (73, 0, 0, [])), (.aload_n 0, i0), (.getfield 7, (10, 0, 2, [])), (.iload_n 2, i0), (.invokestatic 205, (228, 1, 0, [])), (.iload_n 3, i0), (.iadd, i0), (.iconst 0, i0), (.iastore, i0), (.iinc 3 1, i0), (.goto (-21), (49, 0, 0, []))]),
  (73, [(.aload_n 0, i0), (.getfield 7, (10, 0, 2, [])), (.iload_n 2, i0), (.invokestatic 205, (228, 1, 0, [])), (.iload_n 1, i0), (.iastore, i0), (.aload_n 0, i0), (.getfield 7, (10, 0, 2, [])), (.iload_n 2, i0), (.invokestatic 205, (228, 1, 0, [])), (.iconst 1, i0), (.iadd, i0), (.iconst 1, i0), (.iastore, i0), (.aload_n 0, i0), (.getfield 13, (10, 1, 2, [])), (.iload_n 2, i0), (.lconst 0, i0), (.lastore, i0), (.aload_n 0, i0), (.iload_n 2, i0), (.invokevirtual 92, (198, 2, 10, [])), (.ireturn, (0, 0, 0, []))])]
def KX10_build : List (Nat × List OpI) := [(0, [(.iload_n 1, i0), (.i2l, i0), (.lconst 0, i0), (.ldc2_w 345, (0, 0, 60, [])), (.invokestatic 264, (208, 3, 0, [])), (.ifCond .eq 15, (24, 0, 0, [])), (.iload_n 2, i0), (.i2l, i0), (.lconst 0, i0), (.ldc2_w 343, (0, 0, 9, [])), (.invokestatic 264, (208, 3, 0, [])), (.ifCond .ne 9, (30, 0, 0, [])), (.nop, (24, 0, 0, []))]),
  (24, [(.aload_n 0, i0), (.iconst 1, i0), (.invokevirtual 88, (197, 2, 10, [])), (.ireturn, (0, 0, 0, []))]),
  (30, [(.aload_n 0, i0), (.getfield 7, (10, 0, 2, [])), (.iconst 0, i0), (.iaload, (100, 0, 0, [])), (.istore_n 3, i0), (.iload_n 3, i0), (.bipush 9, i0), (.if_icmp .ne 9, (49, 0, 0, [])), (.aload_n 0, i0), (.iconst 4, i0), (.invokevirtual 88, (197, 2, 10, [])), (.ireturn, (0, 0, 0, []))]),
  (49, [(.aload_n 0, i0), (.getfield 7, (10, 0, 2, [])), (.iconst 0, i0), (.dup2, i0), (.iaload, (100, 0, 0, [])), (.iconst 1, i0), (.iadd, i0), (.iastore, i0), (.aload_n 0, i0), (.getfield 7, (10, 0, 2, [])), (.iload_n 3, i0), (.invokestatic 194, (227, 1, 0, [])), (.iload_n 1, i0), (.iastore, i0), (.aload_n 0, i0), (.getfield 7, (10, 0, 2, [])), (.iload_n 3, i0), (.invokestatic 194, (227, 1, 0, [])), (.iconst 1, i0), (.iadd, i0), (.iconst 0, i0), (.iastore, i0), (.aload_n 0, i0), (.getfield 7, (10, 0, 2, [])), (.iload_n 3, i0), (.invokestatic 194, (227, 1, 0, [])), (.iconst 2, i0), (.iadd, i0), (.iload_n 2, i0), (.iastore, i0), (.aload_n 0, i0), (.iload_n 3, i0), (.invokevirtual 92, (198, 2, 10, [])), (.ireturn, (0, 0, 0, []))])]
def KX10_sow : List (Nat × List OpI) := [(0, [(.iload_n 1, i0), (.i2l, i0), (.lconst 1, i0), (.ldc2_w 347, (0, 0, 30, [])), (.invokestatic 264, (208, 3, 0, [])), (.ifCond .eq 15, (24, 0, 0, [])), (.iload_n 2, i0), (.i2l, i0), (.lconst 0, i0), (.ldc2_w 336, (0, 0, 99, [])), (.invokestatic 264, (208, 3, 0, [])), (.ifCond .ne 9, (30, 0, 0, [])), (.nop, (24, 0, 0, []))]),
  (24, [(.aload_n 0, i0), (.iconst 1, i0), (.invokevirtual 88, (197, 2, 10, [])), (.ireturn, (0, 0, 0, []))]),
  (30, [(.aload_n 0, i0), (.getfield 7, (10, 0, 2, [])), (.iconst 2, i0), (.iaload, (100, 0, 0, [])), (.istore_n 3, i0), (.iload_n 3, i0), (.bipush 8, i0), (.if_icmp .ne 9, (49, 0, 0, [])), (.aload_n 0, i0), (.iconst 4, i0), (.invokevirtual 88, (197, 2, 10, [])), (.ireturn, (0, 0, 0, []))]),
  (49, [(.aload_n 0, i0), (.getfield 7, (10, 0, 2, [])), (.iconst 2, i0), (.dup2, i0), (.iaload, (100, 0, 0, [])), (.iconst 1, i0), (.iadd, i0), (.iastore, i0), (.aload_n 0, i0), (.getfield 7, (10, 0, 2, [])), (.iload_n 3, i0), (.invokestatic 215, (229, 1, 0, [])), (.iload_n 1, i0), (.iastore, i0), (.aload_n 0, i0), (.getfield 7, (10, 0, 2, [])), (.iload_n 3, i0), (.invokestatic 215, (229, 1, 0, [])), (.iconst 1, i0), (.iadd, i0), (.iload_n 2, i0), (.iastore, i0), (.aload_n 0, i0), (.iload_n 3, i0), (.invokevirtual 92, (198, 2, 10, [])), (.ireturn, (0, 0, 0, []))])]
def KX10_rule : List (Nat × List OpI) := [(0, [(.iload_n 1, i0), (.iconst 3, i0), (.if_icmp .lt 42, (44, 0, 0, [])), (.iload_n 1, i0), (.iconst 5, i0), (.if_icmp .gt 37, (44, 0, 0, [])), (.iload_n 2, i0), (.i2l, i0), (.lconst 0, i0), (.iload_n 1, i0), (.iconst 3, i0), (.if_icmp .ne 9, (24, 0, 0, [])), (.ldc2_w 343, (0, 0, 9, [])), (.goto 17, (38, 0, 0, []))]),
  (24, [(.iload_n 1, i0), (.iconst 4, i0), (.if_icmp .ne 9, (35, 0, 0, [])), (.ldc2_w 349, (0, 0, 5, [])), (.goto 6, (38, 0, 0, []))]),
  (35, [(.ldc2_w 351, (0, 0, 16, [])), (.nop, (38, 0, 0, []))]),
  (38, [(.invokestatic 264, (208, 3, 0, [])), (.ifCond .ne 9, (50, 0, 0, [])), (.nop, (44, 0, 0, []))]),
  (44, [(.aload_n 0, i0), (.iconst 1, i0), (.invokevirtual 95, (196, 2, 10, [])), (.ireturn, (1, 0, 0, []))]),
  (50, [(.aload_n 0, i0), (.getfield 7, (10, 0, 2, [])), (.iload_n 1, i0), (.iload_n 2, i0), (.iastore, i0), (.aload_n 0, i0), (.iconst 0, i0), (.invokevirtual 95, (196, 2, 10, [])), (.ireturn, (1, 0, 0, []))])]
def KX10_levelAt : List (Nat × List OpI) := [(0, [(.sipush 2748, i0), (.bipush 90, i0), (.iload_n 0, i0), (.imul, i0), (.iadd, i0), (.ireturn, (0, 0, 0, []))])]
def KX10_keeps : List (Nat × List OpI) := [(0, [(.iconst 0, i0), (.istore_n 2, i0), (.nop, (2, 0, 0, []))]),
  (2, [(.iload_n 2, i0), (.bipush 90, i0), (.if_icmp .ge 23, (28, 0, 0, [])), (.aload_n 0, i0), (.getfield 7, (10, 0, 2, [])), (.iload_n 1, i0), (.iload_n 2, i0), (.iadd, i0), (.aload_n 0, i0), (.getfield 7, (10, 0, 2, [])), (.iload_n 2, i0), (.iaload, (100, 0, 0, [])), (.iastore, i0), (.iinc 2 1, i0), (.goto (-23), (2, 0, 0, []))]),
  (28, [(.return_, i0)])]
def KX10_restores : List (Nat × List OpI) := [(0, [(.iconst 0, i0), (.istore_n 2, i0), (.nop, (2, 0, 0, []))]),
  (2, [(.iload_n 2, i0), (.bipush 90, i0), (.if_icmp .ge 23, (28, 0, 0, [])), (.aload_n 0, i0), (.getfield 7, (10, 0, 2, [])), (.iload_n 2, i0), (.aload_n 0, i0), (.getfield 7, (10, 0, 2, [])), (.iload_n 1, i0), (.iload_n 2, i0), (.iadd, i0), (.iaload, (100, 0, 0, [])), (.iastore, i0), (.iinc 2 1, i0), (.goto (-23), (2, 0, 0, []))]),
  (28, [(.return_, i0)])]
def KX10_strain : List (Nat × List OpI) := [(0, [(.aload_n 0, i0), (.iload_n 1, i0), (.invokevirtual 305, (245, 2, 10, [])), (.ifCond .eq 24, (29, 0, 0, [])), (.aload_n 0, i0), (.iload_n 2, i0), (.invokevirtual 299, (244, 2, 10, [])), (.ifCond .eq 16, (29, 0, 0, [])), (.aload_n 0, i0), (.aload_n 0, i0), (.iload_n 1, i0), (.iload_n 2, i0), (.invokevirtual 280, (253, 3, 10, [])), (.invokevirtual 92, (198, 2, 10, [])), (.goto 8, (34, 0, 0, []))]),
  (29, [(.aload_n 0, i0), (.iconst 1, i0), (.invokevirtual 88, (197, 2, 10, [])), (.nop, (34, 0, 0, []))]),
  (34, [(.ireturn, (0, 0, 0, []))])]
def KX10_strainOf : List (Nat × List OpI) := [(0, [(.aload_n 0, i0), (.iload_n 1, i0), (.invokevirtual 305, (245, 2, 10, [])), (.ifCond .eq 24, (29, 0, 0, [])), (.aload_n 0, i0), (.iload_n 2, i0), (.invokevirtual 305, (245, 2, 10, [])), (.ifCond .eq 16, (29, 0, 0, [])), (.iload_n 1, i0), (.iload_n 2, i0), (.if_icmp .eq 11, (29, 0, 0, [])), (.aload_n 0, i0), (.iload_n 3, i0), (.invokevirtual 299, (244, 2, 10, [])), (.ifCond .ne 9, (35, 0, 0, [])), (.nop, (29, 0, 0, []))]),
  (29, [(.aload_n 0, i0), (.iconst 1, i0), (.invokevirtual 88, (197, 2, 10, [])), (.ireturn, (0, 0, 0, []))]),
  (35, [(.aload_n 0, i0), (.aload_n 0, i0), (.iload_n 1, i0), (.iload_n 2, i0), (.iload_n 3, i0), (.invokevirtual 283, (254, 4, 10, [])), (.invokevirtual 92, (198, 2, 10, [])), (.ireturn, (0, 0, 0, []))])]
def KX10_reachOf : List (Nat × List OpI) := [(0, [(.aload_n 0, i0), (.sipush 2290, i0), (.invokevirtual 353, (284, 2, 10, [])), (.aload_n 0, i0), (.iload_n 2, i0), (.invokevirtual 338, (276, 2, 10, [])), (.aload_n 0, i0), (.iload_n 1, i0), (.iload_n 1, i0), (.invokevirtual 318, (267, 3, 10, [])), (.pop, i0), (.aload_n 0, i0), (.iload_n 1, i0), (.iconst 3, i0), (.invokevirtual 271, (251, 3, 10, [])), (.istore_n 3, i0), (.aload_n 0, i0), (.sipush 2290, i0), (.invokevirtual 356, (285, 2, 10, [])), (.iload_n 3, i0), (.ireturn, (0, 0, 0, []))])]
def KX10_reach : List (Nat × List OpI) := [(0, [(.aload_n 0, i0), (.iload_n 1, i0), (.invokevirtual 305, (245, 2, 10, [])), (.ifCond .eq 16, (21, 0, 0, [])), (.aload_n 0, i0), (.aload_n 0, i0), (.iload_n 1, i0), (.iconst 0, i0), (.invokevirtual 359, (288, 3, 10, [])), (.invokevirtual 92, (198, 2, 10, [])), (.goto 8, (26, 0, 0, []))]),
  (21, [(.aload_n 0, i0), (.iconst 1, i0), (.invokevirtual 88, (197, 2, 10, [])), (.nop, (26, 0, 0, []))]),
  (26, [(.ireturn, (0, 0, 0, []))])]
def KX10_reachIn : List (Nat × List OpI) := [(0, [(.aload_n 0, i0), (.iload_n 1, i0), (.invokevirtual 305, (245, 2, 10, [])), (.ifCond .eq 28, (33, 0, 0, [])), (.iload_n 2, i0), (.i2l, i0), (.lconst 0, i0), (.ldc2_w 341, (0, 0, 40, [])), (.invokestatic 264, (208, 3, 0, [])), (.ifCond .eq 16, (33, 0, 0, [])), (.aload_n 0, i0), (.aload_n 0, i0), (.iload_n 1, i0), (.iload_n 2, i0), (.invokevirtual 359, (288, 3, 10, [])), (.invokevirtual 92, (198, 2, 10, [])), (.goto 8, (38, 0, 0, []))]),
  (33, [(.aload_n 0, i0), (.iconst 1, i0), (.invokevirtual 88, (197, 2, 10, [])), (.nop, (38, 0, 0, []))]),
  (38, [(.ireturn, (0, 0, 0, []))])]
def KX10_stopOf : List (Nat × List OpI) := [(0, [(.iload_n 3, i0), (.istore 4, i0), (.nop, (3, 0, 0, []))]),
  (3, [(.iload 4, i0), (.aload_n 0, i0), (.getfield 7, (10, 0, 2, [])), (.iconst 0, i0), (.iaload, (100, 0, 0, [])), (.if_icmp .ge 23, (34, 0, 0, [])), (.aload_n 0, i0), (.iload 4, i0), (.iload_n 1, i0), (.iload_n 2, i0), (.invokevirtual 290, (255, 4, 10, [])), (.ifCond .ne 6, (28, 0, 0, [])), (.iload 4, i0), (.ireturn, (0, 0, 0, []))]),
  (28, [(.iinc 4 1, i0), (.goto (-28), (3, 0, 0, []))]),
  (34, [(.iconst (-1), i0), (.ireturn, (0, 0, 0, []))])]
def KX10_stops : List (Nat × List OpI) := [(0, [(.aload_n 0, i0), (.iload_n 1, i0), (.invokevirtual 305, (245, 2, 10, [])), (.ifCond .eq 22, (27, 0, 0, [])), (.aload_n 0, i0), (.aload_n 0, i0), (.iload_n 1, i0), (.iload_n 1, i0), (.aload_n 0, i0), (.iload_n 1, i0), (.iconst 3, i0), (.invokevirtual 271, (251, 3, 10, [])), (.invokevirtual 362, (291, 4, 10, [])), (.invokevirtual 365, (199, 2, 10, [])), (.goto 8, (32, 0, 0, []))]),
  (27, [(.aload_n 0, i0), (.iconst 1, i0), (.invokevirtual 88, (197, 2, 10, [])), (.nop, (32, 0, 0, []))]),
  (32, [(.ireturn, (0, 0, 0, []))])]
def KX10_stopsBoth : List (Nat × List OpI) := [(0, [(.aload_n 0, i0), (.iload_n 1, i0), (.invokevirtual 305, (245, 2, 10, [])), (.ifCond .eq 16, (21, 0, 0, [])), (.aload_n 0, i0), (.iload_n 2, i0), (.invokevirtual 305, (245, 2, 10, [])), (.ifCond .eq 8, (21, 0, 0, [])), (.iload_n 1, i0), (.iload_n 2, i0), (.if_icmp .ne 9, (27, 0, 0, [])), (.nop, (21, 0, 0, []))]),
  (21, [(.aload_n 0, i0), (.iconst 1, i0), (.invokevirtual 88, (197, 2, 10, [])), (.ireturn, (0, 0, 0, []))]),
  (27, [(.aload_n 0, i0), (.aload_n 0, i0), (.iload_n 1, i0), (.iload_n 2, i0), (.iconst 0, i0), (.invokevirtual 362, (291, 4, 10, [])), (.invokevirtual 365, (199, 2, 10, [])), (.ireturn, (0, 0, 0, []))])]
def KX10_pays : List (Nat × List OpI) := [(0, [(.aload_n 0, i0), (.iload_n 1, i0), (.invokevirtual 305, (245, 2, 10, [])), (.ifCond .ne 9, (14, 0, 0, [])), (.aload_n 0, i0), (.iconst 1, i0), (.invokevirtual 88, (197, 2, 10, [])), (.ireturn, (0, 0, 0, []))]),
  (14, [(.iconst 0, i0), (.istore_n 2, i0), (.aload_n 0, i0), (.iload_n 1, i0), (.iconst 3, i0), (.invokevirtual 271, (251, 3, 10, [])), (.istore_n 3, i0), (.nop, (23, 0, 0, []))]),
  (23, [(.iload_n 3, i0), (.aload_n 0, i0), (.getfield 7, (10, 0, 2, [])), (.iconst 0, i0), (.iaload, (100, 0, 0, [])), (.if_icmp .ge 28, (58, 0, 0, [])), (.aload_n 0, i0), (.iload_n 3, i0), (.iload_n 1, i0), (.iload_n 1, i0), (.invokevirtual 290, (255, 4, 10, [])), (.ifCond .eq 18, (58, 0, 0, [])), (.iload_n 2, i0), (.aload_n 0, i0), (.iload_n 3, i0), (.iconst 2, i0), (.invokevirtual 268, (250, 3, 10, [])), (.iadd, i0), (.istore_n 2, i0), (.iinc 3 1, i0), (.goto (-32), (23, 0, 0, []))]),
  (58, [(.aload_n 0, i0), (.iload_n 2, i0), (.invokevirtual 92, (198, 2, 10, [])), (.ireturn, (0, 0, 0, []))])]
def KX10_spanOf : List (Nat × List OpI) := [(0, [(.iconst (-1), i0), (.istore_n 2, i0), (.aload_n 0, i0), (.iconst 0, i0), (.putfield 368, (10, 24, 0, [])), (.iconst 0, i0), (.istore_n 3, i0), (.nop, (9, 0, 0, []))]),
  (9, [(.iload_n 3, i0), (.aload_n 0, i0), (.getfield 7, (10, 0, 2, [])), (.iconst 0, i0), (.iaload, (100, 0, 0, [])), (.if_icmp .ge 59, (75, 0, 0, [])), (.aload_n 0, i0), (.iload_n 1, i0), (.iload_n 1, i0), (.iload_n 3, i0), (.invokevirtual 362, (291, 4, 10, [])), (.istore 4, i0), (.iload 4, i0), (.iconst (-1), i0), (.if_icmp .ne 12, (43, 0, 0, [])), (.aload_n 0, i0), (.getfield 7, (10, 0, 2, [])), (.iconst 0, i0), (.iaload, (100, 0, 0, [])), (.goto 5, (45, 0, 0, []))]),
  (43, [(.iload 4, i0), (.nop, (45, 0, 0, []))]),
  (45, [(.iload_n 3, i0), (.isub, i0), (.istore 5, i0), (.iload 5, i0), (.aload_n 0, i0), (.getfield 368, (10, 24, 0, [])), (.if_icmp .gt 6, (61, 0, 0, [])), (.goto 11, (69, 0, 0, []))]),
  (61, [(.aload_n 0, i0), (.iload 5, i0), (.putfield 368, (10, 24, 0, [])), (.iload_n 3, i0), (.istore_n 2, i0), (.nop, (69, 0, 0, []))]),
  (69, [(.iinc 3 1, i0), (.goto (-63), (9, 0, 0, []))]),
  (75, [(.iload_n 2, i0), (.ireturn, (0, 0, 0, []))])]
def KX10_span : List (Nat × List OpI) := [(0, [(.aload_n 0, i0), (.iload_n 1, i0), (.invokevirtual 305, (245, 2, 10, [])), (.ifCond .ne 9, (14, 0, 0, [])), (.aload_n 0, i0), (.iconst 1, i0), (.invokevirtual 88, (197, 2, 10, [])), (.ireturn, (0, 0, 0, []))]),
  (14, [(.aload_n 0, i0), (.iload_n 1, i0), (.invokevirtual 371, (295, 2, 10, [])), (.pop, i0), (.aload_n 0, i0), (.aload_n 0, i0), (.getfield 368, (10, 24, 0, [])), (.invokevirtual 92, (198, 2, 10, [])), (.ireturn, (0, 0, 0, []))])]
def KX10_spanFrom : List (Nat × List OpI) := [(0, [(.aload_n 0, i0), (.iload_n 1, i0), (.invokevirtual 305, (245, 2, 10, [])), (.ifCond .eq 15, (20, 0, 0, [])), (.aload_n 0, i0), (.aload_n 0, i0), (.iload_n 1, i0), (.invokevirtual 371, (295, 2, 10, [])), (.invokevirtual 365, (199, 2, 10, [])), (.goto 8, (25, 0, 0, []))]),
  (20, [(.aload_n 0, i0), (.iconst 1, i0), (.invokevirtual 88, (197, 2, 10, [])), (.nop, (25, 0, 0, []))]),
  (25, [(.ireturn, (0, 0, 0, []))])]
def KX10_weakest : List (Nat × List OpI) := [(0, [(.iconst (-1), i0), (.istore_n 1, i0), (.iconst 0, i0), (.istore_n 2, i0), (.nop, (4, 0, 0, []))]),
  (4, [(.iload_n 2, i0), (.aload_n 0, i0), (.getfield 7, (10, 0, 2, [])), (.iconst 0, i0), (.iaload, (100, 0, 0, [])), (.if_icmp .ge 35, (46, 0, 0, [])), (.iload_n 1, i0), (.iconst (-1), i0), (.if_icmp .eq 22, (38, 0, 0, [])), (.aload_n 0, i0), (.iload_n 2, i0), (.invokevirtual 302, (258, 2, 10, [])), (.invokestatic 374, (248, 1, 0, [])), (.aload_n 0, i0), (.iload_n 1, i0), (.invokevirtual 302, (258, 2, 10, [])), (.invokestatic 374, (248, 1, 0, [])), (.if_icmp .ge 5, (40, 0, 0, [])), (.nop, (38, 0, 0, []))]),
  (38, [(.iload_n 2, i0), (.istore_n 1, i0), (.nop, (40, 0, 0, []))]),
  (40, [(.iinc 2 1, i0), (.goto (-39), (4, 0, 0, []))]),
  (46, [(.aload_n 0, i0), (.iload_n 1, i0), (.invokevirtual 365, (199, 2, 10, [])), (.ireturn, (0, 0, 0, []))])]
def KX10_mossIn : List (Nat × List OpI) := [(0, [(.aload_n 0, i0), (.iload_n 1, i0), (.invokevirtual 299, (244, 2, 10, [])), (.ifCond .eq 15, (20, 0, 0, [])), (.iload_n 2, i0), (.i2l, i0), (.lconst 0, i0), (.ldc2_w 341, (0, 0, 40, [])), (.invokestatic 264, (208, 3, 0, [])), (.ifCond .ne 9, (26, 0, 0, [])), (.nop, (20, 0, 0, []))]),
  (20, [(.aload_n 0, i0), (.iconst 1, i0), (.invokevirtual 88, (197, 2, 10, [])), (.ireturn, (0, 0, 0, []))]),
  (26, [(.aload_n 0, i0), (.sipush 2290, i0), (.invokevirtual 353, (284, 2, 10, [])), (.aload_n 0, i0), (.iload_n 2, i0), (.invokevirtual 338, (276, 2, 10, [])), (.aload_n 0, i0), (.iload_n 1, i0), (.iconst 1, i0), (.invokevirtual 268, (250, 3, 10, [])), (.istore_n 3, i0), (.aload_n 0, i0), (.sipush 2290, i0), (.invokevirtual 356, (285, 2, 10, [])), (.aload_n 0, i0), (.iload_n 3, i0), (.invokevirtual 92, (198, 2, 10, [])), (.ireturn, (0, 0, 0, []))])]
def KX10_isWell : List (Nat × List OpI) := [(0, [(.aload_n 0, i0), (.iload_n 1, i0), (.iload_n 2, i0), (.iconst 0, i0), (.invokevirtual 362, (291, 4, 10, [])), (.iconst (-1), i0), (.if_icmp .ne 7, (15, 0, 0, [])), (.iconst 1, i0), (.goto 4, (16, 0, 0, []))]),
  (15, [(.iconst 0, i0), (.nop, (16, 0, 0, []))]),
  (16, [(.ireturn, (1, 0, 0, []))])]
def KX10_laysSet : List (Nat × List OpI) := [(0, [(.iload_n 1, i0), (.invokestatic 377, (249, 1, 0, [])), (.istore_n 2, i0), (.iload_n 1, i0), (.iconst 1, i0), (.iload_n 2, i0), (.ishl, i0), (.iconst (-1), i0), (.ixor, i0), (.iand, i0), (.istore_n 3, i0), (.aload_n 0, i0), (.getfield 47, (10, 25, 2, [])), (.iload_n 1, i0), (.aload_n 0, i0), (.getfield 47, (10, 25, 2, [])), (.iload_n 3, i0), (.iaload, (100, 0, 0, [])), (.iastore, i0), (.aload_n 0, i0), (.getfield 50, (10, 26, 2, [])), (.iload_n 1, i0), (.ldc_w 380, (0, 0, 1000000, [])), (.iastore, i0), (.iload_n 2, i0), (.istore 4, i0), (.nop, (37, 0, 0, []))]),
  (37, [(.iload 4, i0), (.aload_n 0, i0), (.getfield 7, (10, 0, 2, [])), (.iconst 1, i0), (.iaload, (100, 0, 0, [])), (.if_icmp .ge 100, (145, 0, 0, [])), (.aload_n 0, i0), (.iload_n 1, i0), (.iload 4, i0), (.invokevirtual 330, (247, 3, 10, [])), (.ifCond .eq 84, (139, 0, 0, [])), (.aload_n 0, i0), (.iload_n 2, i0), (.iload 4, i0), (.invokevirtual 381, (300, 3, 10, [])), (.ifCond .ne 6, (71, 0, 0, [])), (.goto 71, (139, 0, 0, []))]),
  (71, [(.iload_n 3, i0), (.iconst 1, i0), (.iload 4, i0), (.ishl, i0), (.iconst (-1), i0), (.ixor, i0), (.iand, i0), (.istore 5, i0), (.aload_n 0, i0), (.getfield 47, (10, 25, 2, [])), (.iload_n 1, i0), (.aload_n 0, i0), (.getfield 47, (10, 25, 2, [])), (.iload_n 1, i0), (.iaload, (100, 0, 0, [])), (.aload_n 0, i0), (.getfield 47, (10, 25, 2, [])), (.iload 5, i0), (.iaload, (100, 0, 0, [])), (.iload 4, i0), (.iload_n 2, i0), (.if_icmp .ne 7, (109, 0, 0, [])), (.iconst 1, i0), (.goto 4, (110, 0, 0, []))]),
  (109, [(.iconst 2, i0), (.nop, (110, 0, 0, []))]),
  (110, [(.iadd, i0), (.invokestatic 277, (1000, 2, 0, [])), (.iastore, i0), (.aload_n 0, i0), (.getfield 50, (10, 26, 2, [])), (.iload_n 1, i0), (.aload_n 0, i0), (.getfield 50, (10, 26, 2, [])), (.iload_n 1, i0), (.iaload, (100, 0, 0, [])), (.aload_n 0, i0), (.getfield 50, (10, 26, 2, [])), (.iload 5, i0), (.iaload, (100, 0, 0, [])), (.iconst 1, i0), (.iadd, i0), (.invokestatic 143, (1001, 2, 0, [])), (.iastore, i0), (.nop, (139, 0, 0, []))]),
  (139, [(.iinc 4 1, i0), (.goto (-105), (37, 0, 0, []))]),
  (145, [(.return_, i0)])]
def KX10_everybody : List (Nat × List OpI) := [(0, [(.iconst 1, i0), (.aload_n 0, i0), (.getfield 7, (10, 0, 2, [])), (.iconst 1, i0), (.iaload, (100, 0, 0, [])), (.ishl, i0), (.iconst 1, i0), (.isub, i0), (.ireturn, (0, 0, 0, []))])]
def KX10_laysGroups : List (Nat × List OpI) := [(0, [(.aload_n 0, i0), (.getfield 47, (10, 25, 2, [])), (.iconst 0, i0), (.iconst 0, i0), (.iastore, i0), (.aload_n 0, i0), (.getfield 50, (10, 26, 2, [])), (.iconst 0, i0), (.iconst 0, i0), (.iastore, i0), (.iconst 1, i0), (.istore_n 1, i0), (.nop, (16, 0, 0, []))]),
  (16, [(.iload_n 1, i0), (.aload_n 0, i0), (.invokevirtual 384, (302, 1, 10, [])), (.if_icmp .gt 14, (35, 0, 0, [])), (.aload_n 0, i0), (.iload_n 1, i0), (.invokevirtual 387, (301, 2, 10, [])), (.iinc 1 1, i0), (.goto (-16), (16, 0, 0, []))]),
  (35, [(.return_, i0)])]
def KX10_most : List (Nat × List OpI) := [(0, [(.aload_n 0, i0), (.invokevirtual 390, (303, 1, 10, [])), (.aload_n 0, i0), (.aload_n 0, i0), (.getfield 47, (10, 25, 2, [])), (.aload_n 0, i0), (.invokevirtual 384, (302, 1, 10, [])), (.iaload, (100, 0, 0, [])), (.invokevirtual 92, (198, 2, 10, [])), (.ireturn, (0, 0, 0, []))])]
def KX10_allTolls : List (Nat × List OpI) := [(0, [(.iconst 0, i0), (.istore_n 1, i0), (.iconst 0, i0), (.istore_n 2, i0), (.nop, (4, 0, 0, []))]),
  (4, [(.iload_n 2, i0), (.aload_n 0, i0), (.getfield 7, (10, 0, 2, [])), (.iconst 0, i0), (.iaload, (100, 0, 0, [])), (.if_icmp .ge 18, (29, 0, 0, [])), (.iload_n 1, i0), (.aload_n 0, i0), (.iload_n 2, i0), (.iconst 2, i0), (.invokevirtual 268, (250, 3, 10, [])), (.iadd, i0), (.istore_n 1, i0), (.iinc 2 1, i0), (.goto (-22), (4, 0, 0, []))]),
  (29, [(.iload_n 1, i0), (.ireturn, (0, 0, 0, []))])]
def KX10_cheapest : List (Nat × List OpI) := [(0, [(.aload_n 0, i0), (.iload_n 1, i0), (.i2l, i0), (.invokevirtual 393, (246, 2, 10, [])), (.ifCond .ne 9, (15, 0, 0, [])), (.aload_n 0, i0), (.iconst 1, i0), (.invokevirtual 88, (197, 2, 10, [])), (.ireturn, (0, 0, 0, []))]),
  (15, [(.aload_n 0, i0), (.invokevirtual 390, (303, 1, 10, [])), (.aload_n 0, i0), (.getfield 50, (10, 26, 2, [])), (.iload_n 1, i0), (.iaload, (100, 0, 0, [])), (.ldc_w 380, (0, 0, 1000000, [])), (.if_icmp .lt 12, (40, 0, 0, [])), (.aload_n 0, i0), (.bipush 6, i0), (.invokevirtual 88, (197, 2, 10, [])), (.goto 18, (55, 0, 0, []))]),
  (40, [(.aload_n 0, i0), (.aload_n 0, i0), (.invokevirtual 397, (305, 1, 10, [])), (.aload_n 0, i0), (.getfield 50, (10, 26, 2, [])), (.iload_n 1, i0), (.iaload, (100, 0, 0, [])), (.imul, i0), (.invokevirtual 92, (198, 2, 10, [])), (.nop, (55, 0, 0, []))]),
  (55, [(.ireturn, (0, 0, 0, []))])]
def KX10_mateOf : List (Nat × List OpI) := [(0, [(.iload_n 1, i0), (.invokestatic 377, (249, 1, 0, [])), (.istore_n 2, i0), (.iload_n 1, i0), (.iconst 1, i0), (.iload_n 2, i0), (.ishl, i0), (.iconst (-1), i0), (.ixor, i0), (.iand, i0), (.istore_n 3, i0), (.iload_n 2, i0), (.istore 4, i0), (.nop, (16, 0, 0, []))]),
  (16, [(.iload 4, i0), (.aload_n 0, i0), (.getfield 7, (10, 0, 2, [])), (.iconst 1, i0), (.iaload, (100, 0, 0, [])), (.if_icmp .ge 81, (105, 0, 0, [])), (.aload_n 0, i0), (.iload_n 1, i0), (.iload 4, i0), (.invokevirtual 330, (247, 3, 10, [])), (.ifCond .eq 65, (99, 0, 0, [])), (.aload_n 0, i0), (.iload_n 2, i0), (.iload 4, i0), (.invokevirtual 381, (300, 3, 10, [])), (.ifCond .ne 6, (50, 0, 0, [])), (.goto 52, (99, 0, 0, []))]),
  (50, [(.aload_n 0, i0), (.getfield 50, (10, 26, 2, [])), (.iload_n 3, i0), (.iconst 1, i0), (.iload 4, i0), (.ishl, i0), (.iconst (-1), i0), (.ixor, i0), (.iand, i0), (.iaload, (100, 0, 0, [])), (.istore 5, i0), (.iload 5, i0), (.ldc_w 380, (0, 0, 1000000, [])), (.if_icmp .ge 29, (99, 0, 0, [])), (.aload_n 0, i0), (.invokevirtual 397, (305, 1, 10, [])), (.iload 5, i0), (.iconst 1, i0), (.iadd, i0), (.imul, i0), (.aload_n 0, i0), (.invokevirtual 397, (305, 1, 10, [])), (.aload_n 0, i0), (.getfield 50, (10, 26, 2, [])), (.iload_n 1, i0), (.iaload, (100, 0, 0, [])), (.imul, i0), (.if_icmp .ne 6, (99, 0, 0, [])), (.iload 4, i0), (.ireturn, (0, 0, 0, []))]),
  (99, [(.iinc 4 1, i0), (.goto (-86), (16, 0, 0, []))]),
  (105, [(.iconst (-1), i0), (.ireturn, (0, 0, 0, []))])]
def KX10_mate : List (Nat × List OpI) := [(0, [(.aload_n 0, i0), (.iload_n 1, i0), (.i2l, i0), (.invokevirtual 393, (246, 2, 10, [])), (.ifCond .eq 20, (26, 0, 0, [])), (.aload_n 0, i0), (.iload_n 2, i0), (.invokevirtual 305, (245, 2, 10, [])), (.ifCond .eq 12, (26, 0, 0, [])), (.aload_n 0, i0), (.iload_n 1, i0), (.iload_n 2, i0), (.invokevirtual 330, (247, 3, 10, [])), (.ifCond .ne 9, (32, 0, 0, [])), (.nop, (26, 0, 0, []))]),
  (26, [(.aload_n 0, i0), (.iconst 1, i0), (.invokevirtual 88, (197, 2, 10, [])), (.ireturn, (0, 0, 0, []))]),
  (32, [(.aload_n 0, i0), (.invokevirtual 390, (303, 1, 10, [])), (.aload_n 0, i0), (.getfield 50, (10, 26, 2, [])), (.iload_n 1, i0), (.iaload, (100, 0, 0, [])), (.ldc_w 380, (0, 0, 1000000, [])), (.if_icmp .lt 10, (55, 0, 0, [])), (.aload_n 0, i0), (.bipush 6, i0), (.invokevirtual 88, (197, 2, 10, [])), (.ireturn, (0, 0, 0, []))]),
  (55, [(.iload_n 1, i0), (.istore_n 3, i0), (.iconst (-1), i0), (.istore 4, i0), (.iconst (-1), i0), (.istore 5, i0), (.nop, (63, 0, 0, []))]),
  (63, [(.iload 4, i0), (.iload_n 2, i0), (.if_icmp .eq 39, (105, 0, 0, [])), (.iload 5, i0), (.iload_n 2, i0), (.if_icmp .eq 33, (105, 0, 0, [])), (.iload_n 3, i0), (.invokestatic 377, (249, 1, 0, [])), (.istore 4, i0), (.aload_n 0, i0), (.iload_n 3, i0), (.invokevirtual 400, (307, 2, 10, [])), (.istore 5, i0), (.iload_n 3, i0), (.iconst 1, i0), (.iload 4, i0), (.ishl, i0), (.iconst 1, i0), (.iload 5, i0), (.ishl, i0), (.ior, i0), (.iconst (-1), i0), (.ixor, i0), (.iand, i0), (.istore_n 3, i0), (.goto (-39), (63, 0, 0, []))]),
  (105, [(.aload_n 0, i0), (.iload 4, i0), (.iload_n 2, i0), (.if_icmp .ne 8, (117, 0, 0, [])), (.iload 5, i0), (.goto 5, (119, 0, 0, []))]),
  (117, [(.iload 4, i0), (.nop, (119, 0, 0, []))]),
  (119, [(.invokevirtual 92, (198, 2, 10, [])), (.ireturn, (0, 0, 0, []))])]
def KX10_jumpsFor : List (Nat × List OpI) := [(0, [(.aload_n 0, i0), (.sipush 2290, i0), (.invokevirtual 353, (284, 2, 10, [])), (.iconst 0, i0), (.istore_n 3, i0), (.iconst 1, i0), (.istore 4, i0), (.nop, (12, 0, 0, []))]),
  (12, [(.iload 4, i0), (.ifCond .eq 28, (42, 0, 0, [])), (.iload_n 2, i0), (.aload_n 0, i0), (.iload_n 1, i0), (.invokevirtual 302, (258, 2, 10, [])), (.iconst (-1), i0), (.ixor, i0), (.iand, i0), (.ifCond .eq 16, (42, 0, 0, [])), (.aload_n 0, i0), (.iload_n 1, i0), (.invokevirtual 324, (271, 2, 10, [])), (.istore 4, i0), (.iinc 3 1, i0), (.goto (-27), (12, 0, 0, []))]),
  (42, [(.aload_n 0, i0), (.sipush 2290, i0), (.invokevirtual 356, (285, 2, 10, [])), (.iload 4, i0), (.ifCond .eq 7, (58, 0, 0, [])), (.iload_n 3, i0), (.goto 4, (59, 0, 0, []))]),
  (58, [(.iconst (-1), i0), (.nop, (59, 0, 0, []))]),
  (59, [(.ireturn, (0, 0, 0, []))])]
def KX10_allJumps : List (Nat × List OpI) := [(0, [(.iconst 0, i0), (.istore_n 2, i0), (.iconst 0, i0), (.istore_n 3, i0), (.nop, (4, 0, 0, []))]),
  (4, [(.iload_n 3, i0), (.aload_n 0, i0), (.getfield 7, (10, 0, 2, [])), (.iconst 0, i0), (.iaload, (100, 0, 0, [])), (.if_icmp .ge 30, (41, 0, 0, [])), (.aload_n 0, i0), (.iload_n 3, i0), (.iload_n 1, i0), (.invokevirtual 403, (309, 3, 10, [])), (.istore 4, i0), (.iload 4, i0), (.iconst (-1), i0), (.if_icmp .ne 5, (30, 0, 0, [])), (.iconst (-1), i0), (.ireturn, (0, 0, 0, []))]),
  (30, [(.iload_n 2, i0), (.iload 4, i0), (.iadd, i0), (.istore_n 2, i0), (.iinc 3 1, i0), (.goto (-34), (4, 0, 0, []))]),
  (41, [(.iload_n 2, i0), (.ireturn, (0, 0, 0, []))])]
def KX10_mends : List (Nat × List OpI) := [(0, [(.aload_n 0, i0), (.iload_n 1, i0), (.i2l, i0), (.invokevirtual 393, (246, 2, 10, [])), (.ifCond .eq 15, (21, 0, 0, [])), (.aload_n 0, i0), (.aload_n 0, i0), (.iload_n 1, i0), (.invokevirtual 406, (310, 2, 10, [])), (.invokevirtual 365, (199, 2, 10, [])), (.goto 8, (26, 0, 0, []))]),
  (21, [(.aload_n 0, i0), (.iconst 1, i0), (.invokevirtual 88, (197, 2, 10, [])), (.nop, (26, 0, 0, []))]),
  (26, [(.ireturn, (0, 0, 0, []))])]
def KX10_mendsAt : List (Nat × List OpI) := [(0, [(.aload_n 0, i0), (.iload_n 1, i0), (.i2l, i0), (.invokevirtual 393, (246, 2, 10, [])), (.ifCond .eq 11, (17, 0, 0, [])), (.aload_n 0, i0), (.iload_n 2, i0), (.invokevirtual 299, (244, 2, 10, [])), (.ifCond .ne 9, (23, 0, 0, [])), (.nop, (17, 0, 0, []))]),
  (17, [(.aload_n 0, i0), (.iconst 1, i0), (.invokevirtual 88, (197, 2, 10, [])), (.ireturn, (0, 0, 0, []))]),
  (23, [(.aload_n 0, i0), (.iload_n 1, i0), (.invokevirtual 406, (310, 2, 10, [])), (.iconst (-1), i0), (.if_icmp .ne 12, (41, 0, 0, [])), (.aload_n 0, i0), (.bipush 6, i0), (.invokevirtual 88, (197, 2, 10, [])), (.goto 13, (51, 0, 0, []))]),
  (41, [(.aload_n 0, i0), (.aload_n 0, i0), (.iload_n 2, i0), (.iload_n 1, i0), (.invokevirtual 403, (309, 3, 10, [])), (.invokevirtual 92, (198, 2, 10, [])), (.nop, (51, 0, 0, []))]),
  (51, [(.ireturn, (0, 0, 0, []))])]
def KX10_wrongSeen : List (Nat × List OpI) := [(0, [(.aload_n 0, i0), (.iload_n 1, i0), (.invokevirtual 305, (245, 2, 10, [])), (.ifCond .eq 22, (27, 0, 0, [])), (.iload_n 2, i0), (.invokestatic 99, (201, 1, 0, [])), (.ifCond .eq 15, (27, 0, 0, [])), (.iload_n 3, i0), (.i2l, i0), (.lconst 0, i0), (.ldc2_w 409, (0, 0, 20, [])), (.invokestatic 264, (208, 3, 0, [])), (.ifCond .ne 5, (29, 0, 0, [])), (.nop, (27, 0, 0, []))]),
  (27, [(.iconst 1, i0), (.ireturn, (0, 0, 0, []))]),
  (29, [(.aload_n 0, i0), (.getfield 24, (10, 6, 2, [])), (.iload_n 2, i0), (.iaload, (100, 0, 0, [])), (.iconst (-1), i0), (.if_icmp .ne 5, (41, 0, 0, [])), (.iconst 2, i0), (.ireturn, (0, 0, 0, []))]),
  (41, [(.aload_n 0, i0), (.getfield 24, (10, 6, 2, [])), (.iload_n 2, i0), (.iaload, (100, 0, 0, [])), (.iconst 2, i0), (.iload_n 3, i0), (.imul, i0), (.if_icmp .ge 5, (55, 0, 0, [])), (.iconst 3, i0), (.ireturn, (0, 0, 0, []))]),
  (55, [(.iconst 0, i0), (.istore 4, i0), (.nop, (58, 0, 0, []))]),
  (58, [(.iload 4, i0), (.iload_n 3, i0), (.if_icmp .ge 62, (123, 0, 0, [])), (.bipush 60, i0), (.iload_n 2, i0), (.imul, i0), (.iconst 2, i0), (.iload 4, i0), (.imul, i0), (.iadd, i0), (.istore 5, i0), (.aload_n 0, i0), (.getfield 27, (10, 7, 2, [])), (.iload 5, i0), (.laload, i0), (.lconst 0, i0), (.ldc2_w 349, (0, 0, 5, [])), (.invokestatic 264, (208, 3, 0, [])), (.ifCond .eq 26, (115, 0, 0, [])), (.aload_n 0, i0), (.getfield 27, (10, 7, 2, [])), (.iload 5, i0), (.iconst 1, i0), (.iadd, i0), (.laload, i0), (.lconst 0, i0), (.aload_n 0, i0), (.getfield 7, (10, 0, 2, [])), (.iconst 0, i0), (.iaload, (100, 0, 0, [])), (.i2l, i0), (.invokestatic 264, (208, 3, 0, [])), (.ifCond .ne 5, (117, 0, 0, [])), (.nop, (115, 0, 0, []))]),
  (115, [(.iconst 5, i0), (.ireturn, (0, 0, 0, []))]),
  (117, [(.iinc 4 1, i0), (.goto (-62), (58, 0, 0, []))]),
  (123, [(.iconst 0, i0), (.ireturn, (0, 0, 0, []))])]
def KX10_laysFits : List (Nat × List OpI) := [(0, [(.iconst 0, i0), (.istore 4, i0), (.aload_n 0, i0), (.sipush 2290, i0), (.invokevirtual 353, (284, 2, 10, [])), (.iconst 0, i0), (.istore 5, i0), (.nop, (13, 0, 0, []))]),
  (13, [(.iload 5, i0), (.bipush 60, i0), (.if_icmp .ge 75, (92, 0, 0, [])), (.aload_n 0, i0), (.getfield 7, (10, 0, 2, [])), (.iload_n 1, i0), (.invokestatic 205, (228, 1, 0, [])), (.iconst 1, i0), (.iadd, i0), (.iload 5, i0), (.bipush 6, i0), (.idiv, i0), (.iastore, i0), (.aload_n 0, i0), (.getfield 7, (10, 0, 2, [])), (.iload_n 1, i0), (.invokestatic 205, (228, 1, 0, [])), (.iconst 3, i0), (.iadd, i0), (.iconst 0, i0), (.iastore, i0), (.aload_n 0, i0), (.getfield 7, (10, 0, 2, [])), (.iconst 4, i0), (.iload 5, i0), (.bipush 6, i0), (.irem, i0), (.iastore, i0), (.aload_n 0, i0), (.iload_n 1, i0), (.iload_n 1, i0), (.invokevirtual 318, (267, 3, 10, [])), (.pop, i0), (.aload_n 0, i0), (.getfield 53, (10, 27, 2, [])), (.iload 5, i0), (.aload_n 0, i0), (.iload_n 1, i0), (.iconst 3, i0), (.invokevirtual 271, (251, 3, 10, [])), (.iastore, i0), (.aload_n 0, i0), (.sipush 2290, i0), (.invokevirtual 356, (285, 2, 10, [])), (.iinc 5 1, i0), (.goto (-76), (13, 0, 0, []))]),
  (92, [(.iconst 0, i0), (.istore 5, i0), (.nop, (95, 0, 0, []))]),
  (95, [(.iload 5, i0), (.bipush 9, i0), (.if_icmp .gt 104, (203, 0, 0, [])), (.aload_n 0, i0), (.getfield 56, (10, 28, 2, [])), (.iload 5, i0), (.iconst 1, i0), (.bastore, (103, 0, 0, [])), (.iconst 0, i0), (.istore 6, i0), (.nop, (113, 0, 0, []))]),
  (113, [(.iload 6, i0), (.iload_n 3, i0), (.if_icmp .ge 61, (177, 0, 0, [])), (.bipush 60, i0), (.iload_n 2, i0), (.imul, i0), (.iconst 2, i0), (.iload 6, i0), (.imul, i0), (.iadd, i0), (.istore 7, i0), (.aload_n 0, i0), (.getfield 53, (10, 27, 2, [])), (.bipush 6, i0), (.iload 5, i0), (.imul, i0), (.aload_n 0, i0), (.getfield 27, (10, 7, 2, [])), (.iload 7, i0), (.laload, i0), (.l2i, i0), (.iadd, i0), (.iaload, (100, 0, 0, [])), (.i2l, i0), (.aload_n 0, i0), (.getfield 27, (10, 7, 2, [])), (.iload 7, i0), (.iconst 1, i0), (.iadd, i0), (.laload, i0), (.lcmp, i0), (.ifCond .eq 11, (171, 0, 0, [])), (.aload_n 0, i0), (.getfield 56, (10, 28, 2, [])), (.iload 5, i0), (.iconst 0, i0), (.bastore, (103, 0, 0, [])), (.nop, (171, 0, 0, []))]),
  (171, [(.iinc 6 1, i0), (.goto (-61), (113, 0, 0, []))]),
  (177, [(.iload 4, i0), (.aload_n 0, i0), (.getfield 56, (10, 28, 2, [])), (.iload 5, i0), (.baload, (103, 0, 0, [])), (.ifCond .eq 7, (193, 0, 0, [])), (.iconst 1, i0), (.goto 4, (194, 0, 0, []))]),
  (193, [(.iconst 0, i0), (.nop, (194, 0, 0, []))]),
  (194, [(.iadd, i0), (.istore 4, i0), (.iinc 5 1, i0), (.goto (-105), (95, 0, 0, []))]),
  (203, [(.iload 4, i0), (.ireturn, (0, 0, 0, []))])]
def KX10_fits : List (Nat × List OpI) := [(0, [(.aload_n 0, i0), (.iload_n 1, i0), (.iload_n 2, i0), (.iload_n 3, i0), (.invokevirtual 411, (313, 4, 10, [])), (.istore 4, i0), (.iload 4, i0), (.ifCond .le 12, (23, 0, 0, [])), (.aload_n 0, i0), (.iload 4, i0), (.invokevirtual 88, (197, 2, 10, [])), (.goto 14, (34, 0, 0, []))]),
  (23, [(.aload_n 0, i0), (.aload_n 0, i0), (.iload_n 1, i0), (.iload_n 2, i0), (.iload_n 3, i0), (.invokevirtual 414, (314, 4, 10, [])), (.invokevirtual 92, (198, 2, 10, [])), (.nop, (34, 0, 0, []))]),
  (34, [(.ireturn, (0, 0, 0, []))])]
def KX10_fitsAt : List (Nat × List OpI) := [(0, [(.iload 4, i0), (.ifCond .ge 7, (9, 0, 0, [])), (.iconst 1, i0), (.goto 10, (16, 0, 0, []))]),
  (9, [(.aload_n 0, i0), (.iload_n 1, i0), (.iload_n 2, i0), (.iload_n 3, i0), (.invokevirtual 411, (313, 4, 10, [])), (.nop, (16, 0, 0, []))]),
  (16, [(.istore 5, i0), (.iload 5, i0), (.ifCond .le 10, (30, 0, 0, [])), (.aload_n 0, i0), (.iload 5, i0), (.invokevirtual 88, (197, 2, 10, [])), (.ireturn, (0, 0, 0, []))]),
  (30, [(.aload_n 0, i0), (.iload_n 1, i0), (.iload_n 2, i0), (.iload_n 3, i0), (.invokevirtual 414, (314, 4, 10, [])), (.pop, i0), (.iload 4, i0), (.istore 6, i0), (.iconst 0, i0), (.istore 7, i0), (.nop, (45, 0, 0, []))]),
  (45, [(.iload 7, i0), (.bipush 9, i0), (.if_icmp .gt 37, (86, 0, 0, [])), (.aload_n 0, i0), (.getfield 56, (10, 28, 2, [])), (.iload 7, i0), (.baload, (103, 0, 0, [])), (.ifCond .ne 6, (65, 0, 0, [])), (.goto 18, (80, 0, 0, []))]),
  (65, [(.iload 6, i0), (.ifCond .ne 10, (77, 0, 0, [])), (.aload_n 0, i0), (.iload 7, i0), (.invokevirtual 92, (198, 2, 10, [])), (.ireturn, (0, 0, 0, []))]),
  (77, [(.iinc 6 (-1), i0), (.nop, (80, 0, 0, []))]),
  (80, [(.iinc 7 1, i0), (.goto (-38), (45, 0, 0, []))]),
  (86, [(.aload_n 0, i0), (.bipush 6, i0), (.invokevirtual 88, (197, 2, 10, [])), (.ireturn, (0, 0, 0, []))])]
def KX10_mostAlike : List (Nat × List OpI) := [(0, [(.iconst 0, i0), (.istore_n 2, i0), (.iconst 0, i0), (.istore_n 3, i0), (.nop, (4, 0, 0, []))]),
  (4, [(.iload_n 3, i0), (.bipush 9, i0), (.if_icmp .gt 90, (97, 0, 0, [])), (.iconst 0, i0), (.istore 4, i0), (.iconst 0, i0), (.istore 5, i0), (.nop, (16, 0, 0, []))]),
  (16, [(.iload 5, i0), (.bipush 9, i0), (.if_icmp .gt 64, (84, 0, 0, [])), (.iload 4, i0), (.aload_n 0, i0), (.getfield 56, (10, 28, 2, [])), (.iload_n 3, i0), (.baload, (103, 0, 0, [])), (.ifCond .eq 43, (74, 0, 0, [])), (.aload_n 0, i0), (.getfield 56, (10, 28, 2, [])), (.iload 5, i0), (.baload, (103, 0, 0, [])), (.ifCond .eq 33, (74, 0, 0, [])), (.aload_n 0, i0), (.getfield 53, (10, 27, 2, [])), (.bipush 6, i0), (.iload_n 3, i0), (.imul, i0), (.iload_n 1, i0), (.iadd, i0), (.iaload, (100, 0, 0, [])), (.aload_n 0, i0), (.getfield 53, (10, 27, 2, [])), (.bipush 6, i0), (.iload 5, i0), (.imul, i0), (.iload_n 1, i0), (.iadd, i0), (.iaload, (100, 0, 0, [])), (.if_icmp .ne 7, (74, 0, 0, [])), (.iconst 1, i0), (.goto 4, (75, 0, 0, []))]),
  (74, [(.iconst 0, i0), (.nop, (75, 0, 0, []))]),
  (75, [(.iadd, i0), (.istore 4, i0), (.iinc 5 1, i0), (.goto (-65), (16, 0, 0, []))]),
  (84, [(.iload_n 2, i0), (.iload 4, i0), (.invokestatic 277, (1000, 2, 0, [])), (.istore_n 2, i0), (.iinc 3 1, i0), (.goto (-90), (4, 0, 0, []))]),
  (97, [(.iload_n 2, i0), (.ireturn, (0, 0, 0, []))])]
def KX10_ask : List (Nat × List OpI) := [(0, [(.aload_n 0, i0), (.iload_n 1, i0), (.iload_n 2, i0), (.iload_n 3, i0), (.invokevirtual 411, (313, 4, 10, [])), (.istore 4, i0), (.iload 4, i0), (.ifCond .le 10, (21, 0, 0, [])), (.aload_n 0, i0), (.iload 4, i0), (.invokevirtual 88, (197, 2, 10, [])), (.ireturn, (0, 0, 0, []))]),
  (21, [(.aload_n 0, i0), (.iload_n 1, i0), (.iload_n 2, i0), (.iload_n 3, i0), (.invokevirtual 414, (314, 4, 10, [])), (.iconst 2, i0), (.if_icmp .ge 10, (39, 0, 0, [])), (.aload_n 0, i0), (.bipush 6, i0), (.invokevirtual 88, (197, 2, 10, [])), (.ireturn, (0, 0, 0, []))]),
  (39, [(.iconst 0, i0), (.istore 5, i0), (.iconst 1, i0), (.istore 6, i0), (.nop, (45, 0, 0, []))]),
  (45, [(.iload 6, i0), (.iconst 5, i0), (.if_icmp .gt 28, (76, 0, 0, [])), (.aload_n 0, i0), (.iload 6, i0), (.invokevirtual 417, (317, 2, 10, [])), (.aload_n 0, i0), (.iload 5, i0), (.invokevirtual 417, (317, 2, 10, [])), (.if_icmp .ge 7, (70, 0, 0, [])), (.iload 6, i0), (.istore 5, i0), (.nop, (70, 0, 0, []))]),
  (70, [(.iinc 6 1, i0), (.goto (-28), (45, 0, 0, []))]),
  (76, [(.aload_n 0, i0), (.iload 5, i0), (.invokevirtual 92, (198, 2, 10, [])), (.ireturn, (0, 0, 0, []))])]
def KX10_settles : List (Nat × List OpI) := [(0, [(.aload_n 0, i0), (.getfield 66, (10, 31, 2, [])), (.iload_n 1, i0), (.iaload, (100, 0, 0, [])), (.iconst (-1), i0), (.if_icmp .ne 7, (14, 0, 0, [])), (.iconst 1, i0), (.goto 4, (15, 0, 0, []))]),
  (14, [(.iconst 0, i0), (.nop, (15, 0, 0, []))]),
  (15, [(.istore_n 3, i0), (.iload_n 3, i0), (.ifCond .ne 33, (50, 0, 0, [])), (.iload_n 1, i0), (.iconst 2, i0), (.irem, i0), (.ifCond .ne 16, (39, 0, 0, [])), (.iload_n 2, i0), (.aload_n 0, i0), (.getfield 63, (10, 30, 2, [])), (.iload_n 1, i0), (.iaload, (100, 0, 0, [])), (.if_icmp .gt 17, (50, 0, 0, [])), (.goto 13, (49, 0, 0, []))]),
  (39, [(.iload_n 2, i0), (.aload_n 0, i0), (.getfield 63, (10, 30, 2, [])), (.iload_n 1, i0), (.iaload, (100, 0, 0, [])), (.if_icmp .lt 4, (50, 0, 0, [])), (.nop, (49, 0, 0, []))]),
  (49, [(.return_, i0)]),
  (50, [(.aload_n 0, i0), (.getfield 63, (10, 30, 2, [])), (.iload_n 1, i0), (.iload_n 2, i0), (.iastore, i0), (.aload_n 0, i0), (.getfield 66, (10, 31, 2, [])), (.iload_n 1, i0), (.aload_n 0, i0), (.getfield 60, (10, 29, 2, [])), (.iload_n 1, i0), (.iaload, (100, 0, 0, [])), (.iastore, i0), (.return_, i0)])]
def KX10_doesDeed : List (Nat × List OpI) := [(0, [(.aload_n 0, i0), (.iload_n 1, i0), (.iconst 3, i0), (.invokevirtual 271, (251, 3, 10, [])), (.istore_n 3, i0), (.iload_n 2, i0), (.iconst 2, i0), (.if_icmp .ne 5, (14, 0, 0, [])), (.iconst 1, i0), (.ireturn, (1, 0, 0, []))]),
  (14, [(.aload_n 0, i0), (.iload_n 1, i0), (.invokevirtual 287, (256, 2, 10, [])), (.ifCond .eq 5, (24, 0, 0, [])), (.iconst 0, i0), (.ireturn, (1, 0, 0, []))]),
  (24, [(.iload_n 2, i0), (.iconst 1, i0), (.if_icmp .ne 9, (35, 0, 0, [])), (.aload_n 0, i0), (.iload_n 3, i0), (.invokevirtual 324, (271, 2, 10, [])), (.ireturn, (1, 0, 0, []))]),
  (35, [(.aload_n 0, i0), (.iload_n 3, i0), (.iload_n 1, i0), (.iload_n 1, i0), (.invokevirtual 290, (255, 4, 10, [])), (.ifCond .ne 5, (47, 0, 0, [])), (.iconst 0, i0), (.ireturn, (1, 0, 0, []))]),
  (47, [(.aload_n 0, i0), (.iload_n 1, i0), (.iload_n 3, i0), (.invokevirtual 312, (264, 3, 10, [])), (.iconst 1, i0), (.ireturn, (1, 0, 0, []))])]
def KX10_standing : List (Nat × List OpI) := [(0, [(.aload_n 0, i0), (.iload_n 1, i0), (.iconst 3, i0), (.invokevirtual 271, (251, 3, 10, [])), (.aload_n 0, i0), (.iload_n 2, i0), (.iconst 3, i0), (.invokevirtual 271, (251, 3, 10, [])), (.isub, i0), (.ireturn, (0, 0, 0, []))])]
def KX10_playing : List (Nat × List OpI) := [(0, [(.iload_n 3, i0), (.ifCond .ne 10, (11, 0, 0, [])), (.aload_n 0, i0), (.iload_n 1, i0), (.iload_n 2, i0), (.invokevirtual 420, (321, 3, 10, [])), (.ireturn, (0, 0, 0, []))]),
  (11, [(.iconst 0, i0), (.istore 4, i0), (.aload_n 0, i0), (.iconst 0, i0), (.invokestatic 423, (283, 1, 0, [])), (.invokevirtual 353, (284, 2, 10, [])), (.aload_n 0, i0), (.getfield 60, (10, 29, 2, [])), (.iconst 0, i0), (.iconst (-1), i0), (.iastore, i0), (.aload_n 0, i0), (.getfield 66, (10, 31, 2, [])), (.iconst 0, i0), (.iconst (-1), i0), (.iastore, i0), (.nop, (36, 0, 0, []))]),
  (36, [(.aload_n 0, i0), (.iload 4, i0), (.invokestatic 423, (283, 1, 0, [])), (.invokevirtual 356, (285, 2, 10, [])), (.aload_n 0, i0), (.getfield 60, (10, 29, 2, [])), (.iload 4, i0), (.dup2, i0), (.iaload, (100, 0, 0, [])), (.iconst 1, i0), (.iadd, i0), (.iastore, i0), (.aload_n 0, i0), (.getfield 60, (10, 29, 2, [])), (.iload 4, i0), (.iaload, (100, 0, 0, [])), (.iconst 2, i0), (.if_icmp .le 32, (96, 0, 0, [])), (.iload 4, i0), (.ifCond .ne 6, (75, 0, 0, [])), (.goto 107, (179, 0, 0, []))]),
  (75, [(.iinc 4 (-1), i0), (.aload_n 0, i0), (.iload 4, i0), (.aload_n 0, i0), (.getfield 63, (10, 30, 2, [])), (.iload 4, i0), (.iconst 1, i0), (.iadd, i0), (.iaload, (100, 0, 0, [])), (.invokevirtual 426, (319, 3, 10, [])), (.goto (-57), (36, 0, 0, []))]),
  (96, [(.aload_n 0, i0), (.iload 4, i0), (.iconst 2, i0), (.irem, i0), (.ifCond .ne 7, (108, 0, 0, [])), (.iload_n 1, i0), (.goto 4, (109, 0, 0, []))]),
  (108, [(.iload_n 2, i0), (.nop, (109, 0, 0, []))]),
  (109, [(.aload_n 0, i0), (.getfield 60, (10, 29, 2, [])), (.iload 4, i0), (.iaload, (100, 0, 0, [])), (.invokevirtual 429, (320, 3, 10, [])), (.ifCond .ne 6, (125, 0, 0, [])), (.goto (-86), (36, 0, 0, []))]),
  (125, [(.iload 4, i0), (.iconst 1, i0), (.iadd, i0), (.iload_n 3, i0), (.if_icmp .ne 18, (148, 0, 0, [])), (.aload_n 0, i0), (.iload 4, i0), (.aload_n 0, i0), (.iload_n 1, i0), (.iload_n 2, i0), (.invokevirtual 420, (321, 3, 10, [])), (.invokevirtual 426, (319, 3, 10, [])), (.goto (-109), (36, 0, 0, []))]),
  (148, [(.iinc 4 1, i0), (.aload_n 0, i0), (.iload 4, i0), (.invokestatic 423, (283, 1, 0, [])), (.invokevirtual 353, (284, 2, 10, [])), (.aload_n 0, i0), (.getfield 60, (10, 29, 2, [])), (.iload 4, i0), (.iconst (-1), i0), (.iastore, i0), (.aload_n 0, i0), (.getfield 66, (10, 31, 2, [])), (.iload 4, i0), (.iconst (-1), i0), (.iastore, i0), (.goto (-140), (36, 0, 0, []))]),
  (179, [(.aload_n 0, i0), (.iconst 0, i0), (.invokestatic 423, (283, 1, 0, [])), (.invokevirtual 356, (285, 2, 10, [])), (.aload_n 0, i0), (.getfield 63, (10, 30, 2, [])), (.iconst 0, i0), (.iaload, (100, 0, 0, [])), (.ireturn, (0, 0, 0, []))])]
def KX10_areTwo : List (Nat × List OpI) := [(0, [(.aload_n 0, i0), (.iload_n 1, i0), (.invokevirtual 305, (245, 2, 10, [])), (.ifCond .eq 20, (25, 0, 0, [])), (.aload_n 0, i0), (.iload_n 2, i0), (.invokevirtual 305, (245, 2, 10, [])), (.ifCond .eq 12, (25, 0, 0, [])), (.iload_n 1, i0), (.iload_n 2, i0), (.if_icmp .eq 7, (25, 0, 0, [])), (.iconst 1, i0), (.goto 4, (26, 0, 0, []))]),
  (25, [(.iconst 0, i0), (.nop, (26, 0, 0, []))]),
  (26, [(.ireturn, (1, 0, 0, []))])]
def KX10_game : List (Nat × List OpI) := [(0, [(.aload_n 0, i0), (.iload_n 1, i0), (.iload_n 2, i0), (.invokevirtual 432, (323, 3, 10, [])), (.ifCond .eq 15, (21, 0, 0, [])), (.iload_n 3, i0), (.i2l, i0), (.lconst 0, i0), (.ldc2_w 435, (0, 0, 4, [])), (.invokestatic 264, (208, 3, 0, [])), (.ifCond .ne 9, (27, 0, 0, [])), (.nop, (21, 0, 0, []))]),
  (21, [(.aload_n 0, i0), (.iconst 1, i0), (.invokevirtual 88, (197, 2, 10, [])), (.ireturn, (0, 0, 0, []))]),
  (27, [(.aload_n 0, i0), (.aload_n 0, i0), (.iload_n 1, i0), (.iload_n 2, i0), (.iload_n 3, i0), (.invokevirtual 437, (322, 4, 10, [])), (.invokevirtual 92, (198, 2, 10, [])), (.ireturn, (0, 0, 0, []))])]
def KX10_moveOf : List (Nat × List OpI) := [(0, [(.aload_n 0, i0), (.iload_n 1, i0), (.iload_n 2, i0), (.invokevirtual 432, (323, 3, 10, [])), (.ifCond .eq 15, (21, 0, 0, [])), (.iload_n 3, i0), (.i2l, i0), (.lconst 1, i0), (.ldc2_w 435, (0, 0, 4, [])), (.invokestatic 264, (208, 3, 0, [])), (.ifCond .ne 9, (27, 0, 0, [])), (.nop, (21, 0, 0, []))]),
  (21, [(.aload_n 0, i0), (.iconst 1, i0), (.invokevirtual 88, (197, 2, 10, [])), (.ireturn, (0, 0, 0, []))]),
  (27, [(.aload_n 0, i0), (.iload_n 1, i0), (.iload_n 2, i0), (.iload_n 3, i0), (.invokevirtual 437, (322, 4, 10, [])), (.pop, i0), (.aload_n 0, i0), (.aload_n 0, i0), (.getfield 66, (10, 31, 2, [])), (.iconst 0, i0), (.iaload, (100, 0, 0, [])), (.invokevirtual 92, (198, 2, 10, [])), (.ireturn, (0, 0, 0, []))])]
def KX10_plantsOf : List (Nat × List OpI) := [(0, [(.iconst 0, i0), (.istore_n 3, i0), (.iconst 0, i0), (.istore 4, i0), (.nop, (5, 0, 0, []))]),
  (5, [(.iload 4, i0), (.aload_n 0, i0), (.getfield 7, (10, 0, 2, [])), (.iconst 2, i0), (.iaload, (100, 0, 0, [])), (.if_icmp .ge 38, (51, 0, 0, [])), (.iload_n 3, i0), (.aload_n 0, i0), (.iload_n 1, i0), (.iload 4, i0), (.invokevirtual 330, (247, 3, 10, [])), (.ifCond .eq 18, (42, 0, 0, [])), (.aload_n 0, i0), (.getfield 7, (10, 0, 2, [])), (.iload 4, i0), (.invokestatic 215, (229, 1, 0, [])), (.iload_n 2, i0), (.iadd, i0), (.iaload, (100, 0, 0, [])), (.goto 4, (43, 0, 0, []))]),
  (42, [(.iconst 0, i0), (.nop, (43, 0, 0, []))]),
  (43, [(.iadd, i0), (.istore_n 3, i0), (.iinc 4 1, i0), (.goto (-43), (5, 0, 0, []))]),
  (51, [(.iload_n 3, i0), (.ireturn, (0, 0, 0, []))])]
def KX10_gardenOf : List (Nat × List OpI) := [(0, [(.iconst 0, i0), (.istore_n 2, i0), (.iconst 1, i0), (.istore_n 3, i0), (.nop, (4, 0, 0, []))]),
  (4, [(.iload_n 3, i0), (.iconst 1, i0), (.aload_n 0, i0), (.getfield 7, (10, 0, 2, [])), (.iconst 2, i0), (.iaload, (100, 0, 0, [])), (.ishl, i0), (.if_icmp .ge 36, (49, 0, 0, [])), (.aload_n 0, i0), (.iload_n 3, i0), (.iconst 0, i0), (.invokevirtual 440, (326, 3, 10, [])), (.iload_n 1, i0), (.if_icmp .gt 20, (43, 0, 0, [])), (.aload_n 0, i0), (.iload_n 3, i0), (.iconst 1, i0), (.invokevirtual 440, (326, 3, 10, [])), (.aload_n 0, i0), (.iload_n 2, i0), (.iconst 1, i0), (.invokevirtual 440, (326, 3, 10, [])), (.if_icmp .le 5, (43, 0, 0, [])), (.iload_n 3, i0), (.istore_n 2, i0), (.nop, (43, 0, 0, []))]),
  (43, [(.iinc 3 1, i0), (.goto (-42), (4, 0, 0, []))]),
  (49, [(.iload_n 2, i0), (.ireturn, (0, 0, 0, []))])]
def KX10_garden : List (Nat × List OpI) := [(0, [(.iload_n 1, i0), (.i2l, i0), (.lconst 0, i0), (.ldc2_w 336, (0, 0, 99, [])), (.invokestatic 264, (208, 3, 0, [])), (.ifCond .eq 20, (29, 0, 0, [])), (.aload_n 0, i0), (.aload_n 0, i0), (.aload_n 0, i0), (.iload_n 1, i0), (.invokevirtual 443, (327, 2, 10, [])), (.iconst 1, i0), (.invokevirtual 440, (326, 3, 10, [])), (.invokevirtual 92, (198, 2, 10, [])), (.goto 8, (34, 0, 0, []))]),
  (29, [(.aload_n 0, i0), (.iconst 1, i0), (.invokevirtual 88, (197, 2, 10, [])), (.nop, (34, 0, 0, []))]),
  (34, [(.ireturn, (0, 0, 0, []))])]
def KX10_gardenSet : List (Nat × List OpI) := [(0, [(.iload_n 1, i0), (.i2l, i0), (.lconst 0, i0), (.ldc2_w 336, (0, 0, 99, [])), (.invokestatic 264, (208, 3, 0, [])), (.ifCond .eq 15, (24, 0, 0, [])), (.aload_n 0, i0), (.aload_n 0, i0), (.iload_n 1, i0), (.invokevirtual 443, (327, 2, 10, [])), (.invokevirtual 92, (198, 2, 10, [])), (.goto 8, (29, 0, 0, []))]),
  (24, [(.aload_n 0, i0), (.iconst 1, i0), (.invokevirtual 88, (197, 2, 10, [])), (.nop, (29, 0, 0, []))]),
  (29, [(.ireturn, (0, 0, 0, []))])]
def KX10_tellsDry : List (Nat × List OpI) := [(0, [(.lconst 1, i0), (.lstore_n 2, i0), (.lconst 1, i0), (.lstore 4, i0), (.iconst 0, i0), (.istore 6, i0), (.nop, (8, 0, 0, []))]),
  (8, [(.iload 6, i0), (.iload_n 1, i0), (.if_icmp .ge 30, (41, 0, 0, [])), (.lload_n 2, i0), (.bipush 16, i0), (.aload_n 0, i0), (.getfield 7, (10, 0, 2, [])), (.iconst 5, i0), (.iaload, (100, 0, 0, [])), (.isub, i0), (.i2l, i0), (.lmul, i0), (.lstore_n 2, i0), (.lload 4, i0), (.ldc2_w 351, (0, 0, 16, [])), (.lmul, i0), (.lstore 4, i0), (.iinc 6 1, i0), (.goto (-30), (8, 0, 0, []))]),
  (41, [(.aload_n 0, i0), (.lload_n 2, i0), (.lload 4, i0), (.invokevirtual 446, (200, 3, 10, [])), (.ireturn, (1, 0, 0, []))])]
def KX10_ahead0 : List (Nat × List OpI) := [(0, [(.aload_n 0, i0), (.iload_n 1, i0), (.iload_n 1, i0), (.aload_n 0, i0), (.iload_n 1, i0), (.iconst 3, i0), (.invokevirtual 271, (251, 3, 10, [])), (.invokevirtual 362, (291, 4, 10, [])), (.istore_n 2, i0), (.iload_n 2, i0), (.iconst (-1), i0), (.if_icmp .ne 12, (27, 0, 0, [])), (.aload_n 0, i0), (.getfield 7, (10, 0, 2, [])), (.iconst 0, i0), (.iaload, (100, 0, 0, [])), (.goto 4, (28, 0, 0, []))]),
  (27, [(.iload_n 2, i0), (.nop, (28, 0, 0, []))]),
  (28, [(.aload_n 0, i0), (.iload_n 1, i0), (.iconst 3, i0), (.invokevirtual 271, (251, 3, 10, [])), (.isub, i0), (.ireturn, (0, 0, 0, []))])]
def KX10_chance : List (Nat × List OpI) := [(0, [(.aload_n 0, i0), (.iload_n 1, i0), (.invokevirtual 305, (245, 2, 10, [])), (.ifCond .ne 9, (14, 0, 0, [])), (.aload_n 0, i0), (.iconst 1, i0), (.invokevirtual 95, (196, 2, 10, [])), (.ireturn, (1, 0, 0, []))]),
  (14, [(.aload_n 0, i0), (.iload_n 1, i0), (.invokevirtual 450, (331, 2, 10, [])), (.istore_n 2, i0), (.aload_n 0, i0), (.iload_n 1, i0), (.iconst 3, i0), (.invokevirtual 271, (251, 3, 10, [])), (.iload_n 2, i0), (.iadd, i0), (.aload_n 0, i0), (.getfield 7, (10, 0, 2, [])), (.iconst 0, i0), (.iaload, (100, 0, 0, [])), (.if_icmp .ge 12, (46, 0, 0, [])), (.aload_n 0, i0), (.lconst 0, i0), (.lconst 1, i0), (.invokevirtual 446, (200, 3, 10, [])), (.goto 8, (51, 0, 0, []))]),
  (46, [(.aload_n 0, i0), (.iload_n 2, i0), (.invokevirtual 453, (330, 2, 10, [])), (.nop, (51, 0, 0, []))]),
  (51, [(.ireturn, (1, 0, 0, []))])]
def KX10_hope : List (Nat × List OpI) := [(0, [(.aload_n 0, i0), (.iload_n 1, i0), (.invokevirtual 305, (245, 2, 10, [])), (.ifCond .eq 15, (20, 0, 0, [])), (.iload_n 2, i0), (.i2l, i0), (.lconst 0, i0), (.ldc2_w 343, (0, 0, 9, [])), (.invokestatic 264, (208, 3, 0, [])), (.ifCond .ne 9, (26, 0, 0, [])), (.nop, (20, 0, 0, []))]),
  (20, [(.aload_n 0, i0), (.iconst 1, i0), (.invokevirtual 95, (196, 2, 10, [])), (.ireturn, (1, 0, 0, []))]),
  (26, [(.iload_n 2, i0), (.aload_n 0, i0), (.iload_n 1, i0), (.invokevirtual 450, (331, 2, 10, [])), (.if_icmp .le 12, (44, 0, 0, [])), (.aload_n 0, i0), (.lconst 0, i0), (.lconst 1, i0), (.invokevirtual 446, (200, 3, 10, [])), (.goto 8, (49, 0, 0, []))]),
  (44, [(.aload_n 0, i0), (.iload_n 2, i0), (.invokevirtual 453, (330, 2, 10, [])), (.nop, (49, 0, 0, []))]),
  (49, [(.ireturn, (1, 0, 0, []))])]
def KX10_copyAt : List (Nat × List OpI) := [(0, [(.iload_n 1, i0), (.invokestatic 99, (201, 1, 0, [])), (.ifCond .ne 9, (13, 0, 0, [])), (.aload_n 0, i0), (.iconst 1, i0), (.invokevirtual 88, (197, 2, 10, [])), (.ireturn, (0, 0, 0, []))]),
  (13, [(.aload_n 0, i0), (.getfield 24, (10, 6, 2, [])), (.iload_n 1, i0), (.iaload, (100, 0, 0, [])), (.iconst (-1), i0), (.if_icmp .ne 9, (29, 0, 0, [])), (.aload_n 0, i0), (.iconst 2, i0), (.invokevirtual 88, (197, 2, 10, [])), (.ireturn, (0, 0, 0, []))]),
  (29, [(.aload_n 0, i0), (.getfield 24, (10, 6, 2, [])), (.iload_n 1, i0), (.iaload, (100, 0, 0, [])), (.aload_n 0, i0), (.getfield 7, (10, 0, 2, [])), (.iconst 1, i0), (.iaload, (100, 0, 0, [])), (.if_icmp .ge 9, (50, 0, 0, [])), (.aload_n 0, i0), (.iconst 3, i0), (.invokevirtual 88, (197, 2, 10, [])), (.ireturn, (0, 0, 0, []))]),
  (50, [(.iconst 0, i0), (.istore_n 2, i0), (.nop, (52, 0, 0, []))]),
  (52, [(.iload_n 2, i0), (.aload_n 0, i0), (.getfield 7, (10, 0, 2, [])), (.iconst 1, i0), (.iaload, (100, 0, 0, [])), (.if_icmp .ge 36, (95, 0, 0, [])), (.aload_n 0, i0), (.getfield 27, (10, 7, 2, [])), (.bipush 60, i0), (.iload_n 1, i0), (.imul, i0), (.iload_n 2, i0), (.iadd, i0), (.aload_n 0, i0), (.iload_n 2, i0), (.iconst 3, i0), (.invokevirtual 271, (251, 3, 10, [])), (.i2l, i0), (.aload_n 0, i0), (.getfield 21, (10, 5, 2, [])), (.iload_n 1, i0), (.iaload, (100, 0, 0, [])), (.invokestatic 106, (202, 2, 0, [])), (.lastore, i0), (.iinc 2 1, i0), (.goto (-40), (52, 0, 0, []))]),
  (95, [(.aload_n 0, i0), (.aload_n 0, i0), (.getfield 7, (10, 0, 2, [])), (.iconst 1, i0), (.iaload, (100, 0, 0, [])), (.invokevirtual 92, (198, 2, 10, [])), (.ireturn, (0, 0, 0, []))])]
def KX10_draw : List (Nat × List OpI) := [(0, [(.aload_n 0, i0), (.aload_n 0, i0), (.getfield 456, (10, 32, 0, [])), (.sipush 3217, i0), (.imul, i0), (.sipush 11447, i0), (.iadd, i0), (.ldc_w 459, (0, 0, 65536, [])), (.irem, i0), (.putfield 456, (10, 32, 0, [])), (.aload_n 0, i0), (.getfield 456, (10, 32, 0, [])), (.bipush 8, i0), (.idiv, i0), (.iload_n 1, i0), (.irem, i0), (.ireturn, (0, 0, 0, []))])]
def KX10_runsBy : List (Nat × List OpI) := [(0, [(.aload_n 0, i0), (.iload_n 1, i0), (.invokevirtual 287, (256, 2, 10, [])), (.ifCond .eq 5, (10, 0, 0, [])), (.iconst 0, i0), (.ireturn, (1, 0, 0, []))]),
  (10, [(.aload_n 0, i0), (.iload_n 1, i0), (.iload_n 1, i0), (.invokevirtual 318, (267, 3, 10, [])), (.pop, i0), (.iconst 1, i0), (.ireturn, (1, 0, 0, []))])]
def KX10_ropesBy : List (Nat × List OpI) := [(0, [(.aload_n 0, i0), (.iload_n 1, i0), (.iload_n 2, i0), (.invokevirtual 321, (269, 3, 10, [])), (.ifCond .ne 5, (11, 0, 0, [])), (.iconst 0, i0), (.ireturn, (1, 0, 0, []))]),
  (11, [(.aload_n 0, i0), (.iload_n 1, i0), (.iload_n 2, i0), (.invokevirtual 318, (267, 3, 10, [])), (.pop, i0), (.iconst 1, i0), (.ireturn, (1, 0, 0, []))])]
def KX10_daysBy : List (Nat × List OpI) := [(0, [(.aload_n 0, i0), (.getfield 7, (10, 0, 2, [])), (.bipush 6, i0), (.iaload, (100, 0, 0, [])), (.iload_n 1, i0), (.iadd, i0), (.sipush 9999, i0), (.if_icmp .le 5, (17, 0, 0, [])), (.iconst 0, i0), (.ireturn, (1, 0, 0, []))]),
  (17, [(.aload_n 0, i0), (.iload_n 1, i0), (.invokevirtual 338, (276, 2, 10, [])), (.aload_n 0, i0), (.getfield 72, (10, 35, 2, [])), (.iconst 1, i0), (.dup2, i0), (.iaload, (100, 0, 0, [])), (.iload_n 1, i0), (.iadd, i0), (.iastore, i0), (.iconst 1, i0), (.ireturn, (1, 0, 0, []))])]
def KX10_fogsTo : List (Nat × List OpI) := [(0, [(.aload_n 0, i0), (.getfield 7, (10, 0, 2, [])), (.iconst 4, i0), (.iaload, (100, 0, 0, [])), (.iload_n 1, i0), (.if_icmp .eq 7, (14, 0, 0, [])), (.iconst 1, i0), (.goto 4, (15, 0, 0, []))]),
  (14, [(.iconst 0, i0), (.nop, (15, 0, 0, []))]),
  (15, [(.istore_n 2, i0), (.aload_n 0, i0), (.getfield 7, (10, 0, 2, [])), (.iconst 4, i0), (.iload_n 1, i0), (.iastore, i0), (.iload_n 2, i0), (.ireturn, (1, 0, 0, []))])]
def KX10_doesAny : List (Nat × List OpI) := [(0, [(.aload_n 0, i0), (.getfield 7, (10, 0, 2, [])), (.iconst 1, i0), (.iaload, (100, 0, 0, [])), (.ifCond .ne 5, (11, 0, 0, [])), (.iconst 0, i0), (.ireturn, (1, 0, 0, []))]),
  (11, [(.aload_n 0, i0), (.aload_n 0, i0), (.getfield 7, (10, 0, 2, [])), (.iconst 1, i0), (.iaload, (100, 0, 0, [])), (.invokevirtual 460, (335, 2, 10, [])), (.istore_n 1, i0), (.aload_n 0, i0), (.bipush 16, i0), (.invokevirtual 460, (335, 2, 10, [])), (.aload_n 0, i0), (.getfield 7, (10, 0, 2, [])), (.iconst 5, i0), (.iaload, (100, 0, 0, [])), (.if_icmp .ge 11, (45, 0, 0, [])), (.aload_n 0, i0), (.iload_n 1, i0), (.invokevirtual 463, (336, 2, 10, [])), (.goto 8, (50, 0, 0, []))]),
  (45, [(.aload_n 0, i0), (.iload_n 1, i0), (.invokevirtual 327, (273, 2, 10, [])), (.nop, (50, 0, 0, []))]),
  (50, [(.ireturn, (1, 0, 0, []))])]
def KX10_does : List (Nat × List OpI) := [(0, [(.aload_n 0, i0), (.getfield 7, (10, 0, 2, [])), (.iload_n 1, i0), (.iconst 1, i0), (.iadd, i0), (.iaload, (100, 0, 0, [])), (.istore_n 2, i0), (.aload_n 0, i0), (.getfield 7, (10, 0, 2, [])), (.iload_n 1, i0), (.iaload, (100, 0, 0, [])), (.tableswitch 138 1 19 #[127, 138, 138, 138, 138, 138, 138, 138, 138, 138, 138, 138, 138, 89, 95, 109, 115, 121, 133], (153, 89, 1, [(1, 142), (2, 153), (3, 153), (4, 153), (5, 153), (6, 153), (7, 153), (8, 153), (9, 153), (10, 153), (11, 153), (12, 153), (13, 153), (14, 104), (15, 110), (16, 124), (17, 130), (18, 136), (19, 148)]))]),
  (104, [(.aload_n 0, i0), (.iload_n 2, i0), (.invokevirtual 463, (336, 2, 10, [])), (.ireturn, (1, 0, 0, []))]),
  (110, [(.aload_n 0, i0), (.iload_n 2, i0), (.aload_n 0, i0), (.getfield 7, (10, 0, 2, [])), (.iload_n 1, i0), (.iconst 2, i0), (.iadd, i0), (.iaload, (100, 0, 0, [])), (.invokevirtual 466, (337, 3, 10, [])), (.ireturn, (1, 0, 0, []))]),
  (124, [(.aload_n 0, i0), (.iload_n 2, i0), (.invokevirtual 324, (271, 2, 10, [])), (.ireturn, (1, 0, 0, []))]),
  (130, [(.aload_n 0, i0), (.iload_n 2, i0), (.invokevirtual 327, (273, 2, 10, [])), (.ireturn, (1, 0, 0, []))]),
  (136, [(.aload_n 0, i0), (.iload_n 2, i0), (.invokevirtual 469, (338, 2, 10, [])), (.ireturn, (1, 0, 0, []))]),
  (142, [(.aload_n 0, i0), (.iload_n 2, i0), (.invokevirtual 472, (339, 2, 10, [])), (.ireturn, (1, 0, 0, []))]),
  (148, [(.aload_n 0, i0), (.invokevirtual 475, (340, 1, 10, [])), (.ireturn, (1, 0, 0, []))]),
  (153, [(.iconst 1, i0), (.ireturn, (1, 0, 0, []))])]
def KX10_holds : List (Nat × List OpI) := [(0, [(.aload_n 0, i0), (.getfield 7, (10, 0, 2, [])), (.iload_n 1, i0), (.iaload, (100, 0, 0, [])), (.sipush 2000, i0), (.isub, i0), (.istore_n 2, i0), (.aload_n 0, i0), (.getfield 7, (10, 0, 2, [])), (.iload_n 1, i0), (.iconst 1, i0), (.iadd, i0), (.iaload, (100, 0, 0, [])), (.istore_n 3, i0), (.iload_n 2, i0), (.bipush 24, i0), (.if_icmp .ne 9, (32, 0, 0, [])), (.aload_n 0, i0), (.iload_n 3, i0), (.invokevirtual 287, (256, 2, 10, [])), (.ireturn, (1, 0, 0, []))]),
  (32, [(.iload_n 2, i0), (.bipush 12, i0), (.if_icmp .ne 12, (47, 0, 0, [])), (.aload_n 0, i0), (.iload_n 3, i0), (.iconst 3, i0), (.invokevirtual 271, (251, 3, 10, [])), (.goto 9, (53, 0, 0, []))]),
  (47, [(.aload_n 0, i0), (.iload_n 3, i0), (.iconst 1, i0), (.invokevirtual 268, (250, 3, 10, [])), (.nop, (53, 0, 0, []))]),
  (53, [(.istore 4, i0), (.aload_n 0, i0), (.getfield 7, (10, 0, 2, [])), (.iload_n 1, i0), (.iconst 5, i0), (.iadd, i0), (.iaload, (100, 0, 0, [])), (.bipush 60, i0), (.if_icmp .ne 24, (89, 0, 0, [])), (.iload 4, i0), (.aload_n 0, i0), (.getfield 7, (10, 0, 2, [])), (.iload_n 1, i0), (.iconst 2, i0), (.iadd, i0), (.iaload, (100, 0, 0, [])), (.if_icmp .ge 7, (85, 0, 0, [])), (.iconst 1, i0), (.goto 59, (141, 0, 0, []))]),
  (85, [(.iconst 0, i0), (.goto 55, (141, 0, 0, []))]),
  (89, [(.aload_n 0, i0), (.getfield 7, (10, 0, 2, [])), (.iload_n 1, i0), (.iconst 5, i0), (.iadd, i0), (.iaload, (100, 0, 0, [])), (.bipush 62, i0), (.if_icmp .ne 24, (123, 0, 0, [])), (.iload 4, i0), (.aload_n 0, i0), (.getfield 7, (10, 0, 2, [])), (.iload_n 1, i0), (.iconst 2, i0), (.iadd, i0), (.iaload, (100, 0, 0, [])), (.if_icmp .le 7, (119, 0, 0, [])), (.iconst 1, i0), (.goto 25, (141, 0, 0, []))]),
  (119, [(.iconst 0, i0), (.goto 21, (141, 0, 0, []))]),
  (123, [(.iload 4, i0), (.aload_n 0, i0), (.getfield 7, (10, 0, 2, [])), (.iload_n 1, i0), (.iconst 2, i0), (.iadd, i0), (.iaload, (100, 0, 0, [])), (.if_icmp .ne 7, (140, 0, 0, [])), (.iconst 1, i0), (.goto 4, (141, 0, 0, []))]),
  (140, [(.iconst 0, i0), (.nop, (141, 0, 0, []))]),
  (141, [(.ireturn, (1, 0, 0, []))])]
def KX10_behindEnds : List (Nat × List OpI) := [(0, [(.iload_n 1, i0), (.istore_n 2, i0), (.nop, (2, 0, 0, []))]),
  (2, [(.iload_n 2, i0), (.aload_n 0, i0), (.getfield 7, (10, 0, 2, [])), (.bipush 7, i0), (.iaload, (100, 0, 0, [])), (.if_icmp .ge 105, (115, 0, 0, [])), (.aload_n 0, i0), (.getfield 7, (10, 0, 2, [])), (.bipush 90, i0), (.bipush 6, i0), (.iload_n 2, i0), (.imul, i0), (.iadd, i0), (.iaload, (100, 0, 0, [])), (.bipush 22, i0), (.if_icmp .ne 88, (115, 0, 0, [])), (.aload_n 0, i0), (.getfield 7, (10, 0, 2, [])), (.bipush 90, i0), (.bipush 6, i0), (.iload_n 2, i0), (.imul, i0), (.iadd, i0), (.iconst 4, i0), (.iadd, i0), (.iaload, (100, 0, 0, [])), (.istore_n 3, i0), (.aload_n 0, i0), (.getfield 7, (10, 0, 2, [])), (.bipush 90, i0), (.bipush 6, i0), (.iload_n 3, i0), (.imul, i0), (.iadd, i0), (.iaload, (100, 0, 0, [])), (.bipush 21, i0), (.if_icmp .ne 16, (75, 0, 0, [])), (.aload_n 0, i0), (.getfield 69, (10, 34, 2, [])), (.iload_n 3, i0), (.iaload, (100, 0, 0, [])), (.ifCond .le 7, (75, 0, 0, [])), (.iconst 1, i0), (.goto 4, (76, 0, 0, []))]),
  (75, [(.iconst 0, i0), (.nop, (76, 0, 0, []))]),
  (76, [(.istore 4, i0), (.aload_n 0, i0), (.getfield 69, (10, 34, 2, [])), (.iload_n 3, i0), (.dup2, i0), (.iaload, (100, 0, 0, [])), (.iload 4, i0), (.ifCond .eq 7, (94, 0, 0, [])), (.iconst 1, i0), (.goto 4, (95, 0, 0, []))]),
  (94, [(.iconst 0, i0), (.nop, (95, 0, 0, []))]),
  (95, [(.isub, i0), (.iastore, i0), (.iload 4, i0), (.ifCond .eq 9, (108, 0, 0, [])), (.iload_n 3, i0), (.iconst 1, i0), (.iadd, i0), (.goto 6, (111, 0, 0, []))]),
  (108, [(.iload_n 2, i0), (.iconst 1, i0), (.iadd, i0), (.nop, (111, 0, 0, []))]),
  (111, [(.istore_n 2, i0), (.goto (-110), (2, 0, 0, []))]),
  (115, [(.iload_n 2, i0), (.ireturn, (0, 0, 0, []))])]
def KX10_lives : List (Nat × List OpI) := [(0, [(.aload_n 0, i0), (.iload_n 1, i0), (.putfield 456, (10, 32, 0, [])), (.aload_n 0, i0), (.iconst 0, i0), (.putfield 478, (10, 33, 0, [])), (.iconst 0, i0), (.istore_n 2, i0), (.nop, (12, 0, 0, []))]),
  (12, [(.iload_n 2, i0), (.iconst 5, i0), (.if_icmp .ge 16, (30, 0, 0, [])), (.aload_n 0, i0), (.getfield 72, (10, 35, 2, [])), (.iload_n 2, i0), (.iconst 0, i0), (.iastore, i0), (.iinc 2 1, i0), (.goto (-15), (12, 0, 0, []))]),
  (30, [(.aload_n 0, i0), (.iconst 5, i0), (.invokevirtual 296, (259, 2, 10, [])), (.istore_n 2, i0), (.aload_n 0, i0), (.iconst 4, i0), (.invokevirtual 296, (259, 2, 10, [])), (.istore_n 3, i0), (.iconst 0, i0), (.istore 4, i0), (.nop, (45, 0, 0, []))]),
  (45, [(.iload 4, i0), (.aload_n 0, i0), (.getfield 7, (10, 0, 2, [])), (.bipush 7, i0), (.iaload, (100, 0, 0, [])), (.if_icmp .ge 169, (223, 0, 0, [])), (.aload_n 0, i0), (.getfield 72, (10, 35, 2, [])), (.iconst 4, i0), (.iaload, (100, 0, 0, [])), (.ifCond .ne 160, (223, 0, 0, [])), (.bipush 90, i0), (.bipush 6, i0), (.iload 4, i0), (.imul, i0), (.iadd, i0), (.istore 5, i0), (.aload_n 0, i0), (.getfield 478, (10, 33, 0, [])), (.sipush 300, i0), (.if_icmp .ne 13, (96, 0, 0, [])), (.aload_n 0, i0), (.getfield 72, (10, 35, 2, [])), (.iconst 4, i0), (.iconst 1, i0), (.iastore, i0), (.goto (-48), (45, 0, 0, []))]),
  (96, [(.aload_n 0, i0), (.dup, i0), (.getfield 478, (10, 33, 0, [])), (.iconst 1, i0), (.iadd, i0), (.putfield 478, (10, 33, 0, [])), (.aload_n 0, i0), (.getfield 7, (10, 0, 2, [])), (.iload 5, i0), (.iaload, (100, 0, 0, [])), (.bipush 23, i0), (.if_icmp .ne 6, (121, 0, 0, [])), (.goto 105, (223, 0, 0, []))]),
  (121, [(.aload_n 0, i0), (.getfield 72, (10, 35, 2, [])), (.iconst 0, i0), (.dup2, i0), (.iaload, (100, 0, 0, [])), (.aload_n 0, i0), (.iload 5, i0), (.invokevirtual 481, (341, 2, 10, [])), (.ifCond .eq 7, (141, 0, 0, [])), (.iconst 0, i0), (.goto 4, (142, 0, 0, []))]),
  (141, [(.iconst 1, i0), (.nop, (142, 0, 0, []))]),
  (142, [(.iadd, i0), (.iastore, i0), (.aload_n 0, i0), (.getfield 7, (10, 0, 2, [])), (.iload 5, i0), (.iaload, (100, 0, 0, [])), (.bipush 21, i0), (.if_icmp .ne 21, (174, 0, 0, [])), (.aload_n 0, i0), (.getfield 69, (10, 34, 2, [])), (.iload 4, i0), (.aload_n 0, i0), (.getfield 7, (10, 0, 2, [])), (.iload 5, i0), (.iconst 1, i0), (.iadd, i0), (.iaload, (100, 0, 0, [])), (.iconst 1, i0), (.isub, i0), (.iastore, i0), (.nop, (174, 0, 0, []))]),
  (174, [(.aload_n 0, i0), (.aload_n 0, i0), (.getfield 7, (10, 0, 2, [])), (.iload 5, i0), (.iaload, (100, 0, 0, [])), (.sipush 2000, i0), (.if_icmp .lt 26, (211, 0, 0, [])), (.aload_n 0, i0), (.iload 5, i0), (.invokevirtual 484, (342, 2, 10, [])), (.ifCond .ne 17, (211, 0, 0, [])), (.aload_n 0, i0), (.getfield 7, (10, 0, 2, [])), (.iload 5, i0), (.iconst 4, i0), (.iadd, i0), (.iaload, (100, 0, 0, [])), (.iconst 1, i0), (.iadd, i0), (.goto 7, (215, 0, 0, []))]),
  (211, [(.iload 4, i0), (.iconst 1, i0), (.iadd, i0), (.nop, (215, 0, 0, []))]),
  (215, [(.invokevirtual 487, (343, 2, 10, [])), (.istore 4, i0), (.goto (-175), (45, 0, 0, []))]),
  (223, [(.aload_n 0, i0), (.getfield 72, (10, 35, 2, [])), (.iconst 2, i0), (.aload_n 0, i0), (.iconst 5, i0), (.invokevirtual 296, (259, 2, 10, [])), (.iload_n 2, i0), (.isub, i0), (.iastore, i0), (.aload_n 0, i0), (.getfield 72, (10, 35, 2, [])), (.iconst 3, i0), (.aload_n 0, i0), (.iconst 4, i0), (.invokevirtual 296, (259, 2, 10, [])), (.iload_n 3, i0), (.isub, i0), (.iastore, i0), (.return_, i0)])]
def KX10_live : List (Nat × List OpI) := [(0, [(.iload_n 1, i0), (.i2l, i0), (.lconst 0, i0), (.ldc2_w 490, (0, 0, 9999, [])), (.invokestatic 264, (208, 3, 0, [])), (.ifCond .ne 9, (18, 0, 0, [])), (.aload_n 0, i0), (.iconst 1, i0), (.invokevirtual 88, (197, 2, 10, [])), (.ireturn, (0, 0, 0, []))]),
  (18, [(.aload_n 0, i0), (.getfield 7, (10, 0, 2, [])), (.bipush 7, i0), (.iaload, (100, 0, 0, [])), (.iconst (-1), i0), (.if_icmp .ne 10, (36, 0, 0, [])), (.aload_n 0, i0), (.bipush 6, i0), (.invokevirtual 88, (197, 2, 10, [])), (.ireturn, (0, 0, 0, []))]),
  (36, [(.aload_n 0, i0), (.iload_n 1, i0), (.invokevirtual 492, (344, 2, 10, [])), (.iconst 0, i0), (.istore_n 2, i0), (.nop, (43, 0, 0, []))]),
  (43, [(.iload_n 2, i0), (.iconst 5, i0), (.if_icmp .ge 21, (66, 0, 0, [])), (.aload_n 0, i0), (.getfield 75, (10, 36, 2, [])), (.iload_n 2, i0), (.aload_n 0, i0), (.getfield 72, (10, 35, 2, [])), (.iload_n 2, i0), (.iaload, (100, 0, 0, [])), (.iastore, i0), (.iinc 2 1, i0), (.goto (-20), (43, 0, 0, []))]),
  (66, [(.aload_n 0, i0), (.iconst 1, i0), (.putfield 495, (10, 37, 3, [])), (.aload_n 0, i0), (.aload_n 0, i0), (.getfield 478, (10, 33, 0, [])), (.invokevirtual 92, (198, 2, 10, [])), (.ireturn, (0, 0, 0, []))])]
def KX10_lived : List (Nat × List OpI) := [(0, [(.iload_n 1, i0), (.ifCond .lt 8, (9, 0, 0, [])), (.iload_n 1, i0), (.iconst 4, i0), (.if_icmp .le 11, (17, 0, 0, [])), (.nop, (9, 0, 0, []))]),
  (9, [(.aload_n 0, i0), (.iconst 1, i0), (.invokevirtual 88, (197, 2, 10, [])), (.goto 29, (43, 0, 0, []))]),
  (17, [(.aload_n 0, i0), (.getfield 495, (10, 37, 0, [])), (.ifCond .eq 16, (37, 0, 0, [])), (.aload_n 0, i0), (.aload_n 0, i0), (.getfield 75, (10, 36, 2, [])), (.iload_n 1, i0), (.iaload, (100, 0, 0, [])), (.invokevirtual 92, (198, 2, 10, [])), (.goto 9, (43, 0, 0, []))]),
  (37, [(.aload_n 0, i0), (.bipush 6, i0), (.invokevirtual 88, (197, 2, 10, [])), (.nop, (43, 0, 0, []))]),
  (43, [(.ireturn, (0, 0, 0, []))])]
def KX10_mean : List (Nat × List OpI) := [(0, [(.iload_n 1, i0), (.i2l, i0), (.lconst 0, i0), (.ldc2_w 490, (0, 0, 9999, [])), (.invokestatic 264, (208, 3, 0, [])), (.ifCond .eq 26, (35, 0, 0, [])), (.iload_n 2, i0), (.i2l, i0), (.lconst 1, i0), (.ldc2_w 409, (0, 0, 20, [])), (.invokestatic 264, (208, 3, 0, [])), (.ifCond .eq 14, (35, 0, 0, [])), (.iload_n 1, i0), (.iload_n 2, i0), (.iadd, i0), (.iconst 1, i0), (.isub, i0), (.sipush 9999, i0), (.if_icmp .le 9, (41, 0, 0, [])), (.nop, (35, 0, 0, []))]),
  (35, [(.aload_n 0, i0), (.iconst 1, i0), (.invokevirtual 95, (196, 2, 10, [])), (.ireturn, (1, 0, 0, []))]),
  (41, [(.aload_n 0, i0), (.getfield 7, (10, 0, 2, [])), (.bipush 7, i0), (.iaload, (100, 0, 0, [])), (.iconst (-1), i0), (.if_icmp .ne 10, (59, 0, 0, [])), (.aload_n 0, i0), (.bipush 6, i0), (.invokevirtual 95, (196, 2, 10, [])), (.ireturn, (1, 0, 0, []))]),
  (59, [(.aload_n 0, i0), (.sipush 2290, i0), (.invokevirtual 353, (284, 2, 10, [])), (.lconst 0, i0), (.lstore_n 3, i0), (.iconst 0, i0), (.istore 5, i0), (.nop, (71, 0, 0, []))]),
  (71, [(.iload 5, i0), (.iload_n 2, i0), (.if_icmp .ge 33, (107, 0, 0, [])), (.aload_n 0, i0), (.iload_n 1, i0), (.iload 5, i0), (.iadd, i0), (.invokevirtual 492, (344, 2, 10, [])), (.lload_n 3, i0), (.aload_n 0, i0), (.iconst 3, i0), (.invokevirtual 296, (259, 2, 10, [])), (.i2l, i0), (.ladd, i0), (.lstore_n 3, i0), (.aload_n 0, i0), (.sipush 2290, i0), (.invokevirtual 356, (285, 2, 10, [])), (.iinc 5 1, i0), (.goto (-33), (71, 0, 0, []))]),
  (107, [(.aload_n 0, i0), (.lload_n 3, i0), (.iload_n 2, i0), (.i2l, i0), (.invokevirtual 446, (200, 3, 10, [])), (.ireturn, (1, 0, 0, []))])]
def KX10_copies : List (Nat × List OpI) := [(0, [(.iconst 0, i0), (.istore_n 3, i0), (.nop, (2, 0, 0, []))]),
  (2, [(.iload_n 3, i0), (.sipush 458, i0), (.if_icmp .ge 33, (39, 0, 0, [])), (.aload_n 0, i0), (.getfield 7, (10, 0, 2, [])), (.sipush 458, i0), (.iload_n 2, i0), (.imul, i0), (.iload_n 3, i0), (.iadd, i0), (.aload_n 0, i0), (.getfield 7, (10, 0, 2, [])), (.sipush 458, i0), (.iload_n 1, i0), (.imul, i0), (.iload_n 3, i0), (.iadd, i0), (.iaload, (100, 0, 0, [])), (.iastore, i0), (.iinc 3 1, i0), (.goto (-34), (2, 0, 0, []))]),
  (39, [(.iconst 0, i0), (.istore_n 3, i0), (.nop, (41, 0, 0, []))]),
  (41, [(.iload_n 3, i0), (.bipush 6, i0), (.if_icmp .ge 31, (75, 0, 0, [])), (.aload_n 0, i0), (.getfield 13, (10, 1, 2, [])), (.bipush 6, i0), (.iload_n 2, i0), (.imul, i0), (.iload_n 3, i0), (.iadd, i0), (.aload_n 0, i0), (.getfield 13, (10, 1, 2, [])), (.bipush 6, i0), (.iload_n 1, i0), (.imul, i0), (.iload_n 3, i0), (.iadd, i0), (.laload, i0), (.lastore, i0), (.iinc 3 1, i0), (.goto (-31), (41, 0, 0, []))]),
  (75, [(.return_, i0)])]
def KX10_mark : List (Nat × List OpI) := [(0, [(.aload_n 0, i0), (.getfield 499, (10, 38, 0, [])), (.iconst 3, i0), (.if_icmp .ne 9, (14, 0, 0, [])), (.aload_n 0, i0), (.iconst 4, i0), (.invokevirtual 88, (197, 2, 10, [])), (.ireturn, (0, 0, 0, []))]),
  (14, [(.aload_n 0, i0), (.dup, i0), (.getfield 499, (10, 38, 0, [])), (.iconst 1, i0), (.iadd, i0), (.putfield 499, (10, 38, 0, [])), (.aload_n 0, i0), (.iconst 0, i0), (.aload_n 0, i0), (.getfield 499, (10, 38, 0, [])), (.invokevirtual 502, (348, 3, 10, [])), (.aload_n 0, i0), (.aload_n 0, i0), (.getfield 499, (10, 38, 0, [])), (.invokevirtual 92, (198, 2, 10, [])), (.ireturn, (0, 0, 0, []))])]
def KX10_undo : List (Nat × List OpI) := [(0, [(.aload_n 0, i0), (.getfield 499, (10, 38, 0, [])), (.ifCond .ne 10, (14, 0, 0, [])), (.aload_n 0, i0), (.bipush 6, i0), (.invokevirtual 88, (197, 2, 10, [])), (.ireturn, (0, 0, 0, []))]),
  (14, [(.aload_n 0, i0), (.aload_n 0, i0), (.getfield 499, (10, 38, 0, [])), (.iconst 0, i0), (.invokevirtual 502, (348, 3, 10, [])), (.aload_n 0, i0), (.dup, i0), (.getfield 499, (10, 38, 0, [])), (.iconst 1, i0), (.isub, i0), (.putfield 499, (10, 38, 0, [])), (.aload_n 0, i0), (.aload_n 0, i0), (.getfield 499, (10, 38, 0, [])), (.invokevirtual 92, (198, 2, 10, [])), (.ireturn, (0, 0, 0, []))])]
def KJ6_bitCount_0f7a4 : List (Nat × List OpI) := [(0, [(.iload_n 0, i0), (.iload_n 0, i0), (.iconst 1, i0), (.iushr, i0), (.ldc_w 265, (0, 0, 1431655765, [])), (.iand, i0), (.isub, i0), (.istore_n 0, i0), (.iload_n 0, i0), (.ldc_w 266, (0, 0, 858993459, [])), (.iand, i0), (.iload_n 0, i0), (.iconst 2, i0), (.iushr, i0), (.ldc_w 266, (0, 0, 858993459, [])), (.iand, i0), (.iadd, i0), (.istore_n 0, i0), (.iload_n 0, i0), (.iload_n 0, i0), (.iconst 4, i0), (.iushr, i0), (.iadd, i0), (.ldc_w 267, (0, 0, 252645135, [])), (.iand, i0), (.istore_n 0, i0), (.iload_n 0, i0), (.iload_n 0, i0), (.bipush 8, i0), (.iushr, i0), (.iadd, i0), (.istore_n 0, i0), (.iload_n 0, i0), (.iload_n 0, i0), (.bipush 16, i0), (.iushr, i0), (.iadd, i0), (.istore_n 0, i0), (.iload_n 0, i0), (.bipush 63, i0), (.iand, i0), (.ireturn, (0, 0, 0, []))])]
def KJ7_fill_d0a16 : List (Nat × List OpI) := [(0, [(.iconst 0, i0), (.istore_n 3, i0), (.aload_n 0, i0), (.arraylength, (101, 0, 0, [])), (.istore 4, i0), (.nop, (6, 0, 0, []))]),
  (6, [(.iload_n 3, i0), (.iload 4, i0), (.if_icmp .ge 13, (22, 0, 0, [])), (.aload_n 0, i0), (.iload_n 3, i0), (.lload_n 1, i0), (.lastore, i0), (.iinc 3 1, i0), (.goto (-13), (6, 0, 0, []))]),
  (22, [(.return_, i0)])]
def KL_law : List (Nat × List OpI) := [(0, [(.new 7, (9, 19, 0, [])), (.dup, i0), (.invokespecial 9, (117, 1, 9, [(126, 3742)])), (.astore_n 1, i0), (.new 10, (10, 39, 0, [])), (.dup, i0), (.invokespecial 12, (191, 1, 10, [(18, 5588)])), (.astore_n 2, i0), (.iconst 0, i0), (.istore_n 3, i0), (.nop, (18, 0, 0, []))]),
  (18, [(.iload_n 3, i0), (.aload_n 0, i0), (.arraylength, (200, 0, 0, [])), (.bipush 6, i0), (.isub, i0), (.if_icmp .gt 1935, (1959, 0, 0, [])), (.aload_n 0, i0), (.iload_n 3, i0), (.iaload, (200, 0, 0, [])), (.bipush 63, i0), (.iand, i0), (.tableswitch 1920 0 55 #[239, 252, 266, 280, 323, 396, 430, 493, 556, 579, 602, 625, 648, 681, 714, 747, 770, 803, 826, 849, 872, 915, 938, 971, 1004, 1037, 1070, 1113, 1136, 1169, 1192, 1225, 1248, 1271, 1294, 1307, 1340, 1353, 1376, 1409, 1432, 1465, 1508, 1561, 1604, 1647, 1690, 1713, 1736, 1759, 1792, 1815, 1838, 1861, 1894, 1907], (1953, 239, 0, [(0, 272), (1, 285), (2, 299), (3, 313), (4, 356), (5, 429), (6, 463), (7, 526), (8, 589), (9, 612), (10, 635), (11, 658), (12, 681), (13, 714), (14, 747), (15, 780), (16, 803), (17, 836), (18, 859), (19, 882), (20, 905), (21, 948), (22, 971), (23, 1004), (24, 1037), (25, 1070), (26, 1103), (27, 1146), (28, 1169), (29, 1202), (30, 1225), (31, 1258), (32, 1281), (33, 1304), (34, 1327), (35, 1340), (36, 1373), (37, 1386), (38, 1409), (39, 1442), (40, 1465), (41, 1498), (42, 1541), (43, 1594), (44, 1637), (45, 1680), (46, 1723), (47, 1746), (48, 1769), (49, 1792), (50, 1825), (51, 1848), (52, 1871), (53, 1894), (54, 1927), (55, 1940)]))]),
  (272, [(.aload_n 1, i0), (.invokevirtual 13, (118, 1, 9, [])), (.aload_n 2, i0), (.invokevirtual 17, (193, 1, 10, [])), (.if_icmp .eq 1673, (1953, 0, 0, [])), (.iconst 0, i0), (.ireturn, (1, 0, 0, []))]),
  (285, [(.aload_n 1, i0), (.invokevirtual 18, (119, 1, 9, [])), (.aload_n 2, i0), (.invokevirtual 22, (194, 1, 10, [])), (.lcmp, i0), (.ifCond .eq 1659, (1953, 0, 0, [])), (.iconst 0, i0), (.ireturn, (1, 0, 0, []))]),
  (299, [(.aload_n 1, i0), (.invokevirtual 23, (120, 1, 9, [])), (.aload_n 2, i0), (.invokevirtual 26, (195, 1, 10, [])), (.lcmp, i0), (.ifCond .eq 1645, (1953, 0, 0, [])), (.iconst 0, i0), (.ireturn, (1, 0, 0, []))]),
  (313, [(.aload_n 1, i0), (.aload_n 0, i0), (.iload_n 3, i0), (.iconst 1, i0), (.iadd, i0), (.iaload, (200, 0, 0, [])), (.aload_n 0, i0), (.iload_n 3, i0), (.iconst 2, i0), (.iadd, i0), (.iaload, (200, 0, 0, [])), (.aload_n 0, i0), (.iload_n 3, i0), (.iconst 3, i0), (.iadd, i0), (.iaload, (200, 0, 0, [])), (.invokevirtual 27, (121, 4, 9, [])), (.aload_n 2, i0), (.aload_n 0, i0), (.iload_n 3, i0), (.iconst 1, i0), (.iadd, i0), (.iaload, (200, 0, 0, [])), (.aload_n 0, i0), (.iload_n 3, i0), (.iconst 2, i0), (.iadd, i0), (.iaload, (200, 0, 0, [])), (.aload_n 0, i0), (.iload_n 3, i0), (.iconst 3, i0), (.iadd, i0), (.iaload, (200, 0, 0, [])), (.invokevirtual 31, (203, 4, 10, [])), (.if_icmp .eq 1602, (1953, 0, 0, [])), (.iconst 0, i0), (.ireturn, (1, 0, 0, []))]),
  (356, [(.aload_n 1, i0), (.aload_n 0, i0), (.iload_n 3, i0), (.iconst 1, i0), (.iadd, i0), (.iaload, (200, 0, 0, [])), (.aload_n 0, i0), (.iload_n 3, i0), (.iconst 2, i0), (.iadd, i0), (.iaload, (200, 0, 0, [])), (.aload_n 0, i0), (.iload_n 3, i0), (.iconst 3, i0), (.iadd, i0), (.iaload, (200, 0, 0, [])), (.i2l, i0), (.bipush 32, i0), (.lshl, i0), (.aload_n 0, i0), (.iload_n 3, i0), (.iconst 4, i0), (.iadd, i0), (.iaload, (200, 0, 0, [])), (.i2l, i0), (.ldc2_w 32, (0, 0, 4294967295, [])), (.land, i0), (.lor, i0), (.invokevirtual 34, (122, 4, 9, [])), (.aload_n 2, i0), (.aload_n 0, i0), (.iload_n 3, i0), (.iconst 1, i0), (.iadd, i0), (.iaload, (200, 0, 0, [])), (.aload_n 0, i0), (.iload_n 3, i0), (.iconst 2, i0), (.iadd, i0), (.iaload, (200, 0, 0, [])), (.aload_n 0, i0), (.iload_n 3, i0), (.iconst 3, i0), (.iadd, i0), (.iaload, (200, 0, 0, [])), (.i2l, i0), (.bipush 32, i0), (.lshl, i0), (.aload_n 0, i0), (.iload_n 3, i0), (.iconst 4, i0), (.iadd, i0), (.iaload, (200, 0, 0, [])), (.i2l, i0), (.ldc2_w 32, (0, 0, 4294967295, [])), (.land, i0), (.lor, i0), (.invokevirtual 38, (205, 4, 10, [])), (.if_icmp .eq 1529, (1953, 0, 0, [])), (.iconst 0, i0), (.ireturn, (1, 0, 0, []))]),
  (429, [(.aload_n 1, i0), (.aload_n 0, i0), (.iload_n 3, i0), (.iconst 1, i0), (.iadd, i0), (.iaload, (200, 0, 0, [])), (.aload_n 0, i0), (.iload_n 3, i0), (.iconst 2, i0), (.iadd, i0), (.iaload, (200, 0, 0, [])), (.invokevirtual 39, (123, 3, 9, [])), (.aload_n 2, i0), (.aload_n 0, i0), (.iload_n 3, i0), (.iconst 1, i0), (.iadd, i0), (.iaload, (200, 0, 0, [])), (.aload_n 0, i0), (.iload_n 3, i0), (.iconst 2, i0), (.iadd, i0), (.iaload, (200, 0, 0, [])), (.invokevirtual 43, (206, 3, 10, [])), (.lcmp, i0), (.ifCond .eq 1495, (1953, 0, 0, [])), (.iconst 0, i0), (.ireturn, (1, 0, 0, []))]),
  (463, [(.aload_n 1, i0), (.aload_n 0, i0), (.iload_n 3, i0), (.iconst 1, i0), (.iadd, i0), (.iaload, (200, 0, 0, [])), (.aload_n 0, i0), (.iload_n 3, i0), (.iconst 2, i0), (.iadd, i0), (.iaload, (200, 0, 0, [])), (.aload_n 0, i0), (.iload_n 3, i0), (.iconst 3, i0), (.iadd, i0), (.iaload, (200, 0, 0, [])), (.aload_n 0, i0), (.iload_n 3, i0), (.iconst 4, i0), (.iadd, i0), (.iaload, (200, 0, 0, [])), (.aload_n 0, i0), (.iload_n 3, i0), (.iconst 5, i0), (.iadd, i0), (.iaload, (200, 0, 0, [])), (.invokevirtual 44, (124, 6, 9, [])), (.aload_n 2, i0), (.aload_n 0, i0), (.iload_n 3, i0), (.iconst 1, i0), (.iadd, i0), (.iaload, (200, 0, 0, [])), (.aload_n 0, i0), (.iload_n 3, i0), (.iconst 2, i0), (.iadd, i0), (.iaload, (200, 0, 0, [])), (.aload_n 0, i0), (.iload_n 3, i0), (.iconst 3, i0), (.iadd, i0), (.iaload, (200, 0, 0, [])), (.aload_n 0, i0), (.iload_n 3, i0), (.iconst 4, i0), (.iadd, i0), (.iaload, (200, 0, 0, [])), (.aload_n 0, i0), (.iload_n 3, i0), (.iconst 5, i0), (.iadd, i0), (.iaload, (200, 0, 0, [])), (.invokevirtual 48, (207, 6, 10, [])), (.if_icmp .eq 1432, (1953, 0, 0, [])), (.iconst 0, i0), (.ireturn, (1, 0, 0, []))]),
  (526, [(.aload_n 1, i0), (.aload_n 0, i0), (.iload_n 3, i0), (.iconst 1, i0), (.iadd, i0), (.iaload, (200, 0, 0, [])), (.aload_n 0, i0), (.iload_n 3, i0), (.iconst 2, i0), (.iadd, i0), (.iaload, (200, 0, 0, [])), (.aload_n 0, i0), (.iload_n 3, i0), (.iconst 3, i0), (.iadd, i0), (.iaload, (200, 0, 0, [])), (.aload_n 0, i0), (.iload_n 3, i0), (.iconst 4, i0), (.iadd, i0), (.iaload, (200, 0, 0, [])), (.aload_n 0, i0), (.iload_n 3, i0), (.iconst 5, i0), (.iadd, i0), (.iaload, (200, 0, 0, [])), (.invokevirtual 49, (125, 6, 9, [])), (.aload_n 2, i0), (.aload_n 0, i0), (.iload_n 3, i0), (.iconst 1, i0), (.iadd, i0), (.iaload, (200, 0, 0, [])), (.aload_n 0, i0), (.iload_n 3, i0), (.iconst 2, i0), (.iadd, i0), (.iaload, (200, 0, 0, [])), (.aload_n 0, i0), (.iload_n 3, i0), (.iconst 3, i0), (.iadd, i0), (.iaload, (200, 0, 0, [])), (.aload_n 0, i0), (.iload_n 3, i0), (.iconst 4, i0), (.iadd, i0), (.iaload, (200, 0, 0, [])), (.aload_n 0, i0), (.iload_n 3, i0), (.iconst 5, i0), (.iadd, i0), (.iaload, (200, 0, 0, [])), (.invokevirtual 53, (209, 6, 10, [])), (.if_icmp .eq 1369, (1953, 0, 0, [])), (.iconst 0, i0), (.ireturn, (1, 0, 0, []))]),
  (589, [(.aload_n 1, i0), (.aload_n 0, i0), (.iload_n 3, i0), (.iconst 1, i0), (.iadd, i0), (.iaload, (200, 0, 0, [])), (.invokevirtual 54, (126, 2, 9, [])), (.aload_n 2, i0), (.aload_n 0, i0), (.iload_n 3, i0), (.iconst 1, i0), (.iadd, i0), (.iaload, (200, 0, 0, [])), (.invokevirtual 58, (237, 2, 10, [])), (.if_icmp .eq 1346, (1953, 0, 0, [])), (.iconst 0, i0), (.ireturn, (1, 0, 0, []))]),
  (612, [(.aload_n 1, i0), (.aload_n 0, i0), (.iload_n 3, i0), (.iconst 1, i0), (.iadd, i0), (.iaload, (200, 0, 0, [])), (.invokevirtual 59, (127, 2, 9, [])), (.aload_n 2, i0), (.aload_n 0, i0), (.iload_n 3, i0), (.iconst 1, i0), (.iadd, i0), (.iaload, (200, 0, 0, [])), (.invokevirtual 62, (243, 2, 10, [])), (.if_icmp .eq 1323, (1953, 0, 0, [])), (.iconst 0, i0), (.ireturn, (1, 0, 0, []))]),
  (635, [(.aload_n 1, i0), (.aload_n 0, i0), (.iload_n 3, i0), (.iconst 1, i0), (.iadd, i0), (.iaload, (200, 0, 0, [])), (.invokevirtual 63, (128, 2, 9, [])), (.aload_n 2, i0), (.aload_n 0, i0), (.iload_n 3, i0), (.iconst 1, i0), (.iadd, i0), (.iaload, (200, 0, 0, [])), (.invokevirtual 66, (225, 2, 10, [])), (.if_icmp .eq 1300, (1953, 0, 0, [])), (.iconst 0, i0), (.ireturn, (1, 0, 0, []))]),
  (658, [(.aload_n 1, i0), (.aload_n 0, i0), (.iload_n 3, i0), (.iconst 1, i0), (.iadd, i0), (.iaload, (200, 0, 0, [])), (.invokevirtual 67, (129, 2, 9, [])), (.aload_n 2, i0), (.aload_n 0, i0), (.iload_n 3, i0), (.iconst 1, i0), (.iadd, i0), (.iaload, (200, 0, 0, [])), (.invokevirtual 70, (260, 2, 10, [])), (.if_icmp .eq 1277, (1953, 0, 0, [])), (.iconst 0, i0), (.ireturn, (1, 0, 0, []))]),
  (681, [(.aload_n 1, i0), (.aload_n 0, i0), (.iload_n 3, i0), (.iconst 1, i0), (.iadd, i0), (.iaload, (200, 0, 0, [])), (.aload_n 0, i0), (.iload_n 3, i0), (.iconst 2, i0), (.iadd, i0), (.iaload, (200, 0, 0, [])), (.invokevirtual 71, (130, 3, 9, [])), (.aload_n 2, i0), (.aload_n 0, i0), (.iload_n 3, i0), (.iconst 1, i0), (.iadd, i0), (.iaload, (200, 0, 0, [])), (.aload_n 0, i0), (.iload_n 3, i0), (.iconst 2, i0), (.iadd, i0), (.iaload, (200, 0, 0, [])), (.invokevirtual 75, (261, 3, 10, [])), (.if_icmp .eq 1244, (1953, 0, 0, [])), (.iconst 0, i0), (.ireturn, (1, 0, 0, []))]),
  (714, [(.aload_n 1, i0), (.aload_n 0, i0), (.iload_n 3, i0), (.iconst 1, i0), (.iadd, i0), (.iaload, (200, 0, 0, [])), (.aload_n 0, i0), (.iload_n 3, i0), (.iconst 2, i0), (.iadd, i0), (.iaload, (200, 0, 0, [])), (.invokevirtual 76, (131, 3, 9, [])), (.aload_n 2, i0), (.aload_n 0, i0), (.iload_n 3, i0), (.iconst 1, i0), (.iadd, i0), (.iaload, (200, 0, 0, [])), (.aload_n 0, i0), (.iload_n 3, i0), (.iconst 2, i0), (.iadd, i0), (.iaload, (200, 0, 0, [])), (.invokevirtual 79, (262, 3, 10, [])), (.if_icmp .eq 1211, (1953, 0, 0, [])), (.iconst 0, i0), (.ireturn, (1, 0, 0, []))]),
  (747, [(.aload_n 1, i0), (.aload_n 0, i0), (.iload_n 3, i0), (.iconst 1, i0), (.iadd, i0), (.iaload, (200, 0, 0, [])), (.aload_n 0, i0), (.iload_n 3, i0), (.iconst 2, i0), (.iadd, i0), (.iaload, (200, 0, 0, [])), (.invokevirtual 80, (132, 3, 9, [])), (.aload_n 2, i0), (.aload_n 0, i0), (.iload_n 3, i0), (.iconst 1, i0), (.iadd, i0), (.iaload, (200, 0, 0, [])), (.aload_n 0, i0), (.iload_n 3, i0), (.iconst 2, i0), (.iadd, i0), (.iaload, (200, 0, 0, [])), (.invokevirtual 83, (263, 3, 10, [])), (.if_icmp .eq 1178, (1953, 0, 0, [])), (.iconst 0, i0), (.ireturn, (1, 0, 0, []))]),
  (780, [(.aload_n 1, i0), (.aload_n 0, i0), (.iload_n 3, i0), (.iconst 1, i0), (.iadd, i0), (.iaload, (200, 0, 0, [])), (.invokevirtual 84, (133, 2, 9, [])), (.aload_n 2, i0), (.aload_n 0, i0), (.iload_n 3, i0), (.iconst 1, i0), (.iadd, i0), (.iaload, (200, 0, 0, [])), (.invokevirtual 87, (268, 2, 10, [])), (.if_icmp .eq 1155, (1953, 0, 0, [])), (.iconst 0, i0), (.ireturn, (1, 0, 0, []))]),
  (803, [(.aload_n 1, i0), (.aload_n 0, i0), (.iload_n 3, i0), (.iconst 1, i0), (.iadd, i0), (.iaload, (200, 0, 0, [])), (.aload_n 0, i0), (.iload_n 3, i0), (.iconst 2, i0), (.iadd, i0), (.iaload, (200, 0, 0, [])), (.invokevirtual 88, (134, 3, 9, [])), (.aload_n 2, i0), (.aload_n 0, i0), (.iload_n 3, i0), (.iconst 1, i0), (.iadd, i0), (.iaload, (200, 0, 0, [])), (.aload_n 0, i0), (.iload_n 3, i0), (.iconst 2, i0), (.iadd, i0), (.iaload, (200, 0, 0, [])), (.invokevirtual 91, (270, 3, 10, [])), (.if_icmp .eq 1122, (1953, 0, 0, [])), (.iconst 0, i0), (.ireturn, (1, 0, 0, []))]),
  (836, [(.aload_n 1, i0), (.aload_n 0, i0), (.iload_n 3, i0), (.iconst 1, i0), (.iadd, i0), (.iaload, (200, 0, 0, [])), (.invokevirtual 92, (135, 2, 9, [])), (.aload_n 2, i0), (.aload_n 0, i0), (.iload_n 3, i0), (.iconst 1, i0), (.iadd, i0), (.iaload, (200, 0, 0, [])), (.invokevirtual 95, (272, 2, 10, [])), (.if_icmp .eq 1099, (1953, 0, 0, [])), (.iconst 0, i0), (.ireturn, (1, 0, 0, []))]),
  (859, [(.aload_n 1, i0), (.aload_n 0, i0), (.iload_n 3, i0), (.iconst 1, i0), (.iadd, i0), (.iaload, (200, 0, 0, [])), (.invokevirtual 96, (136, 2, 9, [])), (.aload_n 2, i0), (.aload_n 0, i0), (.iload_n 3, i0), (.iconst 1, i0), (.iadd, i0), (.iaload, (200, 0, 0, [])), (.invokevirtual 99, (274, 2, 10, [])), (.if_icmp .eq 1076, (1953, 0, 0, [])), (.iconst 0, i0), (.ireturn, (1, 0, 0, []))]),
  (882, [(.aload_n 1, i0), (.aload_n 0, i0), (.iload_n 3, i0), (.iconst 1, i0), (.iadd, i0), (.iaload, (200, 0, 0, [])), (.invokevirtual 100, (137, 2, 9, [])), (.aload_n 2, i0), (.aload_n 0, i0), (.iload_n 3, i0), (.iconst 1, i0), (.iadd, i0), (.iaload, (200, 0, 0, [])), (.invokevirtual 103, (277, 2, 10, [])), (.if_icmp .eq 1053, (1953, 0, 0, [])), (.iconst 0, i0), (.ireturn, (1, 0, 0, []))]),
  (905, [(.aload_n 1, i0), (.aload_n 0, i0), (.iload_n 3, i0), (.iconst 1, i0), (.iadd, i0), (.iaload, (200, 0, 0, [])), (.aload_n 0, i0), (.iload_n 3, i0), (.iconst 2, i0), (.iadd, i0), (.iaload, (200, 0, 0, [])), (.aload_n 0, i0), (.iload_n 3, i0), (.iconst 3, i0), (.iadd, i0), (.iaload, (200, 0, 0, [])), (.invokevirtual 104, (138, 4, 9, [])), (.aload_n 2, i0), (.aload_n 0, i0), (.iload_n 3, i0), (.iconst 1, i0), (.iadd, i0), (.iaload, (200, 0, 0, [])), (.aload_n 0, i0), (.iload_n 3, i0), (.iconst 2, i0), (.iadd, i0), (.iaload, (200, 0, 0, [])), (.aload_n 0, i0), (.iload_n 3, i0), (.iconst 3, i0), (.iadd, i0), (.iaload, (200, 0, 0, [])), (.invokevirtual 107, (278, 4, 10, [])), (.if_icmp .eq 1010, (1953, 0, 0, [])), (.iconst 0, i0), (.ireturn, (1, 0, 0, []))]),
  (948, [(.aload_n 1, i0), (.aload_n 0, i0), (.iload_n 3, i0), (.iconst 1, i0), (.iadd, i0), (.iaload, (200, 0, 0, [])), (.invokevirtual 108, (139, 2, 9, [])), (.aload_n 2, i0), (.aload_n 0, i0), (.iload_n 3, i0), (.iconst 1, i0), (.iadd, i0), (.iaload, (200, 0, 0, [])), (.invokevirtual 111, (279, 2, 10, [])), (.if_icmp .eq 987, (1953, 0, 0, [])), (.iconst 0, i0), (.ireturn, (1, 0, 0, []))]),
  (971, [(.aload_n 1, i0), (.aload_n 0, i0), (.iload_n 3, i0), (.iconst 1, i0), (.iadd, i0), (.iaload, (200, 0, 0, [])), (.aload_n 0, i0), (.iload_n 3, i0), (.iconst 2, i0), (.iadd, i0), (.iaload, (200, 0, 0, [])), (.invokevirtual 112, (140, 3, 9, [])), (.aload_n 2, i0), (.aload_n 0, i0), (.iload_n 3, i0), (.iconst 1, i0), (.iadd, i0), (.iaload, (200, 0, 0, [])), (.aload_n 0, i0), (.iload_n 3, i0), (.iconst 2, i0), (.iadd, i0), (.iaload, (200, 0, 0, [])), (.invokevirtual 115, (280, 3, 10, [])), (.if_icmp .eq 954, (1953, 0, 0, [])), (.iconst 0, i0), (.ireturn, (1, 0, 0, []))]),
  (1004, [(.aload_n 1, i0), (.aload_n 0, i0), (.iload_n 3, i0), (.iconst 1, i0), (.iadd, i0), (.iaload, (200, 0, 0, [])), (.aload_n 0, i0), (.iload_n 3, i0), (.iconst 2, i0), (.iadd, i0), (.iaload, (200, 0, 0, [])), (.invokevirtual 116, (141, 3, 9, [])), (.aload_n 2, i0), (.aload_n 0, i0), (.iload_n 3, i0), (.iconst 1, i0), (.iadd, i0), (.iaload, (200, 0, 0, [])), (.aload_n 0, i0), (.iload_n 3, i0), (.iconst 2, i0), (.iadd, i0), (.iaload, (200, 0, 0, [])), (.invokevirtual 119, (281, 3, 10, [])), (.if_icmp .eq 921, (1953, 0, 0, [])), (.iconst 0, i0), (.ireturn, (1, 0, 0, []))]),
  (1037, [(.aload_n 1, i0), (.aload_n 0, i0), (.iload_n 3, i0), (.iconst 1, i0), (.iadd, i0), (.iaload, (200, 0, 0, [])), (.aload_n 0, i0), (.iload_n 3, i0), (.iconst 2, i0), (.iadd, i0), (.iaload, (200, 0, 0, [])), (.invokevirtual 120, (142, 3, 9, [])), (.aload_n 2, i0), (.aload_n 0, i0), (.iload_n 3, i0), (.iconst 1, i0), (.iadd, i0), (.iaload, (200, 0, 0, [])), (.aload_n 0, i0), (.iload_n 3, i0), (.iconst 2, i0), (.iadd, i0), (.iaload, (200, 0, 0, [])), (.invokevirtual 124, (282, 3, 10, [])), (.if_icmp .eq 888, (1953, 0, 0, [])), (.iconst 0, i0), (.ireturn, (1, 0, 0, []))]),
  (1070, [(.aload_n 1, i0), (.aload_n 0, i0), (.iload_n 3, i0), (.iconst 1, i0), (.iadd, i0), (.iaload, (200, 0, 0, [])), (.aload_n 0, i0), (.iload_n 3, i0), (.iconst 2, i0), (.iadd, i0), (.iaload, (200, 0, 0, [])), (.invokevirtual 125, (143, 3, 9, [])), (.aload_n 2, i0), (.aload_n 0, i0), (.iload_n 3, i0), (.iconst 1, i0), (.iadd, i0), (.iaload, (200, 0, 0, [])), (.aload_n 0, i0), (.iload_n 3, i0), (.iconst 2, i0), (.iadd, i0), (.iaload, (200, 0, 0, [])), (.invokevirtual 128, (286, 3, 10, [])), (.if_icmp .eq 855, (1953, 0, 0, [])), (.iconst 0, i0), (.ireturn, (1, 0, 0, []))]),
  (1103, [(.aload_n 1, i0), (.aload_n 0, i0), (.iload_n 3, i0), (.iconst 1, i0), (.iadd, i0), (.iaload, (200, 0, 0, [])), (.aload_n 0, i0), (.iload_n 3, i0), (.iconst 2, i0), (.iadd, i0), (.iaload, (200, 0, 0, [])), (.aload_n 0, i0), (.iload_n 3, i0), (.iconst 3, i0), (.iadd, i0), (.iaload, (200, 0, 0, [])), (.invokevirtual 129, (144, 4, 9, [])), (.aload_n 2, i0), (.aload_n 0, i0), (.iload_n 3, i0), (.iconst 1, i0), (.iadd, i0), (.iaload, (200, 0, 0, [])), (.aload_n 0, i0), (.iload_n 3, i0), (.iconst 2, i0), (.iadd, i0), (.iaload, (200, 0, 0, [])), (.aload_n 0, i0), (.iload_n 3, i0), (.iconst 3, i0), (.iadd, i0), (.iaload, (200, 0, 0, [])), (.invokevirtual 133, (287, 4, 10, [])), (.if_icmp .eq 812, (1953, 0, 0, [])), (.iconst 0, i0), (.ireturn, (1, 0, 0, []))]),
  (1146, [(.aload_n 1, i0), (.aload_n 0, i0), (.iload_n 3, i0), (.iconst 1, i0), (.iadd, i0), (.iaload, (200, 0, 0, [])), (.invokevirtual 134, (145, 2, 9, [])), (.aload_n 2, i0), (.aload_n 0, i0), (.iload_n 3, i0), (.iconst 1, i0), (.iadd, i0), (.iaload, (200, 0, 0, [])), (.invokevirtual 137, (289, 2, 10, [])), (.if_icmp .eq 789, (1953, 0, 0, [])), (.iconst 0, i0), (.ireturn, (1, 0, 0, []))]),
  (1169, [(.aload_n 1, i0), (.aload_n 0, i0), (.iload_n 3, i0), (.iconst 1, i0), (.iadd, i0), (.iaload, (200, 0, 0, [])), (.aload_n 0, i0), (.iload_n 3, i0), (.iconst 2, i0), (.iadd, i0), (.iaload, (200, 0, 0, [])), (.invokevirtual 138, (146, 3, 9, [])), (.aload_n 2, i0), (.aload_n 0, i0), (.iload_n 3, i0), (.iconst 1, i0), (.iadd, i0), (.iaload, (200, 0, 0, [])), (.aload_n 0, i0), (.iload_n 3, i0), (.iconst 2, i0), (.iadd, i0), (.iaload, (200, 0, 0, [])), (.invokevirtual 141, (290, 3, 10, [])), (.if_icmp .eq 756, (1953, 0, 0, [])), (.iconst 0, i0), (.ireturn, (1, 0, 0, []))]),
  (1202, [(.aload_n 1, i0), (.aload_n 0, i0), (.iload_n 3, i0), (.iconst 1, i0), (.iadd, i0), (.iaload, (200, 0, 0, [])), (.invokevirtual 142, (147, 2, 9, [])), (.aload_n 2, i0), (.aload_n 0, i0), (.iload_n 3, i0), (.iconst 1, i0), (.iadd, i0), (.iaload, (200, 0, 0, [])), (.invokevirtual 145, (292, 2, 10, [])), (.if_icmp .eq 733, (1953, 0, 0, [])), (.iconst 0, i0), (.ireturn, (1, 0, 0, []))]),
  (1225, [(.aload_n 1, i0), (.aload_n 0, i0), (.iload_n 3, i0), (.iconst 1, i0), (.iadd, i0), (.iaload, (200, 0, 0, [])), (.aload_n 0, i0), (.iload_n 3, i0), (.iconst 2, i0), (.iadd, i0), (.iaload, (200, 0, 0, [])), (.invokevirtual 146, (148, 3, 9, [])), (.aload_n 2, i0), (.aload_n 0, i0), (.iload_n 3, i0), (.iconst 1, i0), (.iadd, i0), (.iaload, (200, 0, 0, [])), (.aload_n 0, i0), (.iload_n 3, i0), (.iconst 2, i0), (.iadd, i0), (.iaload, (200, 0, 0, [])), (.invokevirtual 149, (293, 3, 10, [])), (.if_icmp .eq 700, (1953, 0, 0, [])), (.iconst 0, i0), (.ireturn, (1, 0, 0, []))]),
  (1258, [(.aload_n 1, i0), (.aload_n 0, i0), (.iload_n 3, i0), (.iconst 1, i0), (.iadd, i0), (.iaload, (200, 0, 0, [])), (.invokevirtual 150, (149, 2, 9, [])), (.aload_n 2, i0), (.aload_n 0, i0), (.iload_n 3, i0), (.iconst 1, i0), (.iadd, i0), (.iaload, (200, 0, 0, [])), (.invokevirtual 153, (294, 2, 10, [])), (.if_icmp .eq 677, (1953, 0, 0, [])), (.iconst 0, i0), (.ireturn, (1, 0, 0, []))]),
  (1281, [(.aload_n 1, i0), (.aload_n 0, i0), (.iload_n 3, i0), (.iconst 1, i0), (.iadd, i0), (.iaload, (200, 0, 0, [])), (.invokevirtual 154, (150, 2, 9, [])), (.aload_n 2, i0), (.aload_n 0, i0), (.iload_n 3, i0), (.iconst 1, i0), (.iadd, i0), (.iaload, (200, 0, 0, [])), (.invokevirtual 157, (296, 2, 10, [])), (.if_icmp .eq 654, (1953, 0, 0, [])), (.iconst 0, i0), (.ireturn, (1, 0, 0, []))]),
  (1304, [(.aload_n 1, i0), (.aload_n 0, i0), (.iload_n 3, i0), (.iconst 1, i0), (.iadd, i0), (.iaload, (200, 0, 0, [])), (.invokevirtual 158, (151, 2, 9, [])), (.aload_n 2, i0), (.aload_n 0, i0), (.iload_n 3, i0), (.iconst 1, i0), (.iadd, i0), (.iaload, (200, 0, 0, [])), (.invokevirtual 161, (297, 2, 10, [])), (.if_icmp .eq 631, (1953, 0, 0, [])), (.iconst 0, i0), (.ireturn, (1, 0, 0, []))]),
  (1327, [(.aload_n 1, i0), (.invokevirtual 162, (152, 1, 9, [])), (.aload_n 2, i0), (.invokevirtual 165, (298, 1, 10, [])), (.if_icmp .eq 618, (1953, 0, 0, [])), (.iconst 0, i0), (.ireturn, (1, 0, 0, []))]),
  (1340, [(.aload_n 1, i0), (.aload_n 0, i0), (.iload_n 3, i0), (.iconst 1, i0), (.iadd, i0), (.iaload, (200, 0, 0, [])), (.aload_n 0, i0), (.iload_n 3, i0), (.iconst 2, i0), (.iadd, i0), (.iaload, (200, 0, 0, [])), (.invokevirtual 166, (153, 3, 9, [])), (.aload_n 2, i0), (.aload_n 0, i0), (.iload_n 3, i0), (.iconst 1, i0), (.iadd, i0), (.iaload, (200, 0, 0, [])), (.aload_n 0, i0), (.iload_n 3, i0), (.iconst 2, i0), (.iadd, i0), (.iaload, (200, 0, 0, [])), (.invokevirtual 169, (299, 3, 10, [])), (.if_icmp .eq 585, (1953, 0, 0, [])), (.iconst 0, i0), (.ireturn, (1, 0, 0, []))]),
  (1373, [(.aload_n 1, i0), (.invokevirtual 170, (154, 1, 9, [])), (.aload_n 2, i0), (.invokevirtual 173, (304, 1, 10, [])), (.if_icmp .eq 572, (1953, 0, 0, [])), (.iconst 0, i0), (.ireturn, (1, 0, 0, []))]),
  (1386, [(.aload_n 1, i0), (.aload_n 0, i0), (.iload_n 3, i0), (.iconst 1, i0), (.iadd, i0), (.iaload, (200, 0, 0, [])), (.invokevirtual 174, (155, 2, 9, [])), (.aload_n 2, i0), (.aload_n 0, i0), (.iload_n 3, i0), (.iconst 1, i0), (.iadd, i0), (.iaload, (200, 0, 0, [])), (.invokevirtual 177, (306, 2, 10, [])), (.if_icmp .eq 549, (1953, 0, 0, [])), (.iconst 0, i0), (.ireturn, (1, 0, 0, []))]),
  (1409, [(.aload_n 1, i0), (.aload_n 0, i0), (.iload_n 3, i0), (.iconst 1, i0), (.iadd, i0), (.iaload, (200, 0, 0, [])), (.aload_n 0, i0), (.iload_n 3, i0), (.iconst 2, i0), (.iadd, i0), (.iaload, (200, 0, 0, [])), (.invokevirtual 178, (156, 3, 9, [])), (.aload_n 2, i0), (.aload_n 0, i0), (.iload_n 3, i0), (.iconst 1, i0), (.iadd, i0), (.iaload, (200, 0, 0, [])), (.aload_n 0, i0), (.iload_n 3, i0), (.iconst 2, i0), (.iadd, i0), (.iaload, (200, 0, 0, [])), (.invokevirtual 181, (308, 3, 10, [])), (.if_icmp .eq 516, (1953, 0, 0, [])), (.iconst 0, i0), (.ireturn, (1, 0, 0, []))]),
  (1442, [(.aload_n 1, i0), (.aload_n 0, i0), (.iload_n 3, i0), (.iconst 1, i0), (.iadd, i0), (.iaload, (200, 0, 0, [])), (.invokevirtual 182, (157, 2, 9, [])), (.aload_n 2, i0), (.aload_n 0, i0), (.iload_n 3, i0), (.iconst 1, i0), (.iadd, i0), (.iaload, (200, 0, 0, [])), (.invokevirtual 185, (311, 2, 10, [])), (.if_icmp .eq 493, (1953, 0, 0, [])), (.iconst 0, i0), (.ireturn, (1, 0, 0, []))]),
  (1465, [(.aload_n 1, i0), (.aload_n 0, i0), (.iload_n 3, i0), (.iconst 1, i0), (.iadd, i0), (.iaload, (200, 0, 0, [])), (.aload_n 0, i0), (.iload_n 3, i0), (.iconst 2, i0), (.iadd, i0), (.iaload, (200, 0, 0, [])), (.invokevirtual 186, (158, 3, 9, [])), (.aload_n 2, i0), (.aload_n 0, i0), (.iload_n 3, i0), (.iconst 1, i0), (.iadd, i0), (.iaload, (200, 0, 0, [])), (.aload_n 0, i0), (.iload_n 3, i0), (.iconst 2, i0), (.iadd, i0), (.iaload, (200, 0, 0, [])), (.invokevirtual 189, (312, 3, 10, [])), (.if_icmp .eq 460, (1953, 0, 0, [])), (.iconst 0, i0), (.ireturn, (1, 0, 0, []))]),
  (1498, [(.aload_n 1, i0), (.aload_n 0, i0), (.iload_n 3, i0), (.iconst 1, i0), (.iadd, i0), (.iaload, (200, 0, 0, [])), (.aload_n 0, i0), (.iload_n 3, i0), (.iconst 2, i0), (.iadd, i0), (.iaload, (200, 0, 0, [])), (.aload_n 0, i0), (.iload_n 3, i0), (.iconst 3, i0), (.iadd, i0), (.iaload, (200, 0, 0, [])), (.invokevirtual 190, (159, 4, 9, [])), (.aload_n 2, i0), (.aload_n 0, i0), (.iload_n 3, i0), (.iconst 1, i0), (.iadd, i0), (.iaload, (200, 0, 0, [])), (.aload_n 0, i0), (.iload_n 3, i0), (.iconst 2, i0), (.iadd, i0), (.iaload, (200, 0, 0, [])), (.aload_n 0, i0), (.iload_n 3, i0), (.iconst 3, i0), (.iadd, i0), (.iaload, (200, 0, 0, [])), (.invokevirtual 193, (315, 4, 10, [])), (.if_icmp .eq 417, (1953, 0, 0, [])), (.iconst 0, i0), (.ireturn, (1, 0, 0, []))]),
  (1541, [(.aload_n 1, i0), (.aload_n 0, i0), (.iload_n 3, i0), (.iconst 1, i0), (.iadd, i0), (.iaload, (200, 0, 0, [])), (.aload_n 0, i0), (.iload_n 3, i0), (.iconst 2, i0), (.iadd, i0), (.iaload, (200, 0, 0, [])), (.aload_n 0, i0), (.iload_n 3, i0), (.iconst 3, i0), (.iadd, i0), (.iaload, (200, 0, 0, [])), (.aload_n 0, i0), (.iload_n 3, i0), (.iconst 4, i0), (.iadd, i0), (.iaload, (200, 0, 0, [])), (.invokevirtual 194, (160, 5, 9, [])), (.aload_n 2, i0), (.aload_n 0, i0), (.iload_n 3, i0), (.iconst 1, i0), (.iadd, i0), (.iaload, (200, 0, 0, [])), (.aload_n 0, i0), (.iload_n 3, i0), (.iconst 2, i0), (.iadd, i0), (.iaload, (200, 0, 0, [])), (.aload_n 0, i0), (.iload_n 3, i0), (.iconst 3, i0), (.iadd, i0), (.iaload, (200, 0, 0, [])), (.aload_n 0, i0), (.iload_n 3, i0), (.iconst 4, i0), (.iadd, i0), (.iaload, (200, 0, 0, [])), (.invokevirtual 198, (316, 5, 10, [])), (.if_icmp .eq 364, (1953, 0, 0, [])), (.iconst 0, i0), (.ireturn, (1, 0, 0, []))]),
  (1594, [(.aload_n 1, i0), (.aload_n 0, i0), (.iload_n 3, i0), (.iconst 1, i0), (.iadd, i0), (.iaload, (200, 0, 0, [])), (.aload_n 0, i0), (.iload_n 3, i0), (.iconst 2, i0), (.iadd, i0), (.iaload, (200, 0, 0, [])), (.aload_n 0, i0), (.iload_n 3, i0), (.iconst 3, i0), (.iadd, i0), (.iaload, (200, 0, 0, [])), (.invokevirtual 199, (161, 4, 9, [])), (.aload_n 2, i0), (.aload_n 0, i0), (.iload_n 3, i0), (.iconst 1, i0), (.iadd, i0), (.iaload, (200, 0, 0, [])), (.aload_n 0, i0), (.iload_n 3, i0), (.iconst 2, i0), (.iadd, i0), (.iaload, (200, 0, 0, [])), (.aload_n 0, i0), (.iload_n 3, i0), (.iconst 3, i0), (.iadd, i0), (.iaload, (200, 0, 0, [])), (.invokevirtual 202, (318, 4, 10, [])), (.if_icmp .eq 321, (1953, 0, 0, [])), (.iconst 0, i0), (.ireturn, (1, 0, 0, []))]),
  (1637, [(.aload_n 1, i0), (.aload_n 0, i0), (.iload_n 3, i0), (.iconst 1, i0), (.iadd, i0), (.iaload, (200, 0, 0, [])), (.aload_n 0, i0), (.iload_n 3, i0), (.iconst 2, i0), (.iadd, i0), (.iaload, (200, 0, 0, [])), (.aload_n 0, i0), (.iload_n 3, i0), (.iconst 3, i0), (.iadd, i0), (.iaload, (200, 0, 0, [])), (.invokevirtual 203, (162, 4, 9, [])), (.aload_n 2, i0), (.aload_n 0, i0), (.iload_n 3, i0), (.iconst 1, i0), (.iadd, i0), (.iaload, (200, 0, 0, [])), (.aload_n 0, i0), (.iload_n 3, i0), (.iconst 2, i0), (.iadd, i0), (.iaload, (200, 0, 0, [])), (.aload_n 0, i0), (.iload_n 3, i0), (.iconst 3, i0), (.iadd, i0), (.iaload, (200, 0, 0, [])), (.invokevirtual 206, (324, 4, 10, [])), (.if_icmp .eq 278, (1953, 0, 0, [])), (.iconst 0, i0), (.ireturn, (1, 0, 0, []))]),
  (1680, [(.aload_n 1, i0), (.aload_n 0, i0), (.iload_n 3, i0), (.iconst 1, i0), (.iadd, i0), (.iaload, (200, 0, 0, [])), (.aload_n 0, i0), (.iload_n 3, i0), (.iconst 2, i0), (.iadd, i0), (.iaload, (200, 0, 0, [])), (.aload_n 0, i0), (.iload_n 3, i0), (.iconst 3, i0), (.iadd, i0), (.iaload, (200, 0, 0, [])), (.invokevirtual 207, (163, 4, 9, [])), (.aload_n 2, i0), (.aload_n 0, i0), (.iload_n 3, i0), (.iconst 1, i0), (.iadd, i0), (.iaload, (200, 0, 0, [])), (.aload_n 0, i0), (.iload_n 3, i0), (.iconst 2, i0), (.iadd, i0), (.iaload, (200, 0, 0, [])), (.aload_n 0, i0), (.iload_n 3, i0), (.iconst 3, i0), (.iadd, i0), (.iaload, (200, 0, 0, [])), (.invokevirtual 210, (325, 4, 10, [])), (.if_icmp .eq 235, (1953, 0, 0, [])), (.iconst 0, i0), (.ireturn, (1, 0, 0, []))]),
  (1723, [(.aload_n 1, i0), (.aload_n 0, i0), (.iload_n 3, i0), (.iconst 1, i0), (.iadd, i0), (.iaload, (200, 0, 0, [])), (.invokevirtual 211, (164, 2, 9, [])), (.aload_n 2, i0), (.aload_n 0, i0), (.iload_n 3, i0), (.iconst 1, i0), (.iadd, i0), (.iaload, (200, 0, 0, [])), (.invokevirtual 214, (328, 2, 10, [])), (.if_icmp .eq 212, (1953, 0, 0, [])), (.iconst 0, i0), (.ireturn, (1, 0, 0, []))]),
  (1746, [(.aload_n 1, i0), (.aload_n 0, i0), (.iload_n 3, i0), (.iconst 1, i0), (.iadd, i0), (.iaload, (200, 0, 0, [])), (.invokevirtual 215, (165, 2, 9, [])), (.aload_n 2, i0), (.aload_n 0, i0), (.iload_n 3, i0), (.iconst 1, i0), (.iadd, i0), (.iaload, (200, 0, 0, [])), (.invokevirtual 218, (329, 2, 10, [])), (.if_icmp .eq 189, (1953, 0, 0, [])), (.iconst 0, i0), (.ireturn, (1, 0, 0, []))]),
  (1769, [(.aload_n 1, i0), (.aload_n 0, i0), (.iload_n 3, i0), (.iconst 1, i0), (.iadd, i0), (.iaload, (200, 0, 0, [])), (.invokevirtual 219, (166, 2, 9, [])), (.aload_n 2, i0), (.aload_n 0, i0), (.iload_n 3, i0), (.iconst 1, i0), (.iadd, i0), (.iaload, (200, 0, 0, [])), (.invokevirtual 223, (332, 2, 10, [])), (.if_icmp .eq 166, (1953, 0, 0, [])), (.iconst 0, i0), (.ireturn, (1, 0, 0, []))]),
  (1792, [(.aload_n 1, i0), (.aload_n 0, i0), (.iload_n 3, i0), (.iconst 1, i0), (.iadd, i0), (.iaload, (200, 0, 0, [])), (.aload_n 0, i0), (.iload_n 3, i0), (.iconst 2, i0), (.iadd, i0), (.iaload, (200, 0, 0, [])), (.invokevirtual 224, (167, 3, 9, [])), (.aload_n 2, i0), (.aload_n 0, i0), (.iload_n 3, i0), (.iconst 1, i0), (.iadd, i0), (.iaload, (200, 0, 0, [])), (.aload_n 0, i0), (.iload_n 3, i0), (.iconst 2, i0), (.iadd, i0), (.iaload, (200, 0, 0, [])), (.invokevirtual 227, (333, 3, 10, [])), (.if_icmp .eq 133, (1953, 0, 0, [])), (.iconst 0, i0), (.ireturn, (1, 0, 0, []))]),
  (1825, [(.aload_n 1, i0), (.aload_n 0, i0), (.iload_n 3, i0), (.iconst 1, i0), (.iadd, i0), (.iaload, (200, 0, 0, [])), (.invokevirtual 228, (168, 2, 9, [])), (.aload_n 2, i0), (.aload_n 0, i0), (.iload_n 3, i0), (.iconst 1, i0), (.iadd, i0), (.iaload, (200, 0, 0, [])), (.invokevirtual 231, (334, 2, 10, [])), (.if_icmp .eq 110, (1953, 0, 0, [])), (.iconst 0, i0), (.ireturn, (1, 0, 0, []))]),
  (1848, [(.aload_n 1, i0), (.aload_n 0, i0), (.iload_n 3, i0), (.iconst 1, i0), (.iadd, i0), (.iaload, (200, 0, 0, [])), (.invokevirtual 232, (169, 2, 9, [])), (.aload_n 2, i0), (.aload_n 0, i0), (.iload_n 3, i0), (.iconst 1, i0), (.iadd, i0), (.iaload, (200, 0, 0, [])), (.invokevirtual 235, (345, 2, 10, [])), (.if_icmp .eq 87, (1953, 0, 0, [])), (.iconst 0, i0), (.ireturn, (1, 0, 0, []))]),
  (1871, [(.aload_n 1, i0), (.aload_n 0, i0), (.iload_n 3, i0), (.iconst 1, i0), (.iadd, i0), (.iaload, (200, 0, 0, [])), (.invokevirtual 236, (170, 2, 9, [])), (.aload_n 2, i0), (.aload_n 0, i0), (.iload_n 3, i0), (.iconst 1, i0), (.iadd, i0), (.iaload, (200, 0, 0, [])), (.invokevirtual 239, (346, 2, 10, [])), (.if_icmp .eq 64, (1953, 0, 0, [])), (.iconst 0, i0), (.ireturn, (1, 0, 0, []))]),
  (1894, [(.aload_n 1, i0), (.aload_n 0, i0), (.iload_n 3, i0), (.iconst 1, i0), (.iadd, i0), (.iaload, (200, 0, 0, [])), (.aload_n 0, i0), (.iload_n 3, i0), (.iconst 2, i0), (.iadd, i0), (.iaload, (200, 0, 0, [])), (.invokevirtual 240, (171, 3, 9, [])), (.aload_n 2, i0), (.aload_n 0, i0), (.iload_n 3, i0), (.iconst 1, i0), (.iadd, i0), (.iaload, (200, 0, 0, [])), (.aload_n 0, i0), (.iload_n 3, i0), (.iconst 2, i0), (.iadd, i0), (.iaload, (200, 0, 0, [])), (.invokevirtual 243, (347, 3, 10, [])), (.if_icmp .eq 31, (1953, 0, 0, [])), (.iconst 0, i0), (.ireturn, (1, 0, 0, []))]),
  (1927, [(.aload_n 1, i0), (.invokevirtual 244, (172, 1, 9, [])), (.aload_n 2, i0), (.invokevirtual 247, (349, 1, 10, [])), (.if_icmp .eq 18, (1953, 0, 0, [])), (.iconst 0, i0), (.ireturn, (1, 0, 0, []))]),
  (1940, [(.aload_n 1, i0), (.invokevirtual 248, (173, 1, 9, [])), (.aload_n 2, i0), (.invokevirtual 251, (350, 1, 10, [])), (.if_icmp .eq 5, (1953, 0, 0, [])), (.iconst 0, i0), (.ireturn, (1, 0, 0, []))]),
  (1953, [(.iinc 3 6, i0), (.goto (-1938), (18, 0, 0, []))]),
  (1959, [(.iconst 1, i0), (.ireturn, (1, 0, 0, []))])]
/-- of a method: its name, code, locals, answer; (0 by an object, 1 static, 2 a constructor; how many parameters); its class; what it makes; its blocks -/
abbrev MI : Type := MethodName × ByteArray × Nat × Option FieldType × (Nat × Nat) × Nat × List (Nat × Nat) × List (Nat × List OpI)
def mi0 : MI := (yX6_init, prog_8_method_1_code, 1, none, (2, 0), 6, [(101, 60)], KX6_init)
def mi1 : MI := (yX6_isMissing, prog_8_method_2_code, 1, some .boolean, (0, 0), 6, [], KX6_isMissing)
def mi2 : MI := (yX6_hasPlace, prog_8_method_3_code, 2, some .boolean, (0, 1), 6, [], KX6_hasPlace)
def mi3 : MI := (yX6_hasRow, prog_8_method_4_code, 3, some .boolean, (0, 2), 6, [], KX6_hasRow)
def mi4 : MI := (yX6_lay, prog_8_method_5_code, 3, none, (0, 2), 6, [], KX6_lay)
def mi5 : MI := (yX6_put, prog_8_method_6_code, 4, none, (0, 2), 6, [], KX6_put)
def mi6 : MI := (yX6_cut, prog_8_method_7_code, 3, some .long, (0, 1), 6, [], KX6_cut)
def mi7 : MI := (yX7_init, prog_9_method_1_code, 1, none, (2, 0), 7, [(100, 9), (100, 9), (100, 9), (101, 6), (100, 6), (100, 6), (100, 6), (100, 6), (100, 6), (100, 6), (100, 8), (100, 8)], KX7_init)
def mi8 : MI := (yX7_clear, prog_9_method_2_code, 1, none, (0, 0), 7, [], KX7_clear)
def mi9 : MI := (yX7_takeOver, prog_9_method_3_code, 2, none, (0, 1), 7, [], KX7_takeOver)
def mi10 : MI := (yX7_addArch, prog_9_method_4_code, 3, none, (0, 2), 7, [], KX7_addArch)
def mi11 : MI := (yX7_addPerson, prog_9_method_5_code, 4, none, (0, 2), 7, [], KX7_addPerson)
def mi12 : MI := (yX7_addPlant, prog_9_method_6_code, 3, none, (0, 2), 7, [], KX7_addPlant)
def mi13 : MI := (yX7_hasArch, prog_9_method_7_code, 2, some .boolean, (0, 1), 7, [], KX7_hasArch)
def mi14 : MI := (yX7_hasPerson, prog_9_method_8_code, 2, some .boolean, (0, 1), 7, [], KX7_hasPerson)
def mi15 : MI := (yX7_hasTwo, prog_9_method_9_code, 3, some .boolean, (0, 2), 7, [], KX7_hasTwo)
def mi16 : MI := (yX7_personNamed, prog_9_method_10_code, 4, some .int, (0, 1), 7, [], KX7_personNamed)
def mi17 : MI := (yX7_isOver, prog_9_method_11_code, 2, some .boolean, (0, 1), 7, [], KX7_isOver)
def mi18 : MI := (yX7_peopleOver, prog_9_method_12_code, 3, some .int, (0, 0), 7, [], KX7_peopleOver)
def mi19 : MI := (yX7_paidByAll, prog_9_method_13_code, 1, some .int, (0, 0), 7, [], KX7_paidByAll)
def mi20 : MI := (yX7_fellByAll, prog_9_method_14_code, 1, some .int, (0, 0), 7, [], KX7_fellByAll)
def mi21 : MI := (yX7_behindAll, prog_9_method_15_code, 1, some .int, (0, 0), 7, [], KX7_behindAll)
def mi22 : MI := (yX7_sumOfPeople, prog_9_method_16_code, 4, some .int, (0, 1), 7, [], KX7_sumOfPeople)
def mi23 : MI := (yX7_strainBy, prog_9_method_17_code, 4, some .int, (0, 3), 7, [], KX7_strainBy)
def mi24 : MI := (yX7_strainAlone, prog_9_method_18_code, 3, some .int, (0, 2), 7, [], KX7_strainAlone)
def mi25 : MI := (yX7_strainRoped, prog_9_method_19_code, 7, some .int, (0, 3), 7, [], KX7_strainRoped)
def mi26 : MI := (yX7_bearsAlone, prog_9_method_20_code, 3, some .boolean, (0, 2), 7, [], KX7_bearsAlone)
def mi27 : MI := (yX7_borneBy, prog_9_method_21_code, 4, some .int, (0, 1), 7, [], KX7_borneBy)
def mi28 : MI := (yX7_stopAlone, prog_9_method_22_code, 2, some .int, (0, 1), 7, [], KX7_stopAlone)
def mi29 : MI := (yX7_stopBy, prog_9_method_23_code, 6, some .int, (0, 4), 7, [], KX7_stopBy)
def mi30 : MI := (yX7_stopIn, prog_9_method_24_code, 4, some .int, (0, 2), 7, [], KX7_stopIn)
def mi31 : MI := (yX7_stopRoped, prog_9_method_25_code, 5, some .int, (0, 3), 7, [], KX7_stopRoped)
def mi32 : MI := (yX7_reachInFog, prog_9_method_26_code, 4, some .int, (0, 3), 7, [], KX7_reachInFog)
def mi33 : MI := (yX7_afterFall, prog_9_method_27_code, 4, some .int, (0, 2), 7, [], KX7_afterFall)
def mi34 : MI := (yX7_tollsBetween, prog_9_method_28_code, 5, some .int, (0, 2), 7, [], KX7_tollsBetween)
def mi35 : MI := (yX7_spanLength, prog_9_method_29_code, 4, some .int, (0, 2), 7, [], KX7_spanLength)
def mi36 : MI := (yX7_spanBegin, prog_9_method_30_code, 4, some .int, (0, 1), 7, [], KX7_spanBegin)
def mi37 : MI := (yX7_weakestArch, prog_9_method_31_code, 5, some .int, (0, 0), 7, [], KX7_weakestArch)
def mi38 : MI := (yX7_mossAfter, prog_9_method_32_code, 4, some .int, (0, 2), 7, [], KX7_mossAfter)
def mi39 : MI := (yX7_mostAlike, prog_9_method_33_code, 8, some .int, (0, 3), 7, [], KX7_mostAlike)
def mi40 : MI := (yX7_letRun, prog_9_method_34_code, 3, some .int, (0, 1), 7, [], KX7_letRun)
def mi41 : MI := (yX7_letRope, prog_9_method_35_code, 5, some .int, (0, 2), 7, [], KX7_letRope)
def mi42 : MI := (yX7_tread, prog_9_method_36_code, 4, none, (0, 2), 7, [], KX7_tread)
def mi43 : MI := (yX7_land, prog_9_method_37_code, 3, none, (0, 2), 7, [], KX7_land)
def mi44 : MI := (yX7_canJumpOn, prog_9_method_38_code, 2, some .boolean, (0, 1), 7, [], KX7_canJumpOn)
def mi45 : MI := (yX7_jumpOn, prog_9_method_39_code, 2, some .int, (0, 1), 7, [], KX7_jumpOn)
def mi46 : MI := (yX7_sendHome, prog_9_method_40_code, 3, some .int, (0, 1), 7, [], KX7_sendHome)
def mi47 : MI := (yX7_changeFog, prog_9_method_41_code, 2, some .int, (0, 1), 7, [], KX7_changeFog)
def mi48 : MI := (yX7_passDays, prog_9_method_42_code, 4, some .int, (0, 1), 7, [], KX7_passDays)
def mi49 : MI := (yX7_jumpsFor, prog_9_method_43_code, 4, some .int, (0, 2), 7, [], KX7_jumpsFor)
def mi50 : MI := (yX7_bearsBehindJumps, prog_9_method_44_code, 7, some .boolean, (0, 3), 7, [], KX7_bearsBehindJumps)
def mi51 : MI := (yX7_jumpsInAll, prog_9_method_45_code, 5, some .int, (0, 1), 7, [], KX7_jumpsInAll)
def mi52 : MI := (yX7_bestGarden, prog_9_method_46_code, 6, some .int, (0, 1), 7, [], KX7_bestGarden)
def mi53 : MI := (yX7_joyOf, prog_9_method_47_code, 2, some .int, (0, 1), 7, [], KX7_joyOf)
def mi54 : MI := (yX7_sizeOf, prog_9_method_48_code, 2, some .int, (0, 1), 7, [], KX7_sizeOf)
def mi55 : MI := (yX7_sumOfPlants, prog_9_method_49_code, 5, some .int, (0, 2), 7, [], KX7_sumOfPlants)
def mi56 : MI := (yX5_init, prog_7_method_1_code, 1, none, (2, 0), 5, [(102, 900), (100, 12), (100, 12), (101, 12)], KX5_init)
def mi57 : MI := (yX5_hasRoomForTwenty, prog_7_method_2_code, 1, some .boolean, (0, 0), 5, [], KX5_hasRoomForTwenty)
def mi58 : MI := (yX5_addFour, prog_7_method_3_code, 3, none, (0, 1), 5, [], KX5_addFour)
def mi59 : MI := (yX5_open, prog_7_method_4_code, 2, none, (0, 1), 5, [], KX5_open)
def mi60 : MI := (yX5_gather, prog_7_method_5_code, 4, none, (0, 0), 5, [], KX5_gather)
def mi61 : MI := (yX5_findToken, prog_7_method_6_code, 2, some .int, (0, 1), 5, [], KX5_findToken)
def mi62 : MI := (yX5_findWord, prog_7_method_7_code, 6, some .int, (0, 1), 5, [], KX5_findWord)
def mi63 : MI := (yX5_findNumber, prog_7_method_8_code, 4, some .int, (0, 1), 5, [], KX5_findNumber)
def mi64 : MI := (yX5_findKeyword, prog_7_method_9_code, 7, some .int, (0, 2), 5, [], KX5_findKeyword)
def mi65 : MI := (yX5_isLetter, prog_7_method_10_code, 1, some .boolean, (1, 1), 5, [], KX5_isLetter)
def mi66 : MI := (yX5_isDigit, prog_7_method_11_code, 1, some .boolean, (1, 1), 5, [], KX5_isDigit)
def mi67 : MI := (yX5_signCode, prog_7_method_12_code, 1, some .int, (1, 1), 5, [], KX5_signCode)
def mi68 : MI := (yX5_advance, prog_7_method_13_code, 2, none, (0, 0), 5, [], KX5_advance)
def mi69 : MI := (yX5_refuse, prog_7_method_14_code, 2, some .boolean, (0, 1), 5, [], KX5_refuse)
def mi70 : MI := (yX5_take, prog_7_method_15_code, 2, some .boolean, (0, 1), 5, [], KX5_take)
def mi71 : MI := (yX5_takeNumber, prog_7_method_16_code, 4, some .int, (0, 2), 5, [], KX5_takeNumber)
def mi72 : MI := (yX3_init, prog_5_method_1_code, 1, none, (2, 0), 3, [(100, 60), (100, 60), (100, 60), (100, 60), (100, 60), (100, 60)], KX3_init)
def mi73 : MI := (yX3_clear, prog_5_method_2_code, 1, none, (0, 0), 3, [], KX3_clear)
def mi74 : MI := (yX3_takeOver, prog_5_method_3_code, 2, none, (0, 1), 3, [], KX3_takeOver)
def mi75 : MI := (yX8_init, prog_10_method_1_code, 2, none, (2, 1), 8, [], KX8_init)
def mi76 : MI := (yX8_readInto, prog_10_method_2_code, 3, some .boolean, (0, 1), 8, [], KX8_readInto)
def mi77 : MI := (yX8_takePart, prog_10_method_3_code, 2, some .boolean, (0, 1), 8, [], KX8_takePart)
def mi78 : MI := (yX8_takeRule, prog_10_method_4_code, 5, some .boolean, (0, 2), 8, [], KX8_takeRule)
def mi79 : MI := (yX8_takeArch, prog_10_method_5_code, 4, some .boolean, (0, 1), 8, [], KX8_takeArch)
def mi80 : MI := (yX8_takePerson, prog_10_method_6_code, 6, some .boolean, (0, 1), 8, [], KX8_takePerson)
def mi81 : MI := (yX8_takePlant, prog_10_method_7_code, 4, some .boolean, (0, 1), 8, [], KX8_takePlant)
def mi82 : MI := (yX8_takeOption, prog_10_method_8_code, 6, some .boolean, (0, 4), 8, [], KX8_takeOption)
def mi83 : MI := (yX4_init, prog_6_method_1_code, 4, none, (2, 3), 4, [(100, 3)], KX4_init)
def mi84 : MI := (yX4_readInto, prog_6_method_2_code, 4, some .boolean, (0, 2), 4, [], KX4_readInto)
def mi85 : MI := (yX4_takeRow, prog_6_method_3_code, 4, some .boolean, (0, 0), 4, [], KX4_takeRow)
def mi86 : MI := (yX4_beginsStep, prog_6_method_4_code, 1, some .boolean, (1, 1), 4, [], KX4_beginsStep)
def mi87 : MI := (yX4_takeEnd, prog_6_method_5_code, 2, some .boolean, (0, 0), 4, [], KX4_takeEnd)
def mi88 : MI := (yX4_takeRest, prog_6_method_6_code, 3, some .boolean, (0, 2), 4, [], KX4_takeRest)
def mi89 : MI := (yX4_takeTest, prog_6_method_7_code, 5, some .boolean, (0, 1), 4, [], KX4_takeTest)
def mi90 : MI := (yX4_takeName, prog_6_method_8_code, 2, some .int, (0, 0), 4, [], KX4_takeName)
def mi91 : MI := (yX4_keep, prog_6_method_9_code, 3, some .boolean, (1, 3), 4, [], KX4_keep)
def mi92 : MI := (yX1_init, prog_3_method_1_code, 1, none, (2, 0), 1, [(100, 6), (100, 64)], KX1_init)
def mi93 : MI := (yX1_weigh, prog_3_method_2_code, 3, none, (0, 1), 1, [], KX1_weigh)
def mi94 : MI := (yX1_wellWith, prog_3_method_3_code, 5, some .int, (1, 2), 1, [], KX1_wellWith)
def mi95 : MI := (yX1_cheapestOf, prog_3_method_4_code, 6, some .int, (0, 1), 1, [], KX1_cheapestOf)
def mi96 : MI := (yX1_priceOfGroup, prog_3_method_5_code, 5, some .int, (0, 3), 1, [], KX1_priceOfGroup)
def mi97 : MI := (yX1_without, prog_3_method_6_code, 3, some .int, (1, 3), 1, [], KX1_without)
def mi98 : MI := (yX1_mostOver, prog_3_method_7_code, 3, some .int, (0, 0), 1, [], KX1_mostOver)
def mi99 : MI := (yX1_mateOf, prog_3_method_8_code, 6, some .int, (0, 2), 1, [], KX1_mateOf)
def mi100 : MI := (yX1_leastMate, prog_3_method_9_code, 5, some .int, (0, 2), 1, [], KX1_leastMate)
def mi101 : MI := (yX0_init, prog_2_method_1_code, 2, none, (2, 1), 0, [], KX0_init)
def mi102 : MI := (yX0_begin, prog_2_method_2_code, 5, none, (0, 4), 0, [], KX0_begin)
def mi103 : MI := (yX0_outcome, prog_2_method_3_code, 1, some .int, (0, 0), 0, [], KX0_outcome)
def mi104 : MI := (yX0_firstMove, prog_2_method_4_code, 3, some .int, (0, 0), 0, [], KX0_firstMove)
def mi105 : MI := (yX0_worth, prog_2_method_5_code, 7, some .int, (0, 1), 0, [], KX0_worth)
def mi106 : MI := (yX0_canMove, prog_2_method_6_code, 4, some .boolean, (0, 2), 0, [], KX0_canMove)
def mi107 : MI := (yX0_worthBehind, prog_2_method_7_code, 8, some .int, (0, 3), 0, [], KX0_worthBehind)
def mi108 : MI := (yX2_init, prog_4_method_1_code, 3, none, (2, 2), 2, [(100, 60)], KX2_init)
def mi109 : MI := (yX2_goThrough, prog_4_method_2_code, 6, none, (0, 3), 2, [], KX2_goThrough)
def mi110 : MI := (yX2_rowBehindEnd, prog_4_method_3_code, 3, some .int, (0, 1), 2, [], KX2_rowBehindEnd)
def mi111 : MI := (yX2_rowBehindStep, prog_4_method_4_code, 2, some .int, (0, 1), 2, [], KX2_rowBehindStep)
def mi112 : MI := (yX2_holdsTest, prog_4_method_5_code, 3, some .boolean, (0, 1), 2, [], KX2_holdsTest)
def mi113 : MI := (yX2_compare, prog_4_method_6_code, 3, some .boolean, (0, 2), 2, [], KX2_compare)
def mi114 : MI := (yX2_doStep, prog_4_method_7_code, 3, some .int, (0, 1), 2, [], KX2_doStep)
def mi115 : MI := (yX2_doAny, prog_4_method_8_code, 3, some .int, (0, 0), 2, [], KX2_doAny)
def mi116 : MI := (yX2_draw, prog_4_method_9_code, 2, some .int, (0, 1), 2, [], KX2_draw)
def mi117 : MI := (yX9_init, prog_1_method_1_code, 2, none, (2, 0), 9, [(104, 4), (6, 3), (101, 60), (6, 3), (101, 60), (6, 3), (101, 60), (6, 3), (101, 60), (5, 14), (102, 900), (100, 12), (100, 12), (101, 12), (7, 20), (100, 9), (100, 9), (100, 9), (101, 6), (100, 6), (100, 6), (100, 6), (100, 6), (100, 6), (100, 6), (100, 8), (100, 8), (7, 20), (100, 9), (100, 9), (100, 9), (101, 6), (100, 6), (100, 6), (100, 6), (100, 6), (100, 6), (100, 6), (100, 8), (100, 8), (3, 9), (100, 60), (100, 60), (100, 60), (100, 60), (100, 60), (100, 60), (3, 9), (100, 60), (100, 60), (100, 60), (100, 60), (100, 60), (100, 60), (8, 2), (4, 5), (100, 3), (105, 3), (106, 3), (7, 20), (100, 9), (100, 9), (100, 9), (101, 6), (100, 6), (100, 6), (100, 6), (100, 6), (100, 6), (100, 6), (100, 8), (100, 8), (3, 9), (100, 60), (100, 60), (100, 60), (100, 60), (100, 60), (100, 60), (7, 20), (100, 9), (100, 9), (100, 9), (101, 6), (100, 6), (100, 6), (100, 6), (100, 6), (100, 6), (100, 6), (100, 8), (100, 8), (3, 9), (100, 60), (100, 60), (100, 60), (100, 60), (100, 60), (100, 60), (7, 20), (100, 9), (100, 9), (100, 9), (101, 6), (100, 6), (100, 6), (100, 6), (100, 6), (100, 6), (100, 6), (100, 8), (100, 8), (3, 9), (100, 60), (100, 60), (100, 60), (100, 60), (100, 60), (100, 60), (1, 4), (100, 6), (100, 64), (0, 4), (2, 7), (100, 60), (100, 5)], KX9_init)
def mi118 : MI := (yX9_status, prog_1_method_2_code, 1, some .int, (0, 0), 9, [], KX9_status)
def mi119 : MI := (yX9_top, prog_1_method_3_code, 1, some .long, (0, 0), 9, [], KX9_top)
def mi120 : MI := (yX9_bottom, prog_1_method_4_code, 1, some .long, (0, 0), 9, [], KX9_bottom)
def mi121 : MI := (yX9_tray, prog_1_method_5_code, 4, some .boolean, (0, 3), 9, [], KX9_tray)
def mi122 : MI := (yX9_write, prog_1_method_6_code, 6, some .boolean, (0, 3), 9, [], KX9_write)
def mi123 : MI := (yX9_read, prog_1_method_7_code, 4, some .long, (0, 2), 9, [], KX9_read)
def mi124 : MI := (yX9_pour, prog_1_method_8_code, 8, some .boolean, (0, 5), 9, [], KX9_pour)
def mi125 : MI := (yX9_feed, prog_1_method_9_code, 6, some .int, (0, 5), 9, [], KX9_feed)
def mi126 : MI := (yX9_viaduct, prog_1_method_10_code, 4, some .int, (0, 1), 9, [], KX9_viaduct)
def mi127 : MI := (yX9_decades, prog_1_method_11_code, 4, some .int, (0, 1), 9, [], KX9_decades)
def mi128 : MI := (yX9_fault, prog_1_method_12_code, 2, some .int, (0, 1), 9, [], KX9_fault)
def mi129 : MI := (yX9_told, prog_1_method_13_code, 2, some .int, (0, 1), 9, [], KX9_told)
def mi130 : MI := (yX9_arch, prog_1_method_14_code, 3, some .int, (0, 2), 9, [], KX9_arch)
def mi131 : MI := (yX9_person, prog_1_method_15_code, 3, some .int, (0, 2), 9, [], KX9_person)
def mi132 : MI := (yX9_plant, prog_1_method_16_code, 3, some .int, (0, 2), 9, [], KX9_plant)
def mi133 : MI := (yX9_run, prog_1_method_17_code, 2, some .int, (0, 1), 9, [], KX9_run)
def mi134 : MI := (yX9_rope, prog_1_method_18_code, 3, some .int, (0, 2), 9, [], KX9_rope)
def mi135 : MI := (yX9_jump, prog_1_method_19_code, 2, some .int, (0, 1), 9, [], KX9_jump)
def mi136 : MI := (yX9_home, prog_1_method_20_code, 2, some .int, (0, 1), 9, [], KX9_home)
def mi137 : MI := (yX9_day, prog_1_method_21_code, 2, some .int, (0, 1), 9, [], KX9_day)
def mi138 : MI := (yX9_teach, prog_1_method_22_code, 4, some .boolean, (0, 3), 9, [], KX9_teach)
def mi139 : MI := (yX9_come, prog_1_method_23_code, 2, some .int, (0, 1), 9, [], KX9_come)
def mi140 : MI := (yX9_build, prog_1_method_24_code, 3, some .int, (0, 2), 9, [], KX9_build)
def mi141 : MI := (yX9_sow, prog_1_method_25_code, 3, some .int, (0, 2), 9, [], KX9_sow)
def mi142 : MI := (yX9_rule, prog_1_method_26_code, 3, some .boolean, (0, 2), 9, [], KX9_rule)
def mi143 : MI := (yX9_strain, prog_1_method_27_code, 3, some .int, (0, 2), 9, [], KX9_strain)
def mi144 : MI := (yX9_strainOf, prog_1_method_28_code, 4, some .int, (0, 3), 9, [], KX9_strainOf)
def mi145 : MI := (yX9_reach, prog_1_method_29_code, 2, some .int, (0, 1), 9, [], KX9_reach)
def mi146 : MI := (yX9_reachIn, prog_1_method_30_code, 3, some .int, (0, 2), 9, [], KX9_reachIn)
def mi147 : MI := (yX9_stops, prog_1_method_31_code, 2, some .int, (0, 1), 9, [], KX9_stops)
def mi148 : MI := (yX9_stopsBoth, prog_1_method_32_code, 3, some .int, (0, 2), 9, [], KX9_stopsBoth)
def mi149 : MI := (yX9_pays, prog_1_method_33_code, 2, some .int, (0, 1), 9, [], KX9_pays)
def mi150 : MI := (yX9_span, prog_1_method_34_code, 2, some .int, (0, 1), 9, [], KX9_span)
def mi151 : MI := (yX9_spanFrom, prog_1_method_35_code, 3, some .int, (0, 1), 9, [], KX9_spanFrom)
def mi152 : MI := (yX9_weakest, prog_1_method_36_code, 1, some .int, (0, 0), 9, [], KX9_weakest)
def mi153 : MI := (yX9_mossIn, prog_1_method_37_code, 3, some .int, (0, 2), 9, [], KX9_mossIn)
def mi154 : MI := (yX9_most, prog_1_method_38_code, 1, some .int, (0, 0), 9, [], KX9_most)
def mi155 : MI := (yX9_cheapest, prog_1_method_39_code, 2, some .int, (0, 1), 9, [], KX9_cheapest)
def mi156 : MI := (yX9_mate, prog_1_method_40_code, 3, some .int, (0, 2), 9, [], KX9_mate)
def mi157 : MI := (yX9_mends, prog_1_method_41_code, 2, some .int, (0, 1), 9, [], KX9_mends)
def mi158 : MI := (yX9_mendsAt, prog_1_method_42_code, 3, some .int, (0, 2), 9, [], KX9_mendsAt)
def mi159 : MI := (yX9_fits, prog_1_method_43_code, 5, some .int, (0, 3), 9, [], KX9_fits)
def mi160 : MI := (yX9_fitsAt, prog_1_method_44_code, 9, some .int, (0, 4), 9, [], KX9_fitsAt)
def mi161 : MI := (yX9_ask, prog_1_method_45_code, 10, some .int, (0, 3), 9, [], KX9_ask)
def mi162 : MI := (yX9_game, prog_1_method_46_code, 4, some .int, (0, 3), 9, [], KX9_game)
def mi163 : MI := (yX9_moveOf, prog_1_method_47_code, 4, some .int, (0, 3), 9, [], KX9_moveOf)
def mi164 : MI := (yX9_garden, prog_1_method_48_code, 2, some .int, (0, 1), 9, [], KX9_garden)
def mi165 : MI := (yX9_gardenSet, prog_1_method_49_code, 2, some .int, (0, 1), 9, [], KX9_gardenSet)
def mi166 : MI := (yX9_chance, prog_1_method_50_code, 2, some .boolean, (0, 1), 9, [], KX9_chance)
def mi167 : MI := (yX9_hope, prog_1_method_51_code, 3, some .boolean, (0, 2), 9, [], KX9_hope)
def mi168 : MI := (yX9_copyAt, prog_1_method_52_code, 4, some .int, (0, 1), 9, [], KX9_copyAt)
def mi169 : MI := (yX9_live, prog_1_method_53_code, 5, some .int, (0, 1), 9, [], KX9_live)
def mi170 : MI := (yX9_lived, prog_1_method_54_code, 2, some .int, (0, 1), 9, [], KX9_lived)
def mi171 : MI := (yX9_mean, prog_1_method_55_code, 6, some .boolean, (0, 2), 9, [], KX9_mean)
def mi172 : MI := (yX9_mark, prog_1_method_56_code, 1, some .int, (0, 0), 9, [], KX9_mark)
def mi173 : MI := (yX9_undo, prog_1_method_57_code, 1, some .int, (0, 0), 9, [], KX9_undo)
def mi174 : MI := (yX9_given, prog_1_method_58_code, 2, some .int, (0, 1), 9, [], KX9_given)
def mi175 : MI := (yX9_none, prog_1_method_59_code, 2, some .int, (0, 1), 9, [], KX9_none)
def mi176 : MI := (yX9_givenUnless, prog_1_method_60_code, 3, some .int, (0, 2), 9, [], KX9_givenUnless)
def mi177 : MI := (yX9_givenIfArch, prog_1_method_61_code, 2, some .int, (0, 1), 9, [], KX9_givenIfArch)
def mi178 : MI := (yX9_yes, prog_1_method_62_code, 1, some .boolean, (0, 0), 9, [], KX9_yes)
def mi179 : MI := (yX9_not, prog_1_method_63_code, 2, some .boolean, (0, 1), 9, [], KX9_not)
def mi180 : MI := (yX9_put, prog_1_method_64_code, 6, some .boolean, (0, 5), 9, [], KX9_put)
def mi181 : MI := (yX9_within, prog_1_method_65_code, 6, some .boolean, (1, 3), 9, [], KX9_within)
def mi182 : MI := (yX9_contains, prog_1_method_66_code, 2, some .boolean, (1, 2), 9, [], KX9_contains)
def mi183 : MI := (yX9_isTray, prog_1_method_67_code, 1, some .boolean, (1, 1), 9, [], KX9_isTray)
def mi184 : MI := (yX9_isSetOfPeople, prog_1_method_68_code, 2, some .boolean, (0, 1), 9, [], KX9_isSetOfPeople)
def mi185 : MI := (yX9_placeStatus, prog_1_method_69_code, 3, some .int, (0, 2), 9, [], KX9_placeStatus)
def mi186 : MI := (yX9_twosStatus, prog_1_method_70_code, 6, some .int, (0, 3), 9, [], KX9_twosStatus)
def mi187 : MI := (yX9_doubtsThatFit, prog_1_method_71_code, 9, some .int, (0, 3), 9, [], KX9_doubtsThatFit)
def mi188 : MI := (yX9_tellOdds, prog_1_method_72_code, 9, none, (0, 2), 9, [], KX9_tellOdds)
def mi189 : MI := (yX9_tell, prog_1_method_73_code, 7, none, (0, 2), 9, [], KX9_tell)
def mi190 : MI := (yX9_commonDivisor, prog_1_method_74_code, 11, some .long, (1, 2), 9, [], KX9_commonDivisor)
def mi191 : MI := (yX10_init, prog_12_method_1_code, 1, none, (2, 0), 10, [(100, 3198), (101, 36), (100, 4), (100, 4), (101, 240), (102, 900), (102, 900), (100, 3), (100, 64), (100, 64), (100, 60), (103, 10), (100, 5), (100, 5), (100, 5), (100, 80), (100, 5), (100, 5)], KX10_init)
def mi192 : MI := (yX10_plain, prog_12_method_2_code, 3, none, (0, 1), 10, [], KX10_plain)
def mi193 : MI := (yX10_status, prog_12_method_3_code, 1, some .int, (0, 0), 10, [], KX10_status)
def mi194 : MI := (yX10_top, prog_12_method_4_code, 1, some .long, (0, 0), 10, [], KX10_top)
def mi195 : MI := (yX10_bottom, prog_12_method_5_code, 1, some .long, (0, 0), 10, [], KX10_bottom)
def mi196 : MI := (yX10_is, prog_12_method_6_code, 2, some .boolean, (0, 1), 10, [], KX10_is)
def mi197 : MI := (yX10_refuse, prog_12_method_7_code, 2, some .int, (0, 1), 10, [], KX10_refuse)
def mi198 : MI := (yX10_gives, prog_12_method_8_code, 2, some .int, (0, 1), 10, [], KX10_gives)
def mi199 : MI := (yX10_orNone, prog_12_method_9_code, 2, some .int, (0, 1), 10, [], KX10_orNone)
def mi200 : MI := (yX10_tellsBy, prog_12_method_10_code, 11, some .boolean, (0, 2), 10, [], KX10_tellsBy)
def mi201 : MI := (yX10_isTray, prog_12_method_11_code, 1, some .boolean, (1, 1), 10, [], KX10_isTray)
def mi202 : MI := (yX10_cut, prog_12_method_12_code, 3, some .long, (1, 2), 10, [], KX10_cut)
def mi203 : MI := (yX10_tray, prog_12_method_13_code, 5, some .boolean, (0, 3), 10, [], KX10_tray)
def mi204 : MI := (yX10_wrongPlace, prog_12_method_14_code, 3, some .int, (0, 2), 10, [], KX10_wrongPlace)
def mi205 : MI := (yX10_write, prog_12_method_15_code, 6, some .boolean, (0, 3), 10, [], KX10_write)
def mi206 : MI := (yX10_read, prog_12_method_16_code, 3, some .long, (0, 2), 10, [], KX10_read)
def mi207 : MI := (yX10_pour, prog_12_method_17_code, 8, some .boolean, (0, 5), 10, [], KX10_pour)
def mi208 : MI := (yX10_isFrom, prog_12_method_18_code, 6, some .boolean, (1, 3), 10, [], KX10_isFrom)
def mi209 : MI := (yX10_feed, prog_12_method_19_code, 6, some .int, (0, 5), 10, [], KX10_feed)
def mi210 : MI := (yX10_four, prog_12_method_20_code, 3, none, (0, 1), 10, [], KX10_four)
def mi211 : MI := (yX10_byteAt, prog_12_method_21_code, 2, some .int, (0, 1), 10, [], KX10_byteAt)
def mi212 : MI := (yX10_isSmall, prog_12_method_22_code, 1, some .boolean, (1, 1), 10, [], KX10_isSmall)
def mi213 : MI := (yX10_isDigit, prog_12_method_23_code, 1, some .boolean, (1, 1), 10, [], KX10_isDigit)
def mi214 : MI := (yX10_ahead, prog_12_method_24_code, 2, none, (0, 0), 10, [], KX10_ahead)
def mi215 : MI := (yX10_isSign, prog_12_method_25_code, 2, some .boolean, (0, 1), 10, [], KX10_isSign)
def mi216 : MI := (yX10_inWords, prog_12_method_26_code, 7, some .int, (0, 1), 10, [], KX10_inWords)
def mi217 : MI := (yX10_fails, prog_12_method_27_code, 2, some .boolean, (0, 1), 10, [], KX10_fails)
def mi218 : MI := (yX10_begins, prog_12_method_28_code, 4, some .boolean, (0, 2), 10, [], KX10_begins)
def mi219 : MI := (yX10_wantSign, prog_12_method_29_code, 2, some .boolean, (0, 1), 10, [], KX10_wantSign)
def mi220 : MI := (yX10_wantWord, prog_12_method_30_code, 3, some .boolean, (0, 2), 10, [], KX10_wantWord)
def mi221 : MI := (yX10_number, prog_12_method_31_code, 4, some .boolean, (0, 3), 10, [], KX10_number)
def mi222 : MI := (yX10_isName, prog_12_method_32_code, 2, some .boolean, (0, 1), 10, [], KX10_isName)
def mi223 : MI := (yX10_nameHere, prog_12_method_33_code, 4, some .long, (0, 0), 10, [], KX10_nameHere)
def mi224 : MI := (yX10_findHere, prog_12_method_34_code, 4, some .int, (0, 2), 10, [], KX10_findHere)
def mi225 : MI := (yX10_fault, prog_12_method_35_code, 2, some .int, (0, 1), 10, [], KX10_fault)
def mi226 : MI := (yX10_taken, prog_12_method_36_code, 2, some .int, (0, 1), 10, [], KX10_taken)
def mi227 : MI := (yX10_archRow, prog_12_method_37_code, 1, some .int, (1, 1), 10, [], KX10_archRow)
def mi228 : MI := (yX10_personRow, prog_12_method_38_code, 1, some .int, (1, 1), 10, [], KX10_personRow)
def mi229 : MI := (yX10_plantRow, prog_12_method_39_code, 1, some .int, (1, 1), 10, [], KX10_plantRow)
def mi230 : MI := (yX10_isThere, prog_12_method_40_code, 2, some .boolean, (0, 1), 10, [], KX10_isThere)
def mi231 : MI := (yX10_perhaps, prog_12_method_41_code, 6, some .boolean, (0, 5), 10, [], KX10_perhaps)
def mi232 : MI := (yX10_isFull, prog_12_method_42_code, 3, some .boolean, (0, 2), 10, [], KX10_isFull)
def mi233 : MI := (yX10_anArch, prog_12_method_43_code, 2, some .boolean, (0, 0), 10, [], KX10_anArch)
def mi234 : MI := (yX10_aPerson, prog_12_method_44_code, 3, some .boolean, (0, 0), 10, [], KX10_aPerson)
def mi235 : MI := (yX10_aPlant, prog_12_method_45_code, 2, some .boolean, (0, 0), 10, [], KX10_aPlant)
def mi236 : MI := (yX10_viaductPart, prog_12_method_46_code, 3, some .boolean, (0, 0), 10, [], KX10_viaductPart)
def mi237 : MI := (yX10_viaduct, prog_12_method_47_code, 4, some .int, (0, 1), 10, [], KX10_viaduct)
def mi238 : MI := (yX10_personTo, prog_12_method_48_code, 2, some .boolean, (0, 1), 10, [], KX10_personTo)
def mi239 : MI := (yX10_archTo, prog_12_method_49_code, 2, some .boolean, (0, 1), 10, [], KX10_archTo)
def mi240 : MI := (yX10_test, prog_12_method_50_code, 4, some .boolean, (0, 1), 10, [], KX10_test)
def mi241 : MI := (yX10_decadeOrder, prog_12_method_51_code, 3, some .boolean, (0, 2), 10, [], KX10_decadeOrder)
def mi242 : MI := (yX10_decadeStep, prog_12_method_52_code, 6, some .boolean, (0, 0), 10, [], KX10_decadeStep)
def mi243 : MI := (yX10_decades, prog_12_method_53_code, 4, some .int, (0, 1), 10, [], KX10_decades)
def mi244 : MI := (yX10_isArch, prog_12_method_54_code, 2, some .boolean, (0, 1), 10, [], KX10_isArch)
def mi245 : MI := (yX10_isPerson, prog_12_method_55_code, 2, some .boolean, (0, 1), 10, [], KX10_isPerson)
def mi246 : MI := (yX10_arePeople, prog_12_method_56_code, 3, some .boolean, (0, 1), 10, [], KX10_arePeople)
def mi247 : MI := (yX10_isIn, prog_12_method_57_code, 3, some .boolean, (0, 2), 10, [], KX10_isIn)
def mi248 : MI := (yX10_bits, prog_12_method_58_code, 3, some .int, (1, 1), 10, [], KX10_bits)
def mi249 : MI := (yX10_firstOf, prog_12_method_59_code, 2, some .int, (1, 1), 10, [], KX10_firstOf)
def mi250 : MI := (yX10_archOf, prog_12_method_60_code, 3, some .int, (0, 2), 10, [], KX10_archOf)
def mi251 : MI := (yX10_personOf, prog_12_method_61_code, 3, some .int, (0, 2), 10, [], KX10_personOf)
def mi252 : MI := (yX10_dimOf, prog_12_method_62_code, 2, some .int, (0, 1), 10, [], KX10_dimOf)
def mi253 : MI := (yX10_strainBy, prog_12_method_63_code, 3, some .int, (0, 2), 10, [], KX10_strainBy)
def mi254 : MI := (yX10_strainBoth, prog_12_method_64_code, 7, some .int, (0, 3), 10, [], KX10_strainBoth)
def mi255 : MI := (yX10_bears, prog_12_method_65_code, 4, some .boolean, (0, 3), 10, [], KX10_bears)
def mi256 : MI := (yX10_isOver, prog_12_method_66_code, 2, some .boolean, (0, 1), 10, [], KX10_isOver)
def mi257 : MI := (yX10_areOver, prog_12_method_67_code, 3, some .int, (0, 0), 10, [], KX10_areOver)
def mi258 : MI := (yX10_borneBy, prog_12_method_68_code, 4, some .int, (0, 1), 10, [], KX10_borneBy)
def mi259 : MI := (yX10_together, prog_12_method_69_code, 4, some .int, (0, 1), 10, [], KX10_together)
def mi260 : MI := (yX10_told, prog_12_method_70_code, 2, some .int, (0, 1), 10, [], KX10_told)
def mi261 : MI := (yX10_arch, prog_12_method_71_code, 3, some .int, (0, 2), 10, [], KX10_arch)
def mi262 : MI := (yX10_person, prog_12_method_72_code, 3, some .int, (0, 2), 10, [], KX10_person)
def mi263 : MI := (yX10_plant, prog_12_method_73_code, 3, some .int, (0, 2), 10, [], KX10_plant)
def mi264 : MI := (yX10_goes, prog_12_method_74_code, 3, none, (0, 2), 10, [], KX10_goes)
def mi265 : MI := (yX10_paysAt, prog_12_method_75_code, 3, none, (0, 2), 10, [], KX10_paysAt)
def mi266 : MI := (yX10_mayFall, prog_12_method_76_code, 2, none, (0, 1), 10, [], KX10_mayFall)
def mi267 : MI := (yX10_runs, prog_12_method_77_code, 5, some .int, (0, 2), 10, [], KX10_runs)
def mi268 : MI := (yX10_run, prog_12_method_78_code, 2, some .int, (0, 1), 10, [], KX10_run)
def mi269 : MI := (yX10_canRope, prog_12_method_79_code, 3, some .boolean, (0, 2), 10, [], KX10_canRope)
def mi270 : MI := (yX10_rope, prog_12_method_80_code, 3, some .int, (0, 2), 10, [], KX10_rope)
def mi271 : MI := (yX10_jumps, prog_12_method_81_code, 3, some .boolean, (0, 1), 10, [], KX10_jumps)
def mi272 : MI := (yX10_jump, prog_12_method_82_code, 2, some .int, (0, 1), 10, [], KX10_jump)
def mi273 : MI := (yX10_homes, prog_12_method_83_code, 3, some .boolean, (0, 1), 10, [], KX10_homes)
def mi274 : MI := (yX10_home, prog_12_method_84_code, 3, some .int, (0, 1), 10, [], KX10_home)
def mi275 : MI := (yX10_dayGoes, prog_12_method_85_code, 3, none, (0, 0), 10, [], KX10_dayGoes)
def mi276 : MI := (yX10_daysGo, prog_12_method_86_code, 3, none, (0, 1), 10, [], KX10_daysGo)
def mi277 : MI := (yX10_day, prog_12_method_87_code, 4, some .int, (0, 1), 10, [], KX10_day)
def mi278 : MI := (yX10_teach, prog_12_method_88_code, 4, some .boolean, (0, 3), 10, [], KX10_teach)
def mi279 : MI := (yX10_come, prog_12_method_89_code, 4, some .int, (0, 1), 10, [], KX10_come)
def mi280 : MI := (yX10_build, prog_12_method_90_code, 4, some .int, (0, 2), 10, [], KX10_build)
def mi281 : MI := (yX10_sow, prog_12_method_91_code, 4, some .int, (0, 2), 10, [], KX10_sow)
def mi282 : MI := (yX10_rule, prog_12_method_92_code, 3, some .boolean, (0, 2), 10, [], KX10_rule)
def mi283 : MI := (yX10_levelAt, prog_12_method_93_code, 1, some .int, (1, 1), 10, [], KX10_levelAt)
def mi284 : MI := (yX10_keeps, prog_12_method_94_code, 3, none, (0, 1), 10, [], KX10_keeps)
def mi285 : MI := (yX10_restores, prog_12_method_95_code, 3, none, (0, 1), 10, [], KX10_restores)
def mi286 : MI := (yX10_strain, prog_12_method_96_code, 3, some .int, (0, 2), 10, [], KX10_strain)
def mi287 : MI := (yX10_strainOf, prog_12_method_97_code, 4, some .int, (0, 3), 10, [], KX10_strainOf)
def mi288 : MI := (yX10_reachOf, prog_12_method_98_code, 4, some .int, (0, 2), 10, [], KX10_reachOf)
def mi289 : MI := (yX10_reach, prog_12_method_99_code, 2, some .int, (0, 1), 10, [], KX10_reach)
def mi290 : MI := (yX10_reachIn, prog_12_method_100_code, 3, some .int, (0, 2), 10, [], KX10_reachIn)
def mi291 : MI := (yX10_stopOf, prog_12_method_101_code, 5, some .int, (0, 3), 10, [], KX10_stopOf)
def mi292 : MI := (yX10_stops, prog_12_method_102_code, 2, some .int, (0, 1), 10, [], KX10_stops)
def mi293 : MI := (yX10_stopsBoth, prog_12_method_103_code, 3, some .int, (0, 2), 10, [], KX10_stopsBoth)
def mi294 : MI := (yX10_pays, prog_12_method_104_code, 4, some .int, (0, 1), 10, [], KX10_pays)
def mi295 : MI := (yX10_spanOf, prog_12_method_105_code, 6, some .int, (0, 1), 10, [], KX10_spanOf)
def mi296 : MI := (yX10_span, prog_12_method_106_code, 2, some .int, (0, 1), 10, [], KX10_span)
def mi297 : MI := (yX10_spanFrom, prog_12_method_107_code, 2, some .int, (0, 1), 10, [], KX10_spanFrom)
def mi298 : MI := (yX10_weakest, prog_12_method_108_code, 3, some .int, (0, 0), 10, [], KX10_weakest)
def mi299 : MI := (yX10_mossIn, prog_12_method_109_code, 4, some .int, (0, 2), 10, [], KX10_mossIn)
def mi300 : MI := (yX10_isWell, prog_12_method_110_code, 3, some .boolean, (0, 2), 10, [], KX10_isWell)
def mi301 : MI := (yX10_laysSet, prog_12_method_111_code, 6, none, (0, 1), 10, [], KX10_laysSet)
def mi302 : MI := (yX10_everybody, prog_12_method_112_code, 1, some .int, (0, 0), 10, [], KX10_everybody)
def mi303 : MI := (yX10_laysGroups, prog_12_method_113_code, 2, none, (0, 0), 10, [], KX10_laysGroups)
def mi304 : MI := (yX10_most, prog_12_method_114_code, 1, some .int, (0, 0), 10, [], KX10_most)
def mi305 : MI := (yX10_allTolls, prog_12_method_115_code, 3, some .int, (0, 0), 10, [], KX10_allTolls)
def mi306 : MI := (yX10_cheapest, prog_12_method_116_code, 2, some .int, (0, 1), 10, [], KX10_cheapest)
def mi307 : MI := (yX10_mateOf, prog_12_method_117_code, 6, some .int, (0, 1), 10, [], KX10_mateOf)
def mi308 : MI := (yX10_mate, prog_12_method_118_code, 6, some .int, (0, 2), 10, [], KX10_mate)
def mi309 : MI := (yX10_jumpsFor, prog_12_method_119_code, 5, some .int, (0, 2), 10, [], KX10_jumpsFor)
def mi310 : MI := (yX10_allJumps, prog_12_method_120_code, 5, some .int, (0, 1), 10, [], KX10_allJumps)
def mi311 : MI := (yX10_mends, prog_12_method_121_code, 2, some .int, (0, 1), 10, [], KX10_mends)
def mi312 : MI := (yX10_mendsAt, prog_12_method_122_code, 3, some .int, (0, 2), 10, [], KX10_mendsAt)
def mi313 : MI := (yX10_wrongSeen, prog_12_method_123_code, 6, some .int, (0, 3), 10, [], KX10_wrongSeen)
def mi314 : MI := (yX10_laysFits, prog_12_method_124_code, 8, some .int, (0, 3), 10, [], KX10_laysFits)
def mi315 : MI := (yX10_fits, prog_12_method_125_code, 5, some .int, (0, 3), 10, [], KX10_fits)
def mi316 : MI := (yX10_fitsAt, prog_12_method_126_code, 8, some .int, (0, 4), 10, [], KX10_fitsAt)
def mi317 : MI := (yX10_mostAlike, prog_12_method_127_code, 6, some .int, (0, 1), 10, [], KX10_mostAlike)
def mi318 : MI := (yX10_ask, prog_12_method_128_code, 7, some .int, (0, 3), 10, [], KX10_ask)
def mi319 : MI := (yX10_settles, prog_12_method_129_code, 4, none, (0, 2), 10, [], KX10_settles)
def mi320 : MI := (yX10_doesDeed, prog_12_method_130_code, 4, some .boolean, (0, 2), 10, [], KX10_doesDeed)
def mi321 : MI := (yX10_standing, prog_12_method_131_code, 3, some .int, (0, 2), 10, [], KX10_standing)
def mi322 : MI := (yX10_playing, prog_12_method_132_code, 5, some .int, (0, 3), 10, [], KX10_playing)
def mi323 : MI := (yX10_areTwo, prog_12_method_133_code, 3, some .boolean, (0, 2), 10, [], KX10_areTwo)
def mi324 : MI := (yX10_game, prog_12_method_134_code, 4, some .int, (0, 3), 10, [], KX10_game)
def mi325 : MI := (yX10_moveOf, prog_12_method_135_code, 4, some .int, (0, 3), 10, [], KX10_moveOf)
def mi326 : MI := (yX10_plantsOf, prog_12_method_136_code, 5, some .int, (0, 2), 10, [], KX10_plantsOf)
def mi327 : MI := (yX10_gardenOf, prog_12_method_137_code, 4, some .int, (0, 1), 10, [], KX10_gardenOf)
def mi328 : MI := (yX10_garden, prog_12_method_138_code, 2, some .int, (0, 1), 10, [], KX10_garden)
def mi329 : MI := (yX10_gardenSet, prog_12_method_139_code, 2, some .int, (0, 1), 10, [], KX10_gardenSet)
def mi330 : MI := (yX10_tellsDry, prog_12_method_140_code, 7, some .boolean, (0, 1), 10, [], KX10_tellsDry)
def mi331 : MI := (yX10_ahead0, prog_12_method_141_code, 3, some .int, (0, 1), 10, [], KX10_ahead0)
def mi332 : MI := (yX10_chance, prog_12_method_142_code, 3, some .boolean, (0, 1), 10, [], KX10_chance)
def mi333 : MI := (yX10_hope, prog_12_method_143_code, 3, some .boolean, (0, 2), 10, [], KX10_hope)
def mi334 : MI := (yX10_copyAt, prog_12_method_144_code, 3, some .int, (0, 1), 10, [], KX10_copyAt)
def mi335 : MI := (yX10_draw, prog_12_method_145_code, 2, some .int, (0, 1), 10, [], KX10_draw)
def mi336 : MI := (yX10_runsBy, prog_12_method_146_code, 2, some .boolean, (0, 1), 10, [], KX10_runsBy)
def mi337 : MI := (yX10_ropesBy, prog_12_method_147_code, 3, some .boolean, (0, 2), 10, [], KX10_ropesBy)
def mi338 : MI := (yX10_daysBy, prog_12_method_148_code, 2, some .boolean, (0, 1), 10, [], KX10_daysBy)
def mi339 : MI := (yX10_fogsTo, prog_12_method_149_code, 3, some .boolean, (0, 1), 10, [], KX10_fogsTo)
def mi340 : MI := (yX10_doesAny, prog_12_method_150_code, 2, some .boolean, (0, 0), 10, [], KX10_doesAny)
def mi341 : MI := (yX10_does, prog_12_method_151_code, 3, some .boolean, (0, 1), 10, [], KX10_does)
def mi342 : MI := (yX10_holds, prog_12_method_152_code, 5, some .boolean, (0, 1), 10, [], KX10_holds)
def mi343 : MI := (yX10_behindEnds, prog_12_method_153_code, 5, some .int, (0, 1), 10, [], KX10_behindEnds)
def mi344 : MI := (yX10_lives, prog_12_method_154_code, 6, none, (0, 1), 10, [], KX10_lives)
def mi345 : MI := (yX10_live, prog_12_method_155_code, 3, some .int, (0, 1), 10, [], KX10_live)
def mi346 : MI := (yX10_lived, prog_12_method_156_code, 2, some .int, (0, 1), 10, [], KX10_lived)
def mi347 : MI := (yX10_mean, prog_12_method_157_code, 6, some .boolean, (0, 2), 10, [], KX10_mean)
def mi348 : MI := (yX10_copies, prog_12_method_158_code, 4, none, (0, 2), 10, [], KX10_copies)
def mi349 : MI := (yX10_mark, prog_12_method_159_code, 1, some .int, (0, 0), 10, [], KX10_mark)
def mi350 : MI := (yX10_undo, prog_12_method_160_code, 1, some .int, (0, 0), 10, [], KX10_undo)
def mi351 : MI := (yJ6_bitCount_0f7a4, prog_13_method_49_code, 1, some .int, (1, 1), 12, [], KJ6_bitCount_0f7a4)
def mi352 : MI := (yJ7_fill_d0a16, prog_19_method_101_code, 5, none, (1, 2), 13, [], KJ7_fill_d0a16)
def mi353 : MI := (yL_law, code, 4, some .boolean, (1, 1), 11, [(9, 19), (104, 4), (6, 3), (101, 60), (6, 3), (101, 60), (6, 3), (101, 60), (6, 3), (101, 60), (5, 14), (102, 900), (100, 12), (100, 12), (101, 12), (7, 20), (100, 9), (100, 9), (100, 9), (101, 6), (100, 6), (100, 6), (100, 6), (100, 6), (100, 6), (100, 6), (100, 8), (100, 8), (7, 20), (100, 9), (100, 9), (100, 9), (101, 6), (100, 6), (100, 6), (100, 6), (100, 6), (100, 6), (100, 6), (100, 8), (100, 8), (3, 9), (100, 60), (100, 60), (100, 60), (100, 60), (100, 60), (100, 60), (3, 9), (100, 60), (100, 60), (100, 60), (100, 60), (100, 60), (100, 60), (8, 2), (4, 5), (100, 3), (105, 3), (106, 3), (7, 20), (100, 9), (100, 9), (100, 9), (101, 6), (100, 6), (100, 6), (100, 6), (100, 6), (100, 6), (100, 6), (100, 8), (100, 8), (3, 9), (100, 60), (100, 60), (100, 60), (100, 60), (100, 60), (100, 60), (7, 20), (100, 9), (100, 9), (100, 9), (101, 6), (100, 6), (100, 6), (100, 6), (100, 6), (100, 6), (100, 6), (100, 8), (100, 8), (3, 9), (100, 60), (100, 60), (100, 60), (100, 60), (100, 60), (100, 60), (7, 20), (100, 9), (100, 9), (100, 9), (101, 6), (100, 6), (100, 6), (100, 6), (100, 6), (100, 6), (100, 6), (100, 8), (100, 8), (3, 9), (100, 60), (100, 60), (100, 60), (100, 60), (100, 60), (100, 60), (1, 4), (100, 6), (100, 64), (0, 4), (2, 7), (100, 60), (100, 5), (10, 39), (100, 3198), (101, 36), (100, 4), (100, 4), (101, 240), (102, 900), (102, 900), (100, 3), (100, 64), (100, 64), (100, 60), (103, 10), (100, 5), (100, 5), (100, 5), (100, 80), (100, 5), (100, 5)], KL_law)
def NM : Nat := 354
def mtab0 : List MI := [mi0, mi1, mi2, mi3, mi4, mi5, mi6, mi7, mi8, mi9, mi10, mi11, mi12, mi13, mi14, mi15, mi16, mi17, mi18, mi19]
def mtab1 : List MI := [mi20, mi21, mi22, mi23, mi24, mi25, mi26, mi27, mi28, mi29, mi30, mi31, mi32, mi33, mi34, mi35, mi36, mi37, mi38, mi39]
def mtab2 : List MI := [mi40, mi41, mi42, mi43, mi44, mi45, mi46, mi47, mi48, mi49, mi50, mi51, mi52, mi53, mi54, mi55, mi56, mi57, mi58, mi59]
def mtab3 : List MI := [mi60, mi61, mi62, mi63, mi64, mi65, mi66, mi67, mi68, mi69, mi70, mi71, mi72, mi73, mi74, mi75, mi76, mi77, mi78, mi79]
def mtab4 : List MI := [mi80, mi81, mi82, mi83, mi84, mi85, mi86, mi87, mi88, mi89, mi90, mi91, mi92, mi93, mi94, mi95, mi96, mi97, mi98, mi99]
def mtab5 : List MI := [mi100, mi101, mi102, mi103, mi104, mi105, mi106, mi107, mi108, mi109, mi110, mi111, mi112, mi113, mi114, mi115, mi116, mi117, mi118, mi119]
def mtab6 : List MI := [mi120, mi121, mi122, mi123, mi124, mi125, mi126, mi127, mi128, mi129, mi130, mi131, mi132, mi133, mi134, mi135, mi136, mi137, mi138, mi139]
def mtab7 : List MI := [mi140, mi141, mi142, mi143, mi144, mi145, mi146, mi147, mi148, mi149, mi150, mi151, mi152, mi153, mi154, mi155, mi156, mi157, mi158, mi159]
def mtab8 : List MI := [mi160, mi161, mi162, mi163, mi164, mi165, mi166, mi167, mi168, mi169, mi170, mi171, mi172, mi173, mi174, mi175, mi176, mi177, mi178, mi179]
def mtab9 : List MI := [mi180, mi181, mi182, mi183, mi184, mi185, mi186, mi187, mi188, mi189, mi190, mi191, mi192, mi193, mi194, mi195, mi196, mi197, mi198, mi199]
def mtab10 : List MI := [mi200, mi201, mi202, mi203, mi204, mi205, mi206, mi207, mi208, mi209, mi210, mi211, mi212, mi213, mi214, mi215, mi216, mi217, mi218, mi219]
def mtab11 : List MI := [mi220, mi221, mi222, mi223, mi224, mi225, mi226, mi227, mi228, mi229, mi230, mi231, mi232, mi233, mi234, mi235, mi236, mi237, mi238, mi239]
def mtab12 : List MI := [mi240, mi241, mi242, mi243, mi244, mi245, mi246, mi247, mi248, mi249, mi250, mi251, mi252, mi253, mi254, mi255, mi256, mi257, mi258, mi259]
def mtab13 : List MI := [mi260, mi261, mi262, mi263, mi264, mi265, mi266, mi267, mi268, mi269, mi270, mi271, mi272, mi273, mi274, mi275, mi276, mi277, mi278, mi279]
def mtab14 : List MI := [mi280, mi281, mi282, mi283, mi284, mi285, mi286, mi287, mi288, mi289, mi290, mi291, mi292, mi293, mi294, mi295, mi296, mi297, mi298, mi299]
def mtab15 : List MI := [mi300, mi301, mi302, mi303, mi304, mi305, mi306, mi307, mi308, mi309, mi310, mi311, mi312, mi313, mi314, mi315, mi316, mi317, mi318, mi319]
def mtab16 : List MI := [mi320, mi321, mi322, mi323, mi324, mi325, mi326, mi327, mi328, mi329, mi330, mi331, mi332, mi333, mi334, mi335, mi336, mi337, mi338, mi339]
def mtab17 : List MI := [mi340, mi341, mi342, mi343, mi344, mi345, mi346, mi347, mi348, mi349, mi350, mi351, mi352, mi353]
def mtab : List (List MI) := [mtab0, mtab1, mtab2, mtab3, mtab4, mtab5, mtab6, mtab7, mtab8, mtab9, mtab10, mtab11, mtab12, mtab13, mtab14, mtab15, mtab16, mtab17]
def mi (y : Nat) : MI := (mtab.getD (y / 20) []).getD (y % 20) mi0
def fTab : Nat → List (Nat × Nat × Nat)
  | 0 => [(9, 0, 0), (15, 0, 1), (19, 0, 2), (22, 0, 3), (37, 7, 10), (62, 7, 1), (65, 7, 2)]
  | 1 => [(9, 1, 0), (15, 1, 1), (18, 7, 5), (24, 1, 2), (25, 7, 0), (32, 1, 3)]
  | 2 => [(9, 2, 5), (15, 2, 6), (19, 2, 3), (23, 2, 4), (27, 2, 0), (30, 2, 1), (33, 2, 2), (37, 3, 2), (42, 3, 3), (55, 3, 8), (62, 3, 4), (65, 3, 6), (73, 7, 10), (80, 7, 2), (83, 3, 7), (86, 3, 5), (112, 7, 5), (118, 7, 18)]
  | 3 => [(9, 3, 3), (15, 3, 4), (18, 3, 5), (21, 3, 6), (24, 3, 7), (27, 3, 8), (33, 3, 0), (37, 3, 1), (41, 3, 2)]
  | 4 => [(9, 4, 0), (15, 4, 3), (19, 4, 4), (23, 4, 1), (32, 4, 2), (41, 5, 1), (44, 3, 0), (62, 3, 1), (65, 3, 2), (68, 3, 3), (81, 3, 8), (84, 3, 4), (95, 3, 5), (98, 7, 0), (110, 3, 6), (113, 3, 7), (116, 5, 2)]
  | 5 => [(9, 5, 5), (15, 5, 8), (19, 5, 9), (22, 5, 10), (26, 5, 3), (30, 5, 4), (33, 5, 0), (42, 5, 6), (45, 5, 7), (48, 5, 11), (55, 5, 12), (93, 5, 1), (96, 5, 2), (100, 5, 13)]
  | 6 => [(9, 6, 0), (15, 6, 1), (19, 6, 2)]
  | 7 => [(9, 7, 1), (15, 7, 2), (18, 7, 3), (21, 7, 6), (25, 7, 7), (28, 7, 8), (31, 7, 9), (34, 7, 10), (37, 7, 11), (40, 7, 12), (43, 7, 14), (46, 7, 15), (52, 7, 0), (56, 7, 4), (59, 7, 5), (62, 7, 13), (65, 7, 16), (68, 7, 17), (71, 7, 18), (74, 7, 19)]
  | 8 => [(9, 8, 0), (20, 8, 1), (29, 5, 1), (64, 7, 16), (67, 7, 17), (70, 7, 18), (76, 7, 0), (83, 7, 2), (91, 7, 3), (94, 7, 5), (97, 5, 2), (109, 7, 8), (112, 7, 9), (115, 7, 10), (118, 7, 13)]
  | 9 => [(9, 9, 0), (13, 9, 1), (17, 9, 2), (22, 9, 3), (30, 9, 4), (37, 9, 7), (41, 9, 8), (47, 9, 9), (51, 9, 10), (59, 9, 5), (68, 9, 6), (72, 9, 11), (76, 9, 12), (80, 9, 13), (86, 9, 14), (95, 9, 15), (104, 9, 16), (108, 9, 17), (112, 9, 18), (151, 6, 0), (158, 6, 1), (178, 5, 0), (191, 7, 5), (205, 3, 1), (208, 5, 3), (211, 5, 4), (214, 7, 0), (217, 7, 13), (220, 7, 16), (223, 7, 17), (226, 7, 18), (229, 7, 19), (236, 7, 4), (245, 7, 1), (248, 7, 2), (251, 7, 3), (260, 7, 7), (263, 7, 8), (266, 7, 9), (269, 7, 10), (272, 7, 11), (275, 7, 12), (278, 7, 14), (281, 7, 15), (376, 1, 1), (431, 3, 0), (441, 2, 1), (444, 2, 2), (447, 2, 0)]
  | 10 => [(7, 10, 0), (13, 10, 1), (17, 10, 4), (21, 10, 5), (24, 10, 6), (27, 10, 7), (30, 10, 8), (34, 10, 9), (37, 10, 16), (41, 10, 17), (44, 10, 21), (47, 10, 25), (50, 10, 26), (53, 10, 27), (56, 10, 28), (60, 10, 29), (63, 10, 30), (66, 10, 31), (69, 10, 34), (72, 10, 35), (75, 10, 36), (82, 10, 2), (85, 10, 3), (112, 10, 10), (118, 10, 11), (121, 10, 14), (127, 10, 13), (130, 10, 15), (133, 10, 12), (158, 10, 18), (161, 10, 19), (218, 10, 20), (252, 10, 22), (255, 10, 23), (368, 10, 24), (456, 10, 32), (478, 10, 33), (495, 10, 37), (499, 10, 38)]
  | _ => []
def mTab : Nat → List (Nat × Nat)
  | 0 => [(3, 1999), (25, 105), (29, 106), (33, 107), (43, 1000), (49, 1001), (52, 13), (56, 26), (59, 44), (68, 45)]
  | 1 => [(3, 1999), (28, 34), (35, 94), (39, 95), (43, 35), (46, 31), (54, 96), (57, 97), (60, 351), (65, 1000), (70, 100)]
  | 2 => [(3, 1999), (45, 110), (49, 114), (52, 111), (58, 112), (68, 17), (76, 113), (89, 40), (92, 41), (96, 45), (99, 46), (102, 48), (105, 47), (108, 115), (115, 116)]
  | 3 => [(3, 1999), (30, 73), (44, 1003)]
  | 4 => [(3, 1999), (27, 73), (36, 60), (48, 69), (52, 85), (56, 87), (59, 86), (71, 68), (74, 88), (78, 70), (87, 90), (91, 91), (103, 71), (107, 89), (120, 16)]
  | 5 => [(3, 1999), (36, 1001), (51, 61), (58, 68), (61, 65), (65, 62), (68, 66), (71, 63), (74, 67), (79, 64), (84, 1005), (89, 1006), (103, 69)]
  | 6 => [(3, 1999), (22, 352), (28, 2), (32, 6)]
  | 7 => [(3, 1999), (49, 8), (77, 1003), (83, 14), (87, 17), (90, 22), (94, 23), (98, 1000), (104, 1001), (107, 24), (110, 26), (114, 29), (118, 38), (121, 25), (124, 33), (127, 35), (130, 27), (134, 351), (142, 32), (145, 42), (149, 43), (152, 31), (155, 44), (158, 50), (162, 49), (165, 53), (168, 54), (171, 55)]
  | 8 => [(3, 1999), (15, 8), (24, 60), (32, 77), (36, 78), (40, 79), (43, 80), (46, 81), (49, 69), (57, 68), (60, 71), (73, 70), (79, 10), (87, 82), (101, 16), (105, 11), (121, 12)]
  | 9 => [(1, 1999), (26, 0), (29, 56), (36, 7), (46, 72), (56, 75), (65, 83), (85, 92), (92, 101), (101, 108), (116, 183), (122, 181), (128, 179), (131, 4), (135, 178), (139, 185), (143, 5), (147, 175), (155, 1), (161, 3), (165, 1003), (171, 57), (174, 58), (181, 59), (184, 76), (188, 73), (194, 174), (197, 1001), (202, 84), (232, 18), (239, 19), (242, 13), (254, 27), (257, 14), (284, 40), (287, 176), (290, 15), (293, 41), (296, 45), (299, 46), (304, 48), (307, 180), (312, 11), (318, 10), (323, 12), (330, 24), (333, 25), (337, 28), (340, 33), (343, 30), (346, 177), (349, 31), (352, 34), (355, 36), (358, 35), (361, 37), (364, 38), (367, 93), (370, 98), (373, 184), (379, 182), (382, 99), (385, 51), (388, 49), (391, 186), (394, 187), (397, 351), (402, 39), (407, 9), (410, 102), (414, 103), (417, 104), (420, 52), (423, 53), (426, 188), (434, 20), (437, 109), (452, 21), (455, 189), (459, 74), (462, 2), (465, 32), (468, 190)]
  | 10 => [(1, 1999), (78, 192), (88, 197), (92, 198), (95, 196), (99, 201), (102, 204), (106, 202), (115, 210), (124, 211), (136, 212), (139, 213), (143, 1001), (148, 1005), (154, 1006), (164, 214), (167, 215), (170, 217), (173, 216), (177, 223), (183, 230), (186, 221), (190, 232), (194, 227), (197, 220), (201, 231), (205, 228), (208, 222), (212, 224), (215, 229), (221, 233), (225, 234), (228, 235), (231, 219), (234, 218), (237, 236), (240, 226), (243, 238), (246, 239), (249, 240), (258, 241), (261, 242), (264, 208), (268, 250), (271, 251), (274, 252), (277, 1000), (280, 253), (283, 254), (287, 256), (290, 255), (293, 257), (296, 259), (299, 244), (302, 258), (305, 245), (308, 265), (312, 264), (315, 266), (318, 267), (321, 269), (324, 271), (327, 273), (330, 247), (333, 275), (338, 276), (353, 284), (356, 285), (359, 288), (362, 291), (365, 199), (371, 295), (374, 248), (377, 249), (381, 300), (384, 302), (387, 301), (390, 303), (393, 246), (397, 305), (400, 307), (403, 309), (406, 310), (411, 313), (414, 314), (417, 317), (420, 321), (423, 283), (426, 319), (429, 320), (432, 323), (437, 322), (440, 326), (443, 327), (446, 200), (450, 331), (453, 330), (460, 335), (463, 336), (466, 337), (469, 338), (472, 339), (475, 340), (481, 341), (484, 342), (487, 343), (492, 344), (502, 348)]
  | 11 => [(9, 117), (12, 191), (13, 118), (17, 193), (18, 119), (22, 194), (23, 120), (26, 195), (27, 121), (31, 203), (34, 122), (38, 205), (39, 123), (43, 206), (44, 124), (48, 207), (49, 125), (53, 209), (54, 126), (58, 237), (59, 127), (62, 243), (63, 128), (66, 225), (67, 129), (70, 260), (71, 130), (75, 261), (76, 131), (79, 262), (80, 132), (83, 263), (84, 133), (87, 268), (88, 134), (91, 270), (92, 135), (95, 272), (96, 136), (99, 274), (100, 137), (103, 277), (104, 138), (107, 278), (108, 139), (111, 279), (112, 140), (115, 280), (116, 141), (119, 281), (120, 142), (124, 282), (125, 143), (128, 286), (129, 144), (133, 287), (134, 145), (137, 289), (138, 146), (141, 290), (142, 147), (145, 292), (146, 148), (149, 293), (150, 149), (153, 294), (154, 150), (157, 296), (158, 151), (161, 297), (162, 152), (165, 298), (166, 153), (169, 299), (170, 154), (173, 304), (174, 155), (177, 306), (178, 156), (181, 308), (182, 157), (185, 311), (186, 158), (189, 312), (190, 159), (193, 315), (194, 160), (198, 316), (199, 161), (202, 318), (203, 162), (206, 324), (207, 163), (210, 325), (211, 164), (214, 328), (215, 165), (218, 329), (219, 166), (223, 332), (224, 167), (227, 333), (228, 168), (231, 334), (232, 169), (235, 345), (236, 170), (239, 346), (240, 171), (243, 347), (244, 172), (247, 349), (248, 173), (251, 350)]
  | _ => []
def cTab : Nat → List (Nat × Nat)
  | 9 => [(20, 6), (27, 5), (34, 7), (44, 3), (54, 8), (63, 4), (83, 1), (90, 0), (99, 2)]
  | 11 => [(7, 9), (10, 10)]
  | _ => []
def kTab : Nat → List (Nat × Int)
  | 2 => [(121, 65536)]
  | 10 => [(142, 100000), (380, 1000000), (459, 65536)]
  | 12 => [(265, 1431655765), (266, 858993459), (267, 252645135)]
  | _ => []
def lTab : Nat → List (Nat × Int)
  | 5 => [(77, 32)]
  | 9 => [(120, 3), (126, 60), (302, 99), (310, 40), (316, 9), (321, 30), (326, 5), (328, 16), (405, 4), (429, 9999), (450, 20)]
  | 10 => [(110, -1), (336, 99), (341, 40), (343, 9), (345, 60), (347, 30), (349, 5), (351, 16), (409, 20), (435, 4), (490, 9999)]
  | 11 => [(32, 4294967295)]
  | _ => []
/-- the fields of the classes: 0 int, 1 long, 2 a reference, 3 boolean -/
def ftys : List (List Nat) := [[2, 0, 0, 0], [2, 2, 0, 0], [0, 0, 3, 2, 0, 2, 2], [3, 0, 0, 2, 2, 2, 2, 2, 2], [2, 2, 0, 2, 2], [0, 0, 1, 0, 0, 2, 0, 0, 2, 2, 2, 0, 0, 0], [2, 0, 0], [0, 2, 2, 2, 0, 0, 2, 2, 2, 2, 2, 2, 2, 0, 2, 2, 0, 0, 0, 0], [2, 0], [0, 1, 1, 2, 2, 2, 2, 2, 2, 2, 2, 2, 2, 0, 2, 2, 2, 2, 3], [2, 2, 0, 1, 1, 2, 2, 2, 2, 2, 0, 0, 0, 0, 0, 0, 0, 0, 0, 0, 0, 2, 0, 0, 0, 2, 2, 2, 2, 2, 2, 2, 0, 0, 2, 2, 2, 3, 0]]
def tyT : Nat → Nat → FieldType
  | 0 => tyX0
  | 1 => tyX1
  | 2 => tyX2
  | 3 => tyX3
  | 4 => tyX4
  | 5 => tyX5
  | 6 => tyX6
  | 7 => tyX7
  | 8 => tyX8
  | 9 => tyX9
  | 10 => tyX10
  | _ => fun _ => .int
end
section
/-! tables of the classes; the words that all methods need; what is checked of an instruction -/
def RR : Nat → String
  | 0 => RX0
  | 1 => RX1
  | 2 => RX2
  | 3 => RX3
  | 4 => RX4
  | 5 => RX5
  | 6 => RX6
  | 7 => RX7
  | 8 => RX8
  | 9 => RX9
  | 10 => RX10
  | _ => ""
def TT : Nat → u_T
  | 0 => TX0
  | 1 => TX1
  | 2 => TX2
  | 3 => TX3
  | 4 => TX4
  | 5 => TX5
  | 6 => TX6
  | 7 => TX7
  | 8 => TX8
  | 9 => TX9
  | 10 => TX10
  | _ => TX0
def NN : Nat → Nat
  | 0 => 4
  | 1 => 4
  | 2 => 7
  | 3 => 9
  | 4 => 5
  | 5 => 14
  | 6 => 3
  | 7 => 20
  | 8 => 2
  | 9 => 19
  | 10 => 39
  | _ => 0
def tcode : FieldType → Nat
  | .int => 0
  | .long => 1
  | .boolean => 3
  | .object _ => 2
  | .array _ => 2
  | _ => 9
theorem vw_at : ∀ c, c < 11 → vwCl[c]? = some (RR c, TT c, NN c)
  | 0, _ => rfl
  | 1, _ => rfl
  | 2, _ => rfl
  | 3, _ => rfl
  | 4, _ => rfl
  | 5, _ => rfl
  | 6, _ => rfl
  | 7, _ => rfl
  | 8, _ => rfl
  | 9, _ => rfl
  | 10, _ => rfl
  | _ + 11, h => absurd h (by omega)
theorem vw_ty : ∀ c, c < 11 → ∀ k, k < NN c → parseFieldDescriptor (TT c k).2.2.1 = some (tyT c k)
  | 0, _ => tyX0_ok
  | 1, _ => tyX1_ok
  | 2, _ => tyX2_ok
  | 3, _ => tyX3_ok
  | 4, _ => tyX4_ok
  | 5, _ => tyX5_ok
  | 6, _ => tyX6_ok
  | 7, _ => tyX7_ok
  | 8, _ => tyX8_ok
  | 9, _ => tyX9_ok
  | 10, _ => tyX10_ok
  | _ + 11, h => absurd h (by omega)
theorem vw_nm : ∀ c, c < 11 → ∀ a, a < NN c → ∀ b, b < NN c → a ≠ b → (TT c a).2.1 ≠ (TT c b).2.1
  | 0, _ => nmX0
  | 1, _ => nmX1
  | 2, _ => nmX2
  | 3, _ => nmX3
  | 4, _ => nmX4
  | 5, _ => nmX5
  | 6, _ => nmX6
  | 7, _ => nmX7
  | 8, _ => nmX8
  | 9, _ => nmX9
  | 10, _ => nmX10
  | _ + 11, h => absurd h (by omega)
theorem ft_len : ∀ c, c < 11 → (ftys.getD c []).length = NN c := by decide +kernel
theorem ft_code : ∀ c, c < 11 → ∀ k, k < NN c → tcode (tyT c k) = (ftys.getD c []).getD k 0 := by decide +kernel
def kC : Nat → String
  | 104 => RX6
  | 105 => RX7
  | _ => RX3
def ON : Nat → String
  | 0 => RX0
  | 1 => RX1
  | 2 => RX2
  | 3 => RX3
  | 4 => RX4
  | 5 => RX5
  | 6 => RX6
  | 7 => RX7
  | 8 => RX8
  | 9 => RX9
  | 10 => RX10
  | 11 => RL
  | 12 => RJ6
  | _ => RJ7
def yOf (y : Nat) : MethodName := match y with
  | 1000 => Lib.Math.max.name
  | 1001 => Lib.Math.min.name
  | 1003 => arraycopyName
  | 1005 => yJ0_length_8abf5
  | 1006 => yJ0_charAt_5068e
  | 1999 => Lib.objectInit
  | y => (mi y).1
def wF (o : Nat) : List Cond := (fTab o).map (fun q => Cond.fieldLink (ON o) q.1 (TT q.2.1 q.2.2).1 (TT q.2.1 q.2.2).2.1 (TT q.2.1 q.2.2).2.2.1)
def wMt (o : Nat) : List Cond := (mTab o).map (fun q => Cond.methodLink (ON o) q.1 (yOf q.2))
def wC (o : Nat) : List Cond := (cTab o).map (fun q => Cond.classLink (ON o) q.1 (RR q.2))
def wK (o : Nat) : List Cond := (kTab o).map (fun q => Cond.constant (ON o) q.1 (Int32.ofInt q.2))
def wLg (o : Nat) : List Cond := (lTab o).map (fun q => Cond.constantLong (ON o) q.1 (Int64.ofInt q.2))
def wCls (c : Nat) : List Cond := u_ws (RR c) (TT c) (NN c) ++ [Cond.instantiable (RR c) (NN c)]
def wY (y : Nat) : List Cond := match (mi y).2.2.2.2.1.1 with
  | 0 => [Cond.code (mi y).1 (mi y).2.1 (mi y).2.2.1 (mi y).2.2.2.1, Cond.instanceMethod (mi y).1, Cond.selects (mi y).1.cls (mi y).1 (mi y).1]
  | 1 => [Cond.code (mi y).1 (mi y).2.1 (mi y).2.2.1 (mi y).2.2.2.1, Cond.static (mi y).1]
  | _ => [Cond.code (mi y).1 (mi y).2.1 (mi y).2.2.1 (mi y).2.2.2.1, Cond.instanceMethod (mi y).1]
def wO : List Cond := (List.range 14).map (fun o => Cond.initialized (ON o)) ++ [Cond.arrayClass .int, Cond.arrayClass .long, Cond.arrayClass .byte, Cond.arrayClass .boolean, Cond.instanceMethod Lib.objectInit, Cond.code Lib.objectInit ⟨#[0xb1]⟩ 1 none,
  Cond.static Lib.Math.max.name, Cond.initialized "java/lang/Math", Cond.code Lib.Math.max.name Lib.Math.max.code 2 (some .int), Cond.static Lib.Math.min.name, Cond.code Lib.Math.min.name Lib.Math.min.code 2 (some .int), Cond.native arraycopyName, Cond.static arraycopyName, Cond.initialized "java/lang/System"]
/-- String.length and charAt of a Latin1 text, and what they call -/
def wS : List Cond := [Cond.code yJ0_length_8abf5 cJ0_length_8abf5 1 (some .int), Cond.instanceMethod yJ0_length_8abf5, Cond.selects RJ0 yJ0_length_8abf5 yJ0_length_8abf5, Cond.code yJ0_charAt_5068e cJ0_charAt_5068e 2 (some .char), Cond.instanceMethod yJ0_charAt_5068e, Cond.selects RJ0 yJ0_charAt_5068e yJ0_charAt_5068e, Cond.initialized RJ0,
  Cond.fieldLink RJ0 9 "java/lang/String" "value" "[B", Cond.methodLink RJ0 335 yJ0_coder_7d493, Cond.instanceMethod yJ0_coder_7d493, Cond.selects RJ0 yJ0_coder_7d493 yJ0_coder_7d493, Cond.code yJ0_coder_7d493 cJ0_coder_7d493 1 (some .byte), Cond.fieldLink RJ0 38 "java/lang/String" "COMPACT_STRINGS" "Z", Cond.fieldLink RJ0 15 "java/lang/String" "coder" "B",
  Cond.methodLink RJ0 492 yJ0_isLatin1_aae02, Cond.instanceMethod yJ0_isLatin1_aae02, Cond.selects RJ0 yJ0_isLatin1_aae02 yJ0_isLatin1_aae02, Cond.code yJ0_isLatin1_aae02 cJ0_isLatin1_aae02 1 (some .boolean), Cond.methodLink RJ0 495 yJ1_charAt_3b067, Cond.static yJ1_charAt_3b067, Cond.initialized RJ1, Cond.code yJ1_charAt_3b067 cJ1_charAt_3b067 2 (some .char),
  Cond.methodLink RJ1 9 yJ0_checkIndex_df160, Cond.static yJ0_checkIndex_df160, Cond.code yJ0_checkIndex_df160 cJ0_checkIndex_df160 2 none, Cond.fieldLink RJ0 1053 "jdk/internal/util/Preconditions" "SIOOBE_FORMATTER" "Ljava/util/function/BiFunction;", Cond.methodLink RJ0 1059 yJ3_checkIndex_8e157, Cond.static yJ3_checkIndex_8e157, Cond.initialized RJ3, Cond.code yJ3_checkIndex_8e157 cJ3_checkIndex_8e157 3 (some .int)]
def NMc : Nat := NM - 1
/-- all words that the methods (but the law itself) need -/
def AW : List Cond := (wS ++ wO) ++ ((List.range 14).flatMap (fun o => wF o ++ wMt o ++ wC o ++ wK o ++ wLg o) ++ ((List.range 11).flatMap wCls ++ (List.range NMc).flatMap wY))
theorem AW_o {w : Cond} (h : w ∈ wO) : w ∈ AW := List.mem_append_left _ (List.mem_append_right _ h)
theorem AW_s {w : Cond} (h : w ∈ wS) : w ∈ AW := List.mem_append_left _ (List.mem_append_left _ h)
theorem wS_all : ∀ w ∈ wS, goodWord w = true := by
  intro w h
  simp only [wS, List.mem_cons, List.not_mem_nil, or_false] at h
  rcases h with rfl | rfl | rfl | rfl | rfl | rfl | rfl | rfl | rfl | rfl | rfl | rfl | rfl | rfl | rfl | rfl | rfl | rfl | rfl | rfl | rfl | rfl | rfl | rfl | rfl | rfl | rfl | rfl | rfl | rfl <;> rfl
theorem AW_t {w : Cond} {o : Nat} (ho : o < 14) (h : w ∈ wF o ++ wMt o ++ wC o ++ wK o ++ wLg o) : w ∈ AW := List.mem_append_right _ (List.mem_append_left _ (List.mem_flatMap.mpr ⟨o, List.mem_range.mpr ho, h⟩))
theorem AW_c {w : Cond} {c : Nat} (hc : c < 11) (h : w ∈ wCls c) : w ∈ AW := List.mem_append_right _ (List.mem_append_right _ (List.mem_append_left _ (List.mem_flatMap.mpr ⟨c, List.mem_range.mpr hc, h⟩)))
theorem AW_y {w : Cond} {y : Nat} (hy : y < NMc) (h : w ∈ wY y) : w ∈ AW := List.mem_append_right _ (List.mem_append_right _ (List.mem_append_right _ (List.mem_flatMap.mpr ⟨y, List.mem_range.mpr hy, h⟩)))
theorem AW_f {o : Nat} (ho : o < 14) {q : Nat × Nat × Nat} (h : q ∈ fTab o) : Cond.fieldLink (ON o) q.1 (TT q.2.1 q.2.2).1 (TT q.2.1 q.2.2).2.1 (TT q.2.1 q.2.2).2.2.1 ∈ AW := by
  refine AW_t ho ?_
  simp only [List.mem_append]
  exact Or.inl (Or.inl (Or.inl (Or.inl (List.mem_map.mpr ⟨q, h, rfl⟩))))
theorem AW_m {o : Nat} (ho : o < 14) {q : Nat × Nat} (h : q ∈ mTab o) : Cond.methodLink (ON o) q.1 (yOf q.2) ∈ AW := by
  refine AW_t ho ?_
  simp only [List.mem_append]
  exact Or.inl (Or.inl (Or.inl (Or.inr (List.mem_map.mpr ⟨q, h, rfl⟩))))
theorem AW_cl {o : Nat} (ho : o < 14) {q : Nat × Nat} (h : q ∈ cTab o) : Cond.classLink (ON o) q.1 (RR q.2) ∈ AW := by
  refine AW_t ho ?_
  simp only [List.mem_append]
  exact Or.inl (Or.inl (Or.inr (List.mem_map.mpr ⟨q, h, rfl⟩)))
theorem AW_k {o : Nat} (ho : o < 14) {q : Nat × Int} (h : q ∈ kTab o) : Cond.constant (ON o) q.1 (Int32.ofInt q.2) ∈ AW := by
  refine AW_t ho ?_
  simp only [List.mem_append]
  exact Or.inl (Or.inr (List.mem_map.mpr ⟨q, h, rfl⟩))
theorem AW_l {o : Nat} (ho : o < 14) {q : Nat × Int} (h : q ∈ lTab o) : Cond.constantLong (ON o) q.1 (Int64.ofInt q.2) ∈ AW := by
  refine AW_t ho ?_
  simp only [List.mem_append]
  exact Or.inr (List.mem_map.mpr ⟨q, h, rfl⟩)
theorem AW_lay {c : Nat} (hc : c < 11) : ∀ w ∈ u_ws (RR c) (TT c) (NN c), w ∈ AW := fun w h => AW_c hc (List.mem_append_left _ h)
theorem AW_ins {c : Nat} (hc : c < 11) : Cond.instantiable (RR c) (NN c) ∈ AW := AW_c hc (List.mem_append_right _ List.mem_cons_self)
theorem AW_ini {o : Nat} (ho : o < 14) : Cond.initialized (ON o) ∈ AW := AW_o (List.mem_append_left _ (List.mem_map.mpr ⟨o, List.mem_range.mpr ho, rfl⟩))
theorem AW_code {y : Nat} (hy : y < NMc) : Cond.code (mi y).1 (mi y).2.1 (mi y).2.2.1 (mi y).2.2.2.1 ∈ AW := by
  refine AW_y hy ?_
  unfold wY
  split <;> exact List.mem_cons_self
theorem AW_all {w : Cond} (h : w ∈ AW) : goodWord w = true := by
  have h : w ∈ (wS ++ wO) ++ ((List.range 14).flatMap (fun o => wF o ++ wMt o ++ wC o ++ wK o ++ wLg o) ++ ((List.range 11).flatMap wCls ++ (List.range NMc).flatMap wY)) := h
  rcases List.mem_append.mp h with h | h
  · rcases List.mem_append.mp h with h | h
    · exact wS_all w h
    · simp only [wO, List.mem_append, List.mem_map, List.mem_cons, List.not_mem_nil, or_false] at h
      rcases h with ⟨o, -, rfl⟩ | h
      · rfl
      · rcases h with rfl | rfl | rfl | rfl | rfl | rfl | rfl | rfl | rfl | rfl | rfl | rfl | rfl | rfl <;> rfl
  simp only [List.mem_append, List.mem_flatMap, List.mem_map, List.mem_cons, List.not_mem_nil, or_false, wF, wMt, wC, wK, wLg, wCls] at h
  rcases h with ⟨o, -, ((((⟨q, -, rfl⟩ | ⟨q, -, rfl⟩) | ⟨q, -, rfl⟩) | ⟨q, -, rfl⟩) | ⟨q, -, rfl⟩)⟩ | ⟨c, -, h | rfl⟩ | ⟨y, -, h⟩
  · rfl
  · rfl
  · rfl
  · rfl
  · rfl
  · unfold u_ws at h
    obtain ⟨k, -, rfl⟩ := List.mem_map.mp h
    unfold u_lay
    split <;> rfl
  · rfl
  · unfold wY at h
    split at h <;> simp only [List.mem_cons, List.not_mem_nil, or_false] at h
    · rcases h with rfl | rfl | rfl <;> rfl
    · rcases h with rfl | rfl <;> rfl
    · rcases h with rfl | rfl <;> rfl
def growM (y : Nat) : List (Nat × Nat) := (mi y).2.2.2.2.2.2.1
def lenI (i : Instr) (f : Int) : Nat := match i with
  | .aload _ | .iload _ | .lload _ | .istore _ | .astore _ | .lstore _ | .bipush _ | .ldc _ | .newarray _ => 2
  | .sipush _ | .ldc_w _ | .ldc2_w _ | .iinc _ _ | .ifCond _ _ | .if_icmp _ _ | .goto _ | .getfield _ | .putfield _ | .new _ | .anewarray _ | .invokestatic _ | .invokevirtual _ | .invokespecial _ => 3
  | .tableswitch _ _ _ _ | .lookupswitch _ _ => f.toNat
  | .nop => 0
  | _ => 1
def flv (y : Nat) : Nat := (mi y).2.2.2.2.1.1
def nar (y : Nat) : Nat := (mi y).2.2.2.2.1.2
def cln (y : Nat) : Nat := (mi y).2.2.2.2.2.1
def in32 (z : Int) : Bool := decide (-2147483648 ≤ z) && decide (z ≤ 2147483647)
def in64 (z : Int) : Bool := decide (-9223372036854775808 ≤ z) && decide (z ≤ 9223372036854775807)
def callOk (y fl : Nat) (n : Int) (a : Nat) : Bool := decide (y < NMc) && decide (flv y = fl) && decide (n = (nar y + a : Nat))
def kCn : Nat → Nat
  | 104 => 6
  | 105 => 7
  | _ => 3
def opOk (o : Nat) (ctor : Bool) (rb : Nat) (nL pc : Nat) (x : OpI) : Bool := match x with
  | (i, y, f, z, ps) => match i with
  | .istore n => decide (n < nL)
  | .istore_n n => decide (n.val < nL)
  | .astore n => decide (n < nL)
  | .astore_n n => decide (n.val < nL)
  | .lstore n => decide (n + 1 < nL)
  | .lstore_n n => decide (n.val + 1 < nL)
  | .iinc n _ => decide (n < nL)
  | .iconst v => in32 v
  | .bipush v => decide (-128 ≤ v ∧ v ≤ 127)
  | .sipush v => decide (-32768 ≤ v ∧ v ≤ 32767)
  | .ldc i => match y with
    | 0 => decide ((i, z) ∈ kTab o) && in32 z
    | _ => decide ((o = 5 ∧ i = 82 ∧ f = 900001) ∨ (o = 10 ∧ i = 181 ∧ f = 900002))
  | .ldc_w i => decide ((i, z) ∈ kTab o) && in32 z
  | .ldc2_w i => decide ((i, z) ∈ lTab o) && in64 z
  | .goto off => decide ((pc : Int) + off = (y : Int))
  | .nop => decide (y = pc)
  | .ifCond _ off => decide ((pc : Int) + off = (y : Int))
  | .if_icmp _ off => decide ((pc : Int) + off = (y : Int))
  | .tableswitch dflt lw hg ar => decide ((pc : Int) + dflt = (y : Int)) && decide (hg = lw + (ar.toList.length : Int) - 1) && decide (ar.toList.mapIdx (fun i o => (lw + (i : Int), (pc : Int) + o)) = ps.map (fun q => (q.1, (q.2 : Int))))
  | .lookupswitch dflt ar => decide ((pc : Int) + dflt = (y : Int)) && decide (ar.toList.map (fun q => (q.1, (pc : Int) + q.2)) = ps.map (fun q => (q.1, (q.2 : Int)))) && (ar.toList.zip (ar.toList.drop 1)).all (fun (a, next) => a.1 < next.1)
  | .getfield i => decide ((i, y, f.toNat) ∈ fTab o) && decide (0 ≤ f) && decide (y < 11) && decide (f.toNat < NN y) && decide ((z = 1 ∧ (ftys.getD y [])[f.toNat]? = some 1) ∨ (z = 2 ∧ (ftys.getD y [])[f.toNat]? = some 2) ∨ (z = 0 ∧ ((ftys.getD y [])[f.toNat]? = some 0 ∨ (ftys.getD y [])[f.toNat]? = some 3)))
  | .putfield i => decide ((i, y, f.toNat) ∈ fTab o) && decide (0 ≤ f) && decide (y < 11) && decide (f.toNat < NN y) && decide (0 ≤ z) && decide ((ftys.getD y [])[f.toNat]? = some z.toNat) && (decide ((TT y f.toNat).2.2.2 = false) || (ctor && decide (y = o)))
  | .iaload => decide (y = 100) || (decide (y = 200) && decide (o = 11))
  | .baload => decide (y = 102) || decide (y = 103)
  | .bastore => decide (y = 102) || decide (y = 103)
  | .aaload => decide (y = 104 ∨ y = 105 ∨ y = 106)
  | .aastore => decide ((y = 104 ∧ f = 6) ∨ (y = 105 ∧ f = 7) ∨ (y = 106 ∧ f = 3))
  | .arraylength => decide (y = 101) || (decide (y = 200) && decide (o = 11))
  | .new i => decide ((i, y) ∈ cTab o) && decide (y < 11) && decide (f = (NN y : Int))
  | .newarray at' => decide ((y = 100 ∧ at' = .int) ∨ (y = 101 ∧ at' = .long) ∨ (y = 102 ∧ at' = .byte) ∨ (y = 103 ∧ at' = .boolean))
  | .anewarray i => decide (y = 104 ∨ y = 105 ∨ y = 106) && decide ((i, kCn y) ∈ cTab o)
  | .invokestatic i => match y with
    | 1000 => decide ((i, 1000) ∈ mTab o)
    | 1001 => decide ((i, 1001) ∈ mTab o)
    | 1003 => decide ((i, 1003) ∈ mTab o) && decide (f = 100 ∨ f = 101)
    | _ => callOk y 1 f 0 && decide ((growM y).length = 0) && (decide ((i, y) ∈ mTab o) || (decide (y = 182) && decide ((o = 8 ∧ i = 53) ∨ (o = 7 ∧ i = 139) ∨ (o = 1 ∧ i = 50))))
  | .invokevirtual i => match z with
    | 99 => decide ((i, y) ∈ mTab o) && decide ((y = 1005 ∧ f = 1) ∨ (y = 1006 ∧ f = 2))
    | _ => callOk y 0 f 1 && decide ((growM y).length = 0) && decide ((i, y) ∈ mTab o) && decide (z = (cln y : Int)) && decide (cln y < 11)
  | .invokespecial i => match y with
    | 1999 => decide ((i, 1999) ∈ mTab o)
    | _ => callOk y 2 f 1 && decide ((i, y) ∈ mTab o) && decide (z = (cln y : Int)) && decide (cln y < 11) && decide (ps = [(((growM y).length : Int), totS (growM y))])
  | .ireturn => decide (y = rb) && decide (rb < 2)
  | .lreturn => decide (rb = 3)
  | .return_ => decide (rb = 4)
  | _ => true
def chkO (o : Nat) (ctor : Bool) (rb nL : Nat) (cc : ByteArray) : Nat → List OpI → Bool
  | _, [] => true
  | pc, x :: ops => opOk o ctor rb nL pc x && (decide (x.1 = .nop) || decide (decode cc pc = .ok (x.1, lenI x.1 x.2.2.1))) && chkO o ctor rb nL cc (pc + lenI x.1 x.2.2.1) ops
/-- what is known of a method's name and numbers -/
def YOk (y : Nat) : Prop := (mi y).1.cls = ON (cln y) ∧ (mi y).1.cls ≠ "java/lang/invoke/MethodHandle" ∧ (mi y).1.cls ≠ "java/lang/invoke/VarHandle" ∧ (parseMethodDescriptor (mi y).1.desc).map (fun d => d.parameters.length) = some (nar y) ∧ plainName (mi y).1.cls = true ∧ (flv y = 2 → (mi y).1.name = "<init>" ∧ (mi y).2.2.2.1 = none) ∧ (mi y).2.2.1 ≤ 80 ∧ cln y < 14
theorem RR_ON : ∀ c, c < 11 → RR c = ON c
  | 0, _ | 1, _ | 2, _ | 3, _ | 4, _ | 5, _ | 6, _ | 7, _ | 8, _ | 9, _ | 10, _ => rfl
  | _ + 11, h => absurd h (by omega)
theorem TT_own : ∀ c, c < 11 → ∀ k, k < NN c → (TT c k).1 = ON c := by decide +kernel
theorem kC_RR : ∀ y, y = 104 ∨ y = 105 ∨ y = 106 → kC y = RR (kCn y) := by
  intro y h
  rcases h with rfl | rfl | rfl <;> rfl
theorem yOf_mi {y : Nat} (h : y < NMc) : yOf y = (mi y).1 := by
  have : y < 400 := Nat.lt_of_lt_of_le h (by decide)
  unfold yOf
  split <;> first | omega | rfl
def rbO (r : Option FieldType) : Nat := match r with
  | some .int => 0
  | some .boolean => 1
  | some .long => 3
  | none => 4
  | _ => 9
def chkY (y : Nat) : Prop := ∀ q ∈ (mi y).2.2.2.2.2.2.2, chkO (cln y) (decide (flv y = 2)) (rbO (mi y).2.2.2.1) (mi y).2.2.1 (mi y).2.1 q.1 q.2 = true
end
section
/-! every method checked, twenty at a time -/
set_option maxRecDepth 100000 in
theorem yk_0 : ∀ j, j < 20 → YOk (0 + j) := by unfold YOk; decide +kernel
set_option maxRecDepth 100000 in
theorem ck_0 : ∀ j, j < 20 → chkY (0 + j) := by unfold chkY; decide +kernel
theorem nk_0 : ∀ j, j < 20 → ¬ cln (0 + j) = 11 := by decide +kernel
set_option maxRecDepth 100000 in
theorem yk_1 : ∀ j, j < 20 → YOk (20 + j) := by unfold YOk; decide +kernel
set_option maxRecDepth 100000 in
theorem ck_1 : ∀ j, j < 20 → chkY (20 + j) := by unfold chkY; decide +kernel
theorem nk_1 : ∀ j, j < 20 → ¬ cln (20 + j) = 11 := by decide +kernel
set_option maxRecDepth 100000 in
theorem yk_2 : ∀ j, j < 20 → YOk (40 + j) := by unfold YOk; decide +kernel
set_option maxRecDepth 100000 in
theorem ck_2 : ∀ j, j < 20 → chkY (40 + j) := by unfold chkY; decide +kernel
theorem nk_2 : ∀ j, j < 20 → ¬ cln (40 + j) = 11 := by decide +kernel
set_option maxRecDepth 100000 in
theorem yk_3 : ∀ j, j < 20 → YOk (60 + j) := by unfold YOk; decide +kernel
set_option maxRecDepth 100000 in
theorem ck_3 : ∀ j, j < 20 → chkY (60 + j) := by unfold chkY; decide +kernel
theorem nk_3 : ∀ j, j < 20 → ¬ cln (60 + j) = 11 := by decide +kernel
set_option maxRecDepth 100000 in
theorem yk_4 : ∀ j, j < 20 → YOk (80 + j) := by unfold YOk; decide +kernel
set_option maxRecDepth 100000 in
theorem ck_4 : ∀ j, j < 20 → chkY (80 + j) := by unfold chkY; decide +kernel
theorem nk_4 : ∀ j, j < 20 → ¬ cln (80 + j) = 11 := by decide +kernel
set_option maxRecDepth 100000 in
theorem yk_5 : ∀ j, j < 20 → YOk (100 + j) := by unfold YOk; decide +kernel
set_option maxRecDepth 100000 in
theorem ck_5 : ∀ j, j < 20 → chkY (100 + j) := by unfold chkY; decide +kernel
theorem nk_5 : ∀ j, j < 20 → ¬ cln (100 + j) = 11 := by decide +kernel
set_option maxRecDepth 100000 in
theorem yk_6 : ∀ j, j < 20 → YOk (120 + j) := by unfold YOk; decide +kernel
set_option maxRecDepth 100000 in
theorem ck_6 : ∀ j, j < 20 → chkY (120 + j) := by unfold chkY; decide +kernel
theorem nk_6 : ∀ j, j < 20 → ¬ cln (120 + j) = 11 := by decide +kernel
set_option maxRecDepth 100000 in
theorem yk_7 : ∀ j, j < 20 → YOk (140 + j) := by unfold YOk; decide +kernel
set_option maxRecDepth 100000 in
theorem ck_7 : ∀ j, j < 20 → chkY (140 + j) := by unfold chkY; decide +kernel
theorem nk_7 : ∀ j, j < 20 → ¬ cln (140 + j) = 11 := by decide +kernel
set_option maxRecDepth 100000 in
theorem yk_8 : ∀ j, j < 20 → YOk (160 + j) := by unfold YOk; decide +kernel
set_option maxRecDepth 100000 in
theorem ck_8 : ∀ j, j < 20 → chkY (160 + j) := by unfold chkY; decide +kernel
theorem nk_8 : ∀ j, j < 20 → ¬ cln (160 + j) = 11 := by decide +kernel
set_option maxRecDepth 100000 in
theorem yk_9 : ∀ j, j < 20 → YOk (180 + j) := by unfold YOk; decide +kernel
set_option maxRecDepth 100000 in
theorem ck_9 : ∀ j, j < 20 → chkY (180 + j) := by unfold chkY; decide +kernel
theorem nk_9 : ∀ j, j < 20 → ¬ cln (180 + j) = 11 := by decide +kernel
set_option maxRecDepth 100000 in
theorem yk_10 : ∀ j, j < 20 → YOk (200 + j) := by unfold YOk; decide +kernel
set_option maxRecDepth 100000 in
theorem ck_10 : ∀ j, j < 20 → chkY (200 + j) := by unfold chkY; decide +kernel
theorem nk_10 : ∀ j, j < 20 → ¬ cln (200 + j) = 11 := by decide +kernel
set_option maxRecDepth 100000 in
theorem yk_11 : ∀ j, j < 20 → YOk (220 + j) := by unfold YOk; decide +kernel
set_option maxRecDepth 100000 in
theorem ck_11 : ∀ j, j < 20 → chkY (220 + j) := by unfold chkY; decide +kernel
theorem nk_11 : ∀ j, j < 20 → ¬ cln (220 + j) = 11 := by decide +kernel
set_option maxRecDepth 100000 in
theorem yk_12 : ∀ j, j < 20 → YOk (240 + j) := by unfold YOk; decide +kernel
set_option maxRecDepth 100000 in
theorem ck_12 : ∀ j, j < 20 → chkY (240 + j) := by unfold chkY; decide +kernel
theorem nk_12 : ∀ j, j < 20 → ¬ cln (240 + j) = 11 := by decide +kernel
set_option maxRecDepth 100000 in
theorem yk_13 : ∀ j, j < 20 → YOk (260 + j) := by unfold YOk; decide +kernel
set_option maxRecDepth 100000 in
theorem ck_13 : ∀ j, j < 20 → chkY (260 + j) := by unfold chkY; decide +kernel
theorem nk_13 : ∀ j, j < 20 → ¬ cln (260 + j) = 11 := by decide +kernel
set_option maxRecDepth 100000 in
theorem yk_14 : ∀ j, j < 20 → YOk (280 + j) := by unfold YOk; decide +kernel
set_option maxRecDepth 100000 in
theorem ck_14 : ∀ j, j < 20 → chkY (280 + j) := by unfold chkY; decide +kernel
theorem nk_14 : ∀ j, j < 20 → ¬ cln (280 + j) = 11 := by decide +kernel
set_option maxRecDepth 100000 in
theorem yk_15 : ∀ j, j < 20 → YOk (300 + j) := by unfold YOk; decide +kernel
set_option maxRecDepth 100000 in
theorem ck_15 : ∀ j, j < 20 → chkY (300 + j) := by unfold chkY; decide +kernel
theorem nk_15 : ∀ j, j < 20 → ¬ cln (300 + j) = 11 := by decide +kernel
set_option maxRecDepth 100000 in
theorem yk_16 : ∀ j, j < 20 → YOk (320 + j) := by unfold YOk; decide +kernel
set_option maxRecDepth 100000 in
theorem ck_16 : ∀ j, j < 20 → chkY (320 + j) := by unfold chkY; decide +kernel
theorem nk_16 : ∀ j, j < 20 → ¬ cln (320 + j) = 11 := by decide +kernel
set_option maxRecDepth 100000 in
theorem yk_17 : ∀ j, j < 13 → YOk (340 + j) := by unfold YOk; decide +kernel
set_option maxRecDepth 100000 in
theorem ck_17 : ∀ j, j < 13 → chkY (340 + j) := by unfold chkY; decide +kernel
theorem nk_17 : ∀ j, j < 13 → ¬ cln (340 + j) = 11 := by decide +kernel
theorem of20 {P : Nat → Prop} {a m y : Nat} (h : ∀ j, j < m → P (a + j)) (h1 : a ≤ y) (h2 : y < a + m) : P y := by
  have := h (y - a) (by omega)
  rwa [show a + (y - a) = y by omega] at this
theorem yk_all : ∀ y, y < NMc → YOk y := by
  intro y hy
  have hy : y < 353 := hy
  by_cases h0 : y < 20
  · exact of20 (P := YOk) yk_0 (by omega) (by omega)
  by_cases h1 : y < 40
  · exact of20 (P := YOk) yk_1 (by omega) (by omega)
  by_cases h2 : y < 60
  · exact of20 (P := YOk) yk_2 (by omega) (by omega)
  by_cases h3 : y < 80
  · exact of20 (P := YOk) yk_3 (by omega) (by omega)
  by_cases h4 : y < 100
  · exact of20 (P := YOk) yk_4 (by omega) (by omega)
  by_cases h5 : y < 120
  · exact of20 (P := YOk) yk_5 (by omega) (by omega)
  by_cases h6 : y < 140
  · exact of20 (P := YOk) yk_6 (by omega) (by omega)
  by_cases h7 : y < 160
  · exact of20 (P := YOk) yk_7 (by omega) (by omega)
  by_cases h8 : y < 180
  · exact of20 (P := YOk) yk_8 (by omega) (by omega)
  by_cases h9 : y < 200
  · exact of20 (P := YOk) yk_9 (by omega) (by omega)
  by_cases h10 : y < 220
  · exact of20 (P := YOk) yk_10 (by omega) (by omega)
  by_cases h11 : y < 240
  · exact of20 (P := YOk) yk_11 (by omega) (by omega)
  by_cases h12 : y < 260
  · exact of20 (P := YOk) yk_12 (by omega) (by omega)
  by_cases h13 : y < 280
  · exact of20 (P := YOk) yk_13 (by omega) (by omega)
  by_cases h14 : y < 300
  · exact of20 (P := YOk) yk_14 (by omega) (by omega)
  by_cases h15 : y < 320
  · exact of20 (P := YOk) yk_15 (by omega) (by omega)
  by_cases h16 : y < 340
  · exact of20 (P := YOk) yk_16 (by omega) (by omega)
  by_cases h17 : y < 353
  · exact of20 (P := YOk) yk_17 (by omega) (by omega)
  omega
theorem ck_all : ∀ y, y < NMc → chkY y := by
  intro y hy
  have hy : y < 353 := hy
  by_cases h0 : y < 20
  · exact of20 (P := chkY) ck_0 (by omega) (by omega)
  by_cases h1 : y < 40
  · exact of20 (P := chkY) ck_1 (by omega) (by omega)
  by_cases h2 : y < 60
  · exact of20 (P := chkY) ck_2 (by omega) (by omega)
  by_cases h3 : y < 80
  · exact of20 (P := chkY) ck_3 (by omega) (by omega)
  by_cases h4 : y < 100
  · exact of20 (P := chkY) ck_4 (by omega) (by omega)
  by_cases h5 : y < 120
  · exact of20 (P := chkY) ck_5 (by omega) (by omega)
  by_cases h6 : y < 140
  · exact of20 (P := chkY) ck_6 (by omega) (by omega)
  by_cases h7 : y < 160
  · exact of20 (P := chkY) ck_7 (by omega) (by omega)
  by_cases h8 : y < 180
  · exact of20 (P := chkY) ck_8 (by omega) (by omega)
  by_cases h9 : y < 200
  · exact of20 (P := chkY) ck_9 (by omega) (by omega)
  by_cases h10 : y < 220
  · exact of20 (P := chkY) ck_10 (by omega) (by omega)
  by_cases h11 : y < 240
  · exact of20 (P := chkY) ck_11 (by omega) (by omega)
  by_cases h12 : y < 260
  · exact of20 (P := chkY) ck_12 (by omega) (by omega)
  by_cases h13 : y < 280
  · exact of20 (P := chkY) ck_13 (by omega) (by omega)
  by_cases h14 : y < 300
  · exact of20 (P := chkY) ck_14 (by omega) (by omega)
  by_cases h15 : y < 320
  · exact of20 (P := chkY) ck_15 (by omega) (by omega)
  by_cases h16 : y < 340
  · exact of20 (P := chkY) ck_16 (by omega) (by omega)
  by_cases h17 : y < 353
  · exact of20 (P := chkY) ck_17 (by omega) (by omega)
  omega
theorem nk_all : ∀ y, y < NMc → ¬ cln y = 11 := by
  intro y hy
  have hy : y < 353 := hy
  by_cases h0 : y < 20
  · exact of20 (P := (fun y => ¬ cln y = 11)) nk_0 (by omega) (by omega)
  by_cases h1 : y < 40
  · exact of20 (P := (fun y => ¬ cln y = 11)) nk_1 (by omega) (by omega)
  by_cases h2 : y < 60
  · exact of20 (P := (fun y => ¬ cln y = 11)) nk_2 (by omega) (by omega)
  by_cases h3 : y < 80
  · exact of20 (P := (fun y => ¬ cln y = 11)) nk_3 (by omega) (by omega)
  by_cases h4 : y < 100
  · exact of20 (P := (fun y => ¬ cln y = 11)) nk_4 (by omega) (by omega)
  by_cases h5 : y < 120
  · exact of20 (P := (fun y => ¬ cln y = 11)) nk_5 (by omega) (by omega)
  by_cases h6 : y < 140
  · exact of20 (P := (fun y => ¬ cln y = 11)) nk_6 (by omega) (by omega)
  by_cases h7 : y < 160
  · exact of20 (P := (fun y => ¬ cln y = 11)) nk_7 (by omega) (by omega)
  by_cases h8 : y < 180
  · exact of20 (P := (fun y => ¬ cln y = 11)) nk_8 (by omega) (by omega)
  by_cases h9 : y < 200
  · exact of20 (P := (fun y => ¬ cln y = 11)) nk_9 (by omega) (by omega)
  by_cases h10 : y < 220
  · exact of20 (P := (fun y => ¬ cln y = 11)) nk_10 (by omega) (by omega)
  by_cases h11 : y < 240
  · exact of20 (P := (fun y => ¬ cln y = 11)) nk_11 (by omega) (by omega)
  by_cases h12 : y < 260
  · exact of20 (P := (fun y => ¬ cln y = 11)) nk_12 (by omega) (by omega)
  by_cases h13 : y < 280
  · exact of20 (P := (fun y => ¬ cln y = 11)) nk_13 (by omega) (by omega)
  by_cases h14 : y < 300
  · exact of20 (P := (fun y => ¬ cln y = 11)) nk_14 (by omega) (by omega)
  by_cases h15 : y < 320
  · exact of20 (P := (fun y => ¬ cln y = 11)) nk_15 (by omega) (by omega)
  by_cases h16 : y < 340
  · exact of20 (P := (fun y => ¬ cln y = 11)) nk_16 (by omega) (by omega)
  by_cases h17 : y < 353
  · exact of20 (P := (fun y => ¬ cln y = 11)) nk_17 (by omega) (by omega)
  omega
end
section
/-! all the words that the methods need stand in the tables -/
theorem t_1 {w : Cond} {i : Nat} (h : tables_1_1[i]? = some w) : w ∈ lw_tbl := List.mem_append_right _ (List.mem_append_left _ (List.mem_of_getElem? h))
theorem t_2 {w : Cond} {i : Nat} (h : tables_1_2[i]? = some w) : w ∈ lw_tbl := List.mem_append_right _ (List.mem_append_right _ (List.mem_append_left _ (List.mem_of_getElem? h)))
theorem t_3 {w : Cond} {i : Nat} (h : tables_1_3[i]? = some w) : w ∈ lw_tbl := List.mem_append_right _ (List.mem_append_right _ (List.mem_append_right _ (List.mem_append_left _ (List.mem_of_getElem? h))))
theorem t_4 {w : Cond} {i : Nat} (h : tables_1_4[i]? = some w) : w ∈ lw_tbl := List.mem_append_right _ (List.mem_append_right _ (List.mem_append_right _ (List.mem_append_right _ (List.mem_append_left _ (List.mem_of_getElem? h)))))
theorem t_5 {w : Cond} {i : Nat} (h : tables_1_5[i]? = some w) : w ∈ lw_tbl := List.mem_append_right _ (List.mem_append_right _ (List.mem_append_right _ (List.mem_append_right _ (List.mem_append_right _ (List.mem_append_left _ (List.mem_of_getElem? h))))))
theorem t_6 {w : Cond} {i : Nat} (h : tables_1_6[i]? = some w) : w ∈ lw_tbl := List.mem_append_right _ (List.mem_append_right _ (List.mem_append_right _ (List.mem_append_right _ (List.mem_append_right _ (List.mem_append_right _ (List.mem_append_left _ (List.mem_of_getElem? h)))))))
theorem t_7 {w : Cond} {i : Nat} (h : tables_1_7[i]? = some w) : w ∈ lw_tbl := List.mem_append_right _ (List.mem_append_right _ (List.mem_append_right _ (List.mem_append_right _ (List.mem_append_right _ (List.mem_append_right _ (List.mem_append_right _ (List.mem_append_left _ (List.mem_of_getElem? h))))))))
theorem t_8 {w : Cond} {i : Nat} (h : tables_1_8[i]? = some w) : w ∈ lw_tbl := List.mem_append_right _ (List.mem_append_right _ (List.mem_append_right _ (List.mem_append_right _ (List.mem_append_right _ (List.mem_append_right _ (List.mem_append_right _ (List.mem_append_right _ (List.mem_append_left _ (List.mem_of_getElem? h)))))))))
theorem t_9 {w : Cond} {i : Nat} (h : tables_1_9[i]? = some w) : w ∈ lw_tbl := List.mem_append_right _ (List.mem_append_right _ (List.mem_append_right _ (List.mem_append_right _ (List.mem_append_right _ (List.mem_append_right _ (List.mem_append_right _ (List.mem_append_right _ (List.mem_append_right _ (List.mem_of_getElem? h)))))))))
theorem t_0 {w : Cond} {i : Nat} (h : (k2_sels lw_privs)[i]? = some w) : w ∈ lw_tbl := List.mem_append_left _ (List.mem_of_getElem? h)
set_option maxRecDepth 20000 in
theorem w_f0 : ∀ w ∈ wF 0, w ∈ lw_tbl := List.forall_mem_cons.mpr ⟨t_2 (i := 96) (by decide +kernel), List.forall_mem_cons.mpr ⟨t_2 (i := 97) (by decide +kernel), List.forall_mem_cons.mpr ⟨t_2 (i := 98) (by decide +kernel), List.forall_mem_cons.mpr ⟨t_2 (i := 99) (by decide +kernel), List.forall_mem_cons.mpr ⟨t_1 (i := 149) (by decide +kernel), List.forall_mem_cons.mpr ⟨t_1 (i := 122) (by decide +kernel), List.forall_mem_cons.mpr ⟨t_1 (i := 127) (by decide +kernel), fun _ h => absurd h List.not_mem_nil⟩⟩⟩⟩⟩⟩⟩
set_option maxRecDepth 20000 in
theorem w_m0 : ∀ w ∈ wMt 0, w ∈ lw_tbl := List.forall_mem_cons.mpr ⟨t_2 (i := 95) (by decide +kernel), List.forall_mem_cons.mpr ⟨t_5 (i := 163) (by decide +kernel), List.forall_mem_cons.mpr ⟨t_5 (i := 173) (by decide +kernel), List.forall_mem_cons.mpr ⟨t_5 (i := 167) (by decide +kernel), List.forall_mem_cons.mpr ⟨t_5 (i := 179) (by decide +kernel), List.forall_mem_cons.mpr ⟨t_5 (i := 180) (by decide +kernel), List.forall_mem_cons.mpr ⟨t_5 (i := 171) (by decide +kernel), List.forall_mem_cons.mpr ⟨t_5 (i := 177) (by decide +kernel), List.forall_mem_cons.mpr ⟨t_5 (i := 178) (by decide +kernel), List.forall_mem_cons.mpr ⟨t_5 (i := 172) (by decide +kernel), fun _ h => absurd h List.not_mem_nil⟩⟩⟩⟩⟩⟩⟩⟩⟩⟩
theorem w_c0 : ∀ w ∈ wC 0, w ∈ lw_tbl := fun _ h => absurd h List.not_mem_nil
theorem w_k0 : ∀ w ∈ wK 0, w ∈ lw_tbl := fun _ h => absurd h List.not_mem_nil
theorem w_l0 : ∀ w ∈ wLg 0, w ∈ lw_tbl := fun _ h => absurd h List.not_mem_nil
set_option maxRecDepth 20000 in
theorem w_f1 : ∀ w ∈ wF 1, w ∈ lw_tbl := List.forall_mem_cons.mpr ⟨t_2 (i := 76) (by decide +kernel), List.forall_mem_cons.mpr ⟨t_2 (i := 77) (by decide +kernel), List.forall_mem_cons.mpr ⟨t_1 (i := 134) (by decide +kernel), List.forall_mem_cons.mpr ⟨t_2 (i := 79) (by decide +kernel), List.forall_mem_cons.mpr ⟨t_1 (i := 117) (by decide +kernel), List.forall_mem_cons.mpr ⟨t_2 (i := 80) (by decide +kernel), fun _ h => absurd h List.not_mem_nil⟩⟩⟩⟩⟩⟩
set_option maxRecDepth 20000 in
theorem w_m1 : ∀ w ∈ wMt 1, w ∈ lw_tbl := List.forall_mem_cons.mpr ⟨t_2 (i := 75) (by decide +kernel), List.forall_mem_cons.mpr ⟨t_5 (i := 48) (by decide +kernel), List.forall_mem_cons.mpr ⟨t_5 (i := 49) (by decide +kernel), List.forall_mem_cons.mpr ⟨t_5 (i := 54) (by decide +kernel), List.forall_mem_cons.mpr ⟨t_5 (i := 52) (by decide +kernel), List.forall_mem_cons.mpr ⟨t_5 (i := 53) (by decide +kernel), List.forall_mem_cons.mpr ⟨t_5 (i := 59) (by decide +kernel), List.forall_mem_cons.mpr ⟨t_5 (i := 63) (by decide +kernel), List.forall_mem_cons.mpr ⟨t_5 (i := 70) (by decide +kernel), List.forall_mem_cons.mpr ⟨t_5 (i := 71) (by decide +kernel), List.forall_mem_cons.mpr ⟨t_5 (i := 89) (by decide +kernel), fun _ h => absurd h List.not_mem_nil⟩⟩⟩⟩⟩⟩⟩⟩⟩⟩⟩
theorem w_c1 : ∀ w ∈ wC 1, w ∈ lw_tbl := fun _ h => absurd h List.not_mem_nil
theorem w_k1 : ∀ w ∈ wK 1, w ∈ lw_tbl := fun _ h => absurd h List.not_mem_nil
theorem w_l1 : ∀ w ∈ wLg 1, w ∈ lw_tbl := fun _ h => absurd h List.not_mem_nil
set_option maxRecDepth 20000 in
theorem w_f2 : ∀ w ∈ wF 2, w ∈ lw_tbl := List.forall_mem_cons.mpr ⟨t_2 (i := 123) (by decide +kernel), List.forall_mem_cons.mpr ⟨t_2 (i := 124) (by decide +kernel), List.forall_mem_cons.mpr ⟨t_2 (i := 121) (by decide +kernel), List.forall_mem_cons.mpr ⟨t_2 (i := 122) (by decide +kernel), List.forall_mem_cons.mpr ⟨t_2 (i := 115) (by decide +kernel), List.forall_mem_cons.mpr ⟨t_2 (i := 117) (by decide +kernel), List.forall_mem_cons.mpr ⟨t_2 (i := 119) (by decide +kernel), List.forall_mem_cons.mpr ⟨t_1 (i := 234) (by decide +kernel), List.forall_mem_cons.mpr ⟨t_1 (i := 237) (by decide +kernel), List.forall_mem_cons.mpr ⟨t_2 (i := 12) (by decide +kernel), List.forall_mem_cons.mpr ⟨t_2 (i := 0) (by decide +kernel), List.forall_mem_cons.mpr ⟨t_2 (i := 6) (by decide +kernel), List.forall_mem_cons.mpr ⟨t_1 (i := 150) (by decide +kernel), List.forall_mem_cons.mpr ⟨t_1 (i := 126) (by decide +kernel), List.forall_mem_cons.mpr ⟨t_2 (i := 9) (by decide +kernel), List.forall_mem_cons.mpr ⟨t_2 (i := 3) (by decide +kernel), List.forall_mem_cons.mpr ⟨t_1 (i := 137) (by decide +kernel), List.forall_mem_cons.mpr ⟨t_1 (i := 172) (by decide +kernel), fun _ h => absurd h List.not_mem_nil⟩⟩⟩⟩⟩⟩⟩⟩⟩⟩⟩⟩⟩⟩⟩⟩⟩⟩
set_option maxRecDepth 20000 in
theorem w_m2 : ∀ w ∈ wMt 2, w ∈ lw_tbl := List.forall_mem_cons.mpr ⟨t_2 (i := 114) (by decide +kernel), List.forall_mem_cons.mpr ⟨t_6 (i := 10) (by decide +kernel), List.forall_mem_cons.mpr ⟨t_6 (i := 14) (by decide +kernel), List.forall_mem_cons.mpr ⟨t_6 (i := 36) (by decide +kernel), List.forall_mem_cons.mpr ⟨t_6 (i := 40) (by decide +kernel), List.forall_mem_cons.mpr ⟨t_6 (i := 44) (by decide +kernel), List.forall_mem_cons.mpr ⟨t_6 (i := 45) (by decide +kernel), List.forall_mem_cons.mpr ⟨t_6 (i := 18) (by decide +kernel), List.forall_mem_cons.mpr ⟨t_6 (i := 19) (by decide +kernel), List.forall_mem_cons.mpr ⟨t_6 (i := 20) (by decide +kernel), List.forall_mem_cons.mpr ⟨t_6 (i := 21) (by decide +kernel), List.forall_mem_cons.mpr ⟨t_6 (i := 22) (by decide +kernel), List.forall_mem_cons.mpr ⟨t_6 (i := 23) (by decide +kernel), List.forall_mem_cons.mpr ⟨t_6 (i := 27) (by decide +kernel), List.forall_mem_cons.mpr ⟨t_6 (i := 31) (by decide +kernel), fun _ h => absurd h List.not_mem_nil⟩⟩⟩⟩⟩⟩⟩⟩⟩⟩⟩⟩⟩⟩⟩
theorem w_c2 : ∀ w ∈ wC 2, w ∈ lw_tbl := fun _ h => absurd h List.not_mem_nil
set_option maxRecDepth 20000 in
theorem w_k2 : ∀ w ∈ wK 2, w ∈ lw_tbl := List.forall_mem_cons.mpr ⟨t_6 (i := 35) (by decide +kernel), fun _ h => absurd h List.not_mem_nil⟩
theorem w_l2 : ∀ w ∈ wLg 2, w ∈ lw_tbl := fun _ h => absurd h List.not_mem_nil
set_option maxRecDepth 20000 in
theorem w_f3 : ∀ w ∈ wF 3, w ∈ lw_tbl := List.forall_mem_cons.mpr ⟨t_1 (i := 236) (by decide +kernel), List.forall_mem_cons.mpr ⟨t_1 (i := 239) (by decide +kernel), List.forall_mem_cons.mpr ⟨t_2 (i := 2) (by decide +kernel), List.forall_mem_cons.mpr ⟨t_2 (i := 5) (by decide +kernel), List.forall_mem_cons.mpr ⟨t_2 (i := 8) (by decide +kernel), List.forall_mem_cons.mpr ⟨t_2 (i := 11) (by decide +kernel), List.forall_mem_cons.mpr ⟨t_1 (i := 227) (by decide +kernel), List.forall_mem_cons.mpr ⟨t_1 (i := 230) (by decide +kernel), List.forall_mem_cons.mpr ⟨t_1 (i := 233) (by decide +kernel), fun _ h => absurd h List.not_mem_nil⟩⟩⟩⟩⟩⟩⟩⟩⟩
set_option maxRecDepth 20000 in
theorem w_m3 : ∀ w ∈ wMt 3, w ∈ lw_tbl := List.forall_mem_cons.mpr ⟨t_1 (i := 222) (by decide +kernel), List.forall_mem_cons.mpr ⟨t_1 (i := 223) (by decide +kernel), List.forall_mem_cons.mpr ⟨t_6 (i := 69) (by decide +kernel), fun _ h => absurd h List.not_mem_nil⟩⟩⟩
theorem w_c3 : ∀ w ∈ wC 3, w ∈ lw_tbl := fun _ h => absurd h List.not_mem_nil
theorem w_k3 : ∀ w ∈ wK 3, w ∈ lw_tbl := fun _ h => absurd h List.not_mem_nil
theorem w_l3 : ∀ w ∈ wLg 3, w ∈ lw_tbl := fun _ h => absurd h List.not_mem_nil
set_option maxRecDepth 20000 in
theorem w_f4 : ∀ w ∈ wF 4, w ∈ lw_tbl := List.forall_mem_cons.mpr ⟨t_2 (i := 52) (by decide +kernel), List.forall_mem_cons.mpr ⟨t_2 (i := 55) (by decide +kernel), List.forall_mem_cons.mpr ⟨t_2 (i := 56) (by decide +kernel), List.forall_mem_cons.mpr ⟨t_2 (i := 53) (by decide +kernel), List.forall_mem_cons.mpr ⟨t_2 (i := 54) (by decide +kernel), List.forall_mem_cons.mpr ⟨t_1 (i := 57) (by decide +kernel), List.forall_mem_cons.mpr ⟨t_1 (i := 228) (by decide +kernel), List.forall_mem_cons.mpr ⟨t_1 (i := 231) (by decide +kernel), List.forall_mem_cons.mpr ⟨t_1 (i := 235) (by decide +kernel), List.forall_mem_cons.mpr ⟨t_1 (i := 238) (by decide +kernel), List.forall_mem_cons.mpr ⟨t_2 (i := 13) (by decide +kernel), List.forall_mem_cons.mpr ⟨t_2 (i := 1) (by decide +kernel), List.forall_mem_cons.mpr ⟨t_2 (i := 4) (by decide +kernel), List.forall_mem_cons.mpr ⟨t_1 (i := 119) (by decide +kernel), List.forall_mem_cons.mpr ⟨t_2 (i := 7) (by decide +kernel), List.forall_mem_cons.mpr ⟨t_2 (i := 10) (by decide +kernel), List.forall_mem_cons.mpr ⟨t_1 (i := 60) (by decide +kernel), fun _ h => absurd h List.not_mem_nil⟩⟩⟩⟩⟩⟩⟩⟩⟩⟩⟩⟩⟩⟩⟩⟩⟩
set_option maxRecDepth 20000 in
theorem w_m4 : ∀ w ∈ wMt 4, w ∈ lw_tbl := List.forall_mem_cons.mpr ⟨t_2 (i := 51) (by decide +kernel), List.forall_mem_cons.mpr ⟨t_3 (i := 223) (by decide +kernel), List.forall_mem_cons.mpr ⟨t_3 (i := 224) (by decide +kernel), List.forall_mem_cons.mpr ⟨t_3 (i := 225) (by decide +kernel), List.forall_mem_cons.mpr ⟨t_3 (i := 226) (by decide +kernel), List.forall_mem_cons.mpr ⟨t_3 (i := 230) (by decide +kernel), List.forall_mem_cons.mpr ⟨t_3 (i := 236) (by decide +kernel), List.forall_mem_cons.mpr ⟨t_3 (i := 234) (by decide +kernel), List.forall_mem_cons.mpr ⟨t_3 (i := 239) (by decide +kernel), List.forall_mem_cons.mpr ⟨t_3 (i := 235) (by decide +kernel), List.forall_mem_cons.mpr ⟨t_4 (i := 3) (by decide +kernel), List.forall_mem_cons.mpr ⟨t_4 (i := 8) (by decide +kernel), List.forall_mem_cons.mpr ⟨t_4 (i := 11) (by decide +kernel), List.forall_mem_cons.mpr ⟨t_4 (i := 12) (by decide +kernel), List.forall_mem_cons.mpr ⟨t_4 (i := 7) (by decide +kernel), fun _ h => absurd h List.not_mem_nil⟩⟩⟩⟩⟩⟩⟩⟩⟩⟩⟩⟩⟩⟩⟩
theorem w_c4 : ∀ w ∈ wC 4, w ∈ lw_tbl := fun _ h => absurd h List.not_mem_nil
theorem w_k4 : ∀ w ∈ wK 4, w ∈ lw_tbl := fun _ h => absurd h List.not_mem_nil
theorem w_l4 : ∀ w ∈ wLg 4, w ∈ lw_tbl := fun _ h => absurd h List.not_mem_nil
set_option maxRecDepth 20000 in
theorem w_f5 : ∀ w ∈ wF 5, w ∈ lw_tbl := List.forall_mem_cons.mpr ⟨t_1 (i := 66) (by decide +kernel), List.forall_mem_cons.mpr ⟨t_1 (i := 69) (by decide +kernel), List.forall_mem_cons.mpr ⟨t_1 (i := 70) (by decide +kernel), List.forall_mem_cons.mpr ⟨t_1 (i := 71) (by decide +kernel), List.forall_mem_cons.mpr ⟨t_1 (i := 62) (by decide +kernel), List.forall_mem_cons.mpr ⟨t_1 (i := 64) (by decide +kernel), List.forall_mem_cons.mpr ⟨t_1 (i := 54) (by decide +kernel), List.forall_mem_cons.mpr ⟨t_1 (i := 67) (by decide +kernel), List.forall_mem_cons.mpr ⟨t_1 (i := 68) (by decide +kernel), List.forall_mem_cons.mpr ⟨t_1 (i := 72) (by decide +kernel), List.forall_mem_cons.mpr ⟨t_1 (i := 73) (by decide +kernel), List.forall_mem_cons.mpr ⟨t_1 (i := 58) (by decide +kernel), List.forall_mem_cons.mpr ⟨t_1 (i := 61) (by decide +kernel), List.forall_mem_cons.mpr ⟨t_1 (i := 74) (by decide +kernel), fun _ h => absurd h List.not_mem_nil⟩⟩⟩⟩⟩⟩⟩⟩⟩⟩⟩⟩⟩⟩
set_option maxRecDepth 20000 in
theorem w_m5 : ∀ w ∈ wMt 5, w ∈ lw_tbl := List.forall_mem_cons.mpr ⟨t_1 (i := 53) (by decide +kernel), List.forall_mem_cons.mpr ⟨t_3 (i := 61) (by decide +kernel), List.forall_mem_cons.mpr ⟨t_3 (i := 73) (by decide +kernel), List.forall_mem_cons.mpr ⟨t_3 (i := 148) (by decide +kernel), List.forall_mem_cons.mpr ⟨t_3 (i := 77) (by decide +kernel), List.forall_mem_cons.mpr ⟨t_3 (i := 80) (by decide +kernel), List.forall_mem_cons.mpr ⟨t_3 (i := 138) (by decide +kernel), List.forall_mem_cons.mpr ⟨t_3 (i := 141) (by decide +kernel), List.forall_mem_cons.mpr ⟨t_3 (i := 145) (by decide +kernel), List.forall_mem_cons.mpr ⟨t_3 (i := 85) (by decide +kernel), List.forall_mem_cons.mpr ⟨t_3 (i := 90) (by decide +kernel), List.forall_mem_cons.mpr ⟨t_3 (i := 100) (by decide +kernel), List.forall_mem_cons.mpr ⟨t_3 (i := 172) (by decide +kernel), fun _ h => absurd h List.not_mem_nil⟩⟩⟩⟩⟩⟩⟩⟩⟩⟩⟩⟩⟩
theorem w_c5 : ∀ w ∈ wC 5, w ∈ lw_tbl := fun _ h => absurd h List.not_mem_nil
theorem w_k5 : ∀ w ∈ wK 5, w ∈ lw_tbl := fun _ h => absurd h List.not_mem_nil
set_option maxRecDepth 20000 in
theorem w_l5 : ∀ w ∈ wLg 5, w ∈ lw_tbl := List.forall_mem_cons.mpr ⟨t_3 (i := 84) (by decide +kernel), fun _ h => absurd h List.not_mem_nil⟩
set_option maxRecDepth 20000 in
theorem w_f6 : ∀ w ∈ wF 6, w ∈ lw_tbl := List.forall_mem_cons.mpr ⟨t_1 (i := 35) (by decide +kernel), List.forall_mem_cons.mpr ⟨t_1 (i := 37) (by decide +kernel), List.forall_mem_cons.mpr ⟨t_1 (i := 39) (by decide +kernel), fun _ h => absurd h List.not_mem_nil⟩⟩⟩
set_option maxRecDepth 20000 in
theorem w_m6 : ∀ w ∈ wMt 6, w ∈ lw_tbl := List.forall_mem_cons.mpr ⟨t_1 (i := 34) (by decide +kernel), List.forall_mem_cons.mpr ⟨t_2 (i := 230) (by decide +kernel), List.forall_mem_cons.mpr ⟨t_3 (i := 17) (by decide +kernel), List.forall_mem_cons.mpr ⟨t_3 (i := 18) (by decide +kernel), fun _ h => absurd h List.not_mem_nil⟩⟩⟩⟩
theorem w_c6 : ∀ w ∈ wC 6, w ∈ lw_tbl := fun _ h => absurd h List.not_mem_nil
theorem w_k6 : ∀ w ∈ wK 6, w ∈ lw_tbl := fun _ h => absurd h List.not_mem_nil
theorem w_l6 : ∀ w ∈ wLg 6, w ∈ lw_tbl := fun _ h => absurd h List.not_mem_nil
set_option maxRecDepth 20000 in
theorem w_f7 : ∀ w ∈ wF 7, w ∈ lw_tbl := List.forall_mem_cons.mpr ⟨t_1 (i := 121) (by decide +kernel), List.forall_mem_cons.mpr ⟨t_1 (i := 124) (by decide +kernel), List.forall_mem_cons.mpr ⟨t_1 (i := 129) (by decide +kernel), List.forall_mem_cons.mpr ⟨t_1 (i := 139) (by decide +kernel), List.forall_mem_cons.mpr ⟨t_1 (i := 140) (by decide +kernel), List.forall_mem_cons.mpr ⟨t_1 (i := 142) (by decide +kernel), List.forall_mem_cons.mpr ⟨t_1 (i := 145) (by decide +kernel), List.forall_mem_cons.mpr ⟨t_1 (i := 148) (by decide +kernel), List.forall_mem_cons.mpr ⟨t_1 (i := 153) (by decide +kernel), List.forall_mem_cons.mpr ⟨t_1 (i := 155) (by decide +kernel), List.forall_mem_cons.mpr ⟨t_1 (i := 160) (by decide +kernel), List.forall_mem_cons.mpr ⟨t_1 (i := 162) (by decide +kernel), List.forall_mem_cons.mpr ⟨t_1 (i := 116) (by decide +kernel), List.forall_mem_cons.mpr ⟨t_1 (i := 132) (by decide +kernel), List.forall_mem_cons.mpr ⟨t_1 (i := 135) (by decide +kernel), List.forall_mem_cons.mpr ⟨t_1 (i := 157) (by decide +kernel), List.forall_mem_cons.mpr ⟨t_1 (i := 164) (by decide +kernel), List.forall_mem_cons.mpr ⟨t_1 (i := 167) (by decide +kernel), List.forall_mem_cons.mpr ⟨t_1 (i := 170) (by decide +kernel), List.forall_mem_cons.mpr ⟨t_1 (i := 174) (by decide +kernel), fun _ h => absurd h List.not_mem_nil⟩⟩⟩⟩⟩⟩⟩⟩⟩⟩⟩⟩⟩⟩⟩⟩⟩⟩⟩⟩
set_option maxRecDepth 20000 in
theorem w_m7 : ∀ w ∈ wMt 7, w ∈ lw_tbl := List.forall_mem_cons.mpr ⟨t_1 (i := 111) (by decide +kernel), List.forall_mem_cons.mpr ⟨t_1 (i := 112) (by decide +kernel), List.forall_mem_cons.mpr ⟨t_5 (i := 154) (by decide +kernel), List.forall_mem_cons.mpr ⟨t_4 (i := 112) (by decide +kernel), List.forall_mem_cons.mpr ⟨t_4 (i := 28) (by decide +kernel), List.forall_mem_cons.mpr ⟨t_4 (i := 36) (by decide +kernel), List.forall_mem_cons.mpr ⟨t_4 (i := 60) (by decide +kernel), List.forall_mem_cons.mpr ⟨t_4 (i := 125) (by decide +kernel), List.forall_mem_cons.mpr ⟨t_4 (i := 128) (by decide +kernel), List.forall_mem_cons.mpr ⟨t_4 (i := 56) (by decide +kernel), List.forall_mem_cons.mpr ⟨t_4 (i := 52) (by decide +kernel), List.forall_mem_cons.mpr ⟨t_4 (i := 84) (by decide +kernel), List.forall_mem_cons.mpr ⟨t_4 (i := 158) (by decide +kernel), List.forall_mem_cons.mpr ⟨t_4 (i := 121) (by decide +kernel), List.forall_mem_cons.mpr ⟨t_4 (i := 96) (by decide +kernel), List.forall_mem_cons.mpr ⟨t_5 (i := 11) (by decide +kernel), List.forall_mem_cons.mpr ⟨t_5 (i := 28) (by decide +kernel), List.forall_mem_cons.mpr ⟨t_5 (i := 29) (by decide +kernel), List.forall_mem_cons.mpr ⟨t_5 (i := 144) (by decide +kernel), List.forall_mem_cons.mpr ⟨t_4 (i := 88) (by decide +kernel), List.forall_mem_cons.mpr ⟨t_4 (i := 92) (by decide +kernel), List.forall_mem_cons.mpr ⟨t_4 (i := 117) (by decide +kernel), List.forall_mem_cons.mpr ⟨t_4 (i := 137) (by decide +kernel), List.forall_mem_cons.mpr ⟨t_5 (i := 105) (by decide +kernel), List.forall_mem_cons.mpr ⟨t_5 (i := 101) (by decide +kernel), List.forall_mem_cons.mpr ⟨t_5 (i := 197) (by decide +kernel), List.forall_mem_cons.mpr ⟨t_5 (i := 205) (by decide +kernel), List.forall_mem_cons.mpr ⟨t_5 (i := 201) (by decide +kernel), fun _ h => absurd h List.not_mem_nil⟩⟩⟩⟩⟩⟩⟩⟩⟩⟩⟩⟩⟩⟩⟩⟩⟩⟩⟩⟩⟩⟩⟩⟩⟩⟩⟩⟩
theorem w_c7 : ∀ w ∈ wC 7, w ∈ lw_tbl := fun _ h => absurd h List.not_mem_nil
theorem w_k7 : ∀ w ∈ wK 7, w ∈ lw_tbl := fun _ h => absurd h List.not_mem_nil
theorem w_l7 : ∀ w ∈ wLg 7, w ∈ lw_tbl := fun _ h => absurd h List.not_mem_nil
set_option maxRecDepth 20000 in
theorem w_f8 : ∀ w ∈ wF 8, w ∈ lw_tbl := List.forall_mem_cons.mpr ⟨t_2 (i := 39) (by decide +kernel), List.forall_mem_cons.mpr ⟨t_2 (i := 40) (by decide +kernel), List.forall_mem_cons.mpr ⟨t_1 (i := 56) (by decide +kernel), List.forall_mem_cons.mpr ⟨t_1 (i := 165) (by decide +kernel), List.forall_mem_cons.mpr ⟨t_1 (i := 168) (by decide +kernel), List.forall_mem_cons.mpr ⟨t_1 (i := 171) (by decide +kernel), List.forall_mem_cons.mpr ⟨t_1 (i := 118) (by decide +kernel), List.forall_mem_cons.mpr ⟨t_1 (i := 125) (by decide +kernel), List.forall_mem_cons.mpr ⟨t_1 (i := 130) (by decide +kernel), List.forall_mem_cons.mpr ⟨t_1 (i := 136) (by decide +kernel), List.forall_mem_cons.mpr ⟨t_1 (i := 59) (by decide +kernel), List.forall_mem_cons.mpr ⟨t_1 (i := 143) (by decide +kernel), List.forall_mem_cons.mpr ⟨t_1 (i := 146) (by decide +kernel), List.forall_mem_cons.mpr ⟨t_1 (i := 151) (by decide +kernel), List.forall_mem_cons.mpr ⟨t_1 (i := 158) (by decide +kernel), fun _ h => absurd h List.not_mem_nil⟩⟩⟩⟩⟩⟩⟩⟩⟩⟩⟩⟩⟩⟩⟩
set_option maxRecDepth 20000 in
theorem w_m8 : ∀ w ∈ wMt 8, w ∈ lw_tbl := List.forall_mem_cons.mpr ⟨t_2 (i := 38) (by decide +kernel), List.forall_mem_cons.mpr ⟨t_3 (i := 68) (by decide +kernel), List.forall_mem_cons.mpr ⟨t_3 (i := 69) (by decide +kernel), List.forall_mem_cons.mpr ⟨t_3 (i := 152) (by decide +kernel), List.forall_mem_cons.mpr ⟨t_3 (i := 156) (by decide +kernel), List.forall_mem_cons.mpr ⟨t_3 (i := 177) (by decide +kernel), List.forall_mem_cons.mpr ⟨t_3 (i := 189) (by decide +kernel), List.forall_mem_cons.mpr ⟨t_3 (i := 201) (by decide +kernel), List.forall_mem_cons.mpr ⟨t_3 (i := 163) (by decide +kernel), List.forall_mem_cons.mpr ⟨t_3 (i := 167) (by decide +kernel), List.forall_mem_cons.mpr ⟨t_3 (i := 168) (by decide +kernel), List.forall_mem_cons.mpr ⟨t_3 (i := 173) (by decide +kernel), List.forall_mem_cons.mpr ⟨t_3 (i := 181) (by decide +kernel), List.forall_mem_cons.mpr ⟨t_3 (i := 185) (by decide +kernel), List.forall_mem_cons.mpr ⟨t_3 (i := 193) (by decide +kernel), List.forall_mem_cons.mpr ⟨t_3 (i := 197) (by decide +kernel), List.forall_mem_cons.mpr ⟨t_3 (i := 205) (by decide +kernel), fun _ h => absurd h List.not_mem_nil⟩⟩⟩⟩⟩⟩⟩⟩⟩⟩⟩⟩⟩⟩⟩⟩⟩
theorem w_c8 : ∀ w ∈ wC 8, w ∈ lw_tbl := fun _ h => absurd h List.not_mem_nil
theorem w_k8 : ∀ w ∈ wK 8, w ∈ lw_tbl := fun _ h => absurd h List.not_mem_nil
theorem w_l8 : ∀ w ∈ wLg 8, w ∈ lw_tbl := fun _ h => absurd h List.not_mem_nil
set_option maxRecDepth 20000 in
theorem w_f9 : ∀ w ∈ wF 9, w ∈ lw_tbl := List.forall_mem_cons.mpr ⟨t_2 (i := 140) (by decide +kernel), List.forall_mem_cons.mpr ⟨t_2 (i := 141) (by decide +kernel), List.forall_mem_cons.mpr ⟨t_2 (i := 142) (by decide +kernel), List.forall_mem_cons.mpr ⟨t_2 (i := 143) (by decide +kernel), List.forall_mem_cons.mpr ⟨t_2 (i := 144) (by decide +kernel), List.forall_mem_cons.mpr ⟨t_2 (i := 147) (by decide +kernel), List.forall_mem_cons.mpr ⟨t_2 (i := 148) (by decide +kernel), List.forall_mem_cons.mpr ⟨t_2 (i := 149) (by decide +kernel), List.forall_mem_cons.mpr ⟨t_2 (i := 150) (by decide +kernel), List.forall_mem_cons.mpr ⟨t_2 (i := 145) (by decide +kernel), List.forall_mem_cons.mpr ⟨t_2 (i := 146) (by decide +kernel), List.forall_mem_cons.mpr ⟨t_2 (i := 151) (by decide +kernel), List.forall_mem_cons.mpr ⟨t_2 (i := 152) (by decide +kernel), List.forall_mem_cons.mpr ⟨t_2 (i := 153) (by decide +kernel), List.forall_mem_cons.mpr ⟨t_2 (i := 154) (by decide +kernel), List.forall_mem_cons.mpr ⟨t_2 (i := 155) (by decide +kernel), List.forall_mem_cons.mpr ⟨t_2 (i := 156) (by decide +kernel), List.forall_mem_cons.mpr ⟨t_2 (i := 157) (by decide +kernel), List.forall_mem_cons.mpr ⟨t_2 (i := 158) (by decide +kernel), List.forall_mem_cons.mpr ⟨t_1 (i := 36) (by decide +kernel), List.forall_mem_cons.mpr ⟨t_1 (i := 38) (by decide +kernel), List.forall_mem_cons.mpr ⟨t_1 (i := 55) (by decide +kernel), List.forall_mem_cons.mpr ⟨t_1 (i := 138) (by decide +kernel), List.forall_mem_cons.mpr ⟨t_1 (i := 232) (by decide +kernel), List.forall_mem_cons.mpr ⟨t_1 (i := 63) (by decide +kernel), List.forall_mem_cons.mpr ⟨t_1 (i := 65) (by decide +kernel), List.forall_mem_cons.mpr ⟨t_1 (i := 120) (by decide +kernel), List.forall_mem_cons.mpr ⟨t_1 (i := 159) (by decide +kernel), List.forall_mem_cons.mpr ⟨t_1 (i := 166) (by decide +kernel), List.forall_mem_cons.mpr ⟨t_1 (i := 169) (by decide +kernel), List.forall_mem_cons.mpr ⟨t_1 (i := 173) (by decide +kernel), List.forall_mem_cons.mpr ⟨t_1 (i := 175) (by decide +kernel), List.forall_mem_cons.mpr ⟨t_1 (i := 133) (by decide +kernel), List.forall_mem_cons.mpr ⟨t_1 (i := 123) (by decide +kernel), List.forall_mem_cons.mpr ⟨t_1 (i := 128) (by decide +kernel), List.forall_mem_cons.mpr ⟨t_1 (i := 131) (by decide +kernel), List.forall_mem_cons.mpr ⟨t_1 (i := 141) (by decide +kernel), List.forall_mem_cons.mpr ⟨t_1 (i := 144) (by decide +kernel), List.forall_mem_cons.mpr ⟨t_1 (i := 147) (by decide +kernel), List.forall_mem_cons.mpr ⟨t_1 (i := 152) (by decide +kernel), List.forall_mem_cons.mpr ⟨t_1 (i := 154) (by decide +kernel), List.forall_mem_cons.mpr ⟨t_1 (i := 156) (by decide +kernel), List.forall_mem_cons.mpr ⟨t_1 (i := 161) (by decide +kernel), List.forall_mem_cons.mpr ⟨t_1 (i := 163) (by decide +kernel), List.forall_mem_cons.mpr ⟨t_2 (i := 78) (by decide +kernel), List.forall_mem_cons.mpr ⟨t_1 (i := 229) (by decide +kernel), List.forall_mem_cons.mpr ⟨t_2 (i := 118) (by decide +kernel), List.forall_mem_cons.mpr ⟨t_2 (i := 120) (by decide +kernel), List.forall_mem_cons.mpr ⟨t_2 (i := 116) (by decide +kernel), fun _ h => absurd h List.not_mem_nil⟩⟩⟩⟩⟩⟩⟩⟩⟩⟩⟩⟩⟩⟩⟩⟩⟩⟩⟩⟩⟩⟩⟩⟩⟩⟩⟩⟩⟩⟩⟩⟩⟩⟩⟩⟩⟩⟩⟩⟩⟩⟩⟩⟩⟩⟩⟩⟩⟩
set_option maxRecDepth 20000 in
theorem w_m9 : ∀ w ∈ wMt 9, w ∈ lw_tbl := List.forall_mem_cons.mpr ⟨t_1 (i := 25) (by decide +kernel), List.forall_mem_cons.mpr ⟨t_1 (i := 31) (by decide +kernel), List.forall_mem_cons.mpr ⟨t_1 (i := 50) (by decide +kernel), List.forall_mem_cons.mpr ⟨t_1 (i := 108) (by decide +kernel), List.forall_mem_cons.mpr ⟨t_1 (i := 219) (by decide +kernel), List.forall_mem_cons.mpr ⟨t_2 (i := 35) (by decide +kernel), List.forall_mem_cons.mpr ⟨t_2 (i := 48) (by decide +kernel), List.forall_mem_cons.mpr ⟨t_2 (i := 72) (by decide +kernel), List.forall_mem_cons.mpr ⟨t_2 (i := 92) (by decide +kernel), List.forall_mem_cons.mpr ⟨t_2 (i := 111) (by decide +kernel), List.forall_mem_cons.mpr ⟨t_2 (i := 214) (by decide +kernel), List.forall_mem_cons.mpr ⟨t_2 (i := 218) (by decide +kernel), List.forall_mem_cons.mpr ⟨t_2 (i := 222) (by decide +kernel), List.forall_mem_cons.mpr ⟨t_2 (i := 226) (by decide +kernel), List.forall_mem_cons.mpr ⟨t_2 (i := 233) (by decide +kernel), List.forall_mem_cons.mpr ⟨t_3 (i := 1) (by decide +kernel), List.forall_mem_cons.mpr ⟨t_3 (i := 13) (by decide +kernel), List.forall_mem_cons.mpr ⟨t_3 (i := 26) (by decide +kernel), List.forall_mem_cons.mpr ⟨t_3 (i := 5) (by decide +kernel), List.forall_mem_cons.mpr ⟨t_3 (i := 34) (by decide +kernel), List.forall_mem_cons.mpr ⟨t_3 (i := 38) (by decide +kernel), List.forall_mem_cons.mpr ⟨t_3 (i := 45) (by decide +kernel), List.forall_mem_cons.mpr ⟨t_3 (i := 49) (by decide +kernel), List.forall_mem_cons.mpr ⟨t_3 (i := 57) (by decide +kernel), List.forall_mem_cons.mpr ⟨t_3 (i := 64) (by decide +kernel), List.forall_mem_cons.mpr ⟨t_3 (i := 209) (by decide +kernel), List.forall_mem_cons.mpr ⟨t_3 (i := 210) (by decide +kernel), List.forall_mem_cons.mpr ⟨t_3 (i := 218) (by decide +kernel), List.forall_mem_cons.mpr ⟨t_3 (i := 219) (by decide +kernel), List.forall_mem_cons.mpr ⟨t_4 (i := 24) (by decide +kernel), List.forall_mem_cons.mpr ⟨t_4 (i := 32) (by decide +kernel), List.forall_mem_cons.mpr ⟨t_4 (i := 44) (by decide +kernel), List.forall_mem_cons.mpr ⟨t_4 (i := 48) (by decide +kernel), List.forall_mem_cons.mpr ⟨t_4 (i := 68) (by decide +kernel), List.forall_mem_cons.mpr ⟨t_4 (i := 80) (by decide +kernel), List.forall_mem_cons.mpr ⟨t_4 (i := 100) (by decide +kernel), List.forall_mem_cons.mpr ⟨t_4 (i := 108) (by decide +kernel), List.forall_mem_cons.mpr ⟨t_4 (i := 113) (by decide +kernel), List.forall_mem_cons.mpr ⟨t_4 (i := 133) (by decide +kernel), List.forall_mem_cons.mpr ⟨t_4 (i := 145) (by decide +kernel), List.forall_mem_cons.mpr ⟨t_4 (i := 154) (by decide +kernel), List.forall_mem_cons.mpr ⟨t_4 (i := 167) (by decide +kernel), List.forall_mem_cons.mpr ⟨t_4 (i := 176) (by decide +kernel), List.forall_mem_cons.mpr ⟨t_4 (i := 182) (by decide +kernel), List.forall_mem_cons.mpr ⟨t_4 (i := 188) (by decide +kernel), List.forall_mem_cons.mpr ⟨t_4 (i := 199) (by decide +kernel), List.forall_mem_cons.mpr ⟨t_4 (i := 204) (by decide +kernel), List.forall_mem_cons.mpr ⟨t_4 (i := 209) (by decide +kernel), List.forall_mem_cons.mpr ⟨t_4 (i := 213) (by decide +kernel), List.forall_mem_cons.mpr ⟨t_4 (i := 218) (by decide +kernel), List.forall_mem_cons.mpr ⟨t_4 (i := 226) (by decide +kernel), List.forall_mem_cons.mpr ⟨t_4 (i := 234) (by decide +kernel), List.forall_mem_cons.mpr ⟨t_4 (i := 239) (by decide +kernel), List.forall_mem_cons.mpr ⟨t_5 (i := 7) (by decide +kernel), List.forall_mem_cons.mpr ⟨t_5 (i := 15) (by decide +kernel), List.forall_mem_cons.mpr ⟨t_5 (i := 24) (by decide +kernel), List.forall_mem_cons.mpr ⟨t_5 (i := 39) (by decide +kernel), List.forall_mem_cons.mpr ⟨t_5 (i := 44) (by decide +kernel), List.forall_mem_cons.mpr ⟨t_5 (i := 66) (by decide +kernel), List.forall_mem_cons.mpr ⟨t_5 (i := 76) (by decide +kernel), List.forall_mem_cons.mpr ⟨t_5 (i := 84) (by decide +kernel), List.forall_mem_cons.mpr ⟨t_5 (i := 85) (by decide +kernel), List.forall_mem_cons.mpr ⟨t_5 (i := 97) (by decide +kernel), List.forall_mem_cons.mpr ⟨t_5 (i := 113) (by decide +kernel), List.forall_mem_cons.mpr ⟨t_5 (i := 118) (by decide +kernel), List.forall_mem_cons.mpr ⟨t_5 (i := 123) (by decide +kernel), List.forall_mem_cons.mpr ⟨t_5 (i := 131) (by decide +kernel), List.forall_mem_cons.mpr ⟨t_5 (i := 140) (by decide +kernel), List.forall_mem_cons.mpr ⟨t_5 (i := 150) (by decide +kernel), List.forall_mem_cons.mpr ⟨t_5 (i := 155) (by decide +kernel), List.forall_mem_cons.mpr ⟨t_5 (i := 159) (by decide +kernel), List.forall_mem_cons.mpr ⟨t_5 (i := 185) (by decide +kernel), List.forall_mem_cons.mpr ⟨t_5 (i := 193) (by decide +kernel), List.forall_mem_cons.mpr ⟨t_5 (i := 209) (by decide +kernel), List.forall_mem_cons.mpr ⟨t_5 (i := 218) (by decide +kernel), List.forall_mem_cons.mpr ⟨t_6 (i := 2) (by decide +kernel), List.forall_mem_cons.mpr ⟨t_6 (i := 6) (by decide +kernel), List.forall_mem_cons.mpr ⟨t_6 (i := 57) (by decide +kernel), List.forall_mem_cons.mpr ⟨t_5 (i := 222) (by decide +kernel), List.forall_mem_cons.mpr ⟨t_6 (i := 65) (by decide +kernel), List.forall_mem_cons.mpr ⟨t_3 (i := 9) (by decide +kernel), List.forall_mem_cons.mpr ⟨t_5 (i := 127) (by decide +kernel), List.forall_mem_cons.mpr ⟨t_5 (i := 226) (by decide +kernel), fun _ h => absurd h List.not_mem_nil⟩⟩⟩⟩⟩⟩⟩⟩⟩⟩⟩⟩⟩⟩⟩⟩⟩⟩⟩⟩⟩⟩⟩⟩⟩⟩⟩⟩⟩⟩⟩⟩⟩⟩⟩⟩⟩⟩⟩⟩⟩⟩⟩⟩⟩⟩⟩⟩⟩⟩⟩⟩⟩⟩⟩⟩⟩⟩⟩⟩⟩⟩⟩⟩⟩⟩⟩⟩⟩⟩⟩⟩⟩⟩⟩⟩⟩⟩⟩⟩⟩⟩⟩
set_option maxRecDepth 20000 in
theorem w_c9 : ∀ w ∈ wC 9, w ∈ lw_tbl := List.forall_mem_cons.mpr ⟨t_1 (i := 28) (by decide +kernel), List.forall_mem_cons.mpr ⟨t_1 (i := 48) (by decide +kernel), List.forall_mem_cons.mpr ⟨t_1 (i := 106) (by decide +kernel), List.forall_mem_cons.mpr ⟨t_1 (i := 217) (by decide +kernel), List.forall_mem_cons.mpr ⟨t_2 (i := 33) (by decide +kernel), List.forall_mem_cons.mpr ⟨t_2 (i := 46) (by decide +kernel), List.forall_mem_cons.mpr ⟨t_2 (i := 70) (by decide +kernel), List.forall_mem_cons.mpr ⟨t_2 (i := 90) (by decide +kernel), List.forall_mem_cons.mpr ⟨t_2 (i := 109) (by decide +kernel), fun _ h => absurd h List.not_mem_nil⟩⟩⟩⟩⟩⟩⟩⟩⟩
theorem w_k9 : ∀ w ∈ wK 9, w ∈ lw_tbl := fun _ h => absurd h List.not_mem_nil
set_option maxRecDepth 20000 in
theorem w_l9 : ∀ w ∈ wLg 9, w ∈ lw_tbl := List.forall_mem_cons.mpr ⟨t_2 (i := 217) (by decide +kernel), List.forall_mem_cons.mpr ⟨t_2 (i := 221) (by decide +kernel), List.forall_mem_cons.mpr ⟨t_4 (i := 153) (by decide +kernel), List.forall_mem_cons.mpr ⟨t_4 (i := 175) (by decide +kernel), List.forall_mem_cons.mpr ⟨t_4 (i := 181) (by decide +kernel), List.forall_mem_cons.mpr ⟨t_4 (i := 187) (by decide +kernel), List.forall_mem_cons.mpr ⟨t_4 (i := 193) (by decide +kernel), List.forall_mem_cons.mpr ⟨t_4 (i := 194) (by decide +kernel), List.forall_mem_cons.mpr ⟨t_5 (i := 149) (by decide +kernel), List.forall_mem_cons.mpr ⟨t_6 (i := 1) (by decide +kernel), List.forall_mem_cons.mpr ⟨t_5 (i := 122) (by decide +kernel), fun _ h => absurd h List.not_mem_nil⟩⟩⟩⟩⟩⟩⟩⟩⟩⟩⟩
set_option maxRecDepth 20000 in
theorem w_f10 : ∀ w ∈ wF 10, w ∈ lw_tbl := List.forall_mem_cons.mpr ⟨t_6 (i := 84) (by decide +kernel), List.forall_mem_cons.mpr ⟨t_6 (i := 85) (by decide +kernel), List.forall_mem_cons.mpr ⟨t_6 (i := 88) (by decide +kernel), List.forall_mem_cons.mpr ⟨t_6 (i := 89) (by decide +kernel), List.forall_mem_cons.mpr ⟨t_6 (i := 90) (by decide +kernel), List.forall_mem_cons.mpr ⟨t_6 (i := 91) (by decide +kernel), List.forall_mem_cons.mpr ⟨t_6 (i := 92) (by decide +kernel), List.forall_mem_cons.mpr ⟨t_6 (i := 93) (by decide +kernel), List.forall_mem_cons.mpr ⟨t_6 (i := 100) (by decide +kernel), List.forall_mem_cons.mpr ⟨t_6 (i := 101) (by decide +kernel), List.forall_mem_cons.mpr ⟨t_6 (i := 105) (by decide +kernel), List.forall_mem_cons.mpr ⟨t_6 (i := 109) (by decide +kernel), List.forall_mem_cons.mpr ⟨t_6 (i := 110) (by decide +kernel), List.forall_mem_cons.mpr ⟨t_6 (i := 111) (by decide +kernel), List.forall_mem_cons.mpr ⟨t_6 (i := 112) (by decide +kernel), List.forall_mem_cons.mpr ⟨t_6 (i := 113) (by decide +kernel), List.forall_mem_cons.mpr ⟨t_6 (i := 114) (by decide +kernel), List.forall_mem_cons.mpr ⟨t_6 (i := 115) (by decide +kernel), List.forall_mem_cons.mpr ⟨t_6 (i := 118) (by decide +kernel), List.forall_mem_cons.mpr ⟨t_6 (i := 119) (by decide +kernel), List.forall_mem_cons.mpr ⟨t_6 (i := 120) (by decide +kernel), List.forall_mem_cons.mpr ⟨t_6 (i := 86) (by decide +kernel), List.forall_mem_cons.mpr ⟨t_6 (i := 87) (by decide +kernel), List.forall_mem_cons.mpr ⟨t_6 (i := 94) (by decide +kernel), List.forall_mem_cons.mpr ⟨t_6 (i := 95) (by decide +kernel), List.forall_mem_cons.mpr ⟨t_6 (i := 98) (by decide +kernel), List.forall_mem_cons.mpr ⟨t_6 (i := 97) (by decide +kernel), List.forall_mem_cons.mpr ⟨t_6 (i := 99) (by decide +kernel), List.forall_mem_cons.mpr ⟨t_6 (i := 96) (by decide +kernel), List.forall_mem_cons.mpr ⟨t_6 (i := 102) (by decide +kernel), List.forall_mem_cons.mpr ⟨t_6 (i := 103) (by decide +kernel), List.forall_mem_cons.mpr ⟨t_6 (i := 104) (by decide +kernel), List.forall_mem_cons.mpr ⟨t_6 (i := 106) (by decide +kernel), List.forall_mem_cons.mpr ⟨t_6 (i := 107) (by decide +kernel), List.forall_mem_cons.mpr ⟨t_6 (i := 108) (by decide +kernel), List.forall_mem_cons.mpr ⟨t_6 (i := 116) (by decide +kernel), List.forall_mem_cons.mpr ⟨t_6 (i := 117) (by decide +kernel), List.forall_mem_cons.mpr ⟨t_6 (i := 121) (by decide +kernel), List.forall_mem_cons.mpr ⟨t_6 (i := 122) (by decide +kernel), fun _ h => absurd h List.not_mem_nil⟩⟩⟩⟩⟩⟩⟩⟩⟩⟩⟩⟩⟩⟩⟩⟩⟩⟩⟩⟩⟩⟩⟩⟩⟩⟩⟩⟩⟩⟩⟩⟩⟩⟩⟩⟩⟩⟩⟩
set_option maxRecDepth 20000 in
theorem w_m10 : ∀ w ∈ wMt 10, w ∈ lw_tbl := List.forall_mem_cons.mpr ⟨t_6 (i := 79) (by decide +kernel), List.forall_mem_cons.mpr ⟨t_6 (i := 80) (by decide +kernel), List.forall_mem_cons.mpr ⟨t_7 (i := 42) (by decide +kernel), List.forall_mem_cons.mpr ⟨t_7 (i := 126) (by decide +kernel), List.forall_mem_cons.mpr ⟨t_6 (i := 222) (by decide +kernel), List.forall_mem_cons.mpr ⟨t_6 (i := 219) (by decide +kernel), List.forall_mem_cons.mpr ⟨t_6 (i := 230) (by decide +kernel), List.forall_mem_cons.mpr ⟨t_6 (i := 234) (by decide +kernel), List.forall_mem_cons.mpr ⟨t_7 (i := 10) (by decide +kernel), List.forall_mem_cons.mpr ⟨t_7 (i := 30) (by decide +kernel), List.forall_mem_cons.mpr ⟨t_7 (i := 34) (by decide +kernel), List.forall_mem_cons.mpr ⟨t_7 (i := 37) (by decide +kernel), List.forall_mem_cons.mpr ⟨t_7 (i := 41) (by decide +kernel), List.forall_mem_cons.mpr ⟨t_7 (i := 55) (by decide +kernel), List.forall_mem_cons.mpr ⟨t_7 (i := 56) (by decide +kernel), List.forall_mem_cons.mpr ⟨t_7 (i := 26) (by decide +kernel), List.forall_mem_cons.mpr ⟨t_7 (i := 118) (by decide +kernel), List.forall_mem_cons.mpr ⟨t_7 (i := 57) (by decide +kernel), List.forall_mem_cons.mpr ⟨t_7 (i := 51) (by decide +kernel), List.forall_mem_cons.mpr ⟨t_7 (i := 103) (by decide +kernel), List.forall_mem_cons.mpr ⟨t_7 (i := 84) (by decide +kernel), List.forall_mem_cons.mpr ⟨t_7 (i := 61) (by decide +kernel), List.forall_mem_cons.mpr ⟨t_7 (i := 69) (by decide +kernel), List.forall_mem_cons.mpr ⟨t_7 (i := 73) (by decide +kernel), List.forall_mem_cons.mpr ⟨t_7 (i := 76) (by decide +kernel), List.forall_mem_cons.mpr ⟨t_7 (i := 80) (by decide +kernel), List.forall_mem_cons.mpr ⟨t_7 (i := 92) (by decide +kernel), List.forall_mem_cons.mpr ⟨t_7 (i := 95) (by decide +kernel), List.forall_mem_cons.mpr ⟨t_7 (i := 99) (by decide +kernel), List.forall_mem_cons.mpr ⟨t_7 (i := 111) (by decide +kernel), List.forall_mem_cons.mpr ⟨t_7 (i := 65) (by decide +kernel), List.forall_mem_cons.mpr ⟨t_7 (i := 88) (by decide +kernel), List.forall_mem_cons.mpr ⟨t_7 (i := 107) (by decide +kernel), List.forall_mem_cons.mpr ⟨t_7 (i := 114) (by decide +kernel), List.forall_mem_cons.mpr ⟨t_7 (i := 22) (by decide +kernel), List.forall_mem_cons.mpr ⟨t_7 (i := 46) (by decide +kernel), List.forall_mem_cons.mpr ⟨t_7 (i := 122) (by decide +kernel), List.forall_mem_cons.mpr ⟨t_7 (i := 142) (by decide +kernel), List.forall_mem_cons.mpr ⟨t_7 (i := 146) (by decide +kernel), List.forall_mem_cons.mpr ⟨t_7 (i := 150) (by decide +kernel), List.forall_mem_cons.mpr ⟨t_7 (i := 138) (by decide +kernel), List.forall_mem_cons.mpr ⟨t_7 (i := 134) (by decide +kernel), List.forall_mem_cons.mpr ⟨t_8 (i := 28) (by decide +kernel), List.forall_mem_cons.mpr ⟨t_7 (i := 198) (by decide +kernel), List.forall_mem_cons.mpr ⟨t_7 (i := 166) (by decide +kernel), List.forall_mem_cons.mpr ⟨t_7 (i := 194) (by decide +kernel), List.forall_mem_cons.mpr ⟨t_7 (i := 206) (by decide +kernel), List.forall_mem_cons.mpr ⟨t_7 (i := 190) (by decide +kernel), List.forall_mem_cons.mpr ⟨t_7 (i := 202) (by decide +kernel), List.forall_mem_cons.mpr ⟨t_7 (i := 162) (by decide +kernel), List.forall_mem_cons.mpr ⟨t_7 (i := 186) (by decide +kernel), List.forall_mem_cons.mpr ⟨t_7 (i := 158) (by decide +kernel), List.forall_mem_cons.mpr ⟨t_7 (i := 170) (by decide +kernel), List.forall_mem_cons.mpr ⟨t_7 (i := 178) (by decide +kernel), List.forall_mem_cons.mpr ⟨t_7 (i := 182) (by decide +kernel), List.forall_mem_cons.mpr ⟨t_7 (i := 211) (by decide +kernel), List.forall_mem_cons.mpr ⟨t_7 (i := 227) (by decide +kernel), List.forall_mem_cons.mpr ⟨t_7 (i := 231) (by decide +kernel), List.forall_mem_cons.mpr ⟨t_7 (i := 235) (by decide +kernel), List.forall_mem_cons.mpr ⟨t_7 (i := 223) (by decide +kernel), List.forall_mem_cons.mpr ⟨t_8 (i := 3) (by decide +kernel), List.forall_mem_cons.mpr ⟨t_8 (i := 11) (by decide +kernel), List.forall_mem_cons.mpr ⟨t_8 (i := 19) (by decide +kernel), List.forall_mem_cons.mpr ⟨t_8 (i := 39) (by decide +kernel), List.forall_mem_cons.mpr ⟨t_8 (i := 35) (by decide +kernel), List.forall_mem_cons.mpr ⟨t_8 (i := 31) (by decide +kernel), List.forall_mem_cons.mpr ⟨t_8 (i := 85) (by decide +kernel), List.forall_mem_cons.mpr ⟨t_8 (i := 89) (by decide +kernel), List.forall_mem_cons.mpr ⟨t_8 (i := 81) (by decide +kernel), List.forall_mem_cons.mpr ⟨t_8 (i := 101) (by decide +kernel), List.forall_mem_cons.mpr ⟨t_8 (i := 105) (by decide +kernel), List.forall_mem_cons.mpr ⟨t_8 (i := 121) (by decide +kernel), List.forall_mem_cons.mpr ⟨t_8 (i := 133) (by decide +kernel), List.forall_mem_cons.mpr ⟨t_8 (i := 156) (by decide +kernel), List.forall_mem_cons.mpr ⟨t_8 (i := 160) (by decide +kernel), List.forall_mem_cons.mpr ⟨t_8 (i := 148) (by decide +kernel), List.forall_mem_cons.mpr ⟨t_8 (i := 152) (by decide +kernel), List.forall_mem_cons.mpr ⟨t_8 (i := 144) (by decide +kernel), List.forall_mem_cons.mpr ⟨t_8 (i := 168) (by decide +kernel), List.forall_mem_cons.mpr ⟨t_8 (i := 172) (by decide +kernel), List.forall_mem_cons.mpr ⟨t_8 (i := 180) (by decide +kernel), List.forall_mem_cons.mpr ⟨t_8 (i := 192) (by decide +kernel), List.forall_mem_cons.mpr ⟨t_8 (i := 188) (by decide +kernel), List.forall_mem_cons.mpr ⟨t_8 (i := 204) (by decide +kernel), List.forall_mem_cons.mpr ⟨t_8 (i := 209) (by decide +kernel), List.forall_mem_cons.mpr ⟨t_8 (i := 221) (by decide +kernel), List.forall_mem_cons.mpr ⟨t_8 (i := 238) (by decide +kernel), List.forall_mem_cons.mpr ⟨t_9 (i := 2) (by decide +kernel), List.forall_mem_cons.mpr ⟨t_9 (i := 5) (by decide +kernel), List.forall_mem_cons.mpr ⟨t_9 (i := 9) (by decide +kernel), List.forall_mem_cons.mpr ⟨t_8 (i := 229) (by decide +kernel), List.forall_mem_cons.mpr ⟨t_8 (i := 234) (by decide +kernel), List.forall_mem_cons.mpr ⟨t_9 (i := 25) (by decide +kernel), List.forall_mem_cons.mpr ⟨t_9 (i := 21) (by decide +kernel), List.forall_mem_cons.mpr ⟨t_9 (i := 41) (by decide +kernel), List.forall_mem_cons.mpr ⟨t_9 (i := 37) (by decide +kernel), List.forall_mem_cons.mpr ⟨t_9 (i := 45) (by decide +kernel), List.forall_mem_cons.mpr ⟨t_9 (i := 90) (by decide +kernel), List.forall_mem_cons.mpr ⟨t_9 (i := 70) (by decide +kernel), List.forall_mem_cons.mpr ⟨t_9 (i := 74) (by decide +kernel), List.forall_mem_cons.mpr ⟨t_9 (i := 78) (by decide +kernel), List.forall_mem_cons.mpr ⟨t_9 (i := 82) (by decide +kernel), List.forall_mem_cons.mpr ⟨t_9 (i := 86) (by decide +kernel), List.forall_mem_cons.mpr ⟨t_9 (i := 66) (by decide +kernel), List.forall_mem_cons.mpr ⟨t_9 (i := 95) (by decide +kernel), List.forall_mem_cons.mpr ⟨t_9 (i := 99) (by decide +kernel), List.forall_mem_cons.mpr ⟨t_9 (i := 62) (by decide +kernel), List.forall_mem_cons.mpr ⟨t_9 (i := 115) (by decide +kernel), fun _ h => absurd h List.not_mem_nil⟩⟩⟩⟩⟩⟩⟩⟩⟩⟩⟩⟩⟩⟩⟩⟩⟩⟩⟩⟩⟩⟩⟩⟩⟩⟩⟩⟩⟩⟩⟩⟩⟩⟩⟩⟩⟩⟩⟩⟩⟩⟩⟩⟩⟩⟩⟩⟩⟩⟩⟩⟩⟩⟩⟩⟩⟩⟩⟩⟩⟩⟩⟩⟩⟩⟩⟩⟩⟩⟩⟩⟩⟩⟩⟩⟩⟩⟩⟩⟩⟩⟩⟩⟩⟩⟩⟩⟩⟩⟩⟩⟩⟩⟩⟩⟩⟩⟩⟩⟩⟩⟩⟩⟩⟩⟩⟩⟩
theorem w_c10 : ∀ w ∈ wC 10, w ∈ lw_tbl := fun _ h => absurd h List.not_mem_nil
set_option maxRecDepth 20000 in
theorem w_k10 : ∀ w ∈ wK 10, w ∈ lw_tbl := List.forall_mem_cons.mpr ⟨t_7 (i := 40) (by decide +kernel), List.forall_mem_cons.mpr ⟨t_8 (i := 159) (by decide +kernel), List.forall_mem_cons.mpr ⟨t_9 (i := 94) (by decide +kernel), fun _ h => absurd h List.not_mem_nil⟩⟩⟩
set_option maxRecDepth 20000 in
theorem w_l10 : ∀ w ∈ wLg 10, w ∈ lw_tbl := List.forall_mem_cons.mpr ⟨t_7 (i := 1) (by decide +kernel), List.forall_mem_cons.mpr ⟨t_8 (i := 27) (by decide +kernel), List.forall_mem_cons.mpr ⟨t_8 (i := 47) (by decide +kernel), List.forall_mem_cons.mpr ⟨t_8 (i := 48) (by decide +kernel), List.forall_mem_cons.mpr ⟨t_8 (i := 57) (by decide +kernel), List.forall_mem_cons.mpr ⟨t_8 (i := 62) (by decide +kernel), List.forall_mem_cons.mpr ⟨t_8 (i := 67) (by decide +kernel), List.forall_mem_cons.mpr ⟨t_8 (i := 68) (by decide +kernel), List.forall_mem_cons.mpr ⟨t_8 (i := 208) (by decide +kernel), List.forall_mem_cons.mpr ⟨t_8 (i := 233) (by decide +kernel), List.forall_mem_cons.mpr ⟨t_9 (i := 61) (by decide +kernel), fun _ h => absurd h List.not_mem_nil⟩⟩⟩⟩⟩⟩⟩⟩⟩⟩⟩
theorem w_f11 : ∀ w ∈ wF 11, w ∈ lw_tbl := fun _ h => absurd h List.not_mem_nil
set_option maxRecDepth 20000 in
theorem w_m11 : ∀ w ∈ wMt 11, w ∈ lw_tbl := List.forall_mem_cons.mpr ⟨t_1 (i := 22) (by decide +kernel), List.forall_mem_cons.mpr ⟨t_6 (i := 76) (by decide +kernel), List.forall_mem_cons.mpr ⟨t_2 (i := 198) (by decide +kernel), List.forall_mem_cons.mpr ⟨t_6 (i := 203) (by decide +kernel), List.forall_mem_cons.mpr ⟨t_2 (i := 202) (by decide +kernel), List.forall_mem_cons.mpr ⟨t_6 (i := 207) (by decide +kernel), List.forall_mem_cons.mpr ⟨t_2 (i := 206) (by decide +kernel), List.forall_mem_cons.mpr ⟨t_6 (i := 211) (by decide +kernel), List.forall_mem_cons.mpr ⟨t_2 (i := 210) (by decide +kernel), List.forall_mem_cons.mpr ⟨t_6 (i := 215) (by decide +kernel), List.forall_mem_cons.mpr ⟨t_2 (i := 237) (by decide +kernel), List.forall_mem_cons.mpr ⟨t_6 (i := 226) (by decide +kernel), List.forall_mem_cons.mpr ⟨t_3 (i := 22) (by decide +kernel), List.forall_mem_cons.mpr ⟨t_6 (i := 237) (by decide +kernel), List.forall_mem_cons.mpr ⟨t_3 (i := 30) (by decide +kernel), List.forall_mem_cons.mpr ⟨t_7 (i := 2) (by decide +kernel), List.forall_mem_cons.mpr ⟨t_3 (i := 41) (by decide +kernel), List.forall_mem_cons.mpr ⟨t_7 (i := 6) (by decide +kernel), List.forall_mem_cons.mpr ⟨t_3 (i := 53) (by decide +kernel), List.forall_mem_cons.mpr ⟨t_7 (i := 18) (by decide +kernel), List.forall_mem_cons.mpr ⟨t_3 (i := 214) (by decide +kernel), List.forall_mem_cons.mpr ⟨t_7 (i := 130) (by decide +kernel), List.forall_mem_cons.mpr ⟨t_4 (i := 16) (by decide +kernel), List.forall_mem_cons.mpr ⟨t_7 (i := 14) (by decide +kernel), List.forall_mem_cons.mpr ⟨t_4 (i := 20) (by decide +kernel), List.forall_mem_cons.mpr ⟨t_7 (i := 154) (by decide +kernel), List.forall_mem_cons.mpr ⟨t_4 (i := 40) (by decide +kernel), List.forall_mem_cons.mpr ⟨t_7 (i := 174) (by decide +kernel), List.forall_mem_cons.mpr ⟨t_4 (i := 64) (by decide +kernel), List.forall_mem_cons.mpr ⟨t_7 (i := 207) (by decide +kernel), List.forall_mem_cons.mpr ⟨t_4 (i := 72) (by decide +kernel), List.forall_mem_cons.mpr ⟨t_7 (i := 215) (by decide +kernel), List.forall_mem_cons.mpr ⟨t_4 (i := 76) (by decide +kernel), List.forall_mem_cons.mpr ⟨t_7 (i := 219) (by decide +kernel), List.forall_mem_cons.mpr ⟨t_4 (i := 104) (by decide +kernel), List.forall_mem_cons.mpr ⟨t_7 (i := 239) (by decide +kernel), List.forall_mem_cons.mpr ⟨t_4 (i := 129) (by decide +kernel), List.forall_mem_cons.mpr ⟨t_8 (i := 7) (by decide +kernel), List.forall_mem_cons.mpr ⟨t_4 (i := 141) (by decide +kernel), List.forall_mem_cons.mpr ⟨t_8 (i := 15) (by decide +kernel), List.forall_mem_cons.mpr ⟨t_4 (i := 149) (by decide +kernel), List.forall_mem_cons.mpr ⟨t_8 (i := 23) (by decide +kernel), List.forall_mem_cons.mpr ⟨t_4 (i := 163) (by decide +kernel), List.forall_mem_cons.mpr ⟨t_8 (i := 43) (by decide +kernel), List.forall_mem_cons.mpr ⟨t_4 (i := 171) (by decide +kernel), List.forall_mem_cons.mpr ⟨t_8 (i := 49) (by decide +kernel), List.forall_mem_cons.mpr ⟨t_4 (i := 177) (by decide +kernel), List.forall_mem_cons.mpr ⟨t_8 (i := 53) (by decide +kernel), List.forall_mem_cons.mpr ⟨t_4 (i := 183) (by decide +kernel), List.forall_mem_cons.mpr ⟨t_8 (i := 58) (by decide +kernel), List.forall_mem_cons.mpr ⟨t_4 (i := 189) (by decide +kernel), List.forall_mem_cons.mpr ⟨t_8 (i := 63) (by decide +kernel), List.forall_mem_cons.mpr ⟨t_4 (i := 195) (by decide +kernel), List.forall_mem_cons.mpr ⟨t_8 (i := 69) (by decide +kernel), List.forall_mem_cons.mpr ⟨t_4 (i := 200) (by decide +kernel), List.forall_mem_cons.mpr ⟨t_8 (i := 73) (by decide +kernel), List.forall_mem_cons.mpr ⟨t_4 (i := 205) (by decide +kernel), List.forall_mem_cons.mpr ⟨t_8 (i := 77) (by decide +kernel), List.forall_mem_cons.mpr ⟨t_4 (i := 214) (by decide +kernel), List.forall_mem_cons.mpr ⟨t_8 (i := 93) (by decide +kernel), List.forall_mem_cons.mpr ⟨t_4 (i := 222) (by decide +kernel), List.forall_mem_cons.mpr ⟨t_8 (i := 97) (by decide +kernel), List.forall_mem_cons.mpr ⟨t_4 (i := 230) (by decide +kernel), List.forall_mem_cons.mpr ⟨t_8 (i := 109) (by decide +kernel), List.forall_mem_cons.mpr ⟨t_4 (i := 235) (by decide +kernel), List.forall_mem_cons.mpr ⟨t_8 (i := 113) (by decide +kernel), List.forall_mem_cons.mpr ⟨t_5 (i := 3) (by decide +kernel), List.forall_mem_cons.mpr ⟨t_8 (i := 117) (by decide +kernel), List.forall_mem_cons.mpr ⟨t_5 (i := 16) (by decide +kernel), List.forall_mem_cons.mpr ⟨t_8 (i := 125) (by decide +kernel), List.forall_mem_cons.mpr ⟨t_5 (i := 20) (by decide +kernel), List.forall_mem_cons.mpr ⟨t_8 (i := 129) (by decide +kernel), List.forall_mem_cons.mpr ⟨t_5 (i := 35) (by decide +kernel), List.forall_mem_cons.mpr ⟨t_8 (i := 136) (by decide +kernel), List.forall_mem_cons.mpr ⟨t_5 (i := 40) (by decide +kernel), List.forall_mem_cons.mpr ⟨t_8 (i := 140) (by decide +kernel), List.forall_mem_cons.mpr ⟨t_5 (i := 72) (by decide +kernel), List.forall_mem_cons.mpr ⟨t_8 (i := 164) (by decide +kernel), List.forall_mem_cons.mpr ⟨t_5 (i := 80) (by decide +kernel), List.forall_mem_cons.mpr ⟨t_8 (i := 176) (by decide +kernel), List.forall_mem_cons.mpr ⟨t_5 (i := 93) (by decide +kernel), List.forall_mem_cons.mpr ⟨t_8 (i := 184) (by decide +kernel), List.forall_mem_cons.mpr ⟨t_5 (i := 109) (by decide +kernel), List.forall_mem_cons.mpr ⟨t_8 (i := 196) (by decide +kernel), List.forall_mem_cons.mpr ⟨t_5 (i := 114) (by decide +kernel), List.forall_mem_cons.mpr ⟨t_8 (i := 200) (by decide +kernel), List.forall_mem_cons.mpr ⟨t_5 (i := 132) (by decide +kernel), List.forall_mem_cons.mpr ⟨t_8 (i := 213) (by decide +kernel), List.forall_mem_cons.mpr ⟨t_5 (i := 136) (by decide +kernel), List.forall_mem_cons.mpr ⟨t_8 (i := 217) (by decide +kernel), List.forall_mem_cons.mpr ⟨t_5 (i := 145) (by decide +kernel), List.forall_mem_cons.mpr ⟨t_8 (i := 225) (by decide +kernel), List.forall_mem_cons.mpr ⟨t_5 (i := 181) (by decide +kernel), List.forall_mem_cons.mpr ⟨t_9 (i := 13) (by decide +kernel), List.forall_mem_cons.mpr ⟨t_5 (i := 189) (by decide +kernel), List.forall_mem_cons.mpr ⟨t_9 (i := 17) (by decide +kernel), List.forall_mem_cons.mpr ⟨t_5 (i := 210) (by decide +kernel), List.forall_mem_cons.mpr ⟨t_9 (i := 29) (by decide +kernel), List.forall_mem_cons.mpr ⟨t_5 (i := 214) (by decide +kernel), List.forall_mem_cons.mpr ⟨t_9 (i := 33) (by decide +kernel), List.forall_mem_cons.mpr ⟨t_5 (i := 229) (by decide +kernel), List.forall_mem_cons.mpr ⟨t_9 (i := 49) (by decide +kernel), List.forall_mem_cons.mpr ⟨t_5 (i := 233) (by decide +kernel), List.forall_mem_cons.mpr ⟨t_9 (i := 53) (by decide +kernel), List.forall_mem_cons.mpr ⟨t_5 (i := 237) (by decide +kernel), List.forall_mem_cons.mpr ⟨t_9 (i := 57) (by decide +kernel), List.forall_mem_cons.mpr ⟨t_6 (i := 49) (by decide +kernel), List.forall_mem_cons.mpr ⟨t_9 (i := 103) (by decide +kernel), List.forall_mem_cons.mpr ⟨t_6 (i := 53) (by decide +kernel), List.forall_mem_cons.mpr ⟨t_9 (i := 107) (by decide +kernel), List.forall_mem_cons.mpr ⟨t_6 (i := 61) (by decide +kernel), List.forall_mem_cons.mpr ⟨t_9 (i := 111) (by decide +kernel), List.forall_mem_cons.mpr ⟨t_6 (i := 70) (by decide +kernel), List.forall_mem_cons.mpr ⟨t_9 (i := 119) (by decide +kernel), fun _ h => absurd h List.not_mem_nil⟩⟩⟩⟩⟩⟩⟩⟩⟩⟩⟩⟩⟩⟩⟩⟩⟩⟩⟩⟩⟩⟩⟩⟩⟩⟩⟩⟩⟩⟩⟩⟩⟩⟩⟩⟩⟩⟩⟩⟩⟩⟩⟩⟩⟩⟩⟩⟩⟩⟩⟩⟩⟩⟩⟩⟩⟩⟩⟩⟩⟩⟩⟩⟩⟩⟩⟩⟩⟩⟩⟩⟩⟩⟩⟩⟩⟩⟩⟩⟩⟩⟩⟩⟩⟩⟩⟩⟩⟩⟩⟩⟩⟩⟩⟩⟩⟩⟩⟩⟩⟩⟩⟩⟩⟩⟩⟩⟩⟩⟩⟩⟩⟩⟩
set_option maxRecDepth 20000 in
theorem w_c11 : ∀ w ∈ wC 11, w ∈ lw_tbl := List.forall_mem_cons.mpr ⟨t_1 (i := 20) (by decide +kernel), List.forall_mem_cons.mpr ⟨t_6 (i := 74) (by decide +kernel), fun _ h => absurd h List.not_mem_nil⟩⟩
theorem w_k11 : ∀ w ∈ wK 11, w ∈ lw_tbl := fun _ h => absurd h List.not_mem_nil
set_option maxRecDepth 20000 in
theorem w_l11 : ∀ w ∈ wLg 11, w ∈ lw_tbl := List.forall_mem_cons.mpr ⟨t_9 (i := 123) (by decide +kernel), fun _ h => absurd h List.not_mem_nil⟩
theorem w_f12 : ∀ w ∈ wF 12, w ∈ lw_tbl := fun _ h => absurd h List.not_mem_nil
theorem w_m12 : ∀ w ∈ wMt 12, w ∈ lw_tbl := fun _ h => absurd h List.not_mem_nil
theorem w_c12 : ∀ w ∈ wC 12, w ∈ lw_tbl := fun _ h => absurd h List.not_mem_nil
set_option maxRecDepth 20000 in
theorem w_k12 : ∀ w ∈ wK 12, w ∈ lw_tbl := List.forall_mem_cons.mpr ⟨t_5 (i := 32) (by decide +kernel), List.forall_mem_cons.mpr ⟨t_5 (i := 33) (by decide +kernel), List.forall_mem_cons.mpr ⟨t_5 (i := 34) (by decide +kernel), fun _ h => absurd h List.not_mem_nil⟩⟩⟩
theorem w_l12 : ∀ w ∈ wLg 12, w ∈ lw_tbl := fun _ h => absurd h List.not_mem_nil
theorem w_f13 : ∀ w ∈ wF 13, w ∈ lw_tbl := fun _ h => absurd h List.not_mem_nil
theorem w_m13 : ∀ w ∈ wMt 13, w ∈ lw_tbl := fun _ h => absurd h List.not_mem_nil
theorem w_c13 : ∀ w ∈ wC 13, w ∈ lw_tbl := fun _ h => absurd h List.not_mem_nil
theorem w_k13 : ∀ w ∈ wK 13, w ∈ lw_tbl := fun _ h => absurd h List.not_mem_nil
theorem w_l13 : ∀ w ∈ wLg 13, w ∈ lw_tbl := fun _ h => absurd h List.not_mem_nil
set_option maxRecDepth 20000 in
theorem w_cl0 : ∀ w ∈ wCls 0, w ∈ lw_tbl := List.forall_mem_cons.mpr ⟨t_2 (i := 100) (by decide +kernel), List.forall_mem_cons.mpr ⟨t_2 (i := 102) (by decide +kernel), List.forall_mem_cons.mpr ⟨t_2 (i := 104) (by decide +kernel), List.forall_mem_cons.mpr ⟨t_2 (i := 106) (by decide +kernel), List.forall_mem_cons.mpr ⟨t_2 (i := 91) (by decide +kernel), fun _ h => absurd h List.not_mem_nil⟩⟩⟩⟩⟩
set_option maxRecDepth 20000 in
theorem w_cl1 : ∀ w ∈ wCls 1, w ∈ lw_tbl := List.forall_mem_cons.mpr ⟨t_2 (i := 81) (by decide +kernel), List.forall_mem_cons.mpr ⟨t_2 (i := 83) (by decide +kernel), List.forall_mem_cons.mpr ⟨t_2 (i := 85) (by decide +kernel), List.forall_mem_cons.mpr ⟨t_2 (i := 87) (by decide +kernel), List.forall_mem_cons.mpr ⟨t_2 (i := 71) (by decide +kernel), fun _ h => absurd h List.not_mem_nil⟩⟩⟩⟩⟩
set_option maxRecDepth 20000 in
theorem w_cl2 : ∀ w ∈ wCls 2, w ∈ lw_tbl := List.forall_mem_cons.mpr ⟨t_2 (i := 125) (by decide +kernel), List.forall_mem_cons.mpr ⟨t_2 (i := 127) (by decide +kernel), List.forall_mem_cons.mpr ⟨t_2 (i := 129) (by decide +kernel), List.forall_mem_cons.mpr ⟨t_2 (i := 131) (by decide +kernel), List.forall_mem_cons.mpr ⟨t_2 (i := 133) (by decide +kernel), List.forall_mem_cons.mpr ⟨t_2 (i := 135) (by decide +kernel), List.forall_mem_cons.mpr ⟨t_2 (i := 137) (by decide +kernel), List.forall_mem_cons.mpr ⟨t_2 (i := 110) (by decide +kernel), fun _ h => absurd h List.not_mem_nil⟩⟩⟩⟩⟩⟩⟩⟩
set_option maxRecDepth 20000 in
theorem w_cl3 : ∀ w ∈ wCls 3, w ∈ lw_tbl := List.forall_mem_cons.mpr ⟨t_2 (i := 14) (by decide +kernel), List.forall_mem_cons.mpr ⟨t_2 (i := 16) (by decide +kernel), List.forall_mem_cons.mpr ⟨t_2 (i := 18) (by decide +kernel), List.forall_mem_cons.mpr ⟨t_2 (i := 20) (by decide +kernel), List.forall_mem_cons.mpr ⟨t_2 (i := 22) (by decide +kernel), List.forall_mem_cons.mpr ⟨t_2 (i := 24) (by decide +kernel), List.forall_mem_cons.mpr ⟨t_2 (i := 26) (by decide +kernel), List.forall_mem_cons.mpr ⟨t_2 (i := 28) (by decide +kernel), List.forall_mem_cons.mpr ⟨t_2 (i := 30) (by decide +kernel), List.forall_mem_cons.mpr ⟨t_1 (i := 218) (by decide +kernel), fun _ h => absurd h List.not_mem_nil⟩⟩⟩⟩⟩⟩⟩⟩⟩⟩
set_option maxRecDepth 20000 in
theorem w_cl4 : ∀ w ∈ wCls 4, w ∈ lw_tbl := List.forall_mem_cons.mpr ⟨t_2 (i := 57) (by decide +kernel), List.forall_mem_cons.mpr ⟨t_2 (i := 59) (by decide +kernel), List.forall_mem_cons.mpr ⟨t_2 (i := 61) (by decide +kernel), List.forall_mem_cons.mpr ⟨t_2 (i := 63) (by decide +kernel), List.forall_mem_cons.mpr ⟨t_2 (i := 65) (by decide +kernel), List.forall_mem_cons.mpr ⟨t_2 (i := 47) (by decide +kernel), fun _ h => absurd h List.not_mem_nil⟩⟩⟩⟩⟩⟩
set_option maxRecDepth 20000 in
theorem w_cl5 : ∀ w ∈ wCls 5, w ∈ lw_tbl := List.forall_mem_cons.mpr ⟨t_1 (i := 75) (by decide +kernel), List.forall_mem_cons.mpr ⟨t_1 (i := 77) (by decide +kernel), List.forall_mem_cons.mpr ⟨t_1 (i := 79) (by decide +kernel), List.forall_mem_cons.mpr ⟨t_1 (i := 81) (by decide +kernel), List.forall_mem_cons.mpr ⟨t_1 (i := 83) (by decide +kernel), List.forall_mem_cons.mpr ⟨t_1 (i := 85) (by decide +kernel), List.forall_mem_cons.mpr ⟨t_1 (i := 87) (by decide +kernel), List.forall_mem_cons.mpr ⟨t_1 (i := 89) (by decide +kernel), List.forall_mem_cons.mpr ⟨t_1 (i := 91) (by decide +kernel), List.forall_mem_cons.mpr ⟨t_1 (i := 93) (by decide +kernel), List.forall_mem_cons.mpr ⟨t_1 (i := 95) (by decide +kernel), List.forall_mem_cons.mpr ⟨t_1 (i := 97) (by decide +kernel), List.forall_mem_cons.mpr ⟨t_1 (i := 99) (by decide +kernel), List.forall_mem_cons.mpr ⟨t_1 (i := 101) (by decide +kernel), List.forall_mem_cons.mpr ⟨t_1 (i := 49) (by decide +kernel), fun _ h => absurd h List.not_mem_nil⟩⟩⟩⟩⟩⟩⟩⟩⟩⟩⟩⟩⟩⟩⟩
set_option maxRecDepth 20000 in
theorem w_cl6 : ∀ w ∈ wCls 6, w ∈ lw_tbl := List.forall_mem_cons.mpr ⟨t_1 (i := 40) (by decide +kernel), List.forall_mem_cons.mpr ⟨t_1 (i := 42) (by decide +kernel), List.forall_mem_cons.mpr ⟨t_1 (i := 44) (by decide +kernel), List.forall_mem_cons.mpr ⟨t_1 (i := 30) (by decide +kernel), fun _ h => absurd h List.not_mem_nil⟩⟩⟩⟩
set_option maxRecDepth 20000 in
theorem w_cl7 : ∀ w ∈ wCls 7, w ∈ lw_tbl := List.forall_mem_cons.mpr ⟨t_1 (i := 176) (by decide +kernel), List.forall_mem_cons.mpr ⟨t_1 (i := 178) (by decide +kernel), List.forall_mem_cons.mpr ⟨t_1 (i := 180) (by decide +kernel), List.forall_mem_cons.mpr ⟨t_1 (i := 182) (by decide +kernel), List.forall_mem_cons.mpr ⟨t_1 (i := 184) (by decide +kernel), List.forall_mem_cons.mpr ⟨t_1 (i := 186) (by decide +kernel), List.forall_mem_cons.mpr ⟨t_1 (i := 188) (by decide +kernel), List.forall_mem_cons.mpr ⟨t_1 (i := 190) (by decide +kernel), List.forall_mem_cons.mpr ⟨t_1 (i := 192) (by decide +kernel), List.forall_mem_cons.mpr ⟨t_1 (i := 194) (by decide +kernel), List.forall_mem_cons.mpr ⟨t_1 (i := 196) (by decide +kernel), List.forall_mem_cons.mpr ⟨t_1 (i := 198) (by decide +kernel), List.forall_mem_cons.mpr ⟨t_1 (i := 200) (by decide +kernel), List.forall_mem_cons.mpr ⟨t_1 (i := 202) (by decide +kernel), List.forall_mem_cons.mpr ⟨t_1 (i := 204) (by decide +kernel), List.forall_mem_cons.mpr ⟨t_1 (i := 206) (by decide +kernel), List.forall_mem_cons.mpr ⟨t_1 (i := 208) (by decide +kernel), List.forall_mem_cons.mpr ⟨t_1 (i := 210) (by decide +kernel), List.forall_mem_cons.mpr ⟨t_1 (i := 212) (by decide +kernel), List.forall_mem_cons.mpr ⟨t_1 (i := 214) (by decide +kernel), List.forall_mem_cons.mpr ⟨t_1 (i := 107) (by decide +kernel), fun _ h => absurd h List.not_mem_nil⟩⟩⟩⟩⟩⟩⟩⟩⟩⟩⟩⟩⟩⟩⟩⟩⟩⟩⟩⟩⟩
set_option maxRecDepth 20000 in
theorem w_cl8 : ∀ w ∈ wCls 8, w ∈ lw_tbl := List.forall_mem_cons.mpr ⟨t_2 (i := 41) (by decide +kernel), List.forall_mem_cons.mpr ⟨t_2 (i := 43) (by decide +kernel), List.forall_mem_cons.mpr ⟨t_2 (i := 34) (by decide +kernel), fun _ h => absurd h List.not_mem_nil⟩⟩⟩
set_option maxRecDepth 20000 in
theorem w_cl9 : ∀ w ∈ wCls 9, w ∈ lw_tbl := List.forall_mem_cons.mpr ⟨t_2 (i := 159) (by decide +kernel), List.forall_mem_cons.mpr ⟨t_2 (i := 161) (by decide +kernel), List.forall_mem_cons.mpr ⟨t_2 (i := 163) (by decide +kernel), List.forall_mem_cons.mpr ⟨t_2 (i := 165) (by decide +kernel), List.forall_mem_cons.mpr ⟨t_2 (i := 167) (by decide +kernel), List.forall_mem_cons.mpr ⟨t_2 (i := 169) (by decide +kernel), List.forall_mem_cons.mpr ⟨t_2 (i := 171) (by decide +kernel), List.forall_mem_cons.mpr ⟨t_2 (i := 173) (by decide +kernel), List.forall_mem_cons.mpr ⟨t_2 (i := 175) (by decide +kernel), List.forall_mem_cons.mpr ⟨t_2 (i := 177) (by decide +kernel), List.forall_mem_cons.mpr ⟨t_2 (i := 179) (by decide +kernel), List.forall_mem_cons.mpr ⟨t_2 (i := 181) (by decide +kernel), List.forall_mem_cons.mpr ⟨t_2 (i := 183) (by decide +kernel), List.forall_mem_cons.mpr ⟨t_2 (i := 185) (by decide +kernel), List.forall_mem_cons.mpr ⟨t_2 (i := 187) (by decide +kernel), List.forall_mem_cons.mpr ⟨t_2 (i := 189) (by decide +kernel), List.forall_mem_cons.mpr ⟨t_2 (i := 191) (by decide +kernel), List.forall_mem_cons.mpr ⟨t_2 (i := 193) (by decide +kernel), List.forall_mem_cons.mpr ⟨t_2 (i := 195) (by decide +kernel), List.forall_mem_cons.mpr ⟨t_1 (i := 21) (by decide +kernel), fun _ h => absurd h List.not_mem_nil⟩⟩⟩⟩⟩⟩⟩⟩⟩⟩⟩⟩⟩⟩⟩⟩⟩⟩⟩⟩
set_option maxRecDepth 20000 in
theorem w_cl10 : ∀ w ∈ wCls 10, w ∈ lw_tbl := List.forall_mem_cons.mpr ⟨t_6 (i := 123) (by decide +kernel), List.forall_mem_cons.mpr ⟨t_6 (i := 125) (by decide +kernel), List.forall_mem_cons.mpr ⟨t_6 (i := 127) (by decide +kernel), List.forall_mem_cons.mpr ⟨t_6 (i := 129) (by decide +kernel), List.forall_mem_cons.mpr ⟨t_6 (i := 131) (by decide +kernel), List.forall_mem_cons.mpr ⟨t_6 (i := 133) (by decide +kernel), List.forall_mem_cons.mpr ⟨t_6 (i := 135) (by decide +kernel), List.forall_mem_cons.mpr ⟨t_6 (i := 137) (by decide +kernel), List.forall_mem_cons.mpr ⟨t_6 (i := 139) (by decide +kernel), List.forall_mem_cons.mpr ⟨t_6 (i := 141) (by decide +kernel), List.forall_mem_cons.mpr ⟨t_6 (i := 143) (by decide +kernel), List.forall_mem_cons.mpr ⟨t_6 (i := 145) (by decide +kernel), List.forall_mem_cons.mpr ⟨t_6 (i := 147) (by decide +kernel), List.forall_mem_cons.mpr ⟨t_6 (i := 149) (by decide +kernel), List.forall_mem_cons.mpr ⟨t_6 (i := 151) (by decide +kernel), List.forall_mem_cons.mpr ⟨t_6 (i := 153) (by decide +kernel), List.forall_mem_cons.mpr ⟨t_6 (i := 155) (by decide +kernel), List.forall_mem_cons.mpr ⟨t_6 (i := 157) (by decide +kernel), List.forall_mem_cons.mpr ⟨t_6 (i := 159) (by decide +kernel), List.forall_mem_cons.mpr ⟨t_6 (i := 161) (by decide +kernel), List.forall_mem_cons.mpr ⟨t_6 (i := 163) (by decide +kernel), List.forall_mem_cons.mpr ⟨t_6 (i := 165) (by decide +kernel), List.forall_mem_cons.mpr ⟨t_6 (i := 167) (by decide +kernel), List.forall_mem_cons.mpr ⟨t_6 (i := 169) (by decide +kernel), List.forall_mem_cons.mpr ⟨t_6 (i := 171) (by decide +kernel), List.forall_mem_cons.mpr ⟨t_6 (i := 173) (by decide +kernel), List.forall_mem_cons.mpr ⟨t_6 (i := 175) (by decide +kernel), List.forall_mem_cons.mpr ⟨t_6 (i := 177) (by decide +kernel), List.forall_mem_cons.mpr ⟨t_6 (i := 179) (by decide +kernel), List.forall_mem_cons.mpr ⟨t_6 (i := 181) (by decide +kernel), List.forall_mem_cons.mpr ⟨t_6 (i := 183) (by decide +kernel), List.forall_mem_cons.mpr ⟨t_6 (i := 185) (by decide +kernel), List.forall_mem_cons.mpr ⟨t_6 (i := 187) (by decide +kernel), List.forall_mem_cons.mpr ⟨t_6 (i := 189) (by decide +kernel), List.forall_mem_cons.mpr ⟨t_6 (i := 191) (by decide +kernel), List.forall_mem_cons.mpr ⟨t_6 (i := 193) (by decide +kernel), List.forall_mem_cons.mpr ⟨t_6 (i := 195) (by decide +kernel), List.forall_mem_cons.mpr ⟨t_6 (i := 197) (by decide +kernel), List.forall_mem_cons.mpr ⟨t_6 (i := 199) (by decide +kernel), List.forall_mem_cons.mpr ⟨t_6 (i := 75) (by decide +kernel), fun _ h => absurd h List.not_mem_nil⟩⟩⟩⟩⟩⟩⟩⟩⟩⟩⟩⟩⟩⟩⟩⟩⟩⟩⟩⟩⟩⟩⟩⟩⟩⟩⟩⟩⟩⟩⟩⟩⟩⟩⟩⟩⟩⟩⟩⟩
set_option maxRecDepth 20000 in
theorem w_y0 : ∀ w ∈ wY 0, w ∈ lw_tbl := List.forall_mem_cons.mpr ⟨t_1 (i := 33) (by decide +kernel), List.forall_mem_cons.mpr ⟨t_1 (i := 32) (by decide +kernel), fun _ h => absurd h List.not_mem_nil⟩⟩
set_option maxRecDepth 20000 in
theorem w_y1 : ∀ w ∈ wY 1, w ∈ lw_tbl := List.forall_mem_cons.mpr ⟨t_3 (i := 8) (by decide +kernel), List.forall_mem_cons.mpr ⟨t_3 (i := 6) (by decide +kernel), List.forall_mem_cons.mpr ⟨t_3 (i := 7) (by decide +kernel), fun _ h => absurd h List.not_mem_nil⟩⟩⟩
set_option maxRecDepth 20000 in
theorem w_y2 : ∀ w ∈ wY 2, w ∈ lw_tbl := List.forall_mem_cons.mpr ⟨t_3 (i := 12) (by decide +kernel), List.forall_mem_cons.mpr ⟨t_3 (i := 10) (by decide +kernel), List.forall_mem_cons.mpr ⟨t_3 (i := 11) (by decide +kernel), fun _ h => absurd h List.not_mem_nil⟩⟩⟩
set_option maxRecDepth 20000 in
theorem w_y3 : ∀ w ∈ wY 3, w ∈ lw_tbl := List.forall_mem_cons.mpr ⟨t_3 (i := 37) (by decide +kernel), List.forall_mem_cons.mpr ⟨t_3 (i := 35) (by decide +kernel), List.forall_mem_cons.mpr ⟨t_3 (i := 36) (by decide +kernel), fun _ h => absurd h List.not_mem_nil⟩⟩⟩
set_option maxRecDepth 20000 in
theorem w_y4 : ∀ w ∈ wY 4, w ∈ lw_tbl := List.forall_mem_cons.mpr ⟨t_2 (i := 229) (by decide +kernel), List.forall_mem_cons.mpr ⟨t_2 (i := 227) (by decide +kernel), List.forall_mem_cons.mpr ⟨t_2 (i := 228) (by decide +kernel), fun _ h => absurd h List.not_mem_nil⟩⟩⟩
set_option maxRecDepth 20000 in
theorem w_y5 : ∀ w ∈ wY 5, w ∈ lw_tbl := List.forall_mem_cons.mpr ⟨t_3 (i := 16) (by decide +kernel), List.forall_mem_cons.mpr ⟨t_3 (i := 14) (by decide +kernel), List.forall_mem_cons.mpr ⟨t_3 (i := 15) (by decide +kernel), fun _ h => absurd h List.not_mem_nil⟩⟩⟩
set_option maxRecDepth 20000 in
theorem w_y6 : ∀ w ∈ wY 6, w ∈ lw_tbl := List.forall_mem_cons.mpr ⟨t_3 (i := 21) (by decide +kernel), List.forall_mem_cons.mpr ⟨t_3 (i := 20) (by decide +kernel), List.forall_mem_cons.mpr ⟨t_0 (i := 3) (by decide +kernel), fun _ h => absurd h List.not_mem_nil⟩⟩⟩
set_option maxRecDepth 20000 in
theorem w_y7 : ∀ w ∈ wY 7, w ∈ lw_tbl := List.forall_mem_cons.mpr ⟨t_1 (i := 110) (by decide +kernel), List.forall_mem_cons.mpr ⟨t_1 (i := 109) (by decide +kernel), fun _ h => absurd h List.not_mem_nil⟩⟩
set_option maxRecDepth 20000 in
theorem w_y8 : ∀ w ∈ wY 8, w ∈ lw_tbl := List.forall_mem_cons.mpr ⟨t_1 (i := 115) (by decide +kernel), List.forall_mem_cons.mpr ⟨t_1 (i := 113) (by decide +kernel), List.forall_mem_cons.mpr ⟨t_1 (i := 114) (by decide +kernel), fun _ h => absurd h List.not_mem_nil⟩⟩⟩
set_option maxRecDepth 20000 in
theorem w_y9 : ∀ w ∈ wY 9, w ∈ lw_tbl := List.forall_mem_cons.mpr ⟨t_5 (i := 153) (by decide +kernel), List.forall_mem_cons.mpr ⟨t_5 (i := 151) (by decide +kernel), List.forall_mem_cons.mpr ⟨t_5 (i := 152) (by decide +kernel), fun _ h => absurd h List.not_mem_nil⟩⟩⟩
set_option maxRecDepth 20000 in
theorem w_y10 : ∀ w ∈ wY 10, w ∈ lw_tbl := List.forall_mem_cons.mpr ⟨t_3 (i := 184) (by decide +kernel), List.forall_mem_cons.mpr ⟨t_3 (i := 182) (by decide +kernel), List.forall_mem_cons.mpr ⟨t_3 (i := 183) (by decide +kernel), fun _ h => absurd h List.not_mem_nil⟩⟩⟩
set_option maxRecDepth 20000 in
theorem w_y11 : ∀ w ∈ wY 11, w ∈ lw_tbl := List.forall_mem_cons.mpr ⟨t_3 (i := 200) (by decide +kernel), List.forall_mem_cons.mpr ⟨t_3 (i := 198) (by decide +kernel), List.forall_mem_cons.mpr ⟨t_3 (i := 199) (by decide +kernel), fun _ h => absurd h List.not_mem_nil⟩⟩⟩
set_option maxRecDepth 20000 in
theorem w_y12 : ∀ w ∈ wY 12, w ∈ lw_tbl := List.forall_mem_cons.mpr ⟨t_3 (i := 208) (by decide +kernel), List.forall_mem_cons.mpr ⟨t_3 (i := 206) (by decide +kernel), List.forall_mem_cons.mpr ⟨t_3 (i := 207) (by decide +kernel), fun _ h => absurd h List.not_mem_nil⟩⟩⟩
set_option maxRecDepth 20000 in
theorem w_y13 : ∀ w ∈ wY 13, w ∈ lw_tbl := List.forall_mem_cons.mpr ⟨t_4 (i := 47) (by decide +kernel), List.forall_mem_cons.mpr ⟨t_4 (i := 45) (by decide +kernel), List.forall_mem_cons.mpr ⟨t_4 (i := 46) (by decide +kernel), fun _ h => absurd h List.not_mem_nil⟩⟩⟩
set_option maxRecDepth 20000 in
theorem w_y14 : ∀ w ∈ wY 14, w ∈ lw_tbl := List.forall_mem_cons.mpr ⟨t_4 (i := 71) (by decide +kernel), List.forall_mem_cons.mpr ⟨t_4 (i := 69) (by decide +kernel), List.forall_mem_cons.mpr ⟨t_4 (i := 70) (by decide +kernel), fun _ h => absurd h List.not_mem_nil⟩⟩⟩
set_option maxRecDepth 20000 in
theorem w_y15 : ∀ w ∈ wY 15, w ∈ lw_tbl := List.forall_mem_cons.mpr ⟨t_4 (i := 111) (by decide +kernel), List.forall_mem_cons.mpr ⟨t_4 (i := 109) (by decide +kernel), List.forall_mem_cons.mpr ⟨t_4 (i := 110) (by decide +kernel), fun _ h => absurd h List.not_mem_nil⟩⟩⟩
set_option maxRecDepth 20000 in
theorem w_y16 : ∀ w ∈ wY 16, w ∈ lw_tbl := List.forall_mem_cons.mpr ⟨t_3 (i := 196) (by decide +kernel), List.forall_mem_cons.mpr ⟨t_3 (i := 194) (by decide +kernel), List.forall_mem_cons.mpr ⟨t_3 (i := 195) (by decide +kernel), fun _ h => absurd h List.not_mem_nil⟩⟩⟩
set_option maxRecDepth 20000 in
theorem w_y17 : ∀ w ∈ wY 17, w ∈ lw_tbl := List.forall_mem_cons.mpr ⟨t_4 (i := 31) (by decide +kernel), List.forall_mem_cons.mpr ⟨t_4 (i := 29) (by decide +kernel), List.forall_mem_cons.mpr ⟨t_4 (i := 30) (by decide +kernel), fun _ h => absurd h List.not_mem_nil⟩⟩⟩
set_option maxRecDepth 20000 in
theorem w_y18 : ∀ w ∈ wY 18, w ∈ lw_tbl := List.forall_mem_cons.mpr ⟨t_4 (i := 27) (by decide +kernel), List.forall_mem_cons.mpr ⟨t_4 (i := 25) (by decide +kernel), List.forall_mem_cons.mpr ⟨t_4 (i := 26) (by decide +kernel), fun _ h => absurd h List.not_mem_nil⟩⟩⟩
set_option maxRecDepth 20000 in
theorem w_y19 : ∀ w ∈ wY 19, w ∈ lw_tbl := List.forall_mem_cons.mpr ⟨t_4 (i := 35) (by decide +kernel), List.forall_mem_cons.mpr ⟨t_4 (i := 33) (by decide +kernel), List.forall_mem_cons.mpr ⟨t_4 (i := 34) (by decide +kernel), fun _ h => absurd h List.not_mem_nil⟩⟩⟩
set_option maxRecDepth 20000 in
theorem w_y20 : ∀ w ∈ wY 20, w ∈ lw_tbl := List.forall_mem_cons.mpr ⟨t_6 (i := 5) (by decide +kernel), List.forall_mem_cons.mpr ⟨t_6 (i := 3) (by decide +kernel), List.forall_mem_cons.mpr ⟨t_6 (i := 4) (by decide +kernel), fun _ h => absurd h List.not_mem_nil⟩⟩⟩
set_option maxRecDepth 20000 in
theorem w_y21 : ∀ w ∈ wY 21, w ∈ lw_tbl := List.forall_mem_cons.mpr ⟨t_6 (i := 60) (by decide +kernel), List.forall_mem_cons.mpr ⟨t_6 (i := 58) (by decide +kernel), List.forall_mem_cons.mpr ⟨t_6 (i := 59) (by decide +kernel), fun _ h => absurd h List.not_mem_nil⟩⟩⟩
set_option maxRecDepth 20000 in
theorem w_y22 : ∀ w ∈ wY 22, w ∈ lw_tbl := List.forall_mem_cons.mpr ⟨t_4 (i := 39) (by decide +kernel), List.forall_mem_cons.mpr ⟨t_4 (i := 38) (by decide +kernel), List.forall_mem_cons.mpr ⟨t_0 (i := 21) (by decide +kernel), fun _ h => absurd h List.not_mem_nil⟩⟩⟩
set_option maxRecDepth 20000 in
theorem w_y23 : ∀ w ∈ wY 23, w ∈ lw_tbl := List.forall_mem_cons.mpr ⟨t_4 (i := 63) (by decide +kernel), List.forall_mem_cons.mpr ⟨t_4 (i := 62) (by decide +kernel), List.forall_mem_cons.mpr ⟨t_0 (i := 22) (by decide +kernel), fun _ h => absurd h List.not_mem_nil⟩⟩⟩
set_option maxRecDepth 20000 in
theorem w_y24 : ∀ w ∈ wY 24, w ∈ lw_tbl := List.forall_mem_cons.mpr ⟨t_4 (i := 59) (by decide +kernel), List.forall_mem_cons.mpr ⟨t_4 (i := 57) (by decide +kernel), List.forall_mem_cons.mpr ⟨t_4 (i := 58) (by decide +kernel), fun _ h => absurd h List.not_mem_nil⟩⟩⟩
set_option maxRecDepth 20000 in
theorem w_y25 : ∀ w ∈ wY 25, w ∈ lw_tbl := List.forall_mem_cons.mpr ⟨t_4 (i := 124) (by decide +kernel), List.forall_mem_cons.mpr ⟨t_4 (i := 122) (by decide +kernel), List.forall_mem_cons.mpr ⟨t_4 (i := 123) (by decide +kernel), fun _ h => absurd h List.not_mem_nil⟩⟩⟩
set_option maxRecDepth 20000 in
theorem w_y26 : ∀ w ∈ wY 26, w ∈ lw_tbl := List.forall_mem_cons.mpr ⟨t_4 (i := 55) (by decide +kernel), List.forall_mem_cons.mpr ⟨t_4 (i := 53) (by decide +kernel), List.forall_mem_cons.mpr ⟨t_4 (i := 54) (by decide +kernel), fun _ h => absurd h List.not_mem_nil⟩⟩⟩
set_option maxRecDepth 20000 in
theorem w_y27 : ∀ w ∈ wY 27, w ∈ lw_tbl := List.forall_mem_cons.mpr ⟨t_4 (i := 51) (by decide +kernel), List.forall_mem_cons.mpr ⟨t_4 (i := 49) (by decide +kernel), List.forall_mem_cons.mpr ⟨t_4 (i := 50) (by decide +kernel), fun _ h => absurd h List.not_mem_nil⟩⟩⟩
set_option maxRecDepth 20000 in
theorem w_y28 : ∀ w ∈ wY 28, w ∈ lw_tbl := List.forall_mem_cons.mpr ⟨t_4 (i := 212) (by decide +kernel), List.forall_mem_cons.mpr ⟨t_4 (i := 210) (by decide +kernel), List.forall_mem_cons.mpr ⟨t_4 (i := 211) (by decide +kernel), fun _ h => absurd h List.not_mem_nil⟩⟩⟩
set_option maxRecDepth 20000 in
theorem w_y29 : ∀ w ∈ wY 29, w ∈ lw_tbl := List.forall_mem_cons.mpr ⟨t_4 (i := 87) (by decide +kernel), List.forall_mem_cons.mpr ⟨t_4 (i := 86) (by decide +kernel), List.forall_mem_cons.mpr ⟨t_0 (i := 23) (by decide +kernel), fun _ h => absurd h List.not_mem_nil⟩⟩⟩
set_option maxRecDepth 20000 in
theorem w_y30 : ∀ w ∈ wY 30, w ∈ lw_tbl := List.forall_mem_cons.mpr ⟨t_4 (i := 221) (by decide +kernel), List.forall_mem_cons.mpr ⟨t_4 (i := 219) (by decide +kernel), List.forall_mem_cons.mpr ⟨t_4 (i := 220) (by decide +kernel), fun _ h => absurd h List.not_mem_nil⟩⟩⟩
set_option maxRecDepth 20000 in
theorem w_y31 : ∀ w ∈ wY 31, w ∈ lw_tbl := List.forall_mem_cons.mpr ⟨t_4 (i := 120) (by decide +kernel), List.forall_mem_cons.mpr ⟨t_4 (i := 118) (by decide +kernel), List.forall_mem_cons.mpr ⟨t_4 (i := 119) (by decide +kernel), fun _ h => absurd h List.not_mem_nil⟩⟩⟩
set_option maxRecDepth 20000 in
theorem w_y32 : ∀ w ∈ wY 32, w ∈ lw_tbl := List.forall_mem_cons.mpr ⟨t_5 (i := 130) (by decide +kernel), List.forall_mem_cons.mpr ⟨t_5 (i := 128) (by decide +kernel), List.forall_mem_cons.mpr ⟨t_5 (i := 129) (by decide +kernel), fun _ h => absurd h List.not_mem_nil⟩⟩⟩
set_option maxRecDepth 20000 in
theorem w_y33 : ∀ w ∈ wY 33, w ∈ lw_tbl := List.forall_mem_cons.mpr ⟨t_4 (i := 99) (by decide +kernel), List.forall_mem_cons.mpr ⟨t_4 (i := 97) (by decide +kernel), List.forall_mem_cons.mpr ⟨t_4 (i := 98) (by decide +kernel), fun _ h => absurd h List.not_mem_nil⟩⟩⟩
set_option maxRecDepth 20000 in
theorem w_y34 : ∀ w ∈ wY 34, w ∈ lw_tbl := List.forall_mem_cons.mpr ⟨t_5 (i := 2) (by decide +kernel), List.forall_mem_cons.mpr ⟨t_5 (i := 0) (by decide +kernel), List.forall_mem_cons.mpr ⟨t_5 (i := 1) (by decide +kernel), fun _ h => absurd h List.not_mem_nil⟩⟩⟩
set_option maxRecDepth 20000 in
theorem w_y35 : ∀ w ∈ wY 35, w ∈ lw_tbl := List.forall_mem_cons.mpr ⟨t_5 (i := 14) (by decide +kernel), List.forall_mem_cons.mpr ⟨t_5 (i := 12) (by decide +kernel), List.forall_mem_cons.mpr ⟨t_5 (i := 13) (by decide +kernel), fun _ h => absurd h List.not_mem_nil⟩⟩⟩
set_option maxRecDepth 20000 in
theorem w_y36 : ∀ w ∈ wY 36, w ∈ lw_tbl := List.forall_mem_cons.mpr ⟨t_5 (i := 10) (by decide +kernel), List.forall_mem_cons.mpr ⟨t_5 (i := 8) (by decide +kernel), List.forall_mem_cons.mpr ⟨t_5 (i := 9) (by decide +kernel), fun _ h => absurd h List.not_mem_nil⟩⟩⟩
set_option maxRecDepth 20000 in
theorem w_y37 : ∀ w ∈ wY 37, w ∈ lw_tbl := List.forall_mem_cons.mpr ⟨t_5 (i := 27) (by decide +kernel), List.forall_mem_cons.mpr ⟨t_5 (i := 25) (by decide +kernel), List.forall_mem_cons.mpr ⟨t_5 (i := 26) (by decide +kernel), fun _ h => absurd h List.not_mem_nil⟩⟩⟩
set_option maxRecDepth 20000 in
theorem w_y38 : ∀ w ∈ wY 38, w ∈ lw_tbl := List.forall_mem_cons.mpr ⟨t_4 (i := 161) (by decide +kernel), List.forall_mem_cons.mpr ⟨t_4 (i := 159) (by decide +kernel), List.forall_mem_cons.mpr ⟨t_4 (i := 160) (by decide +kernel), fun _ h => absurd h List.not_mem_nil⟩⟩⟩
set_option maxRecDepth 20000 in
theorem w_y39 : ∀ w ∈ wY 39, w ∈ lw_tbl := List.forall_mem_cons.mpr ⟨t_5 (i := 143) (by decide +kernel), List.forall_mem_cons.mpr ⟨t_5 (i := 141) (by decide +kernel), List.forall_mem_cons.mpr ⟨t_5 (i := 142) (by decide +kernel), fun _ h => absurd h List.not_mem_nil⟩⟩⟩
set_option maxRecDepth 20000 in
theorem w_y40 : ∀ w ∈ wY 40, w ∈ lw_tbl := List.forall_mem_cons.mpr ⟨t_4 (i := 83) (by decide +kernel), List.forall_mem_cons.mpr ⟨t_4 (i := 81) (by decide +kernel), List.forall_mem_cons.mpr ⟨t_4 (i := 82) (by decide +kernel), fun _ h => absurd h List.not_mem_nil⟩⟩⟩
set_option maxRecDepth 20000 in
theorem w_y41 : ∀ w ∈ wY 41, w ∈ lw_tbl := List.forall_mem_cons.mpr ⟨t_4 (i := 116) (by decide +kernel), List.forall_mem_cons.mpr ⟨t_4 (i := 114) (by decide +kernel), List.forall_mem_cons.mpr ⟨t_4 (i := 115) (by decide +kernel), fun _ h => absurd h List.not_mem_nil⟩⟩⟩
set_option maxRecDepth 20000 in
theorem w_y42 : ∀ w ∈ wY 42, w ∈ lw_tbl := List.forall_mem_cons.mpr ⟨t_4 (i := 91) (by decide +kernel), List.forall_mem_cons.mpr ⟨t_4 (i := 90) (by decide +kernel), List.forall_mem_cons.mpr ⟨t_0 (i := 24) (by decide +kernel), fun _ h => absurd h List.not_mem_nil⟩⟩⟩
set_option maxRecDepth 20000 in
theorem w_y43 : ∀ w ∈ wY 43, w ∈ lw_tbl := List.forall_mem_cons.mpr ⟨t_4 (i := 95) (by decide +kernel), List.forall_mem_cons.mpr ⟨t_4 (i := 94) (by decide +kernel), List.forall_mem_cons.mpr ⟨t_0 (i := 25) (by decide +kernel), fun _ h => absurd h List.not_mem_nil⟩⟩⟩
set_option maxRecDepth 20000 in
theorem w_y44 : ∀ w ∈ wY 44, w ∈ lw_tbl := List.forall_mem_cons.mpr ⟨t_4 (i := 140) (by decide +kernel), List.forall_mem_cons.mpr ⟨t_4 (i := 138) (by decide +kernel), List.forall_mem_cons.mpr ⟨t_4 (i := 139) (by decide +kernel), fun _ h => absurd h List.not_mem_nil⟩⟩⟩
set_option maxRecDepth 20000 in
theorem w_y45 : ∀ w ∈ wY 45, w ∈ lw_tbl := List.forall_mem_cons.mpr ⟨t_4 (i := 136) (by decide +kernel), List.forall_mem_cons.mpr ⟨t_4 (i := 134) (by decide +kernel), List.forall_mem_cons.mpr ⟨t_4 (i := 135) (by decide +kernel), fun _ h => absurd h List.not_mem_nil⟩⟩⟩
set_option maxRecDepth 20000 in
theorem w_y46 : ∀ w ∈ wY 46, w ∈ lw_tbl := List.forall_mem_cons.mpr ⟨t_4 (i := 148) (by decide +kernel), List.forall_mem_cons.mpr ⟨t_4 (i := 146) (by decide +kernel), List.forall_mem_cons.mpr ⟨t_4 (i := 147) (by decide +kernel), fun _ h => absurd h List.not_mem_nil⟩⟩⟩
set_option maxRecDepth 20000 in
theorem w_y47 : ∀ w ∈ wY 47, w ∈ lw_tbl := List.forall_mem_cons.mpr ⟨t_6 (i := 26) (by decide +kernel), List.forall_mem_cons.mpr ⟨t_6 (i := 24) (by decide +kernel), List.forall_mem_cons.mpr ⟨t_6 (i := 25) (by decide +kernel), fun _ h => absurd h List.not_mem_nil⟩⟩⟩
set_option maxRecDepth 20000 in
theorem w_y48 : ∀ w ∈ wY 48, w ∈ lw_tbl := List.forall_mem_cons.mpr ⟨t_4 (i := 157) (by decide +kernel), List.forall_mem_cons.mpr ⟨t_4 (i := 155) (by decide +kernel), List.forall_mem_cons.mpr ⟨t_4 (i := 156) (by decide +kernel), fun _ h => absurd h List.not_mem_nil⟩⟩⟩
set_option maxRecDepth 20000 in
theorem w_y49 : ∀ w ∈ wY 49, w ∈ lw_tbl := List.forall_mem_cons.mpr ⟨t_5 (i := 104) (by decide +kernel), List.forall_mem_cons.mpr ⟨t_5 (i := 102) (by decide +kernel), List.forall_mem_cons.mpr ⟨t_5 (i := 103) (by decide +kernel), fun _ h => absurd h List.not_mem_nil⟩⟩⟩
set_option maxRecDepth 20000 in
theorem w_y50 : ∀ w ∈ wY 50, w ∈ lw_tbl := List.forall_mem_cons.mpr ⟨t_5 (i := 108) (by decide +kernel), List.forall_mem_cons.mpr ⟨t_5 (i := 107) (by decide +kernel), List.forall_mem_cons.mpr ⟨t_0 (i := 33) (by decide +kernel), fun _ h => absurd h List.not_mem_nil⟩⟩⟩
set_option maxRecDepth 20000 in
theorem w_y51 : ∀ w ∈ wY 51, w ∈ lw_tbl := List.forall_mem_cons.mpr ⟨t_5 (i := 100) (by decide +kernel), List.forall_mem_cons.mpr ⟨t_5 (i := 98) (by decide +kernel), List.forall_mem_cons.mpr ⟨t_5 (i := 99) (by decide +kernel), fun _ h => absurd h List.not_mem_nil⟩⟩⟩
set_option maxRecDepth 20000 in
theorem w_y52 : ∀ w ∈ wY 52, w ∈ lw_tbl := List.forall_mem_cons.mpr ⟨t_5 (i := 196) (by decide +kernel), List.forall_mem_cons.mpr ⟨t_5 (i := 194) (by decide +kernel), List.forall_mem_cons.mpr ⟨t_5 (i := 195) (by decide +kernel), fun _ h => absurd h List.not_mem_nil⟩⟩⟩
set_option maxRecDepth 20000 in
theorem w_y53 : ∀ w ∈ wY 53, w ∈ lw_tbl := List.forall_mem_cons.mpr ⟨t_5 (i := 200) (by decide +kernel), List.forall_mem_cons.mpr ⟨t_5 (i := 198) (by decide +kernel), List.forall_mem_cons.mpr ⟨t_5 (i := 199) (by decide +kernel), fun _ h => absurd h List.not_mem_nil⟩⟩⟩
set_option maxRecDepth 20000 in
theorem w_y54 : ∀ w ∈ wY 54, w ∈ lw_tbl := List.forall_mem_cons.mpr ⟨t_5 (i := 208) (by decide +kernel), List.forall_mem_cons.mpr ⟨t_5 (i := 207) (by decide +kernel), List.forall_mem_cons.mpr ⟨t_0 (i := 40) (by decide +kernel), fun _ h => absurd h List.not_mem_nil⟩⟩⟩
set_option maxRecDepth 20000 in
theorem w_y55 : ∀ w ∈ wY 55, w ∈ lw_tbl := List.forall_mem_cons.mpr ⟨t_5 (i := 204) (by decide +kernel), List.forall_mem_cons.mpr ⟨t_5 (i := 203) (by decide +kernel), List.forall_mem_cons.mpr ⟨t_0 (i := 39) (by decide +kernel), fun _ h => absurd h List.not_mem_nil⟩⟩⟩
set_option maxRecDepth 20000 in
theorem w_y56 : ∀ w ∈ wY 56, w ∈ lw_tbl := List.forall_mem_cons.mpr ⟨t_1 (i := 52) (by decide +kernel), List.forall_mem_cons.mpr ⟨t_1 (i := 51) (by decide +kernel), fun _ h => absurd h List.not_mem_nil⟩⟩
set_option maxRecDepth 20000 in
theorem w_y57 : ∀ w ∈ wY 57, w ∈ lw_tbl := List.forall_mem_cons.mpr ⟨t_3 (i := 48) (by decide +kernel), List.forall_mem_cons.mpr ⟨t_3 (i := 46) (by decide +kernel), List.forall_mem_cons.mpr ⟨t_3 (i := 47) (by decide +kernel), fun _ h => absurd h List.not_mem_nil⟩⟩⟩
set_option maxRecDepth 20000 in
theorem w_y58 : ∀ w ∈ wY 58, w ∈ lw_tbl := List.forall_mem_cons.mpr ⟨t_3 (i := 52) (by decide +kernel), List.forall_mem_cons.mpr ⟨t_3 (i := 50) (by decide +kernel), List.forall_mem_cons.mpr ⟨t_3 (i := 51) (by decide +kernel), fun _ h => absurd h List.not_mem_nil⟩⟩⟩
set_option maxRecDepth 20000 in
theorem w_y59 : ∀ w ∈ wY 59, w ∈ lw_tbl := List.forall_mem_cons.mpr ⟨t_3 (i := 60) (by decide +kernel), List.forall_mem_cons.mpr ⟨t_3 (i := 58) (by decide +kernel), List.forall_mem_cons.mpr ⟨t_3 (i := 59) (by decide +kernel), fun _ h => absurd h List.not_mem_nil⟩⟩⟩
set_option maxRecDepth 20000 in
theorem w_y60 : ∀ w ∈ wY 60, w ∈ lw_tbl := List.forall_mem_cons.mpr ⟨t_3 (i := 72) (by decide +kernel), List.forall_mem_cons.mpr ⟨t_3 (i := 70) (by decide +kernel), List.forall_mem_cons.mpr ⟨t_3 (i := 71) (by decide +kernel), fun _ h => absurd h List.not_mem_nil⟩⟩⟩
set_option maxRecDepth 20000 in
theorem w_y61 : ∀ w ∈ wY 61, w ∈ lw_tbl := List.forall_mem_cons.mpr ⟨t_3 (i := 76) (by decide +kernel), List.forall_mem_cons.mpr ⟨t_3 (i := 75) (by decide +kernel), List.forall_mem_cons.mpr ⟨t_0 (i := 5) (by decide +kernel), fun _ h => absurd h List.not_mem_nil⟩⟩⟩
set_option maxRecDepth 20000 in
theorem w_y62 : ∀ w ∈ wY 62, w ∈ lw_tbl := List.forall_mem_cons.mpr ⟨t_3 (i := 83) (by decide +kernel), List.forall_mem_cons.mpr ⟨t_3 (i := 82) (by decide +kernel), List.forall_mem_cons.mpr ⟨t_0 (i := 6) (by decide +kernel), fun _ h => absurd h List.not_mem_nil⟩⟩⟩
set_option maxRecDepth 20000 in
theorem w_y63 : ∀ w ∈ wY 63, w ∈ lw_tbl := List.forall_mem_cons.mpr ⟨t_3 (i := 144) (by decide +kernel), List.forall_mem_cons.mpr ⟨t_3 (i := 143) (by decide +kernel), List.forall_mem_cons.mpr ⟨t_0 (i := 8) (by decide +kernel), fun _ h => absurd h List.not_mem_nil⟩⟩⟩
set_option maxRecDepth 20000 in
theorem w_y64 : ∀ w ∈ wY 64, w ∈ lw_tbl := List.forall_mem_cons.mpr ⟨t_3 (i := 88) (by decide +kernel), List.forall_mem_cons.mpr ⟨t_3 (i := 87) (by decide +kernel), List.forall_mem_cons.mpr ⟨t_0 (i := 7) (by decide +kernel), fun _ h => absurd h List.not_mem_nil⟩⟩⟩
set_option maxRecDepth 20000 in
theorem w_y65 : ∀ w ∈ wY 65, w ∈ lw_tbl := List.forall_mem_cons.mpr ⟨t_3 (i := 79) (by decide +kernel), List.forall_mem_cons.mpr ⟨t_3 (i := 78) (by decide +kernel), fun _ h => absurd h List.not_mem_nil⟩⟩
set_option maxRecDepth 20000 in
theorem w_y66 : ∀ w ∈ wY 66, w ∈ lw_tbl := List.forall_mem_cons.mpr ⟨t_3 (i := 140) (by decide +kernel), List.forall_mem_cons.mpr ⟨t_3 (i := 139) (by decide +kernel), fun _ h => absurd h List.not_mem_nil⟩⟩
set_option maxRecDepth 20000 in
theorem w_y67 : ∀ w ∈ wY 67, w ∈ lw_tbl := List.forall_mem_cons.mpr ⟨t_3 (i := 147) (by decide +kernel), List.forall_mem_cons.mpr ⟨t_3 (i := 146) (by decide +kernel), fun _ h => absurd h List.not_mem_nil⟩⟩
set_option maxRecDepth 20000 in
theorem w_y68 : ∀ w ∈ wY 68, w ∈ lw_tbl := List.forall_mem_cons.mpr ⟨t_3 (i := 151) (by decide +kernel), List.forall_mem_cons.mpr ⟨t_3 (i := 149) (by decide +kernel), List.forall_mem_cons.mpr ⟨t_3 (i := 150) (by decide +kernel), fun _ h => absurd h List.not_mem_nil⟩⟩⟩
set_option maxRecDepth 20000 in
theorem w_y69 : ∀ w ∈ wY 69, w ∈ lw_tbl := List.forall_mem_cons.mpr ⟨t_3 (i := 166) (by decide +kernel), List.forall_mem_cons.mpr ⟨t_3 (i := 164) (by decide +kernel), List.forall_mem_cons.mpr ⟨t_3 (i := 165) (by decide +kernel), fun _ h => absurd h List.not_mem_nil⟩⟩⟩
set_option maxRecDepth 20000 in
theorem w_y70 : ∀ w ∈ wY 70, w ∈ lw_tbl := List.forall_mem_cons.mpr ⟨t_3 (i := 176) (by decide +kernel), List.forall_mem_cons.mpr ⟨t_3 (i := 174) (by decide +kernel), List.forall_mem_cons.mpr ⟨t_3 (i := 175) (by decide +kernel), fun _ h => absurd h List.not_mem_nil⟩⟩⟩
set_option maxRecDepth 20000 in
theorem w_y71 : ∀ w ∈ wY 71, w ∈ lw_tbl := List.forall_mem_cons.mpr ⟨t_3 (i := 171) (by decide +kernel), List.forall_mem_cons.mpr ⟨t_3 (i := 169) (by decide +kernel), List.forall_mem_cons.mpr ⟨t_3 (i := 170) (by decide +kernel), fun _ h => absurd h List.not_mem_nil⟩⟩⟩
set_option maxRecDepth 20000 in
theorem w_y72 : ∀ w ∈ wY 72, w ∈ lw_tbl := List.forall_mem_cons.mpr ⟨t_1 (i := 221) (by decide +kernel), List.forall_mem_cons.mpr ⟨t_1 (i := 220) (by decide +kernel), fun _ h => absurd h List.not_mem_nil⟩⟩
set_option maxRecDepth 20000 in
theorem w_y73 : ∀ w ∈ wY 73, w ∈ lw_tbl := List.forall_mem_cons.mpr ⟨t_1 (i := 226) (by decide +kernel), List.forall_mem_cons.mpr ⟨t_1 (i := 224) (by decide +kernel), List.forall_mem_cons.mpr ⟨t_1 (i := 225) (by decide +kernel), fun _ h => absurd h List.not_mem_nil⟩⟩⟩
set_option maxRecDepth 20000 in
theorem w_y74 : ∀ w ∈ wY 74, w ∈ lw_tbl := List.forall_mem_cons.mpr ⟨t_6 (i := 68) (by decide +kernel), List.forall_mem_cons.mpr ⟨t_6 (i := 66) (by decide +kernel), List.forall_mem_cons.mpr ⟨t_6 (i := 67) (by decide +kernel), fun _ h => absurd h List.not_mem_nil⟩⟩⟩
set_option maxRecDepth 20000 in
theorem w_y75 : ∀ w ∈ wY 75, w ∈ lw_tbl := List.forall_mem_cons.mpr ⟨t_2 (i := 37) (by decide +kernel), List.forall_mem_cons.mpr ⟨t_2 (i := 36) (by decide +kernel), fun _ h => absurd h List.not_mem_nil⟩⟩
set_option maxRecDepth 20000 in
theorem w_y76 : ∀ w ∈ wY 76, w ∈ lw_tbl := List.forall_mem_cons.mpr ⟨t_3 (i := 67) (by decide +kernel), List.forall_mem_cons.mpr ⟨t_3 (i := 65) (by decide +kernel), List.forall_mem_cons.mpr ⟨t_3 (i := 66) (by decide +kernel), fun _ h => absurd h List.not_mem_nil⟩⟩⟩
set_option maxRecDepth 20000 in
theorem w_y77 : ∀ w ∈ wY 77, w ∈ lw_tbl := List.forall_mem_cons.mpr ⟨t_3 (i := 155) (by decide +kernel), List.forall_mem_cons.mpr ⟨t_3 (i := 154) (by decide +kernel), List.forall_mem_cons.mpr ⟨t_0 (i := 9) (by decide +kernel), fun _ h => absurd h List.not_mem_nil⟩⟩⟩
set_option maxRecDepth 20000 in
theorem w_y78 : ∀ w ∈ wY 78, w ∈ lw_tbl := List.forall_mem_cons.mpr ⟨t_3 (i := 159) (by decide +kernel), List.forall_mem_cons.mpr ⟨t_3 (i := 158) (by decide +kernel), List.forall_mem_cons.mpr ⟨t_0 (i := 10) (by decide +kernel), fun _ h => absurd h List.not_mem_nil⟩⟩⟩
set_option maxRecDepth 20000 in
theorem w_y79 : ∀ w ∈ wY 79, w ∈ lw_tbl := List.forall_mem_cons.mpr ⟨t_3 (i := 180) (by decide +kernel), List.forall_mem_cons.mpr ⟨t_3 (i := 179) (by decide +kernel), List.forall_mem_cons.mpr ⟨t_0 (i := 11) (by decide +kernel), fun _ h => absurd h List.not_mem_nil⟩⟩⟩
set_option maxRecDepth 20000 in
theorem w_y80 : ∀ w ∈ wY 80, w ∈ lw_tbl := List.forall_mem_cons.mpr ⟨t_3 (i := 192) (by decide +kernel), List.forall_mem_cons.mpr ⟨t_3 (i := 191) (by decide +kernel), List.forall_mem_cons.mpr ⟨t_0 (i := 13) (by decide +kernel), fun _ h => absurd h List.not_mem_nil⟩⟩⟩
set_option maxRecDepth 20000 in
theorem w_y81 : ∀ w ∈ wY 81, w ∈ lw_tbl := List.forall_mem_cons.mpr ⟨t_3 (i := 204) (by decide +kernel), List.forall_mem_cons.mpr ⟨t_3 (i := 203) (by decide +kernel), List.forall_mem_cons.mpr ⟨t_0 (i := 14) (by decide +kernel), fun _ h => absurd h List.not_mem_nil⟩⟩⟩
set_option maxRecDepth 20000 in
theorem w_y82 : ∀ w ∈ wY 82, w ∈ lw_tbl := List.forall_mem_cons.mpr ⟨t_3 (i := 188) (by decide +kernel), List.forall_mem_cons.mpr ⟨t_3 (i := 187) (by decide +kernel), List.forall_mem_cons.mpr ⟨t_0 (i := 12) (by decide +kernel), fun _ h => absurd h List.not_mem_nil⟩⟩⟩
set_option maxRecDepth 20000 in
theorem w_y83 : ∀ w ∈ wY 83, w ∈ lw_tbl := List.forall_mem_cons.mpr ⟨t_2 (i := 50) (by decide +kernel), List.forall_mem_cons.mpr ⟨t_2 (i := 49) (by decide +kernel), fun _ h => absurd h List.not_mem_nil⟩⟩
set_option maxRecDepth 20000 in
theorem w_y84 : ∀ w ∈ wY 84, w ∈ lw_tbl := List.forall_mem_cons.mpr ⟨t_3 (i := 222) (by decide +kernel), List.forall_mem_cons.mpr ⟨t_3 (i := 220) (by decide +kernel), List.forall_mem_cons.mpr ⟨t_3 (i := 221) (by decide +kernel), fun _ h => absurd h List.not_mem_nil⟩⟩⟩
set_option maxRecDepth 20000 in
theorem w_y85 : ∀ w ∈ wY 85, w ∈ lw_tbl := List.forall_mem_cons.mpr ⟨t_3 (i := 229) (by decide +kernel), List.forall_mem_cons.mpr ⟨t_3 (i := 228) (by decide +kernel), List.forall_mem_cons.mpr ⟨t_0 (i := 16) (by decide +kernel), fun _ h => absurd h List.not_mem_nil⟩⟩⟩
set_option maxRecDepth 20000 in
theorem w_y86 : ∀ w ∈ wY 86, w ∈ lw_tbl := List.forall_mem_cons.mpr ⟨t_3 (i := 238) (by decide +kernel), List.forall_mem_cons.mpr ⟨t_3 (i := 237) (by decide +kernel), fun _ h => absurd h List.not_mem_nil⟩⟩
set_option maxRecDepth 20000 in
theorem w_y87 : ∀ w ∈ wY 87, w ∈ lw_tbl := List.forall_mem_cons.mpr ⟨t_3 (i := 233) (by decide +kernel), List.forall_mem_cons.mpr ⟨t_3 (i := 232) (by decide +kernel), List.forall_mem_cons.mpr ⟨t_0 (i := 17) (by decide +kernel), fun _ h => absurd h List.not_mem_nil⟩⟩⟩
set_option maxRecDepth 20000 in
theorem w_y88 : ∀ w ∈ wY 88, w ∈ lw_tbl := List.forall_mem_cons.mpr ⟨t_4 (i := 2) (by decide +kernel), List.forall_mem_cons.mpr ⟨t_4 (i := 1) (by decide +kernel), List.forall_mem_cons.mpr ⟨t_0 (i := 18) (by decide +kernel), fun _ h => absurd h List.not_mem_nil⟩⟩⟩
set_option maxRecDepth 20000 in
theorem w_y89 : ∀ w ∈ wY 89, w ∈ lw_tbl := List.forall_mem_cons.mpr ⟨t_4 (i := 15) (by decide +kernel), List.forall_mem_cons.mpr ⟨t_4 (i := 14) (by decide +kernel), List.forall_mem_cons.mpr ⟨t_0 (i := 20) (by decide +kernel), fun _ h => absurd h List.not_mem_nil⟩⟩⟩
set_option maxRecDepth 20000 in
theorem w_y90 : ∀ w ∈ wY 90, w ∈ lw_tbl := List.forall_mem_cons.mpr ⟨t_4 (i := 6) (by decide +kernel), List.forall_mem_cons.mpr ⟨t_4 (i := 5) (by decide +kernel), List.forall_mem_cons.mpr ⟨t_0 (i := 19) (by decide +kernel), fun _ h => absurd h List.not_mem_nil⟩⟩⟩
set_option maxRecDepth 20000 in
theorem w_y91 : ∀ w ∈ wY 91, w ∈ lw_tbl := List.forall_mem_cons.mpr ⟨t_4 (i := 10) (by decide +kernel), List.forall_mem_cons.mpr ⟨t_4 (i := 9) (by decide +kernel), fun _ h => absurd h List.not_mem_nil⟩⟩
set_option maxRecDepth 20000 in
theorem w_y92 : ∀ w ∈ wY 92, w ∈ lw_tbl := List.forall_mem_cons.mpr ⟨t_2 (i := 74) (by decide +kernel), List.forall_mem_cons.mpr ⟨t_2 (i := 73) (by decide +kernel), fun _ h => absurd h List.not_mem_nil⟩⟩
set_option maxRecDepth 20000 in
theorem w_y93 : ∀ w ∈ wY 93, w ∈ lw_tbl := List.forall_mem_cons.mpr ⟨t_5 (i := 47) (by decide +kernel), List.forall_mem_cons.mpr ⟨t_5 (i := 45) (by decide +kernel), List.forall_mem_cons.mpr ⟨t_5 (i := 46) (by decide +kernel), fun _ h => absurd h List.not_mem_nil⟩⟩⟩
set_option maxRecDepth 20000 in
theorem w_y94 : ∀ w ∈ wY 94, w ∈ lw_tbl := List.forall_mem_cons.mpr ⟨t_5 (i := 51) (by decide +kernel), List.forall_mem_cons.mpr ⟨t_5 (i := 50) (by decide +kernel), fun _ h => absurd h List.not_mem_nil⟩⟩
set_option maxRecDepth 20000 in
theorem w_y95 : ∀ w ∈ wY 95, w ∈ lw_tbl := List.forall_mem_cons.mpr ⟨t_5 (i := 57) (by decide +kernel), List.forall_mem_cons.mpr ⟨t_5 (i := 56) (by decide +kernel), List.forall_mem_cons.mpr ⟨t_0 (i := 29) (by decide +kernel), fun _ h => absurd h List.not_mem_nil⟩⟩⟩
set_option maxRecDepth 20000 in
theorem w_y96 : ∀ w ∈ wY 96, w ∈ lw_tbl := List.forall_mem_cons.mpr ⟨t_5 (i := 62) (by decide +kernel), List.forall_mem_cons.mpr ⟨t_5 (i := 61) (by decide +kernel), List.forall_mem_cons.mpr ⟨t_0 (i := 30) (by decide +kernel), fun _ h => absurd h List.not_mem_nil⟩⟩⟩
set_option maxRecDepth 20000 in
theorem w_y97 : ∀ w ∈ wY 97, w ∈ lw_tbl := List.forall_mem_cons.mpr ⟨t_5 (i := 65) (by decide +kernel), List.forall_mem_cons.mpr ⟨t_5 (i := 64) (by decide +kernel), fun _ h => absurd h List.not_mem_nil⟩⟩
set_option maxRecDepth 20000 in
theorem w_y98 : ∀ w ∈ wY 98, w ∈ lw_tbl := List.forall_mem_cons.mpr ⟨t_5 (i := 69) (by decide +kernel), List.forall_mem_cons.mpr ⟨t_5 (i := 67) (by decide +kernel), List.forall_mem_cons.mpr ⟨t_5 (i := 68) (by decide +kernel), fun _ h => absurd h List.not_mem_nil⟩⟩⟩
set_option maxRecDepth 20000 in
theorem w_y99 : ∀ w ∈ wY 99, w ∈ lw_tbl := List.forall_mem_cons.mpr ⟨t_5 (i := 88) (by decide +kernel), List.forall_mem_cons.mpr ⟨t_5 (i := 86) (by decide +kernel), List.forall_mem_cons.mpr ⟨t_5 (i := 87) (by decide +kernel), fun _ h => absurd h List.not_mem_nil⟩⟩⟩
set_option maxRecDepth 20000 in
theorem w_y100 : ∀ w ∈ wY 100, w ∈ lw_tbl := List.forall_mem_cons.mpr ⟨t_5 (i := 92) (by decide +kernel), List.forall_mem_cons.mpr ⟨t_5 (i := 91) (by decide +kernel), List.forall_mem_cons.mpr ⟨t_0 (i := 32) (by decide +kernel), fun _ h => absurd h List.not_mem_nil⟩⟩⟩
set_option maxRecDepth 20000 in
theorem w_y101 : ∀ w ∈ wY 101, w ∈ lw_tbl := List.forall_mem_cons.mpr ⟨t_2 (i := 94) (by decide +kernel), List.forall_mem_cons.mpr ⟨t_2 (i := 93) (by decide +kernel), fun _ h => absurd h List.not_mem_nil⟩⟩
set_option maxRecDepth 20000 in
theorem w_y102 : ∀ w ∈ wY 102, w ∈ lw_tbl := List.forall_mem_cons.mpr ⟨t_5 (i := 158) (by decide +kernel), List.forall_mem_cons.mpr ⟨t_5 (i := 156) (by decide +kernel), List.forall_mem_cons.mpr ⟨t_5 (i := 157) (by decide +kernel), fun _ h => absurd h List.not_mem_nil⟩⟩⟩
set_option maxRecDepth 20000 in
theorem w_y103 : ∀ w ∈ wY 103, w ∈ lw_tbl := List.forall_mem_cons.mpr ⟨t_5 (i := 162) (by decide +kernel), List.forall_mem_cons.mpr ⟨t_5 (i := 160) (by decide +kernel), List.forall_mem_cons.mpr ⟨t_5 (i := 161) (by decide +kernel), fun _ h => absurd h List.not_mem_nil⟩⟩⟩
set_option maxRecDepth 20000 in
theorem w_y104 : ∀ w ∈ wY 104, w ∈ lw_tbl := List.forall_mem_cons.mpr ⟨t_5 (i := 188) (by decide +kernel), List.forall_mem_cons.mpr ⟨t_5 (i := 186) (by decide +kernel), List.forall_mem_cons.mpr ⟨t_5 (i := 187) (by decide +kernel), fun _ h => absurd h List.not_mem_nil⟩⟩⟩
set_option maxRecDepth 20000 in
theorem w_y105 : ∀ w ∈ wY 105, w ∈ lw_tbl := List.forall_mem_cons.mpr ⟨t_5 (i := 166) (by decide +kernel), List.forall_mem_cons.mpr ⟨t_5 (i := 165) (by decide +kernel), List.forall_mem_cons.mpr ⟨t_0 (i := 36) (by decide +kernel), fun _ h => absurd h List.not_mem_nil⟩⟩⟩
set_option maxRecDepth 20000 in
theorem w_y106 : ∀ w ∈ wY 106, w ∈ lw_tbl := List.forall_mem_cons.mpr ⟨t_5 (i := 176) (by decide +kernel), List.forall_mem_cons.mpr ⟨t_5 (i := 175) (by decide +kernel), List.forall_mem_cons.mpr ⟨t_0 (i := 38) (by decide +kernel), fun _ h => absurd h List.not_mem_nil⟩⟩⟩
set_option maxRecDepth 20000 in
theorem w_y107 : ∀ w ∈ wY 107, w ∈ lw_tbl := List.forall_mem_cons.mpr ⟨t_5 (i := 170) (by decide +kernel), List.forall_mem_cons.mpr ⟨t_5 (i := 169) (by decide +kernel), List.forall_mem_cons.mpr ⟨t_0 (i := 37) (by decide +kernel), fun _ h => absurd h List.not_mem_nil⟩⟩⟩
set_option maxRecDepth 20000 in
theorem w_y108 : ∀ w ∈ wY 108, w ∈ lw_tbl := List.forall_mem_cons.mpr ⟨t_2 (i := 113) (by decide +kernel), List.forall_mem_cons.mpr ⟨t_2 (i := 112) (by decide +kernel), fun _ h => absurd h List.not_mem_nil⟩⟩
set_option maxRecDepth 20000 in
theorem w_y109 : ∀ w ∈ wY 109, w ∈ lw_tbl := List.forall_mem_cons.mpr ⟨t_6 (i := 9) (by decide +kernel), List.forall_mem_cons.mpr ⟨t_6 (i := 7) (by decide +kernel), List.forall_mem_cons.mpr ⟨t_6 (i := 8) (by decide +kernel), fun _ h => absurd h List.not_mem_nil⟩⟩⟩
set_option maxRecDepth 20000 in
theorem w_y110 : ∀ w ∈ wY 110, w ∈ lw_tbl := List.forall_mem_cons.mpr ⟨t_6 (i := 13) (by decide +kernel), List.forall_mem_cons.mpr ⟨t_6 (i := 12) (by decide +kernel), List.forall_mem_cons.mpr ⟨t_0 (i := 43) (by decide +kernel), fun _ h => absurd h List.not_mem_nil⟩⟩⟩
set_option maxRecDepth 20000 in
theorem w_y111 : ∀ w ∈ wY 111, w ∈ lw_tbl := List.forall_mem_cons.mpr ⟨t_6 (i := 39) (by decide +kernel), List.forall_mem_cons.mpr ⟨t_6 (i := 38) (by decide +kernel), List.forall_mem_cons.mpr ⟨t_0 (i := 47) (by decide +kernel), fun _ h => absurd h List.not_mem_nil⟩⟩⟩
set_option maxRecDepth 20000 in
theorem w_y112 : ∀ w ∈ wY 112, w ∈ lw_tbl := List.forall_mem_cons.mpr ⟨t_6 (i := 43) (by decide +kernel), List.forall_mem_cons.mpr ⟨t_6 (i := 42) (by decide +kernel), List.forall_mem_cons.mpr ⟨t_0 (i := 48) (by decide +kernel), fun _ h => absurd h List.not_mem_nil⟩⟩⟩
set_option maxRecDepth 20000 in
theorem w_y113 : ∀ w ∈ wY 113, w ∈ lw_tbl := List.forall_mem_cons.mpr ⟨t_6 (i := 48) (by decide +kernel), List.forall_mem_cons.mpr ⟨t_6 (i := 47) (by decide +kernel), List.forall_mem_cons.mpr ⟨t_0 (i := 49) (by decide +kernel), fun _ h => absurd h List.not_mem_nil⟩⟩⟩
set_option maxRecDepth 20000 in
theorem w_y114 : ∀ w ∈ wY 114, w ∈ lw_tbl := List.forall_mem_cons.mpr ⟨t_6 (i := 17) (by decide +kernel), List.forall_mem_cons.mpr ⟨t_6 (i := 16) (by decide +kernel), List.forall_mem_cons.mpr ⟨t_0 (i := 44) (by decide +kernel), fun _ h => absurd h List.not_mem_nil⟩⟩⟩
set_option maxRecDepth 20000 in
theorem w_y115 : ∀ w ∈ wY 115, w ∈ lw_tbl := List.forall_mem_cons.mpr ⟨t_6 (i := 30) (by decide +kernel), List.forall_mem_cons.mpr ⟨t_6 (i := 29) (by decide +kernel), List.forall_mem_cons.mpr ⟨t_0 (i := 45) (by decide +kernel), fun _ h => absurd h List.not_mem_nil⟩⟩⟩
set_option maxRecDepth 20000 in
theorem w_y116 : ∀ w ∈ wY 116, w ∈ lw_tbl := List.forall_mem_cons.mpr ⟨t_6 (i := 34) (by decide +kernel), List.forall_mem_cons.mpr ⟨t_6 (i := 33) (by decide +kernel), List.forall_mem_cons.mpr ⟨t_0 (i := 46) (by decide +kernel), fun _ h => absurd h List.not_mem_nil⟩⟩⟩
set_option maxRecDepth 20000 in
theorem w_y117 : ∀ w ∈ wY 117, w ∈ lw_tbl := List.forall_mem_cons.mpr ⟨t_1 (i := 24) (by decide +kernel), List.forall_mem_cons.mpr ⟨t_1 (i := 23) (by decide +kernel), fun _ h => absurd h List.not_mem_nil⟩⟩
set_option maxRecDepth 20000 in
theorem w_y118 : ∀ w ∈ wY 118, w ∈ lw_tbl := List.forall_mem_cons.mpr ⟨t_2 (i := 201) (by decide +kernel), List.forall_mem_cons.mpr ⟨t_2 (i := 199) (by decide +kernel), List.forall_mem_cons.mpr ⟨t_2 (i := 200) (by decide +kernel), fun _ h => absurd h List.not_mem_nil⟩⟩⟩
set_option maxRecDepth 20000 in
theorem w_y119 : ∀ w ∈ wY 119, w ∈ lw_tbl := List.forall_mem_cons.mpr ⟨t_2 (i := 205) (by decide +kernel), List.forall_mem_cons.mpr ⟨t_2 (i := 203) (by decide +kernel), List.forall_mem_cons.mpr ⟨t_2 (i := 204) (by decide +kernel), fun _ h => absurd h List.not_mem_nil⟩⟩⟩
set_option maxRecDepth 20000 in
theorem w_y120 : ∀ w ∈ wY 120, w ∈ lw_tbl := List.forall_mem_cons.mpr ⟨t_2 (i := 209) (by decide +kernel), List.forall_mem_cons.mpr ⟨t_2 (i := 207) (by decide +kernel), List.forall_mem_cons.mpr ⟨t_2 (i := 208) (by decide +kernel), fun _ h => absurd h List.not_mem_nil⟩⟩⟩
set_option maxRecDepth 20000 in
theorem w_y121 : ∀ w ∈ wY 121, w ∈ lw_tbl := List.forall_mem_cons.mpr ⟨t_2 (i := 213) (by decide +kernel), List.forall_mem_cons.mpr ⟨t_2 (i := 211) (by decide +kernel), List.forall_mem_cons.mpr ⟨t_2 (i := 212) (by decide +kernel), fun _ h => absurd h List.not_mem_nil⟩⟩⟩
set_option maxRecDepth 20000 in
theorem w_y122 : ∀ w ∈ wY 122, w ∈ lw_tbl := List.forall_mem_cons.mpr ⟨t_3 (i := 0) (by decide +kernel), List.forall_mem_cons.mpr ⟨t_2 (i := 238) (by decide +kernel), List.forall_mem_cons.mpr ⟨t_2 (i := 239) (by decide +kernel), fun _ h => absurd h List.not_mem_nil⟩⟩⟩
set_option maxRecDepth 20000 in
theorem w_y123 : ∀ w ∈ wY 123, w ∈ lw_tbl := List.forall_mem_cons.mpr ⟨t_3 (i := 25) (by decide +kernel), List.forall_mem_cons.mpr ⟨t_3 (i := 23) (by decide +kernel), List.forall_mem_cons.mpr ⟨t_3 (i := 24) (by decide +kernel), fun _ h => absurd h List.not_mem_nil⟩⟩⟩
set_option maxRecDepth 20000 in
theorem w_y124 : ∀ w ∈ wY 124, w ∈ lw_tbl := List.forall_mem_cons.mpr ⟨t_3 (i := 33) (by decide +kernel), List.forall_mem_cons.mpr ⟨t_3 (i := 31) (by decide +kernel), List.forall_mem_cons.mpr ⟨t_3 (i := 32) (by decide +kernel), fun _ h => absurd h List.not_mem_nil⟩⟩⟩
set_option maxRecDepth 20000 in
theorem w_y125 : ∀ w ∈ wY 125, w ∈ lw_tbl := List.forall_mem_cons.mpr ⟨t_3 (i := 44) (by decide +kernel), List.forall_mem_cons.mpr ⟨t_3 (i := 42) (by decide +kernel), List.forall_mem_cons.mpr ⟨t_3 (i := 43) (by decide +kernel), fun _ h => absurd h List.not_mem_nil⟩⟩⟩
set_option maxRecDepth 20000 in
theorem w_y126 : ∀ w ∈ wY 126, w ∈ lw_tbl := List.forall_mem_cons.mpr ⟨t_3 (i := 56) (by decide +kernel), List.forall_mem_cons.mpr ⟨t_3 (i := 54) (by decide +kernel), List.forall_mem_cons.mpr ⟨t_3 (i := 55) (by decide +kernel), fun _ h => absurd h List.not_mem_nil⟩⟩⟩
set_option maxRecDepth 20000 in
theorem w_y127 : ∀ w ∈ wY 127, w ∈ lw_tbl := List.forall_mem_cons.mpr ⟨t_3 (i := 217) (by decide +kernel), List.forall_mem_cons.mpr ⟨t_3 (i := 215) (by decide +kernel), List.forall_mem_cons.mpr ⟨t_3 (i := 216) (by decide +kernel), fun _ h => absurd h List.not_mem_nil⟩⟩⟩
set_option maxRecDepth 20000 in
theorem w_y128 : ∀ w ∈ wY 128, w ∈ lw_tbl := List.forall_mem_cons.mpr ⟨t_4 (i := 19) (by decide +kernel), List.forall_mem_cons.mpr ⟨t_4 (i := 17) (by decide +kernel), List.forall_mem_cons.mpr ⟨t_4 (i := 18) (by decide +kernel), fun _ h => absurd h List.not_mem_nil⟩⟩⟩
set_option maxRecDepth 20000 in
theorem w_y129 : ∀ w ∈ wY 129, w ∈ lw_tbl := List.forall_mem_cons.mpr ⟨t_4 (i := 23) (by decide +kernel), List.forall_mem_cons.mpr ⟨t_4 (i := 21) (by decide +kernel), List.forall_mem_cons.mpr ⟨t_4 (i := 22) (by decide +kernel), fun _ h => absurd h List.not_mem_nil⟩⟩⟩
set_option maxRecDepth 20000 in
theorem w_y130 : ∀ w ∈ wY 130, w ∈ lw_tbl := List.forall_mem_cons.mpr ⟨t_4 (i := 43) (by decide +kernel), List.forall_mem_cons.mpr ⟨t_4 (i := 41) (by decide +kernel), List.forall_mem_cons.mpr ⟨t_4 (i := 42) (by decide +kernel), fun _ h => absurd h List.not_mem_nil⟩⟩⟩
set_option maxRecDepth 20000 in
theorem w_y131 : ∀ w ∈ wY 131, w ∈ lw_tbl := List.forall_mem_cons.mpr ⟨t_4 (i := 67) (by decide +kernel), List.forall_mem_cons.mpr ⟨t_4 (i := 65) (by decide +kernel), List.forall_mem_cons.mpr ⟨t_4 (i := 66) (by decide +kernel), fun _ h => absurd h List.not_mem_nil⟩⟩⟩
set_option maxRecDepth 20000 in
theorem w_y132 : ∀ w ∈ wY 132, w ∈ lw_tbl := List.forall_mem_cons.mpr ⟨t_4 (i := 75) (by decide +kernel), List.forall_mem_cons.mpr ⟨t_4 (i := 73) (by decide +kernel), List.forall_mem_cons.mpr ⟨t_4 (i := 74) (by decide +kernel), fun _ h => absurd h List.not_mem_nil⟩⟩⟩
set_option maxRecDepth 20000 in
theorem w_y133 : ∀ w ∈ wY 133, w ∈ lw_tbl := List.forall_mem_cons.mpr ⟨t_4 (i := 79) (by decide +kernel), List.forall_mem_cons.mpr ⟨t_4 (i := 77) (by decide +kernel), List.forall_mem_cons.mpr ⟨t_4 (i := 78) (by decide +kernel), fun _ h => absurd h List.not_mem_nil⟩⟩⟩
set_option maxRecDepth 20000 in
theorem w_y134 : ∀ w ∈ wY 134, w ∈ lw_tbl := List.forall_mem_cons.mpr ⟨t_4 (i := 107) (by decide +kernel), List.forall_mem_cons.mpr ⟨t_4 (i := 105) (by decide +kernel), List.forall_mem_cons.mpr ⟨t_4 (i := 106) (by decide +kernel), fun _ h => absurd h List.not_mem_nil⟩⟩⟩
set_option maxRecDepth 20000 in
theorem w_y135 : ∀ w ∈ wY 135, w ∈ lw_tbl := List.forall_mem_cons.mpr ⟨t_4 (i := 132) (by decide +kernel), List.forall_mem_cons.mpr ⟨t_4 (i := 130) (by decide +kernel), List.forall_mem_cons.mpr ⟨t_4 (i := 131) (by decide +kernel), fun _ h => absurd h List.not_mem_nil⟩⟩⟩
set_option maxRecDepth 20000 in
theorem w_y136 : ∀ w ∈ wY 136, w ∈ lw_tbl := List.forall_mem_cons.mpr ⟨t_4 (i := 144) (by decide +kernel), List.forall_mem_cons.mpr ⟨t_4 (i := 142) (by decide +kernel), List.forall_mem_cons.mpr ⟨t_4 (i := 143) (by decide +kernel), fun _ h => absurd h List.not_mem_nil⟩⟩⟩
set_option maxRecDepth 20000 in
theorem w_y137 : ∀ w ∈ wY 137, w ∈ lw_tbl := List.forall_mem_cons.mpr ⟨t_4 (i := 152) (by decide +kernel), List.forall_mem_cons.mpr ⟨t_4 (i := 150) (by decide +kernel), List.forall_mem_cons.mpr ⟨t_4 (i := 151) (by decide +kernel), fun _ h => absurd h List.not_mem_nil⟩⟩⟩
set_option maxRecDepth 20000 in
theorem w_y138 : ∀ w ∈ wY 138, w ∈ lw_tbl := List.forall_mem_cons.mpr ⟨t_4 (i := 166) (by decide +kernel), List.forall_mem_cons.mpr ⟨t_4 (i := 164) (by decide +kernel), List.forall_mem_cons.mpr ⟨t_4 (i := 165) (by decide +kernel), fun _ h => absurd h List.not_mem_nil⟩⟩⟩
set_option maxRecDepth 20000 in
theorem w_y139 : ∀ w ∈ wY 139, w ∈ lw_tbl := List.forall_mem_cons.mpr ⟨t_4 (i := 174) (by decide +kernel), List.forall_mem_cons.mpr ⟨t_4 (i := 172) (by decide +kernel), List.forall_mem_cons.mpr ⟨t_4 (i := 173) (by decide +kernel), fun _ h => absurd h List.not_mem_nil⟩⟩⟩
set_option maxRecDepth 20000 in
theorem w_y140 : ∀ w ∈ wY 140, w ∈ lw_tbl := List.forall_mem_cons.mpr ⟨t_4 (i := 180) (by decide +kernel), List.forall_mem_cons.mpr ⟨t_4 (i := 178) (by decide +kernel), List.forall_mem_cons.mpr ⟨t_4 (i := 179) (by decide +kernel), fun _ h => absurd h List.not_mem_nil⟩⟩⟩
set_option maxRecDepth 20000 in
theorem w_y141 : ∀ w ∈ wY 141, w ∈ lw_tbl := List.forall_mem_cons.mpr ⟨t_4 (i := 186) (by decide +kernel), List.forall_mem_cons.mpr ⟨t_4 (i := 184) (by decide +kernel), List.forall_mem_cons.mpr ⟨t_4 (i := 185) (by decide +kernel), fun _ h => absurd h List.not_mem_nil⟩⟩⟩
set_option maxRecDepth 20000 in
theorem w_y142 : ∀ w ∈ wY 142, w ∈ lw_tbl := List.forall_mem_cons.mpr ⟨t_4 (i := 192) (by decide +kernel), List.forall_mem_cons.mpr ⟨t_4 (i := 190) (by decide +kernel), List.forall_mem_cons.mpr ⟨t_4 (i := 191) (by decide +kernel), fun _ h => absurd h List.not_mem_nil⟩⟩⟩
set_option maxRecDepth 20000 in
theorem w_y143 : ∀ w ∈ wY 143, w ∈ lw_tbl := List.forall_mem_cons.mpr ⟨t_4 (i := 198) (by decide +kernel), List.forall_mem_cons.mpr ⟨t_4 (i := 196) (by decide +kernel), List.forall_mem_cons.mpr ⟨t_4 (i := 197) (by decide +kernel), fun _ h => absurd h List.not_mem_nil⟩⟩⟩
set_option maxRecDepth 20000 in
theorem w_y144 : ∀ w ∈ wY 144, w ∈ lw_tbl := List.forall_mem_cons.mpr ⟨t_4 (i := 203) (by decide +kernel), List.forall_mem_cons.mpr ⟨t_4 (i := 201) (by decide +kernel), List.forall_mem_cons.mpr ⟨t_4 (i := 202) (by decide +kernel), fun _ h => absurd h List.not_mem_nil⟩⟩⟩
set_option maxRecDepth 20000 in
theorem w_y145 : ∀ w ∈ wY 145, w ∈ lw_tbl := List.forall_mem_cons.mpr ⟨t_4 (i := 208) (by decide +kernel), List.forall_mem_cons.mpr ⟨t_4 (i := 206) (by decide +kernel), List.forall_mem_cons.mpr ⟨t_4 (i := 207) (by decide +kernel), fun _ h => absurd h List.not_mem_nil⟩⟩⟩
set_option maxRecDepth 20000 in
theorem w_y146 : ∀ w ∈ wY 146, w ∈ lw_tbl := List.forall_mem_cons.mpr ⟨t_4 (i := 217) (by decide +kernel), List.forall_mem_cons.mpr ⟨t_4 (i := 215) (by decide +kernel), List.forall_mem_cons.mpr ⟨t_4 (i := 216) (by decide +kernel), fun _ h => absurd h List.not_mem_nil⟩⟩⟩
set_option maxRecDepth 20000 in
theorem w_y147 : ∀ w ∈ wY 147, w ∈ lw_tbl := List.forall_mem_cons.mpr ⟨t_4 (i := 225) (by decide +kernel), List.forall_mem_cons.mpr ⟨t_4 (i := 223) (by decide +kernel), List.forall_mem_cons.mpr ⟨t_4 (i := 224) (by decide +kernel), fun _ h => absurd h List.not_mem_nil⟩⟩⟩
set_option maxRecDepth 20000 in
theorem w_y148 : ∀ w ∈ wY 148, w ∈ lw_tbl := List.forall_mem_cons.mpr ⟨t_4 (i := 233) (by decide +kernel), List.forall_mem_cons.mpr ⟨t_4 (i := 231) (by decide +kernel), List.forall_mem_cons.mpr ⟨t_4 (i := 232) (by decide +kernel), fun _ h => absurd h List.not_mem_nil⟩⟩⟩
set_option maxRecDepth 20000 in
theorem w_y149 : ∀ w ∈ wY 149, w ∈ lw_tbl := List.forall_mem_cons.mpr ⟨t_4 (i := 238) (by decide +kernel), List.forall_mem_cons.mpr ⟨t_4 (i := 236) (by decide +kernel), List.forall_mem_cons.mpr ⟨t_4 (i := 237) (by decide +kernel), fun _ h => absurd h List.not_mem_nil⟩⟩⟩
set_option maxRecDepth 20000 in
theorem w_y150 : ∀ w ∈ wY 150, w ∈ lw_tbl := List.forall_mem_cons.mpr ⟨t_5 (i := 6) (by decide +kernel), List.forall_mem_cons.mpr ⟨t_5 (i := 4) (by decide +kernel), List.forall_mem_cons.mpr ⟨t_5 (i := 5) (by decide +kernel), fun _ h => absurd h List.not_mem_nil⟩⟩⟩
set_option maxRecDepth 20000 in
theorem w_y151 : ∀ w ∈ wY 151, w ∈ lw_tbl := List.forall_mem_cons.mpr ⟨t_5 (i := 19) (by decide +kernel), List.forall_mem_cons.mpr ⟨t_5 (i := 17) (by decide +kernel), List.forall_mem_cons.mpr ⟨t_5 (i := 18) (by decide +kernel), fun _ h => absurd h List.not_mem_nil⟩⟩⟩
set_option maxRecDepth 20000 in
theorem w_y152 : ∀ w ∈ wY 152, w ∈ lw_tbl := List.forall_mem_cons.mpr ⟨t_5 (i := 23) (by decide +kernel), List.forall_mem_cons.mpr ⟨t_5 (i := 21) (by decide +kernel), List.forall_mem_cons.mpr ⟨t_5 (i := 22) (by decide +kernel), fun _ h => absurd h List.not_mem_nil⟩⟩⟩
set_option maxRecDepth 20000 in
theorem w_y153 : ∀ w ∈ wY 153, w ∈ lw_tbl := List.forall_mem_cons.mpr ⟨t_5 (i := 38) (by decide +kernel), List.forall_mem_cons.mpr ⟨t_5 (i := 36) (by decide +kernel), List.forall_mem_cons.mpr ⟨t_5 (i := 37) (by decide +kernel), fun _ h => absurd h List.not_mem_nil⟩⟩⟩
set_option maxRecDepth 20000 in
theorem w_y154 : ∀ w ∈ wY 154, w ∈ lw_tbl := List.forall_mem_cons.mpr ⟨t_5 (i := 43) (by decide +kernel), List.forall_mem_cons.mpr ⟨t_5 (i := 41) (by decide +kernel), List.forall_mem_cons.mpr ⟨t_5 (i := 42) (by decide +kernel), fun _ h => absurd h List.not_mem_nil⟩⟩⟩
set_option maxRecDepth 20000 in
theorem w_y155 : ∀ w ∈ wY 155, w ∈ lw_tbl := List.forall_mem_cons.mpr ⟨t_5 (i := 75) (by decide +kernel), List.forall_mem_cons.mpr ⟨t_5 (i := 73) (by decide +kernel), List.forall_mem_cons.mpr ⟨t_5 (i := 74) (by decide +kernel), fun _ h => absurd h List.not_mem_nil⟩⟩⟩
set_option maxRecDepth 20000 in
theorem w_y156 : ∀ w ∈ wY 156, w ∈ lw_tbl := List.forall_mem_cons.mpr ⟨t_5 (i := 83) (by decide +kernel), List.forall_mem_cons.mpr ⟨t_5 (i := 81) (by decide +kernel), List.forall_mem_cons.mpr ⟨t_5 (i := 82) (by decide +kernel), fun _ h => absurd h List.not_mem_nil⟩⟩⟩
set_option maxRecDepth 20000 in
theorem w_y157 : ∀ w ∈ wY 157, w ∈ lw_tbl := List.forall_mem_cons.mpr ⟨t_5 (i := 96) (by decide +kernel), List.forall_mem_cons.mpr ⟨t_5 (i := 94) (by decide +kernel), List.forall_mem_cons.mpr ⟨t_5 (i := 95) (by decide +kernel), fun _ h => absurd h List.not_mem_nil⟩⟩⟩
set_option maxRecDepth 20000 in
theorem w_y158 : ∀ w ∈ wY 158, w ∈ lw_tbl := List.forall_mem_cons.mpr ⟨t_5 (i := 112) (by decide +kernel), List.forall_mem_cons.mpr ⟨t_5 (i := 110) (by decide +kernel), List.forall_mem_cons.mpr ⟨t_5 (i := 111) (by decide +kernel), fun _ h => absurd h List.not_mem_nil⟩⟩⟩
set_option maxRecDepth 20000 in
theorem w_y159 : ∀ w ∈ wY 159, w ∈ lw_tbl := List.forall_mem_cons.mpr ⟨t_5 (i := 117) (by decide +kernel), List.forall_mem_cons.mpr ⟨t_5 (i := 115) (by decide +kernel), List.forall_mem_cons.mpr ⟨t_5 (i := 116) (by decide +kernel), fun _ h => absurd h List.not_mem_nil⟩⟩⟩
set_option maxRecDepth 20000 in
theorem w_y160 : ∀ w ∈ wY 160, w ∈ lw_tbl := List.forall_mem_cons.mpr ⟨t_5 (i := 135) (by decide +kernel), List.forall_mem_cons.mpr ⟨t_5 (i := 133) (by decide +kernel), List.forall_mem_cons.mpr ⟨t_5 (i := 134) (by decide +kernel), fun _ h => absurd h List.not_mem_nil⟩⟩⟩
set_option maxRecDepth 20000 in
theorem w_y161 : ∀ w ∈ wY 161, w ∈ lw_tbl := List.forall_mem_cons.mpr ⟨t_5 (i := 139) (by decide +kernel), List.forall_mem_cons.mpr ⟨t_5 (i := 137) (by decide +kernel), List.forall_mem_cons.mpr ⟨t_5 (i := 138) (by decide +kernel), fun _ h => absurd h List.not_mem_nil⟩⟩⟩
set_option maxRecDepth 20000 in
theorem w_y162 : ∀ w ∈ wY 162, w ∈ lw_tbl := List.forall_mem_cons.mpr ⟨t_5 (i := 148) (by decide +kernel), List.forall_mem_cons.mpr ⟨t_5 (i := 146) (by decide +kernel), List.forall_mem_cons.mpr ⟨t_5 (i := 147) (by decide +kernel), fun _ h => absurd h List.not_mem_nil⟩⟩⟩
set_option maxRecDepth 20000 in
theorem w_y163 : ∀ w ∈ wY 163, w ∈ lw_tbl := List.forall_mem_cons.mpr ⟨t_5 (i := 184) (by decide +kernel), List.forall_mem_cons.mpr ⟨t_5 (i := 182) (by decide +kernel), List.forall_mem_cons.mpr ⟨t_5 (i := 183) (by decide +kernel), fun _ h => absurd h List.not_mem_nil⟩⟩⟩
set_option maxRecDepth 20000 in
theorem w_y164 : ∀ w ∈ wY 164, w ∈ lw_tbl := List.forall_mem_cons.mpr ⟨t_5 (i := 192) (by decide +kernel), List.forall_mem_cons.mpr ⟨t_5 (i := 190) (by decide +kernel), List.forall_mem_cons.mpr ⟨t_5 (i := 191) (by decide +kernel), fun _ h => absurd h List.not_mem_nil⟩⟩⟩
set_option maxRecDepth 20000 in
theorem w_y165 : ∀ w ∈ wY 165, w ∈ lw_tbl := List.forall_mem_cons.mpr ⟨t_5 (i := 213) (by decide +kernel), List.forall_mem_cons.mpr ⟨t_5 (i := 211) (by decide +kernel), List.forall_mem_cons.mpr ⟨t_5 (i := 212) (by decide +kernel), fun _ h => absurd h List.not_mem_nil⟩⟩⟩
set_option maxRecDepth 20000 in
theorem w_y166 : ∀ w ∈ wY 166, w ∈ lw_tbl := List.forall_mem_cons.mpr ⟨t_5 (i := 217) (by decide +kernel), List.forall_mem_cons.mpr ⟨t_5 (i := 215) (by decide +kernel), List.forall_mem_cons.mpr ⟨t_5 (i := 216) (by decide +kernel), fun _ h => absurd h List.not_mem_nil⟩⟩⟩
set_option maxRecDepth 20000 in
theorem w_y167 : ∀ w ∈ wY 167, w ∈ lw_tbl := List.forall_mem_cons.mpr ⟨t_5 (i := 232) (by decide +kernel), List.forall_mem_cons.mpr ⟨t_5 (i := 230) (by decide +kernel), List.forall_mem_cons.mpr ⟨t_5 (i := 231) (by decide +kernel), fun _ h => absurd h List.not_mem_nil⟩⟩⟩
set_option maxRecDepth 20000 in
theorem w_y168 : ∀ w ∈ wY 168, w ∈ lw_tbl := List.forall_mem_cons.mpr ⟨t_5 (i := 236) (by decide +kernel), List.forall_mem_cons.mpr ⟨t_5 (i := 234) (by decide +kernel), List.forall_mem_cons.mpr ⟨t_5 (i := 235) (by decide +kernel), fun _ h => absurd h List.not_mem_nil⟩⟩⟩
set_option maxRecDepth 20000 in
theorem w_y169 : ∀ w ∈ wY 169, w ∈ lw_tbl := List.forall_mem_cons.mpr ⟨t_6 (i := 0) (by decide +kernel), List.forall_mem_cons.mpr ⟨t_5 (i := 238) (by decide +kernel), List.forall_mem_cons.mpr ⟨t_5 (i := 239) (by decide +kernel), fun _ h => absurd h List.not_mem_nil⟩⟩⟩
set_option maxRecDepth 20000 in
theorem w_y170 : ∀ w ∈ wY 170, w ∈ lw_tbl := List.forall_mem_cons.mpr ⟨t_6 (i := 52) (by decide +kernel), List.forall_mem_cons.mpr ⟨t_6 (i := 50) (by decide +kernel), List.forall_mem_cons.mpr ⟨t_6 (i := 51) (by decide +kernel), fun _ h => absurd h List.not_mem_nil⟩⟩⟩
set_option maxRecDepth 20000 in
theorem w_y171 : ∀ w ∈ wY 171, w ∈ lw_tbl := List.forall_mem_cons.mpr ⟨t_6 (i := 56) (by decide +kernel), List.forall_mem_cons.mpr ⟨t_6 (i := 54) (by decide +kernel), List.forall_mem_cons.mpr ⟨t_6 (i := 55) (by decide +kernel), fun _ h => absurd h List.not_mem_nil⟩⟩⟩
set_option maxRecDepth 20000 in
theorem w_y172 : ∀ w ∈ wY 172, w ∈ lw_tbl := List.forall_mem_cons.mpr ⟨t_6 (i := 64) (by decide +kernel), List.forall_mem_cons.mpr ⟨t_6 (i := 62) (by decide +kernel), List.forall_mem_cons.mpr ⟨t_6 (i := 63) (by decide +kernel), fun _ h => absurd h List.not_mem_nil⟩⟩⟩
set_option maxRecDepth 20000 in
theorem w_y173 : ∀ w ∈ wY 173, w ∈ lw_tbl := List.forall_mem_cons.mpr ⟨t_6 (i := 73) (by decide +kernel), List.forall_mem_cons.mpr ⟨t_6 (i := 71) (by decide +kernel), List.forall_mem_cons.mpr ⟨t_6 (i := 72) (by decide +kernel), fun _ h => absurd h List.not_mem_nil⟩⟩⟩
set_option maxRecDepth 20000 in
theorem w_y174 : ∀ w ∈ wY 174, w ∈ lw_tbl := List.forall_mem_cons.mpr ⟨t_3 (i := 213) (by decide +kernel), List.forall_mem_cons.mpr ⟨t_3 (i := 212) (by decide +kernel), List.forall_mem_cons.mpr ⟨t_0 (i := 15) (by decide +kernel), fun _ h => absurd h List.not_mem_nil⟩⟩⟩
set_option maxRecDepth 20000 in
theorem w_y175 : ∀ w ∈ wY 175, w ∈ lw_tbl := List.forall_mem_cons.mpr ⟨t_3 (i := 29) (by decide +kernel), List.forall_mem_cons.mpr ⟨t_3 (i := 28) (by decide +kernel), List.forall_mem_cons.mpr ⟨t_0 (i := 4) (by decide +kernel), fun _ h => absurd h List.not_mem_nil⟩⟩⟩
set_option maxRecDepth 20000 in
theorem w_y176 : ∀ w ∈ wY 176, w ∈ lw_tbl := List.forall_mem_cons.mpr ⟨t_4 (i := 103) (by decide +kernel), List.forall_mem_cons.mpr ⟨t_4 (i := 102) (by decide +kernel), List.forall_mem_cons.mpr ⟨t_0 (i := 26) (by decide +kernel), fun _ h => absurd h List.not_mem_nil⟩⟩⟩
set_option maxRecDepth 20000 in
theorem w_y177 : ∀ w ∈ wY 177, w ∈ lw_tbl := List.forall_mem_cons.mpr ⟨t_4 (i := 229) (by decide +kernel), List.forall_mem_cons.mpr ⟨t_4 (i := 228) (by decide +kernel), List.forall_mem_cons.mpr ⟨t_0 (i := 28) (by decide +kernel), fun _ h => absurd h List.not_mem_nil⟩⟩⟩
set_option maxRecDepth 20000 in
theorem w_y178 : ∀ w ∈ wY 178, w ∈ lw_tbl := List.forall_mem_cons.mpr ⟨t_2 (i := 236) (by decide +kernel), List.forall_mem_cons.mpr ⟨t_2 (i := 235) (by decide +kernel), List.forall_mem_cons.mpr ⟨t_0 (i := 1) (by decide +kernel), fun _ h => absurd h List.not_mem_nil⟩⟩⟩
set_option maxRecDepth 20000 in
theorem w_y179 : ∀ w ∈ wY 179, w ∈ lw_tbl := List.forall_mem_cons.mpr ⟨t_2 (i := 225) (by decide +kernel), List.forall_mem_cons.mpr ⟨t_2 (i := 224) (by decide +kernel), List.forall_mem_cons.mpr ⟨t_0 (i := 0) (by decide +kernel), fun _ h => absurd h List.not_mem_nil⟩⟩⟩
set_option maxRecDepth 20000 in
theorem w_y180 : ∀ w ∈ wY 180, w ∈ lw_tbl := List.forall_mem_cons.mpr ⟨t_4 (i := 170) (by decide +kernel), List.forall_mem_cons.mpr ⟨t_4 (i := 169) (by decide +kernel), List.forall_mem_cons.mpr ⟨t_0 (i := 27) (by decide +kernel), fun _ h => absurd h List.not_mem_nil⟩⟩⟩
set_option maxRecDepth 20000 in
theorem w_y181 : ∀ w ∈ wY 181, w ∈ lw_tbl := List.forall_mem_cons.mpr ⟨t_2 (i := 220) (by decide +kernel), List.forall_mem_cons.mpr ⟨t_2 (i := 219) (by decide +kernel), fun _ h => absurd h List.not_mem_nil⟩⟩
set_option maxRecDepth 20000 in
theorem w_y182 : ∀ w ∈ wY 182, w ∈ lw_tbl := List.forall_mem_cons.mpr ⟨t_3 (i := 162) (by decide +kernel), List.forall_mem_cons.mpr ⟨t_3 (i := 161) (by decide +kernel), fun _ h => absurd h List.not_mem_nil⟩⟩
set_option maxRecDepth 20000 in
theorem w_y183 : ∀ w ∈ wY 183, w ∈ lw_tbl := List.forall_mem_cons.mpr ⟨t_2 (i := 216) (by decide +kernel), List.forall_mem_cons.mpr ⟨t_2 (i := 215) (by decide +kernel), fun _ h => absurd h List.not_mem_nil⟩⟩
set_option maxRecDepth 20000 in
theorem w_y184 : ∀ w ∈ wY 184, w ∈ lw_tbl := List.forall_mem_cons.mpr ⟨t_5 (i := 79) (by decide +kernel), List.forall_mem_cons.mpr ⟨t_5 (i := 78) (by decide +kernel), List.forall_mem_cons.mpr ⟨t_0 (i := 31) (by decide +kernel), fun _ h => absurd h List.not_mem_nil⟩⟩⟩
set_option maxRecDepth 20000 in
theorem w_y185 : ∀ w ∈ wY 185, w ∈ lw_tbl := List.forall_mem_cons.mpr ⟨t_3 (i := 4) (by decide +kernel), List.forall_mem_cons.mpr ⟨t_3 (i := 3) (by decide +kernel), List.forall_mem_cons.mpr ⟨t_0 (i := 2) (by decide +kernel), fun _ h => absurd h List.not_mem_nil⟩⟩⟩
set_option maxRecDepth 20000 in
theorem w_y186 : ∀ w ∈ wY 186, w ∈ lw_tbl := List.forall_mem_cons.mpr ⟨t_5 (i := 121) (by decide +kernel), List.forall_mem_cons.mpr ⟨t_5 (i := 120) (by decide +kernel), List.forall_mem_cons.mpr ⟨t_0 (i := 34) (by decide +kernel), fun _ h => absurd h List.not_mem_nil⟩⟩⟩
set_option maxRecDepth 20000 in
theorem w_y187 : ∀ w ∈ wY 187, w ∈ lw_tbl := List.forall_mem_cons.mpr ⟨t_5 (i := 126) (by decide +kernel), List.forall_mem_cons.mpr ⟨t_5 (i := 125) (by decide +kernel), List.forall_mem_cons.mpr ⟨t_0 (i := 35) (by decide +kernel), fun _ h => absurd h List.not_mem_nil⟩⟩⟩
set_option maxRecDepth 20000 in
theorem w_y188 : ∀ w ∈ wY 188, w ∈ lw_tbl := List.forall_mem_cons.mpr ⟨t_5 (i := 221) (by decide +kernel), List.forall_mem_cons.mpr ⟨t_5 (i := 220) (by decide +kernel), List.forall_mem_cons.mpr ⟨t_0 (i := 41) (by decide +kernel), fun _ h => absurd h List.not_mem_nil⟩⟩⟩
set_option maxRecDepth 20000 in
theorem w_y189 : ∀ w ∈ wY 189, w ∈ lw_tbl := List.forall_mem_cons.mpr ⟨t_5 (i := 225) (by decide +kernel), List.forall_mem_cons.mpr ⟨t_5 (i := 224) (by decide +kernel), List.forall_mem_cons.mpr ⟨t_0 (i := 42) (by decide +kernel), fun _ h => absurd h List.not_mem_nil⟩⟩⟩
set_option maxRecDepth 20000 in
theorem w_y190 : ∀ w ∈ wY 190, w ∈ lw_tbl := List.forall_mem_cons.mpr ⟨t_5 (i := 228) (by decide +kernel), List.forall_mem_cons.mpr ⟨t_5 (i := 227) (by decide +kernel), fun _ h => absurd h List.not_mem_nil⟩⟩
set_option maxRecDepth 20000 in
theorem w_y191 : ∀ w ∈ wY 191, w ∈ lw_tbl := List.forall_mem_cons.mpr ⟨t_6 (i := 78) (by decide +kernel), List.forall_mem_cons.mpr ⟨t_6 (i := 77) (by decide +kernel), fun _ h => absurd h List.not_mem_nil⟩⟩
set_option maxRecDepth 20000 in
theorem w_y192 : ∀ w ∈ wY 192, w ∈ lw_tbl := List.forall_mem_cons.mpr ⟨t_6 (i := 83) (by decide +kernel), List.forall_mem_cons.mpr ⟨t_6 (i := 82) (by decide +kernel), List.forall_mem_cons.mpr ⟨t_0 (i := 50) (by decide +kernel), fun _ h => absurd h List.not_mem_nil⟩⟩⟩
set_option maxRecDepth 20000 in
theorem w_y193 : ∀ w ∈ wY 193, w ∈ lw_tbl := List.forall_mem_cons.mpr ⟨t_6 (i := 206) (by decide +kernel), List.forall_mem_cons.mpr ⟨t_6 (i := 204) (by decide +kernel), List.forall_mem_cons.mpr ⟨t_6 (i := 205) (by decide +kernel), fun _ h => absurd h List.not_mem_nil⟩⟩⟩
set_option maxRecDepth 20000 in
theorem w_y194 : ∀ w ∈ wY 194, w ∈ lw_tbl := List.forall_mem_cons.mpr ⟨t_6 (i := 210) (by decide +kernel), List.forall_mem_cons.mpr ⟨t_6 (i := 208) (by decide +kernel), List.forall_mem_cons.mpr ⟨t_6 (i := 209) (by decide +kernel), fun _ h => absurd h List.not_mem_nil⟩⟩⟩
set_option maxRecDepth 20000 in
theorem w_y195 : ∀ w ∈ wY 195, w ∈ lw_tbl := List.forall_mem_cons.mpr ⟨t_6 (i := 214) (by decide +kernel), List.forall_mem_cons.mpr ⟨t_6 (i := 212) (by decide +kernel), List.forall_mem_cons.mpr ⟨t_6 (i := 213) (by decide +kernel), fun _ h => absurd h List.not_mem_nil⟩⟩⟩
set_option maxRecDepth 20000 in
theorem w_y196 : ∀ w ∈ wY 196, w ∈ lw_tbl := List.forall_mem_cons.mpr ⟨t_6 (i := 225) (by decide +kernel), List.forall_mem_cons.mpr ⟨t_6 (i := 224) (by decide +kernel), List.forall_mem_cons.mpr ⟨t_0 (i := 51) (by decide +kernel), fun _ h => absurd h List.not_mem_nil⟩⟩⟩
set_option maxRecDepth 20000 in
theorem w_y197 : ∀ w ∈ wY 197, w ∈ lw_tbl := List.forall_mem_cons.mpr ⟨t_7 (i := 45) (by decide +kernel), List.forall_mem_cons.mpr ⟨t_7 (i := 44) (by decide +kernel), List.forall_mem_cons.mpr ⟨t_0 (i := 57) (by decide +kernel), fun _ h => absurd h List.not_mem_nil⟩⟩⟩
set_option maxRecDepth 20000 in
theorem w_y198 : ∀ w ∈ wY 198, w ∈ lw_tbl := List.forall_mem_cons.mpr ⟨t_7 (i := 129) (by decide +kernel), List.forall_mem_cons.mpr ⟨t_7 (i := 128) (by decide +kernel), List.forall_mem_cons.mpr ⟨t_0 (i := 75) (by decide +kernel), fun _ h => absurd h List.not_mem_nil⟩⟩⟩
set_option maxRecDepth 20000 in
theorem w_y199 : ∀ w ∈ wY 199, w ∈ lw_tbl := List.forall_mem_cons.mpr ⟨t_8 (i := 108) (by decide +kernel), List.forall_mem_cons.mpr ⟨t_8 (i := 107) (by decide +kernel), List.forall_mem_cons.mpr ⟨t_0 (i := 107) (by decide +kernel), fun _ h => absurd h List.not_mem_nil⟩⟩⟩
set_option maxRecDepth 20000 in
theorem w_y200 : ∀ w ∈ wY 200, w ∈ lw_tbl := List.forall_mem_cons.mpr ⟨t_9 (i := 44) (by decide +kernel), List.forall_mem_cons.mpr ⟨t_9 (i := 43) (by decide +kernel), List.forall_mem_cons.mpr ⟨t_0 (i := 129) (by decide +kernel), fun _ h => absurd h List.not_mem_nil⟩⟩⟩
set_option maxRecDepth 20000 in
theorem w_y201 : ∀ w ∈ wY 201, w ∈ lw_tbl := List.forall_mem_cons.mpr ⟨t_6 (i := 221) (by decide +kernel), List.forall_mem_cons.mpr ⟨t_6 (i := 220) (by decide +kernel), fun _ h => absurd h List.not_mem_nil⟩⟩
set_option maxRecDepth 20000 in
theorem w_y202 : ∀ w ∈ wY 202, w ∈ lw_tbl := List.forall_mem_cons.mpr ⟨t_6 (i := 236) (by decide +kernel), List.forall_mem_cons.mpr ⟨t_6 (i := 235) (by decide +kernel), fun _ h => absurd h List.not_mem_nil⟩⟩
set_option maxRecDepth 20000 in
theorem w_y203 : ∀ w ∈ wY 203, w ∈ lw_tbl := List.forall_mem_cons.mpr ⟨t_6 (i := 218) (by decide +kernel), List.forall_mem_cons.mpr ⟨t_6 (i := 216) (by decide +kernel), List.forall_mem_cons.mpr ⟨t_6 (i := 217) (by decide +kernel), fun _ h => absurd h List.not_mem_nil⟩⟩⟩
set_option maxRecDepth 20000 in
theorem w_y204 : ∀ w ∈ wY 204, w ∈ lw_tbl := List.forall_mem_cons.mpr ⟨t_6 (i := 233) (by decide +kernel), List.forall_mem_cons.mpr ⟨t_6 (i := 232) (by decide +kernel), List.forall_mem_cons.mpr ⟨t_0 (i := 52) (by decide +kernel), fun _ h => absurd h List.not_mem_nil⟩⟩⟩
set_option maxRecDepth 20000 in
theorem w_y205 : ∀ w ∈ wY 205, w ∈ lw_tbl := List.forall_mem_cons.mpr ⟨t_6 (i := 229) (by decide +kernel), List.forall_mem_cons.mpr ⟨t_6 (i := 227) (by decide +kernel), List.forall_mem_cons.mpr ⟨t_6 (i := 228) (by decide +kernel), fun _ h => absurd h List.not_mem_nil⟩⟩⟩
set_option maxRecDepth 20000 in
theorem w_y206 : ∀ w ∈ wY 206, w ∈ lw_tbl := List.forall_mem_cons.mpr ⟨t_7 (i := 0) (by decide +kernel), List.forall_mem_cons.mpr ⟨t_6 (i := 238) (by decide +kernel), List.forall_mem_cons.mpr ⟨t_6 (i := 239) (by decide +kernel), fun _ h => absurd h List.not_mem_nil⟩⟩⟩
set_option maxRecDepth 20000 in
theorem w_y207 : ∀ w ∈ wY 207, w ∈ lw_tbl := List.forall_mem_cons.mpr ⟨t_7 (i := 5) (by decide +kernel), List.forall_mem_cons.mpr ⟨t_7 (i := 3) (by decide +kernel), List.forall_mem_cons.mpr ⟨t_7 (i := 4) (by decide +kernel), fun _ h => absurd h List.not_mem_nil⟩⟩⟩
set_option maxRecDepth 20000 in
theorem w_y208 : ∀ w ∈ wY 208, w ∈ lw_tbl := List.forall_mem_cons.mpr ⟨t_8 (i := 30) (by decide +kernel), List.forall_mem_cons.mpr ⟨t_8 (i := 29) (by decide +kernel), fun _ h => absurd h List.not_mem_nil⟩⟩
set_option maxRecDepth 20000 in
theorem w_y209 : ∀ w ∈ wY 209, w ∈ lw_tbl := List.forall_mem_cons.mpr ⟨t_7 (i := 9) (by decide +kernel), List.forall_mem_cons.mpr ⟨t_7 (i := 7) (by decide +kernel), List.forall_mem_cons.mpr ⟨t_7 (i := 8) (by decide +kernel), fun _ h => absurd h List.not_mem_nil⟩⟩⟩
set_option maxRecDepth 20000 in
theorem w_y210 : ∀ w ∈ wY 210, w ∈ lw_tbl := List.forall_mem_cons.mpr ⟨t_7 (i := 13) (by decide +kernel), List.forall_mem_cons.mpr ⟨t_7 (i := 12) (by decide +kernel), List.forall_mem_cons.mpr ⟨t_0 (i := 53) (by decide +kernel), fun _ h => absurd h List.not_mem_nil⟩⟩⟩
set_option maxRecDepth 20000 in
theorem w_y211 : ∀ w ∈ wY 211, w ∈ lw_tbl := List.forall_mem_cons.mpr ⟨t_7 (i := 33) (by decide +kernel), List.forall_mem_cons.mpr ⟨t_7 (i := 32) (by decide +kernel), List.forall_mem_cons.mpr ⟨t_0 (i := 56) (by decide +kernel), fun _ h => absurd h List.not_mem_nil⟩⟩⟩
set_option maxRecDepth 20000 in
theorem w_y212 : ∀ w ∈ wY 212, w ∈ lw_tbl := List.forall_mem_cons.mpr ⟨t_7 (i := 36) (by decide +kernel), List.forall_mem_cons.mpr ⟨t_7 (i := 35) (by decide +kernel), fun _ h => absurd h List.not_mem_nil⟩⟩
set_option maxRecDepth 20000 in
theorem w_y213 : ∀ w ∈ wY 213, w ∈ lw_tbl := List.forall_mem_cons.mpr ⟨t_7 (i := 39) (by decide +kernel), List.forall_mem_cons.mpr ⟨t_7 (i := 38) (by decide +kernel), fun _ h => absurd h List.not_mem_nil⟩⟩
set_option maxRecDepth 20000 in
theorem w_y214 : ∀ w ∈ wY 214, w ∈ lw_tbl := List.forall_mem_cons.mpr ⟨t_7 (i := 29) (by decide +kernel), List.forall_mem_cons.mpr ⟨t_7 (i := 28) (by decide +kernel), List.forall_mem_cons.mpr ⟨t_0 (i := 55) (by decide +kernel), fun _ h => absurd h List.not_mem_nil⟩⟩⟩
set_option maxRecDepth 20000 in
theorem w_y215 : ∀ w ∈ wY 215, w ∈ lw_tbl := List.forall_mem_cons.mpr ⟨t_7 (i := 121) (by decide +kernel), List.forall_mem_cons.mpr ⟨t_7 (i := 120) (by decide +kernel), List.forall_mem_cons.mpr ⟨t_0 (i := 73) (by decide +kernel), fun _ h => absurd h List.not_mem_nil⟩⟩⟩
set_option maxRecDepth 20000 in
theorem w_y216 : ∀ w ∈ wY 216, w ∈ lw_tbl := List.forall_mem_cons.mpr ⟨t_7 (i := 54) (by decide +kernel), List.forall_mem_cons.mpr ⟨t_7 (i := 53) (by decide +kernel), List.forall_mem_cons.mpr ⟨t_0 (i := 59) (by decide +kernel), fun _ h => absurd h List.not_mem_nil⟩⟩⟩
set_option maxRecDepth 20000 in
theorem w_y217 : ∀ w ∈ wY 217, w ∈ lw_tbl := List.forall_mem_cons.mpr ⟨t_7 (i := 60) (by decide +kernel), List.forall_mem_cons.mpr ⟨t_7 (i := 59) (by decide +kernel), List.forall_mem_cons.mpr ⟨t_0 (i := 60) (by decide +kernel), fun _ h => absurd h List.not_mem_nil⟩⟩⟩
set_option maxRecDepth 20000 in
theorem w_y218 : ∀ w ∈ wY 218, w ∈ lw_tbl := List.forall_mem_cons.mpr ⟨t_7 (i := 25) (by decide +kernel), List.forall_mem_cons.mpr ⟨t_7 (i := 24) (by decide +kernel), List.forall_mem_cons.mpr ⟨t_0 (i := 54) (by decide +kernel), fun _ h => absurd h List.not_mem_nil⟩⟩⟩
set_option maxRecDepth 20000 in
theorem w_y219 : ∀ w ∈ wY 219, w ∈ lw_tbl := List.forall_mem_cons.mpr ⟨t_7 (i := 117) (by decide +kernel), List.forall_mem_cons.mpr ⟨t_7 (i := 116) (by decide +kernel), List.forall_mem_cons.mpr ⟨t_0 (i := 72) (by decide +kernel), fun _ h => absurd h List.not_mem_nil⟩⟩⟩
set_option maxRecDepth 20000 in
theorem w_y220 : ∀ w ∈ wY 220, w ∈ lw_tbl := List.forall_mem_cons.mpr ⟨t_7 (i := 79) (by decide +kernel), List.forall_mem_cons.mpr ⟨t_7 (i := 78) (by decide +kernel), List.forall_mem_cons.mpr ⟨t_0 (i := 64) (by decide +kernel), fun _ h => absurd h List.not_mem_nil⟩⟩⟩
set_option maxRecDepth 20000 in
theorem w_y221 : ∀ w ∈ wY 221, w ∈ lw_tbl := List.forall_mem_cons.mpr ⟨t_7 (i := 64) (by decide +kernel), List.forall_mem_cons.mpr ⟨t_7 (i := 63) (by decide +kernel), List.forall_mem_cons.mpr ⟨t_0 (i := 61) (by decide +kernel), fun _ h => absurd h List.not_mem_nil⟩⟩⟩
set_option maxRecDepth 20000 in
theorem w_y222 : ∀ w ∈ wY 222, w ∈ lw_tbl := List.forall_mem_cons.mpr ⟨t_7 (i := 98) (by decide +kernel), List.forall_mem_cons.mpr ⟨t_7 (i := 97) (by decide +kernel), List.forall_mem_cons.mpr ⟨t_0 (i := 68) (by decide +kernel), fun _ h => absurd h List.not_mem_nil⟩⟩⟩
set_option maxRecDepth 20000 in
theorem w_y223 : ∀ w ∈ wY 223, w ∈ lw_tbl := List.forall_mem_cons.mpr ⟨t_7 (i := 106) (by decide +kernel), List.forall_mem_cons.mpr ⟨t_7 (i := 105) (by decide +kernel), List.forall_mem_cons.mpr ⟨t_0 (i := 70) (by decide +kernel), fun _ h => absurd h List.not_mem_nil⟩⟩⟩
set_option maxRecDepth 20000 in
theorem w_y224 : ∀ w ∈ wY 224, w ∈ lw_tbl := List.forall_mem_cons.mpr ⟨t_7 (i := 102) (by decide +kernel), List.forall_mem_cons.mpr ⟨t_7 (i := 101) (by decide +kernel), List.forall_mem_cons.mpr ⟨t_0 (i := 69) (by decide +kernel), fun _ h => absurd h List.not_mem_nil⟩⟩⟩
set_option maxRecDepth 20000 in
theorem w_y225 : ∀ w ∈ wY 225, w ∈ lw_tbl := List.forall_mem_cons.mpr ⟨t_7 (i := 17) (by decide +kernel), List.forall_mem_cons.mpr ⟨t_7 (i := 15) (by decide +kernel), List.forall_mem_cons.mpr ⟨t_7 (i := 16) (by decide +kernel), fun _ h => absurd h List.not_mem_nil⟩⟩⟩
set_option maxRecDepth 20000 in
theorem w_y226 : ∀ w ∈ wY 226, w ∈ lw_tbl := List.forall_mem_cons.mpr ⟨t_7 (i := 125) (by decide +kernel), List.forall_mem_cons.mpr ⟨t_7 (i := 124) (by decide +kernel), List.forall_mem_cons.mpr ⟨t_0 (i := 74) (by decide +kernel), fun _ h => absurd h List.not_mem_nil⟩⟩⟩
set_option maxRecDepth 20000 in
theorem w_y227 : ∀ w ∈ wY 227, w ∈ lw_tbl := List.forall_mem_cons.mpr ⟨t_7 (i := 75) (by decide +kernel), List.forall_mem_cons.mpr ⟨t_7 (i := 74) (by decide +kernel), fun _ h => absurd h List.not_mem_nil⟩⟩
set_option maxRecDepth 20000 in
theorem w_y228 : ∀ w ∈ wY 228, w ∈ lw_tbl := List.forall_mem_cons.mpr ⟨t_7 (i := 94) (by decide +kernel), List.forall_mem_cons.mpr ⟨t_7 (i := 93) (by decide +kernel), fun _ h => absurd h List.not_mem_nil⟩⟩
set_option maxRecDepth 20000 in
theorem w_y229 : ∀ w ∈ wY 229, w ∈ lw_tbl := List.forall_mem_cons.mpr ⟨t_7 (i := 113) (by decide +kernel), List.forall_mem_cons.mpr ⟨t_7 (i := 112) (by decide +kernel), fun _ h => absurd h List.not_mem_nil⟩⟩
set_option maxRecDepth 20000 in
theorem w_y230 : ∀ w ∈ wY 230, w ∈ lw_tbl := List.forall_mem_cons.mpr ⟨t_7 (i := 87) (by decide +kernel), List.forall_mem_cons.mpr ⟨t_7 (i := 86) (by decide +kernel), List.forall_mem_cons.mpr ⟨t_0 (i := 66) (by decide +kernel), fun _ h => absurd h List.not_mem_nil⟩⟩⟩
set_option maxRecDepth 20000 in
theorem w_y231 : ∀ w ∈ wY 231, w ∈ lw_tbl := List.forall_mem_cons.mpr ⟨t_7 (i := 83) (by decide +kernel), List.forall_mem_cons.mpr ⟨t_7 (i := 82) (by decide +kernel), List.forall_mem_cons.mpr ⟨t_0 (i := 65) (by decide +kernel), fun _ h => absurd h List.not_mem_nil⟩⟩⟩
set_option maxRecDepth 20000 in
theorem w_y232 : ∀ w ∈ wY 232, w ∈ lw_tbl := List.forall_mem_cons.mpr ⟨t_7 (i := 72) (by decide +kernel), List.forall_mem_cons.mpr ⟨t_7 (i := 71) (by decide +kernel), List.forall_mem_cons.mpr ⟨t_0 (i := 63) (by decide +kernel), fun _ h => absurd h List.not_mem_nil⟩⟩⟩
set_option maxRecDepth 20000 in
theorem w_y233 : ∀ w ∈ wY 233, w ∈ lw_tbl := List.forall_mem_cons.mpr ⟨t_7 (i := 68) (by decide +kernel), List.forall_mem_cons.mpr ⟨t_7 (i := 67) (by decide +kernel), List.forall_mem_cons.mpr ⟨t_0 (i := 62) (by decide +kernel), fun _ h => absurd h List.not_mem_nil⟩⟩⟩
set_option maxRecDepth 20000 in
theorem w_y234 : ∀ w ∈ wY 234, w ∈ lw_tbl := List.forall_mem_cons.mpr ⟨t_7 (i := 91) (by decide +kernel), List.forall_mem_cons.mpr ⟨t_7 (i := 90) (by decide +kernel), List.forall_mem_cons.mpr ⟨t_0 (i := 67) (by decide +kernel), fun _ h => absurd h List.not_mem_nil⟩⟩⟩
set_option maxRecDepth 20000 in
theorem w_y235 : ∀ w ∈ wY 235, w ∈ lw_tbl := List.forall_mem_cons.mpr ⟨t_7 (i := 110) (by decide +kernel), List.forall_mem_cons.mpr ⟨t_7 (i := 109) (by decide +kernel), List.forall_mem_cons.mpr ⟨t_0 (i := 71) (by decide +kernel), fun _ h => absurd h List.not_mem_nil⟩⟩⟩
set_option maxRecDepth 20000 in
theorem w_y236 : ∀ w ∈ wY 236, w ∈ lw_tbl := List.forall_mem_cons.mpr ⟨t_7 (i := 49) (by decide +kernel), List.forall_mem_cons.mpr ⟨t_7 (i := 48) (by decide +kernel), List.forall_mem_cons.mpr ⟨t_0 (i := 58) (by decide +kernel), fun _ h => absurd h List.not_mem_nil⟩⟩⟩
set_option maxRecDepth 20000 in
theorem w_y237 : ∀ w ∈ wY 237, w ∈ lw_tbl := List.forall_mem_cons.mpr ⟨t_7 (i := 21) (by decide +kernel), List.forall_mem_cons.mpr ⟨t_7 (i := 19) (by decide +kernel), List.forall_mem_cons.mpr ⟨t_7 (i := 20) (by decide +kernel), fun _ h => absurd h List.not_mem_nil⟩⟩⟩
set_option maxRecDepth 20000 in
theorem w_y238 : ∀ w ∈ wY 238, w ∈ lw_tbl := List.forall_mem_cons.mpr ⟨t_7 (i := 145) (by decide +kernel), List.forall_mem_cons.mpr ⟨t_7 (i := 144) (by decide +kernel), List.forall_mem_cons.mpr ⟨t_0 (i := 78) (by decide +kernel), fun _ h => absurd h List.not_mem_nil⟩⟩⟩
set_option maxRecDepth 20000 in
theorem w_y239 : ∀ w ∈ wY 239, w ∈ lw_tbl := List.forall_mem_cons.mpr ⟨t_7 (i := 149) (by decide +kernel), List.forall_mem_cons.mpr ⟨t_7 (i := 148) (by decide +kernel), List.forall_mem_cons.mpr ⟨t_0 (i := 79) (by decide +kernel), fun _ h => absurd h List.not_mem_nil⟩⟩⟩
set_option maxRecDepth 20000 in
theorem w_y240 : ∀ w ∈ wY 240, w ∈ lw_tbl := List.forall_mem_cons.mpr ⟨t_7 (i := 153) (by decide +kernel), List.forall_mem_cons.mpr ⟨t_7 (i := 152) (by decide +kernel), List.forall_mem_cons.mpr ⟨t_0 (i := 80) (by decide +kernel), fun _ h => absurd h List.not_mem_nil⟩⟩⟩
set_option maxRecDepth 20000 in
theorem w_y241 : ∀ w ∈ wY 241, w ∈ lw_tbl := List.forall_mem_cons.mpr ⟨t_7 (i := 141) (by decide +kernel), List.forall_mem_cons.mpr ⟨t_7 (i := 140) (by decide +kernel), List.forall_mem_cons.mpr ⟨t_0 (i := 77) (by decide +kernel), fun _ h => absurd h List.not_mem_nil⟩⟩⟩
set_option maxRecDepth 20000 in
theorem w_y242 : ∀ w ∈ wY 242, w ∈ lw_tbl := List.forall_mem_cons.mpr ⟨t_7 (i := 137) (by decide +kernel), List.forall_mem_cons.mpr ⟨t_7 (i := 136) (by decide +kernel), List.forall_mem_cons.mpr ⟨t_0 (i := 76) (by decide +kernel), fun _ h => absurd h List.not_mem_nil⟩⟩⟩
set_option maxRecDepth 20000 in
theorem w_y243 : ∀ w ∈ wY 243, w ∈ lw_tbl := List.forall_mem_cons.mpr ⟨t_7 (i := 133) (by decide +kernel), List.forall_mem_cons.mpr ⟨t_7 (i := 131) (by decide +kernel), List.forall_mem_cons.mpr ⟨t_7 (i := 132) (by decide +kernel), fun _ h => absurd h List.not_mem_nil⟩⟩⟩
set_option maxRecDepth 20000 in
theorem w_y244 : ∀ w ∈ wY 244, w ∈ lw_tbl := List.forall_mem_cons.mpr ⟨t_7 (i := 181) (by decide +kernel), List.forall_mem_cons.mpr ⟨t_7 (i := 180) (by decide +kernel), List.forall_mem_cons.mpr ⟨t_0 (i := 85) (by decide +kernel), fun _ h => absurd h List.not_mem_nil⟩⟩⟩
set_option maxRecDepth 20000 in
theorem w_y245 : ∀ w ∈ wY 245, w ∈ lw_tbl := List.forall_mem_cons.mpr ⟨t_7 (i := 214) (by decide +kernel), List.forall_mem_cons.mpr ⟨t_7 (i := 213) (by decide +kernel), List.forall_mem_cons.mpr ⟨t_0 (i := 92) (by decide +kernel), fun _ h => absurd h List.not_mem_nil⟩⟩⟩
set_option maxRecDepth 20000 in
theorem w_y246 : ∀ w ∈ wY 246, w ∈ lw_tbl := List.forall_mem_cons.mpr ⟨t_8 (i := 171) (by decide +kernel), List.forall_mem_cons.mpr ⟨t_8 (i := 170) (by decide +kernel), List.forall_mem_cons.mpr ⟨t_0 (i := 113) (by decide +kernel), fun _ h => absurd h List.not_mem_nil⟩⟩⟩
set_option maxRecDepth 20000 in
theorem w_y247 : ∀ w ∈ wY 247, w ∈ lw_tbl := List.forall_mem_cons.mpr ⟨t_8 (i := 42) (by decide +kernel), List.forall_mem_cons.mpr ⟨t_8 (i := 41) (by decide +kernel), List.forall_mem_cons.mpr ⟨t_0 (i := 102) (by decide +kernel), fun _ h => absurd h List.not_mem_nil⟩⟩⟩
set_option maxRecDepth 20000 in
theorem w_y248 : ∀ w ∈ wY 248, w ∈ lw_tbl := List.forall_mem_cons.mpr ⟨t_8 (i := 135) (by decide +kernel), List.forall_mem_cons.mpr ⟨t_8 (i := 134) (by decide +kernel), fun _ h => absurd h List.not_mem_nil⟩⟩
set_option maxRecDepth 20000 in
theorem w_y249 : ∀ w ∈ wY 249, w ∈ lw_tbl := List.forall_mem_cons.mpr ⟨t_8 (i := 158) (by decide +kernel), List.forall_mem_cons.mpr ⟨t_8 (i := 157) (by decide +kernel), fun _ h => absurd h List.not_mem_nil⟩⟩
set_option maxRecDepth 20000 in
theorem w_y250 : ∀ w ∈ wY 250, w ∈ lw_tbl := List.forall_mem_cons.mpr ⟨t_7 (i := 201) (by decide +kernel), List.forall_mem_cons.mpr ⟨t_7 (i := 200) (by decide +kernel), List.forall_mem_cons.mpr ⟨t_0 (i := 90) (by decide +kernel), fun _ h => absurd h List.not_mem_nil⟩⟩⟩
set_option maxRecDepth 20000 in
theorem w_y251 : ∀ w ∈ wY 251, w ∈ lw_tbl := List.forall_mem_cons.mpr ⟨t_7 (i := 169) (by decide +kernel), List.forall_mem_cons.mpr ⟨t_7 (i := 168) (by decide +kernel), List.forall_mem_cons.mpr ⟨t_0 (i := 83) (by decide +kernel), fun _ h => absurd h List.not_mem_nil⟩⟩⟩
set_option maxRecDepth 20000 in
theorem w_y252 : ∀ w ∈ wY 252, w ∈ lw_tbl := List.forall_mem_cons.mpr ⟨t_7 (i := 197) (by decide +kernel), List.forall_mem_cons.mpr ⟨t_7 (i := 196) (by decide +kernel), List.forall_mem_cons.mpr ⟨t_0 (i := 89) (by decide +kernel), fun _ h => absurd h List.not_mem_nil⟩⟩⟩
set_option maxRecDepth 20000 in
theorem w_y253 : ∀ w ∈ wY 253, w ∈ lw_tbl := List.forall_mem_cons.mpr ⟨t_7 (i := 193) (by decide +kernel), List.forall_mem_cons.mpr ⟨t_7 (i := 192) (by decide +kernel), List.forall_mem_cons.mpr ⟨t_0 (i := 88) (by decide +kernel), fun _ h => absurd h List.not_mem_nil⟩⟩⟩
set_option maxRecDepth 20000 in
theorem w_y254 : ∀ w ∈ wY 254, w ∈ lw_tbl := List.forall_mem_cons.mpr ⟨t_7 (i := 205) (by decide +kernel), List.forall_mem_cons.mpr ⟨t_7 (i := 204) (by decide +kernel), List.forall_mem_cons.mpr ⟨t_0 (i := 91) (by decide +kernel), fun _ h => absurd h List.not_mem_nil⟩⟩⟩
set_option maxRecDepth 20000 in
theorem w_y255 : ∀ w ∈ wY 255, w ∈ lw_tbl := List.forall_mem_cons.mpr ⟨t_7 (i := 189) (by decide +kernel), List.forall_mem_cons.mpr ⟨t_7 (i := 188) (by decide +kernel), List.forall_mem_cons.mpr ⟨t_0 (i := 87) (by decide +kernel), fun _ h => absurd h List.not_mem_nil⟩⟩⟩
set_option maxRecDepth 20000 in
theorem w_y256 : ∀ w ∈ wY 256, w ∈ lw_tbl := List.forall_mem_cons.mpr ⟨t_7 (i := 165) (by decide +kernel), List.forall_mem_cons.mpr ⟨t_7 (i := 164) (by decide +kernel), List.forall_mem_cons.mpr ⟨t_0 (i := 82) (by decide +kernel), fun _ h => absurd h List.not_mem_nil⟩⟩⟩
set_option maxRecDepth 20000 in
theorem w_y257 : ∀ w ∈ wY 257, w ∈ lw_tbl := List.forall_mem_cons.mpr ⟨t_7 (i := 161) (by decide +kernel), List.forall_mem_cons.mpr ⟨t_7 (i := 160) (by decide +kernel), List.forall_mem_cons.mpr ⟨t_0 (i := 81) (by decide +kernel), fun _ h => absurd h List.not_mem_nil⟩⟩⟩
set_option maxRecDepth 20000 in
theorem w_y258 : ∀ w ∈ wY 258, w ∈ lw_tbl := List.forall_mem_cons.mpr ⟨t_7 (i := 185) (by decide +kernel), List.forall_mem_cons.mpr ⟨t_7 (i := 184) (by decide +kernel), List.forall_mem_cons.mpr ⟨t_0 (i := 86) (by decide +kernel), fun _ h => absurd h List.not_mem_nil⟩⟩⟩
set_option maxRecDepth 20000 in
theorem w_y259 : ∀ w ∈ wY 259, w ∈ lw_tbl := List.forall_mem_cons.mpr ⟨t_7 (i := 173) (by decide +kernel), List.forall_mem_cons.mpr ⟨t_7 (i := 172) (by decide +kernel), List.forall_mem_cons.mpr ⟨t_0 (i := 84) (by decide +kernel), fun _ h => absurd h List.not_mem_nil⟩⟩⟩
set_option maxRecDepth 20000 in
theorem w_y260 : ∀ w ∈ wY 260, w ∈ lw_tbl := List.forall_mem_cons.mpr ⟨t_7 (i := 157) (by decide +kernel), List.forall_mem_cons.mpr ⟨t_7 (i := 155) (by decide +kernel), List.forall_mem_cons.mpr ⟨t_7 (i := 156) (by decide +kernel), fun _ h => absurd h List.not_mem_nil⟩⟩⟩
set_option maxRecDepth 20000 in
theorem w_y261 : ∀ w ∈ wY 261, w ∈ lw_tbl := List.forall_mem_cons.mpr ⟨t_7 (i := 177) (by decide +kernel), List.forall_mem_cons.mpr ⟨t_7 (i := 175) (by decide +kernel), List.forall_mem_cons.mpr ⟨t_7 (i := 176) (by decide +kernel), fun _ h => absurd h List.not_mem_nil⟩⟩⟩
set_option maxRecDepth 20000 in
theorem w_y262 : ∀ w ∈ wY 262, w ∈ lw_tbl := List.forall_mem_cons.mpr ⟨t_7 (i := 210) (by decide +kernel), List.forall_mem_cons.mpr ⟨t_7 (i := 208) (by decide +kernel), List.forall_mem_cons.mpr ⟨t_7 (i := 209) (by decide +kernel), fun _ h => absurd h List.not_mem_nil⟩⟩⟩
set_option maxRecDepth 20000 in
theorem w_y263 : ∀ w ∈ wY 263, w ∈ lw_tbl := List.forall_mem_cons.mpr ⟨t_7 (i := 218) (by decide +kernel), List.forall_mem_cons.mpr ⟨t_7 (i := 216) (by decide +kernel), List.forall_mem_cons.mpr ⟨t_7 (i := 217) (by decide +kernel), fun _ h => absurd h List.not_mem_nil⟩⟩⟩
set_option maxRecDepth 20000 in
theorem w_y264 : ∀ w ∈ wY 264, w ∈ lw_tbl := List.forall_mem_cons.mpr ⟨t_7 (i := 234) (by decide +kernel), List.forall_mem_cons.mpr ⟨t_7 (i := 233) (by decide +kernel), List.forall_mem_cons.mpr ⟨t_0 (i := 95) (by decide +kernel), fun _ h => absurd h List.not_mem_nil⟩⟩⟩
set_option maxRecDepth 20000 in
theorem w_y265 : ∀ w ∈ wY 265, w ∈ lw_tbl := List.forall_mem_cons.mpr ⟨t_7 (i := 230) (by decide +kernel), List.forall_mem_cons.mpr ⟨t_7 (i := 229) (by decide +kernel), List.forall_mem_cons.mpr ⟨t_0 (i := 94) (by decide +kernel), fun _ h => absurd h List.not_mem_nil⟩⟩⟩
set_option maxRecDepth 20000 in
theorem w_y266 : ∀ w ∈ wY 266, w ∈ lw_tbl := List.forall_mem_cons.mpr ⟨t_7 (i := 238) (by decide +kernel), List.forall_mem_cons.mpr ⟨t_7 (i := 237) (by decide +kernel), List.forall_mem_cons.mpr ⟨t_0 (i := 96) (by decide +kernel), fun _ h => absurd h List.not_mem_nil⟩⟩⟩
set_option maxRecDepth 20000 in
theorem w_y267 : ∀ w ∈ wY 267, w ∈ lw_tbl := List.forall_mem_cons.mpr ⟨t_7 (i := 226) (by decide +kernel), List.forall_mem_cons.mpr ⟨t_7 (i := 225) (by decide +kernel), List.forall_mem_cons.mpr ⟨t_0 (i := 93) (by decide +kernel), fun _ h => absurd h List.not_mem_nil⟩⟩⟩
set_option maxRecDepth 20000 in
theorem w_y268 : ∀ w ∈ wY 268, w ∈ lw_tbl := List.forall_mem_cons.mpr ⟨t_7 (i := 222) (by decide +kernel), List.forall_mem_cons.mpr ⟨t_7 (i := 220) (by decide +kernel), List.forall_mem_cons.mpr ⟨t_7 (i := 221) (by decide +kernel), fun _ h => absurd h List.not_mem_nil⟩⟩⟩
set_option maxRecDepth 20000 in
theorem w_y269 : ∀ w ∈ wY 269, w ∈ lw_tbl := List.forall_mem_cons.mpr ⟨t_8 (i := 6) (by decide +kernel), List.forall_mem_cons.mpr ⟨t_8 (i := 5) (by decide +kernel), List.forall_mem_cons.mpr ⟨t_0 (i := 97) (by decide +kernel), fun _ h => absurd h List.not_mem_nil⟩⟩⟩
set_option maxRecDepth 20000 in
theorem w_y270 : ∀ w ∈ wY 270, w ∈ lw_tbl := List.forall_mem_cons.mpr ⟨t_8 (i := 2) (by decide +kernel), List.forall_mem_cons.mpr ⟨t_8 (i := 0) (by decide +kernel), List.forall_mem_cons.mpr ⟨t_8 (i := 1) (by decide +kernel), fun _ h => absurd h List.not_mem_nil⟩⟩⟩
set_option maxRecDepth 20000 in
theorem w_y271 : ∀ w ∈ wY 271, w ∈ lw_tbl := List.forall_mem_cons.mpr ⟨t_8 (i := 14) (by decide +kernel), List.forall_mem_cons.mpr ⟨t_8 (i := 13) (by decide +kernel), List.forall_mem_cons.mpr ⟨t_0 (i := 98) (by decide +kernel), fun _ h => absurd h List.not_mem_nil⟩⟩⟩
set_option maxRecDepth 20000 in
theorem w_y272 : ∀ w ∈ wY 272, w ∈ lw_tbl := List.forall_mem_cons.mpr ⟨t_8 (i := 10) (by decide +kernel), List.forall_mem_cons.mpr ⟨t_8 (i := 8) (by decide +kernel), List.forall_mem_cons.mpr ⟨t_8 (i := 9) (by decide +kernel), fun _ h => absurd h List.not_mem_nil⟩⟩⟩
set_option maxRecDepth 20000 in
theorem w_y273 : ∀ w ∈ wY 273, w ∈ lw_tbl := List.forall_mem_cons.mpr ⟨t_8 (i := 22) (by decide +kernel), List.forall_mem_cons.mpr ⟨t_8 (i := 21) (by decide +kernel), List.forall_mem_cons.mpr ⟨t_0 (i := 99) (by decide +kernel), fun _ h => absurd h List.not_mem_nil⟩⟩⟩
set_option maxRecDepth 20000 in
theorem w_y274 : ∀ w ∈ wY 274, w ∈ lw_tbl := List.forall_mem_cons.mpr ⟨t_8 (i := 18) (by decide +kernel), List.forall_mem_cons.mpr ⟨t_8 (i := 16) (by decide +kernel), List.forall_mem_cons.mpr ⟨t_8 (i := 17) (by decide +kernel), fun _ h => absurd h List.not_mem_nil⟩⟩⟩
set_option maxRecDepth 20000 in
theorem w_y275 : ∀ w ∈ wY 275, w ∈ lw_tbl := List.forall_mem_cons.mpr ⟨t_8 (i := 38) (by decide +kernel), List.forall_mem_cons.mpr ⟨t_8 (i := 37) (by decide +kernel), List.forall_mem_cons.mpr ⟨t_0 (i := 101) (by decide +kernel), fun _ h => absurd h List.not_mem_nil⟩⟩⟩
set_option maxRecDepth 20000 in
theorem w_y276 : ∀ w ∈ wY 276, w ∈ lw_tbl := List.forall_mem_cons.mpr ⟨t_8 (i := 34) (by decide +kernel), List.forall_mem_cons.mpr ⟨t_8 (i := 33) (by decide +kernel), List.forall_mem_cons.mpr ⟨t_0 (i := 100) (by decide +kernel), fun _ h => absurd h List.not_mem_nil⟩⟩⟩
set_option maxRecDepth 20000 in
theorem w_y277 : ∀ w ∈ wY 277, w ∈ lw_tbl := List.forall_mem_cons.mpr ⟨t_8 (i := 26) (by decide +kernel), List.forall_mem_cons.mpr ⟨t_8 (i := 24) (by decide +kernel), List.forall_mem_cons.mpr ⟨t_8 (i := 25) (by decide +kernel), fun _ h => absurd h List.not_mem_nil⟩⟩⟩
set_option maxRecDepth 20000 in
theorem w_y278 : ∀ w ∈ wY 278, w ∈ lw_tbl := List.forall_mem_cons.mpr ⟨t_8 (i := 46) (by decide +kernel), List.forall_mem_cons.mpr ⟨t_8 (i := 44) (by decide +kernel), List.forall_mem_cons.mpr ⟨t_8 (i := 45) (by decide +kernel), fun _ h => absurd h List.not_mem_nil⟩⟩⟩
set_option maxRecDepth 20000 in
theorem w_y279 : ∀ w ∈ wY 279, w ∈ lw_tbl := List.forall_mem_cons.mpr ⟨t_8 (i := 52) (by decide +kernel), List.forall_mem_cons.mpr ⟨t_8 (i := 50) (by decide +kernel), List.forall_mem_cons.mpr ⟨t_8 (i := 51) (by decide +kernel), fun _ h => absurd h List.not_mem_nil⟩⟩⟩
set_option maxRecDepth 20000 in
theorem w_y280 : ∀ w ∈ wY 280, w ∈ lw_tbl := List.forall_mem_cons.mpr ⟨t_8 (i := 56) (by decide +kernel), List.forall_mem_cons.mpr ⟨t_8 (i := 54) (by decide +kernel), List.forall_mem_cons.mpr ⟨t_8 (i := 55) (by decide +kernel), fun _ h => absurd h List.not_mem_nil⟩⟩⟩
set_option maxRecDepth 20000 in
theorem w_y281 : ∀ w ∈ wY 281, w ∈ lw_tbl := List.forall_mem_cons.mpr ⟨t_8 (i := 61) (by decide +kernel), List.forall_mem_cons.mpr ⟨t_8 (i := 59) (by decide +kernel), List.forall_mem_cons.mpr ⟨t_8 (i := 60) (by decide +kernel), fun _ h => absurd h List.not_mem_nil⟩⟩⟩
set_option maxRecDepth 20000 in
theorem w_y282 : ∀ w ∈ wY 282, w ∈ lw_tbl := List.forall_mem_cons.mpr ⟨t_8 (i := 66) (by decide +kernel), List.forall_mem_cons.mpr ⟨t_8 (i := 64) (by decide +kernel), List.forall_mem_cons.mpr ⟨t_8 (i := 65) (by decide +kernel), fun _ h => absurd h List.not_mem_nil⟩⟩⟩
set_option maxRecDepth 20000 in
theorem w_y283 : ∀ w ∈ wY 283, w ∈ lw_tbl := List.forall_mem_cons.mpr ⟨t_9 (i := 4) (by decide +kernel), List.forall_mem_cons.mpr ⟨t_9 (i := 3) (by decide +kernel), fun _ h => absurd h List.not_mem_nil⟩⟩
set_option maxRecDepth 20000 in
theorem w_y284 : ∀ w ∈ wY 284, w ∈ lw_tbl := List.forall_mem_cons.mpr ⟨t_8 (i := 88) (by decide +kernel), List.forall_mem_cons.mpr ⟨t_8 (i := 87) (by decide +kernel), List.forall_mem_cons.mpr ⟨t_0 (i := 104) (by decide +kernel), fun _ h => absurd h List.not_mem_nil⟩⟩⟩
set_option maxRecDepth 20000 in
theorem w_y285 : ∀ w ∈ wY 285, w ∈ lw_tbl := List.forall_mem_cons.mpr ⟨t_8 (i := 92) (by decide +kernel), List.forall_mem_cons.mpr ⟨t_8 (i := 91) (by decide +kernel), List.forall_mem_cons.mpr ⟨t_0 (i := 105) (by decide +kernel), fun _ h => absurd h List.not_mem_nil⟩⟩⟩
set_option maxRecDepth 20000 in
theorem w_y286 : ∀ w ∈ wY 286, w ∈ lw_tbl := List.forall_mem_cons.mpr ⟨t_8 (i := 72) (by decide +kernel), List.forall_mem_cons.mpr ⟨t_8 (i := 70) (by decide +kernel), List.forall_mem_cons.mpr ⟨t_8 (i := 71) (by decide +kernel), fun _ h => absurd h List.not_mem_nil⟩⟩⟩
set_option maxRecDepth 20000 in
theorem w_y287 : ∀ w ∈ wY 287, w ∈ lw_tbl := List.forall_mem_cons.mpr ⟨t_8 (i := 76) (by decide +kernel), List.forall_mem_cons.mpr ⟨t_8 (i := 74) (by decide +kernel), List.forall_mem_cons.mpr ⟨t_8 (i := 75) (by decide +kernel), fun _ h => absurd h List.not_mem_nil⟩⟩⟩
set_option maxRecDepth 20000 in
theorem w_y288 : ∀ w ∈ wY 288, w ∈ lw_tbl := List.forall_mem_cons.mpr ⟨t_8 (i := 84) (by decide +kernel), List.forall_mem_cons.mpr ⟨t_8 (i := 83) (by decide +kernel), List.forall_mem_cons.mpr ⟨t_0 (i := 103) (by decide +kernel), fun _ h => absurd h List.not_mem_nil⟩⟩⟩
set_option maxRecDepth 20000 in
theorem w_y289 : ∀ w ∈ wY 289, w ∈ lw_tbl := List.forall_mem_cons.mpr ⟨t_8 (i := 80) (by decide +kernel), List.forall_mem_cons.mpr ⟨t_8 (i := 78) (by decide +kernel), List.forall_mem_cons.mpr ⟨t_8 (i := 79) (by decide +kernel), fun _ h => absurd h List.not_mem_nil⟩⟩⟩
set_option maxRecDepth 20000 in
theorem w_y290 : ∀ w ∈ wY 290, w ∈ lw_tbl := List.forall_mem_cons.mpr ⟨t_8 (i := 96) (by decide +kernel), List.forall_mem_cons.mpr ⟨t_8 (i := 94) (by decide +kernel), List.forall_mem_cons.mpr ⟨t_8 (i := 95) (by decide +kernel), fun _ h => absurd h List.not_mem_nil⟩⟩⟩
set_option maxRecDepth 20000 in
theorem w_y291 : ∀ w ∈ wY 291, w ∈ lw_tbl := List.forall_mem_cons.mpr ⟨t_8 (i := 104) (by decide +kernel), List.forall_mem_cons.mpr ⟨t_8 (i := 103) (by decide +kernel), List.forall_mem_cons.mpr ⟨t_0 (i := 106) (by decide +kernel), fun _ h => absurd h List.not_mem_nil⟩⟩⟩
set_option maxRecDepth 20000 in
theorem w_y292 : ∀ w ∈ wY 292, w ∈ lw_tbl := List.forall_mem_cons.mpr ⟨t_8 (i := 100) (by decide +kernel), List.forall_mem_cons.mpr ⟨t_8 (i := 98) (by decide +kernel), List.forall_mem_cons.mpr ⟨t_8 (i := 99) (by decide +kernel), fun _ h => absurd h List.not_mem_nil⟩⟩⟩
set_option maxRecDepth 20000 in
theorem w_y293 : ∀ w ∈ wY 293, w ∈ lw_tbl := List.forall_mem_cons.mpr ⟨t_8 (i := 112) (by decide +kernel), List.forall_mem_cons.mpr ⟨t_8 (i := 110) (by decide +kernel), List.forall_mem_cons.mpr ⟨t_8 (i := 111) (by decide +kernel), fun _ h => absurd h List.not_mem_nil⟩⟩⟩
set_option maxRecDepth 20000 in
theorem w_y294 : ∀ w ∈ wY 294, w ∈ lw_tbl := List.forall_mem_cons.mpr ⟨t_8 (i := 116) (by decide +kernel), List.forall_mem_cons.mpr ⟨t_8 (i := 114) (by decide +kernel), List.forall_mem_cons.mpr ⟨t_8 (i := 115) (by decide +kernel), fun _ h => absurd h List.not_mem_nil⟩⟩⟩
set_option maxRecDepth 20000 in
theorem w_y295 : ∀ w ∈ wY 295, w ∈ lw_tbl := List.forall_mem_cons.mpr ⟨t_8 (i := 124) (by decide +kernel), List.forall_mem_cons.mpr ⟨t_8 (i := 123) (by decide +kernel), List.forall_mem_cons.mpr ⟨t_0 (i := 108) (by decide +kernel), fun _ h => absurd h List.not_mem_nil⟩⟩⟩
set_option maxRecDepth 20000 in
theorem w_y296 : ∀ w ∈ wY 296, w ∈ lw_tbl := List.forall_mem_cons.mpr ⟨t_8 (i := 120) (by decide +kernel), List.forall_mem_cons.mpr ⟨t_8 (i := 118) (by decide +kernel), List.forall_mem_cons.mpr ⟨t_8 (i := 119) (by decide +kernel), fun _ h => absurd h List.not_mem_nil⟩⟩⟩
set_option maxRecDepth 20000 in
theorem w_y297 : ∀ w ∈ wY 297, w ∈ lw_tbl := List.forall_mem_cons.mpr ⟨t_8 (i := 128) (by decide +kernel), List.forall_mem_cons.mpr ⟨t_8 (i := 126) (by decide +kernel), List.forall_mem_cons.mpr ⟨t_8 (i := 127) (by decide +kernel), fun _ h => absurd h List.not_mem_nil⟩⟩⟩
set_option maxRecDepth 20000 in
theorem w_y298 : ∀ w ∈ wY 298, w ∈ lw_tbl := List.forall_mem_cons.mpr ⟨t_8 (i := 132) (by decide +kernel), List.forall_mem_cons.mpr ⟨t_8 (i := 130) (by decide +kernel), List.forall_mem_cons.mpr ⟨t_8 (i := 131) (by decide +kernel), fun _ h => absurd h List.not_mem_nil⟩⟩⟩
set_option maxRecDepth 20000 in
theorem w_y299 : ∀ w ∈ wY 299, w ∈ lw_tbl := List.forall_mem_cons.mpr ⟨t_8 (i := 139) (by decide +kernel), List.forall_mem_cons.mpr ⟨t_8 (i := 137) (by decide +kernel), List.forall_mem_cons.mpr ⟨t_8 (i := 138) (by decide +kernel), fun _ h => absurd h List.not_mem_nil⟩⟩⟩
set_option maxRecDepth 20000 in
theorem w_y300 : ∀ w ∈ wY 300, w ∈ lw_tbl := List.forall_mem_cons.mpr ⟨t_8 (i := 163) (by decide +kernel), List.forall_mem_cons.mpr ⟨t_8 (i := 162) (by decide +kernel), List.forall_mem_cons.mpr ⟨t_0 (i := 112) (by decide +kernel), fun _ h => absurd h List.not_mem_nil⟩⟩⟩
set_option maxRecDepth 20000 in
theorem w_y301 : ∀ w ∈ wY 301, w ∈ lw_tbl := List.forall_mem_cons.mpr ⟨t_8 (i := 155) (by decide +kernel), List.forall_mem_cons.mpr ⟨t_8 (i := 154) (by decide +kernel), List.forall_mem_cons.mpr ⟨t_0 (i := 111) (by decide +kernel), fun _ h => absurd h List.not_mem_nil⟩⟩⟩
set_option maxRecDepth 20000 in
theorem w_y302 : ∀ w ∈ wY 302, w ∈ lw_tbl := List.forall_mem_cons.mpr ⟨t_8 (i := 151) (by decide +kernel), List.forall_mem_cons.mpr ⟨t_8 (i := 150) (by decide +kernel), List.forall_mem_cons.mpr ⟨t_0 (i := 110) (by decide +kernel), fun _ h => absurd h List.not_mem_nil⟩⟩⟩
set_option maxRecDepth 20000 in
theorem w_y303 : ∀ w ∈ wY 303, w ∈ lw_tbl := List.forall_mem_cons.mpr ⟨t_8 (i := 147) (by decide +kernel), List.forall_mem_cons.mpr ⟨t_8 (i := 146) (by decide +kernel), List.forall_mem_cons.mpr ⟨t_0 (i := 109) (by decide +kernel), fun _ h => absurd h List.not_mem_nil⟩⟩⟩
set_option maxRecDepth 20000 in
theorem w_y304 : ∀ w ∈ wY 304, w ∈ lw_tbl := List.forall_mem_cons.mpr ⟨t_8 (i := 143) (by decide +kernel), List.forall_mem_cons.mpr ⟨t_8 (i := 141) (by decide +kernel), List.forall_mem_cons.mpr ⟨t_8 (i := 142) (by decide +kernel), fun _ h => absurd h List.not_mem_nil⟩⟩⟩
set_option maxRecDepth 20000 in
theorem w_y305 : ∀ w ∈ wY 305, w ∈ lw_tbl := List.forall_mem_cons.mpr ⟨t_8 (i := 175) (by decide +kernel), List.forall_mem_cons.mpr ⟨t_8 (i := 174) (by decide +kernel), List.forall_mem_cons.mpr ⟨t_0 (i := 114) (by decide +kernel), fun _ h => absurd h List.not_mem_nil⟩⟩⟩
set_option maxRecDepth 20000 in
theorem w_y306 : ∀ w ∈ wY 306, w ∈ lw_tbl := List.forall_mem_cons.mpr ⟨t_8 (i := 167) (by decide +kernel), List.forall_mem_cons.mpr ⟨t_8 (i := 165) (by decide +kernel), List.forall_mem_cons.mpr ⟨t_8 (i := 166) (by decide +kernel), fun _ h => absurd h List.not_mem_nil⟩⟩⟩
set_option maxRecDepth 20000 in
theorem w_y307 : ∀ w ∈ wY 307, w ∈ lw_tbl := List.forall_mem_cons.mpr ⟨t_8 (i := 183) (by decide +kernel), List.forall_mem_cons.mpr ⟨t_8 (i := 182) (by decide +kernel), List.forall_mem_cons.mpr ⟨t_0 (i := 115) (by decide +kernel), fun _ h => absurd h List.not_mem_nil⟩⟩⟩
set_option maxRecDepth 20000 in
theorem w_y308 : ∀ w ∈ wY 308, w ∈ lw_tbl := List.forall_mem_cons.mpr ⟨t_8 (i := 179) (by decide +kernel), List.forall_mem_cons.mpr ⟨t_8 (i := 177) (by decide +kernel), List.forall_mem_cons.mpr ⟨t_8 (i := 178) (by decide +kernel), fun _ h => absurd h List.not_mem_nil⟩⟩⟩
set_option maxRecDepth 20000 in
theorem w_y309 : ∀ w ∈ wY 309, w ∈ lw_tbl := List.forall_mem_cons.mpr ⟨t_8 (i := 195) (by decide +kernel), List.forall_mem_cons.mpr ⟨t_8 (i := 194) (by decide +kernel), List.forall_mem_cons.mpr ⟨t_0 (i := 117) (by decide +kernel), fun _ h => absurd h List.not_mem_nil⟩⟩⟩
set_option maxRecDepth 20000 in
theorem w_y310 : ∀ w ∈ wY 310, w ∈ lw_tbl := List.forall_mem_cons.mpr ⟨t_8 (i := 191) (by decide +kernel), List.forall_mem_cons.mpr ⟨t_8 (i := 190) (by decide +kernel), List.forall_mem_cons.mpr ⟨t_0 (i := 116) (by decide +kernel), fun _ h => absurd h List.not_mem_nil⟩⟩⟩
set_option maxRecDepth 20000 in
theorem w_y311 : ∀ w ∈ wY 311, w ∈ lw_tbl := List.forall_mem_cons.mpr ⟨t_8 (i := 187) (by decide +kernel), List.forall_mem_cons.mpr ⟨t_8 (i := 185) (by decide +kernel), List.forall_mem_cons.mpr ⟨t_8 (i := 186) (by decide +kernel), fun _ h => absurd h List.not_mem_nil⟩⟩⟩
set_option maxRecDepth 20000 in
theorem w_y312 : ∀ w ∈ wY 312, w ∈ lw_tbl := List.forall_mem_cons.mpr ⟨t_8 (i := 199) (by decide +kernel), List.forall_mem_cons.mpr ⟨t_8 (i := 197) (by decide +kernel), List.forall_mem_cons.mpr ⟨t_8 (i := 198) (by decide +kernel), fun _ h => absurd h List.not_mem_nil⟩⟩⟩
set_option maxRecDepth 20000 in
theorem w_y313 : ∀ w ∈ wY 313, w ∈ lw_tbl := List.forall_mem_cons.mpr ⟨t_8 (i := 207) (by decide +kernel), List.forall_mem_cons.mpr ⟨t_8 (i := 206) (by decide +kernel), List.forall_mem_cons.mpr ⟨t_0 (i := 118) (by decide +kernel), fun _ h => absurd h List.not_mem_nil⟩⟩⟩
set_option maxRecDepth 20000 in
theorem w_y314 : ∀ w ∈ wY 314, w ∈ lw_tbl := List.forall_mem_cons.mpr ⟨t_8 (i := 212) (by decide +kernel), List.forall_mem_cons.mpr ⟨t_8 (i := 211) (by decide +kernel), List.forall_mem_cons.mpr ⟨t_0 (i := 119) (by decide +kernel), fun _ h => absurd h List.not_mem_nil⟩⟩⟩
set_option maxRecDepth 20000 in
theorem w_y315 : ∀ w ∈ wY 315, w ∈ lw_tbl := List.forall_mem_cons.mpr ⟨t_8 (i := 203) (by decide +kernel), List.forall_mem_cons.mpr ⟨t_8 (i := 201) (by decide +kernel), List.forall_mem_cons.mpr ⟨t_8 (i := 202) (by decide +kernel), fun _ h => absurd h List.not_mem_nil⟩⟩⟩
set_option maxRecDepth 20000 in
theorem w_y316 : ∀ w ∈ wY 316, w ∈ lw_tbl := List.forall_mem_cons.mpr ⟨t_8 (i := 216) (by decide +kernel), List.forall_mem_cons.mpr ⟨t_8 (i := 214) (by decide +kernel), List.forall_mem_cons.mpr ⟨t_8 (i := 215) (by decide +kernel), fun _ h => absurd h List.not_mem_nil⟩⟩⟩
set_option maxRecDepth 20000 in
theorem w_y317 : ∀ w ∈ wY 317, w ∈ lw_tbl := List.forall_mem_cons.mpr ⟨t_8 (i := 224) (by decide +kernel), List.forall_mem_cons.mpr ⟨t_8 (i := 223) (by decide +kernel), List.forall_mem_cons.mpr ⟨t_0 (i := 120) (by decide +kernel), fun _ h => absurd h List.not_mem_nil⟩⟩⟩
set_option maxRecDepth 20000 in
theorem w_y318 : ∀ w ∈ wY 318, w ∈ lw_tbl := List.forall_mem_cons.mpr ⟨t_8 (i := 220) (by decide +kernel), List.forall_mem_cons.mpr ⟨t_8 (i := 218) (by decide +kernel), List.forall_mem_cons.mpr ⟨t_8 (i := 219) (by decide +kernel), fun _ h => absurd h List.not_mem_nil⟩⟩⟩
set_option maxRecDepth 20000 in
theorem w_y319 : ∀ w ∈ wY 319, w ∈ lw_tbl := List.forall_mem_cons.mpr ⟨t_9 (i := 8) (by decide +kernel), List.forall_mem_cons.mpr ⟨t_9 (i := 7) (by decide +kernel), List.forall_mem_cons.mpr ⟨t_0 (i := 124) (by decide +kernel), fun _ h => absurd h List.not_mem_nil⟩⟩⟩
set_option maxRecDepth 20000 in
theorem w_y320 : ∀ w ∈ wY 320, w ∈ lw_tbl := List.forall_mem_cons.mpr ⟨t_9 (i := 12) (by decide +kernel), List.forall_mem_cons.mpr ⟨t_9 (i := 11) (by decide +kernel), List.forall_mem_cons.mpr ⟨t_0 (i := 125) (by decide +kernel), fun _ h => absurd h List.not_mem_nil⟩⟩⟩
set_option maxRecDepth 20000 in
theorem w_y321 : ∀ w ∈ wY 321, w ∈ lw_tbl := List.forall_mem_cons.mpr ⟨t_9 (i := 1) (by decide +kernel), List.forall_mem_cons.mpr ⟨t_9 (i := 0) (by decide +kernel), List.forall_mem_cons.mpr ⟨t_0 (i := 123) (by decide +kernel), fun _ h => absurd h List.not_mem_nil⟩⟩⟩
set_option maxRecDepth 20000 in
theorem w_y322 : ∀ w ∈ wY 322, w ∈ lw_tbl := List.forall_mem_cons.mpr ⟨t_8 (i := 237) (by decide +kernel), List.forall_mem_cons.mpr ⟨t_8 (i := 236) (by decide +kernel), List.forall_mem_cons.mpr ⟨t_0 (i := 122) (by decide +kernel), fun _ h => absurd h List.not_mem_nil⟩⟩⟩
set_option maxRecDepth 20000 in
theorem w_y323 : ∀ w ∈ wY 323, w ∈ lw_tbl := List.forall_mem_cons.mpr ⟨t_8 (i := 232) (by decide +kernel), List.forall_mem_cons.mpr ⟨t_8 (i := 231) (by decide +kernel), List.forall_mem_cons.mpr ⟨t_0 (i := 121) (by decide +kernel), fun _ h => absurd h List.not_mem_nil⟩⟩⟩
set_option maxRecDepth 20000 in
theorem w_y324 : ∀ w ∈ wY 324, w ∈ lw_tbl := List.forall_mem_cons.mpr ⟨t_8 (i := 228) (by decide +kernel), List.forall_mem_cons.mpr ⟨t_8 (i := 226) (by decide +kernel), List.forall_mem_cons.mpr ⟨t_8 (i := 227) (by decide +kernel), fun _ h => absurd h List.not_mem_nil⟩⟩⟩
set_option maxRecDepth 20000 in
theorem w_y325 : ∀ w ∈ wY 325, w ∈ lw_tbl := List.forall_mem_cons.mpr ⟨t_9 (i := 16) (by decide +kernel), List.forall_mem_cons.mpr ⟨t_9 (i := 14) (by decide +kernel), List.forall_mem_cons.mpr ⟨t_9 (i := 15) (by decide +kernel), fun _ h => absurd h List.not_mem_nil⟩⟩⟩
set_option maxRecDepth 20000 in
theorem w_y326 : ∀ w ∈ wY 326, w ∈ lw_tbl := List.forall_mem_cons.mpr ⟨t_9 (i := 28) (by decide +kernel), List.forall_mem_cons.mpr ⟨t_9 (i := 27) (by decide +kernel), List.forall_mem_cons.mpr ⟨t_0 (i := 127) (by decide +kernel), fun _ h => absurd h List.not_mem_nil⟩⟩⟩
set_option maxRecDepth 20000 in
theorem w_y327 : ∀ w ∈ wY 327, w ∈ lw_tbl := List.forall_mem_cons.mpr ⟨t_9 (i := 24) (by decide +kernel), List.forall_mem_cons.mpr ⟨t_9 (i := 23) (by decide +kernel), List.forall_mem_cons.mpr ⟨t_0 (i := 126) (by decide +kernel), fun _ h => absurd h List.not_mem_nil⟩⟩⟩
set_option maxRecDepth 20000 in
theorem w_y328 : ∀ w ∈ wY 328, w ∈ lw_tbl := List.forall_mem_cons.mpr ⟨t_9 (i := 20) (by decide +kernel), List.forall_mem_cons.mpr ⟨t_9 (i := 18) (by decide +kernel), List.forall_mem_cons.mpr ⟨t_9 (i := 19) (by decide +kernel), fun _ h => absurd h List.not_mem_nil⟩⟩⟩
set_option maxRecDepth 20000 in
theorem w_y329 : ∀ w ∈ wY 329, w ∈ lw_tbl := List.forall_mem_cons.mpr ⟨t_9 (i := 32) (by decide +kernel), List.forall_mem_cons.mpr ⟨t_9 (i := 30) (by decide +kernel), List.forall_mem_cons.mpr ⟨t_9 (i := 31) (by decide +kernel), fun _ h => absurd h List.not_mem_nil⟩⟩⟩
set_option maxRecDepth 20000 in
theorem w_y330 : ∀ w ∈ wY 330, w ∈ lw_tbl := List.forall_mem_cons.mpr ⟨t_9 (i := 48) (by decide +kernel), List.forall_mem_cons.mpr ⟨t_9 (i := 47) (by decide +kernel), List.forall_mem_cons.mpr ⟨t_0 (i := 130) (by decide +kernel), fun _ h => absurd h List.not_mem_nil⟩⟩⟩
set_option maxRecDepth 20000 in
theorem w_y331 : ∀ w ∈ wY 331, w ∈ lw_tbl := List.forall_mem_cons.mpr ⟨t_9 (i := 40) (by decide +kernel), List.forall_mem_cons.mpr ⟨t_9 (i := 39) (by decide +kernel), List.forall_mem_cons.mpr ⟨t_0 (i := 128) (by decide +kernel), fun _ h => absurd h List.not_mem_nil⟩⟩⟩
set_option maxRecDepth 20000 in
theorem w_y332 : ∀ w ∈ wY 332, w ∈ lw_tbl := List.forall_mem_cons.mpr ⟨t_9 (i := 36) (by decide +kernel), List.forall_mem_cons.mpr ⟨t_9 (i := 34) (by decide +kernel), List.forall_mem_cons.mpr ⟨t_9 (i := 35) (by decide +kernel), fun _ h => absurd h List.not_mem_nil⟩⟩⟩
set_option maxRecDepth 20000 in
theorem w_y333 : ∀ w ∈ wY 333, w ∈ lw_tbl := List.forall_mem_cons.mpr ⟨t_9 (i := 52) (by decide +kernel), List.forall_mem_cons.mpr ⟨t_9 (i := 50) (by decide +kernel), List.forall_mem_cons.mpr ⟨t_9 (i := 51) (by decide +kernel), fun _ h => absurd h List.not_mem_nil⟩⟩⟩
set_option maxRecDepth 20000 in
theorem w_y334 : ∀ w ∈ wY 334, w ∈ lw_tbl := List.forall_mem_cons.mpr ⟨t_9 (i := 56) (by decide +kernel), List.forall_mem_cons.mpr ⟨t_9 (i := 54) (by decide +kernel), List.forall_mem_cons.mpr ⟨t_9 (i := 55) (by decide +kernel), fun _ h => absurd h List.not_mem_nil⟩⟩⟩
set_option maxRecDepth 20000 in
theorem w_y335 : ∀ w ∈ wY 335, w ∈ lw_tbl := List.forall_mem_cons.mpr ⟨t_9 (i := 93) (by decide +kernel), List.forall_mem_cons.mpr ⟨t_9 (i := 92) (by decide +kernel), List.forall_mem_cons.mpr ⟨t_0 (i := 138) (by decide +kernel), fun _ h => absurd h List.not_mem_nil⟩⟩⟩
set_option maxRecDepth 20000 in
theorem w_y336 : ∀ w ∈ wY 336, w ∈ lw_tbl := List.forall_mem_cons.mpr ⟨t_9 (i := 73) (by decide +kernel), List.forall_mem_cons.mpr ⟨t_9 (i := 72) (by decide +kernel), List.forall_mem_cons.mpr ⟨t_0 (i := 133) (by decide +kernel), fun _ h => absurd h List.not_mem_nil⟩⟩⟩
set_option maxRecDepth 20000 in
theorem w_y337 : ∀ w ∈ wY 337, w ∈ lw_tbl := List.forall_mem_cons.mpr ⟨t_9 (i := 77) (by decide +kernel), List.forall_mem_cons.mpr ⟨t_9 (i := 76) (by decide +kernel), List.forall_mem_cons.mpr ⟨t_0 (i := 134) (by decide +kernel), fun _ h => absurd h List.not_mem_nil⟩⟩⟩
set_option maxRecDepth 20000 in
theorem w_y338 : ∀ w ∈ wY 338, w ∈ lw_tbl := List.forall_mem_cons.mpr ⟨t_9 (i := 81) (by decide +kernel), List.forall_mem_cons.mpr ⟨t_9 (i := 80) (by decide +kernel), List.forall_mem_cons.mpr ⟨t_0 (i := 135) (by decide +kernel), fun _ h => absurd h List.not_mem_nil⟩⟩⟩
set_option maxRecDepth 20000 in
theorem w_y339 : ∀ w ∈ wY 339, w ∈ lw_tbl := List.forall_mem_cons.mpr ⟨t_9 (i := 85) (by decide +kernel), List.forall_mem_cons.mpr ⟨t_9 (i := 84) (by decide +kernel), List.forall_mem_cons.mpr ⟨t_0 (i := 136) (by decide +kernel), fun _ h => absurd h List.not_mem_nil⟩⟩⟩
set_option maxRecDepth 20000 in
theorem w_y340 : ∀ w ∈ wY 340, w ∈ lw_tbl := List.forall_mem_cons.mpr ⟨t_9 (i := 89) (by decide +kernel), List.forall_mem_cons.mpr ⟨t_9 (i := 88) (by decide +kernel), List.forall_mem_cons.mpr ⟨t_0 (i := 137) (by decide +kernel), fun _ h => absurd h List.not_mem_nil⟩⟩⟩
set_option maxRecDepth 20000 in
theorem w_y341 : ∀ w ∈ wY 341, w ∈ lw_tbl := List.forall_mem_cons.mpr ⟨t_9 (i := 69) (by decide +kernel), List.forall_mem_cons.mpr ⟨t_9 (i := 68) (by decide +kernel), List.forall_mem_cons.mpr ⟨t_0 (i := 132) (by decide +kernel), fun _ h => absurd h List.not_mem_nil⟩⟩⟩
set_option maxRecDepth 20000 in
theorem w_y342 : ∀ w ∈ wY 342, w ∈ lw_tbl := List.forall_mem_cons.mpr ⟨t_9 (i := 98) (by decide +kernel), List.forall_mem_cons.mpr ⟨t_9 (i := 97) (by decide +kernel), List.forall_mem_cons.mpr ⟨t_0 (i := 139) (by decide +kernel), fun _ h => absurd h List.not_mem_nil⟩⟩⟩
set_option maxRecDepth 20000 in
theorem w_y343 : ∀ w ∈ wY 343, w ∈ lw_tbl := List.forall_mem_cons.mpr ⟨t_9 (i := 102) (by decide +kernel), List.forall_mem_cons.mpr ⟨t_9 (i := 101) (by decide +kernel), List.forall_mem_cons.mpr ⟨t_0 (i := 140) (by decide +kernel), fun _ h => absurd h List.not_mem_nil⟩⟩⟩
set_option maxRecDepth 20000 in
theorem w_y344 : ∀ w ∈ wY 344, w ∈ lw_tbl := List.forall_mem_cons.mpr ⟨t_9 (i := 65) (by decide +kernel), List.forall_mem_cons.mpr ⟨t_9 (i := 64) (by decide +kernel), List.forall_mem_cons.mpr ⟨t_0 (i := 131) (by decide +kernel), fun _ h => absurd h List.not_mem_nil⟩⟩⟩
set_option maxRecDepth 20000 in
theorem w_y345 : ∀ w ∈ wY 345, w ∈ lw_tbl := List.forall_mem_cons.mpr ⟨t_9 (i := 60) (by decide +kernel), List.forall_mem_cons.mpr ⟨t_9 (i := 58) (by decide +kernel), List.forall_mem_cons.mpr ⟨t_9 (i := 59) (by decide +kernel), fun _ h => absurd h List.not_mem_nil⟩⟩⟩
set_option maxRecDepth 20000 in
theorem w_y346 : ∀ w ∈ wY 346, w ∈ lw_tbl := List.forall_mem_cons.mpr ⟨t_9 (i := 106) (by decide +kernel), List.forall_mem_cons.mpr ⟨t_9 (i := 104) (by decide +kernel), List.forall_mem_cons.mpr ⟨t_9 (i := 105) (by decide +kernel), fun _ h => absurd h List.not_mem_nil⟩⟩⟩
set_option maxRecDepth 20000 in
theorem w_y347 : ∀ w ∈ wY 347, w ∈ lw_tbl := List.forall_mem_cons.mpr ⟨t_9 (i := 110) (by decide +kernel), List.forall_mem_cons.mpr ⟨t_9 (i := 108) (by decide +kernel), List.forall_mem_cons.mpr ⟨t_9 (i := 109) (by decide +kernel), fun _ h => absurd h List.not_mem_nil⟩⟩⟩
set_option maxRecDepth 20000 in
theorem w_y348 : ∀ w ∈ wY 348, w ∈ lw_tbl := List.forall_mem_cons.mpr ⟨t_9 (i := 118) (by decide +kernel), List.forall_mem_cons.mpr ⟨t_9 (i := 117) (by decide +kernel), List.forall_mem_cons.mpr ⟨t_0 (i := 141) (by decide +kernel), fun _ h => absurd h List.not_mem_nil⟩⟩⟩
set_option maxRecDepth 20000 in
theorem w_y349 : ∀ w ∈ wY 349, w ∈ lw_tbl := List.forall_mem_cons.mpr ⟨t_9 (i := 114) (by decide +kernel), List.forall_mem_cons.mpr ⟨t_9 (i := 112) (by decide +kernel), List.forall_mem_cons.mpr ⟨t_9 (i := 113) (by decide +kernel), fun _ h => absurd h List.not_mem_nil⟩⟩⟩
set_option maxRecDepth 20000 in
theorem w_y350 : ∀ w ∈ wY 350, w ∈ lw_tbl := List.forall_mem_cons.mpr ⟨t_9 (i := 122) (by decide +kernel), List.forall_mem_cons.mpr ⟨t_9 (i := 120) (by decide +kernel), List.forall_mem_cons.mpr ⟨t_9 (i := 121) (by decide +kernel), fun _ h => absurd h List.not_mem_nil⟩⟩⟩
set_option maxRecDepth 20000 in
theorem w_y351 : ∀ w ∈ wY 351, w ∈ lw_tbl := List.forall_mem_cons.mpr ⟨t_5 (i := 31) (by decide +kernel), List.forall_mem_cons.mpr ⟨t_5 (i := 30) (by decide +kernel), fun _ h => absurd h List.not_mem_nil⟩⟩
set_option maxRecDepth 20000 in
theorem w_y352 : ∀ w ∈ wY 352, w ∈ lw_tbl := List.forall_mem_cons.mpr ⟨t_2 (i := 232) (by decide +kernel), List.forall_mem_cons.mpr ⟨t_2 (i := 231) (by decide +kernel), fun _ h => absurd h List.not_mem_nil⟩⟩
set_option maxRecDepth 20000 in
theorem w_o : ∀ w ∈ wO, w ∈ lw_tbl := List.forall_mem_cons.mpr ⟨t_1 (i := 9) (by decide +kernel), List.forall_mem_cons.mpr ⟨t_1 (i := 8) (by decide +kernel), List.forall_mem_cons.mpr ⟨t_1 (i := 10) (by decide +kernel), List.forall_mem_cons.mpr ⟨t_1 (i := 5) (by decide +kernel), List.forall_mem_cons.mpr ⟨t_1 (i := 7) (by decide +kernel), List.forall_mem_cons.mpr ⟨t_1 (i := 3) (by decide +kernel), List.forall_mem_cons.mpr ⟨t_1 (i := 2) (by decide +kernel), List.forall_mem_cons.mpr ⟨t_1 (i := 4) (by decide +kernel), List.forall_mem_cons.mpr ⟨t_1 (i := 6) (by decide +kernel), List.forall_mem_cons.mpr ⟨t_1 (i := 1) (by decide +kernel), List.forall_mem_cons.mpr ⟨t_1 (i := 11) (by decide +kernel), List.forall_mem_cons.mpr ⟨t_1 (i := 0) (by decide +kernel), List.forall_mem_cons.mpr ⟨t_1 (i := 19) (by decide +kernel), List.forall_mem_cons.mpr ⟨t_1 (i := 12) (by decide +kernel), List.forall_mem_cons.mpr ⟨t_1 (i := 105) (by decide +kernel), List.forall_mem_cons.mpr ⟨t_1 (i := 47) (by decide +kernel), List.forall_mem_cons.mpr ⟨t_1 (i := 104) (by decide +kernel), List.forall_mem_cons.mpr ⟨t_6 (i := 202) (by decide +kernel), List.forall_mem_cons.mpr ⟨t_1 (i := 26) (by decide +kernel), List.forall_mem_cons.mpr ⟨t_1 (i := 27) (by decide +kernel), List.forall_mem_cons.mpr ⟨t_4 (i := 126) (by decide +kernel), List.forall_mem_cons.mpr ⟨t_1 (i := 14) (by decide +kernel), List.forall_mem_cons.mpr ⟨t_4 (i := 127) (by decide +kernel), List.forall_mem_cons.mpr ⟨t_3 (i := 62) (by decide +kernel), List.forall_mem_cons.mpr ⟨t_3 (i := 63) (by decide +kernel), List.forall_mem_cons.mpr ⟨t_3 (i := 40) (by decide +kernel), List.forall_mem_cons.mpr ⟨t_3 (i := 39) (by decide +kernel), List.forall_mem_cons.mpr ⟨t_1 (i := 13) (by decide +kernel), fun _ h => absurd h List.not_mem_nil⟩⟩⟩⟩⟩⟩⟩⟩⟩⟩⟩⟩⟩⟩⟩⟩⟩⟩⟩⟩⟩⟩⟩⟩⟩⟩⟩⟩
set_option maxRecDepth 20000 in
theorem w_s : ∀ w ∈ wS, w ∈ lw_tbl := List.forall_mem_cons.mpr ⟨t_3 (i := 93) (by decide +kernel), List.forall_mem_cons.mpr ⟨t_3 (i := 91) (by decide +kernel), List.forall_mem_cons.mpr ⟨t_3 (i := 92) (by decide +kernel), List.forall_mem_cons.mpr ⟨t_3 (i := 103) (by decide +kernel), List.forall_mem_cons.mpr ⟨t_3 (i := 101) (by decide +kernel), List.forall_mem_cons.mpr ⟨t_3 (i := 102) (by decide +kernel), List.forall_mem_cons.mpr ⟨t_1 (i := 15) (by decide +kernel), List.forall_mem_cons.mpr ⟨t_9 (i := 124) (by decide +kernel), List.forall_mem_cons.mpr ⟨t_3 (i := 94) (by decide +kernel), List.forall_mem_cons.mpr ⟨t_3 (i := 95) (by decide +kernel), List.forall_mem_cons.mpr ⟨t_3 (i := 96) (by decide +kernel), List.forall_mem_cons.mpr ⟨t_3 (i := 97) (by decide +kernel), List.forall_mem_cons.mpr ⟨t_3 (i := 98) (by decide +kernel), List.forall_mem_cons.mpr ⟨t_9 (i := 125) (by decide +kernel), List.forall_mem_cons.mpr ⟨t_3 (i := 104) (by decide +kernel), List.forall_mem_cons.mpr ⟨t_3 (i := 105) (by decide +kernel), List.forall_mem_cons.mpr ⟨t_3 (i := 106) (by decide +kernel), List.forall_mem_cons.mpr ⟨t_3 (i := 107) (by decide +kernel), List.forall_mem_cons.mpr ⟨t_3 (i := 108) (by decide +kernel), List.forall_mem_cons.mpr ⟨t_3 (i := 109) (by decide +kernel), List.forall_mem_cons.mpr ⟨t_1 (i := 16) (by decide +kernel), List.forall_mem_cons.mpr ⟨t_3 (i := 110) (by decide +kernel), List.forall_mem_cons.mpr ⟨t_3 (i := 111) (by decide +kernel), List.forall_mem_cons.mpr ⟨t_3 (i := 112) (by decide +kernel), List.forall_mem_cons.mpr ⟨t_3 (i := 113) (by decide +kernel), List.forall_mem_cons.mpr ⟨t_3 (i := 114) (by decide +kernel), List.forall_mem_cons.mpr ⟨t_3 (i := 116) (by decide +kernel), List.forall_mem_cons.mpr ⟨t_3 (i := 117) (by decide +kernel), List.forall_mem_cons.mpr ⟨t_1 (i := 17) (by decide +kernel), List.forall_mem_cons.mpr ⟨t_3 (i := 118) (by decide +kernel), fun _ h => absurd h List.not_mem_nil⟩⟩⟩⟩⟩⟩⟩⟩⟩⟩⟩⟩⟩⟩⟩⟩⟩⟩⟩⟩⟩⟩⟩⟩⟩⟩⟩⟩⟩⟩
theorem w_t : ∀ y, y < 14 → ∀ w ∈ wF y ++ wMt y ++ wC y ++ wK y ++ wLg y, w ∈ lw_tbl
  | 0, _ => fun w h => by
    simp only [List.mem_append] at h
    rcases h with (((h | h) | h) | h) | h
    · exact w_f0 w h
    · exact w_m0 w h
    · exact w_c0 w h
    · exact w_k0 w h
    · exact w_l0 w h
  | 1, _ => fun w h => by
    simp only [List.mem_append] at h
    rcases h with (((h | h) | h) | h) | h
    · exact w_f1 w h
    · exact w_m1 w h
    · exact w_c1 w h
    · exact w_k1 w h
    · exact w_l1 w h
  | 2, _ => fun w h => by
    simp only [List.mem_append] at h
    rcases h with (((h | h) | h) | h) | h
    · exact w_f2 w h
    · exact w_m2 w h
    · exact w_c2 w h
    · exact w_k2 w h
    · exact w_l2 w h
  | 3, _ => fun w h => by
    simp only [List.mem_append] at h
    rcases h with (((h | h) | h) | h) | h
    · exact w_f3 w h
    · exact w_m3 w h
    · exact w_c3 w h
    · exact w_k3 w h
    · exact w_l3 w h
  | 4, _ => fun w h => by
    simp only [List.mem_append] at h
    rcases h with (((h | h) | h) | h) | h
    · exact w_f4 w h
    · exact w_m4 w h
    · exact w_c4 w h
    · exact w_k4 w h
    · exact w_l4 w h
  | 5, _ => fun w h => by
    simp only [List.mem_append] at h
    rcases h with (((h | h) | h) | h) | h
    · exact w_f5 w h
    · exact w_m5 w h
    · exact w_c5 w h
    · exact w_k5 w h
    · exact w_l5 w h
  | 6, _ => fun w h => by
    simp only [List.mem_append] at h
    rcases h with (((h | h) | h) | h) | h
    · exact w_f6 w h
    · exact w_m6 w h
    · exact w_c6 w h
    · exact w_k6 w h
    · exact w_l6 w h
  | 7, _ => fun w h => by
    simp only [List.mem_append] at h
    rcases h with (((h | h) | h) | h) | h
    · exact w_f7 w h
    · exact w_m7 w h
    · exact w_c7 w h
    · exact w_k7 w h
    · exact w_l7 w h
  | 8, _ => fun w h => by
    simp only [List.mem_append] at h
    rcases h with (((h | h) | h) | h) | h
    · exact w_f8 w h
    · exact w_m8 w h
    · exact w_c8 w h
    · exact w_k8 w h
    · exact w_l8 w h
  | 9, _ => fun w h => by
    simp only [List.mem_append] at h
    rcases h with (((h | h) | h) | h) | h
    · exact w_f9 w h
    · exact w_m9 w h
    · exact w_c9 w h
    · exact w_k9 w h
    · exact w_l9 w h
  | 10, _ => fun w h => by
    simp only [List.mem_append] at h
    rcases h with (((h | h) | h) | h) | h
    · exact w_f10 w h
    · exact w_m10 w h
    · exact w_c10 w h
    · exact w_k10 w h
    · exact w_l10 w h
  | 11, _ => fun w h => by
    simp only [List.mem_append] at h
    rcases h with (((h | h) | h) | h) | h
    · exact w_f11 w h
    · exact w_m11 w h
    · exact w_c11 w h
    · exact w_k11 w h
    · exact w_l11 w h
  | 12, _ => fun w h => by
    simp only [List.mem_append] at h
    rcases h with (((h | h) | h) | h) | h
    · exact w_f12 w h
    · exact w_m12 w h
    · exact w_c12 w h
    · exact w_k12 w h
    · exact w_l12 w h
  | 13, _ => fun w h => by
    simp only [List.mem_append] at h
    rcases h with (((h | h) | h) | h) | h
    · exact w_f13 w h
    · exact w_m13 w h
    · exact w_c13 w h
    · exact w_k13 w h
    · exact w_l13 w h
  | y + 14, h => absurd h (by omega)
theorem w_cl : ∀ y, y < 11 → ∀ w ∈ wCls y, w ∈ lw_tbl
  | 0, _ => w_cl0
  | 1, _ => w_cl1
  | 2, _ => w_cl2
  | 3, _ => w_cl3
  | 4, _ => w_cl4
  | 5, _ => w_cl5
  | 6, _ => w_cl6
  | 7, _ => w_cl7
  | 8, _ => w_cl8
  | 9, _ => w_cl9
  | 10, _ => w_cl10
  | y + 11, h => absurd h (by omega)
theorem w_yk0 : ∀ j, j < 20 → ∀ w ∈ wY (0 + j), w ∈ lw_tbl
  | 0, _ => w_y0
  | 1, _ => w_y1
  | 2, _ => w_y2
  | 3, _ => w_y3
  | 4, _ => w_y4
  | 5, _ => w_y5
  | 6, _ => w_y6
  | 7, _ => w_y7
  | 8, _ => w_y8
  | 9, _ => w_y9
  | 10, _ => w_y10
  | 11, _ => w_y11
  | 12, _ => w_y12
  | 13, _ => w_y13
  | 14, _ => w_y14
  | 15, _ => w_y15
  | 16, _ => w_y16
  | 17, _ => w_y17
  | 18, _ => w_y18
  | 19, _ => w_y19
  | y + 20, h => absurd h (by omega)
theorem w_yk1 : ∀ j, j < 20 → ∀ w ∈ wY (20 + j), w ∈ lw_tbl
  | 0, _ => w_y20
  | 1, _ => w_y21
  | 2, _ => w_y22
  | 3, _ => w_y23
  | 4, _ => w_y24
  | 5, _ => w_y25
  | 6, _ => w_y26
  | 7, _ => w_y27
  | 8, _ => w_y28
  | 9, _ => w_y29
  | 10, _ => w_y30
  | 11, _ => w_y31
  | 12, _ => w_y32
  | 13, _ => w_y33
  | 14, _ => w_y34
  | 15, _ => w_y35
  | 16, _ => w_y36
  | 17, _ => w_y37
  | 18, _ => w_y38
  | 19, _ => w_y39
  | y + 20, h => absurd h (by omega)
theorem w_yk2 : ∀ j, j < 20 → ∀ w ∈ wY (40 + j), w ∈ lw_tbl
  | 0, _ => w_y40
  | 1, _ => w_y41
  | 2, _ => w_y42
  | 3, _ => w_y43
  | 4, _ => w_y44
  | 5, _ => w_y45
  | 6, _ => w_y46
  | 7, _ => w_y47
  | 8, _ => w_y48
  | 9, _ => w_y49
  | 10, _ => w_y50
  | 11, _ => w_y51
  | 12, _ => w_y52
  | 13, _ => w_y53
  | 14, _ => w_y54
  | 15, _ => w_y55
  | 16, _ => w_y56
  | 17, _ => w_y57
  | 18, _ => w_y58
  | 19, _ => w_y59
  | y + 20, h => absurd h (by omega)
theorem w_yk3 : ∀ j, j < 20 → ∀ w ∈ wY (60 + j), w ∈ lw_tbl
  | 0, _ => w_y60
  | 1, _ => w_y61
  | 2, _ => w_y62
  | 3, _ => w_y63
  | 4, _ => w_y64
  | 5, _ => w_y65
  | 6, _ => w_y66
  | 7, _ => w_y67
  | 8, _ => w_y68
  | 9, _ => w_y69
  | 10, _ => w_y70
  | 11, _ => w_y71
  | 12, _ => w_y72
  | 13, _ => w_y73
  | 14, _ => w_y74
  | 15, _ => w_y75
  | 16, _ => w_y76
  | 17, _ => w_y77
  | 18, _ => w_y78
  | 19, _ => w_y79
  | y + 20, h => absurd h (by omega)
theorem w_yk4 : ∀ j, j < 20 → ∀ w ∈ wY (80 + j), w ∈ lw_tbl
  | 0, _ => w_y80
  | 1, _ => w_y81
  | 2, _ => w_y82
  | 3, _ => w_y83
  | 4, _ => w_y84
  | 5, _ => w_y85
  | 6, _ => w_y86
  | 7, _ => w_y87
  | 8, _ => w_y88
  | 9, _ => w_y89
  | 10, _ => w_y90
  | 11, _ => w_y91
  | 12, _ => w_y92
  | 13, _ => w_y93
  | 14, _ => w_y94
  | 15, _ => w_y95
  | 16, _ => w_y96
  | 17, _ => w_y97
  | 18, _ => w_y98
  | 19, _ => w_y99
  | y + 20, h => absurd h (by omega)
theorem w_yk5 : ∀ j, j < 20 → ∀ w ∈ wY (100 + j), w ∈ lw_tbl
  | 0, _ => w_y100
  | 1, _ => w_y101
  | 2, _ => w_y102
  | 3, _ => w_y103
  | 4, _ => w_y104
  | 5, _ => w_y105
  | 6, _ => w_y106
  | 7, _ => w_y107
  | 8, _ => w_y108
  | 9, _ => w_y109
  | 10, _ => w_y110
  | 11, _ => w_y111
  | 12, _ => w_y112
  | 13, _ => w_y113
  | 14, _ => w_y114
  | 15, _ => w_y115
  | 16, _ => w_y116
  | 17, _ => w_y117
  | 18, _ => w_y118
  | 19, _ => w_y119
  | y + 20, h => absurd h (by omega)
theorem w_yk6 : ∀ j, j < 20 → ∀ w ∈ wY (120 + j), w ∈ lw_tbl
  | 0, _ => w_y120
  | 1, _ => w_y121
  | 2, _ => w_y122
  | 3, _ => w_y123
  | 4, _ => w_y124
  | 5, _ => w_y125
  | 6, _ => w_y126
  | 7, _ => w_y127
  | 8, _ => w_y128
  | 9, _ => w_y129
  | 10, _ => w_y130
  | 11, _ => w_y131
  | 12, _ => w_y132
  | 13, _ => w_y133
  | 14, _ => w_y134
  | 15, _ => w_y135
  | 16, _ => w_y136
  | 17, _ => w_y137
  | 18, _ => w_y138
  | 19, _ => w_y139
  | y + 20, h => absurd h (by omega)
theorem w_yk7 : ∀ j, j < 20 → ∀ w ∈ wY (140 + j), w ∈ lw_tbl
  | 0, _ => w_y140
  | 1, _ => w_y141
  | 2, _ => w_y142
  | 3, _ => w_y143
  | 4, _ => w_y144
  | 5, _ => w_y145
  | 6, _ => w_y146
  | 7, _ => w_y147
  | 8, _ => w_y148
  | 9, _ => w_y149
  | 10, _ => w_y150
  | 11, _ => w_y151
  | 12, _ => w_y152
  | 13, _ => w_y153
  | 14, _ => w_y154
  | 15, _ => w_y155
  | 16, _ => w_y156
  | 17, _ => w_y157
  | 18, _ => w_y158
  | 19, _ => w_y159
  | y + 20, h => absurd h (by omega)
theorem w_yk8 : ∀ j, j < 20 → ∀ w ∈ wY (160 + j), w ∈ lw_tbl
  | 0, _ => w_y160
  | 1, _ => w_y161
  | 2, _ => w_y162
  | 3, _ => w_y163
  | 4, _ => w_y164
  | 5, _ => w_y165
  | 6, _ => w_y166
  | 7, _ => w_y167
  | 8, _ => w_y168
  | 9, _ => w_y169
  | 10, _ => w_y170
  | 11, _ => w_y171
  | 12, _ => w_y172
  | 13, _ => w_y173
  | 14, _ => w_y174
  | 15, _ => w_y175
  | 16, _ => w_y176
  | 17, _ => w_y177
  | 18, _ => w_y178
  | 19, _ => w_y179
  | y + 20, h => absurd h (by omega)
theorem w_yk9 : ∀ j, j < 20 → ∀ w ∈ wY (180 + j), w ∈ lw_tbl
  | 0, _ => w_y180
  | 1, _ => w_y181
  | 2, _ => w_y182
  | 3, _ => w_y183
  | 4, _ => w_y184
  | 5, _ => w_y185
  | 6, _ => w_y186
  | 7, _ => w_y187
  | 8, _ => w_y188
  | 9, _ => w_y189
  | 10, _ => w_y190
  | 11, _ => w_y191
  | 12, _ => w_y192
  | 13, _ => w_y193
  | 14, _ => w_y194
  | 15, _ => w_y195
  | 16, _ => w_y196
  | 17, _ => w_y197
  | 18, _ => w_y198
  | 19, _ => w_y199
  | y + 20, h => absurd h (by omega)
theorem w_yk10 : ∀ j, j < 20 → ∀ w ∈ wY (200 + j), w ∈ lw_tbl
  | 0, _ => w_y200
  | 1, _ => w_y201
  | 2, _ => w_y202
  | 3, _ => w_y203
  | 4, _ => w_y204
  | 5, _ => w_y205
  | 6, _ => w_y206
  | 7, _ => w_y207
  | 8, _ => w_y208
  | 9, _ => w_y209
  | 10, _ => w_y210
  | 11, _ => w_y211
  | 12, _ => w_y212
  | 13, _ => w_y213
  | 14, _ => w_y214
  | 15, _ => w_y215
  | 16, _ => w_y216
  | 17, _ => w_y217
  | 18, _ => w_y218
  | 19, _ => w_y219
  | y + 20, h => absurd h (by omega)
theorem w_yk11 : ∀ j, j < 20 → ∀ w ∈ wY (220 + j), w ∈ lw_tbl
  | 0, _ => w_y220
  | 1, _ => w_y221
  | 2, _ => w_y222
  | 3, _ => w_y223
  | 4, _ => w_y224
  | 5, _ => w_y225
  | 6, _ => w_y226
  | 7, _ => w_y227
  | 8, _ => w_y228
  | 9, _ => w_y229
  | 10, _ => w_y230
  | 11, _ => w_y231
  | 12, _ => w_y232
  | 13, _ => w_y233
  | 14, _ => w_y234
  | 15, _ => w_y235
  | 16, _ => w_y236
  | 17, _ => w_y237
  | 18, _ => w_y238
  | 19, _ => w_y239
  | y + 20, h => absurd h (by omega)
theorem w_yk12 : ∀ j, j < 20 → ∀ w ∈ wY (240 + j), w ∈ lw_tbl
  | 0, _ => w_y240
  | 1, _ => w_y241
  | 2, _ => w_y242
  | 3, _ => w_y243
  | 4, _ => w_y244
  | 5, _ => w_y245
  | 6, _ => w_y246
  | 7, _ => w_y247
  | 8, _ => w_y248
  | 9, _ => w_y249
  | 10, _ => w_y250
  | 11, _ => w_y251
  | 12, _ => w_y252
  | 13, _ => w_y253
  | 14, _ => w_y254
  | 15, _ => w_y255
  | 16, _ => w_y256
  | 17, _ => w_y257
  | 18, _ => w_y258
  | 19, _ => w_y259
  | y + 20, h => absurd h (by omega)
theorem w_yk13 : ∀ j, j < 20 → ∀ w ∈ wY (260 + j), w ∈ lw_tbl
  | 0, _ => w_y260
  | 1, _ => w_y261
  | 2, _ => w_y262
  | 3, _ => w_y263
  | 4, _ => w_y264
  | 5, _ => w_y265
  | 6, _ => w_y266
  | 7, _ => w_y267
  | 8, _ => w_y268
  | 9, _ => w_y269
  | 10, _ => w_y270
  | 11, _ => w_y271
  | 12, _ => w_y272
  | 13, _ => w_y273
  | 14, _ => w_y274
  | 15, _ => w_y275
  | 16, _ => w_y276
  | 17, _ => w_y277
  | 18, _ => w_y278
  | 19, _ => w_y279
  | y + 20, h => absurd h (by omega)
theorem w_yk14 : ∀ j, j < 20 → ∀ w ∈ wY (280 + j), w ∈ lw_tbl
  | 0, _ => w_y280
  | 1, _ => w_y281
  | 2, _ => w_y282
  | 3, _ => w_y283
  | 4, _ => w_y284
  | 5, _ => w_y285
  | 6, _ => w_y286
  | 7, _ => w_y287
  | 8, _ => w_y288
  | 9, _ => w_y289
  | 10, _ => w_y290
  | 11, _ => w_y291
  | 12, _ => w_y292
  | 13, _ => w_y293
  | 14, _ => w_y294
  | 15, _ => w_y295
  | 16, _ => w_y296
  | 17, _ => w_y297
  | 18, _ => w_y298
  | 19, _ => w_y299
  | y + 20, h => absurd h (by omega)
theorem w_yk15 : ∀ j, j < 20 → ∀ w ∈ wY (300 + j), w ∈ lw_tbl
  | 0, _ => w_y300
  | 1, _ => w_y301
  | 2, _ => w_y302
  | 3, _ => w_y303
  | 4, _ => w_y304
  | 5, _ => w_y305
  | 6, _ => w_y306
  | 7, _ => w_y307
  | 8, _ => w_y308
  | 9, _ => w_y309
  | 10, _ => w_y310
  | 11, _ => w_y311
  | 12, _ => w_y312
  | 13, _ => w_y313
  | 14, _ => w_y314
  | 15, _ => w_y315
  | 16, _ => w_y316
  | 17, _ => w_y317
  | 18, _ => w_y318
  | 19, _ => w_y319
  | y + 20, h => absurd h (by omega)
theorem w_yk16 : ∀ j, j < 20 → ∀ w ∈ wY (320 + j), w ∈ lw_tbl
  | 0, _ => w_y320
  | 1, _ => w_y321
  | 2, _ => w_y322
  | 3, _ => w_y323
  | 4, _ => w_y324
  | 5, _ => w_y325
  | 6, _ => w_y326
  | 7, _ => w_y327
  | 8, _ => w_y328
  | 9, _ => w_y329
  | 10, _ => w_y330
  | 11, _ => w_y331
  | 12, _ => w_y332
  | 13, _ => w_y333
  | 14, _ => w_y334
  | 15, _ => w_y335
  | 16, _ => w_y336
  | 17, _ => w_y337
  | 18, _ => w_y338
  | 19, _ => w_y339
  | y + 20, h => absurd h (by omega)
theorem w_yk17 : ∀ j, j < 13 → ∀ w ∈ wY (340 + j), w ∈ lw_tbl
  | 0, _ => w_y340
  | 1, _ => w_y341
  | 2, _ => w_y342
  | 3, _ => w_y343
  | 4, _ => w_y344
  | 5, _ => w_y345
  | 6, _ => w_y346
  | 7, _ => w_y347
  | 8, _ => w_y348
  | 9, _ => w_y349
  | 10, _ => w_y350
  | 11, _ => w_y351
  | 12, _ => w_y352
  | y + 13, h => absurd h (by omega)
theorem w_y : ∀ y, y < NMc → ∀ w ∈ wY y, w ∈ lw_tbl := by
  intro y hy
  have hy : y < 353 := hy
  by_cases h0 : y < 20
  · exact of20 (P := fun y => ∀ w ∈ wY y, w ∈ lw_tbl) w_yk0 (by omega) (by omega)
  by_cases h1 : y < 40
  · exact of20 (P := fun y => ∀ w ∈ wY y, w ∈ lw_tbl) w_yk1 (by omega) (by omega)
  by_cases h2 : y < 60
  · exact of20 (P := fun y => ∀ w ∈ wY y, w ∈ lw_tbl) w_yk2 (by omega) (by omega)
  by_cases h3 : y < 80
  · exact of20 (P := fun y => ∀ w ∈ wY y, w ∈ lw_tbl) w_yk3 (by omega) (by omega)
  by_cases h4 : y < 100
  · exact of20 (P := fun y => ∀ w ∈ wY y, w ∈ lw_tbl) w_yk4 (by omega) (by omega)
  by_cases h5 : y < 120
  · exact of20 (P := fun y => ∀ w ∈ wY y, w ∈ lw_tbl) w_yk5 (by omega) (by omega)
  by_cases h6 : y < 140
  · exact of20 (P := fun y => ∀ w ∈ wY y, w ∈ lw_tbl) w_yk6 (by omega) (by omega)
  by_cases h7 : y < 160
  · exact of20 (P := fun y => ∀ w ∈ wY y, w ∈ lw_tbl) w_yk7 (by omega) (by omega)
  by_cases h8 : y < 180
  · exact of20 (P := fun y => ∀ w ∈ wY y, w ∈ lw_tbl) w_yk8 (by omega) (by omega)
  by_cases h9 : y < 200
  · exact of20 (P := fun y => ∀ w ∈ wY y, w ∈ lw_tbl) w_yk9 (by omega) (by omega)
  by_cases h10 : y < 220
  · exact of20 (P := fun y => ∀ w ∈ wY y, w ∈ lw_tbl) w_yk10 (by omega) (by omega)
  by_cases h11 : y < 240
  · exact of20 (P := fun y => ∀ w ∈ wY y, w ∈ lw_tbl) w_yk11 (by omega) (by omega)
  by_cases h12 : y < 260
  · exact of20 (P := fun y => ∀ w ∈ wY y, w ∈ lw_tbl) w_yk12 (by omega) (by omega)
  by_cases h13 : y < 280
  · exact of20 (P := fun y => ∀ w ∈ wY y, w ∈ lw_tbl) w_yk13 (by omega) (by omega)
  by_cases h14 : y < 300
  · exact of20 (P := fun y => ∀ w ∈ wY y, w ∈ lw_tbl) w_yk14 (by omega) (by omega)
  by_cases h15 : y < 320
  · exact of20 (P := fun y => ∀ w ∈ wY y, w ∈ lw_tbl) w_yk15 (by omega) (by omega)
  by_cases h16 : y < 340
  · exact of20 (P := fun y => ∀ w ∈ wY y, w ∈ lw_tbl) w_yk16 (by omega) (by omega)
  by_cases h17 : y < 353
  · exact of20 (P := fun y => ∀ w ∈ wY y, w ∈ lw_tbl) w_yk17 (by omega) (by omega)
  omega
theorem AW_tbl : ∀ w ∈ AW, w ∈ lw_tbl := by
  intro w h
  rcases List.mem_append.mp h with h | h
  · rcases List.mem_append.mp h with h | h
    · exact w_s w h
    · exact w_o w h
  rcases List.mem_append.mp h with h | h
  · obtain ⟨o, ho, h⟩ := List.mem_flatMap.mp h
    exact w_t o (List.mem_range.mp ho) w h
  rcases List.mem_append.mp h with h | h
  · obtain ⟨o, ho, h⟩ := List.mem_flatMap.mp h
    exact w_cl o (List.mem_range.mp ho) w h
  · obtain ⟨o, ho, h⟩ := List.mem_flatMap.mp h
    exact w_y o (List.mem_range.mp ho) w h
end
section
/-! the law's own instructions, eight blocks at a time -/
def lawC (q : Nat × List OpI) : Bool := chkO 11 false 1 4 code q.1 q.2
set_option maxRecDepth 100000 in
theorem lk_0 : ((KL_law.drop 0).take 8).all lawC = true := by decide +kernel
set_option maxRecDepth 100000 in
theorem lk_1 : ((KL_law.drop 8).take 8).all lawC = true := by decide +kernel
set_option maxRecDepth 100000 in
theorem lk_2 : ((KL_law.drop 16).take 8).all lawC = true := by decide +kernel
set_option maxRecDepth 100000 in
theorem lk_3 : ((KL_law.drop 24).take 8).all lawC = true := by decide +kernel
set_option maxRecDepth 100000 in
theorem lk_4 : ((KL_law.drop 32).take 8).all lawC = true := by decide +kernel
set_option maxRecDepth 100000 in
theorem lk_5 : ((KL_law.drop 40).take 8).all lawC = true := by decide +kernel
set_option maxRecDepth 100000 in
theorem lk_6 : ((KL_law.drop 48).take 8).all lawC = true := by decide +kernel
set_option maxRecDepth 100000 in
theorem lk_7 : ((KL_law.drop 56).take 8).all lawC = true := by decide +kernel
theorem law_len : KL_law.length ≤ 64 := by decide +kernel
theorem law_at {i k : Nat} {q : Nat × List OpI} (h : ((KL_law.drop k).take 8).all lawC = true) (hi : KL_law[i]? = some q) (h1 : k ≤ i) (h2 : i < k + 8) : lawC q = true := by
  refine List.all_eq_true.mp h q (List.mem_of_getElem? (i := i - k) ?_)
  rw [List.getElem?_take, if_pos (by omega), List.getElem?_drop, show k + (i - k) = i by omega]
  exact hi
theorem law_chk : ∀ q ∈ KL_law, chkO 11 false 1 4 code q.1 q.2 = true := by
  intro q hq
  obtain ⟨i, hi⟩ := List.getElem?_of_mem hq
  have hlt : i < 64 := Nat.lt_of_lt_of_le (List.getElem?_eq_some_iff.mp hi).1 law_len
  by_cases h0 : i < 8
  · exact law_at lk_0 hi (by omega) (by omega)
  by_cases h1 : i < 16
  · exact law_at lk_1 hi (by omega) (by omega)
  by_cases h2 : i < 24
  · exact law_at lk_2 hi (by omega) (by omega)
  by_cases h3 : i < 32
  · exact law_at lk_3 hi (by omega) (by omega)
  by_cases h4 : i < 40
  · exact law_at lk_4 hi (by omega) (by omega)
  by_cases h5 : i < 48
  · exact law_at lk_5 hi (by omega) (by omega)
  by_cases h6 : i < 56
  · exact law_at lk_6 hi (by omega) (by omega)
  by_cases h7 : i < 64
  · exact law_at lk_7 hi (by omega) (by omega)
  omega
end
section
/-! what the instructions do -/
def gG (h : Mem) (r : Nat) (i : Int) : Int := h.2.1 r i
def gR (h : Mem) (r : Nat) (i : Int) : Nat := h.2.2 r i
def kd (h : Mem) (r : Nat) : Nat := (h.1.getD r (999, 0)).1
def ln (h : Mem) (r : Nat) : Int := ((h.1.getD r (999, 0)).2 : Int)
def sG (h : Mem) (r : Nat) (i z : Int) : Mem := (h.1, fun r' i' => if r' = r ∧ i' = i then z else h.2.1 r' i', h.2.2)
def sR (h : Mem) (r : Nat) (i : Int) (z : Nat) : Mem := (h.1, h.2.1, fun r' i' => if r' = r ∧ i' = i then z else h.2.2 r' i')
def alc (h : Mem) (k n : Nat) : Mem := (h.1 ++ [(k, n)], fun r i => if r = h.1.length then 0 else h.2.1 r i, fun r i => if r = h.1.length then 999999 else h.2.2 r i)
def cpG (h : Mem) (src : Nat) (sp : Int) (dst : Nat) (dp n : Int) : Mem := (h.1, fun r i => if r = dst ∧ dp ≤ i ∧ i < dp + n then h.2.1 src (sp + (i - dp)) else h.2.1 r i, h.2.2)
def inI (z : Int) : Prop := -2147483648 ≤ z ∧ z ≤ 2147483647
def inL (z : Int) : Prop := -9223372036854775808 ≤ z ∧ z ≤ 9223372036854775807
def nthL (lo : Lo) (i : Nat) : Option MV := (lo[i]?).join
def clr (lo : Lo) (i : Nat) : Lo := match i with
  | 0 => lo
  | j + 1 => match nthL lo j with
    | some (.inr (.inl _)) => lo.set j none
    | _ => lo
def sto1 (lo : Lo) (i : Nat) (v : MV) : Lo := (clr lo i).set i (some v)
def sto2 (lo : Lo) (i : Nat) (v : MV) : Lo := ((clr lo i).set i (some v)).set (i + 1) none
def zand (a b : Int) : Int := (Int32.ofInt a &&& Int32.ofInt b).toInt
def zor (a b : Int) : Int := (Int32.ofInt a ||| Int32.ofInt b).toInt
def zxor (a b : Int) : Int := (Int32.ofInt a ^^^ Int32.ofInt b).toInt
def zushr (a b : Int) : Int := (((Int32.ofInt a).toUInt32 >>> ((Int32.ofInt b).toUInt32 &&& Int32.toUInt32 31)).toInt32).toInt
def zdiv (a b : Int) : Int := (Int32.ofInt a / Int32.ofInt b).toInt
def zrem (a b : Int) : Int := (Int32.ofInt a - Int32.ofInt a / Int32.ofInt b * Int32.ofInt b).toInt
def zb (a : Int) : Int := ((Int32.ofInt a).toInt8.toInt32).toInt
def zs (a : Int) : Int := ((Int32.ofInt a).toInt16.toInt32).toInt
def l2iZ (a : Int) : Int := ((Int64.ofInt a).toInt32).toInt
def ladZ (a b : Int) : Int := (Int64.ofInt a + Int64.ofInt b).toInt
def lsbZ (a b : Int) : Int := (Int64.ofInt a - Int64.ofInt b).toInt
def lmlZ (a b : Int) : Int := (Int64.ofInt a * Int64.ofInt b).toInt
def ldvZ (a b : Int) : Int := (Int64.ofInt a / Int64.ofInt b).toInt
def lrmZ (a b : Int) : Int := (Int64.ofInt a - Int64.ofInt a / Int64.ofInt b * Int64.ofInt b).toInt
def lanZ (a b : Int) : Int := (Int64.ofInt a &&& Int64.ofInt b).toInt
def lorZ (a b : Int) : Int := (Int64.ofInt a ||| Int64.ofInt b).toInt
def lshZ (a b : Int) : Int := (Int64.ofInt a <<< ((Int32.ofInt b).toInt64 &&& 63)).toInt
def cmpZ (a b : Int) : Int := if a > b then 1 else if a = b then 0 else -1
def shlZ (a b : Int) : Int := a * 2 ^ b.toNat
def shrZ (a b : Int) : Int := a >>> b.toNat
-- one instruction each
def o_ald (n : Nat) (k : Blk) : Blk := fun lo st h => match nthL lo n with
  | some (.inr (.inr r)) => k lo (vR r :: st) h
  | _ => False
def o_ild (n : Nat) (k : Blk) : Blk := fun lo st h => match nthL lo n with
  | some (.inl z) => k lo (vI z :: st) h
  | _ => False
def o_lld (n : Nat) (k : Blk) : Blk := fun lo st h => match nthL lo n with
  | some (.inr (.inl z)) => k lo (vL z :: st) h
  | _ => False
def o_ist (n : Nat) (k : Blk) : Blk := fun lo st h => match st with
  | .inl z :: st => k (sto1 lo n (vI z)) st h
  | _ => False
def o_ast (n : Nat) (k : Blk) : Blk := fun lo st h => match st with
  | .inr (.inr r) :: st => k (sto1 lo n (vR r)) st h
  | _ => False
def o_lst (n : Nat) (k : Blk) : Blk := fun lo st h => match st with
  | .inr (.inl z) :: st => k (sto2 lo n (vL z)) st h
  | _ => False
def o_inc (n : Nat) (c : Int) (k : Blk) : Blk := fun lo st h => match nthL lo n with
  | some (.inl z) => inI (z + c) ∧ k (sto1 lo n (vI (z + c))) st h
  | _ => False
def o_psh (v : MV) (k : Blk) : Blk := fun lo st h => k lo (v :: st) h
def o_bin (f : Int → Int → Int) (k : Blk) : Blk := fun lo st h => match st with
  | .inl b :: .inl a :: st => k lo (vI (f a b) :: st) h
  | _ => False
def o_binV (P : Int → Int → Prop) (f : Int → Int → Int) (k : Blk) : Blk := fun lo st h => match st with
  | .inl b :: .inl a :: st => P a b ∧ k lo (vI (f a b) :: st) h
  | _ => False
def o_un (f : Int → Int) (k : Blk) : Blk := fun lo st h => match st with
  | .inl a :: st => k lo (vI (f a) :: st) h
  | _ => False
def o_lbin (f : Int → Int → Int) (k : Blk) : Blk := fun lo st h => match st with
  | .inr (.inl b) :: .inr (.inl a) :: st => k lo (vL (f a b) :: st) h
  | _ => False
def o_lbinV (P : Int → Int → Prop) (f : Int → Int → Int) (k : Blk) : Blk := fun lo st h => match st with
  | .inr (.inl b) :: .inr (.inl a) :: st => P a b ∧ k lo (vL (f a b) :: st) h
  | _ => False
def o_lsh (k : Blk) : Blk := fun lo st h => match st with
  | .inl b :: .inr (.inl a) :: st => k lo (vL (lshZ a b) :: st) h
  | _ => False
def o_i2l (k : Blk) : Blk := fun lo st h => match st with
  | .inl a :: st => k lo (vL a :: st) h
  | _ => False
def o_l2i (k : Blk) : Blk := fun lo st h => match st with
  | .inr (.inl a) :: st => k lo (vI (l2iZ a) :: st) h
  | _ => False
def o_lcm (k : Blk) : Blk := fun lo st h => match st with
  | .inr (.inl b) :: .inr (.inl a) :: st => k lo (vI (cmpZ a b) :: st) h
  | _ => False
def cat1 (v : MV) : Bool := match v with
  | .inr (.inl _) => false
  | _ => true
def o_dup (k : Blk) : Blk := fun lo st h => match st with
  | v :: st => match cat1 v with
    | true => k lo (v :: v :: st) h
    | false => False
  | _ => False
def o_dup2 (k : Blk) : Blk := fun lo st h => match st with
  | v :: w :: st => match cat1 v && cat1 w with
    | true => k lo (v :: w :: v :: w :: st) h
    | false => False
  | _ => False
def o_pop (k : Blk) : Blk := fun lo st h => match st with
  | v :: st => match cat1 v with
    | true => k lo st h
    | false => False
  | _ => False
def o_if (c : ClassFile.Cond) (J : Jmp) (t : Nat) (k : Blk) : Blk := fun lo st h => match st with
  | .inl a :: st => match c with
    | .eq => (a = 0 → J t lo st h) ∧ (¬ a = 0 → k lo st h)
    | .ne => (¬ a = 0 → J t lo st h) ∧ (a = 0 → k lo st h)
    | .lt => (a < 0 → J t lo st h) ∧ (0 ≤ a → k lo st h)
    | .ge => (0 ≤ a → J t lo st h) ∧ (a < 0 → k lo st h)
    | .gt => (0 < a → J t lo st h) ∧ (a ≤ 0 → k lo st h)
    | .le => (a ≤ 0 → J t lo st h) ∧ (0 < a → k lo st h)
  | _ => False
def o_icmp (c : ClassFile.Cond) (J : Jmp) (t : Nat) (k : Blk) : Blk := fun lo st h => match st with
  | .inl b :: .inl a :: st => match c with
    | .eq => (a = b → J t lo st h) ∧ (¬ a = b → k lo st h)
    | .ne => (¬ a = b → J t lo st h) ∧ (a = b → k lo st h)
    | .lt => (a < b → J t lo st h) ∧ (b ≤ a → k lo st h)
    | .ge => (b ≤ a → J t lo st h) ∧ (a < b → k lo st h)
    | .gt => (b < a → J t lo st h) ∧ (a ≤ b → k lo st h)
    | .le => (a ≤ b → J t lo st h) ∧ (b < a → k lo st h)
  | _ => False
def swt (J : Jmp) (d : Nat) (a : Int) (lo : Lo) (st : List MV) (h : Mem) : List (Int × Nat) → Prop
  | [] => J d lo st h
  | (z, t) :: l => (a = z → J t lo st h) ∧ (¬ a = z → swt J d a lo st h l)
def o_swt (J : Jmp) (d : Nat) (ps : List (Int × Nat)) : Blk := fun lo st h => match st with
  | .inl a :: st => swt J d a lo st h ps ∧ True
  | _ => False
def o_get (c : Nat) (f : Int) (t : Int) (k : Blk) : Blk := fun lo st h => match st with
  | .inr (.inr r) :: st => kd h r = c ∧ (match t with
    | 1 => k lo (vL (gG h r f) :: st) h
    | 2 => k lo (vR (gR h r f) :: st) h
    | _ => k lo (vI (gG h r f) :: st) h)
  | _ => False
def o_put (c : Nat) (f : Int) (t : Int) (k : Blk) : Blk := fun lo st h => match st with
  | v :: .inr (.inr r) :: st => kd h r = c ∧ (match t, v with
    | 0, .inl z => k lo st (sG h r f z)
    | 1, .inr (.inl z) => k lo st (sG h r f z)
    | 2, .inr (.inr q) => k lo st (sR h r f q)
    | 3, .inl z => (z = 0 ∨ z = 1) ∧ k lo st (sG h r f z)
    | _, _ => False)
  | _ => False
def ixOk (h : Mem) (r : Nat) (i : Int) (kk : Nat) : Prop := kd h r = kk ∧ 0 ≤ i ∧ i < ln h r
def o_ial (kk : Nat) (k : Blk) : Blk := fun lo st h => match st with
  | .inl i :: .inr (.inr r) :: st => ixOk h r i kk ∧ k lo (vI (gG h r i) :: st) h
  | _ => False
def o_lal (k : Blk) : Blk := fun lo st h => match st with
  | .inl i :: .inr (.inr r) :: st => ixOk h r i 101 ∧ k lo (vL (gG h r i) :: st) h
  | _ => False
def o_aal (kk : Nat) (k : Blk) : Blk := fun lo st h => match st with
  | .inl i :: .inr (.inr r) :: st => ixOk h r i kk ∧ k lo (vR (gR h r i) :: st) h
  | _ => False
def stOk (kk : Nat) (z : Int) : Prop := match kk with
  | 100 => True
  | 102 => -128 ≤ z ∧ z ≤ 127
  | _ => z = 0 ∨ z = 1
def o_iasI (k : Blk) : Blk := fun lo st h => match st with
  | .inl z :: .inl i :: .inr (.inr r) :: st => ixOk h r i 100 ∧ k lo st (sG h r i z)
  | _ => False
def o_bas (kk : Nat) (k : Blk) : Blk := fun lo st h => match st with
  | .inl z :: .inl i :: .inr (.inr r) :: st => (ixOk h r i kk ∧ stOk kk z) ∧ k lo st (sG h r i z)
  | _ => False
def o_las (k : Blk) : Blk := fun lo st h => match st with
  | .inr (.inl z) :: .inl i :: .inr (.inr r) :: st => ixOk h r i 101 ∧ k lo st (sG h r i z)
  | _ => False
def o_aas (kk ck : Nat) (k : Blk) : Blk := fun lo st h => match st with
  | .inr (.inr q) :: .inl i :: .inr (.inr r) :: st => (ixOk h r i kk ∧ kd h q = ck) ∧ k lo st (sR h r i q)
  | _ => False
def o_len (kk : Nat) (k : Blk) : Blk := fun lo st h => match st with
  | .inr (.inr r) :: st => kd h r = kk ∧ k lo (vI (ln h r) :: st) h
  | _ => False
def roomOk (S1 : List (Nat × Nat)) (h : Mem) (n : Nat) : Prop := h.1.length + 1 ≤ S1.length ∧ totS h.1 + n ≤ totS S1 ∧ h.1.length < 800000
def o_new (S1 : List (Nat × Nat)) (c n : Nat) (k : Blk) : Blk := fun lo st h => roomOk S1 h n ∧ k lo (vR h.1.length :: st) (alc h c n)
def o_nea (S1 : List (Nat × Nat)) (kk : Nat) (k : Blk) : Blk := fun lo st h => match st with
  | .inl z :: st => (0 ≤ z ∧ z < 100000 ∧ roomOk S1 h z.toNat) ∧ k lo (vR h.1.length :: st) (alc h kk z.toNat)
  | _ => False
def psh (r : Option MV) (st : List MV) : List MV := match r with
  | some v => v :: st
  | none => st
def o_call (C : Cal) (y n : Nat) (k : Blk) : Blk := fun lo st h => (st.drop n).length ≤ 4 ∧ n ≤ st.length ∧ C y (st.take n).reverse h (fun r h' => k lo (psh r (st.drop n)) h')
def o_callV (C : Cal) (y n c : Nat) (k : Blk) : Blk := fun lo st h => match (st.take n).reverse with
  | .inr (.inr r) :: as => kd h r = c ∧ o_call C y n k lo st h
  | _ => False
def o_mx (f : Int → Int → Int) (k : Blk) : Blk := fun lo st h => match st with
  | .inl b :: .inl a :: st => st.length ≤ 8 ∧ k lo (vI (f a b) :: st) h
  | _ => False
def o_oin (k : Blk) : Blk := fun lo st h => match st with
  | .inr (.inr r) :: st => (kd h r < 11 ∧ st.length ≤ 4) ∧ k lo st h
  | _ => False
def o_callI (C : Cal) (S1 : List (Nat × Nat)) (y n c : Nat) (ps : List (Int × Nat)) (k : Blk) : Blk := fun lo st h => match ps with
  | (g, t) :: _ => (h.1.length + g.toNat ≤ S1.length ∧ totS h.1 + t ≤ totS S1) ∧ o_callV C y n c k lo st h
  | _ => False
def o_cpy (kk : Nat) (k : Blk) : Blk := fun lo st h => match st with
  | .inl n :: .inl dp :: .inr (.inr dst) :: .inl sp :: .inr (.inr src) :: st =>
    (kd h src = kk ∧ kd h dst = kk ∧ 0 ≤ sp ∧ 0 ≤ dp ∧ 0 ≤ n ∧ sp + n ≤ ln h src ∧ dp + n ≤ ln h dst ∧ st.length ≤ 4) ∧ k lo st (cpG h src sp dst dp n)
  | _ => False
def o_iret (Q : RetP) (S1 : List (Nat × Nat)) (t : Nat) : Blk := fun _ st h => match st with
  | [.inl z] => ((t = 1 → z = 0 ∨ z = 1) ∧ h.1 = S1) ∧ Q (some (vI z)) h
  | _ => False
def o_lret (Q : RetP) (S1 : List (Nat × Nat)) : Blk := fun _ st h => match st with
  | [.inr (.inl z)] => h.1 = S1 ∧ Q (some (vL z)) h
  | _ => False
def o_vret (Q : RetP) (S1 : List (Nat × Nat)) : Blk := fun _ st h => match st with
  | [] => h.1 = S1 ∧ Q none h
  | _ => False
def o_bad : Blk := fun _ _ _ => False
/-- what an instruction, with what its numbers mean, does ahead of the rest k -/
def opd (C : Cal) (J : Jmp) (Q : RetP) (S1 : List (Nat × Nat)) (x : OpI) (k : Blk) : Blk := match x with
  | (i, y, f, z, ps) => match i with
  | .aload n => o_ald n k
  | .aload_n n => o_ald n.val k
  | .iload n => o_ild n k
  | .iload_n n => o_ild n.val k
  | .lload n => o_lld n k
  | .lload_n n => o_lld n.val k
  | .istore n => o_ist n k
  | .istore_n n => o_ist n.val k
  | .astore n => o_ast n k
  | .astore_n n => o_ast n.val k
  | .lstore n => o_lst n k
  | .lstore_n n => o_lst n.val k
  | .iinc n c => o_inc n c k
  | .iconst z => o_psh (vI z) k
  | .bipush z => o_psh (vI z) k
  | .sipush z => o_psh (vI z) k
  | .lconst z => o_psh (vL z.val) k
  | .ldc _ => match y with
    | 0 => o_psh (vI z) k
    | _ => o_psh (vR f.toNat) k
  | .ldc_w _ => o_psh (vI z) k
  | .ldc2_w _ => o_psh (vL z) k
  | .iadd => o_binV (fun a b => inI (a + b)) (fun a b => a + b) k
  | .isub => o_binV (fun a b => inI (a - b)) (fun a b => a - b) k
  | .imul => o_binV (fun a b => inI (a * b)) (fun a b => a * b) k
  | .idiv => o_binV (fun _ b => ¬ b = 0) zdiv k
  | .irem => o_binV (fun _ b => ¬ b = 0) zrem k
  | .ishl => o_binV (fun a b => 0 ≤ b ∧ b < 32 ∧ inI (shlZ a b)) shlZ k
  | .ishr => o_binV (fun _ b => 0 ≤ b ∧ b < 32) shrZ k
  | .iushr => o_bin zushr k
  | .iand => o_bin zand k
  | .ior => o_bin zor k
  | .ixor => o_bin zxor k
  | .i2b => o_un zb k
  | .i2s => o_un zs k
  | .i2l => o_i2l k
  | .l2i => o_l2i k
  | .ladd => o_lbin ladZ k
  | .lsub => o_lbin lsbZ k
  | .lmul => o_lbin lmlZ k
  | .ldiv => o_lbinV (fun _ b => ¬ b = 0) ldvZ k
  | .lrem => o_lbinV (fun _ b => ¬ b = 0) lrmZ k
  | .land => o_lbin lanZ k
  | .lor => o_lbin lorZ k
  | .lshl => o_lsh k
  | .lcmp => o_lcm k
  | .dup => o_dup k
  | .dup2 => o_dup2 k
  | .pop => o_pop k
  | .goto _ => fun lo st h => J y lo st h ∧ True
  | .nop => fun lo st h => J y lo st h ∧ True
  | .ifCond c _ => o_if c J y k
  | .if_icmp c _ => o_icmp c J y k
  | .tableswitch _ _ _ _ => o_swt J y ps
  | .lookupswitch _ _ => o_swt J y ps
  | .getfield _ => o_get y f z k
  | .putfield _ => o_put y f z k
  | .iaload => match y with
    | 200 => fun lo st h => match st with
      | .inl i :: .inr (.inr 900000) :: st => C 2000 [vI i] h (fun r h' => k lo (psh r st) h') ∧ True
      | _ => False
    | _ => o_ial 100 k
  | .laload => o_lal k
  | .baload => o_ial y k
  | .aaload => o_aal y k
  | .iastore => o_iasI k
  | .lastore => o_las k
  | .bastore => o_bas y k
  | .aastore => o_aas y f.toNat k
  | .arraylength => match y with
    | 200 => fun lo st h => match st with
      | .inr (.inr 900000) :: st => C 2001 [] h (fun r h' => k lo (psh r st) h') ∧ True
      | _ => False
    | _ => o_len y k
  | .new _ => o_new S1 y f.toNat k
  | .newarray _ => o_nea S1 y k
  | .anewarray _ => o_nea S1 y k
  | .invokestatic _ => match y with
    | 1000 => o_mx max k
    | 1001 => o_mx min k
    | 1003 => o_cpy f.toNat k
    | _ => o_call C y f.toNat k
  | .invokevirtual _ => match z with
    | 99 => o_call C y f.toNat k
    | _ => o_callV C y f.toNat z.toNat k
  | .invokespecial _ => match y with
    | 1999 => o_oin k
    | _ => o_callI C S1 y f.toNat z.toNat ps k
  | .ireturn => o_iret Q S1 y
  | .lreturn => o_lret Q S1
  | .return_ => o_vret Q S1
  | _ => o_bad
def den (C : Cal) (J : Jmp) (Q : RetP) (S1 : List (Nat × Nat)) : List OpI → Blk
  | [] => o_bad
  | x :: ops => opd C J Q S1 x (den C J Q S1 ops)
def lkB : List (Nat × List OpI) → Nat → List OpI
  | [], _ => []
  | (q, ops) :: l, pc => if q = pc then ops else lkB l pc
/-- the run of a body from a place on: the least that is closed under its blocks -/
def Ex (C : Cal) (K : List (Nat × List OpI)) (S1 : List (Nat × Nat)) (Q : RetP) (pc : Nat) (lo : Lo) (st : List MV) (h : Mem) : Prop :=
  ∀ X : Jmp, (∀ J : Jmp, (∀ t lo st h, J t lo st h → X t lo st h) → ∀ pc lo st h, den C J Q S1 (lkB K pc) lo st h → X pc lo st h) → X pc lo st h
theorem Ex_step {C : Cal} {K : List (Nat × List OpI)} {S1 : List (Nat × Nat)} {Q : RetP} {pc : Nat} {lo : Lo} {st : List MV} {h : Mem} (q : den C (Ex C K S1 Q) Q S1 (lkB K pc) lo st h) : Ex C K S1 Q pc lo st h :=
  fun X hX => hX (Ex C K S1 Q) (fun _ _ _ _ e => e X hX) pc lo st h q
def lay1 (v : MV) : Lo := match v with
  | .inr (.inl z) => [some (vL z), none]
  | v => [some v]
def entL (args : List MV) (n : Nat) : Lo := args.flatMap lay1 ++ List.replicate (n - (args.flatMap lay1).length) none
end
section
/-! numbers of the model against the machine's -/
theorem i32_in (x : Int32) : inI x.toInt := ⟨by have := Int32.le_toInt x; omega, by have := Int32.toInt_lt x; omega⟩
theorem i64_in (x : Int64) : inL x.toInt := ⟨by have := Int64.le_toInt x; omega, by have := Int64.toInt_lt x; omega⟩
theorem i32_oi (x : Int32) : Int32.ofInt x.toInt = x := Int32.ofInt_toInt x
theorem i64_oi (x : Int64) : Int64.ofInt x.toInt = x := Int64.ofInt_toInt x
theorem i32_to {z : Int} (h : inI z) : (Int32.ofInt z).toInt = z := Int32.toInt_ofInt_of_le (by have := h.1; omega) (by have := h.2; omega)
theorem i64_to {z : Int} (h : inL z) : (Int64.ofInt z).toInt = z := Int64.toInt_ofInt_of_le (by have := h.1; omega) (by have := h.2; omega)
theorem i32_eq {a b : Int} (ha : inI a) (hb : inI b) : Int32.ofInt a = Int32.ofInt b ↔ a = b := by
  rw [← Int32.toInt_inj, i32_to ha, i32_to hb]
theorem i32_lt {a b : Int} (ha : inI a) (hb : inI b) : Int32.ofInt a < Int32.ofInt b ↔ a < b := by
  rw [Int32.lt_iff_toInt_lt, i32_to ha, i32_to hb]
theorem i32_le {a b : Int} (ha : inI a) (hb : inI b) : Int32.ofInt a ≤ Int32.ofInt b ↔ a ≤ b := by
  rw [Int32.le_iff_toInt_le, i32_to ha, i32_to hb]
theorem i64_eq {a b : Int} (ha : inL a) (hb : inL b) : Int64.ofInt a = Int64.ofInt b ↔ a = b := by
  rw [← Int64.toInt_inj, i64_to ha, i64_to hb]
theorem i64_lt {a b : Int} (ha : inL a) (hb : inL b) : Int64.ofInt a < Int64.ofInt b ↔ a < b := by
  rw [Int64.lt_iff_toInt_lt, i64_to ha, i64_to hb]
theorem i32_0 : Int32.ofInt 0 = 0 := rfl
theorem inI_0 : inI 0 := ⟨by omega, by omega⟩
theorem i32_wide {a : Int} (ha : inI a) : (Int32.ofInt a).toInt64 = Int64.ofInt a := by
  apply Int64.toInt_inj.mp
  rw [Int32.toInt_toInt64, i32_to ha, i64_to ⟨by have := ha.1; omega, by have := ha.2; omega⟩]
theorem i32_clamp {a : Int} (ha : inI a) (h0 : 0 ≤ a) : (Int32.ofInt a).toNatClampNeg = a.toNat := by
  have h : (Int32.ofInt a).toInt = a := i32_to ha
  show (Int32.ofInt a).toInt.toNat = a.toNat
  rw [h]
theorem i32_vin {a : Int} {n : Nat} (ha : inI a) (h0 : 0 ≤ a) (h1 : a < n) : vp_in (Int32.ofInt a) n := by
  rw [vp_in_iff, i32_to ha]
  exact ⟨h0, h1⟩
theorem i32_cmp {a b : Int} (ha : inL a) (hb : inL b) : lg_cmp (Int64.ofInt a) (Int64.ofInt b) = Int32.ofInt (cmpZ a b) := by
  unfold lg_cmp cmpZ
  by_cases h1 : a > b
  · rw [if_pos h1, if_pos (show Int64.ofInt a > Int64.ofInt b from (i64_lt hb ha).mpr h1)]; rfl
  · rw [if_neg h1, if_neg (show ¬ Int64.ofInt a > Int64.ofInt b from fun q => h1 ((i64_lt hb ha).mp q))]
    by_cases h2 : a = b
    · rw [if_pos h2, if_pos ((i64_eq ha hb).mpr h2)]; rfl
    · rw [if_neg h2, if_neg (fun q => h2 ((i64_eq ha hb).mp q))]; rfl
theorem inI_cmp (a b : Int) : inI (cmpZ a b) := by
  unfold cmpZ
  split
  · exact ⟨by omega, by omega⟩
  · split <;> exact ⟨by omega, by omega⟩
theorem i32_max {a b : Int} (ha : inI a) (hb : inI b) : (if Int32.ofInt a < Int32.ofInt b then Int32.ofInt b else Int32.ofInt a) = Int32.ofInt (max a b) := by
  by_cases h : a < b
  · rw [if_pos ((i32_lt ha hb).mpr h), show max a b = b by omega]
  · rw [if_neg (fun q => h ((i32_lt ha hb).mp q)), show max a b = a by omega]
theorem i32_sh32 : ∀ n, n < 32 → ((Int32.ofInt (n : Nat) &&& 31).toBitVec.smod 32).toNat = n := by decide +kernel
theorem i32_tp : ∀ n, n < 32 → BitVec.twoPow 32 n = (Int32.ofInt (2 ^ n)).toBitVec := by decide +kernel
theorem i32_shl {a b : Int} (hb0 : 0 ≤ b) (hb : b < 32) : Int32.ofInt a <<< (Int32.ofInt b &&& 31) = Int32.ofInt (shlZ a b) := by
  obtain ⟨n, rfl⟩ := Int.eq_ofNat_of_zero_le hb0
  have hn : n < 32 := by omega
  have h1 := i32_sh32 n hn
  apply Int32.toBitVec_inj.mp
  rw [Int32.toBitVec_shiftLeft, BitVec.shiftLeft_eq', h1]
  unfold shlZ
  rw [Int32.ofInt_mul, Int32.toBitVec_mul, BitVec.shiftLeft_eq_mul_twoPow, i32_tp n hn]
  rfl
theorem i32_shr {a b : Int} (ha : inI a) (hb0 : 0 ≤ b) (hb : b < 32) : Int32.ofInt a >>> (Int32.ofInt b &&& 31) = Int32.ofInt (shrZ a b) := by
  obtain ⟨n, rfl⟩ := Int.eq_ofNat_of_zero_le hb0
  have hn : n < 32 := by omega
  have h1 := i32_sh32 n hn
  have h2 := pk_shr (Int32.ofInt a) (Int32.ofInt (n : Nat) &&& 31) n h1
  rw [← i32_oi (Int32.ofInt a >>> (Int32.ofInt ↑n &&& 31)), h2, i32_to ha]
  rfl
theorem inI_shr {a b : Int} (ha : inI a) (hb0 : 0 ≤ b) (hb : b < 32) : inI (shrZ a b) := by
  obtain ⟨n, rfl⟩ := Int.eq_ofNat_of_zero_le hb0
  have hn : n < 32 := by omega
  have h2 := pk_shr (Int32.ofInt a) (Int32.ofInt (n : Nat) &&& 31) n (i32_sh32 n hn)
  rw [i32_to ha] at h2
  show inI (a >>> n)
  rw [← h2]
  exact i32_in _
theorem i32_byte {z : Int} (h : -128 ≤ z ∧ z ≤ 127) : vp_nar .byte (Int32.ofInt z) = Int32.ofInt z := by
  rw [vp_nar_byte]
  apply Int32.toInt_inj.mp
  have hz : inI z := ⟨by omega, by omega⟩
  rw [Int8.toInt_toInt32, Int32.toInt_toInt8, i32_to hz]
  rw [Int.bmod_def]
  have := h.1; have := h.2
  omega
theorem i32_bool {z : Int} (h : z = 0 ∨ z = 1) : vp_nar .boolean (Int32.ofInt z) = Int32.ofInt z := by
  rcases h with rfl | rfl <;> decide
theorem i32_bipush {z : Int} (h : -128 ≤ z ∧ z ≤ 127) : (Int8.ofInt z).toInt32 = Int32.ofInt z := by
  apply Int32.toInt_inj.mp
  rw [Int8.toInt_toInt32, Int8.toInt_ofInt_of_le (by omega) (by omega), i32_to ⟨by omega, by omega⟩]
theorem i32_sipush {z : Int} (h : -32768 ≤ z ∧ z ≤ 32767) : (Int16.ofInt z).toInt32 = Int32.ofInt z := by
  apply Int32.toInt_inj.mp
  rw [Int16.toInt_toInt32, Int16.toInt_ofInt_of_le (by omega) (by omega), i32_to ⟨by omega, by omega⟩]
theorem i64_lconst (n : Nat) : Int64.ofNat n = Int64.ofInt (n : Int) := rfl
end
section
/-! the model's memory as a world of the kit's -/
def trV (A : Nat → Option Nat) (v : MV) : Value := match v with
  | .inl z => .int (Int32.ofInt z)
  | .inr (.inl z) => .long (Int64.ofInt z)
  | .inr (.inr r) => va_rf (A r)
def vok (v : MV) : Prop := match v with
  | .inl z => inI z
  | .inr (.inl z) => inL z
  | .inr (.inr _) => True
def isLg (v : MV) : Prop := match v with
  | .inr (.inl _) => True
  | _ => False
def fvV (A : Nat → Option Nat) (h : Mem) (r : Nat) (j t : Nat) : Value := match t with
  | 1 => .long (Int64.ofInt (gG h r j))
  | 2 => va_rf (A (gR h r j))
  | _ => .int (Int32.ofInt (gG h r j))
def fvs (A : Nat → Option Nat) (h : Mem) (r k : Nat) : List Value := (ftys.getD k []).mapIdx (fun j t => fvV A h r j t)
def cel (A : Nat → Option Nat) (kA : Nat → ClassId) (h : Mem) (r : Nat) (q : Nat × Nat) : va_E :=
  if q.1 < 100 then .inr (q.1, fvs A h r q.1)
  else if q.1 = 101 then .inl (kA q.1, q.2, .inr (.inl fun j => Int64.ofInt (gG h r j)))
  else if q.1 < 104 then .inl (kA q.1, q.2, .inl fun j => Int32.ofInt (gG h r j))
  else .inl (kA q.1, q.2, .inr (.inr (.inr (.inr fun j => A (gR h r j)))))
def wsO (B : Nat) (A : Nat → Option Nat) (kA : Nat → ClassId) (h : Mem) : va_W := h.1.mapIdx (fun r q => (B + r, cel A kA h r q))
def isL (k j : Nat) : Bool := k == 101 || (decide (k < 100) && ((ftys.getD k []).getD j 0 == 1))
def rngK (k j : Nat) (z : Int) : Prop := if isL k j = true then inL z else inI z
def MOk (h : Mem) : Prop := ∀ (r : Nat) (q : Nat × Nat), h.1[r]? = some q → ∀ j : Nat, rngK q.1 j (gG h r j)
def ShOk (h : Mem) : Prop := ∀ (r : Nat) (q : Nat × Nat), h.1[r]? = some q → (q.1 < 11 ∧ q.2 = (ftys.getD q.1 []).length) ∨ (100 ≤ q.1 ∧ q.1 ≤ 106 ∧ q.2 < 100000)
def Wd (B : Nat) (A : Nat → Option Nat) (kA : Nat → ClassId) (D : va_G) (AA : Nat → Prop) (h : Mem) (H : Heap) : Prop :=
  va_P D vwCl (wsO B A kA h) H ∧ va_D AA (wsO B A kA h) ∧ h.1.length < 900000 ∧ ShOk h ∧ MOk h
def tys7 (kA : Nat → ClassId) : List (ClassId × FieldType) := [(kA 100, .int), (kA 101, .long), (kA 102, .byte), (kA 103, .boolean), (kA 104, .object RX6), (kA 105, .object RX7), (kA 106, .object RX3)]
theorem trV_cat (A : Nat → Option Nat) (v : MV) : (trV A v).category = 2 ↔ isLg v := by
  rcases v with z | z | r
  · simp [trV, isLg, Value.category]
  · simp [trV, isLg, Value.category]
  · cases hA : A r <;> simp [trV, isLg, Value.category, va_rf, hA]
theorem trV_cat1 {A : Nat → Option Nat} {v : MV} (h : cat1 v = true) : (trV A v).category = 1 := by
  rcases v with z | z | r
  · rfl
  · cases h
  · cases hA : A r <;> simp [trV, Value.category, va_rf, hA]
theorem wsO_at {B : Nat} {A : Nat → Option Nat} {kA : Nat → ClassId} {h : Mem} {r : Nat} {q : Nat × Nat} (hr : h.1[r]? = some q) : (wsO B A kA h)[r]? = some (B + r, cel A kA h r q) := by
  simp [wsO, List.getElem?_mapIdx, hr]
theorem wsO_set {B : Nat} {A : Nat → Option Nat} {kA : Nat → ClassId} {h h' : Mem} {r : Nat} {q : Nat × Nat} (hs : h'.1 = h.1) (hr : h.1[r]? = some q) (hne : ∀ r' q', r' ≠ r → cel A kA h' r' q' = cel A kA h r' q') {x : Nat × va_E} (hx : x = (B + r, cel A kA h' r q)) : (wsO B A kA h).set r x = wsO B A kA h' := by
  subst hx
  apply List.ext_getElem?
  intro i
  rw [List.getElem?_set]
  have hlt : r < h.1.length := (List.getElem?_eq_some_iff.mp hr).1
  by_cases hi : r = i
  · subst hi
    rw [if_pos rfl, if_pos (by simp [wsO]; exact hlt), wsO_at (h := h') (by rw [hs]; exact hr)]
  · rw [if_neg hi]
    simp only [wsO, List.getElem?_mapIdx, hs]
    cases h.1[i]? with
    | none => rfl
    | some q' => simp only [Option.map_some]; rw [hne i q' (fun e => hi e.symm)]
theorem kd_some {h : Mem} {r k : Nat} (hk : kd h r = k) (h9 : k < 900) : ∃ n : Nat, h.1[r]? = some (k, n) ∧ ln h r = (n : Int) := by
  unfold kd at hk
  unfold ln
  rw [List.getD_eq_getElem?_getD] at *
  cases hq : h.1[r]? with
  | none => rw [hq] at hk; simp at hk; omega
  | some q =>
    rw [hq] at hk
    simp only [Option.getD_some] at *
    exact ⟨q.2, by rw [← hk], rfl⟩
theorem cel_sG {A : Nat → Option Nat} {kA : Nat → ClassId} {h : Mem} {r : Nat} {i z : Int} : ∀ r' q', r' ≠ r → cel A kA (sG h r i z) r' q' = cel A kA h r' q' := by
  intro r' q' hne
  simp [cel, fvs, fvV, gG, gR, sG, hne]
theorem cel_sR {A : Nat → Option Nat} {kA : Nat → ClassId} {h : Mem} {r z : Nat} {i : Int} : ∀ r' q', r' ≠ r → cel A kA (sR h r i z) r' q' = cel A kA h r' q' := by
  intro r' q' hne
  simp [cel, fvs, fvV, gG, gR, sR, hne]
theorem cel_cp {A : Nat → Option Nat} {kA : Nat → ClassId} {h : Mem} {r src : Nat} {sp dp n : Int} : ∀ r' q', r' ≠ r → cel A kA (cpG h src sp r dp n) r' q' = cel A kA h r' q' := by
  intro r' q' hne
  simp [cel, fvs, fvV, gG, gR, cpG, hne]
theorem MOk_sG {h : Mem} {r : Nat} {i z : Int} {q : Nat × Nat} (hM : MOk h) (hr : h.1[r]? = some q) (hz : ∀ j : Nat, (j : Int) = i → rngK q.1 j z) : MOk (sG h r i z) := by
  intro r' q' hq' j
  show rngK q'.1 j (if r' = r ∧ (j : Int) = i then z else h.2.1 r' j)
  by_cases hc : r' = r ∧ (j : Int) = i
  · rw [if_pos hc]
    obtain ⟨rfl, e⟩ := hc
    have : some q' = some q := hq'.symm.trans hr
    cases this
    exact hz j e
  · rw [if_neg hc]
    exact hM r' q' hq' j
-- locals
def prsF (A : Nat → Option Nat) : Nat → Lo → List (Nat × Value)
  | _, [] => []
  | i, none :: l => prsF A (i + 1) l
  | i, some v :: l => (i, trV A v) :: prsF A (i + 1) l
theorem mem_prs {A : Nat → Option Nat} : ∀ (lo : Lo) (i : Nat) (q : Nat × Value), q ∈ prsF A i lo ↔ ∃ (j : Nat) (v : MV), lo[j]? = some (some v) ∧ q = (i + j, trV A v)
  | [], i, q => by simp [prsF]
  | none :: l, i, q => by
    rw [prsF, mem_prs l (i + 1) q]
    constructor
    · rintro ⟨j, v, h, rfl⟩
      exact ⟨j + 1, v, by simpa using h, by rw [show i + 1 + j = i + (j + 1) by omega]⟩
    · rintro ⟨j, v, h, rfl⟩
      cases j with
      | zero => simp at h
      | succ j => exact ⟨j, v, by simpa using h, by rw [show i + 1 + j = i + (j + 1) by omega]⟩
  | some w :: l, i, q => by
    rw [prsF, List.mem_cons, mem_prs l (i + 1) q]
    constructor
    · rintro (rfl | ⟨j, v, h, rfl⟩)
      · exact ⟨0, w, by simp, by simp⟩
      · exact ⟨j + 1, v, by simpa using h, by rw [show i + 1 + j = i + (j + 1) by omega]⟩
    · rintro ⟨j, v, h, rfl⟩
      cases j with
      | zero => left; simp at h; subst h; simp
      | succ j => right; exact ⟨j, v, by simpa using h, by rw [show i + 1 + j = i + (j + 1) by omega]⟩
theorem nth_some {lo : Lo} {i : Nat} {v : MV} : nthL lo i = some v ↔ lo[i]? = some (some v) := by
  unfold nthL
  cases h : lo[i]? with
  | none => simp
  | some x => cases x <;> simp
theorem prs_at {A : Nat → Option Nat} {lo : Lo} {ls : Array Slot} {nL i : Nat} {v : MV} (hl : lv_has ls nL (prsF A 0 lo)) (hn : nthL lo i = some v) : ls[i]? = some (.val (trV A v)) :=
  hl.2.2 (i, trV A v) ((mem_prs lo 0 _).mpr ⟨i, v, nth_some.mp hn, by simp⟩)
theorem nth_clr {lo : Lo} {i j : Nat} {w : MV} (h : nthL (clr lo i) j = some w) : nthL lo j = some w ∧ ¬ (j + 1 = i ∧ isLg w) := by
  unfold clr at h
  cases i with
  | zero => exact ⟨h, fun q => by omega⟩
  | succ i =>
    dsimp only at h
    split at h
    · rename_i z hz
      rw [nth_some, List.getElem?_set] at h
      by_cases e : i = j
      · rw [if_pos e] at h
        split at h <;> simp at h
      · rw [if_neg e] at h
        exact ⟨nth_some.mpr h, fun q => e (by omega)⟩
    · rename_i hz
      refine ⟨h, fun q => ?_⟩
      obtain ⟨q1, q2⟩ := q
      have : j = i := by omega
      subst this
      rcases w with z | z | r
      · exact q2
      · exact hz z h
      · exact q2
theorem clr_len (lo : Lo) (i : Nat) : (clr lo i).length = lo.length := by
  unfold clr
  cases i with
  | zero => rfl
  | succ i => dsimp only; split <;> simp
theorem nth_sto1 {lo : Lo} {i j : Nat} {v w : MV} (h : nthL (sto1 lo i v) j = some w) : (j = i ∧ w = v) ∨ (¬ j = i ∧ nthL lo j = some w ∧ ¬ (j + 1 = i ∧ isLg w)) := by
  unfold sto1 at h
  rw [nth_some, List.getElem?_set] at h
  by_cases e : i = j
  · rw [if_pos e] at h
    split at h
    · left; simp at h; exact ⟨e.symm, h.symm⟩
    · simp at h
  · rw [if_neg e] at h
    right
    exact ⟨fun q => e q.symm, nth_clr (nth_some.mpr h)⟩
theorem nth_sto2 {lo : Lo} {i j : Nat} {v w : MV} (h : nthL (sto2 lo i v) j = some w) : (j = i ∧ w = v) ∨ (¬ j = i ∧ ¬ j = i + 1 ∧ nthL lo j = some w ∧ ¬ (j + 1 = i ∧ isLg w)) := by
  unfold sto2 at h
  rw [nth_some, List.getElem?_set] at h
  by_cases e1 : i + 1 = j
  · rw [if_pos e1] at h
    split at h <;> simp at h
  · rw [if_neg e1] at h
    rcases nth_sto1 (lo := lo) (i := i) (j := j) (v := v) (nth_some.mpr h) with q | ⟨q1, q2, q3⟩
    · exact Or.inl q
    · exact Or.inr ⟨q1, fun q => e1 q.symm, q2, q3⟩
theorem sto1_len (lo : Lo) (i : Nat) (v : MV) : (sto1 lo i v).length = lo.length := by simp [sto1, clr_len]
theorem sto2_len (lo : Lo) (i : Nat) (v : MV) : (sto2 lo i v).length = lo.length := by simp [sto2, clr_len]
theorem has_sto1 {A : Nat → Option Nat} {lo : Lo} {ls : Array Slot} {nL i : Nat} {v : MV} (h : lv_has ls nL ((i, trV A v) :: (prsF A 0 lo).filter (fun q => !(q.1 == i) && !(q.1 + 1 == i && q.2.category == 2)))) : lv_has ls nL (prsF A 0 (sto1 lo i v)) := by
  refine ⟨h.1, h.2.1, fun q hq => h.2.2 q ?_⟩
  obtain ⟨j, w, hj, rfl⟩ := (mem_prs _ _ _).mp hq
  rcases nth_sto1 (nth_some.mpr hj) with ⟨rfl, rfl⟩ | ⟨q1, q2, q3⟩
  · simp
  · refine List.mem_cons_of_mem _ (List.mem_filter.mpr ⟨(mem_prs _ _ _).mpr ⟨j, w, nth_some.mp q2, rfl⟩, ?_⟩)
    have e1 : (0 + j == i) = false := by simp; exact q1
    have e2 : (0 + j + 1 == i && (trV A w).category == 2) = false := by
      rw [Bool.and_eq_false_iff]
      by_cases e : j + 1 = i
      · right
        have : ¬ (trV A w).category = 2 := fun q => q3 ⟨e, (trV_cat A w).mp q⟩
        simpa using this
      · left; simpa using e
    show (!(0 + j == i) && !(0 + j + 1 == i && (trV A w).category == 2)) = true
    rw [e1, e2]; rfl
theorem has_sto2 {A : Nat → Option Nat} {lo : Lo} {ls : Array Slot} {nL i : Nat} {v : MV} (h : lv_has ls nL ((i, trV A v) :: (prsF A 0 lo).filter (fun q => !(q.1 == i) && (!(q.1 == i + 1) && !(q.1 + 1 == i && q.2.category == 2))))) : lv_has ls nL (prsF A 0 (sto2 lo i v)) := by
  refine ⟨h.1, h.2.1, fun q hq => h.2.2 q ?_⟩
  obtain ⟨j, w, hj, rfl⟩ := (mem_prs _ _ _).mp hq
  rcases nth_sto2 (nth_some.mpr hj) with ⟨rfl, rfl⟩ | ⟨q1, q1', q2, q3⟩
  · simp
  · refine List.mem_cons_of_mem _ (List.mem_filter.mpr ⟨(mem_prs _ _ _).mpr ⟨j, w, nth_some.mp q2, rfl⟩, ?_⟩)
    have e1 : (0 + j == i) = false := by simp; exact q1
    have e3 : (0 + j == i + 1) = false := by simp; exact q1'
    have e2 : (0 + j + 1 == i && (trV A w).category == 2) = false := by
      rw [Bool.and_eq_false_iff]
      by_cases e : j + 1 = i
      · right
        have : ¬ (trV A w).category = 2 := fun q => q3 ⟨e, (trV_cat A w).mp q⟩
        simpa using this
      · left; simpa using e
    show (!(0 + j == i) && (!(0 + j == i + 1) && !(0 + j + 1 == i && (trV A w).category == 2))) = true
    rw [e1, e2, e3]; rfl
end
section
/-! every instruction of the model is the machine's -/
def tx0 : String := "net fog odds arch holds moss toll person weight doubt love at plant joy run rope jump home day any when over loop end stop "
def tx1 : String := " net fog odds arch person plant holds moss toll weight doubt love at joy run rope jump home day any when loop end stop over "
def st0 : List Int := [110, 101, 116, 32, 102, 111, 103, 32, 111, 100, 100, 115, 32, 97, 114, 99, 104, 32, 104, 111, 108, 100, 115, 32, 109, 111, 115, 115, 32, 116, 111, 108, 108, 32, 112, 101, 114, 115, 111, 110, 32, 119, 101, 105, 103, 104, 116, 32, 100, 111, 117, 98, 116, 32, 108, 111, 118, 101, 32, 97, 116, 32, 112, 108, 97, 110, 116, 32, 106, 111, 121, 32, 114, 117, 110, 32, 114, 111, 112, 101, 32, 106, 117, 109, 112, 32, 104, 111, 109, 101, 32, 100, 97, 121, 32, 97, 110, 121, 32, 119, 104, 101, 110, 32, 111, 118, 101, 114, 32, 108, 111, 111, 112, 32, 101, 110, 100, 32, 115, 116, 111, 112, 32]
def st1 : List Int := [32, 110, 101, 116, 32, 102, 111, 103, 32, 111, 100, 100, 115, 32, 97, 114, 99, 104, 32, 112, 101, 114, 115, 111, 110, 32, 112, 108, 97, 110, 116, 32, 104, 111, 108, 100, 115, 32, 109, 111, 115, 115, 32, 116, 111, 108, 108, 32, 119, 101, 105, 103, 104, 116, 32, 100, 111, 117, 98, 116, 32, 108, 111, 118, 101, 32, 97, 116, 32, 106, 111, 121, 32, 114, 117, 110, 32, 114, 111, 112, 101, 32, 106, 117, 109, 112, 32, 104, 111, 109, 101, 32, 100, 97, 121, 32, 97, 110, 121, 32, 119, 104, 101, 110, 32, 108, 111, 111, 112, 32, 101, 110, 100, 32, 115, 116, 111, 112, 32, 111, 118, 101, 114, 32]
/-- what is known of the launch beside the words: arrays of references, calls between nest mates, the two texts, String's own statics -/
def Xk (adK adV : Nat → Nat) (B : Nat) (U : State) : Prop :=
  va_AO RX6 U ∧ va_AO RX7 U ∧ va_AO RX3 U ∧ va_Nw (.methodLinkNest RX8 53 yX9_contains RX9) U ∧ va_Nw (.methodLinkNest RX7 139 yX9_contains RX9) U ∧ va_Nw (.methodLinkNest RX1 50 yX9_contains RX9) U ∧
  vk_R RX5 82 tx0 (adK 0) U ∧ vk_R RX10 181 tx1 (adK 1) U ∧ vk_S 2 [st0.length, st1.length] [st0.map Int32.ofInt, st1.map Int32.ofInt] adK adV (fun q => B ≤ q) U U.heap ∧
  va_Z "java/lang/String" "COMPACT_STRINGS" "Z" (.int 1) (fun q => B ≤ q) U U.heap ∧ va_Zq "jdk/internal/util/Preconditions" "SIOOBE_FORMATTER" "Ljava/util/function/BiFunction;" (fun q => B ≤ q) U U.heap
def FxC (p : Program) (s : State) (m : MethodId) (c : Code) (args : Array Value) (cc : ByteArray) (nL : Nat) (own : String) (Ts : List Cond) (D : va_G) (kA : Nat → ClassId) (A : Nat → Option Nat) (B len0 : Nat) (adK adV : Nat → Nat) : Prop :=
  p.tables.exec = Jvm.exec ∧ c.code = cc ∧ c.maxLocals = nL ∧ s.vm.findClass own = some m.cls ∧ (∀ w ∈ Ts, w.before args s = true) ∧ va_K D vwCl (tys7 kA) s ∧ s.heap.size = B + len0 ∧ (∀ r, r < 900000 → A r = some (B + r)) ∧ A 999999 = none ∧ A 900001 = some (adK 0) ∧ A 900002 = some (adK 1) ∧ Xk adK adV B s
def FrC (R : Room) (s : State) (nL B : Nat) (A : Nat → Option Nat) (kA : Nat → ClassId) (D : va_G) (len0 tot0 : Nat) (lo : Lo) (st : List MV) (h : Mem) (H : Heap) (ls : Array Slot) (locs : List Loc) (cells slots : Nat) : Prop :=
  Wd B A kA D (fun q => B ≤ q) h H ∧ va_S (fun q => B ≤ q) s.heap H locs ∧ lv_has ls nL (prsF A 0 lo) ∧ (lo.length = nL ∧ cells ≤ R.cells ∧ slots ≤ R.slots) ∧ (∀ i v, nthL lo i = some v → vok v) ∧ (∀ v ∈ st, vok v) ∧ h.1.length = len0 + cells ∧ totS h.1 = tot0 + slots
def Sd (p : Program) (l : Launch) (e : Env) (R : Room) (s : State) (m : MethodId) (args : Array Value) (below : List Frame) (meth : Method) (c : Code) (QQ : State → Prop) (B : Nat) (A : Nat → Option Nat) (kA : Nat → ClassId) (D : va_G) (nL len0 tot0 : Nat) (pc : Nat) (b : Blk) : Prop :=
  ∀ lo st h H ls locs cells slots, FrC R s nL B A kA D len0 tot0 lo st h H ls locs cells slots → b lo st h → W p l e R s m args below meth c H locs cells slots QQ (F0 m pc ls (st.map (trV A)))
section SND
variable {p : Program} {l : Launch} {e : Env} {R : Room} {s : State} {m : MethodId} {args : Array Value} {below : List Frame} {meth : Method} {c : Code} {QQ : State → Prop} {B : Nat} {A : Nat → Option Nat} {kA : Nat → ClassId} {D : va_G} {cc : ByteArray} {nL : Nat} {own : String} {len0 tot0 : Nat} {Ts : List Cond} {pc : Nat} {k : Blk} {adK adV : Nat → Nat}
theorem FrC.st {lo : Lo} {st st' : List MV} {h : Mem} {H : Heap} {ls : Array Slot} {locs : List Loc} {cells slots : Nat} (f : FrC R s nL B A kA D len0 tot0 lo st h H ls locs cells slots) (hv : ∀ v ∈ st', vok v) : FrC R s nL B A kA D len0 tot0 lo st' h H ls locs cells slots :=
  ⟨f.1, f.2.1, f.2.2.1, f.2.2.2.1, f.2.2.2.2.1, hv, f.2.2.2.2.2.2⟩
theorem FrC.ok {lo : Lo} {st : List MV} {h : Mem} {H : Heap} {ls : Array Slot} {locs : List Loc} {cells slots : Nat} (f : FrC R s nL B A kA D len0 tot0 lo st h H ls locs cells slots) : ∀ v ∈ st, vok v := f.2.2.2.2.2.1
theorem FrC.lok {lo : Lo} {st : List MV} {h : Mem} {H : Heap} {ls : Array Slot} {locs : List Loc} {cells slots : Nat} (f : FrC R s nL B A kA D len0 tot0 lo st h H ls locs cells slots) {i : Nat} {v : MV} (hn : nthL lo i = some v) : vok v := f.2.2.2.2.1 i v hn
theorem FrC.push {lo : Lo} {st : List MV} {h : Mem} {H : Heap} {ls : Array Slot} {locs : List Loc} {cells slots : Nat} (f : FrC R s nL B A kA D len0 tot0 lo st h H ls locs cells slots) {v : MV} (hv : vok v) : FrC R s nL B A kA D len0 tot0 lo (v :: st) h H ls locs cells slots :=
  f.st (fun w hw => (List.mem_cons.mp hw).elim (fun e => e ▸ hv) (f.ok w))
theorem FrC.sto1 {lo : Lo} {st st' : List MV} {h : Mem} {H : Heap} {ls ls' : Array Slot} {locs : List Loc} {cells slots : Nat} {i : Nat} {v : MV} (f : FrC R s nL B A kA D len0 tot0 lo st h H ls locs cells slots) (hl : lv_has ls' nL (prsF A 0 (sto1 lo i v))) (hv : vok v) (hs : ∀ w ∈ st', vok w) : FrC R s nL B A kA D len0 tot0 (sto1 lo i v) st' h H ls' locs cells slots :=
  ⟨f.1, f.2.1, hl, by rw [sto1_len]; exact f.2.2.2.1, fun j w hj => (nth_sto1 hj).elim (fun q => q.2 ▸ hv) (fun q => f.lok q.2.1), hs, f.2.2.2.2.2.2⟩
theorem FrC.sto2 {lo : Lo} {st st' : List MV} {h : Mem} {H : Heap} {ls ls' : Array Slot} {locs : List Loc} {cells slots : Nat} {i : Nat} {v : MV} (f : FrC R s nL B A kA D len0 tot0 lo st h H ls locs cells slots) (hl : lv_has ls' nL (prsF A 0 (sto2 lo i v))) (hv : vok v) (hs : ∀ w ∈ st', vok w) : FrC R s nL B A kA D len0 tot0 (sto2 lo i v) st' h H ls' locs cells slots :=
  ⟨f.1, f.2.1, hl, by rw [sto2_len]; exact f.2.2.2.1, fun j w hj => (nth_sto2 hj).elim (fun q => q.2 ▸ hv) (fun q => f.lok q.2.2.1), hs, f.2.2.2.2.2.2⟩
theorem tl_ok {v : MV} {st : List MV} (h : ∀ w ∈ v :: st, vok w) : ∀ w ∈ st, vok w := fun w hw => h w (List.mem_cons_of_mem _ hw)
theorem hd_ok {v : MV} {st : List MV} (h : ∀ w ∈ v :: st, vok w) : vok v := h v List.mem_cons_self
theorem cons_ok {v : MV} {st : List MV} (hv : vok v) (h : ∀ w ∈ st, vok w) : ∀ w ∈ v :: st, vok w := fun w hw => (List.mem_cons.mp hw).elim (fun e => e ▸ hv) (h w)
-- loads
theorem s_aload_n (hF : FxC p s m c args cc nL own Ts D kA A B len0 adK adV) {i : Fin 4} (hdg : decode cc pc = .ok (.aload_n i, 1)) (hk : Sd p l e R s m args below meth c QQ B A kA D nL len0 tot0 (pc + 1) k) : Sd p l e R s m args below meth c QQ B A kA D nL len0 tot0 pc (o_ald i.val k) := by
  intro lo st h H ls locs cells slots fr q
  unfold o_ald at q
  split at q
  · rename_i r hn
    have hl := prs_at fr.2.2.1 hn
    have hw := hk lo (vR r :: st) h H ls locs cells slots (fr.push trivial) q
    rw [List.map_cons] at hw
    cases hA : A r with
    | none =>
      simp only [trV, va_rf, hA] at hl hw
      exact lv_aload_nN hF.1 hF.2.1 hdg rfl hl hw
    | some a =>
      simp only [trV, va_rf, hA] at hl hw
      exact lv_aload_n hF.1 hF.2.1 hdg rfl hl hw
  · exact q.elim
theorem s_aload (hF : FxC p s m c args cc nL own Ts D kA A B len0 adK adV) {i : Nat} (hdg : decode cc pc = .ok (.aload i, 2)) (hk : Sd p l e R s m args below meth c QQ B A kA D nL len0 tot0 (pc + 2) k) : Sd p l e R s m args below meth c QQ B A kA D nL len0 tot0 pc (o_ald i k) := by
  intro lo st h H ls locs cells slots fr q
  unfold o_ald at q
  split at q
  · rename_i r hn
    have hl := prs_at fr.2.2.1 hn
    have hw := hk lo (vR r :: st) h H ls locs cells slots (fr.push trivial) q
    rw [List.map_cons] at hw
    cases hA : A r with
    | none =>
      simp only [trV, va_rf, hA] at hl hw
      exact lv_aloadN hF.1 hF.2.1 hdg hl hw
    | some a =>
      simp only [trV, va_rf, hA] at hl hw
      exact lv_aload hF.1 hF.2.1 hdg hl hw
  · exact q.elim
theorem s_iload_n (hF : FxC p s m c args cc nL own Ts D kA A B len0 adK adV) {i : Fin 4} (hdg : decode cc pc = .ok (.iload_n i, 1)) (hk : Sd p l e R s m args below meth c QQ B A kA D nL len0 tot0 (pc + 1) k) : Sd p l e R s m args below meth c QQ B A kA D nL len0 tot0 pc (o_ild i.val k) := by
  intro lo st h H ls locs cells slots fr q
  unfold o_ild at q
  split at q
  · rename_i r hn
    exact lv_iload_n hF.1 hF.2.1 hdg rfl (prs_at fr.2.2.1 hn) (hk lo (vI r :: st) h H ls locs cells slots (fr.push (fr.lok hn)) q)
  · exact q.elim
theorem s_iload (hF : FxC p s m c args cc nL own Ts D kA A B len0 adK adV) {i : Nat} (hdg : decode cc pc = .ok (.iload i, 2)) (hk : Sd p l e R s m args below meth c QQ B A kA D nL len0 tot0 (pc + 2) k) : Sd p l e R s m args below meth c QQ B A kA D nL len0 tot0 pc (o_ild i k) := by
  intro lo st h H ls locs cells slots fr q
  unfold o_ild at q
  split at q
  · rename_i r hn
    exact lv_iload hF.1 hF.2.1 hdg (prs_at fr.2.2.1 hn) (hk lo (vI r :: st) h H ls locs cells slots (fr.push (fr.lok hn)) q)
  · exact q.elim
theorem s_lload_n (hF : FxC p s m c args cc nL own Ts D kA A B len0 adK adV) {i : Fin 4} (hdg : decode cc pc = .ok (.lload_n i, 1)) (hk : Sd p l e R s m args below meth c QQ B A kA D nL len0 tot0 (pc + 1) k) : Sd p l e R s m args below meth c QQ B A kA D nL len0 tot0 pc (o_lld i.val k) := by
  intro lo st h H ls locs cells slots fr q
  unfold o_lld at q
  split at q
  · rename_i r hn
    exact lv_lload_n hF.1 hF.2.1 hdg rfl (prs_at fr.2.2.1 hn) (hk lo (vL r :: st) h H ls locs cells slots (fr.push (fr.lok hn)) q)
  · exact q.elim
theorem s_lload (hF : FxC p s m c args cc nL own Ts D kA A B len0 adK adV) {i : Nat} (hdg : decode cc pc = .ok (.lload i, 2)) (hk : Sd p l e R s m args below meth c QQ B A kA D nL len0 tot0 (pc + 2) k) : Sd p l e R s m args below meth c QQ B A kA D nL len0 tot0 pc (o_lld i k) := by
  intro lo st h H ls locs cells slots fr q
  unfold o_lld at q
  split at q
  · rename_i r hn
    exact lv_lload hF.1 hF.2.1 hdg (prs_at fr.2.2.1 hn) (hk lo (vL r :: st) h H ls locs cells slots (fr.push (fr.lok hn)) q)
  · exact q.elim
-- stores
theorem s_istore_n (hF : FxC p s m c args cc nL own Ts D kA A B len0 adK adV) {i : Fin 4} (hi : i.val < nL) (hdg : decode cc pc = .ok (.istore_n i, 1)) (hk : Sd p l e R s m args below meth c QQ B A kA D nL len0 tot0 (pc + 1) k) : Sd p l e R s m args below meth c QQ B A kA D nL len0 tot0 pc (o_ist i.val k) := by
  intro lo st h H ls locs cells slots fr q
  unfold o_ist at q
  split at q
  · rename_i z st'
    have hz := hd_ok fr.ok
    exact lv_istore_n hF.1 hF.2.1 hdg rfl fr.2.2.1 hi rfl (fun ls' hl' => hk _ st' h H ls' locs cells slots (fr.sto1 (has_sto1 (v := vI z) hl') hz (tl_ok fr.ok)) q)
  · exact q.elim
theorem s_istore (hF : FxC p s m c args cc nL own Ts D kA A B len0 adK adV) {i : Nat} (hi : i < nL) (hdg : decode cc pc = .ok (.istore i, 2)) (hk : Sd p l e R s m args below meth c QQ B A kA D nL len0 tot0 (pc + 2) k) : Sd p l e R s m args below meth c QQ B A kA D nL len0 tot0 pc (o_ist i k) := by
  intro lo st h H ls locs cells slots fr q
  unfold o_ist at q
  split at q
  · rename_i z st'
    have hz := hd_ok fr.ok
    exact lv_istore hF.1 hF.2.1 hdg fr.2.2.1 hi rfl (fun ls' hl' => hk _ st' h H ls' locs cells slots (fr.sto1 (has_sto1 (v := vI z) hl') hz (tl_ok fr.ok)) q)
  · exact q.elim
theorem s_lstore_n (hF : FxC p s m c args cc nL own Ts D kA A B len0 adK adV) {i : Fin 4} (hi : i.val + 1 < nL) (hdg : decode cc pc = .ok (.lstore_n i, 1)) (hk : Sd p l e R s m args below meth c QQ B A kA D nL len0 tot0 (pc + 1) k) : Sd p l e R s m args below meth c QQ B A kA D nL len0 tot0 pc (o_lst i.val k) := by
  intro lo st h H ls locs cells slots fr q
  unfold o_lst at q
  split at q
  · rename_i z st'
    have hz := hd_ok fr.ok
    exact lv_lstore_n hF.1 hF.2.1 hdg rfl fr.2.2.1 hi rfl (fun ls' hl' => hk _ st' h H ls' locs cells slots (fr.sto2 (has_sto2 (v := vL z) hl') hz (tl_ok fr.ok)) q)
  · exact q.elim
theorem s_lstore (hF : FxC p s m c args cc nL own Ts D kA A B len0 adK adV) {i : Nat} (hi : i + 1 < nL) (hdg : decode cc pc = .ok (.lstore i, 2)) (hk : Sd p l e R s m args below meth c QQ B A kA D nL len0 tot0 (pc + 2) k) : Sd p l e R s m args below meth c QQ B A kA D nL len0 tot0 pc (o_lst i k) := by
  intro lo st h H ls locs cells slots fr q
  unfold o_lst at q
  split at q
  · rename_i z st'
    have hz := hd_ok fr.ok
    exact lv_lstore hF.1 hF.2.1 hdg fr.2.2.1 hi rfl (fun ls' hl' => hk _ st' h H ls' locs cells slots (fr.sto2 (has_sto2 (v := vL z) hl') hz (tl_ok fr.ok)) q)
  · exact q.elim
theorem s_astore_n (hF : FxC p s m c args cc nL own Ts D kA A B len0 adK adV) {i : Fin 4} (hi : i.val < nL) (hdg : decode cc pc = .ok (.astore_n i, 1)) (hk : Sd p l e R s m args below meth c QQ B A kA D nL len0 tot0 (pc + 1) k) : Sd p l e R s m args below meth c QQ B A kA D nL len0 tot0 pc (o_ast i.val k) := by
  intro lo st h H ls locs cells slots fr q
  unfold o_ast at q
  split at q
  · rename_i r st'
    have key : ∀ ls', lv_has ls' nL ((i.val, trV A (vR r)) :: (prsF A 0 lo).filter (fun q => !(q.1 == i.val) && !(q.1 + 1 == i.val && q.2.category == 2))) → W p l e R s m args below meth c H locs cells slots QQ (F0 m (pc + 1) ls' (st'.map (trV A))) :=
      fun ls' hl' => hk _ st' h H ls' locs cells slots (fr.sto1 (has_sto1 (v := vR r) hl') trivial (tl_ok fr.ok)) q
    rw [List.map_cons]
    cases hA : A r with
    | none =>
      simp only [trV, va_rf, hA] at key ⊢
      exact lv_astore_nN hF.1 hF.2.1 hdg rfl fr.2.2.1 hi rfl key
    | some a =>
      simp only [trV, va_rf, hA] at key ⊢
      exact lv_astore_n hF.1 hF.2.1 hdg rfl fr.2.2.1 hi rfl key
  · exact q.elim
theorem s_astore (hF : FxC p s m c args cc nL own Ts D kA A B len0 adK adV) {i : Nat} (hi : i < nL) (hdg : decode cc pc = .ok (.astore i, 2)) (hk : Sd p l e R s m args below meth c QQ B A kA D nL len0 tot0 (pc + 2) k) : Sd p l e R s m args below meth c QQ B A kA D nL len0 tot0 pc (o_ast i k) := by
  intro lo st h H ls locs cells slots fr q
  unfold o_ast at q
  split at q
  · rename_i r st'
    have key : ∀ ls', lv_has ls' nL ((i, trV A (vR r)) :: (prsF A 0 lo).filter (fun q => !(q.1 == i) && !(q.1 + 1 == i && q.2.category == 2))) → W p l e R s m args below meth c H locs cells slots QQ (F0 m (pc + 2) ls' (st'.map (trV A))) :=
      fun ls' hl' => hk _ st' h H ls' locs cells slots (fr.sto1 (has_sto1 (v := vR r) hl') trivial (tl_ok fr.ok)) q
    rw [List.map_cons]
    cases hA : A r with
    | none =>
      simp only [trV, va_rf, hA] at key ⊢
      exact lv_astoreN hF.1 hF.2.1 hdg fr.2.2.1 hi rfl key
    | some a =>
      simp only [trV, va_rf, hA] at key ⊢
      exact lv_astore hF.1 hF.2.1 hdg fr.2.2.1 hi rfl key
  · exact q.elim
theorem s_iinc (hF : FxC p s m c args cc nL own Ts D kA A B len0 adK adV) {i : Nat} {z : Int} (hi : i < nL) (hdg : decode cc pc = .ok (.iinc i z, 3)) (hk : Sd p l e R s m args below meth c QQ B A kA D nL len0 tot0 (pc + 3) k) : Sd p l e R s m args below meth c QQ B A kA D nL len0 tot0 pc (o_inc i z k) := by
  intro lo st h H ls locs cells slots fr q
  unfold o_inc at q
  split at q
  · rename_i a hn
    have hm : (i, Value.int (Int32.ofInt a)) ∈ prsF A 0 lo := (mem_prs lo 0 _).mpr ⟨i, vI a, nth_some.mp hn, by simp [trV]⟩
    obtain ⟨j, hj⟩ := List.getElem?_of_mem hm
    exact lv_iinc hF.1 hF.2.1 hdg fr.2.2.1 hj (Int32.ofInt_add a z).symm hi rfl (fun ls' hl' => hk _ st h H ls' locs cells slots (fr.sto1 (has_sto1 (v := vI (a + z)) hl') q.1 fr.ok) q.2)
  · exact q.elim
-- constants
theorem s_iconst (hF : FxC p s m c args cc nL own Ts D kA A B len0 adK adV) {z : Int} (hz : inI z) (hdg : decode cc pc = .ok (.iconst z, 1)) (hk : Sd p l e R s m args below meth c QQ B A kA D nL len0 tot0 (pc + 1) k) : Sd p l e R s m args below meth c QQ B A kA D nL len0 tot0 pc (o_psh (vI z) k) := by
  intro lo st h H ls locs cells slots fr q
  exact lv_iconst hF.1 hF.2.1 hdg rfl (hk lo (vI z :: st) h H ls locs cells slots (fr.push hz) q)
theorem s_bipush (hF : FxC p s m c args cc nL own Ts D kA A B len0 adK adV) {z : Int} (hz : -128 ≤ z ∧ z ≤ 127) (hdg : decode cc pc = .ok (.bipush z, 2)) (hk : Sd p l e R s m args below meth c QQ B A kA D nL len0 tot0 (pc + 2) k) : Sd p l e R s m args below meth c QQ B A kA D nL len0 tot0 pc (o_psh (vI z) k) := by
  intro lo st h H ls locs cells slots fr q
  exact lv_bipush hF.1 hF.2.1 hdg (i32_bipush hz) (hk lo (vI z :: st) h H ls locs cells slots (fr.push ⟨by omega, by omega⟩) q)
theorem s_sipush (hF : FxC p s m c args cc nL own Ts D kA A B len0 adK adV) {z : Int} (hz : -32768 ≤ z ∧ z ≤ 32767) (hdg : decode cc pc = .ok (.sipush z, 3)) (hk : Sd p l e R s m args below meth c QQ B A kA D nL len0 tot0 (pc + 3) k) : Sd p l e R s m args below meth c QQ B A kA D nL len0 tot0 pc (o_psh (vI z) k) := by
  intro lo st h H ls locs cells slots fr q
  exact lv_sipush hF.1 hF.2.1 hdg (i32_sipush hz) (hk lo (vI z :: st) h H ls locs cells slots (fr.push ⟨by omega, by omega⟩) q)
theorem s_lconst (hF : FxC p s m c args cc nL own Ts D kA A B len0 adK adV) {z : Fin 2} (hdg : decode cc pc = .ok (.lconst z, 1)) (hk : Sd p l e R s m args below meth c QQ B A kA D nL len0 tot0 (pc + 1) k) : Sd p l e R s m args below meth c QQ B A kA D nL len0 tot0 pc (o_psh (vL z.val) k) := by
  intro lo st h H ls locs cells slots fr q
  exact lv_lconst hF.1 hF.2.1 hdg rfl (hk lo (vL z.val :: st) h H ls locs cells slots (fr.push ⟨by omega, by omega⟩) q)
theorem s_ldc (hF : FxC p s m c args cc nL own Ts D kA A B len0 adK adV) {i : Nat} {z : Int} (hz : inI z) (hw : Jvm.Cond.constant own i (Int32.ofInt z) ∈ Ts) (hdg : decode cc pc = .ok (.ldc i, 2)) (hk : Sd p l e R s m args below meth c QQ B A kA D nL len0 tot0 (pc + 2) k) : Sd p l e R s m args below meth c QQ B A kA D nL len0 tot0 pc (o_psh (vI z) k) := by
  intro lo st h H ls locs cells slots fr q
  exact lv_ldc hF.1 hF.2.1 hF.2.2.2.1 (hF.2.2.2.2.1 _ hw) hdg (hk lo (vI z :: st) h H ls locs cells slots (fr.push hz) q)
theorem s_ldc2 (hF : FxC p s m c args cc nL own Ts D kA A B len0 adK adV) {i : Nat} {z : Int} (hz : inL z) (hw : Jvm.Cond.constantLong own i (Int64.ofInt z) ∈ Ts) (hdg : decode cc pc = .ok (.ldc2_w i, 3)) (hk : Sd p l e R s m args below meth c QQ B A kA D nL len0 tot0 (pc + 3) k) : Sd p l e R s m args below meth c QQ B A kA D nL len0 tot0 pc (o_psh (vL z) k) := by
  intro lo st h H ls locs cells slots fr q
  exact lv_ldc2 hF.1 hF.2.1 hF.2.2.2.1 (hF.2.2.2.2.1 _ hw) hdg (hk lo (vL z :: st) h H ls locs cells slots (fr.push hz) q)
-- arithmetic
theorem s_binV {P : Int → Int → Prop} {f : Int → Int → Int} {F : Int32 → Int32 → Int32} (hf : ∀ a b, inI a → inI b → P a b → F (Int32.ofInt a) (Int32.ofInt b) = Int32.ofInt (f a b) ∧ inI (f a b))
    (row : ∀ H ls locs cells slots rest a b, inI a → inI b → P a b → W p l e R s m args below meth c H locs cells slots QQ (F0 m (pc + 1) ls (.int (F (Int32.ofInt a) (Int32.ofInt b)) :: rest)) → W p l e R s m args below meth c H locs cells slots QQ (F0 m pc ls (.int (Int32.ofInt b) :: .int (Int32.ofInt a) :: rest)))
    (hk : Sd p l e R s m args below meth c QQ B A kA D nL len0 tot0 (pc + 1) k) : Sd p l e R s m args below meth c QQ B A kA D nL len0 tot0 pc (o_binV P f k) := by
  intro lo st h H ls locs cells slots fr q
  unfold o_binV at q
  split at q
  · rename_i b a st'
    have hb := hd_ok fr.ok
    have ha := hd_ok (tl_ok fr.ok)
    have hr := hf a b ha hb q.1
    refine row _ _ _ _ _ _ a b ha hb q.1 ?_
    rw [hr.1]
    exact hk lo (vI (f a b) :: st') h H ls locs cells slots (fr.st (cons_ok hr.2 (tl_ok (tl_ok fr.ok)))) q.2
  · exact q.elim
theorem s_bin {f : Int → Int → Int} {F : Int32 → Int32 → Int32} (hf : ∀ a b, inI a → inI b → F (Int32.ofInt a) (Int32.ofInt b) = Int32.ofInt (f a b) ∧ inI (f a b))
    (row : ∀ H ls locs cells slots rest a b, inI a → inI b → W p l e R s m args below meth c H locs cells slots QQ (F0 m (pc + 1) ls (.int (F (Int32.ofInt a) (Int32.ofInt b)) :: rest)) → W p l e R s m args below meth c H locs cells slots QQ (F0 m pc ls (.int (Int32.ofInt b) :: .int (Int32.ofInt a) :: rest)))
    (hk : Sd p l e R s m args below meth c QQ B A kA D nL len0 tot0 (pc + 1) k) : Sd p l e R s m args below meth c QQ B A kA D nL len0 tot0 pc (o_bin f k) := by
  intro lo st h H ls locs cells slots fr q
  unfold o_bin at q
  split at q
  · rename_i b a st'
    have hb := hd_ok fr.ok
    have ha := hd_ok (tl_ok fr.ok)
    have hr := hf a b ha hb
    refine row _ _ _ _ _ _ a b ha hb ?_
    rw [hr.1]
    exact hk lo (vI (f a b) :: st') h H ls locs cells slots (fr.st (cons_ok hr.2 (tl_ok (tl_ok fr.ok)))) q
  · exact q.elim
theorem s_un {f : Int → Int} {F : Int32 → Int32} (hf : ∀ a, inI a → F (Int32.ofInt a) = Int32.ofInt (f a) ∧ inI (f a))
    (row : ∀ H ls locs cells slots rest a, inI a → W p l e R s m args below meth c H locs cells slots QQ (F0 m (pc + 1) ls (.int (F (Int32.ofInt a)) :: rest)) → W p l e R s m args below meth c H locs cells slots QQ (F0 m pc ls (.int (Int32.ofInt a) :: rest)))
    (hk : Sd p l e R s m args below meth c QQ B A kA D nL len0 tot0 (pc + 1) k) : Sd p l e R s m args below meth c QQ B A kA D nL len0 tot0 pc (o_un f k) := by
  intro lo st h H ls locs cells slots fr q
  unfold o_un at q
  split at q
  · rename_i a st'
    have ha := hd_ok fr.ok
    have hr := hf a ha
    refine row _ _ _ _ _ _ a ha ?_
    rw [hr.1]
    exact hk lo (vI (f a) :: st') h H ls locs cells slots (fr.st (cons_ok hr.2 (tl_ok fr.ok))) q
  · exact q.elim
theorem s_lbin {f : Int → Int → Int} {F : Int64 → Int64 → Int64} (hf : ∀ a b, inL a → inL b → F (Int64.ofInt a) (Int64.ofInt b) = Int64.ofInt (f a b) ∧ inL (f a b))
    (row : ∀ H ls locs cells slots rest a b, inL a → inL b → W p l e R s m args below meth c H locs cells slots QQ (F0 m (pc + 1) ls (.long (F (Int64.ofInt a) (Int64.ofInt b)) :: rest)) → W p l e R s m args below meth c H locs cells slots QQ (F0 m pc ls (.long (Int64.ofInt b) :: .long (Int64.ofInt a) :: rest)))
    (hk : Sd p l e R s m args below meth c QQ B A kA D nL len0 tot0 (pc + 1) k) : Sd p l e R s m args below meth c QQ B A kA D nL len0 tot0 pc (o_lbin f k) := by
  intro lo st h H ls locs cells slots fr q
  unfold o_lbin at q
  split at q
  · rename_i b a st'
    have hb := hd_ok fr.ok
    have ha := hd_ok (tl_ok fr.ok)
    have hr := hf a b ha hb
    refine row _ _ _ _ _ _ a b ha hb ?_
    rw [hr.1]
    exact hk lo (vL (f a b) :: st') h H ls locs cells slots (fr.st (cons_ok hr.2 (tl_ok (tl_ok fr.ok)))) q
  · exact q.elim
theorem s_lbinV {P : Int → Int → Prop} {f : Int → Int → Int} {F : Int64 → Int64 → Int64} (hf : ∀ a b, inL a → inL b → P a b → F (Int64.ofInt a) (Int64.ofInt b) = Int64.ofInt (f a b) ∧ inL (f a b))
    (row : ∀ H ls locs cells slots rest a b, inL a → inL b → P a b → W p l e R s m args below meth c H locs cells slots QQ (F0 m (pc + 1) ls (.long (F (Int64.ofInt a) (Int64.ofInt b)) :: rest)) → W p l e R s m args below meth c H locs cells slots QQ (F0 m pc ls (.long (Int64.ofInt b) :: .long (Int64.ofInt a) :: rest)))
    (hk : Sd p l e R s m args below meth c QQ B A kA D nL len0 tot0 (pc + 1) k) : Sd p l e R s m args below meth c QQ B A kA D nL len0 tot0 pc (o_lbinV P f k) := by
  intro lo st h H ls locs cells slots fr q
  unfold o_lbinV at q
  split at q
  · rename_i b a st'
    have hb := hd_ok fr.ok
    have ha := hd_ok (tl_ok fr.ok)
    have hr := hf a b ha hb q.1
    refine row _ _ _ _ _ _ a b ha hb q.1 ?_
    rw [hr.1]
    exact hk lo (vL (f a b) :: st') h H ls locs cells slots (fr.st (cons_ok hr.2 (tl_ok (tl_ok fr.ok)))) q.2
  · exact q.elim
theorem s_iadd (hF : FxC p s m c args cc nL own Ts D kA A B len0 adK adV) (hdg : decode cc pc = .ok (.iadd, 1)) (hk : Sd p l e R s m args below meth c QQ B A kA D nL len0 tot0 (pc + 1) k) : Sd p l e R s m args below meth c QQ B A kA D nL len0 tot0 pc (o_binV (fun a b => inI (a + b)) (fun a b => a + b) k) :=
  s_binV (F := fun x y => x + y) (fun a b _ _ h => ⟨(Int32.ofInt_add a b).symm, h⟩) (fun _ _ _ _ _ _ _ _ _ _ _ w => lv_iadd hF.1 hF.2.1 hdg w) hk
theorem s_isub (hF : FxC p s m c args cc nL own Ts D kA A B len0 adK adV) (hdg : decode cc pc = .ok (.isub, 1)) (hk : Sd p l e R s m args below meth c QQ B A kA D nL len0 tot0 (pc + 1) k) : Sd p l e R s m args below meth c QQ B A kA D nL len0 tot0 pc (o_binV (fun a b => inI (a - b)) (fun a b => a - b) k) :=
  s_binV (F := fun x y => x - y) (fun a b _ _ h => ⟨(Int32.ofInt_sub a b).symm, h⟩) (fun _ _ _ _ _ _ _ _ _ _ _ w => lv_isub hF.1 hF.2.1 hdg w) hk
theorem s_imul (hF : FxC p s m c args cc nL own Ts D kA A B len0 adK adV) (hdg : decode cc pc = .ok (.imul, 1)) (hk : Sd p l e R s m args below meth c QQ B A kA D nL len0 tot0 (pc + 1) k) : Sd p l e R s m args below meth c QQ B A kA D nL len0 tot0 pc (o_binV (fun a b => inI (a * b)) (fun a b => a * b) k) :=
  s_binV (F := fun x y => x * y) (fun a b _ _ h => ⟨(Int32.ofInt_mul a b).symm, h⟩) (fun _ _ _ _ _ _ _ _ _ _ _ w => lv_imul hF.1 hF.2.1 hdg w) hk
theorem nz32 {b : Int} (hb : inI b) (h : ¬ b = 0) : ¬ Int32.ofInt b = 0 := fun q => h ((i32_eq hb inI_0).mp (q.trans i32_0.symm))
theorem nz64 {b : Int} (hb : inL b) (h : ¬ b = 0) : ¬ Int64.ofInt b = 0 := fun q => h ((i64_eq hb ⟨by omega, by omega⟩).mp (q.trans (show (0 : Int64) = Int64.ofInt 0 from rfl)))
theorem s_idiv (hF : FxC p s m c args cc nL own Ts D kA A B len0 adK adV) (hdg : decode cc pc = .ok (.idiv, 1)) (hk : Sd p l e R s m args below meth c QQ B A kA D nL len0 tot0 (pc + 1) k) : Sd p l e R s m args below meth c QQ B A kA D nL len0 tot0 pc (o_binV (fun _ b => ¬ b = 0) zdiv k) :=
  s_binV (F := fun x y => x / y) (fun a b _ _ _ => ⟨(i32_oi _).symm, i32_in _⟩) (fun _ _ _ _ _ _ _ _ _ hb h w => lv_idiv hF.1 hF.2.1 hdg (nz32 hb h) w) hk
theorem s_irem (hF : FxC p s m c args cc nL own Ts D kA A B len0 adK adV) (hdg : decode cc pc = .ok (.irem, 1)) (hk : Sd p l e R s m args below meth c QQ B A kA D nL len0 tot0 (pc + 1) k) : Sd p l e R s m args below meth c QQ B A kA D nL len0 tot0 pc (o_binV (fun _ b => ¬ b = 0) zrem k) :=
  s_binV (F := fun x y => x - x / y * y) (fun a b _ _ _ => ⟨(i32_oi _).symm, i32_in _⟩) (fun _ _ _ _ _ _ _ _ _ hb h w => lv_irem hF.1 hF.2.1 hdg (nz32 hb h) w) hk
theorem s_ishl (hF : FxC p s m c args cc nL own Ts D kA A B len0 adK adV) (hdg : decode cc pc = .ok (.ishl, 1)) (hk : Sd p l e R s m args below meth c QQ B A kA D nL len0 tot0 (pc + 1) k) : Sd p l e R s m args below meth c QQ B A kA D nL len0 tot0 pc (o_binV (fun a b => 0 ≤ b ∧ b < 32 ∧ inI (shlZ a b)) shlZ k) :=
  s_binV (F := fun x y => x <<< (y &&& 31)) (fun a b _ _ h => ⟨i32_shl h.1 h.2.1, h.2.2⟩) (fun _ _ _ _ _ _ _ _ _ _ _ w => lv_ishl hF.1 hF.2.1 hdg w) hk
theorem s_ishr (hF : FxC p s m c args cc nL own Ts D kA A B len0 adK adV) (hdg : decode cc pc = .ok (.ishr, 1)) (hk : Sd p l e R s m args below meth c QQ B A kA D nL len0 tot0 (pc + 1) k) : Sd p l e R s m args below meth c QQ B A kA D nL len0 tot0 pc (o_binV (fun _ b => 0 ≤ b ∧ b < 32) shrZ k) :=
  s_binV (F := fun x y => x >>> (y &&& 31)) (fun a b ha _ h => ⟨i32_shr ha h.1 h.2, inI_shr ha h.1 h.2⟩) (fun _ _ _ _ _ _ _ _ _ _ _ w => lv_ishr hF.1 hF.2.1 hdg w) hk
theorem s_iushr (hF : FxC p s m c args cc nL own Ts D kA A B len0 adK adV) (hdg : decode cc pc = .ok (.iushr, 1)) (hk : Sd p l e R s m args below meth c QQ B A kA D nL len0 tot0 (pc + 1) k) : Sd p l e R s m args below meth c QQ B A kA D nL len0 tot0 pc (o_bin zushr k) :=
  s_bin (F := fun x y => (x.toUInt32 >>> (y.toUInt32 &&& Int32.toUInt32 31)).toInt32) (fun a b _ _ => ⟨(i32_oi _).symm, i32_in _⟩) (fun _ _ _ _ _ _ _ _ _ _ w => lv_iushr hF.1 hF.2.1 hdg rfl w) hk
theorem s_iand (hF : FxC p s m c args cc nL own Ts D kA A B len0 adK adV) (hdg : decode cc pc = .ok (.iand, 1)) (hk : Sd p l e R s m args below meth c QQ B A kA D nL len0 tot0 (pc + 1) k) : Sd p l e R s m args below meth c QQ B A kA D nL len0 tot0 pc (o_bin zand k) :=
  s_bin (F := fun x y => x &&& y) (fun a b _ _ => ⟨(i32_oi _).symm, i32_in _⟩) (fun _ _ _ _ _ _ _ _ _ _ w => lv_iand hF.1 hF.2.1 hdg w) hk
theorem s_ior (hF : FxC p s m c args cc nL own Ts D kA A B len0 adK adV) (hdg : decode cc pc = .ok (.ior, 1)) (hk : Sd p l e R s m args below meth c QQ B A kA D nL len0 tot0 (pc + 1) k) : Sd p l e R s m args below meth c QQ B A kA D nL len0 tot0 pc (o_bin zor k) :=
  s_bin (F := fun x y => x ||| y) (fun a b _ _ => ⟨(i32_oi _).symm, i32_in _⟩) (fun _ _ _ _ _ _ _ _ _ _ w => lv_ior hF.1 hF.2.1 hdg w) hk
theorem s_ixor (hF : FxC p s m c args cc nL own Ts D kA A B len0 adK adV) (hdg : decode cc pc = .ok (.ixor, 1)) (hk : Sd p l e R s m args below meth c QQ B A kA D nL len0 tot0 (pc + 1) k) : Sd p l e R s m args below meth c QQ B A kA D nL len0 tot0 pc (o_bin zxor k) :=
  s_bin (F := fun x y => x ^^^ y) (fun a b _ _ => ⟨(i32_oi _).symm, i32_in _⟩) (fun _ _ _ _ _ _ _ _ _ _ w => lv_ixor hF.1 hF.2.1 hdg w) hk
theorem s_i2b (hF : FxC p s m c args cc nL own Ts D kA A B len0 adK adV) (hdg : decode cc pc = .ok (.i2b, 1)) (hk : Sd p l e R s m args below meth c QQ B A kA D nL len0 tot0 (pc + 1) k) : Sd p l e R s m args below meth c QQ B A kA D nL len0 tot0 pc (o_un zb k) :=
  s_un (F := fun x => x.toInt8.toInt32) (fun a _ => ⟨(i32_oi _).symm, i32_in _⟩) (fun _ _ _ _ _ _ _ _ w => lv_i2b hF.1 hF.2.1 hdg rfl w) hk
theorem s_i2s (hF : FxC p s m c args cc nL own Ts D kA A B len0 adK adV) (hdg : decode cc pc = .ok (.i2s, 1)) (hk : Sd p l e R s m args below meth c QQ B A kA D nL len0 tot0 (pc + 1) k) : Sd p l e R s m args below meth c QQ B A kA D nL len0 tot0 pc (o_un zs k) :=
  s_un (F := fun x => x.toInt16.toInt32) (fun a _ => ⟨(i32_oi _).symm, i32_in _⟩) (fun _ _ _ _ _ _ _ _ w => lv_i2s hF.1 hF.2.1 hdg rfl w) hk
theorem s_ladd (hF : FxC p s m c args cc nL own Ts D kA A B len0 adK adV) (hdg : decode cc pc = .ok (.ladd, 1)) (hk : Sd p l e R s m args below meth c QQ B A kA D nL len0 tot0 (pc + 1) k) : Sd p l e R s m args below meth c QQ B A kA D nL len0 tot0 pc (o_lbin ladZ k) :=
  s_lbin (F := fun x y => x + y) (fun a b _ _ => ⟨(i64_oi _).symm, i64_in _⟩) (fun _ _ _ _ _ _ _ _ _ _ w => lv_ladd hF.1 hF.2.1 hdg w) hk
theorem s_lsub (hF : FxC p s m c args cc nL own Ts D kA A B len0 adK adV) (hdg : decode cc pc = .ok (.lsub, 1)) (hk : Sd p l e R s m args below meth c QQ B A kA D nL len0 tot0 (pc + 1) k) : Sd p l e R s m args below meth c QQ B A kA D nL len0 tot0 pc (o_lbin lsbZ k) :=
  s_lbin (F := fun x y => x - y) (fun a b _ _ => ⟨(i64_oi _).symm, i64_in _⟩) (fun _ _ _ _ _ _ _ _ _ _ w => lv_lsub hF.1 hF.2.1 hdg w) hk
theorem s_lmul (hF : FxC p s m c args cc nL own Ts D kA A B len0 adK adV) (hdg : decode cc pc = .ok (.lmul, 1)) (hk : Sd p l e R s m args below meth c QQ B A kA D nL len0 tot0 (pc + 1) k) : Sd p l e R s m args below meth c QQ B A kA D nL len0 tot0 pc (o_lbin lmlZ k) :=
  s_lbin (F := fun x y => x * y) (fun a b _ _ => ⟨(i64_oi _).symm, i64_in _⟩) (fun _ _ _ _ _ _ _ _ _ _ w => lv_lmul hF.1 hF.2.1 hdg w) hk
theorem s_ldiv (hF : FxC p s m c args cc nL own Ts D kA A B len0 adK adV) (hdg : decode cc pc = .ok (.ldiv, 1)) (hk : Sd p l e R s m args below meth c QQ B A kA D nL len0 tot0 (pc + 1) k) : Sd p l e R s m args below meth c QQ B A kA D nL len0 tot0 pc (o_lbinV (fun _ b => ¬ b = 0) ldvZ k) :=
  s_lbinV (F := fun x y => x / y) (fun a b _ _ _ => ⟨(i64_oi _).symm, i64_in _⟩) (fun _ _ _ _ _ _ _ _ _ hb h w => lv_ldiv hF.1 hF.2.1 hdg (nz64 hb h) w) hk
theorem s_lrem (hF : FxC p s m c args cc nL own Ts D kA A B len0 adK adV) (hdg : decode cc pc = .ok (.lrem, 1)) (hk : Sd p l e R s m args below meth c QQ B A kA D nL len0 tot0 (pc + 1) k) : Sd p l e R s m args below meth c QQ B A kA D nL len0 tot0 pc (o_lbinV (fun _ b => ¬ b = 0) lrmZ k) :=
  s_lbinV (F := fun x y => x - x / y * y) (fun a b _ _ _ => ⟨(i64_oi _).symm, i64_in _⟩) (fun _ _ _ _ _ _ _ _ _ hb h w => lv_lrem hF.1 hF.2.1 hdg (nz64 hb h) w) hk
theorem s_land (hF : FxC p s m c args cc nL own Ts D kA A B len0 adK adV) (hdg : decode cc pc = .ok (.land, 1)) (hk : Sd p l e R s m args below meth c QQ B A kA D nL len0 tot0 (pc + 1) k) : Sd p l e R s m args below meth c QQ B A kA D nL len0 tot0 pc (o_lbin lanZ k) :=
  s_lbin (F := fun x y => x &&& y) (fun a b _ _ => ⟨(i64_oi _).symm, i64_in _⟩) (fun _ _ _ _ _ _ _ _ _ _ w => lv_land hF.1 hF.2.1 hdg w) hk
theorem s_lor (hF : FxC p s m c args cc nL own Ts D kA A B len0 adK adV) (hdg : decode cc pc = .ok (.lor, 1)) (hk : Sd p l e R s m args below meth c QQ B A kA D nL len0 tot0 (pc + 1) k) : Sd p l e R s m args below meth c QQ B A kA D nL len0 tot0 pc (o_lbin lorZ k) :=
  s_lbin (F := fun x y => x ||| y) (fun a b _ _ => ⟨(i64_oi _).symm, i64_in _⟩) (fun _ _ _ _ _ _ _ _ _ _ w => lv_lor hF.1 hF.2.1 hdg w) hk
theorem s_lshl (hF : FxC p s m c args cc nL own Ts D kA A B len0 adK adV) (hdg : decode cc pc = .ok (.lshl, 1)) (hk : Sd p l e R s m args below meth c QQ B A kA D nL len0 tot0 (pc + 1) k) : Sd p l e R s m args below meth c QQ B A kA D nL len0 tot0 pc (o_lsh k) := by
  intro lo st h H ls locs cells slots fr q
  unfold o_lsh at q
  split at q
  · rename_i b a st'
    refine lv_lshl (v := Int64.ofInt (lshZ a b)) hF.1 hF.2.1 hdg (i64_oi _).symm ?_
    exact hk lo (vL (lshZ a b) :: st') h H ls locs cells slots (fr.st (cons_ok (i64_in _) (tl_ok (tl_ok fr.ok)))) q
  · exact q.elim
theorem s_i2l (hF : FxC p s m c args cc nL own Ts D kA A B len0 adK adV) (hdg : decode cc pc = .ok (.i2l, 1)) (hk : Sd p l e R s m args below meth c QQ B A kA D nL len0 tot0 (pc + 1) k) : Sd p l e R s m args below meth c QQ B A kA D nL len0 tot0 pc (o_i2l k) := by
  intro lo st h H ls locs cells slots fr q
  unfold o_i2l at q
  split at q
  · rename_i a st'
    have ha : inI a := hd_ok fr.ok
    exact lv_i2l hF.1 hF.2.1 hdg (i32_wide ha) (hk lo (vL a :: st') h H ls locs cells slots (fr.st (cons_ok ⟨by have := ha.1; omega, by have := ha.2; omega⟩ (tl_ok fr.ok))) q)
  · exact q.elim
theorem s_l2i (hF : FxC p s m c args cc nL own Ts D kA A B len0 adK adV) (hdg : decode cc pc = .ok (.l2i, 1)) (hk : Sd p l e R s m args below meth c QQ B A kA D nL len0 tot0 (pc + 1) k) : Sd p l e R s m args below meth c QQ B A kA D nL len0 tot0 pc (o_l2i k) := by
  intro lo st h H ls locs cells slots fr q
  unfold o_l2i at q
  split at q
  · rename_i a st'
    exact lv_l2i (v := Int32.ofInt (l2iZ a)) hF.1 hF.2.1 hdg (i32_oi _).symm (hk lo (vI (l2iZ a) :: st') h H ls locs cells slots (fr.st (cons_ok (i32_in _) (tl_ok fr.ok))) q)
  · exact q.elim
theorem s_lcmp (hF : FxC p s m c args cc nL own Ts D kA A B len0 adK adV) (hdg : decode cc pc = .ok (.lcmp, 1)) (hk : Sd p l e R s m args below meth c QQ B A kA D nL len0 tot0 (pc + 1) k) : Sd p l e R s m args below meth c QQ B A kA D nL len0 tot0 pc (o_lcm k) := by
  intro lo st h H ls locs cells slots fr q
  unfold o_lcm at q
  split at q
  · rename_i b a st'
    have hb : inL b := hd_ok fr.ok
    have ha : inL a := hd_ok (tl_ok fr.ok)
    have hw := hk lo (vI (cmpZ a b) :: st') h H ls locs cells slots (fr.st (cons_ok (inI_cmp a b) (tl_ok (tl_ok fr.ok)))) q
    refine W.lcmp hF.1 hF.2.1 hdg ?_
    rw [i32_cmp ha hb]
    exact hw
  · exact q.elim
theorem s_dup (hF : FxC p s m c args cc nL own Ts D kA A B len0 adK adV) (hdg : decode cc pc = .ok (.dup, 1)) (hk : Sd p l e R s m args below meth c QQ B A kA D nL len0 tot0 (pc + 1) k) : Sd p l e R s m args below meth c QQ B A kA D nL len0 tot0 pc (o_dup k) := by
  intro lo st h H ls locs cells slots fr q
  unfold o_dup at q
  split at q
  · rename_i v st'
    split at q
    · rename_i hc
      exact lv_dup hF.1 hF.2.1 hdg (trV_cat1 hc) (hk lo (v :: v :: st') h H ls locs cells slots (fr.push (hd_ok fr.ok)) q)
    · exact q.elim
  · exact q.elim
theorem s_dup2 (hF : FxC p s m c args cc nL own Ts D kA A B len0 adK adV) (hdg : decode cc pc = .ok (.dup2, 1)) (hk : Sd p l e R s m args below meth c QQ B A kA D nL len0 tot0 (pc + 1) k) : Sd p l e R s m args below meth c QQ B A kA D nL len0 tot0 pc (o_dup2 k) := by
  intro lo st h H ls locs cells slots fr q
  unfold o_dup2 at q
  split at q
  · rename_i v w st'
    split at q
    · rename_i hc
      rw [Bool.and_eq_true] at hc
      exact lv_dup2_11 hF.1 hF.2.1 hdg (trV_cat1 hc.1) (trV_cat1 hc.2) (hk lo (v :: w :: v :: w :: st') h H ls locs cells slots (fr.st (cons_ok (hd_ok fr.ok) (cons_ok (hd_ok (tl_ok fr.ok)) fr.ok))) q)
    · exact q.elim
  · exact q.elim
theorem s_pop (hF : FxC p s m c args cc nL own Ts D kA A B len0 adK adV) (hdg : decode cc pc = .ok (.pop, 1)) (hk : Sd p l e R s m args below meth c QQ B A kA D nL len0 tot0 (pc + 1) k) : Sd p l e R s m args below meth c QQ B A kA D nL len0 tot0 pc (o_pop k) := by
  intro lo st h H ls locs cells slots fr q
  unfold o_pop at q
  split at q
  · rename_i v st'
    split at q
    · rename_i hc
      exact lv_pop hF.1 hF.2.1 hdg (trV_cat1 hc) (hk lo st' h H ls locs cells slots (fr.st (tl_ok fr.ok)) q)
    · exact q.elim
  · exact q.elim
end SND
end
section
/-! branches, switches, fields, arrays, making: the model's are the machine's -/
section HEAPOPS
variable {p : Program} {l : Launch} {e : Env} {R : Room} {s : State} {m : MethodId} {args : Array Value} {below : List Frame} {meth : Method} {c : Code} {QQ : State → Prop} {B : Nat} {A : Nat → Option Nat} {kA : Nat → ClassId} {D : va_G} {cc : ByteArray} {nL : Nat} {own : String} {len0 tot0 : Nat} {Ts : List Cond} {pc : Nat} {k : Blk} {J : Jmp} {adK adV : Nat → Nat}
theorem s_if (hF : FxC p s m c args cc nL own Ts D kA A B len0 adK adV) {cd : ClassFile.Cond} {off : Int} {t : Nat} (ht : (pc : Int) + off = (t : Int)) (hdg : decode cc pc = .ok (.ifCond cd off, 3)) (hJ : Sd p l e R s m args below meth c QQ B A kA D nL len0 tot0 t (J t)) (hk : Sd p l e R s m args below meth c QQ B A kA D nL len0 tot0 (pc + 3) k) : Sd p l e R s m args below meth c QQ B A kA D nL len0 tot0 pc (o_if cd J t k) := by
  intro lo st h H ls locs cells slots fr q
  unfold o_if at q
  split at q
  · rename_i a st'
    have ha : inI a := hd_ok fr.ok
    have f' := fr.st (tl_ok fr.ok)
    have e1 := i32_eq ha inI_0
    have e2 := i32_lt ha inI_0
    have e3 := i32_lt inI_0 ha
    have e4 := i32_le ha inI_0
    have e5 := i32_le inI_0 ha
    rw [i32_0] at e1 e2 e3 e4 e5
    cases cd <;> dsimp only at q
    · exact lv_if_eq hF.1 hF.2.1 hdg ht (fun z => hJ lo st' h H ls locs cells slots f' (q.1 (e1.mp z))) (fun z => hk lo st' h H ls locs cells slots f' (q.2 (fun y => z (e1.mpr y))))
    · exact lv_if_ne hF.1 hF.2.1 hdg ht (fun z => hJ lo st' h H ls locs cells slots f' (q.1 (fun y => z (e1.mpr y)))) (fun z => hk lo st' h H ls locs cells slots f' (q.2 (e1.mp z)))
    · exact lv_if_lt hF.1 hF.2.1 hdg ht (fun z => hJ lo st' h H ls locs cells slots f' (q.1 (e2.mp z))) (fun z => hk lo st' h H ls locs cells slots f' (q.2 (Int.not_lt.mp (fun y => z (e2.mpr y)))))
    · exact lv_if_ge hF.1 hF.2.1 hdg ht (fun z => hJ lo st' h H ls locs cells slots f' (q.1 (e5.mp z))) (fun z => hk lo st' h H ls locs cells slots f' (q.2 (Int.not_le.mp (fun y => z (e5.mpr y)))))
    · exact lv_if_gt hF.1 hF.2.1 hdg ht (fun z => hJ lo st' h H ls locs cells slots f' (q.1 (e3.mp z))) (fun z => hk lo st' h H ls locs cells slots f' (q.2 (Int.not_lt.mp (fun y => z (e3.mpr y)))))
    · exact lv_if_le hF.1 hF.2.1 hdg ht (fun z => hJ lo st' h H ls locs cells slots f' (q.1 (e4.mp z))) (fun z => hk lo st' h H ls locs cells slots f' (q.2 (Int.not_le.mp (fun y => z (e4.mpr y)))))
  · exact q.elim
theorem s_icmp (hF : FxC p s m c args cc nL own Ts D kA A B len0 adK adV) {cd : ClassFile.Cond} {off : Int} {t : Nat} (ht : (pc : Int) + off = (t : Int)) (hdg : decode cc pc = .ok (.if_icmp cd off, 3)) (hJ : Sd p l e R s m args below meth c QQ B A kA D nL len0 tot0 t (J t)) (hk : Sd p l e R s m args below meth c QQ B A kA D nL len0 tot0 (pc + 3) k) : Sd p l e R s m args below meth c QQ B A kA D nL len0 tot0 pc (o_icmp cd J t k) := by
  intro lo st h H ls locs cells slots fr q
  unfold o_icmp at q
  split at q
  · rename_i b a st'
    have hb : inI b := hd_ok fr.ok
    have ha : inI a := hd_ok (tl_ok fr.ok)
    have f' := fr.st (tl_ok (tl_ok fr.ok))
    have e1 := i32_eq ha hb
    have e2 := i32_lt ha hb
    have e3 := i32_lt hb ha
    have e4 := i32_le ha hb
    have e5 := i32_le hb ha
    cases cd <;> dsimp only at q
    · exact lv_icmp_eq hF.1 hF.2.1 hdg ht (fun z => hJ lo st' h H ls locs cells slots f' (q.1 (e1.mp z))) (fun z => hk lo st' h H ls locs cells slots f' (q.2 (fun y => z (e1.mpr y))))
    · exact lv_icmp_ne hF.1 hF.2.1 hdg ht (fun z => hJ lo st' h H ls locs cells slots f' (q.1 (fun y => z (e1.mpr y)))) (fun z => hk lo st' h H ls locs cells slots f' (q.2 (e1.mp z)))
    · exact lv_icmp_lt hF.1 hF.2.1 hdg ht (fun z => hJ lo st' h H ls locs cells slots f' (q.1 (e2.mp z))) (fun z => hk lo st' h H ls locs cells slots f' (q.2 (Int.not_lt.mp (fun y => z (e2.mpr y)))))
    · exact lv_icmp_ge hF.1 hF.2.1 hdg ht (fun z => hJ lo st' h H ls locs cells slots f' (q.1 (e5.mp z))) (fun z => hk lo st' h H ls locs cells slots f' (q.2 (Int.not_le.mp (fun y => z (e5.mpr y)))))
    · exact lv_icmp_gt hF.1 hF.2.1 hdg ht (fun z => hJ lo st' h H ls locs cells slots f' (q.1 (e3.mp z))) (fun z => hk lo st' h H ls locs cells slots f' (q.2 (Int.not_lt.mp (fun y => z (e3.mpr y)))))
    · exact lv_icmp_le hF.1 hF.2.1 hdg ht (fun z => hJ lo st' h H ls locs cells slots f' (q.1 (e4.mp z))) (fun z => hk lo st' h H ls locs cells slots f' (q.2 (Int.not_le.mp (fun y => z (e4.mpr y)))))
  · exact q.elim
theorem s_goto (hF : FxC p s m c args cc nL own Ts D kA A B len0 adK adV) {off : Int} {t : Nat} (ht : (pc : Int) + off = (t : Int)) (hdg : decode cc pc = .ok (.goto off, 3)) (hJ : Sd p l e R s m args below meth c QQ B A kA D nL len0 tot0 t (J t)) : Sd p l e R s m args below meth c QQ B A kA D nL len0 tot0 pc (fun lo st h => J t lo st h ∧ True) := by
  intro lo st h H ls locs cells slots fr q
  exact lv_goto hF.1 hF.2.1 hdg ht (hJ lo st h H ls locs cells slots fr q.1)
theorem s_fall (hJ : Sd p l e R s m args below meth c QQ B A kA D nL len0 tot0 pc (J pc)) : Sd p l e R s m args below meth c QQ B A kA D nL len0 tot0 pc (fun lo st h => J pc lo st h ∧ True) := by
  intro lo st h H ls locs cells slots fr q
  exact hJ lo st h H ls locs cells slots fr q.1
theorem swt_look {dflt a : Int} {d : Nat} (hd : (pc : Int) + dflt = (d : Int)) {lo : Lo} {st : List MV} {h : Mem} : ∀ (l : List (Int × Int)) (ps : List (Int × Nat)), l.map (fun q => (q.1, (pc : Int) + q.2)) = ps.map (fun q => (q.1, (q.2 : Int))) → swt J d a lo st h ps → ∃ t : Nat, (pc : Int) + Op.lookupswitch.offset l dflt a = (t : Int) ∧ J t lo st h ∧ (t = d ∨ ∃ z, (z, t) ∈ ps)
  | [], [], _, q => ⟨d, hd, q, Or.inl rfl⟩
  | [], _ :: _, e, _ => by cases e
  | _ :: _, [], e, _ => by cases e
  | (x, o) :: l, (y, t) :: ps, e, q => by
    rw [List.map_cons, List.map_cons, List.cons.injEq] at e
    obtain ⟨e1, e2⟩ := e
    have hx : x = y := (Prod.ext_iff.mp e1).1
    have ho : (pc : Int) + o = (t : Int) := (Prod.ext_iff.mp e1).2
    subst hx
    by_cases hax : a = x
    · refine ⟨t, ?_, q.1 hax, Or.inr ⟨x, List.mem_cons_self⟩⟩
      rw [Op.lookupswitch.offset_cons, if_pos hax.symm]
      exact ho
    · obtain ⟨t', h1, h2, h3⟩ := swt_look hd l ps e2 (q.2 hax)
      refine ⟨t', ?_, h2, h3.elim Or.inl (fun ⟨z, hz⟩ => Or.inr ⟨z, List.mem_cons_of_mem _ hz⟩)⟩
      rw [Op.lookupswitch.offset_cons, if_neg (fun y => hax y.symm)]
      exact h1
theorem swt_tab {d : Nat} {a : Int} {lo : Lo} {st : List MV} {h : Mem} : ∀ (ps : List (Int × Nat)), swt J d a lo st h ps → (∃ (i t : Nat), ps[i]? = some (a, t) ∧ J t lo st h) ∨ ((∀ q ∈ ps, ¬ q.1 = a) ∧ J d lo st h)
  | [], q => Or.inr ⟨fun _ h => absurd h List.not_mem_nil, q⟩
  | (x, t) :: ps, q => by
    by_cases hax : a = x
    · exact Or.inl ⟨0, t, by rw [hax]; rfl, q.1 hax⟩
    · rcases swt_tab ps (q.2 hax) with ⟨i, t', h1, h2⟩ | ⟨h1, h2⟩
      · exact Or.inl ⟨i + 1, t', by simpa using h1, h2⟩
      · exact Or.inr ⟨fun y hy => (List.mem_cons.mp hy).elim (fun e => by rw [e]; exact fun z => hax z.symm) (h1 y), h2⟩
theorem s_lookup (hF : FxC p s m c args cc nL own Ts D kA A B len0 adK adV) {dflt : Int} {ar : Array (Int × Int)} {n d : Nat} {ps : List (Int × Nat)} (hd : (pc : Int) + dflt = (d : Int)) (hps : ar.toList.map (fun q => (q.1, (pc : Int) + q.2)) = ps.map (fun q => (q.1, (q.2 : Int)))) (hso : (ar.toList.zip (ar.toList.drop 1)).all (fun (a, next) => a.1 < next.1) = true)
    (hdg : decode cc pc = .ok (.lookupswitch dflt ar, n)) (hJ : ∀ t, t = d ∨ (∃ z, (z, t) ∈ ps) → Sd p l e R s m args below meth c QQ B A kA D nL len0 tot0 t (J t)) : Sd p l e R s m args below meth c QQ B A kA D nL len0 tot0 pc (o_swt J d ps) := by
  intro lo st h H ls locs cells slots fr q
  unfold o_swt at q
  split at q
  · rename_i a st'
    have ha : inI a := hd_ok fr.ok
    obtain ⟨t, h1, h2, h3⟩ := swt_look hd _ _ hps q.1
    exact lv_lookup hF.1 hF.2.1 hdg hso (by rw [i32_to ha]) h1 (hJ t h3 lo st' h H ls locs cells slots (fr.st (tl_ok fr.ok)) h2)
  · exact q.elim
theorem s_table (hF : FxC p s m c args cc nL own Ts D kA A B len0 adK adV) {dflt lw hg : Int} {ar : Array Int} {n d : Nat} {ps : List (Int × Nat)} (hd : (pc : Int) + dflt = (d : Int)) (hh : hg = lw + (ar.toList.length : Int) - 1) (hps : ar.toList.mapIdx (fun i o => (lw + (i : Int), (pc : Int) + o)) = ps.map (fun q => (q.1, (q.2 : Int))))
    (hdg : decode cc pc = .ok (.tableswitch dflt lw hg ar, n)) (hJ : ∀ t, t = d ∨ (∃ z, (z, t) ∈ ps) → Sd p l e R s m args below meth c QQ B A kA D nL len0 tot0 t (J t)) : Sd p l e R s m args below meth c QQ B A kA D nL len0 tot0 pc (o_swt J d ps) := by
  intro lo st h H ls locs cells slots fr q
  unfold o_swt at q
  split at q
  · rename_i a st'
    have ha : inI a := hd_ok fr.ok
    have hat : ∀ i : Nat, (ar.toList[i]?).map (fun o => (lw + (i : Int), (pc : Int) + o)) = (ps[i]?).map (fun q => (q.1, (q.2 : Int))) := by
      intro i
      have := congrArg (fun l => l[i]?) hps
      simpa [List.getElem?_mapIdx] using this
    rcases swt_tab ps q.1 with ⟨i, t, h1, h2⟩ | ⟨h1, h2⟩
    · have hi := hat i
      rw [h1] at hi
      cases ho : ar.toList[i]? with
      | none => rw [ho] at hi; cases hi
      | some o =>
        rw [ho] at hi
        simp only [Option.map_some, Option.some.injEq, Prod.mk.injEq] at hi
        have hlt : i < ar.toList.length := (List.getElem?_eq_some_iff.mp ho).1
        have hia : (a - lw).toNat = i := by omega
        refine lv_tableIn hF.1 hF.2.1 hdg (by rw [i32_to ha]; omega) (by rw [i32_to ha]; omega) (off := o) ?_ hi.2 (hJ t (Or.inr ⟨a, List.mem_of_getElem? h1⟩) lo st' h H ls locs cells slots (fr.st (tl_ok fr.ok)) h2)
        rw [i32_to ha, hia, ← Array.getElem?_toList]
        exact ho
    · refine lv_tableOut hF.1 hF.2.1 hdg ?_ hd (hJ d (Or.inl rfl) lo st' h H ls locs cells slots (fr.st (tl_ok fr.ok)) h2)
      rw [i32_to ha]
      by_cases hl : a < lw
      · exact Or.inl hl
      · right
        by_cases hh2 : hg < a
        · exact hh2
        · exfalso
          have hlt : (a - lw).toNat < ar.toList.length := by omega
          have hi := hat (a - lw).toNat
          rw [List.getElem?_eq_getElem hlt] at hi
          cases hp : ps[(a - lw).toNat]? with
          | none => rw [hp] at hi; cases hi
          | some y =>
            rw [hp] at hi
            simp only [Option.map_some, Option.some.injEq, Prod.mk.injEq] at hi
            exact h1 y (List.mem_of_getElem? hp) (by omega)
  · exact q.elim
-- fields
theorem Wd.lt {h : Mem} {H : Heap} {r : Nat} {q : Nat × Nat} {AA : Nat → Prop} (w : Wd B A kA D AA h H) (hr : h.1[r]? = some q) : r < 900000 := Nat.lt_trans (List.getElem?_eq_some_iff.mp hr).1 w.2.2.1
theorem cel_obj {h : Mem} {r c n : Nat} (hc : c < 100) : cel A kA h r (c, n) = .inr (c, fvs A h r c) := by simp [cel, hc]
theorem fvs_at {h : Mem} {r c k t : Nat} (ht : (ftys.getD c [])[k]? = some t) : (fvs A h r c)[k]? = some (fvV A h r k t) := by
  simp only [fvs, List.getElem?_mapIdx, ht, Option.map_some]
theorem s_get (hF : FxC p s m c args cc nL own Ts D kA A B len0 adK adV) {idx cN f t : Nat} {tz : Int} (hc : cN < 11) (hf : f < NN cN) (ht : (ftys.getD cN [])[f]? = some t) (htz : (tz = 1 ∧ t = 1) ∨ (tz = 2 ∧ t = 2) ∨ (tz = 0 ∧ ¬ t = 1 ∧ ¬ t = 2)) (hw : Cond.fieldLink own idx (TT cN f).1 (TT cN f).2.1 (TT cN f).2.2.1 ∈ Ts) (hlay : ∀ w ∈ u_ws (RR cN) (TT cN) (NN cN), w ∈ Ts)
    (hdg : decode cc pc = .ok (.getfield idx, 3)) (hk : Sd p l e R s m args below meth c QQ B A kA D nL len0 tot0 (pc + 3) k) : Sd p l e R s m args below meth c QQ B A kA D nL len0 tot0 pc (o_get cN (f : Int) tz k) := by
  intro lo st h H ls locs cells slots fr q
  unfold o_get at q
  split at q
  · rename_i r st'
    obtain ⟨hkd, q⟩ := q
    obtain ⟨n, hr, -⟩ := kd_some hkd (by omega)
    have hA : A r = some (B + r) := hF.2.2.2.2.2.2.2.1 r (fr.1.lt hr)
    have he := wsO_at (B := B) (A := A) (kA := kA) hr
    rw [cel_obj (by omega)] at he
    have hM := fr.1.2.2.2.2 r _ hr f
    rw [List.map_cons, show trV A (Sum.inr (Sum.inr r)) = .ref (B + r) by simp [trV, va_rf, hA]]
    refine va_get (ci := cN) (T := TT cN) (N := NN cN) (v := fvV A h r f t) hF.1 hF.2.1 hF.2.2.2.2.1 hlay hF.2.2.2.1 hF.2.2.2.2.2.1 fr.1.1 r he (vw_at cN hc) f hf (hF.2.2.2.2.1 _ hw) (fun _ h9 => h9) (fvs_at ht) hdg ?_
    have ht' : (ftys.getD cN []).getD f 0 = t := by rw [List.getD_eq_getElem?_getD, ht]; rfl
    rcases htz with ⟨rfl, rfl⟩ | ⟨rfl, rfl⟩ | ⟨rfl, h1, h2⟩
    · have hL : inL (gG h r f) := by
        have : isL cN f = true := by simp only [isL, ht']; simp; omega
        unfold rngK at hM
        rw [if_pos this] at hM
        exact hM
      exact hk lo (vL (gG h r f) :: st') h H ls locs cells slots (fr.st (cons_ok hL (tl_ok fr.ok))) q
    · exact hk lo (vR (gR h r f) :: st') h H ls locs cells slots (fr.st (cons_ok trivial (tl_ok fr.ok))) q
    · have hI : inI (gG h r f) := by
        have : ¬ isL cN f = true := by simp only [isL, ht']; simp; omega
        unfold rngK at hM
        rw [if_neg this] at hM
        exact hM
      have hv : fvV A h r f t = trV A (vI (gG h r f)) := by
        unfold fvV trV
        split
        · exact absurd rfl h1
        · exact absurd rfl h2
        · rfl
      rw [hv]
      exact hk lo (vI (gG h r f) :: st') h H ls locs cells slots (fr.st (cons_ok hI (tl_ok fr.ok))) q
  · exact q.elim
theorem fvs_sG {h : Mem} {r c f t : Nat} {z : Int} {v : Value} (ht : (ftys.getD c [])[f]? = some t) (hv : v = fvV A (sG h r f z) r f t) : (fvs A h r c).set f v = fvs A (sG h r f z) r c := by
  subst hv
  apply List.ext_getElem?
  intro i
  rw [List.getElem?_set]
  have hlt : f < (ftys.getD c []).length := (List.getElem?_eq_some_iff.mp ht).1
  by_cases hi : f = i
  · subst hi
    rw [if_pos rfl, if_pos (by simp [fvs]; simpa using hlt), fvs_at ht]
  · rw [if_neg hi]
    simp only [fvs, List.getElem?_mapIdx]
    cases (ftys.getD c [])[i]? with
    | none => rfl
    | some t' =>
      simp only [Option.map_some]
      have : ¬ (i : Int) = (f : Int) := by omega
      simp [fvV, gG, gR, sG, this]
theorem fvs_sR {h : Mem} {r c f t z : Nat} {v : Value} (ht : (ftys.getD c [])[f]? = some t) (hv : v = fvV A (sR h r f z) r f t) : (fvs A h r c).set f v = fvs A (sR h r f z) r c := by
  subst hv
  apply List.ext_getElem?
  intro i
  rw [List.getElem?_set]
  have hlt : f < (ftys.getD c []).length := (List.getElem?_eq_some_iff.mp ht).1
  by_cases hi : f = i
  · subst hi
    rw [if_pos rfl, if_pos (by simp [fvs]; simpa using hlt), fvs_at ht]
  · rw [if_neg hi]
    simp only [fvs, List.getElem?_mapIdx]
    cases (ftys.getD c [])[i]? with
    | none => rfl
    | some t' =>
      simp only [Option.map_some]
      have : ¬ (i : Int) = (f : Int) := by omega
      simp [fvV, gG, gR, sR, this]
/-- what a store into a cell leaves of the frame -/
theorem FrC.mem {lo : Lo} {st st' : List MV} {h h' : Mem} {H H1 : Heap} {ls : Array Slot} {locs locs1 : List Loc} {cells slots : Nat} (f : FrC R s nL B A kA D len0 tot0 lo st h H ls locs cells slots) (hs : h'.1 = h.1) (hP : va_P D vwCl (wsO B A kA h') H1) (hD : va_D (fun q => B ≤ q) (wsO B A kA h')) (hS : va_S (fun q => B ≤ q) s.heap H1 locs1) (hM : MOk h') (hv : ∀ v ∈ st', vok v) : FrC R s nL B A kA D len0 tot0 lo st' h' H1 ls locs1 cells slots :=
  ⟨⟨hP, hD, by rw [hs]; exact f.1.2.2.1, fun r q hq => f.1.2.2.2.1 r q (hs ▸ hq), hM⟩, hS, f.2.2.1, f.2.2.2.1, f.2.2.2.2.1, hv, by rw [hs]; exact f.2.2.2.2.2.2.1, by rw [hs]; exact f.2.2.2.2.2.2.2⟩
/-- how large the heap is -/
theorem W_size (hF : FxC p s m c args cc nL own Ts D kA A B len0 adK adV) {lo : Lo} {st : List MV} {h : Mem} {H : Heap} {ls : Array Slot} {locs : List Loc} {cells slots : Nat} (fr : FrC R s nL B A kA D len0 tot0 lo st h H ls locs cells slots) {g : JFrame} (hw : H.size = B + h.1.length → W p l e R s m args below meth c H locs cells slots QQ g) : W p l e R s m args below meth c H locs cells slots QQ g := by
  intro T hT X
  have h1 : T.heap.size ≤ s.heap.size + cells := X.same.2.2.1
  rw [hT, hF.2.2.2.2.2.2.1] at h1
  have h2 := fr.2.2.2.2.2.2.1
  have h3 : B + h.1.length ≤ H.size := by
    by_cases h0 : h.1.length = 0
    · have := fr.2.1.1
      rw [hF.2.2.2.2.2.2.1] at this
      omega
    · have hlt : h.1.length - 1 < h.1.length := by omega
      have := (fr.1.1 (h.1.length - 1) _ (wsO_at (List.getElem?_eq_getElem hlt))).lt
      simp only at this
      omega
  exact hw (by omega) T hT X
theorem tc0 {ty : FieldType} (h : tcode ty = 0) : ty = .int := by cases ty <;> simp [tcode] at h ⊢
theorem tc1 {ty : FieldType} (h : tcode ty = 1) : ty = .long := by cases ty <;> simp [tcode] at h ⊢
theorem tc3 {ty : FieldType} (h : tcode ty = 3) : ty = .boolean := by cases ty <;> simp [tcode] at h ⊢
theorem tc2 {ty : FieldType} (h : tcode ty = 2) (a : Option Nat) : narrow ty (va_rf a) = va_rf a ∧ fits ty (va_rf a) = true := by
  cases ty <;> simp [tcode] at h <;> cases a <;> exact ⟨rfl, rfl⟩
/-- a field, final or not, gets a value that is of its type -/
theorem put_row (hF : FxC p s m c args cc nL own Ts D kA A B len0 adK adV) {idx cN f t : Nat} {h h' : Mem} {v : Value} {lo : Lo} {st st' : List MV} {H : Heap} {ls : Array Slot} {locs : List Loc} {cells slots r n : Nat} (fr : FrC R s nL B A kA D len0 tot0 lo st h H ls locs cells slots) (hc : cN < 11) (hf : f < NN cN) (ht : (ftys.getD cN [])[f]? = some t)
    (hfin : (TT cN f).2.2.2 = false ∨ ((TT cN f).2.2.2 = true ∧ meth.name = "<init>" ∧ (TT cN f).1 = own)) (hr : h.1[r]? = some (cN, n)) (hs : h'.1 = h.1) (hn : narrow (tyT cN f) v = v) (hft : fits (tyT cN f) v = true)
    (hset : (fvs A h r cN).set f v = fvs A h' r cN) (hne : ∀ r' q', r' ≠ r → cel A kA h' r' q' = cel A kA h r' q') (hM : MOk h') (hv : ∀ w ∈ st', vok w) (q : k lo st' h') (hw : Cond.fieldLink own idx (TT cN f).1 (TT cN f).2.1 (TT cN f).2.2.1 ∈ Ts) (hlay : ∀ w ∈ u_ws (RR cN) (TT cN) (NN cN), w ∈ Ts) (hdg : decode cc pc = .ok (.putfield idx, 3)) (hk : Sd p l e R s m args below meth c QQ B A kA D nL len0 tot0 (pc + 3) k) :
    W p l e R s m args below meth c H locs cells slots QQ (F0 m pc ls (v :: .ref (B + r) :: st'.map (trV A))) := by
  have he := wsO_at (B := B) (A := A) (kA := kA) hr
  rw [cel_obj (by omega)] at he
  have hl : f < (fvs A h r cN).length := by
    have := (List.getElem?_eq_some_iff.mp ht).1
    simpa [fvs] using this
  have hws : (wsO B A kA h).set r (B + r, .inr (cN, (fvs A h r cN).set f v)) = wsO B A kA h' := wsO_set hs hr hne (by rw [hset, cel_obj (by omega)])
  have kk : ∀ (H1 : Heap) (locs1 : List Loc), va_P D vwCl ((wsO B A kA h).set r (B + r, .inr (cN, (fvs A h r cN).set f v))) H1 → va_D (fun q => B ≤ q) ((wsO B A kA h).set r (B + r, .inr (cN, (fvs A h r cN).set f v))) → va_S (fun q => B ≤ q) s.heap H1 locs1 → W p l e R s m args below meth c H1 locs1 cells slots QQ (F0 m (pc + 3) ls (st'.map (trV A))) := by
    intro H1 locs1 h1 h2 h3
    rw [hws] at h1 h2
    exact hk lo st' h' H1 ls locs1 cells slots (fr.mem hs h1 h2 h3 hM hv) q
  rcases hfin with hfin | ⟨hfin, hin, hdc⟩
  · exact va_put (ci := cN) (T := TT cN) (N := NN cN) hF.1 hF.2.1 hF.2.2.2.2.1 hlay (tyT cN) (vw_ty cN hc) (vw_nm cN hc) hF.2.2.2.1 hF.2.2.2.2.2.1 fr.1.1 fr.1.2.1 fr.2.1 r he (vw_at cN hc) f hf (hF.2.2.2.2.1 _ hw) (fun _ h9 => h9) hfin (vw_ty cN hc f hf) hn hft hl hdg kk
  · exact va_putF (ci := cN) (T := TT cN) (N := NN cN) hF.1 hF.2.1 hF.2.2.2.2.1 hlay (tyT cN) (vw_ty cN hc) (vw_nm cN hc) hF.2.2.2.1 hF.2.2.2.2.2.1 fr.1.1 fr.1.2.1 fr.2.1 r he (vw_at cN hc) f hf (hF.2.2.2.2.1 _ hw) (fun _ h9 => h9) hfin hin hdc (vw_ty cN hc f hf) hn hft hl hdg kk
theorem isL_obj {c f t : Nat} (hc : c < 11) (ht : (ftys.getD c [])[f]? = some t) : isL c f = decide (t = 1) := by
  have ht' : (ftys.getD c []).getD f 0 = t := by rw [List.getD_eq_getElem?_getD, ht]; rfl
  simp only [isL, ht']
  by_cases h1 : t = 1
  · subst h1; simp; omega
  · simp [h1]; omega
theorem s_put (hF : FxC p s m c args cc nL own Ts D kA A B len0 adK adV) {idx cN f t : Nat} {tz : Int} (hc : cN < 11) (hf : f < NN cN) (ht : (ftys.getD cN [])[f]? = some t) (htz : tz = (t : Int)) (hfin : (TT cN f).2.2.2 = false ∨ ((TT cN f).2.2.2 = true ∧ meth.name = "<init>" ∧ (TT cN f).1 = own)) (hw : Cond.fieldLink own idx (TT cN f).1 (TT cN f).2.1 (TT cN f).2.2.1 ∈ Ts) (hlay : ∀ w ∈ u_ws (RR cN) (TT cN) (NN cN), w ∈ Ts) (hdg : decode cc pc = .ok (.putfield idx, 3)) (hk : Sd p l e R s m args below meth c QQ B A kA D nL len0 tot0 (pc + 3) k) : Sd p l e R s m args below meth c QQ B A kA D nL len0 tot0 pc (o_put cN (f : Int) tz k) := by
  intro lo st h H ls locs cells slots fr q
  unfold o_put at q
  split at q
  · rename_i v r st'
    obtain ⟨hkd, q⟩ := q
    obtain ⟨n, hr, -⟩ := kd_some hkd (by omega)
    have hA : A r = some (B + r) := hF.2.2.2.2.2.2.2.1 r (fr.1.lt hr)
    have hcd : tcode (tyT cN f) = t := by
      rw [ft_code cN hc f hf, List.getD_eq_getElem?_getD, ht]; rfl
    have hst := tl_ok (tl_ok fr.ok)
    have hv0 := hd_ok fr.ok
    rw [List.map_cons, List.map_cons, show trV A (Sum.inr (Sum.inr r)) = .ref (B + r) by simp [trV, va_rf, hA]]
    have hI := isL_obj hc ht
    split at q
    · rename_i z
      have e : t = 0 := by omega
      subst e
      have hty := tc0 hcd
      refine put_row hF fr hc hf ht hfin hr (h' := sG h r f z) rfl (by rw [hty]; rfl) (by rw [hty]; rfl) (fvs_sG ht (by simp [trV, fvV, gG, sG])) cel_sG (MOk_sG fr.1.2.2.2.2 hr (fun j hj => ?_)) hst q hw hlay hdg hk
      have : j = f := by omega
      subst this
      unfold rngK
      rw [hI]
      simp
      exact hv0
    · rename_i z
      have e : t = 1 := by omega
      subst e
      have hty := tc1 hcd
      refine put_row hF fr hc hf ht hfin hr (h' := sG h r f z) rfl (by rw [hty]; rfl) (by rw [hty]; rfl) (fvs_sG ht (by simp [trV, fvV, gG, sG])) cel_sG (MOk_sG fr.1.2.2.2.2 hr (fun j hj => ?_)) hst q hw hlay hdg hk
      have : j = f := by omega
      subst this
      unfold rngK
      rw [hI]
      simp
      exact hv0
    · rename_i z
      have e : t = 2 := by omega
      subst e
      have hty := tc2 hcd (A z)
      exact put_row hF fr hc hf ht hfin hr (h' := sR h r f z) rfl hty.1 hty.2 (fvs_sR ht (by simp [trV, fvV, gR, sR])) cel_sR (fun r' q' hq' j => fr.1.2.2.2.2 r' q' hq' j) hst q hw hlay hdg hk
    · rename_i z
      have e : t = 3 := by omega
      subst e
      have hty := tc3 hcd
      have hz := q.1
      refine put_row hF fr hc hf ht hfin hr (h' := sG h r f z) rfl ?_ ?_ (fvs_sG ht (by simp [trV, fvV, gG, sG])) cel_sG (MOk_sG fr.1.2.2.2.2 hr (fun j hj => ?_)) hst q.2 hw hlay hdg hk
      · rw [hty]; rcases hz with rfl | rfl <;> (simp only [trV]; decide)
      · rw [hty]; rcases hz with rfl | rfl <;> (simp only [trV]; decide)
      have : j = f := by omega
      subst this
      unfold rngK
      rw [hI]
      simp
      exact hv0
    · exact q.elim
  · exact q.elim
end HEAPOPS
end
section
/-! arrays, making, Math.max and min, arraycopy -/
section ARR
variable {p : Program} {l : Launch} {e : Env} {R : Room} {s : State} {m : MethodId} {args : Array Value} {below : List Frame} {meth : Method} {c : Code} {QQ : State → Prop} {B : Nat} {A : Nat → Option Nat} {kA : Nat → ClassId} {D : va_G} {cc : ByteArray} {nL : Nat} {own : String} {len0 tot0 : Nat} {Ts : List Cond} {pc : Nat} {k : Blk} {J : Jmp} {adK adV : Nat → Nat}
theorem cel_i {h : Mem} {r kk n : Nat} (hk : kk = 100 ∨ kk = 102 ∨ kk = 103) : cel A kA h r (kk, n) = .inl (kA kk, n, .inl fun j => Int32.ofInt (gG h r j)) := by
  rcases hk with rfl | rfl | rfl <;> simp [cel]
theorem cel_l {h : Mem} {r n : Nat} : cel A kA h r (101, n) = .inl (kA 101, n, .inr (.inl fun j => Int64.ofInt (gG h r j))) := by simp [cel]
theorem cel_q {h : Mem} {r kk n : Nat} (hk : 104 ≤ kk) : cel A kA h r (kk, n) = .inl (kA kk, n, .inr (.inr (.inr (.inr fun j => A (gR h r j))))) := by
  have h1 : ¬ kk < 100 := by omega
  have h2 : ¬ kk = 101 := by omega
  have h3 : ¬ kk < 104 := by omega
  simp [cel, h1, h2, h3]
theorem rg_i {h : Mem} {r kk n j : Nat} (hM : MOk h) (hr : h.1[r]? = some (kk, n)) (hk : kk = 100 ∨ kk = 102 ∨ kk = 103) : inI (gG h r j) := by
  have := hM r _ hr j
  unfold rngK at this
  rcases hk with rfl | rfl | rfl <;> simpa [isL] using this
theorem rg_l {h : Mem} {r n j : Nat} (hM : MOk h) (hr : h.1[r]? = some (101, n)) : inL (gG h r j) := by
  have := hM r _ hr j
  unfold rngK at this
  simpa [isL] using this
theorem ix_nat {i : Int} (h0 : 0 ≤ i) : ((i.toNat : Nat) : Int) = i := Int.toNat_of_nonneg h0
theorem s_ial (hF : FxC p s m c args cc nL own Ts D kA A B len0 adK adV) {kk : Nat} (hkk : kk = 100 ∨ kk = 102 ∨ kk = 103) (hdg : decode cc pc = .ok (if kk = 100 then .iaload else .baload, 1)) (hk : Sd p l e R s m args below meth c QQ B A kA D nL len0 tot0 (pc + 1) k) : Sd p l e R s m args below meth c QQ B A kA D nL len0 tot0 pc (o_ial kk k) := by
  intro lo st h H ls locs cells slots fr q
  unfold o_ial at q
  split at q
  · rename_i i r st'
    obtain ⟨⟨hkd, hi0, hi1⟩, q⟩ := q
    obtain ⟨n, hr, hn⟩ := kd_some hkd (by omega)
    have hA : A r = some (B + r) := hF.2.2.2.2.2.2.2.1 r (fr.1.lt hr)
    have hi : inI i := hd_ok fr.ok
    have he := wsO_at (B := B) (A := A) (kA := kA) hr
    rw [cel_i hkk] at he
    rw [List.map_cons, List.map_cons, show trV A (Sum.inr (Sum.inr r)) = .ref (B + r) by simp [trV, va_rf, hA]]
    have hin : vp_in (Int32.ofInt i) n := i32_vin hi hi0 (by rw [← hn]; exact hi1)
    have hw := hk lo (vI (gG h r i) :: st') h H ls locs cells slots (fr.st (cons_ok (by have := rg_i (j := i.toNat) fr.1.2.2.2.2 hr hkk; rwa [ix_nat hi0] at this) (tl_ok (tl_ok fr.ok)))) q
    have hv : Int32.ofInt (gG h r ((Int32.ofInt i).toNatClampNeg : Nat)) = Int32.ofInt (gG h r i) := by rw [i32_clamp hi hi0, ix_nat hi0]
    rcases hkk with rfl | rfl | rfl
    · refine va_iald hF.1 hF.2.1 hF.2.2.2.2.2.1 fr.1.1 r 0 he rfl hin hdg ?_
      simp only [hv]
      exact hw
    · refine va_bald hF.1 hF.2.1 hF.2.2.2.2.2.1 fr.1.1 r 2 he rfl hin hdg ?_
      simp only [hv]
      exact hw
    · refine va_zald hF.1 hF.2.1 hF.2.2.2.2.2.1 fr.1.1 r 3 he rfl hin hdg ?_
      simp only [hv]
      exact hw
  · exact q.elim
theorem s_lal (hF : FxC p s m c args cc nL own Ts D kA A B len0 adK adV) (hdg : decode cc pc = .ok (.laload, 1)) (hk : Sd p l e R s m args below meth c QQ B A kA D nL len0 tot0 (pc + 1) k) : Sd p l e R s m args below meth c QQ B A kA D nL len0 tot0 pc (o_lal k) := by
  intro lo st h H ls locs cells slots fr q
  unfold o_lal at q
  split at q
  · rename_i i r st'
    obtain ⟨⟨hkd, hi0, hi1⟩, q⟩ := q
    obtain ⟨n, hr, hn⟩ := kd_some hkd (by omega)
    have hA : A r = some (B + r) := hF.2.2.2.2.2.2.2.1 r (fr.1.lt hr)
    have hi : inI i := hd_ok fr.ok
    have he := wsO_at (B := B) (A := A) (kA := kA) hr
    rw [cel_l] at he
    rw [List.map_cons, List.map_cons, show trV A (Sum.inr (Sum.inr r)) = .ref (B + r) by simp [trV, va_rf, hA]]
    have hin : vp_in (Int32.ofInt i) n := i32_vin hi hi0 (by rw [← hn]; exact hi1)
    have hw := hk lo (vL (gG h r i) :: st') h H ls locs cells slots (fr.st (cons_ok (by have := rg_l (j := i.toNat) fr.1.2.2.2.2 hr; rwa [ix_nat hi0] at this) (tl_ok (tl_ok fr.ok)))) q
    have hv : Int64.ofInt (gG h r ((Int32.ofInt i).toNatClampNeg : Nat)) = Int64.ofInt (gG h r i) := by rw [i32_clamp hi hi0, ix_nat hi0]
    refine va_lald hF.1 hF.2.1 hF.2.2.2.2.2.1 fr.1.1 r 1 he rfl hin hdg ?_
    simp only [hv]
    exact hw
  · exact q.elim
theorem tys_q {kk : Nat} (h : kk = 104 ∨ kk = 105 ∨ kk = 106) : ∃ t0 : Nat, (tys7 kA)[t0]? = some (kA kk, FieldType.object (kC kk)) := by
  rcases h with rfl | rfl | rfl
  · exact ⟨4, rfl⟩
  · exact ⟨5, rfl⟩
  · exact ⟨6, rfl⟩
theorem s_aal (hF : FxC p s m c args cc nL own Ts D kA A B len0 adK adV) {kk : Nat} (hkk : kk = 104 ∨ kk = 105 ∨ kk = 106) (hdg : decode cc pc = .ok (.aaload, 1)) (hk : Sd p l e R s m args below meth c QQ B A kA D nL len0 tot0 (pc + 1) k) : Sd p l e R s m args below meth c QQ B A kA D nL len0 tot0 pc (o_aal kk k) := by
  intro lo st h H ls locs cells slots fr q
  unfold o_aal at q
  split at q
  · rename_i i r st'
    obtain ⟨⟨hkd, hi0, hi1⟩, q⟩ := q
    obtain ⟨n, hr, hn⟩ := kd_some hkd (by omega)
    have hA : A r = some (B + r) := hF.2.2.2.2.2.2.2.1 r (fr.1.lt hr)
    have hi : inI i := hd_ok fr.ok
    have he := wsO_at (B := B) (A := A) (kA := kA) hr
    rw [cel_q (by omega)] at he
    rw [List.map_cons, List.map_cons, show trV A (Sum.inr (Sum.inr r)) = .ref (B + r) by simp [trV, va_rf, hA]]
    have hin : vp_in (Int32.ofInt i) n := i32_vin hi hi0 (by rw [← hn]; exact hi1)
    have hw := hk lo (vR (gR h r i) :: st') h H ls locs cells slots (fr.st (cons_ok trivial (tl_ok (tl_ok fr.ok)))) q
    obtain ⟨t0, ht0⟩ := tys_q (kA := kA) hkk
    have hv : A (gR h r ((Int32.ofInt i).toNatClampNeg : Nat)) = A (gR h r i) := by rw [i32_clamp hi hi0, ix_nat hi0]
    refine va_aldq hF.1 hF.2.1 hF.2.2.2.2.2.1 fr.1.1 r t0 he ht0 hin hdg ?_
    simp only [hv]
    exact hw
  · exact q.elim
theorem upd_sG {h : Mem} {r : Nat} {i z : Int} (hi : inI i) (h0 : 0 ≤ i) : upd (fun j : Nat => Int32.ofInt (gG h r j)) (Int32.ofInt i).toNatClampNeg (Int32.ofInt z) = fun j : Nat => Int32.ofInt (gG (sG h r i z) r j) := by
  rw [i32_clamp hi h0]
  funext j
  show (if j = i.toNat then Int32.ofInt z else Int32.ofInt (gG h r j)) = Int32.ofInt (if r = r ∧ (j : Int) = i then z else h.2.1 r j)
  by_cases hj : j = i.toNat
  · rw [if_pos hj, if_pos ⟨rfl, by omega⟩]
  · rw [if_neg hj, if_neg (fun q => hj (by omega))]; rfl
theorem updL_sG {h : Mem} {r : Nat} {i z : Int} (hi : inI i) (h0 : 0 ≤ i) : vp_updL (fun j : Nat => Int64.ofInt (gG h r j)) (Int32.ofInt i).toNatClampNeg (Int64.ofInt z) = fun j : Nat => Int64.ofInt (gG (sG h r i z) r j) := by
  rw [i32_clamp hi h0]
  funext j
  show (if j = i.toNat then Int64.ofInt z else Int64.ofInt (gG h r j)) = Int64.ofInt (if r = r ∧ (j : Int) = i then z else h.2.1 r j)
  by_cases hj : j = i.toNat
  · rw [if_pos hj, if_pos ⟨rfl, by omega⟩]
  · rw [if_neg hj, if_neg (fun q => hj (by omega))]; rfl
theorem updQ_sR {h : Mem} {r z a : Nat} {i : Int} (hi : inI i) (h0 : 0 ≤ i) (hz : A z = some a) : va_up (fun j : Nat => A (gR h r j)) (Int32.ofInt i).toNatClampNeg (some a) = fun j : Nat => A (gR (sR h r i z) r j) := by
  rw [i32_clamp hi h0]
  funext j
  show (if j = i.toNat then some a else A (gR h r j)) = A (if r = r ∧ (j : Int) = i then z else h.2.2 r j)
  by_cases hj : j = i.toNat
  · rw [if_pos hj, if_pos ⟨rfl, by omega⟩, hz]
  · rw [if_neg hj, if_neg (fun q => hj (by omega))]; rfl
theorem MOk_sGi {h : Mem} {r kk n : Nat} {i z : Int} (hM : MOk h) (hr : h.1[r]? = some (kk, n)) (hk : kk = 100 ∨ kk = 102 ∨ kk = 103) (hz : inI z) : MOk (sG h r i z) :=
  MOk_sG hM hr (fun j _ => by unfold rngK; rcases hk with rfl | rfl | rfl <;> simpa [isL] using hz)
theorem s_ias (hF : FxC p s m c args cc nL own Ts D kA A B len0 adK adV) {kk : Nat} (hkk : kk = 100 ∨ kk = 102 ∨ kk = 103) (hdg : decode cc pc = .ok (if kk = 100 then .iastore else .bastore, 1)) (hk : Sd p l e R s m args below meth c QQ B A kA D nL len0 tot0 (pc + 1) k) {lo : Lo} {st : List MV} {h : Mem} {H : Heap} {ls : Array Slot} {locs : List Loc} {cells slots : Nat} (fr : FrC R s nL B A kA D len0 tot0 lo st h H ls locs cells slots) {i z : Int} {r : Nat} {st' : List MV} (hst : st = .inl z :: .inl i :: .inr (.inr r) :: st') (hix : ixOk h r i kk) (hsk : stOk kk z) (q : k lo st' (sG h r i z)) :
    W p l e R s m args below meth c H locs cells slots QQ (F0 m pc ls (st.map (trV A))) := by
  subst hst
  obtain ⟨hkd, hi0, hi1⟩ := hix
  obtain ⟨n, hr, hn⟩ := kd_some hkd (by omega)
  have hA : A r = some (B + r) := hF.2.2.2.2.2.2.2.1 r (fr.1.lt hr)
  have hz : inI z := hd_ok fr.ok
  have hi : inI i := hd_ok (tl_ok fr.ok)
  have he := wsO_at (B := B) (A := A) (kA := kA) hr
  rw [cel_i hkk] at he
  rw [List.map_cons, List.map_cons, List.map_cons, show trV A (Sum.inr (Sum.inr r)) = .ref (B + r) by simp [trV, va_rf, hA]]
  have hin : vp_in (Int32.ofInt i) n := i32_vin hi hi0 (by rw [← hn]; exact hi1)
  have hws : (wsO B A kA h).set r (B + r, .inl (kA kk, n, .inl (upd (fun j : Nat => Int32.ofInt (gG h r j)) (Int32.ofInt i).toNatClampNeg (Int32.ofInt z)))) = wsO B A kA (sG h r i z) := by
    refine wsO_set (h := h) (h' := sG h r i z) rfl hr cel_sG ?_
    rw [upd_sG hi hi0, cel_i hkk]
  have kk' : ∀ (H1 : Heap) (locs1 : List Loc), va_P D vwCl ((wsO B A kA h).set r (B + r, .inl (kA kk, n, .inl (upd (fun j : Nat => Int32.ofInt (gG h r j)) (Int32.ofInt i).toNatClampNeg (Int32.ofInt z))))) H1 → va_D (fun q => B ≤ q) ((wsO B A kA h).set r (B + r, .inl (kA kk, n, .inl (upd (fun j : Nat => Int32.ofInt (gG h r j)) (Int32.ofInt i).toNatClampNeg (Int32.ofInt z))))) → va_S (fun q => B ≤ q) s.heap H1 locs1 → W p l e R s m args below meth c H1 locs1 cells slots QQ (F0 m (pc + 1) ls (st'.map (trV A))) := by
    intro H1 locs1 h1 h2 h3
    rw [hws] at h1 h2
    exact hk lo st' (sG h r i z) H1 ls locs1 cells slots (fr.mem rfl h1 h2 h3 (MOk_sGi fr.1.2.2.2.2 hr hkk hz) (tl_ok (tl_ok (tl_ok fr.ok)))) q
  rcases hkk with rfl | rfl | rfl
  · exact va_iast hF.1 hF.2.1 hF.2.2.2.2.2.1 fr.1.1 fr.1.2.1 fr.2.1 r 0 he rfl hin hdg kk'
  · refine va_bast hF.1 hF.2.1 hF.2.2.2.2.2.1 fr.1.1 fr.1.2.1 fr.2.1 r 2 he rfl hin hdg ?_
    rw [i32_byte hsk]
    exact kk'
  · refine va_zast hF.1 hF.2.1 hF.2.2.2.2.2.1 fr.1.1 fr.1.2.1 fr.2.1 r 3 he rfl hin hdg ?_
    rw [i32_bool hsk]
    exact kk'
theorem s_iasI (hF : FxC p s m c args cc nL own Ts D kA A B len0 adK adV) (hdg : decode cc pc = .ok (.iastore, 1)) (hk : Sd p l e R s m args below meth c QQ B A kA D nL len0 tot0 (pc + 1) k) : Sd p l e R s m args below meth c QQ B A kA D nL len0 tot0 pc (o_iasI k) := by
  intro lo st h H ls locs cells slots fr q
  unfold o_iasI at q
  split at q
  · exact s_ias hF (kk := 100) (Or.inl rfl) hdg hk fr rfl q.1 trivial q.2
  · exact q.elim
theorem s_bas (hF : FxC p s m c args cc nL own Ts D kA A B len0 adK adV) {kk : Nat} (hkk : kk = 102 ∨ kk = 103) (hdg : decode cc pc = .ok (.bastore, 1)) (hk : Sd p l e R s m args below meth c QQ B A kA D nL len0 tot0 (pc + 1) k) : Sd p l e R s m args below meth c QQ B A kA D nL len0 tot0 pc (o_bas kk k) := by
  intro lo st h H ls locs cells slots fr q
  unfold o_bas at q
  split at q
  · refine s_ias hF (kk := kk) (Or.inr hkk) ?_ hk fr rfl q.1.1 q.1.2 q.2
    rw [if_neg (by omega)]
    exact hdg
  · exact q.elim
theorem s_las (hF : FxC p s m c args cc nL own Ts D kA A B len0 adK adV) (hdg : decode cc pc = .ok (.lastore, 1)) (hk : Sd p l e R s m args below meth c QQ B A kA D nL len0 tot0 (pc + 1) k) : Sd p l e R s m args below meth c QQ B A kA D nL len0 tot0 pc (o_las k) := by
  intro lo st h H ls locs cells slots fr q
  unfold o_las at q
  split at q
  · rename_i z i r st'
    obtain ⟨⟨hkd, hi0, hi1⟩, q⟩ := q
    obtain ⟨n, hr, hn⟩ := kd_some hkd (by omega)
    have hA : A r = some (B + r) := hF.2.2.2.2.2.2.2.1 r (fr.1.lt hr)
    have hz : inL z := hd_ok fr.ok
    have hi : inI i := hd_ok (tl_ok fr.ok)
    have he := wsO_at (B := B) (A := A) (kA := kA) hr
    rw [cel_l] at he
    rw [List.map_cons, List.map_cons, List.map_cons, show trV A (Sum.inr (Sum.inr r)) = .ref (B + r) by simp [trV, va_rf, hA]]
    have hin : vp_in (Int32.ofInt i) n := i32_vin hi hi0 (by rw [← hn]; exact hi1)
    have hws : (wsO B A kA h).set r (B + r, .inl (kA 101, n, .inr (.inl (vp_updL (fun j : Nat => Int64.ofInt (gG h r j)) (Int32.ofInt i).toNatClampNeg (Int64.ofInt z))))) = wsO B A kA (sG h r i z) := by
      refine wsO_set (h := h) (h' := sG h r i z) rfl hr cel_sG ?_
      rw [updL_sG hi hi0, cel_l]
    refine va_last hF.1 hF.2.1 hF.2.2.2.2.2.1 fr.1.1 fr.1.2.1 fr.2.1 r 1 he rfl hin hdg ?_
    intro H1 locs1 h1 h2 h3
    rw [hws] at h1 h2
    refine hk lo st' (sG h r i z) H1 ls locs1 cells slots (fr.mem rfl h1 h2 h3 (MOk_sG fr.1.2.2.2.2 hr (fun j _ => ?_)) (tl_ok (tl_ok (tl_ok fr.ok)))) q
    unfold rngK
    simpa [isL] using hz
  · exact q.elim
theorem s_aas (hF : FxC p s m c args cc nL own Ts D kA A B len0 adK adV) {kk ck : Nat} (hkk : (kk = 104 ∧ ck = 6) ∨ (kk = 105 ∧ ck = 7) ∨ (kk = 106 ∧ ck = 3)) (hdg : decode cc pc = .ok (.aastore, 1)) (hk : Sd p l e R s m args below meth c QQ B A kA D nL len0 tot0 (pc + 1) k) : Sd p l e R s m args below meth c QQ B A kA D nL len0 tot0 pc (o_aas kk ck k) := by
  intro lo st h H ls locs cells slots fr q
  unfold o_aas at q
  split at q
  · rename_i z i r st'
    obtain ⟨⟨⟨hkd, hi0, hi1⟩, hck⟩, q⟩ := q
    obtain ⟨n, hr, hn⟩ := kd_some hkd (by omega)
    obtain ⟨n2, hr2, -⟩ := kd_some hck (by omega)
    have hA : A r = some (B + r) := hF.2.2.2.2.2.2.2.1 r (fr.1.lt hr)
    have hA2 : A z = some (B + z) := hF.2.2.2.2.2.2.2.1 z (fr.1.lt hr2)
    have hi : inI i := hd_ok (tl_ok fr.ok)
    have he := wsO_at (B := B) (A := A) (kA := kA) hr
    have he2 := wsO_at (B := B) (A := A) (kA := kA) hr2
    rw [cel_q (by omega)] at he
    rw [cel_obj (by omega)] at he2
    rw [List.map_cons, List.map_cons, List.map_cons, show trV A (Sum.inr (Sum.inr r)) = .ref (B + r) by simp [trV, va_rf, hA], show trV A (Sum.inr (Sum.inr z)) = .ref (B + z) by simp [trV, va_rf, hA2]]
    have hin : vp_in (Int32.ofInt i) n := i32_vin hi hi0 (by rw [← hn]; exact hi1)
    have hws : (wsO B A kA h).set r (B + r, .inl (kA kk, n, .inr (.inr (.inr (.inr (va_up (fun j : Nat => A (gR h r j)) (Int32.ofInt i).toNatClampNeg (some (B + z)))))))) = wsO B A kA (sR h r i z) := by
      refine wsO_set (h := h) (h' := sR h r i z) rfl hr cel_sR ?_
      rw [updQ_sR hi hi0 hA2, cel_q (by omega)]
    have key : ∀ (H1 : Heap) (locs1 : List Loc), va_P D vwCl ((wsO B A kA h).set r (B + r, .inl (kA kk, n, .inr (.inr (.inr (.inr (va_up (fun j : Nat => A (gR h r j)) (Int32.ofInt i).toNatClampNeg (some (B + z))))))))) H1 → va_D (fun q => B ≤ q) ((wsO B A kA h).set r (B + r, .inl (kA kk, n, .inr (.inr (.inr (.inr (va_up (fun j : Nat => A (gR h r j)) (Int32.ofInt i).toNatClampNeg (some (B + z))))))))) → va_S (fun q => B ≤ q) s.heap H1 locs1 → W p l e R s m args below meth c H1 locs1 cells slots QQ (F0 m (pc + 1) ls (st'.map (trV A))) := by
      intro H1 locs1 h1 h2 h3
      rw [hws] at h1 h2
      exact hk lo st' (sR h r i z) H1 ls locs1 cells slots (fr.mem rfl h1 h2 h3 (fun r' q' hq' j => fr.1.2.2.2.2 r' q' hq' j) (tl_ok (tl_ok (tl_ok fr.ok)))) q
    rcases hkk with ⟨rfl, rfl⟩ | ⟨rfl, rfl⟩ | ⟨rfl, rfl⟩
    · exact va_astq hF.1 hF.2.1 hF.2.2.2.2.2.1 fr.1.1 fr.1.2.1 fr.2.1 r 4 z 6 (r := (RX6, TX6, 3)) he rfl he2 rfl hin hdg key
    · exact va_astq hF.1 hF.2.1 hF.2.2.2.2.2.1 fr.1.1 fr.1.2.1 fr.2.1 r 5 z 7 (r := (RX7, TX7, 20)) he rfl he2 rfl hin hdg key
    · exact va_astq hF.1 hF.2.1 hF.2.2.2.2.2.1 fr.1.1 fr.1.2.1 fr.2.1 r 6 z 3 (r := (RX3, TX3, 9)) he rfl he2 rfl hin hdg key
  · exact q.elim
theorem s_len (hF : FxC p s m c args cc nL own Ts D kA A B len0 adK adV) (hdg : decode cc pc = .ok (.arraylength, 1)) (hk : Sd p l e R s m args below meth c QQ B A kA D nL len0 tot0 (pc + 1) k) : Sd p l e R s m args below meth c QQ B A kA D nL len0 tot0 pc (o_len 101 k) := by
  intro lo st h H ls locs cells slots fr q
  unfold o_len at q
  split at q
  · rename_i r st'
    obtain ⟨hkd, q⟩ := q
    obtain ⟨n, hr, hn⟩ := kd_some hkd (by omega)
    have hA : A r = some (B + r) := hF.2.2.2.2.2.2.2.1 r (fr.1.lt hr)
    have he := wsO_at (B := B) (A := A) (kA := kA) hr
    rw [cel_l] at he
    rw [List.map_cons, show trV A (Sum.inr (Sum.inr r)) = .ref (B + r) by simp [trV, va_rf, hA]]
    have hsm : n < 100000 := by
      rcases fr.1.2.2.2.1 r _ hr with h1 | h1
      · exact absurd h1.1 (by simp)
      · exact h1.2.2
    exact va_alen hF.1 hF.2.1 hF.2.2.2.2.2.1 fr.1.1 r 1 he rfl (v := Int32.ofInt (ln h r)) (by rw [hn]; rfl) hdg (hk lo (vI (ln h r) :: st') h H ls locs cells slots (fr.st (cons_ok (by rw [hn]; exact ⟨by omega, by omega⟩) (tl_ok fr.ok))) q)
  · exact q.elim
end ARR
end
section
/-! making objects and arrays; Math.max and min, arraycopy, Object's constructor -/
section MAKE
variable {p : Program} {l : Launch} {e : Env} {R : Room} {s : State} {m : MethodId} {args : Array Value} {below : List Frame} {meth : Method} {c : Code} {QQ : State → Prop} {B : Nat} {A : Nat → Option Nat} {kA : Nat → ClassId} {D : va_G} {cc : ByteArray} {nL : Nat} {own : String} {len0 tot0 : Nat} {Ts : List Cond} {pc : Nat} {k : Blk} {J : Jmp} {adK adV : Nat → Nat}
theorem wsO_alc {h : Mem} {ck n : Nat} : wsO B A kA (alc h ck n) = wsO B A kA h ++ [(B + h.1.length, cel A kA (alc h ck n) h.1.length (ck, n))] := by
  unfold wsO
  show (h.1 ++ [(ck, n)]).mapIdx _ = _
  rw [List.mapIdx_concat]
  congr 1
  apply List.ext_getElem?
  intro i
  simp only [List.getElem?_mapIdx]
  cases hi : h.1[i]? with
  | none => rfl
  | some q =>
    have hlt : i < h.1.length := (List.getElem?_eq_some_iff.mp hi).1
    have hne : ¬ i = h.1.length := by omega
    simp only [Option.map_some]
    congr 2
    simp [cel, fvs, fvV, gG, gR, alc, hne]
/-- what making a cell leaves of the frame -/
theorem frc_alc (hF : FxC p s m c args cc nL own Ts D kA A B len0 adK adV) {lo : Lo} {st : List MV} {h : Mem} {H : Heap} {ls : Array Slot} {locs : List Loc} {cells slots : Nat} (fr : FrC R s nL B A kA D len0 tot0 lo st h H ls locs cells slots) {ck n : Nat} {H1 : Heap} {st' : List MV} (hz : H.size = B + h.1.length) (ho : ∀ q, q < H.size → H1[q]? = H[q]?) (hz1 : H1.size = H.size + 1) (hat : va_at D vwCl (B + h.1.length, cel A kA (alc h ck n) h.1.length (ck, n)) H1) (hsh : (ck < 11 ∧ n = (ftys.getD ck []).length) ∨ (100 ≤ ck ∧ ck ≤ 106 ∧ n < 100000)) (hsm : h.1.length + 1 < 900000) (hrm : cells + 1 ≤ R.cells ∧ slots + n ≤ R.slots) (hv : ∀ w ∈ st', vok w) :
    FrC R s nL B A kA D len0 tot0 lo st' (alc h ck n) H1 ls locs (cells + 1) (slots + n) := by
  have hP : va_P D vwCl (wsO B A kA (alc h ck n)) H1 := by
    rw [wsO_alc]
    refine (fr.1.1.kept (fun k x hx => ho x.1 ((fr.1.1 k x hx).lt))).app (fun k x hx => ?_)
    have hk : k < 1 := (List.getElem?_eq_some_iff.mp hx).1
    rw [show k = 0 by omega] at hx
    cases hx
    exact hat
  have hD : va_D (fun q => B ≤ q) (wsO B A kA (alc h ck n)) := by
    rw [wsO_alc]
    exact fr.1.2.1.push fr.1.1 hz.symm (Nat.le_add_right _ _)
  refine ⟨⟨hP, hD, ?_, ?_, ?_⟩, ?_, fr.2.2.1, ⟨fr.2.2.2.1.1, hrm⟩, fr.2.2.2.2.1, hv, ?_, ?_⟩
  · show (h.1 ++ [(ck, n)]).length < 900000
    simp; omega
  · intro r q hq
    have hq : (h.1 ++ [(ck, n)])[r]? = some q := hq
    by_cases hlt : r < h.1.length
    · rw [List.getElem?_append_left hlt] at hq
      exact fr.1.2.2.2.1 r q hq
    · rw [List.getElem?_append_right (by omega)] at hq
      have hr : r - h.1.length < 1 := (List.getElem?_eq_some_iff.mp hq).1
      rw [show r - h.1.length = 0 by omega] at hq
      cases hq
      exact hsh
  · intro r q hq j
    have hq : (h.1 ++ [(ck, n)])[r]? = some q := hq
    show rngK q.1 j (if r = h.1.length then 0 else h.2.1 r j)
    by_cases hlt : r < h.1.length
    · rw [List.getElem?_append_left hlt] at hq
      rw [if_neg (by omega)]
      exact fr.1.2.2.2.2 r q hq j
    · have hr : r < (h.1 ++ [(ck, n)]).length := (List.getElem?_eq_some_iff.mp hq).1
      rw [if_pos (by simp at hr; omega)]
      unfold rngK
      split <;> exact ⟨by omega, by omega⟩
  · refine ⟨Nat.le_trans fr.2.1.1 (by omega), fun x h1 h2 => ?_, fr.2.1.2.2⟩
    rw [ho x (Nat.lt_of_lt_of_le h1 fr.2.1.1)]
    exact fr.2.1.2.1 x h1 h2
  · show (h.1 ++ [(ck, n)]).length = _
    simp; have := fr.2.2.2.2.2.2.1; omega
  · show totS (h.1 ++ [(ck, n)]) = _
    have := fr.2.2.2.2.2.2.2
    simp [totS] at this ⊢
    omega
theorem ft_small : ∀ c, c < 11 → ∀ k, k < NN c → (ftys.getD c []).getD k 0 ≤ 3 := by decide +kernel
theorem fvs_def {h : Mem} (hn : A 999999 = none) {ck : Nat} (hc : ck < 11) : ∀ j, j < NN ck → defaultValue (tyT ck j) = vp_V (fvs A (alc h ck (NN ck)) h.1.length ck) j := by
  intro j hj
  have hlen := ft_len ck hc
  have hlt : j < (ftys.getD ck []).length := by omega
  have ht : (ftys.getD ck [])[j]? = some ((ftys.getD ck [])[j]) := List.getElem?_eq_getElem hlt
  have hcd := ft_code ck hc j hj
  have hsm := ft_small ck hc j hj
  rw [List.getD_eq_getElem?_getD, ht, Option.getD_some] at hcd hsm
  unfold vp_V
  rw [List.getD_eq_getElem?_getD, fvs_at ht, Option.getD_some]
  generalize (ftys.getD ck [])[j] = t at hcd hsm ⊢
  generalize tyT ck j = ty at hcd ⊢
  cases ty <;> simp only [tcode] at hcd <;> first | (exfalso; omega) | (subst hcd; simp [fvV, gG, gR, alc, defaultValue, hn, va_rf])
theorem s_new (hF : FxC p s m c args cc nL own Ts D kA A B len0 adK adV) {S1 : List (Nat × Nat)} {idx ck n : Nat} (hc : ck < 11) (hn : n = NN ck) (hRc : S1.length ≤ len0 + R.cells) (hRs : totS S1 ≤ tot0 + R.slots) (hw1 : Cond.classLink own idx (RR ck) ∈ Ts) (hw2 : Cond.instantiable (RR ck) (NN ck) ∈ Ts) (hw3 : Cond.initialized (RR ck) ∈ Ts) (hlay : ∀ w ∈ u_ws (RR ck) (TT ck) (NN ck), w ∈ Ts)
    (hdg : decode cc pc = .ok (.new idx, 3)) (hk : Sd p l e R s m args below meth c QQ B A kA D nL len0 tot0 (pc + 3) k) : Sd p l e R s m args below meth c QQ B A kA D nL len0 tot0 pc (o_new S1 ck n k) := by
  intro lo st h H ls locs cells slots fr q
  subst hn
  obtain ⟨⟨q1, q2, q3⟩, q⟩ := q
  refine W_size hF fr (fun hz => ?_)
  have hts := hF.2.2.2.2.1
  have hKn := hF.2.2.2.2.2.1.1 ck _ (vw_at ck hc)
  have e1 := fr.2.2.2.2.2.2.1
  have e2 := fr.2.2.2.2.2.2.2
  refine W.newcK hF.1 hF.2.1 hF.2.2.2.1 (hts _ hw1) (hts _ hw2) (hts _ hw3) rfl hdg (by omega) (by omega) hKn.2.1 rfl (fun H1 kC hkC e1 z1 o1 => ?_)
  have hA : A h.1.length = some (B + h.1.length) := hF.2.2.2.2.2.2.2.1 _ fr.1.2.2.1
  have hw := hk lo (vR h.1.length :: st) (alc h ck (NN ck)) H1 ls locs (cells + 1) (slots + NN ck) (frc_alc hF fr hz o1 z1 ?_ (Or.inl ⟨hc, (ft_len ck hc).symm⟩) (by omega) ⟨by omega, by omega⟩ (cons_ok trivial fr.ok)) q
  · rw [List.map_cons, show trV A (vR h.1.length) = .ref H.size by simp [trV, va_rf, hA, hz]] at hw
    exact hw
  · rw [cel_obj (by omega), ← hz]
    exact ⟨_, vw_at ck hc, (u_born (tyT ck) hts hlay hKn hkC e1 (vw_ty ck hc)).to (fvs_def hF.2.2.2.2.2.2.2.2.1 hc)⟩
def kTy : Nat → FieldType
  | 100 => .int
  | 101 => .long
  | 102 => .byte
  | _ => .boolean
theorem s_newa (hF : FxC p s m c args cc nL own Ts D kA A B len0 adK adV) {S1 : List (Nat × Nat)} {kk : Nat} {at' : ArrayType} (hkk : (kk = 100 ∧ at' = .int) ∨ (kk = 101 ∧ at' = .long) ∨ (kk = 102 ∧ at' = .byte) ∨ (kk = 103 ∧ at' = .boolean)) (hRc : S1.length ≤ len0 + R.cells) (hRs : totS S1 ≤ tot0 + R.slots) (hw : Cond.arrayClass (kTy kk) ∈ Ts)
    (hdg : decode cc pc = .ok (.newarray at', 2)) (hk : Sd p l e R s m args below meth c QQ B A kA D nL len0 tot0 (pc + 2) k) : Sd p l e R s m args below meth c QQ B A kA D nL len0 tot0 pc (o_nea S1 kk k) := by
  intro lo st h H ls locs cells slots fr q
  unfold o_nea at q
  split at q
  · rename_i z st'
    obtain ⟨⟨hz0, hz1, q1, q2, q3⟩, q⟩ := q
    refine W_size hF fr (fun hz => ?_)
    have hzi : inI z := hd_ok fr.ok
    have hty : newarray.typeOf at' = kTy kk := by rcases hkk with ⟨rfl, rfl⟩ | ⟨rfl, rfl⟩ | ⟨rfl, rfl⟩ | ⟨rfl, rfl⟩ <;> rfl
    have e1 := fr.2.2.2.2.2.2.1
    have e2 := fr.2.2.2.2.2.2.2
    have hA : A h.1.length = some (B + h.1.length) := hF.2.2.2.2.2.2.2.1 _ fr.1.2.2.1
    refine va_newaK hF.1 hF.2.1 (atype := at') (by rw [hty]; exact hF.2.2.2.2.1 _ hw) rfl hdg (n := Int32.ofInt z) (N := z.toNat) rfl (fun q => by have := (i32_lt hzi inI_0).mp (i32_0 ▸ q); omega) (i32_clamp hzi hz0) ?_ (by omega) (by omega) rfl (fun H1 cA e3 z1 o1 hAr hNm => ?_)
    · have : componentBytes (newarray.typeOf at') ≤ 8 := by rcases hkk with ⟨rfl, rfl⟩ | ⟨rfl, rfl⟩ | ⟨rfl, rfl⟩ | ⟨rfl, rfl⟩ <;> decide
      have h8 : z.toNat * componentBytes (newarray.typeOf at') ≤ z.toNat * 8 := Nat.mul_le_mul_left _ this
      omega
    have hcA : cA = kA kk := by
      rw [hty] at hNm
      have hK := hF.2.2.2.2.2.1.2
      rcases hkk with ⟨rfl, rfl⟩ | ⟨rfl, rfl⟩ | ⟨rfl, rfl⟩ | ⟨rfl, rfl⟩
      · exact Option.some.inj (hNm.symm.trans (hK 0 _ rfl).2)
      · exact Option.some.inj (hNm.symm.trans (hK 1 _ rfl).2)
      · exact Option.some.inj (hNm.symm.trans (hK 2 _ rfl).2)
      · exact Option.some.inj (hNm.symm.trans (hK 3 _ rfl).2)
    have hw' := hk lo (vR h.1.length :: st') (alc h kk z.toNat) H1 ls locs (cells + 1) (slots + z.toNat) (frc_alc hF fr hz o1 z1 ?_ (Or.inr ⟨by omega, by omega, by omega⟩) (by omega) ⟨by omega, by omega⟩ (cons_ok trivial (tl_ok fr.ok))) q
    · rw [List.map_cons, show trV A (vR h.1.length) = .ref H.size by simp [trV, va_rf, hA, hz]] at hw'
      exact hw'
    · subst hcA
      rw [← hz]
      rcases hkk with ⟨rfl, rfl⟩ | ⟨rfl, rfl⟩ | ⟨rfl, rfl⟩ | ⟨rfl, rfl⟩
      · rw [cel_i (Or.inl rfl)]
        show H1[H.size]? = some (vp_cell _ _)
        rw [e3, vp_cell_i]
        simp [gG, alc, defaultValue, newarray.typeOf]
      · rw [cel_l]
        show H1[H.size]? = some (vp_cell _ _)
        rw [e3, vp_cell_l]
        simp [gG, alc, defaultValue, newarray.typeOf]
      · rw [cel_i (Or.inr (Or.inl rfl))]
        show H1[H.size]? = some (vp_cell _ _)
        rw [e3, vp_cell_i]
        simp [gG, alc, defaultValue, newarray.typeOf]
      · rw [cel_i (Or.inr (Or.inr rfl))]
        show H1[H.size]? = some (vp_cell _ _)
        rw [e3, vp_cell_i]
        simp [gG, alc, defaultValue, newarray.typeOf]
  · exact q.elim
theorem s_anew (hF : FxC p s m c args cc nL own Ts D kA A B len0 adK adV) {S1 : List (Nat × Nat)} {idx kk : Nat} (hkk : kk = 104 ∨ kk = 105 ∨ kk = 106) (hRc : S1.length ≤ len0 + R.cells) (hRs : totS S1 ≤ tot0 + R.slots) (hw : Cond.classLink own idx (kC kk) ∈ Ts)
    (hdg : decode cc pc = .ok (.anewarray idx, 3)) (hk : Sd p l e R s m args below meth c QQ B A kA D nL len0 tot0 (pc + 3) k) : Sd p l e R s m args below meth c QQ B A kA D nL len0 tot0 pc (o_nea S1 kk k) := by
  intro lo st h H ls locs cells slots fr q
  unfold o_nea at q
  split at q
  · rename_i z st'
    obtain ⟨⟨hz0, hz1, q1, q2, q3⟩, q⟩ := q
    refine W_size hF fr (fun hz => ?_)
    have hzi : inI z := hd_ok fr.ok
    have e1 := fr.2.2.2.2.2.2.1
    have e2 := fr.2.2.2.2.2.2.2
    have hcl := i32_clamp hzi hz0
    have hA : A h.1.length = some (B + h.1.length) := hF.2.2.2.2.2.2.2.1 _ fr.1.2.2.1
    have hX := hF.2.2.2.2.2.2.2.2.2.2.2
    have hov : va_AO (kC kk) s := by
      rcases hkk with rfl | rfl | rfl
      · exact hX.1
      · exact hX.2.1
      · exact hX.2.2.1
    refine W.anew hF.1 hF.2.1 hF.2.2.2.1 (hF.2.2.2.2.1 _ hw) (va_AO.use hov) rfl hdg (n := Int32.ofInt z) rfl (fun q => by have := (i32_lt hzi inI_0).mp (i32_0 ▸ q); omega) (by rw [hcl]; omega) (by omega) (by rw [hcl]; omega) (fun cA kAc comp f1 f2 f3 f4 => ?_)
    rw [hcl]
    generalize hH1 : H.push ({ cls := cA, slots := Array.replicate z.toNat .null, vm := .none } : Cell) = H1
    have z1 : H1.size = H.size + 1 := by rw [← hH1, Array.size_push]
    have o1 : ∀ q : Nat, q < H.size → H1[q]? = H[q]? := fun q hq => by rw [← hH1, Array.getElem?_push, if_neg (Nat.ne_of_lt hq)]
    have e3 : H1[H.size]? = some (arrV cA z.toNat (fun _ => .null)) := by rw [← hH1, Array.getElem?_push_size, ← arrV_new]
    have hcA : cA = kA kk := by
      have hK := hF.2.2.2.2.2.1.2
      rcases hkk with rfl | rfl | rfl
      · obtain ⟨_, _, _, _, _, g⟩ := (hK 4 _ rfl).2
        exact Option.some.inj (f1.symm.trans g)
      · obtain ⟨_, _, _, _, _, g⟩ := (hK 5 _ rfl).2
        exact Option.some.inj (f1.symm.trans g)
      · obtain ⟨_, _, _, _, _, g⟩ := (hK 6 _ rfl).2
        exact Option.some.inj (f1.symm.trans g)
    have hw' := hk lo (vR h.1.length :: st') (alc h kk z.toNat) H1 ls locs (cells + 1) (slots + z.toNat) (frc_alc hF fr hz o1 z1 ?_ (Or.inr ⟨by omega, by omega, by omega⟩) (by omega) ⟨by omega, by omega⟩ (cons_ok trivial (tl_ok fr.ok))) q
    · rw [List.map_cons, show trV A (vR h.1.length) = .ref H.size by simp [trV, va_rf, hA, hz]] at hw'
      exact hw'
    · subst hcA
      rw [← hz, cel_q (by omega)]
      show H1[H.size]? = some (vp_cell _ _)
      rw [e3, vp_cell_q]
      simp [gR, alc, hF.2.2.2.2.2.2.2.2.1, va_rf]
  · exact q.elim
theorem cat_le {st : List MV} : ((st.map (trV A)).map fun v => v.category).sum ≤ 2 * st.length := by
  induction st with
  | nil => simp
  | cons v st ih =>
    have : (trV A v).category ≤ 2 := by rcases lv_cat (trV A v) with h | h <;> omega
    simp only [List.map_cons, List.sum_cons, List.length_cons]
    omega
theorem s_oin (hF : FxC p s m c args cc nL own Ts D kA A B len0 adK adV) (hRf : 1 ≤ R.frames) (hRl : 100 ≤ R.locals) {idx : Nat} (hw1 : Cond.methodLink own idx Lib.objectInit ∈ Ts) (hw2 : Cond.instanceMethod Lib.objectInit ∈ Ts) (hw3 : Cond.code Lib.objectInit ⟨#[0xb1]⟩ 1 none ∈ Ts) (hdg : decode cc pc = .ok (.invokespecial idx, 3)) (hk : Sd p l e R s m args below meth c QQ B A kA D nL len0 tot0 (pc + 3) k) : Sd p l e R s m args below meth c QQ B A kA D nL len0 tot0 pc (o_oin k) := by
  intro lo st h H ls locs cells slots fr q
  unfold o_oin at q
  split at q
  · rename_i r st'
    obtain ⟨⟨hkd, hl⟩, q⟩ := q
    obtain ⟨n, hr, -⟩ := kd_some (k := kd h r) rfl (by omega)
    have hA : A r = some (B + r) := hF.2.2.2.2.2.2.2.1 r (fr.1.lt hr)
    have hts := hF.2.2.2.2.1
    have hc := cat_le (A := A) (st := st')
    rw [List.map_cons, show trV A (Sum.inr (Sum.inr r)) = .ref (B + r) by simp [trV, va_rf, hA]]
    refine W.objInit hF.1 hF.2.1 hF.2.2.2.1 (hts _ hw1) (hts _ hw2) (hts _ hw3) rfl (fr.2.2.1.1.trans hF.2.2.1.symm) rfl hdg hRf (by show 2 * 0 + _ + 12 ≤ _; omega) (hk lo st' h H ls locs cells slots (fr.st (tl_ok fr.ok)) q)
  · exact q.elim
theorem i32_min {a b : Int} (ha : inI a) (hb : inI b) : (if Int32.ofInt b < Int32.ofInt a then Int32.ofInt b else Int32.ofInt a) = Int32.ofInt (min a b) := by
  by_cases h : b < a
  · rw [if_pos ((i32_lt hb ha).mpr h), show min a b = b by omega]
  · rw [if_neg (fun q => h ((i32_lt hb ha).mp q)), show min a b = a by omega]
theorem s_max (hF : FxC p s m c args cc nL own Ts D kA A B len0 adK adV) (hRf : 1 ≤ R.frames) (hRl : 100 ≤ R.locals) (hRc : ∀ lo st h H ls locs cells slots, FrC R s nL B A kA D len0 tot0 lo st h H ls locs cells slots → cells ≤ R.cells ∧ slots ≤ R.slots) {idx : Nat} (hw1 : Cond.methodLink own idx Lib.Math.max.name ∈ Ts) (hw2 : Cond.static Lib.Math.max.name ∈ Ts) (hw3 : Cond.initialized "java/lang/Math" ∈ Ts) (hw4 : Cond.code Lib.Math.max.name Lib.Math.max.code 2 (some .int) ∈ Ts) (hdg : decode cc pc = .ok (.invokestatic idx, 3)) (hk : Sd p l e R s m args below meth c QQ B A kA D nL len0 tot0 (pc + 3) k) : Sd p l e R s m args below meth c QQ B A kA D nL len0 tot0 pc (o_mx max k) := by
  intro lo st h H ls locs cells slots fr q
  unfold o_mx at q
  split at q
  · rename_i b a st'
    obtain ⟨hl, q⟩ := q
    have hb : inI b := hd_ok fr.ok
    have ha : inI a := hd_ok (tl_ok fr.ok)
    have hts := hF.2.2.2.2.1
    have hc := cat_le (A := A) (st := st')
    have hrc := hRc _ _ _ _ _ _ _ _ fr
    refine va_mmax hF.1 hF.2.1 (hF.2.2.1.trans fr.2.2.1.1.symm) hF.2.2.2.1 (hts _ hw1) (hts _ hw2) (hts _ hw3) (hts _ hw4) hRf (by omega) hrc.1 hrc.2 hdg ?_
    rw [i32_max ha hb]
    exact hk lo (vI (max a b) :: st') h H ls locs cells slots (fr.st (cons_ok (by have := ha.1; have := ha.2; have := hb.1; have := hb.2; exact ⟨by omega, by omega⟩) (tl_ok (tl_ok fr.ok)))) q
  · exact q.elim
theorem s_min (hF : FxC p s m c args cc nL own Ts D kA A B len0 adK adV) (hRf : 1 ≤ R.frames) (hRl : 100 ≤ R.locals) (hRc : ∀ lo st h H ls locs cells slots, FrC R s nL B A kA D len0 tot0 lo st h H ls locs cells slots → cells ≤ R.cells ∧ slots ≤ R.slots) {idx : Nat} (hw1 : Cond.methodLink own idx Lib.Math.min.name ∈ Ts) (hw2 : Cond.static Lib.Math.min.name ∈ Ts) (hw3 : Cond.initialized "java/lang/Math" ∈ Ts) (hw4 : Cond.code Lib.Math.min.name Lib.Math.min.code 2 (some .int) ∈ Ts) (hdg : decode cc pc = .ok (.invokestatic idx, 3)) (hk : Sd p l e R s m args below meth c QQ B A kA D nL len0 tot0 (pc + 3) k) : Sd p l e R s m args below meth c QQ B A kA D nL len0 tot0 pc (o_mx min k) := by
  intro lo st h H ls locs cells slots fr q
  unfold o_mx at q
  split at q
  · rename_i b a st'
    obtain ⟨hl, q⟩ := q
    have hb : inI b := hd_ok fr.ok
    have ha : inI a := hd_ok (tl_ok fr.ok)
    have hts := hF.2.2.2.2.1
    have hc := cat_le (A := A) (st := st')
    have hrc := hRc _ _ _ _ _ _ _ _ fr
    refine va_mmin hF.1 hF.2.1 (hF.2.2.1.trans fr.2.2.1.1.symm) hF.2.2.2.1 (hts _ hw1) (hts _ hw2) (hts _ hw3) (hts _ hw4) hRf (by omega) hrc.1 hrc.2 hdg ?_
    rw [i32_min ha hb]
    exact hk lo (vI (min a b) :: st') h H ls locs cells slots (fr.st (cons_ok (by have := ha.1; have := ha.2; have := hb.1; have := hb.2; exact ⟨by omega, by omega⟩) (tl_ok (tl_ok fr.ok)))) q
  · exact q.elim
end MAKE
end
section
/-! calls, by the callee's contract; arraycopy; the script; the ends -/
def wsM (AW : List Cond) (y : Nat) : List Cond := Cond.code (mi y).1 (mi y).2.1 (mi y).2.2.1 (mi y).2.2.2.1 :: AW
def rmM (d y : Nat) : Room := { frames := d, cells := (growM y).length, slots := totS (growM y), locals := 100 * d }
def vokO (r : Option MV) : Prop := ∀ v, r = some v → vok v
def PcM (B : Nat) (A : Nat → Option Nat) (kA : Nat → ClassId) (D : va_G) (adK adV : Nat → Nat) (as : List MV) (h : Mem) : Array Value → State → Prop := fun a U =>
  a = (as.map (trV A)).toArray ∧ U.heap.size = B + h.1.length ∧ Wd B A kA D (fun q => B ≤ q) h U.heap ∧ va_K D vwCl (tys7 kA) U ∧ Xk adK adV B U
def QcM (B : Nat) (A : Nat → Option Nat) (kA : Nat → ClassId) (D : va_G) (h : Mem) (g : List (Nat × Nat)) (Q : RetP) : Array Value → State → Outcome → State → Prop := fun _ st o t =>
  ∃ r h', o = .returned (r.map (trV A)) ∧ Q r h' ∧ vokO r ∧ h'.1 = h.1 ++ g ∧ Wd B A kA D (fun q => B ≤ q) h' t.heap ∧ st.heap.size ≤ t.heap.size ∧ ∀ q : Nat, q < B → t.heap[q]? = st.heap[q]?
/-- a method's contract, by the model's run of it -/
def MetM (l : Launch) (AW : List Cond) (B : Nat) (A : Nat → Option Nat) (kA : Nat → ClassId) (D : va_G) (adK adV : Nat → Nat) (d y : Nat) (as : List MV) (h : Mem) (Q : RetP) : Prop :=
  Met l (mi y).1 (wsM AW y) (rmM d y) (PcM B A kA D adK adV as h) (QcM B A kA D h (growM y) Q) (growM y).length (totS (growM y)) (fun q => B ≤ q)
section CALLS
variable {p : Program} {l : Launch} {e : Env} {R : Room} {s : State} {m : MethodId} {args : Array Value} {below : List Frame} {meth : Method} {c : Code} {QQ : State → Prop} {B : Nat} {A : Nat → Option Nat} {kA : Nat → ClassId} {D : va_G} {cc : ByteArray} {nL : Nat} {own : String} {len0 tot0 : Nat} {Ts : List Cond} {pc : Nat} {k : Blk} {J : Jmp} {adK adV : Nat → Nat}
theorem Xk.go {U : State} {H : Heap} (hW : s.WarmedH U.vm) (hU : U.heap = H) (hB : B ≤ s.heap.size) (ho : ∀ q : Nat, q < s.heap.size → ¬ B ≤ q → H[q]? = s.heap[q]?) (h : Xk adK adV B s) : Xk adK adV B U := by
  obtain ⟨a1, a2, a3, n1, n2, n3, r1, r2, sS, z1, z2⟩ := h
  refine ⟨a1.moved hW.alike, a2.moved hW.alike, a3.moved hW.alike, va_Nw.warmM hW n1, va_Nw.warmM hW n2, va_Nw.warmM hW n3, r1.warm hW, r2.warm hW, (sS.moved hW.alike).kept ?_, (z1.moved hW.alike).kept ?_, (z2.moved hW.alike).kept ?_⟩ <;> (intro a ha hn; rw [hU]; exact ho a ha hn)
theorem PcM_blind {as : List MV} {h : Mem} : FrameBlind (PcM B A kA D adK adV as h) := by
  intro a U g mk ⟨q1, q2, q3, q4, q5⟩
  refine ⟨q1, q2, q3, va_K.moved (u := U) (U := U.calling g mk a) (Vm.Alike.refl U.vm) q4, ?_⟩
  obtain ⟨a1, a2, a3, n1, n2, n3, r1, r2, sS, z1, z2⟩ := q5
  have hv : (U.calling g mk a).vm = U.vm := rfl
  exact ⟨a1.moved (u := U) (U := U.calling g mk a) (Vm.Alike.refl U.vm), a2.moved (u := U) (U := U.calling g mk a) (Vm.Alike.refl U.vm), a3.moved (u := U) (U := U.calling g mk a) (Vm.Alike.refl U.vm), va_Nw.same rfl hv.symm n1, va_Nw.same rfl hv.symm n2, va_Nw.same rfl hv.symm n3, vk_R.same hv r1, vk_R.same hv r2, sS.moved (u := U) (U := U.calling g mk a) (Vm.Alike.refl U.vm), z1.moved (u := U) (U := U.calling g mk a) (Vm.Alike.refl U.vm), z2.moved (u := U) (U := U.calling g mk a) (Vm.Alike.refl U.vm)⟩
theorem PcM_here (hF : FxC p s m c args cc nL own Ts D kA A B len0 adK adV) {lo : Lo} {st : List MV} {h : Mem} {H : Heap} {ls : Array Slot} {locs : List Loc} {cells slots : Nat} (fr : FrC R s nL B A kA D len0 tot0 lo st h H ls locs cells slots) (hz : H.size = B + h.1.length) {as : List MV} : ∀ U : State, U.heap = H → s.WarmedH U.vm → PcM B A kA D adK adV as h (as.map (trV A)).toArray U := by
  intro U hU hW
  refine ⟨rfl, by rw [hU]; exact hz, by rw [hU]; exact fr.1, va_K.moved hW.alike hF.2.2.2.2.2.1, Xk.go hW hU (by rw [hF.2.2.2.2.2.2.1]; omega) (fun q h1 h2 => fr.2.1.2.1 q h1 h2) hF.2.2.2.2.2.2.2.2.2.2.2⟩
/-- what a call that came back leaves of the frame -/
theorem call_core (hF : FxC p s m c args cc nL own Ts D kA A B len0 adK adV) {lo : Lo} {st : List MV} {h : Mem} {H : Heap} {ls : Array Slot} {locs : List Loc} {cells slots : Nat} (fr : FrC R s nL B A kA D len0 tot0 lo st h H ls locs cells slots) {y n : Nat} {g : List (Nat × Nat)} {Q' : RetP} {av : Array Value} {stk : List Value} (hr : va_Run p l e R s m args below meth c H locs cells slots g.length (totS g) (F0 m pc ls stk) ((st.drop n).map (trV A)) (QcM B A kA D h g Q' av) (fun q => B ≤ q))
    (hrm : cells + g.length ≤ R.cells ∧ slots + totS g ≤ R.slots) (hQ : ∀ r h', Q' r h' → k lo (psh r (st.drop n)) h') (hk : Sd p l e R s m args below meth c QQ B A kA D nL len0 tot0 (pc + 3) k) : W p l e R s m args below meth c H locs cells slots QQ (F0 m pc ls stk) := by
  intro T hT X
  obtain ⟨v, st₀, t, T', L, h0, X', hL, e1, -, ⟨r, h', ho, hq, hv, hs, hw, hz, hu⟩, go⟩ := hr T hT X
  have ev : v = r.map (trV A) := by cases ho; rfl
  subst ev
  have hfr : FrC R s nL B A kA D len0 tot0 lo (psh r (st.drop n)) h' t.heap ls (locs ++ L) (cells + g.length) (slots + totS g) := by
    refine ⟨hw, ⟨?_, fun q h1 h2 => ?_, fun x hx => ?_⟩, fr.2.2.1, ⟨fr.2.2.2.1.1, hrm⟩, fr.2.2.2.2.1, ?_, ?_, ?_⟩
    · exact Nat.le_trans fr.2.1.1 (by rw [h0] at hz; exact hz)
    · rw [hu q (by omega), h0]
      exact fr.2.1.2.1 q h1 h2
    · rcases List.mem_append.mp hx with q | q
      · exact fr.2.1.2.2 x q
      · exact hL x q
    · intro w hw'
      unfold psh at hw'
      split at hw'
      · rename_i v'
        rcases List.mem_cons.mp hw' with rfl | q
        · exact hv _ rfl
        · exact fr.ok w (List.mem_of_mem_drop q)
      · exact fr.ok w (List.mem_of_mem_drop hw')
    · rw [hs, List.length_append, fr.2.2.2.2.2.2.1]; omega
    · rw [hs]
      have := fr.2.2.2.2.2.2.2
      simp only [totS, List.map_append, List.sum_append] at this ⊢
      omega
  obtain ⟨t2, a1, b1⟩ := hk lo (psh r (st.drop n)) h' t.heap ls (locs ++ L) (cells + g.length) (slots + totS g) hfr (hQ r h' hq) T' e1 X'
  refine ⟨t2, go t2 ?_, b1⟩
  have : (psh r (st.drop n)).map (trV A) = (r.map (trV A)).toList ++ (st.drop n).map (trV A) := by
    unfold psh
    cases r <;> rfl
  rw [this] at a1
  exact a1
theorem good_M {AW : List Cond} {y : Nat} (hAT : ∀ w ∈ AW, w ∈ Ts) (hG : ∀ w ∈ AW, goodWord w = true) (hcode : Cond.code (mi y).1 (mi y).2.1 (mi y).2.2.1 (mi y).2.2.2.1 ∈ AW) : GoodIn Ts (wsM AW y) := by
  intro w hw
  have hA : w ∈ AW := (List.mem_cons.mp hw).elim (fun e => e ▸ hcode) id
  exact ⟨hAT w hA, good_of_word (hG w hA)⟩
theorem callB_M (hF : FxC p s m c args cc nL own Ts D kA A B len0 adK adV) {AW : List Cond} {d y n idx : Nat} (hAT : ∀ w ∈ AW, w ∈ Ts) (hG : ∀ w ∈ AW, goodWord w = true) (hcode : Cond.code (mi y).1 (mi y).2.1 (mi y).2.2.1 (mi y).2.2.2.1 ∈ AW) (hini : Cond.initialized (mi y).1.cls ∈ AW) (hmh : (mi y).1.cls ≠ "java/lang/invoke/MethodHandle") (hvh : (mi y).1.cls ≠ "java/lang/invoke/VarHandle") (hRf : d + 1 ≤ R.frames) (hRl : 100 * (d + 1) ≤ R.locals) (hmx : (mi y).2.2.1 ≤ 80) (hpd : (parseMethodDescriptor (mi y).1.desc).map (fun d => d.parameters.length) = some n) (hml : Cond.methodLink own idx (mi y).1 ∈ AW) :
    CallB R s args own idx (mi y).1 (mi y).2.1 (mi y).2.2.1 (mi y).2.2.2.1 (wsM AW y) (rmM d y) (growM y).length (totS (growM y)) n :=
  callB_of n hF.2.2.2.2.1 (good_M hAT hG hcode) rfl rfl rfl (hF.2.2.2.2.1 _ (hAT _ hini)) (hF.2.2.2.2.1 _ (hAT _ hml)) ⟨hmh, hvh, hpd⟩ ⟨hRf, by show 8 + ((mi y).2.2.1 + 11) + 100 * d ≤ R.locals; omega⟩
theorem stk_eq {st : List MV} (n : Nat) : st.map (trV A) = (((st.take n).reverse).map (trV A)).reverse ++ (st.drop n).map (trV A) := by
  rw [← List.map_reverse, List.reverse_reverse, ← List.map_append, List.take_append_drop]
theorem s_callS (hF : FxC p s m c args cc nL own Ts D kA A B len0 adK adV) {C : Cal} {AW : List Cond} {d y n idx : Nat} (hAT : ∀ w ∈ AW, w ∈ Ts) (hG : ∀ w ∈ AW, goodWord w = true) (hcode : Cond.code (mi y).1 (mi y).2.1 (mi y).2.2.1 (mi y).2.2.2.1 ∈ AW) (hini : Cond.initialized (mi y).1.cls ∈ AW) (hmh : (mi y).1.cls ≠ "java/lang/invoke/MethodHandle") (hvh : (mi y).1.cls ≠ "java/lang/invoke/VarHandle") (hRf : d + 1 ≤ R.frames) (hRl : 100 * (d + 1) ≤ R.locals) (hmx : (mi y).2.2.1 ≤ 80) (hg0 : growM y = []) (hRc : ∀ lo st h H ls locs cells slots, FrC R s nL B A kA D len0 tot0 lo st h H ls locs cells slots → cells ≤ R.cells ∧ slots ≤ R.slots)
    (hpd : (parseMethodDescriptor (mi y).1.desc).map (fun d => d.parameters.length) = some n) (hml : Cond.methodLink own idx (mi y).1 ∈ AW) (hst : Cond.static (mi y).1 ∈ AW)
    (hC : ∀ as h Q, (∀ v ∈ as, vok v) → C y as h Q → MetM l AW B A kA D adK adV d y as h Q) (hdg : decode cc pc = .ok (.invokestatic idx, 3)) (hk : Sd p l e R s m args below meth c QQ B A kA D nL len0 tot0 (pc + 3) k) : Sd p l e R s m args below meth c QQ B A kA D nL len0 tot0 pc (o_call C y n k) := by
  intro lo st h H ls locs cells slots fr q
  obtain ⟨q1, q2, q3⟩ := q
  refine W_size hF fr (fun hz => ?_)
  have hrc := hRc _ _ _ _ _ _ _ _ fr
  have hM := hC _ _ _ (fun v hv => fr.ok v (List.mem_of_mem_take (List.mem_reverse.mp hv))) q3
  have hcat := cat_le (A := A) (st := st.drop n)
  rw [stk_eq (A := A) (st := st) n]
  refine call_core hF fr (y := y) (n := n) (g := growM y) (va_runS (As := ((st.take n).reverse).map (trV A)) (rest := (st.drop n).map (trV A)) ⟨hF.1, hF.2.1, hF.2.2.1, hF.2.2.2.1, hF.2.2.2.2.1⟩ hM ⟨callB_M hF hAT hG hcode hini hmh hvh hRf hRl hmx hpd hml, hF.2.2.2.2.1 _ (hAT _ hst)⟩ ⟨PcM_blind, PcM_here hF fr hz⟩ rfl (by simp; omega) fr.2.2.1.1 rfl (lv_room (by omega)) hdg (by rw [hg0]; exact hrc)) (by rw [hg0]; exact hrc) (fun r h' q => q) hk
theorem s_callSN (hF : FxC p s m c args cc nL own Ts D kA A B len0 adK adV) {C : Cal} {AW : List Cond} {d y n idx : Nat} {host : String} (hAT : ∀ w ∈ AW, w ∈ Ts) (hG : ∀ w ∈ AW, goodWord w = true) (hcode : Cond.code (mi y).1 (mi y).2.1 (mi y).2.2.1 (mi y).2.2.2.1 ∈ AW) (hini : Cond.initialized (mi y).1.cls ∈ AW) (hmh : (mi y).1.cls ≠ "java/lang/invoke/MethodHandle") (hvh : (mi y).1.cls ≠ "java/lang/invoke/VarHandle") (hRf : d + 1 ≤ R.frames) (hRl : 100 * (d + 1) ≤ R.locals) (hmx : (mi y).2.2.1 ≤ 80) (hg0 : growM y = []) (hRc : ∀ lo st h H ls locs cells slots, FrC R s nL B A kA D len0 tot0 lo st h H ls locs cells slots → cells ≤ R.cells ∧ slots ≤ R.slots)
    (hpd : (parseMethodDescriptor (mi y).1.desc).map (fun d => d.parameters.length) = some n) (hml : va_Nw (.methodLinkNest own idx (mi y).1 host) s) (hst : Cond.static (mi y).1 ∈ AW)
    (hC : ∀ as h Q, (∀ v ∈ as, vok v) → C y as h Q → MetM l AW B A kA D adK adV d y as h Q) (hdg : decode cc pc = .ok (.invokestatic idx, 3)) (hk : Sd p l e R s m args below meth c QQ B A kA D nL len0 tot0 (pc + 3) k) : Sd p l e R s m args below meth c QQ B A kA D nL len0 tot0 pc (o_call C y n k) := by
  intro lo st h H ls locs cells slots fr q
  obtain ⟨q1, q2, q3⟩ := q
  refine W_size hF fr (fun hz => ?_)
  have hrc := hRc _ _ _ _ _ _ _ _ fr
  have hM := hC _ _ _ (fun v hv => fr.ok v (List.mem_of_mem_take (List.mem_reverse.mp hv))) q3
  have hcat := cat_le (A := A) (st := st.drop n)
  rw [stk_eq (A := A) (st := st) n]
  refine call_core hF fr (y := y) (n := n) (g := growM y) (va_runSN (As := ((st.take n).reverse).map (trV A)) (rest := (st.drop n).map (trV A)) ⟨hF.1, hF.2.1, hF.2.2.1, hF.2.2.2.1, hF.2.2.2.2.1⟩ hM ⟨va_cnB n hF.2.2.2.2.1 (good_M hAT hG hcode) rfl rfl rfl hml (hF.2.2.2.2.1 _ (hAT _ hini)) ⟨hmh, hvh, hpd⟩ ⟨hRf, by show 8 + ((mi y).2.2.1 + 11) + 100 * d ≤ R.locals; omega⟩, hF.2.2.2.2.1 _ (hAT _ hst), trivial⟩ ⟨PcM_blind, PcM_here hF fr hz⟩ rfl (by simp; omega) fr.2.2.1.1 rfl (lv_room (by omega)) hdg (by rw [hg0]; exact hrc)) (by rw [hg0]; exact hrc) (fun r h' q => q) hk
theorem s_callV (hF : FxC p s m c args cc nL own Ts D kA A B len0 adK adV) {C : Cal} {AW : List Cond} {d y n idx ck : Nat} (hAT : ∀ w ∈ AW, w ∈ Ts) (hG : ∀ w ∈ AW, goodWord w = true) (hcode : Cond.code (mi y).1 (mi y).2.1 (mi y).2.2.1 (mi y).2.2.2.1 ∈ AW) (hini : Cond.initialized (mi y).1.cls ∈ AW) (hmh : (mi y).1.cls ≠ "java/lang/invoke/MethodHandle") (hvh : (mi y).1.cls ≠ "java/lang/invoke/VarHandle") (hRf : d + 1 ≤ R.frames) (hRl : 100 * (d + 1) ≤ R.locals) (hmx : (mi y).2.2.1 ≤ 80) (hck : ck < 11) (hcl : (mi y).1.cls = RR ck) (hg0 : growM y = []) (hRc : ∀ lo st h H ls locs cells slots, FrC R s nL B A kA D len0 tot0 lo st h H ls locs cells slots → cells ≤ R.cells ∧ slots ≤ R.slots)
    (hpd : (parseMethodDescriptor (mi y).1.desc).map (fun d => d.parameters.length + 1) = some n) (hml : Cond.methodLink own idx (mi y).1 ∈ AW) (hin : Cond.instanceMethod (mi y).1 ∈ AW) (hse : Cond.selects (mi y).1.cls (mi y).1 (mi y).1 ∈ AW)
    (hC : ∀ as h Q, (∀ v ∈ as, vok v) → C y as h Q → MetM l AW B A kA D adK adV d y as h Q) (hdg : decode cc pc = .ok (.invokevirtual idx, 3)) (hk : Sd p l e R s m args below meth c QQ B A kA D nL len0 tot0 (pc + 3) k) : Sd p l e R s m args below meth c QQ B A kA D nL len0 tot0 pc (o_callV C y n ck k) := by
  intro lo st h H ls locs cells slots fr q
  unfold o_callV at q
  split at q
  · rename_i r as has
    obtain ⟨hkd, q1, q2, q3⟩ := q
    obtain ⟨n2, hr, -⟩ := kd_some hkd (by omega)
    have hA : A r = some (B + r) := hF.2.2.2.2.2.2.2.1 r (fr.1.lt hr)
    refine W_size hF fr (fun hz => ?_)
    have hrc := hRc _ _ _ _ _ _ _ _ fr
    have hM := hC _ _ _ (fun v hv => fr.ok v (List.mem_of_mem_take (List.mem_reverse.mp hv))) q3
    have hcat := cat_le (A := A) (st := st.drop n)
    have he := wsO_at (B := B) (A := A) (kA := kA) hr
    rw [cel_obj (by omega)] at he
    have hlen : as.length + 1 = n := by
      have := congrArg List.length has
      simp at this
      omega
    have hpd' : (parseMethodDescriptor (mi y).1.desc).map (fun d => d.parameters.length) = some as.length := by
      cases hp : parseMethodDescriptor (mi y).1.desc with
      | none => rw [hp] at hpd; cases hpd
      | some z =>
        rw [hp] at hpd
        simp only [Option.map_some, Option.some.injEq] at hpd ⊢
        omega
    have hargs : ((st.take n).reverse).map (trV A) = .ref (B + r) :: as.map (trV A) := by
      rw [has, List.map_cons, show trV A (Sum.inr (Sum.inr r)) = .ref (B + r) by simp [trV, va_rf, hA]]
    rw [stk_eq (A := A) (st := st) n, hargs]
    have hP := PcM_here hF fr hz (as := (st.take n).reverse)
    rw [hargs] at hP
    refine call_core hF fr (y := y) (n := n) (g := growM y) (va_runV (C := RR ck) (b := B + r) (As := as.map (trV A)) (rest := (st.drop n).map (trV A)) ⟨hF.1, hF.2.1, hF.2.2.1, hF.2.2.2.1, hF.2.2.2.2.1⟩ hM ⟨callB_M hF hAT hG hcode hini hmh hvh hRf hRl hmx hpd' hml, hF.2.2.2.2.1 _ (hAT _ hin), hcl ▸ hF.2.2.2.2.1 _ (hAT _ hse)⟩ ⟨PcM_blind, va_recv hF.2.2.2.2.2.1 fr.1.1 (vw_at ck hck) he, hP⟩ rfl (by simp) fr.2.2.1.1 (by simp) (lv_room (by omega)) hdg (by rw [hg0]; exact hrc)) (by rw [hg0]; exact hrc) (fun r h' q => q) hk
  · exact q.elim
theorem s_callI (hF : FxC p s m c args cc nL own Ts D kA A B len0 adK adV) {C : Cal} {S1 : List (Nat × Nat)} {AW : List Cond} {d y n idx ck : Nat} {ps : List (Int × Nat)} (hAT : ∀ w ∈ AW, w ∈ Ts) (hG : ∀ w ∈ AW, goodWord w = true) (hcode : Cond.code (mi y).1 (mi y).2.1 (mi y).2.2.1 (mi y).2.2.2.1 ∈ AW) (hini : Cond.initialized (mi y).1.cls ∈ AW) (hmh : (mi y).1.cls ≠ "java/lang/invoke/MethodHandle") (hvh : (mi y).1.cls ≠ "java/lang/invoke/VarHandle") (hRf : d + 1 ≤ R.frames) (hRl : 100 * (d + 1) ≤ R.locals) (hmx : (mi y).2.2.1 ≤ 80) (hck : ck < 11) (hps : ps = [(((growM y).length : Int), totS (growM y))]) (hRc : S1.length ≤ len0 + R.cells) (hRs : totS S1 ≤ tot0 + R.slots) (hret : (mi y).2.2.2.1 = none) (hnm : (mi y).1.name = "<init>")
    (hpd : (parseMethodDescriptor (mi y).1.desc).map (fun d => d.parameters.length + 1) = some n) (hml : Cond.methodLink own idx (mi y).1 ∈ AW) (hin : Cond.instanceMethod (mi y).1 ∈ AW)
    (hC : ∀ as h Q, (∀ v ∈ as, vok v) → C y as h Q → MetM l AW B A kA D adK adV d y as h Q) (hdg : decode cc pc = .ok (.invokespecial idx, 3)) (hk : Sd p l e R s m args below meth c QQ B A kA D nL len0 tot0 (pc + 3) k) : Sd p l e R s m args below meth c QQ B A kA D nL len0 tot0 pc (o_callI C S1 y n ck ps k) := by
  intro lo st h H ls locs cells slots fr q
  subst hps
  unfold o_callI at q
  obtain ⟨⟨g1, g2⟩, q⟩ := q
  unfold o_callV at q
  split at q
  · rename_i r as has
    obtain ⟨hkd, q1, q2, q3⟩ := q
    obtain ⟨n2, hr, -⟩ := kd_some hkd (by omega)
    have hA : A r = some (B + r) := hF.2.2.2.2.2.2.2.1 r (fr.1.lt hr)
    refine W_size hF fr (fun hz => ?_)
    have e1 := fr.2.2.2.2.2.2.1
    have e2 := fr.2.2.2.2.2.2.2
    have hM := hC _ _ _ (fun v hv => fr.ok v (List.mem_of_mem_take (List.mem_reverse.mp hv))) q3
    have hcat := cat_le (A := A) (st := st.drop n)
    have hlen : as.length + 1 = n := by
      have := congrArg List.length has
      simp at this
      omega
    have hpd' : (parseMethodDescriptor (mi y).1.desc).map (fun d => d.parameters.length) = some as.length := by
      cases hp : parseMethodDescriptor (mi y).1.desc with
      | none => rw [hp] at hpd; cases hpd
      | some z =>
        rw [hp] at hpd
        simp only [Option.map_some, Option.some.injEq] at hpd ⊢
        omega
    have hargs : ((st.take n).reverse).map (trV A) = .ref (B + r) :: as.map (trV A) := by
      rw [has, List.map_cons, show trV A (Sum.inr (Sum.inr r)) = .ref (B + r) by simp [trV, va_rf, hA]]
    rw [stk_eq (A := A) (st := st) n, hargs]
    have hP := PcM_here hF fr hz (as := (st.take n).reverse)
    rw [hargs] at hP
    have hcb := callB_M hF hAT hG hcode hini hmh hvh hRf hRl hmx hpd' hml
    rw [hret] at hcb
    have hg1 : (((growM y).length : Int)).toNat = (growM y).length := rfl
    rw [hg1] at g1
    refine call_core hF fr (y := y) (n := n) (g := growM y) (va_runI (b := B + r) (As := as.map (trV A)) (rest := (st.drop n).map (trV A)) ⟨hF.1, hF.2.1, hF.2.2.1, hF.2.2.2.1, hF.2.2.2.2.1⟩ hM ⟨hcb, hnm, hF.2.2.2.2.1 _ (hAT _ hin)⟩ ⟨PcM_blind, hP⟩ rfl (by simp) fr.2.2.1.1 (by simp) (lv_room (by omega)) hdg ⟨by omega, by omega⟩) ⟨by omega, by omega⟩ (fun r h' q => q) hk
  · exact q.elim
end CALLS
end
section
/-! arraycopy, constants, the words that all methods need, what is checked of an instruction, and that then the model's block is the machine's -/
section MORE
variable {p : Program} {l : Launch} {e : Env} {R : Room} {s : State} {m : MethodId} {args : Array Value} {below : List Frame} {meth : Method} {c : Code} {QQ : State → Prop} {B : Nat} {A : Nat → Option Nat} {kA : Nat → ClassId} {D : va_G} {cc : ByteArray} {nL : Nat} {own : String} {len0 tot0 : Nat} {Ts : List Cond} {pc : Nat} {k : Blk} {J : Jmp} {adK adV : Nat → Nat}
theorem MOk_cp {h : Mem} {src dst kk n1 n2 : Nat} {sp dp n : Int} (hM : MOk h) (hs : h.1[src]? = some (kk, n1)) (hd : h.1[dst]? = some (kk, n2)) (hk : kk = 100 ∨ kk = 101) (h0 : 0 ≤ sp) : MOk (cpG h src sp dst dp n) := by
  intro r q hq j
  show rngK q.1 j (if r = dst ∧ dp ≤ (j : Int) ∧ (j : Int) < dp + n then h.2.1 src (sp + ((j : Int) - dp)) else h.2.1 r j)
  by_cases hc : r = dst ∧ dp ≤ (j : Int) ∧ (j : Int) < dp + n
  · rw [if_pos hc]
    obtain ⟨rfl, h1, h2⟩ := hc
    have : some q = some (kk, n2) := hq.symm.trans hd
    cases this
    have hv := hM src _ hs (sp + ((j : Int) - dp)).toNat
    rw [ix_nat (by omega)] at hv
    unfold rngK at hv ⊢
    rcases hk with rfl | rfl <;> simpa [isL, gG] using hv
  · rw [if_neg hc]
    exact hM r q hq j
theorem cpy_eq {h : Mem} {src dst : Nat} {sp dp n : Int} {α : Type} (F : Int → α) (hs : inI sp) (hd : inI dp) (hn : inI n) (h0 : 0 ≤ sp) (h1 : 0 ≤ dp) (h2 : 0 ≤ n) :
    va_cpy (fun j : Nat => F (gG h src j)) (fun j : Nat => F (gG h dst j)) (Int32.ofInt sp).toNatClampNeg (Int32.ofInt dp).toNatClampNeg (Int32.ofInt n).toNatClampNeg = fun j : Nat => F (gG (cpG h src sp dst dp n) dst j) := by
  rw [i32_clamp hs h0, i32_clamp hd h1, i32_clamp hn h2]
  funext j
  show (if dp.toNat ≤ j ∧ j < dp.toNat + n.toNat then F (gG h src ((sp.toNat + (j - dp.toNat) : Nat) : Int)) else F (gG h dst j)) = F (if dst = dst ∧ dp ≤ (j : Int) ∧ (j : Int) < dp + n then h.2.1 src (sp + ((j : Int) - dp)) else h.2.1 dst j)
  by_cases hc : dp.toNat ≤ j ∧ j < dp.toNat + n.toNat
  · rw [if_pos hc, if_pos ⟨rfl, by omega, by omega⟩]
    have : ((sp.toNat + (j - dp.toNat) : Nat) : Int) = sp + ((j : Int) - dp) := by omega
    rw [this]; rfl
  · rw [if_neg hc, if_neg (fun q => hc (by omega))]; rfl
theorem s_cpy (hF : FxC p s m c args cc nL own Ts D kA A B len0 adK adV) (hRf : 1 ≤ R.frames) (hRl : 100 ≤ R.locals) {idx kk : Nat} (hkk : kk = 100 ∨ kk = 101) (hw1 : Cond.methodLink own idx arraycopyName ∈ Ts) (hw2 : Cond.native arraycopyName ∈ Ts) (hw3 : Cond.static arraycopyName ∈ Ts) (hw4 : Cond.initialized "java/lang/System" ∈ Ts) (hdg : decode cc pc = .ok (.invokestatic idx, 3)) (hk : Sd p l e R s m args below meth c QQ B A kA D nL len0 tot0 (pc + 3) k) : Sd p l e R s m args below meth c QQ B A kA D nL len0 tot0 pc (o_cpy kk k) := by
  intro lo st h H ls locs cells slots fr q
  unfold o_cpy at q
  split at q
  · rename_i n dp dst sp src st'
    obtain ⟨⟨hk1, hk2, s0, d0, n0, l1, l2, hl⟩, q⟩ := q
    obtain ⟨m1, hr1, e1⟩ := kd_some hk1 (by omega)
    obtain ⟨m2, hr2, e2⟩ := kd_some hk2 (by omega)
    have hA1 : A src = some (B + src) := hF.2.2.2.2.2.2.2.1 src (fr.1.lt hr1)
    have hA2 : A dst = some (B + dst) := hF.2.2.2.2.2.2.2.1 dst (fr.1.lt hr2)
    have hn : inI n := hd_ok fr.ok
    have hdp : inI dp := hd_ok (tl_ok fr.ok)
    have hsp : inI sp := hd_ok (tl_ok (tl_ok (tl_ok fr.ok)))
    have hts := hF.2.2.2.2.1
    have hc := cat_le (A := A) (st := st')
    have hst := tl_ok (tl_ok (tl_ok (tl_ok (tl_ok fr.ok))))
    have he1 := wsO_at (B := B) (A := A) (kA := kA) hr1
    have he2 := wsO_at (B := B) (A := A) (kA := kA) hr2
    rw [List.map_cons, List.map_cons, List.map_cons, List.map_cons, List.map_cons, show trV A (Sum.inr (Sum.inr src)) = .ref (B + src) by simp [trV, va_rf, hA1], show trV A (Sum.inr (Sum.inr dst)) = .ref (B + dst) by simp [trV, va_rf, hA2]]
    have ng : ∀ {z : Int}, inI z → 0 ≤ z → ¬ Int32.ofInt z < 0 := fun hz h0 q => by have := (i32_lt hz inI_0).mp (i32_0 ▸ q); omega
    have hnw : nativeFrameWords "java/lang/System" "arraycopy" 5 = 7 := by decide +kernel
    have hM := MOk_cp (dp := dp) (n := n) fr.1.2.2.2.2 hr1 hr2 hkk s0
    rcases hkk with rfl | rfl
    · rw [cel_i (Or.inl rfl)] at he1 he2
      refine va_copyi hF.1 hF.2.1 (hF.2.2.1.trans fr.2.2.1.1.symm) hF.2.2.2.1 (hts _ hw1) (hts _ hw2) (hts _ hw3) (hts _ hw4) hF.2.2.2.2.2.1 fr.1.1 fr.1.2.1 fr.2.1 src dst 0 0 (ty := .int) he1 he2 rfl rfl rfl (ng hsp s0) (ng hdp d0) (ng hn n0) (by rw [i32_clamp hsp s0, i32_clamp hn n0]; omega) (by rw [i32_clamp hdp d0, i32_clamp hn n0]; omega) (fun _ _ => rfl) hRf ?_ hdg ?_
      · rw [hnw]; omega
      intro H1 locs1 h1 h2 h3
      have hws : (wsO B A kA h).set dst (B + dst, .inl (kA 100, m2, .inl (va_cpy (fun j : Nat => Int32.ofInt (gG h src j)) (fun j : Nat => Int32.ofInt (gG h dst j)) (Int32.ofInt sp).toNatClampNeg (Int32.ofInt dp).toNatClampNeg (Int32.ofInt n).toNatClampNeg))) = wsO B A kA (cpG h src sp dst dp n) := by
        refine wsO_set (h := h) (h' := cpG h src sp dst dp n) rfl hr2 cel_cp ?_
        rw [cpy_eq Int32.ofInt hsp hdp hn s0 d0 n0, cel_i (Or.inl rfl)]
      rw [hws] at h1 h2
      exact hk lo st' (cpG h src sp dst dp n) H1 ls locs1 cells slots (fr.mem rfl h1 h2 h3 hM hst) q
    · rw [cel_l] at he1 he2
      refine va_copyl hF.1 hF.2.1 (hF.2.2.1.trans fr.2.2.1.1.symm) hF.2.2.2.1 (hts _ hw1) (hts _ hw2) (hts _ hw3) (hts _ hw4) hF.2.2.2.2.2.1 fr.1.1 fr.1.2.1 fr.2.1 src dst 1 1 (ty := .long) he1 he2 rfl rfl rfl (ng hsp s0) (ng hdp d0) (ng hn n0) (by rw [i32_clamp hsp s0, i32_clamp hn n0]; omega) (by rw [i32_clamp hdp d0, i32_clamp hn n0]; omega) (fun _ _ => rfl) hRf ?_ hdg ?_
      · rw [hnw]; omega
      intro H1 locs1 h1 h2 h3
      have hws : (wsO B A kA h).set dst (B + dst, .inl (kA 101, m2, .inr (.inl (va_cpy (fun j : Nat => Int64.ofInt (gG h src j)) (fun j : Nat => Int64.ofInt (gG h dst j)) (Int32.ofInt sp).toNatClampNeg (Int32.ofInt dp).toNatClampNeg (Int32.ofInt n).toNatClampNeg)))) = wsO B A kA (cpG h src sp dst dp n) := by
        refine wsO_set (h := h) (h' := cpG h src sp dst dp n) rfl hr2 cel_cp ?_
        rw [cpy_eq Int64.ofInt hsp hdp hn s0 d0 n0, cel_l]
      rw [hws] at h1 h2
      exact hk lo st' (cpG h src sp dst dp n) H1 ls locs1 cells slots (fr.mem rfl h1 h2 h3 hM hst) q
  · exact q.elim
theorem s_ldcw (hF : FxC p s m c args cc nL own Ts D kA A B len0 adK adV) {i : Nat} {z : Int} (hz : inI z) (hw : Jvm.Cond.constant own i (Int32.ofInt z) ∈ Ts) (hdg : decode cc pc = .ok (.ldc_w i, 3)) (hk : Sd p l e R s m args below meth c QQ B A kA D nL len0 tot0 (pc + 3) k) : Sd p l e R s m args below meth c QQ B A kA D nL len0 tot0 pc (o_psh (vI z) k) := by
  intro lo st h H ls locs cells slots fr q
  intro T hT X
  obtain ⟨t, a1, b1⟩ := hk lo (vI z :: st) h H ls locs cells slots (fr.push hz) q T hT X
  exact ⟨t, va_ldcwI X hF.1 hF.2.2.2.1 (hF.2.2.2.2.1 _ hw) (g := F0 m pc ls (st.map (trV A))) rfl (by rw [hF.2.1]; exact hdg) t a1, b1⟩
theorem s_ldcS (hF : FxC p s m c args cc nL own Ts D kA A B len0 adK adV) {i r a : Nat} {tx : String} (hA : A r = some a) (hR : vk_R own i tx a s) (hdg : decode cc pc = .ok (.ldc i, 2)) (hk : Sd p l e R s m args below meth c QQ B A kA D nL len0 tot0 (pc + 2) k) : Sd p l e R s m args below meth c QQ B A kA D nL len0 tot0 pc (o_psh (vR r) k) := by
  intro lo st h H ls locs cells slots fr q
  have hw := hk lo (vR r :: st) h H ls locs cells slots (fr.push trivial) q
  rw [List.map_cons, show trV A (vR r) = .ref a by simp [trV, va_rf, hA]] at hw
  exact va_ldcS hF.1 hF.2.1 hF.2.2.2.1 hR hdg hw
end MORE
end
section
/-! what is checked of an instruction; then the model's block is the machine's -/
section DEN
variable {p : Program} {l : Launch} {e : Env} {R : Room} {s : State} {m : MethodId} {args : Array Value} {below : List Frame} {meth : Method} {c : Code} {QQ : State → Prop} {B : Nat} {A : Nat → Option Nat} {kA : Nat → ClassId} {D : va_G} {cc : ByteArray} {nL : Nat} {own : String} {len0 tot0 : Nat} {Ts : List Cond} {pc : Nat} {k : Blk} {J : Jmp} {adK adV : Nat → Nat}
theorem op_snd {C : Cal} {Q : RetP} {S1 : List (Nat × Nat)} {d o rb : Nat} {ctor : Bool} (hF : FxC p s m c args cc nL (ON o) Ts D kA A B len0 adK adV) (ho : o < 14) (hAT : ∀ w ∈ AW, w ∈ Ts) (hY : ∀ y, y < NMc → YOk y) (hRf : d + 1 ≤ R.frames) (hRl : 100 * (d + 1) ≤ R.locals) (hRc : S1.length ≤ len0 + R.cells) (hRs : totS S1 ≤ tot0 + R.slots) (hct : ctor = true → meth.name = "<init>")
    (hC : ∀ y, y < NMc → ∀ as h Q, (∀ v ∈ as, vok v) → C y as h Q → MetM l AW B A kA D adK adV d y as h Q)
    (hStr : ∀ (idx y n pc : Nat) (k : Blk), (idx, y) ∈ mTab o → (y = 1005 ∧ n = 1) ∨ (y = 1006 ∧ n = 2) → decode cc pc = .ok (.invokevirtual idx, 3) → Sd p l e R s m args below meth c QQ B A kA D nL len0 tot0 (pc + 3) k → Sd p l e R s m args below meth c QQ B A kA D nL len0 tot0 pc (o_call C y n k))
    (hScr : o = 11 → ∀ (pc : Nat) (k : Blk), Sd p l e R s m args below meth c QQ B A kA D nL len0 tot0 (pc + 1) k → (decode cc pc = .ok (.iaload, 1) → Sd p l e R s m args below meth c QQ B A kA D nL len0 tot0 pc (fun lo st h => match st with | .inl i :: .inr (.inr 900000) :: st => C 2000 [vI i] h (fun r h' => k lo (psh r st) h') ∧ True | _ => False)) ∧ (decode cc pc = .ok (.arraylength, 1) → Sd p l e R s m args below meth c QQ B A kA D nL len0 tot0 pc (fun lo st h => match st with | .inr (.inr 900000) :: st => C 2001 [] h (fun r h' => k lo (psh r st) h') ∧ True | _ => False)))
    (hI : rb < 2 → ∀ pc, decode cc pc = .ok (.ireturn, 1) → Sd p l e R s m args below meth c QQ B A kA D nL len0 tot0 pc (o_iret Q S1 rb)) (hL : rb = 3 → ∀ pc, decode cc pc = .ok (.lreturn, 1) → Sd p l e R s m args below meth c QQ B A kA D nL len0 tot0 pc (o_lret Q S1)) (hV : rb = 4 → ∀ pc, decode cc pc = .ok (.return_, 1) → Sd p l e R s m args below meth c QQ B A kA D nL len0 tot0 pc (o_vret Q S1))
    (hJ : ∀ t, Sd p l e R s m args below meth c QQ B A kA D nL len0 tot0 t (J t)) {i : Instr} {y : Nat} {f z : Int} {ps : List (Int × Nat)} (hok : opOk o ctor rb nL pc (i, y, f, z, ps) = true) (hdec : i = .nop ∨ decode cc pc = .ok (i, lenI i f)) (hk : Sd p l e R s m args below meth c QQ B A kA D nL len0 tot0 (pc + lenI i f) k) : Sd p l e R s m args below meth c QQ B A kA D nL len0 tot0 pc (opd C J Q S1 (i, y, f, z, ps) k) := by
  have hb : ¬ i = .nop → decode cc pc = .ok (i, lenI i f) := fun h => hdec.resolve_left h
  have hR1 : 1 ≤ R.frames := by omega
  have hR2 : 100 ≤ R.locals := by omega
  have hRR : ∀ lo st h H ls locs cells slots, FrC R s nL B A kA D len0 tot0 lo st h H ls locs cells slots → cells ≤ R.cells ∧ slots ≤ R.slots := fun _ _ _ _ _ _ _ _ fr => fr.2.2.2.1.2
  cases i with
  | aload n =>
    exact s_aload hF (hb (by intro h; cases h)) hk
  | aload_n n =>
    exact s_aload_n hF (hb (by intro h; cases h)) hk
  | iload n =>
    exact s_iload hF (hb (by intro h; cases h)) hk
  | iload_n n =>
    exact s_iload_n hF (hb (by intro h; cases h)) hk
  | lload n =>
    exact s_lload hF (hb (by intro h; cases h)) hk
  | lload_n n =>
    exact s_lload_n hF (hb (by intro h; cases h)) hk
  | istore n =>
    exact s_istore hF (of_decide_eq_true hok) (hb (by intro h; cases h)) hk
  | istore_n n =>
    exact s_istore_n hF (of_decide_eq_true hok) (hb (by intro h; cases h)) hk
  | astore n =>
    exact s_astore hF (of_decide_eq_true hok) (hb (by intro h; cases h)) hk
  | astore_n n =>
    exact s_astore_n hF (of_decide_eq_true hok) (hb (by intro h; cases h)) hk
  | lstore n =>
    exact s_lstore hF (of_decide_eq_true hok) (hb (by intro h; cases h)) hk
  | lstore_n n =>
    exact s_lstore_n hF (of_decide_eq_true hok) (hb (by intro h; cases h)) hk
  | iinc n v =>
    exact s_iinc hF (of_decide_eq_true hok) (hb (by intro h; cases h)) hk
  | iconst v =>
    have h2 : (decide (-2147483648 ≤ v) && decide (v ≤ 2147483647)) = true := hok
    simp only [Bool.and_eq_true, decide_eq_true_eq] at h2
    exact s_iconst hF h2 (hb (by intro h; cases h)) hk
  | bipush v =>
    exact s_bipush hF (of_decide_eq_true hok) (hb (by intro h; cases h)) hk
  | sipush v =>
    exact s_sipush hF (of_decide_eq_true hok) (hb (by intro h; cases h)) hk
  | lconst v =>
    exact s_lconst hF (hb (by intro h; cases h)) hk
  | ldc n =>
    dsimp only [opOk, opd] at hok ⊢
    split at hok
    · simp only [in32, Bool.and_eq_true, decide_eq_true_eq] at hok
      exact s_ldc hF hok.2 (hAT _ (AW_k ho hok.1)) (hb (by intro h; cases h)) hk
    · rename_i hy
      have hX := hF.2.2.2.2.2.2.2.2.2.2.2
      split
      · exact absurd rfl (hy)
      rcases of_decide_eq_true hok with ⟨rfl, rfl, rfl⟩ | ⟨rfl, rfl, rfl⟩
      · exact s_ldcS hF hF.2.2.2.2.2.2.2.2.2.1 hX.2.2.2.2.2.2.1 (hb (by intro h; cases h)) hk
      · exact s_ldcS hF hF.2.2.2.2.2.2.2.2.2.2.1 hX.2.2.2.2.2.2.2.1 (hb (by intro h; cases h)) hk
  | ldc_w n =>
    simp only [opOk, in32, Bool.and_eq_true, decide_eq_true_eq] at hok
    exact s_ldcw hF hok.2 (hAT _ (AW_k ho hok.1)) (hb (by intro h; cases h)) hk
  | ldc2_w n =>
    simp only [opOk, in64, Bool.and_eq_true, decide_eq_true_eq] at hok
    exact s_ldc2 hF hok.2 (hAT _ (AW_l ho hok.1)) (hb (by intro h; cases h)) hk
  | iadd =>
    exact s_iadd hF (hb (by intro h; cases h)) hk
  | isub =>
    exact s_isub hF (hb (by intro h; cases h)) hk
  | imul =>
    exact s_imul hF (hb (by intro h; cases h)) hk
  | idiv =>
    exact s_idiv hF (hb (by intro h; cases h)) hk
  | irem =>
    exact s_irem hF (hb (by intro h; cases h)) hk
  | ishl =>
    exact s_ishl hF (hb (by intro h; cases h)) hk
  | ishr =>
    exact s_ishr hF (hb (by intro h; cases h)) hk
  | iushr =>
    exact s_iushr hF (hb (by intro h; cases h)) hk
  | iand =>
    exact s_iand hF (hb (by intro h; cases h)) hk
  | ior =>
    exact s_ior hF (hb (by intro h; cases h)) hk
  | ixor =>
    exact s_ixor hF (hb (by intro h; cases h)) hk
  | i2b =>
    exact s_i2b hF (hb (by intro h; cases h)) hk
  | i2s =>
    exact s_i2s hF (hb (by intro h; cases h)) hk
  | i2l =>
    exact s_i2l hF (hb (by intro h; cases h)) hk
  | l2i =>
    exact s_l2i hF (hb (by intro h; cases h)) hk
  | ladd =>
    exact s_ladd hF (hb (by intro h; cases h)) hk
  | lsub =>
    exact s_lsub hF (hb (by intro h; cases h)) hk
  | lmul =>
    exact s_lmul hF (hb (by intro h; cases h)) hk
  | ldiv =>
    exact s_ldiv hF (hb (by intro h; cases h)) hk
  | lrem =>
    exact s_lrem hF (hb (by intro h; cases h)) hk
  | land =>
    exact s_land hF (hb (by intro h; cases h)) hk
  | lor =>
    exact s_lor hF (hb (by intro h; cases h)) hk
  | lshl =>
    exact s_lshl hF (hb (by intro h; cases h)) hk
  | lcmp =>
    exact s_lcmp hF (hb (by intro h; cases h)) hk
  | dup =>
    exact s_dup hF (hb (by intro h; cases h)) hk
  | dup2 =>
    exact s_dup2 hF (hb (by intro h; cases h)) hk
  | pop =>
    exact s_pop hF (hb (by intro h; cases h)) hk
  | goto off =>
    exact s_goto hF (of_decide_eq_true hok) (hb (by intro h; cases h)) (hJ y)
  | nop =>
    have e : y = pc := of_decide_eq_true hok
    subst e
    exact s_fall (hJ y)
  | ifCond cd off =>
    exact s_if hF (of_decide_eq_true hok) (hb (by intro h; cases h)) (hJ y) hk
  | if_icmp cd off =>
    exact s_icmp hF (of_decide_eq_true hok) (hb (by intro h; cases h)) (hJ y) hk
  | tableswitch dflt lw hg ar =>
    simp only [opOk, Bool.and_eq_true, decide_eq_true_eq] at hok
    exact s_table hF hok.1.1 hok.1.2 hok.2 (hb (by intro h; cases h)) (fun t _ => hJ t)
  | lookupswitch dflt ar =>
    simp only [opOk, Bool.and_eq_true, decide_eq_true_eq] at hok
    exact s_lookup hF hok.1.1 hok.1.2 hok.2 (hb (by intro h; cases h)) (fun t _ => hJ t)
  | getfield n =>
    simp only [opOk, Bool.and_eq_true, decide_eq_true_eq] at hok
    obtain ⟨⟨⟨⟨h1, h2⟩, h3⟩, h4⟩, h5⟩ := hok
    obtain ⟨fn, rfl⟩ := Int.eq_ofNat_of_zero_le h2
    have hfn : ((fn : Int)).toNat = fn := rfl
    rw [hfn] at h1 h4 h5
    rcases h5 with ⟨rfl, h5⟩ | ⟨rfl, h5⟩ | ⟨rfl, h5 | h5⟩
    · exact s_get hF h3 h4 h5 (Or.inl ⟨rfl, rfl⟩) (hAT _ (AW_f ho h1)) (fun w h => hAT w (AW_lay h3 w h)) (hb (by intro h; cases h)) hk
    · exact s_get hF h3 h4 h5 (Or.inr (Or.inl ⟨rfl, rfl⟩)) (hAT _ (AW_f ho h1)) (fun w h => hAT w (AW_lay h3 w h)) (hb (by intro h; cases h)) hk
    · exact s_get hF h3 h4 h5 (Or.inr (Or.inr ⟨rfl, by omega, by omega⟩)) (hAT _ (AW_f ho h1)) (fun w h => hAT w (AW_lay h3 w h)) (hb (by intro h; cases h)) hk
    · exact s_get hF h3 h4 h5 (Or.inr (Or.inr ⟨rfl, by omega, by omega⟩)) (hAT _ (AW_f ho h1)) (fun w h => hAT w (AW_lay h3 w h)) (hb (by intro h; cases h)) hk
  | putfield n =>
    simp only [opOk, Bool.and_eq_true, decide_eq_true_eq, Bool.or_eq_true] at hok
    obtain ⟨⟨⟨⟨⟨⟨h1, h2⟩, h3⟩, h4⟩, h5⟩, h6⟩, h7⟩ := hok
    obtain ⟨fn, rfl⟩ := Int.eq_ofNat_of_zero_le h2
    obtain ⟨zn, rfl⟩ := Int.eq_ofNat_of_zero_le h5
    have hfn : ((fn : Int)).toNat = fn := rfl
    have hzn : ((zn : Int)).toNat = zn := rfl
    rw [hfn] at h1 h4 h6 h7
    rw [hzn] at h6
    refine s_put hF h3 h4 h6 rfl ?_ (hAT _ (AW_f ho h1)) (fun w h => hAT w (AW_lay h3 w h)) (hb (by intro h; cases h)) hk
    rcases h7 with h7 | ⟨h7, h8⟩
    · exact Or.inl h7
    · by_cases hfi : (TT y fn).2.2.2 = false
      · exact Or.inl hfi
      · exact Or.inr ⟨by simpa using hfi, hct h7, by rw [TT_own y h3 fn h4, h8]⟩
  | iaload =>
    simp only [opOk, Bool.and_eq_true, decide_eq_true_eq, Bool.or_eq_true] at hok
    rcases hok with rfl | ⟨rfl, e11⟩
    · exact s_ial hF (kk := 100) (Or.inl rfl) (hb (by intro h; cases h)) hk
    · exact ((hScr e11 pc k hk).1 (hb (by intro h; cases h)))
  | laload =>
    exact s_lal hF (hb (by intro h; cases h)) hk
  | baload =>
    simp only [opOk, decide_eq_true_eq, Bool.or_eq_true] at hok
    rcases hok with rfl | rfl
    · exact s_ial hF (kk := 102) (Or.inr (Or.inl rfl)) (hb (by intro h; cases h)) hk
    · exact s_ial hF (kk := 103) (Or.inr (Or.inr rfl)) (hb (by intro h; cases h)) hk
  | aaload =>
    exact s_aal hF (of_decide_eq_true hok) (hb (by intro h; cases h)) hk
  | iastore =>
    exact s_iasI hF (hb (by intro h; cases h)) hk
  | lastore =>
    exact s_las hF (hb (by intro h; cases h)) hk
  | bastore =>
    simp only [opOk, decide_eq_true_eq, Bool.or_eq_true] at hok
    exact s_bas hF hok (hb (by intro h; cases h)) hk
  | aastore =>
    have h2 := of_decide_eq_true hok
    refine s_aas hF ?_ (hb (by intro h; cases h)) hk
    rcases h2 with ⟨rfl, rfl⟩ | ⟨rfl, rfl⟩ | ⟨rfl, rfl⟩
    · exact Or.inl ⟨rfl, rfl⟩
    · exact Or.inr (Or.inl ⟨rfl, rfl⟩)
    · exact Or.inr (Or.inr ⟨rfl, rfl⟩)
  | arraylength =>
    simp only [opOk, Bool.and_eq_true, decide_eq_true_eq, Bool.or_eq_true] at hok
    rcases hok with rfl | ⟨rfl, e11⟩
    · exact s_len hF (hb (by intro h; cases h)) hk
    · exact ((hScr e11 pc k hk).2 (hb (by intro h; cases h)))
  | new n =>
    simp only [opOk, Bool.and_eq_true, decide_eq_true_eq] at hok
    obtain ⟨⟨h1, h2⟩, rfl⟩ := hok
    exact s_new hF h2 rfl hRc hRs (hAT _ (AW_cl ho h1)) (hAT _ (AW_ins h2)) (hAT _ (by rw [RR_ON y h2]; exact AW_ini (by omega))) (fun w h => hAT w (AW_lay h2 w h)) (hb (by intro h; cases h)) hk
  | newarray at' =>
    have h2 := of_decide_eq_true hok
    refine s_newa hF h2 hRc hRs (hAT _ (AW_o (List.mem_append_right _ ?_))) (hb (by intro h; cases h)) hk
    rcases h2 with ⟨rfl, rfl⟩ | ⟨rfl, rfl⟩ | ⟨rfl, rfl⟩ | ⟨rfl, rfl⟩ <;> simp [kTy]
  | anewarray n =>
    simp only [opOk, Bool.and_eq_true, decide_eq_true_eq] at hok
    exact s_anew hF hok.1 hRc hRs (hAT _ (by rw [kC_RR y hok.1]; exact AW_cl ho hok.2)) (hb (by intro h; cases h)) hk
  | invokestatic n =>
    dsimp only [opOk, opd] at hok ⊢
    split at hok
    · have h1 := of_decide_eq_true hok
      exact s_max hF hR1 hR2 hRR (hAT _ (AW_m ho h1)) (hAT _ (AW_o (List.mem_append_right _ (by simp)))) (hAT _ (AW_o (List.mem_append_right _ (by simp)))) (hAT _ (AW_o (List.mem_append_right _ (by simp)))) (hb (by intro h; cases h)) hk
    · have h1 := of_decide_eq_true hok
      exact s_min hF hR1 hR2 hRR (hAT _ (AW_m ho h1)) (hAT _ (AW_o (List.mem_append_right _ (by simp)))) (hAT _ (AW_o (List.mem_append_right _ (by simp)))) (hAT _ (AW_o (List.mem_append_right _ (by simp)))) (hb (by intro h; cases h)) hk
    · simp only [Bool.and_eq_true, decide_eq_true_eq] at hok
      refine s_cpy hF hR1 hR2 ?_ (hAT _ (AW_m ho hok.1)) (hAT _ (AW_o (List.mem_append_right _ (by simp)))) (hAT _ (AW_o (List.mem_append_right _ (by simp)))) (hAT _ (AW_o (List.mem_append_right _ (by simp)))) (hb (by intro h; cases h)) hk
      rcases hok.2 with rfl | rfl
      · exact Or.inl rfl
      · exact Or.inr rfl
    · rename_i n1 n2 n3
      simp only [callOk, Bool.and_eq_true, decide_eq_true_eq, Bool.or_eq_true] at hok
      obtain ⟨⟨⟨⟨h1, h2⟩, rfl⟩, h3⟩, h4⟩ := hok
      have hy := hY y h1
      have hcd := AW_code h1
      have hst : Cond.static (mi y).1 ∈ AW := by
        refine AW_y h1 ?_
        unfold flv at h2
        simp [wY, h2]
      have hini : Cond.initialized (mi y).1.cls ∈ AW := by rw [hy.1]; exact AW_ini hy.2.2.2.2.2.2.2
      have hg0 : growM y = [] := List.length_eq_zero_iff.mp h3
      rcases h4 with h4 | ⟨h4, h5⟩
      · split
        · exact absurd h1 (by decide)
        · exact absurd h1 (by decide)
        · exact absurd h1 (by decide)
        exact s_callS hF hAT (fun w h => AW_all h) hcd hini hy.2.1 hy.2.2.1 hRf hRl hy.2.2.2.2.2.2.1 hg0 hRR hy.2.2.2.1 (by have := AW_m ho h4; rwa [yOf_mi h1] at this) hst (hC y h1) (hb (by intro h; cases h)) hk
      · subst h4
        have hX := hF.2.2.2.2.2.2.2.2.2.2.2
        rcases h5 with ⟨rfl, rfl⟩ | ⟨rfl, rfl⟩ | ⟨rfl, rfl⟩
        · exact s_callSN (host := RX9) hF hAT (fun w h => AW_all h) hcd hini hy.2.1 hy.2.2.1 hRf hRl hy.2.2.2.2.2.2.1 hg0 hRR hy.2.2.2.1 hX.2.2.2.1 hst (hC 182 h1) (hb (by intro h; cases h)) hk
        · exact s_callSN (host := RX9) hF hAT (fun w h => AW_all h) hcd hini hy.2.1 hy.2.2.1 hRf hRl hy.2.2.2.2.2.2.1 hg0 hRR hy.2.2.2.1 hX.2.2.2.2.1 hst (hC 182 h1) (hb (by intro h; cases h)) hk
        · exact s_callSN (host := RX9) hF hAT (fun w h => AW_all h) hcd hini hy.2.1 hy.2.2.1 hRf hRl hy.2.2.2.2.2.2.1 hg0 hRR hy.2.2.2.1 hX.2.2.2.2.2.1 hst (hC 182 h1) (hb (by intro h; cases h)) hk
  | invokevirtual n =>
    dsimp only [opOk, opd] at hok ⊢
    split at hok
    · simp only [Bool.and_eq_true, decide_eq_true_eq] at hok
      rcases hok.2 with ⟨rfl, rfl⟩ | ⟨rfl, rfl⟩
      · exact hStr n 1005 1 pc k hok.1 (Or.inl ⟨rfl, rfl⟩) (hb (by intro h; cases h)) hk
      · exact hStr n 1006 2 pc k hok.1 (Or.inr ⟨rfl, rfl⟩) (hb (by intro h; cases h)) hk
    · simp only [callOk, Bool.and_eq_true, decide_eq_true_eq] at hok
      obtain ⟨⟨⟨⟨⟨⟨h1, h2⟩, rfl⟩, h3⟩, h4⟩, rfl⟩, h5⟩ := hok
      have hy := hY y h1
      have hcd := AW_code h1
      have hin : Cond.instanceMethod (mi y).1 ∈ AW := by
        refine AW_y h1 ?_
        unfold flv at h2
        simp [wY, h2]
      have hse : Cond.selects (mi y).1.cls (mi y).1 (mi y).1 ∈ AW := by
        refine AW_y h1 ?_
        unfold flv at h2
        simp [wY, h2]
      have hini : Cond.initialized (mi y).1.cls ∈ AW := by rw [hy.1]; exact AW_ini hy.2.2.2.2.2.2.2
      have hg0 : growM y = [] := List.length_eq_zero_iff.mp h3
      have hpd : (parseMethodDescriptor (mi y).1.desc).map (fun d => d.parameters.length + 1) = some (nar y + 1) := by
        have := hy.2.2.2.1
        cases hp : parseMethodDescriptor (mi y).1.desc with
        | none => rw [hp] at this; cases this
        | some v => rw [hp] at this; simp only [Option.map_some, Option.some.injEq] at this ⊢; omega
      split
      · rename_i he
        omega
      exact s_callV hF hAT (fun w h => AW_all h) hcd hini hy.2.1 hy.2.2.1 hRf hRl hy.2.2.2.2.2.2.1 h5 (hy.1.trans (RR_ON _ h5).symm) hg0 hRR hpd (by have := AW_m ho h4; rwa [yOf_mi h1] at this) hin hse (hC y h1) (hb (by intro h; cases h)) hk
  | invokespecial n =>
    dsimp only [opOk, opd] at hok ⊢
    split at hok
    · have h1 := of_decide_eq_true hok
      exact s_oin hF hR1 hR2 (hAT _ (AW_m ho h1)) (hAT _ (AW_o (List.mem_append_right _ (by simp)))) (hAT _ (AW_o (List.mem_append_right _ (by simp)))) (hb (by intro h; cases h)) hk
    · simp only [callOk, Bool.and_eq_true, decide_eq_true_eq] at hok
      obtain ⟨⟨⟨⟨⟨⟨h1, h2⟩, rfl⟩, h4⟩, rfl⟩, h5⟩, hps⟩ := hok
      have hy := hY y h1
      have hcd := AW_code h1
      have hin : Cond.instanceMethod (mi y).1 ∈ AW := by
        refine AW_y h1 ?_
        unfold flv at h2
        simp [wY, h2]
      have hini : Cond.initialized (mi y).1.cls ∈ AW := by rw [hy.1]; exact AW_ini hy.2.2.2.2.2.2.2
      have hpd : (parseMethodDescriptor (mi y).1.desc).map (fun d => d.parameters.length + 1) = some (nar y + 1) := by
        have := hy.2.2.2.1
        cases hp : parseMethodDescriptor (mi y).1.desc with
        | none => rw [hp] at this; cases this
        | some v => rw [hp] at this; simp only [Option.map_some, Option.some.injEq] at this ⊢; omega
      split
      · exact absurd h1 (by decide)
      exact s_callI hF hAT (fun w h => AW_all h) hcd hini hy.2.1 hy.2.2.1 hRf hRl hy.2.2.2.2.2.2.1 h5 hps hRc hRs (hy.2.2.2.2.2.1 h2).2 (hy.2.2.2.2.2.1 h2).1 hpd (by have := AW_m ho h4; rwa [yOf_mi h1] at this) hin (hC y h1) (hb (by intro h; cases h)) hk
  | ireturn =>
    simp only [opOk, Bool.and_eq_true, decide_eq_true_eq] at hok
    obtain ⟨rfl, h2⟩ := hok
    exact hI h2 pc (hb (by intro h; cases h))
  | lreturn =>
    exact hL (of_decide_eq_true hok) pc (hb (by intro h; cases h))
  | return_ =>
    exact hV (of_decide_eq_true hok) pc (hb (by intro h; cases h))
  | _ => exact fun lo st h H ls locs cells slots fr q => q.elim
end DEN
end
section
/-! the model's run of a method is the machine's -/
section RUNS
variable {p : Program} {l : Launch} {e : Env} {R : Room} {s : State} {m : MethodId} {args : Array Value} {below : List Frame} {meth : Method} {c : Code} {QQ : State → Prop} {B : Nat} {A : Nat → Option Nat} {kA : Nat → ClassId} {D : va_G} {cc : ByteArray} {nL : Nat} {own : String} {len0 tot0 : Nat} {Ts : List Cond} {pc : Nat} {k : Blk} {J : Jmp} {adK adV : Nat → Nat}
theorem den_snd {C : Cal} {Q : RetP} {S1 : List (Nat × Nat)} {d o rb : Nat} {ctor : Bool} (hF : FxC p s m c args cc nL (ON o) Ts D kA A B len0 adK adV) (ho : o < 14) (hAT : ∀ w ∈ AW, w ∈ Ts) (hY : ∀ y, y < NMc → YOk y) (hRf : d + 1 ≤ R.frames) (hRl : 100 * (d + 1) ≤ R.locals) (hRc : S1.length ≤ len0 + R.cells) (hRs : totS S1 ≤ tot0 + R.slots) (hct : ctor = true → meth.name = "<init>")
    (hC : ∀ y, y < NMc → ∀ as h Q, (∀ v ∈ as, vok v) → C y as h Q → MetM l AW B A kA D adK adV d y as h Q)
    (hStr : ∀ (idx y n pc : Nat) (k : Blk), (idx, y) ∈ mTab o → (y = 1005 ∧ n = 1) ∨ (y = 1006 ∧ n = 2) → decode cc pc = .ok (.invokevirtual idx, 3) → Sd p l e R s m args below meth c QQ B A kA D nL len0 tot0 (pc + 3) k → Sd p l e R s m args below meth c QQ B A kA D nL len0 tot0 pc (o_call C y n k))
    (hScr : o = 11 → ∀ (pc : Nat) (k : Blk), Sd p l e R s m args below meth c QQ B A kA D nL len0 tot0 (pc + 1) k → (decode cc pc = .ok (.iaload, 1) → Sd p l e R s m args below meth c QQ B A kA D nL len0 tot0 pc (fun lo st h => match st with | .inl i :: .inr (.inr 900000) :: st => C 2000 [vI i] h (fun r h' => k lo (psh r st) h') ∧ True | _ => False)) ∧ (decode cc pc = .ok (.arraylength, 1) → Sd p l e R s m args below meth c QQ B A kA D nL len0 tot0 pc (fun lo st h => match st with | .inr (.inr 900000) :: st => C 2001 [] h (fun r h' => k lo (psh r st) h') ∧ True | _ => False)))
    (hI : rb < 2 → ∀ pc, decode cc pc = .ok (.ireturn, 1) → Sd p l e R s m args below meth c QQ B A kA D nL len0 tot0 pc (o_iret Q S1 rb)) (hL : rb = 3 → ∀ pc, decode cc pc = .ok (.lreturn, 1) → Sd p l e R s m args below meth c QQ B A kA D nL len0 tot0 pc (o_lret Q S1)) (hV : rb = 4 → ∀ pc, decode cc pc = .ok (.return_, 1) → Sd p l e R s m args below meth c QQ B A kA D nL len0 tot0 pc (o_vret Q S1))
    (hJ : ∀ t, Sd p l e R s m args below meth c QQ B A kA D nL len0 tot0 t (J t)) : ∀ (ops : List OpI) (pc : Nat), chkO o ctor rb nL cc pc ops = true → Sd p l e R s m args below meth c QQ B A kA D nL len0 tot0 pc (den C J Q S1 ops)
  | [], pc, _ => fun lo st h H ls locs cells slots fr q => q.elim
  | (i, y, f, z, ps) :: ops, pc, hchk => by
    simp only [chkO, Bool.and_eq_true, Bool.or_eq_true, decide_eq_true_eq] at hchk
    exact op_snd hF ho hAT hY hRf hRl hRc hRs hct hC hStr hScr hI hL hV hJ hchk.1.1 hchk.1.2 (den_snd hF ho hAT hY hRf hRl hRc hRs hct hC hStr hScr hI hL hV hJ ops _ hchk.2)
theorem lkB_chk {o rb nL : Nat} {ctor : Bool} {cc : ByteArray} : ∀ (K : List (Nat × List OpI)), (∀ q ∈ K, chkO o ctor rb nL cc q.1 q.2 = true) → ∀ pc, chkO o ctor rb nL cc pc (lkB K pc) = true
  | [], _, pc => rfl
  | (q, ops) :: K, h, pc => by
    unfold lkB
    split
    · rename_i e
      subst e
      exact h (q, ops) List.mem_cons_self
    · exact lkB_chk K (fun x hx => h x (List.mem_cons_of_mem _ hx)) pc
theorem ex_snd {C : Cal} {Q : RetP} {S1 : List (Nat × Nat)} {d o rb : Nat} {ctor : Bool} (hF : FxC p s m c args cc nL (ON o) Ts D kA A B len0 adK adV) (ho : o < 14) (hAT : ∀ w ∈ AW, w ∈ Ts) (hY : ∀ y, y < NMc → YOk y) (hRf : d + 1 ≤ R.frames) (hRl : 100 * (d + 1) ≤ R.locals) (hRc : S1.length ≤ len0 + R.cells) (hRs : totS S1 ≤ tot0 + R.slots) (hct : ctor = true → meth.name = "<init>")
    (hC : ∀ y, y < NMc → ∀ as h Q, (∀ v ∈ as, vok v) → C y as h Q → MetM l AW B A kA D adK adV d y as h Q)
    (hStr : ∀ (idx y n pc : Nat) (k : Blk), (idx, y) ∈ mTab o → (y = 1005 ∧ n = 1) ∨ (y = 1006 ∧ n = 2) → decode cc pc = .ok (.invokevirtual idx, 3) → Sd p l e R s m args below meth c QQ B A kA D nL len0 tot0 (pc + 3) k → Sd p l e R s m args below meth c QQ B A kA D nL len0 tot0 pc (o_call C y n k))
    (hScr : o = 11 → ∀ (pc : Nat) (k : Blk), Sd p l e R s m args below meth c QQ B A kA D nL len0 tot0 (pc + 1) k → (decode cc pc = .ok (.iaload, 1) → Sd p l e R s m args below meth c QQ B A kA D nL len0 tot0 pc (fun lo st h => match st with | .inl i :: .inr (.inr 900000) :: st => C 2000 [vI i] h (fun r h' => k lo (psh r st) h') ∧ True | _ => False)) ∧ (decode cc pc = .ok (.arraylength, 1) → Sd p l e R s m args below meth c QQ B A kA D nL len0 tot0 pc (fun lo st h => match st with | .inr (.inr 900000) :: st => C 2001 [] h (fun r h' => k lo (psh r st) h') ∧ True | _ => False)))
    (hI : rb < 2 → ∀ pc, decode cc pc = .ok (.ireturn, 1) → Sd p l e R s m args below meth c QQ B A kA D nL len0 tot0 pc (o_iret Q S1 rb)) (hL : rb = 3 → ∀ pc, decode cc pc = .ok (.lreturn, 1) → Sd p l e R s m args below meth c QQ B A kA D nL len0 tot0 pc (o_lret Q S1)) (hV : rb = 4 → ∀ pc, decode cc pc = .ok (.return_, 1) → Sd p l e R s m args below meth c QQ B A kA D nL len0 tot0 pc (o_vret Q S1))
    {K : List (Nat × List OpI)} (hK : ∀ q ∈ K, chkO o ctor rb nL cc q.1 q.2 = true) {lo : Lo} {st : List MV} {h : Mem} {H : Heap} {ls : Array Slot} {locs : List Loc} {cells slots : Nat} (fr : FrC R s nL B A kA D len0 tot0 lo st h H ls locs cells slots) {pc : Nat} (q : Ex C K S1 Q pc lo st h) : W p l e R s m args below meth c H locs cells slots QQ (F0 m pc ls (st.map (trV A))) := by
  refine q (fun pc lo st h => ∀ H ls locs cells slots, FrC R s nL B A kA D len0 tot0 lo st h H ls locs cells slots → W p l e R s m args below meth c H locs cells slots QQ (F0 m pc ls (st.map (trV A)))) ?_ H ls locs cells slots fr
  intro J hJ pc lo st h hd H ls locs cells slots fr
  exact den_snd hF ho hAT hY hRf hRl hRc hRs hct hC hStr hScr hI hL hV (fun t lo st h H ls locs cells slots fr q => hJ t lo st h q H ls locs cells slots fr) _ pc (lkB_chk K hK pc) lo st h H ls locs cells slots fr hd
end RUNS
-- the model's calls
def strT (r : Nat) : List Int := if r = 900001 then st0 else st1
def strL (r : Nat) : Int := ((strT r).length : Int)
def strC (r : Nat) (i : Int) : Int := (strT r).getD i.toNat 0
def extP (X : Int → Int) (XL : Int) (y : Nat) (as : List MV) (h : Mem) (Q : RetP) : Prop := match y with
  | 1005 => match as with
    | [.inr (.inr r)] => (r = 900001 ∨ r = 900002) ∧ Q (some (vI (strL r))) h
    | _ => False
  | 1006 => match as with
    | [.inr (.inr r), .inl i] => ((r = 900001 ∨ r = 900002) ∧ 0 ≤ i ∧ i < strL r) ∧ Q (some (vI (strC r i))) h
    | _ => False
  | 2000 => match as with
    | [.inl i] => (0 ≤ i ∧ i < XL) ∧ Q (some (vI (X i))) h
    | _ => False
  | 2001 => Q (some (vI XL)) h
  | _ => False
/-- a call by the model: at most d calls within each other -/
def WP (X : Int → Int) (XL : Int) : Nat → Cal
  | 0 => fun _ _ _ _ => False
  | d + 1 => fun y as h Q => if y < 1000 then (as.flatMap lay1).length ≤ (mi y).2.2.1 ∧ Ex (WP X XL d) (mi y).2.2.2.2.2.2.2 (h.1 ++ (mi y).2.2.2.2.2.2.1) Q 0 (entL as (mi y).2.2.1) [] h else 4 ≤ d ∧ extP X XL y as h Q
section MET
variable {l : Launch} {B : Nat} {A : Nat → Option Nat} {kA : Nat → ClassId} {D : va_G} {adK adV : Nat → Nat} {X : Int → Int} {XL : Int}
theorem prs_rep (n : Nat) : ∀ i, prsF A i (List.replicate n none) = [] := by
  induction n with
  | zero => intro i; rfl
  | succ n ih => intro i; exact ih (i + 1)
theorem prs_ent (n : Nat) : ∀ (as : List MV) (i : Nat), ∀ q ∈ prsF A i (as.flatMap lay1 ++ List.replicate n none), q ∈ lv_args i (as.map (trV A))
  | [], i, q, h => by
    simp only [List.flatMap_nil, List.nil_append, prs_rep] at h
    cases h
  | v :: as, i, q, h => by
    rw [List.map_cons]
    unfold lv_args
    rcases v with z | z | r
    · have h : q ∈ (i, trV A (vI z)) :: prsF A (i + 1) (as.flatMap lay1 ++ List.replicate n none) := h
      rcases List.mem_cons.mp h with rfl | h
      · exact List.mem_cons_self
      · exact List.mem_cons_of_mem _ (prs_ent n as (i + 1) q h)
    · have h : q ∈ (i, trV A (vL z)) :: prsF A (i + 1 + 1) (as.flatMap lay1 ++ List.replicate n none) := h
      rcases List.mem_cons.mp h with rfl | h
      · exact List.mem_cons_self
      · exact List.mem_cons_of_mem _ (prs_ent n as (i + 2) q h)
    · have h : q ∈ (i, trV A (vR r)) :: prsF A (i + 1) (as.flatMap lay1 ++ List.replicate n none) := h
      have hc : ¬ (trV A (vR r)).category = 2 := fun q => (trV_cat A (vR r)).mp q
      rw [if_neg hc]
      rcases List.mem_cons.mp h with rfl | h
      · exact List.mem_cons_self
      · exact List.mem_cons_of_mem _ (prs_ent n as (i + 1) q h)
theorem sl_len : ∀ as : List MV, (lg_sl (as.map (trV A))).length = (as.flatMap lay1).length
  | [] => rfl
  | v :: as => by
    have ih := sl_len as
    rcases v with z | z | r
    · simp [lg_sl, lay1, trV, Value.category] at ih ⊢; omega
    · simp [lg_sl, lay1, trV, Value.category] at ih ⊢; omega
    · have hc : ¬ (trV A (vR r)).category = 2 := fun q => (trV_cat A (vR r)).mp q
      simp [lg_sl, lay1] at ih ⊢
      rw [if_neg hc]
      simp
      omega
theorem ent_ok {n : Nat} {as : List MV} (h : ∀ v ∈ as, vok v) {i : Nat} {v : MV} (hn : nthL (entL as n) i = some v) : vok v := by
  have hm : some v ∈ entL as n := List.mem_of_getElem? (nth_some.mp hn)
  unfold entL at hm
  rcases List.mem_append.mp hm with hm | hm
  · obtain ⟨w, hw, hv⟩ := List.mem_flatMap.mp hm
    have := h w hw
    rcases w with z | z | r <;> simp [lay1] at hv <;> subst hv <;> exact this
  · have := List.eq_of_mem_replicate hm
    cases this
theorem ret_end {s : State} {R : Room} {nL : Nat} {h0 h : Mem} {g : List (Nat × Nat)} {Q : RetP} {args : Array Value} {lo : Lo} {st : List MV} {H : Heap} {ls : Array Slot} {locs : List Loc} {cells slots : Nat} (hsz : s.heap.size = B + h0.1.length) (fr : FrC R s nL B A kA D h0.1.length (totS h0.1) lo st h H ls locs cells slots) (hs : h.1 = h0.1 ++ g) {r : Option MV} (hr : vokO r) (hq : Q r h) : (cells = g.length ∧ slots = totS g) ∧ ∀ t : State, t.heap = H → QcM B A kA D h0 g Q args s (.returned (r.map (trV A))) t := by
  have e1 := fr.2.2.2.2.2.2.1
  have e2 := fr.2.2.2.2.2.2.2
  rw [hs] at e1 e2
  simp only [List.length_append, totS, List.map_append, List.sum_append] at e1 e2
  refine ⟨⟨by omega, by unfold totS; omega⟩, fun t ht => ⟨r, h, rfl, hq, hr, hs, by rw [ht]; exact fr.1, by rw [ht]; exact fr.2.1.1, fun q hq => ?_⟩⟩
  rw [ht]
  exact fr.2.1.2.1 q (by omega) (by omega)
theorem s_iret {p : Program} {e : Env} {R : Room} {s : State} {m : MethodId} {args : Array Value} {below : List Frame} {meth : Method} {c : Code} {cc : ByteArray} {nL rb pc : Nat} {h0 : Mem} {g : List (Nat × Nat)} {Q : RetP} {ret : Option FieldType} (hx : p.tables.exec = Jvm.exec) (hb : c.code = cc) (hrt : meth.sig.returnType = ret) (hlocks : meth.locks = false) (hrb : rb = rbO ret) (hrb2 : rb < 2) (hsz : s.heap.size = B + h0.1.length) (hdg : decode cc pc = .ok (.ireturn, 1)) :
    Sd p l e R s m args below meth c (MQ below (QcM B A kA D h0 g Q) args s g.length (totS g) (fun q => B ≤ q)) B A kA D nL h0.1.length (totS h0.1) pc (o_iret Q (h0.1 ++ g) rb) := by
  intro lo st h H ls locs cells slots fr q
  unfold o_iret at q
  split at q
  · rename_i z
    obtain ⟨⟨hz, hs⟩, q⟩ := q
    obtain ⟨⟨rfl, rfl⟩, hend⟩ := ret_end (r := some (vI z)) (args := args) hsz fr hs (fun v hv => by cases hv; exact hd_ok fr.ok) q
    have hr2 : ret = some .int ∨ ret = some .boolean := by
      unfold rbO at hrb
      split at hrb <;> first | exact Or.inl rfl | exact Or.inr rfl | omega
    rcases hr2 with rfl | rfl
    · exact W.iret (v := Int32.ofInt z) hx hb hrt (fun t ht _ => hend t ht) fr.2.1.2.2 hdg hlocks
    · refine W.zret (v := Int32.ofInt z) hx hb hrt ?_ (fun t ht _ => hend t ht) fr.2.1.2.2 hdg hlocks
      rcases hz hrb with rfl | rfl <;> decide
  · exact q.elim
theorem s_lret {p : Program} {e : Env} {R : Room} {s : State} {m : MethodId} {args : Array Value} {below : List Frame} {meth : Method} {c : Code} {cc : ByteArray} {nL pc : Nat} {h0 : Mem} {g : List (Nat × Nat)} {Q : RetP} {ret : Option FieldType} (hx : p.tables.exec = Jvm.exec) (hb : c.code = cc) (hrt : meth.sig.returnType = ret) (hlocks : meth.locks = false) (hrb : rbO ret = 3) (hsz : s.heap.size = B + h0.1.length) (hdg : decode cc pc = .ok (.lreturn, 1)) :
    Sd p l e R s m args below meth c (MQ below (QcM B A kA D h0 g Q) args s g.length (totS g) (fun q => B ≤ q)) B A kA D nL h0.1.length (totS h0.1) pc (o_lret Q (h0.1 ++ g)) := by
  intro lo st h H ls locs cells slots fr q
  unfold o_lret at q
  split at q
  · rename_i z
    obtain ⟨hs, q⟩ := q
    obtain ⟨⟨rfl, rfl⟩, hend⟩ := ret_end (r := some (vL z)) (args := args) hsz fr hs (fun v hv => by cases hv; exact hd_ok fr.ok) q
    have hr2 : ret = some .long := by
      unfold rbO at hrb
      split at hrb <;> first | rfl | omega
    subst hr2
    exact W.lret (v := Int64.ofInt z) hx hb hrt (fun t ht _ => hend t ht) fr.2.1.2.2 hdg hlocks
  · exact q.elim
theorem s_vret {p : Program} {e : Env} {R : Room} {s : State} {m : MethodId} {args : Array Value} {below : List Frame} {meth : Method} {c : Code} {cc : ByteArray} {nL pc : Nat} {h0 : Mem} {g : List (Nat × Nat)} {Q : RetP} {ret : Option FieldType} (hx : p.tables.exec = Jvm.exec) (hb : c.code = cc) (hrt : meth.sig.returnType = ret) (hlocks : meth.locks = false) (hrb : rbO ret = 4) (hsz : s.heap.size = B + h0.1.length) (hdg : decode cc pc = .ok (.return_, 1)) :
    Sd p l e R s m args below meth c (MQ below (QcM B A kA D h0 g Q) args s g.length (totS g) (fun q => B ≤ q)) B A kA D nL h0.1.length (totS h0.1) pc (o_vret Q (h0.1 ++ g)) := by
  intro lo st h H ls locs cells slots fr q
  unfold o_vret at q
  split at q
  · obtain ⟨hs, q⟩ := q
    obtain ⟨⟨rfl, rfl⟩, hend⟩ := ret_end (r := none) (args := args) hsz fr hs (fun v hv => by cases hv) q
    have hr2 : ret = none := by
      unfold rbO at hrb
      split at hrb <;> first | rfl | omega
    subst hr2
    exact W.vret hx hb hrt (fun t ht _ => hend t ht) fr.2.1.2.2 hdg hlocks
  · exact q.elim
set_option maxHeartbeats 1000000 in
/-- every method, by the model's run of it -/
theorem met_all (hAr : ∀ r, r < 900000 → A r = some (B + r)) (hAn : A 999999 = none) (hA1 : A 900001 = some (adK 0)) (hA2 : A 900002 = some (adK 1)) (hY : ∀ y, y < NMc → YOk y) (hch : ∀ y, y < NMc → chkY y) (h11 : ∀ y, y < NMc → ¬ cln y = 11)
    (hStr : ∀ d, ∀ {p : Program} {e : Env} {R : Room} {s : State} {m : MethodId} {args : Array Value} {below : List Frame} {meth : Method} {c : Code} {QQ : State → Prop} {cc : ByteArray} {nL o len0 tot0 : Nat} {Ts : List Cond}, FxC p s m c args cc nL (ON o) Ts D kA A B len0 adK adV → o < 14 → (∀ w ∈ AW, w ∈ Ts) → 1 ≤ R.frames → 100 ≤ R.locals → d + 1 ≤ R.frames → 100 * (d + 1) ≤ R.locals → ∀ (idx y n pc : Nat) (k : Blk), (idx, y) ∈ mTab o → (y = 1005 ∧ n = 1) ∨ (y = 1006 ∧ n = 2) → decode cc pc = .ok (.invokevirtual idx, 3) → Sd p l e R s m args below meth c QQ B A kA D nL len0 tot0 (pc + 3) k → Sd p l e R s m args below meth c QQ B A kA D nL len0 tot0 pc (o_call (WP X XL d) y n k)) :
    ∀ (d y : Nat), y < NMc → ∀ as h Q, (∀ v ∈ as, vok v) → WP X XL d y as h Q → MetM l AW B A kA D adK adV d y as h Q := by
  intro d
  induction d with
  | zero => intro y _ as h Q _ hw; exact hw.elim
  | succ d ih =>
    intro y hy as h Q hv hw
    have hy1 : y < 1000 := Nat.lt_of_lt_of_le hy (by decide)
    have hYy := hY y hy
    unfold WP at hw
    rw [if_pos hy1] at hw
    obtain ⟨hlen, hw⟩ := hw
    refine Met.ofW (cc := (mi y).2.1) (maxL := (mi y).2.2.1) (ret := (mi y).2.2.2.1) hYy.2.2.2.2.1 rfl ?_
    intro p e s m args below meth c s₁ B' hml hv'
    obtain ⟨rfl, hsz, hW, hK, hX⟩ := hv'
    have hF : FxC p s m c ((as.map (trV A)).toArray) (mi y).2.1 (mi y).2.2.1 (ON (cln y)) (wsM AW y) D kA A B h.1.length adK adV := ⟨B'.exec, B'.bytes, hml, by rw [← hYy.1]; exact findClass_of_methodNamed B'.named, atoms_spec (ws := wsM AW y) B'.pre, hK, hsz, hAr, hAn, hA1, hA2, hX⟩
    rw [lg_entry_eq]
    have hl := lv_entry (as.map (trV A)) (n := (mi y).2.2.1) (by rw [sl_len]; exact hlen)
    generalize (lg_sl (as.map (trV A)) ++ List.replicate ((mi y).2.2.1 - (lg_sl (as.map (trV A))).length) Slot.unset).toArray = ls at hl ⊢
    have fr : FrC (rmM (d + 1) y) s (mi y).2.2.1 B A kA D h.1.length (totS h.1) (entL as (mi y).2.2.1) [] h s.heap ls [] 0 0 := by
      refine ⟨hW, va_S.rf, ⟨hl.1, hl.2.1, fun q hq => hl.2.2 q (prs_ent _ as 0 q hq)⟩, ⟨?_, Nat.zero_le _, Nat.zero_le _⟩, fun i v hn => ent_ok hv hn, (fun v hv => absurd hv List.not_mem_nil), rfl, rfl⟩
      unfold entL
      rw [List.length_append, List.length_replicate]
      omega
    refine ex_snd (S1 := h.1 ++ growM y) (o := cln y) (ctor := decide (flv y = 2)) (rb := rbO (mi y).2.2.2.1) (d := d) hF hYy.2.2.2.2.2.2.2 (fun w hw => List.mem_cons_of_mem _ hw) hY (Nat.le_refl _) (Nat.le_refl _) (by rw [List.length_append]; exact Nat.le_refl _) (by simp only [totS, List.map_append, List.sum_append]; exact Nat.le_refl _) ?_ (fun y' hy' as' h' Q' hv' hw' => ih y' hy' as' h' Q' hv' hw') ?_ ?_ ?_ ?_ ?_ (hch y hy) fr hw
    · intro hc
      have hfl := of_decide_eq_true hc
      have h1 : meth.name = (mi y).1.name := (name_of_methodNamed B'.named B'.method).1
      rw [h1]
      exact (hYy.2.2.2.2.2.1 hfl).1
    · intro idx y' n pc k h1 h2 h3 h4
      exact hStr d hF hYy.2.2.2.2.2.2.2 (fun w hw => List.mem_cons_of_mem _ hw) (Nat.le_add_left 1 d) (by show 100 ≤ 100 * (d + 1); omega) (Nat.le_refl _) (Nat.le_refl _) idx y' n pc k h1 h2 h3 h4
    · intro h; exact absurd h (h11 y hy)
    · intro h pc hdg
      exact s_iret B'.exec B'.bytes B'.returns B'.notSynchronized rfl h hsz hdg
    · intro h pc hdg
      exact s_lret B'.exec B'.bytes B'.returns B'.notSynchronized h hsz hdg
    · intro h pc hdg
      exact s_vret B'.exec B'.bytes B'.returns B'.notSynchronized h hsz hdg
end MET
end
section
/-! String.length() and charAt() of the two texts -/
def PcX (adK adV : Nat → Nat) (B : Nat) (as : List Value) : Array Value → State → Prop := fun a U => a = as.toArray ∧ Xk adK adV B U ∧ B ≤ U.heap.size
def QcV : Array Value → State → Outcome → State → Prop := fun _ st o t => o = .returned none ∧ t.heap = st.heap
def rmJ (d : Nat) : Room := { frames := d, cells := 0, slots := 0, locals := 100 * d }
def strN (i : Nat) : Nat := ([st0.length, st1.length] : List Nat).getD i 0
def strB (i j : Nat) : Int32 := (([st0.map Int32.ofInt, st1.map Int32.ofInt] : List (List Int32)).getD i []).getD j 0
theorem dJ0_length_8abf5_6 : decode cJ0_length_8abf5 6 = .ok (.invokevirtual 335, 3) := by decide +kernel
theorem dJ0_length_8abf5_9 : decode cJ0_length_8abf5 9 = .ok (.ishr, 1) := by decide +kernel
theorem dJ0_length_8abf5_10 : decode cJ0_length_8abf5 10 = .ok (.ireturn, 1) := by decide +kernel
theorem dJ0_checkIndex_df160_5 : decode cJ0_checkIndex_df160 5 = .ok (.invokestatic 1059, 3) := by decide +kernel
theorem dJ0_checkIndex_df160_8 : decode cJ0_checkIndex_df160 8 = .ok (.pop, 1) := by decide +kernel
theorem dJ0_checkIndex_df160_9 : decode cJ0_checkIndex_df160 9 = .ok (.return_, 1) := by decide +kernel
theorem dJ1_charAt_3b067_3 : decode cJ1_charAt_3b067 3 = .ok (.invokestatic 9, 3) := by decide +kernel
theorem dJ1_charAt_3b067_6 : decode cJ1_charAt_3b067 6 = .ok (.aload_n 0, 1) := by decide +kernel
theorem dJ1_charAt_3b067_7 : decode cJ1_charAt_3b067 7 = .ok (.iload_n 1, 1) := by decide +kernel
theorem dJ1_charAt_3b067_8 : decode cJ1_charAt_3b067 8 = .ok (.baload, 1) := by decide +kernel
theorem dJ1_charAt_3b067_9 : decode cJ1_charAt_3b067 9 = .ok (.sipush 255, 3) := by decide +kernel
theorem dJ1_charAt_3b067_12 : decode cJ1_charAt_3b067 12 = .ok (.iand, 1) := by decide +kernel
theorem dJ1_charAt_3b067_13 : decode cJ1_charAt_3b067 13 = .ok (.i2c, 1) := by decide +kernel
theorem dJ1_charAt_3b067_14 : decode cJ1_charAt_3b067 14 = .ok (.ireturn, 1) := by decide +kernel
theorem dJ0_charAt_5068e_1 : decode cJ0_charAt_5068e 1 = .ok (.invokevirtual 492, 3) := by decide +kernel
theorem dJ0_charAt_5068e_4 : decode cJ0_charAt_5068e 4 = .ok (.ifCond .eq 12, 3) := by decide +kernel
theorem dJ0_charAt_5068e_7 : decode cJ0_charAt_5068e 7 = .ok (.aload_n 0, 1) := by decide +kernel
theorem dJ0_charAt_5068e_8 : decode cJ0_charAt_5068e 8 = .ok (.getfield 9, 3) := by decide +kernel
theorem dJ0_charAt_5068e_11 : decode cJ0_charAt_5068e 11 = .ok (.iload_n 1, 1) := by decide +kernel
theorem dJ0_charAt_5068e_12 : decode cJ0_charAt_5068e 12 = .ok (.invokestatic 495, 3) := by decide +kernel
theorem dJ0_charAt_5068e_15 : decode cJ0_charAt_5068e 15 = .ok (.ireturn, 1) := by decide +kernel
section STR
variable {l : Launch} {B : Nat} {adK adV : Nat → Nat}
theorem Xk_blind {g : JFrame} {mk : MethodId} {a : Array Value} {U : State} (h : Xk adK adV B U) : Xk adK adV B (U.calling g mk a) := by
  obtain ⟨a1, a2, a3, n1, n2, n3, r1, r2, sS, z1, z2⟩ := h
  have hv : (U.calling g mk a).vm = U.vm := rfl
  exact ⟨a1.moved (u := U) (U := U.calling g mk a) (Vm.Alike.refl U.vm), a2.moved (u := U) (U := U.calling g mk a) (Vm.Alike.refl U.vm), a3.moved (u := U) (U := U.calling g mk a) (Vm.Alike.refl U.vm), va_Nw.same rfl hv.symm n1, va_Nw.same rfl hv.symm n2, va_Nw.same rfl hv.symm n3, vk_R.same hv r1, vk_R.same hv r2, sS.moved (u := U) (U := U.calling g mk a) (Vm.Alike.refl U.vm), z1.moved (u := U) (U := U.calling g mk a) (Vm.Alike.refl U.vm), z2.moved (u := U) (U := U.calling g mk a) (Vm.Alike.refl U.vm)⟩
theorem PcX_blind {as : List Value} : FrameBlind (PcX adK adV B as) := fun a U g mk q => ⟨q.1, Xk_blind q.2.1, q.2.2⟩
theorem PcX_here {s : State} {as : List Value} {H : Heap} (hX : Xk adK adV B s) (hB : B ≤ s.heap.size) (hz : s.heap.size ≤ H.size) (ho : ∀ q : Nat, q < s.heap.size → ¬ B ≤ q → H[q]? = s.heap[q]?) : ∀ U : State, U.heap = H → s.WarmedH U.vm → PcX adK adV B as as.toArray U :=
  fun U hU hW => ⟨rfl, Xk.go hW hU hB ho hX, by rw [hU]; omega⟩
theorem gcode {Ts : List Cond} {w0 : Cond} (hAT : ∀ w ∈ AW, w ∈ Ts) (h0 : w0 ∈ AW) : GoodIn Ts (w0 :: AW) := by
  intro w hw
  have hA : w ∈ AW := (List.mem_cons.mp hw).elim (fun e => e ▸ h0) id
  exact ⟨hAT w hA, good_of_word (AW_all hA)⟩
theorem m_coder {i : Nat} (hi : i < 2) : Met l yJ0_coder_7d493 (Cond.code yJ0_coder_7d493 cJ0_coder_7d493 1 (some .byte) :: AW) (rmJ 1) (PcX adK adV B [.ref (adK i)]) (QcRead 0) 0 0 (fun _ => False) := by
  refine Met.ofW (cc := cJ0_coder_7d493) (maxL := 1) (ret := some .byte) (by decide) rfl ?_
  intro p e s m args below meth c s₁ Bd hml hv; obtain ⟨rfl, hX, hB⟩ := hv; have hx := Bd.exec; have hb := Bd.bytes; have hr := Bd.returns; have hlocks := Bd.notSynchronized; have hS : va_S (fun q => B ≤ q) s.heap s.heap [] := va_S.rf
  have hts := atoms_spec (ws := Cond.code yJ0_coder_7d493 cJ0_coder_7d493 1 (some .byte) :: AW) Bd.pre
  have hw : ∀ w ∈ wS, w.before #[.ref (adK i)] s = true := fun w h => hts w (List.mem_cons_of_mem _ (AW_s h))
  have hown : s.vm.findClass RJ0 = some m.cls := findClass_of_methodNamed Bd.named
  have hl := lv_entry ([.ref (adK i)]) (n := 1) (Nat.le_of_ble_eq_true rfl)
  rw [lg_entry_eq]
  generalize (lg_sl ([.ref (adK i)]) ++ List.replicate (1 - (lg_sl ([.ref (adK i)])).length) Slot.unset).toArray = ls at hl ⊢
  refine va_gets hx hb hX.2.2.2.2.2.2.2.2.2.1 hS hown (hw _ (List.mem_of_getElem? (i := 12) rfl)) (fun _ h => h) (by decide +kernel) ?_
  refine lv_if_eq (tgt := 13) hx hb (off := 10) (by decide +kernel) (by decide) (fun q => by cases q) (fun _ => ?_)
  refine lv_aload_n hx hb (k := 0) (by decide +kernel) rfl (lv_at hl 0 rfl) ?_
  refine vk_getf hx hb (hX.2.2.2.2.2.2.2.2.1.1 i hi).2.1 hS hown (hw _ (List.mem_of_getElem? (i := 13) rfl)) (fun _ h => h) (by decide +kernel) ?_
  refine lv_goto (tgt := 14) hx hb (off := 4) (by decide +kernel) (by decide) ?_
  exact W.zret (v := 0) hx hb hr rfl (fun t ht _ => ⟨rfl, ht⟩) (fun _ h => absurd h List.not_mem_nil) (by decide +kernel) hlocks
theorem m_isLatin1 {i : Nat} (hi : i < 2) : Met l yJ0_isLatin1_aae02 (Cond.code yJ0_isLatin1_aae02 cJ0_isLatin1_aae02 1 (some .boolean) :: AW) (rmJ 1) (PcX adK adV B [.ref (adK i)]) (QcRead 1) 0 0 (fun _ => False) := by
  refine Met.ofW (cc := cJ0_isLatin1_aae02) (maxL := 1) (ret := some .boolean) (by decide) rfl ?_
  intro p e s m args below meth c s₁ Bd hml hv; obtain ⟨rfl, hX, hB⟩ := hv; have hx := Bd.exec; have hb := Bd.bytes; have hr := Bd.returns; have hlocks := Bd.notSynchronized; have hS : va_S (fun q => B ≤ q) s.heap s.heap [] := va_S.rf
  have hts := atoms_spec (ws := Cond.code yJ0_isLatin1_aae02 cJ0_isLatin1_aae02 1 (some .boolean) :: AW) Bd.pre
  have hw : ∀ w ∈ wS, w.before #[.ref (adK i)] s = true := fun w h => hts w (List.mem_cons_of_mem _ (AW_s h))
  have hown : s.vm.findClass RJ0 = some m.cls := findClass_of_methodNamed Bd.named
  have hl := lv_entry ([.ref (adK i)]) (n := 1) (Nat.le_of_ble_eq_true rfl)
  rw [lg_entry_eq]
  generalize (lg_sl ([.ref (adK i)]) ++ List.replicate (1 - (lg_sl ([.ref (adK i)])).length) Slot.unset).toArray = ls at hl ⊢
  refine va_gets hx hb hX.2.2.2.2.2.2.2.2.2.1 hS hown (hw _ (List.mem_of_getElem? (i := 12) rfl)) (fun _ h => h) (by decide +kernel) ?_
  refine lv_if_eq (tgt := 17) hx hb (off := 14) (by decide +kernel) (by decide) (fun q => by cases q) (fun _ => ?_)
  refine lv_aload_n hx hb (k := 0) (by decide +kernel) rfl (lv_at hl 0 rfl) ?_
  refine vk_getf hx hb (hX.2.2.2.2.2.2.2.2.1.1 i hi).2.1 hS hown (hw _ (List.mem_of_getElem? (i := 13) rfl)) (fun _ h => h) (by decide +kernel) ?_
  refine lv_if_ne (tgt := 17) hx hb (off := 7) (by decide +kernel) (by decide) (fun q => absurd rfl q) (fun _ => ?_)
  refine lv_iconst (v := 1) hx hb (n := 1) (by decide +kernel) (by decide) ?_
  refine lv_goto (tgt := 18) hx hb (off := 4) (by decide +kernel) (by decide) ?_
  exact W.zret (v := 1) hx hb hr rfl (fun t ht _ => ⟨rfl, ht⟩) (fun _ h => absurd h List.not_mem_nil) (by decide +kernel) hlocks
theorem m_length {i : Nat} (hi : i < 2) : Met l yJ0_length_8abf5 (Cond.code yJ0_length_8abf5 cJ0_length_8abf5 1 (some .int) :: AW) (rmJ 2) (PcX adK adV B [.ref (adK i)]) (QcRead (Int32.ofNat (strN i))) 0 0 (fun _ => False) := by
  refine Met.ofW (cc := cJ0_length_8abf5) (maxL := 1) (ret := some .int) (by decide) rfl ?_
  intro p e s m args below meth c s₁ Bd hml hv; obtain ⟨rfl, hX, hB⟩ := hv; have hx := Bd.exec; have hb := Bd.bytes; have hr := Bd.returns; have hlocks := Bd.notSynchronized; have hS : va_S (fun q => B ≤ q) s.heap s.heap [] := va_S.rf
  have hts := atoms_spec (ws := Cond.code yJ0_length_8abf5 cJ0_length_8abf5 1 (some .int) :: AW) Bd.pre
  have hw : ∀ w ∈ wS, w.before #[.ref (adK i)] s = true := fun w h => hts w (List.mem_cons_of_mem _ (AW_s h))
  have hown : s.vm.findClass RJ0 = some m.cls := findClass_of_methodNamed Bd.named
  have hl := lv_entry ([.ref (adK i)]) (n := 1) (Nat.le_of_ble_eq_true rfl)
  rw [lg_entry_eq]
  generalize (lg_sl ([.ref (adK i)]) ++ List.replicate (1 - (lg_sl ([.ref (adK i)])).length) Slot.unset).toArray = ls at hl ⊢
  have hV := hX.2.2.2.2.2.2.2.2.1
  refine lv_aload_n hx hb (k := 0) (by decide +kernel) rfl (lv_at hl 0 rfl) ?_
  refine vk_getf hx hb (hV.1 i hi).2.2.1 hS hown (hw _ (List.mem_of_getElem? (i := 7) rfl)) (fun _ h => h) (by decide +kernel) ?_
  refine va_tlen hx hb (hV.1 i hi).2.2.2 hS rfl (by decide +kernel) ?_
  refine lv_aload_n hx hb (k := 0) (by decide +kernel) rfl (lv_at hl 0 rfl) ?_
  refine W.callR (W.runV (C := RJ0) (As := []) (b := adK i) (rest := [.int (Int32.ofNat (strN i))]) ⟨hx, hb, hml, hown, hts⟩ (m_coder hi) ⟨callB_of 0 hts (gcode (fun w h => List.mem_cons_of_mem _ h) (AW_s (List.mem_of_getElem? (i := 11) rfl))) rfl rfl rfl (hw _ (List.mem_of_getElem? (i := 6) rfl)) (hw _ (List.mem_of_getElem? (i := 8) rfl)) (by decide +kernel) ⟨Nat.le_of_ble_eq_true rfl, Nat.le_of_ble_eq_true rfl⟩, hw _ (List.mem_of_getElem? (i := 9) rfl), hw _ (List.mem_of_getElem? (i := 10) rfl)⟩ ⟨PcX_blind, vk_recv hV hi hS, PcX_here hX hB (Nat.le_refl _) (fun _ _ _ => rfl)⟩ rfl rfl hl.1 rfl (lv_room (Nat.le_of_ble_eq_true rfl)) dJ0_length_8abf5_6 ⟨Nat.zero_le _, Nat.zero_le _⟩) ?_
  refine lv_ishr hx hb dJ0_length_8abf5_9 ?_
  have e0 : Int32.ofNat (strN i) >>> ((0 : Int32) &&& 31) = Int32.ofNat (strN i) := by
    rcases (show i = 0 ∨ i = 1 by omega) with rfl | rfl <;> decide +kernel
  rw [e0]
  exact W.iret hx hb hr (fun t ht _ => ⟨rfl, ht⟩) (fun _ h => absurd h List.not_mem_nil) dJ0_length_8abf5_10 hlocks
theorem m_ck3 {i n : Int32} {f : Option Nat} (h0 : ¬ i < 0) (h1 : i < n) : Met l yJ3_checkIndex_8e157 (Cond.code yJ3_checkIndex_8e157 cJ3_checkIndex_8e157 3 (some .int) :: AW) (rmJ 1) (PcX adK adV B [.int i, .int n, va_rf f]) (QcRead i) 0 0 (fun _ => False) := by
  refine Met.ofW (cc := cJ3_checkIndex_8e157) (maxL := 3) (ret := some .int) (by decide) rfl ?_
  intro p e s m args below meth c s₁ Bd hml hv; obtain ⟨rfl, hX, hB⟩ := hv; have hx := Bd.exec; have hb := Bd.bytes; have hr := Bd.returns; have hlocks := Bd.notSynchronized; have hS : va_S (fun q => B ≤ q) s.heap s.heap [] := va_S.rf
  have hl : lv_has ((lg_sl ([.int i, .int n, va_rf f]) ++ List.replicate (3 - (lg_sl ([.int i, .int n, va_rf f])).length) Slot.unset).toArray) 3 (lv_args 0 [.int i, .int n, va_rf f]) := lv_entry ([.int i, .int n, va_rf f]) (n := 3) (by cases f <;> exact Nat.le_of_ble_eq_true rfl)
  rw [lg_entry_eq]
  generalize (lg_sl ([.int i, .int n, va_rf f]) ++ List.replicate (3 - (lg_sl ([.int i, .int n, va_rf f])).length) Slot.unset).toArray = ls at hl ⊢
  refine lv_iload_n hx hb (k := 0) (by decide +kernel) rfl (lv_at hl 0 rfl) ?_
  refine lv_if_lt (tgt := 9) hx hb (off := 8) (by decide +kernel) (by decide) (fun q => absurd q h0) (fun _ => ?_)
  refine lv_iload_n hx hb (k := 0) (by decide +kernel) rfl (lv_at hl 0 rfl) ?_
  refine lv_iload_n hx hb (k := 1) (by decide +kernel) rfl (lv_at hl 1 rfl) ?_
  refine lv_icmp_lt (tgt := 16) hx hb (off := 10) (by decide +kernel) (by decide) (fun _ => ?_) (fun q => absurd h1 q)
  refine lv_iload_n hx hb (k := 0) (by decide +kernel) rfl (lv_at hl 0 rfl) ?_
  exact W.iret hx hb hr (fun t ht _ => ⟨rfl, ht⟩) (fun _ h => absurd h List.not_mem_nil) (by decide +kernel) hlocks
theorem m_ck0 {i n : Int32} (h0 : ¬ i < 0) (h1 : i < n) : Met l yJ0_checkIndex_df160 (Cond.code yJ0_checkIndex_df160 cJ0_checkIndex_df160 2 none :: AW) (rmJ 2) (PcX adK adV B [.int i, .int n]) QcV 0 0 (fun _ => False) := by
  refine Met.ofW (cc := cJ0_checkIndex_df160) (maxL := 2) (ret := none) (by decide) rfl ?_
  intro p e s m args below meth c s₁ Bd hml hv; obtain ⟨rfl, hX, hB⟩ := hv; have hx := Bd.exec; have hb := Bd.bytes; have hr := Bd.returns; have hlocks := Bd.notSynchronized; have hS : va_S (fun q => B ≤ q) s.heap s.heap [] := va_S.rf
  have hts := atoms_spec (ws := Cond.code yJ0_checkIndex_df160 cJ0_checkIndex_df160 2 none :: AW) Bd.pre
  have hw : ∀ w ∈ wS, w.before #[.int i, .int n] s = true := fun w h => hts w (List.mem_cons_of_mem _ (AW_s h))
  have hown : s.vm.findClass RJ0 = some m.cls := findClass_of_methodNamed Bd.named
  have hl := lv_entry ([.int i, .int n]) (n := 2) (Nat.le_of_ble_eq_true rfl)
  rw [lg_entry_eq]
  generalize (lg_sl ([.int i, .int n]) ++ List.replicate (2 - (lg_sl ([.int i, .int n])).length) Slot.unset).toArray = ls at hl ⊢
  refine lv_iload_n hx hb (k := 0) (by decide +kernel) rfl (lv_at hl 0 rfl) ?_
  refine lv_iload_n hx hb (k := 1) (by decide +kernel) rfl (lv_at hl 1 rfl) ?_
  have key : ∀ f : Option Nat, W p l e (rmJ 2) s m #[.int i, .int n] below meth c s.heap [] 0 0 (MQ below QcV #[.int i, .int n] s 0 0 (fun _ => False)) (F0 m 5 ls [va_rf f, .int n, .int i]) := by
    intro f
    refine W.callR (W.runS (As := [.int i, .int n, va_rf f]) (rest := []) ⟨hx, hb, hml, hown, hts⟩ (m_ck3 (f := f) h0 h1) ⟨callB_of 3 hts (gcode (fun w h => List.mem_cons_of_mem _ h) (AW_s (List.mem_of_getElem? (i := 29) rfl))) rfl rfl rfl (hw _ (List.mem_of_getElem? (i := 28) rfl)) (hw _ (List.mem_of_getElem? (i := 26) rfl)) (by decide +kernel) ⟨Nat.le_of_ble_eq_true rfl, Nat.le_of_ble_eq_true rfl⟩, hw _ (List.mem_of_getElem? (i := 27) rfl)⟩ ⟨PcX_blind, PcX_here hX hB (Nat.le_refl _) (fun _ _ _ => rfl)⟩ rfl rfl hl.1 rfl (lv_room (Nat.le_of_ble_eq_true rfl)) dJ0_checkIndex_df160_5 ⟨Nat.zero_le _, Nat.zero_le _⟩) ?_
    refine lv_pop hx hb dJ0_checkIndex_df160_8 rfl ?_
    exact W.vret hx hb hr (fun t ht _ => ⟨rfl, ht⟩) (fun _ h => absurd h List.not_mem_nil) dJ0_checkIndex_df160_9 hlocks
  rcases hX.2.2.2.2.2.2.2.2.2.2 with hz | ⟨t, hz⟩
  · exact va_gets hx hb hz hS hown (hw _ (List.mem_of_getElem? (i := 25) rfl)) (fun _ h => h) (by decide +kernel) (key none)
  · exact va_gets hx hb hz hS hown (hw _ (List.mem_of_getElem? (i := 25) rfl)) (fun _ h => h) (by decide +kernel) (key (some t))
theorem W_callV {p : Program} {e : Env} {R : Room} {s : State} {m : MethodId} {args : Array Value} {below : List Frame} {meth : Method} {c : Code} {H : Heap} {locs : List Loc} {cells slots : Nat} {Q : State → Prop} {g : JFrame} {rest : List Value} {a : Array Value} (hr : CallRun p l e R s m args below meth c H locs cells slots 0 0 g rest (QcV a) (fun _ => False)) (kk : W p l e R s m args below meth c H locs cells slots Q { g with pc := g.pc + 3, stack := rest }) : W p l e R s m args below meth c H locs cells slots Q g := by
  intro T hT X
  obtain ⟨v, st₀, t, T', L, h0, X', hL, e1, ⟨hv, hh⟩, st⟩ := hr T hT X
  cases hv
  obtain ⟨t2, a1, b1⟩ := kk T' (by rw [e1, hh, h0]) (Stand.forget X' (fun q h => (hL q h).elim))
  exact ⟨t2, st t2 a1, b1⟩
theorem strB_ok : ∀ i, i < 2 → ∀ j, j < strN i → ((strB i j &&& 255).toUInt32 % 65536).toInt32 = strB i j ∧ narrow .char (.int (strB i j)) = .int (strB i j) := by decide +kernel
theorem m_ch1 {i : Nat} (hi : i < 2) {j : Int32} (hj : vp_in j (strN i)) : Met l yJ1_charAt_3b067 (Cond.code yJ1_charAt_3b067 cJ1_charAt_3b067 2 (some .char) :: AW) (rmJ 3) (PcX adK adV B [.ref (adV i), .int j]) (QcRead (strB i j.toNatClampNeg)) 0 0 (fun _ => False) := by
  refine Met.ofW (cc := cJ1_charAt_3b067) (maxL := 2) (ret := some .char) (by decide) rfl ?_
  intro p e s m args below meth c s₁ Bd hml hv; obtain ⟨rfl, hX, hB⟩ := hv; have hx := Bd.exec; have hb := Bd.bytes; have hr := Bd.returns; have hlocks := Bd.notSynchronized; have hS : va_S (fun q => B ≤ q) s.heap s.heap [] := va_S.rf
  have hts := atoms_spec (ws := Cond.code yJ1_charAt_3b067 cJ1_charAt_3b067 2 (some .char) :: AW) Bd.pre
  have hw : ∀ w ∈ wS, w.before #[.ref (adV i), .int j] s = true := fun w h => hts w (List.mem_cons_of_mem _ (AW_s h))
  have hown : s.vm.findClass RJ1 = some m.cls := findClass_of_methodNamed Bd.named
  have hl := lv_entry ([.ref (adV i), .int j]) (n := 2) (Nat.le_of_ble_eq_true rfl)
  rw [lg_entry_eq]
  generalize (lg_sl ([.ref (adV i), .int j]) ++ List.replicate (2 - (lg_sl ([.ref (adV i), .int j])).length) Slot.unset).toArray = ls at hl ⊢
  have hV := hX.2.2.2.2.2.2.2.2.1
  have hsm : strN i < 2 ^ 31 := by rcases (show i = 0 ∨ i = 1 by omega) with rfl | rfl <;> decide +kernel
  have hj0 : ¬ j < 0 := fun q => hj (Or.inl q)
  have hj1 : j < Int32.ofNat (strN i) := by
    obtain ⟨n, hn, rfl⟩ := vp_in_of hj hsm
    exact nI_lt hn hsm
  refine lv_iload_n hx hb (k := 1) (by decide +kernel) rfl (lv_at hl 1 rfl) ?_
  refine lv_aload_n hx hb (k := 0) (by decide +kernel) rfl (lv_at hl 0 rfl) ?_
  refine va_tlen hx hb (hV.1 i hi).2.2.2 hS rfl (by decide +kernel) ?_
  refine W_callV (W.runS (As := [.int j, .int (Int32.ofNat (strN i))]) (rest := []) ⟨hx, hb, hml, hown, hts⟩ (m_ck0 hj0 hj1) ⟨callB_of 2 hts (gcode (fun w h => List.mem_cons_of_mem _ h) (AW_s (List.mem_of_getElem? (i := 24) rfl))) rfl rfl rfl (hw _ (List.mem_of_getElem? (i := 6) rfl)) (hw _ (List.mem_of_getElem? (i := 22) rfl)) (by decide +kernel) ⟨Nat.le_of_ble_eq_true rfl, Nat.le_of_ble_eq_true rfl⟩, hw _ (List.mem_of_getElem? (i := 23) rfl)⟩ ⟨PcX_blind, PcX_here hX hB (Nat.le_refl _) (fun _ _ _ => rfl)⟩ rfl rfl hl.1 rfl (lv_room (Nat.le_of_ble_eq_true rfl)) dJ1_charAt_3b067_3 ⟨Nat.zero_le _, Nat.zero_le _⟩) ?_
  refine lv_aload_n hx hb (k := 0) dJ1_charAt_3b067_6 rfl (lv_at hl 0 rfl) ?_
  refine lv_iload_n hx hb (k := 1) dJ1_charAt_3b067_7 rfl (lv_at hl 1 rfl) ?_
  refine va_tb hx hb (hV.1 i hi).2.2.2 hS hj (v := .int (strB i j.toNatClampNeg)) rfl dJ1_charAt_3b067_8 ?_
  refine lv_sipush (v := 255) hx hb (n := 255) dJ1_charAt_3b067_9 (by decide) ?_
  refine lv_iand hx hb dJ1_charAt_3b067_12 ?_
  have hlt : j.toNatClampNeg < strN i := Nat.lt_of_not_le (fun q => hj (Or.inr q))
  have hsb := strB_ok i hi _ hlt
  refine lv_i2c hx hb dJ1_charAt_3b067_13 hsb.1 ?_
  exact W.zret hx hb hr hsb.2 (fun t ht _ => ⟨rfl, ht⟩) (fun _ h => absurd h List.not_mem_nil) dJ1_charAt_3b067_14 hlocks
theorem m_charAt {i : Nat} (hi : i < 2) {j : Int32} (hj : vp_in j (strN i)) : Met l yJ0_charAt_5068e (Cond.code yJ0_charAt_5068e cJ0_charAt_5068e 2 (some .char) :: AW) (rmJ 4) (PcX adK adV B [.ref (adK i), .int j]) (QcRead (strB i j.toNatClampNeg)) 0 0 (fun _ => False) := by
  refine Met.ofW (cc := cJ0_charAt_5068e) (maxL := 2) (ret := some .char) (by decide) rfl ?_
  intro p e s m args below meth c s₁ Bd hml hv; obtain ⟨rfl, hX, hB⟩ := hv; have hx := Bd.exec; have hb := Bd.bytes; have hr := Bd.returns; have hlocks := Bd.notSynchronized; have hS : va_S (fun q => B ≤ q) s.heap s.heap [] := va_S.rf
  have hts := atoms_spec (ws := Cond.code yJ0_charAt_5068e cJ0_charAt_5068e 2 (some .char) :: AW) Bd.pre
  have hw : ∀ w ∈ wS, w.before #[.ref (adK i), .int j] s = true := fun w h => hts w (List.mem_cons_of_mem _ (AW_s h))
  have hown : s.vm.findClass RJ0 = some m.cls := findClass_of_methodNamed Bd.named
  have hl := lv_entry ([.ref (adK i), .int j]) (n := 2) (Nat.le_of_ble_eq_true rfl)
  rw [lg_entry_eq]
  generalize (lg_sl ([.ref (adK i), .int j]) ++ List.replicate (2 - (lg_sl ([.ref (adK i), .int j])).length) Slot.unset).toArray = ls at hl ⊢
  have hV := hX.2.2.2.2.2.2.2.2.1
  have hlt : j.toNatClampNeg < strN i := Nat.lt_of_not_le (fun q => hj (Or.inr q))
  have hsb := strB_ok i hi _ hlt
  refine lv_aload_n hx hb (k := 0) (by decide +kernel) rfl (lv_at hl 0 rfl) ?_
  refine W.callR (W.runV (C := RJ0) (As := []) (b := adK i) (rest := []) ⟨hx, hb, hml, hown, hts⟩ (m_isLatin1 hi) ⟨callB_of 0 hts (gcode (fun w h => List.mem_cons_of_mem _ h) (AW_s (List.mem_of_getElem? (i := 17) rfl))) rfl rfl rfl (hw _ (List.mem_of_getElem? (i := 6) rfl)) (hw _ (List.mem_of_getElem? (i := 14) rfl)) (by decide +kernel) ⟨Nat.le_of_ble_eq_true rfl, Nat.le_of_ble_eq_true rfl⟩, hw _ (List.mem_of_getElem? (i := 15) rfl), hw _ (List.mem_of_getElem? (i := 16) rfl)⟩ ⟨PcX_blind, vk_recv hV hi hS, PcX_here hX hB (Nat.le_refl _) (fun _ _ _ => rfl)⟩ rfl rfl hl.1 rfl (lv_room (Nat.le_of_ble_eq_true rfl)) dJ0_charAt_5068e_1 ⟨Nat.zero_le _, Nat.zero_le _⟩) ?_
  refine lv_if_eq (tgt := 16) hx hb (off := 12) dJ0_charAt_5068e_4 rfl (fun q => by cases q) (fun _ => ?_)
  refine lv_aload_n hx hb (k := 0) dJ0_charAt_5068e_7 rfl (lv_at hl 0 rfl) ?_
  refine vk_getf hx hb (hV.1 i hi).2.2.1 hS hown (hw _ (List.mem_of_getElem? (i := 7) rfl)) (fun _ h => h) dJ0_charAt_5068e_8 ?_
  refine lv_iload_n hx hb (k := 1) dJ0_charAt_5068e_11 rfl (lv_at hl 1 rfl) ?_
  refine W.callR (W.runS (As := [.ref (adV i), .int j]) (rest := []) ⟨hx, hb, hml, hown, hts⟩ (m_ch1 hi hj) ⟨callB_of 2 hts (gcode (fun w h => List.mem_cons_of_mem _ h) (AW_s (List.mem_of_getElem? (i := 21) rfl))) rfl rfl rfl (hw _ (List.mem_of_getElem? (i := 20) rfl)) (hw _ (List.mem_of_getElem? (i := 18) rfl)) (by decide +kernel) ⟨Nat.le_of_ble_eq_true rfl, Nat.le_of_ble_eq_true rfl⟩, hw _ (List.mem_of_getElem? (i := 19) rfl)⟩ ⟨PcX_blind, PcX_here hX hB (Nat.le_refl _) (fun _ _ _ => rfl)⟩ rfl rfl hl.1 rfl (lv_room (Nat.le_of_ble_eq_true rfl)) dJ0_charAt_5068e_12 ⟨Nat.zero_le _, Nat.zero_le _⟩) ?_
  exact W.zret hx hb hr hsb.2 (fun t ht _ => ⟨rfl, ht⟩) (fun _ h => absurd h List.not_mem_nil) dJ0_charAt_5068e_15 hlocks
theorem str_snd {A : Nat → Option Nat} {kA : Nat → ClassId} {D : va_G} {X : Int → Int} {XL : Int} (d : Nat) {p : Program} {e : Env} {R : Room} {s : State} {m : MethodId} {args : Array Value} {below : List Frame} {meth : Method} {c : Code} {QQ : State → Prop} {cc : ByteArray} {nL o len0 tot0 : Nat} {Ts : List Cond} (hF : FxC p s m c args cc nL (ON o) Ts D kA A B len0 adK adV) (ho : o < 14) (hAT : ∀ w ∈ AW, w ∈ Ts) (_ : 1 ≤ R.frames) (_ : 100 ≤ R.locals) (hRf : d + 1 ≤ R.frames) (hRl : 100 * (d + 1) ≤ R.locals) :
    ∀ (idx y n pc : Nat) (k : Blk), (idx, y) ∈ mTab o → (y = 1005 ∧ n = 1) ∨ (y = 1006 ∧ n = 2) → decode cc pc = .ok (.invokevirtual idx, 3) → Sd p l e R s m args below meth c QQ B A kA D nL len0 tot0 (pc + 3) k → Sd p l e R s m args below meth c QQ B A kA D nL len0 tot0 pc (o_call (WP X XL d) y n k) := by
  intro idx y n pc k hm hyn hdg hk lo st h H ls locs cells slots fr q
  obtain ⟨q1, q2, q3⟩ := q
  have hX := hF.2.2.2.2.2.2.2.2.2.2.2
  have hB : B ≤ s.heap.size := by rw [hF.2.2.2.2.2.2.1]; omega
  have hts := hF.2.2.2.2.1
  have hw : ∀ w ∈ wS, w.before args s = true := fun w h => hts w (hAT w (AW_s h))
  have hA : ∀ r, r = 900001 ∨ r = 900002 → ∃ i, i < 2 ∧ A r = some (adK i) ∧ strL r = (strN i : Int) ∧ ∀ j : Nat, j < strN i → strB i j = Int32.ofInt (strC r j) := by
    intro r hr
    rcases hr with rfl | rfl
    · exact ⟨0, by omega, hF.2.2.2.2.2.2.2.2.2.1, by decide +kernel, by decide +kernel⟩
    · exact ⟨1, by omega, hF.2.2.2.2.2.2.2.2.2.2.1, by decide +kernel, by decide +kernel⟩
  have hchr : ∀ r, r = 900001 ∨ r = 900002 → ∀ j : Nat, j < 130 → 0 ≤ strC r j ∧ strC r j < 200 := by
    intro r hr
    rcases hr with rfl | rfl <;> decide +kernel
  have hsmall : ∀ r, r = 900001 ∨ r = 900002 → 0 ≤ strL r ∧ strL r < 130 := by
    intro r hr
    rcases hr with rfl | rfl <;> decide +kernel
  cases d with
  | zero => exact q3.elim
  | succ d =>
    unfold WP at q3
    rcases hyn with ⟨rfl, rfl⟩ | ⟨rfl, rfl⟩
    · rw [if_neg (by omega)] at q3
      obtain ⟨h4, q3⟩ := q3
      rcases st with _ | ⟨v, st'⟩
      · simp at q2
      rcases v with z | z | r
      · exact q3.elim
      · exact q3.elim
      have q3 : (r = 900001 ∨ r = 900002) ∧ k lo (vI (strL r) :: st') h := q3
      obtain ⟨hr, q4⟩ := q3
      obtain ⟨i, hi, hAi, hlen, -⟩ := hA r hr
      have hcat := cat_le (A := A) (st := st')
      have hsm := hsmall r hr
      simp at q1
      have hwk := hk lo (vI (strL r) :: st') h H ls locs cells slots (fr.st (cons_ok ⟨by omega, by omega⟩ (tl_ok fr.ok))) q4
      rw [List.map_cons, show trV A (Sum.inr (Sum.inr r)) = .ref (adK i) by simp [trV, va_rf, hAi]]
      have er : Int32.ofInt (strL r) = Int32.ofNat (strN i) := by rw [hlen]; rfl
      refine W.callR (W.runV (C := RJ0) (As := []) (b := adK i) (rest := st'.map (trV A)) ⟨hF.1, hF.2.1, hF.2.2.1, hF.2.2.2.1, hts⟩ (m_length hi) ⟨callB_of 0 hts (gcode hAT (AW_s (List.mem_of_getElem? (i := 0) rfl))) rfl rfl rfl (hw _ (List.mem_of_getElem? (i := 6) rfl)) (hts _ (hAT _ (AW_m ho hm))) (by decide +kernel) ⟨by show 2 + 1 ≤ _; omega, by show 8 + (1 + 11) + 200 ≤ _; omega⟩, hw _ (List.mem_of_getElem? (i := 1) rfl), hw _ (List.mem_of_getElem? (i := 2) rfl)⟩ ⟨PcX_blind, vk_recv hX.2.2.2.2.2.2.2.2.1 hi fr.2.1, PcX_here hX hB fr.2.1.1 fr.2.1.2.1⟩ rfl rfl fr.2.2.1.1 rfl (lv_room (by omega)) hdg ⟨fr.2.2.2.1.2.1, fr.2.2.2.1.2.2⟩) ?_
      rw [← er]
      exact hwk
    · rw [if_neg (by omega)] at q3
      obtain ⟨h4, q3⟩ := q3
      rcases st with _ | ⟨v1, _ | ⟨v, st'⟩⟩
      · simp at q2
      · simp at q2
      rcases v with z | z | r
      · exact q3.elim
      · exact q3.elim
      rcases v1 with j | j | j
      · have q3 : ((r = 900001 ∨ r = 900002) ∧ 0 ≤ j ∧ j < strL r) ∧ k lo (vI (strC r j) :: st') h := q3
        obtain ⟨⟨hr, hj0, hj1⟩, q4⟩ := q3
        obtain ⟨i, hi, hAi, hlen, hch⟩ := hA r hr
        have hcat := cat_le (A := A) (st := st')
        have hsm := hsmall r hr
        have hcr := hchr r hr j.toNat (by omega)
        rw [ix_nat hj0] at hcr
        have hji : inI j := hd_ok fr.ok
        simp at q1
        have hwk := hk lo (vI (strC r j) :: st') h H ls locs cells slots (fr.st (cons_ok ⟨by omega, by omega⟩ (tl_ok (tl_ok fr.ok)))) q4
        rw [List.map_cons, List.map_cons, show trV A (Sum.inr (Sum.inr r)) = .ref (adK i) by simp [trV, va_rf, hAi]]
        have hin : vp_in (Int32.ofInt j) (strN i) := i32_vin hji hj0 (by omega)
        have er : strB i (Int32.ofInt j).toNatClampNeg = Int32.ofInt (strC r j) := by
          rw [i32_clamp hji hj0, hch _ (by omega), ix_nat hj0]
        refine W.callR (W.runV (C := RJ0) (As := [.int (Int32.ofInt j)]) (b := adK i) (rest := st'.map (trV A)) ⟨hF.1, hF.2.1, hF.2.2.1, hF.2.2.2.1, hts⟩ (m_charAt hi hin) ⟨callB_of 1 hts (gcode hAT (AW_s (List.mem_of_getElem? (i := 3) rfl))) rfl rfl rfl (hw _ (List.mem_of_getElem? (i := 6) rfl)) (hts _ (hAT _ (AW_m ho hm))) (by decide +kernel) ⟨by show 4 + 1 ≤ _; omega, by show 8 + (2 + 11) + 400 ≤ _; omega⟩, hw _ (List.mem_of_getElem? (i := 4) rfl), hw _ (List.mem_of_getElem? (i := 5) rfl)⟩ ⟨PcX_blind, vk_recv hX.2.2.2.2.2.2.2.2.1 hi fr.2.1, PcX_here hX hB fr.2.1.1 fr.2.1.2.1⟩ rfl rfl fr.2.2.1.1 rfl (lv_room (by omega)) hdg ⟨fr.2.2.2.1.2.1, fr.2.2.2.1.2.2⟩) ?_
        rw [er]
        exact hwk
      · exact q3.elim
      · exact q3.elim
end STR
end
section
/-! THE CLAIM OUT OF ONE WALK OF THE LAW'S BODY. Your part is whole_start (and what it stands on); all else here is the same for every law, but numbers. -/
def R_law : String := "LeapArchesLaw"
def lw_P (b : Addr) (xs : List Int32) (args : Array Value) (s : State) : Prop := args = #[.ref b] ∧ s.IntsAt b xs ∧ xs.length ≤ 3072 ∧ (Jvm.Cond.and given_1 narrow_1).before args s = true
def lw_Q (_ : Array Value) (s : State) (o : Outcome) (t : State) : Prop := o = .returned (some (.int 1)) ∧ Framed s o t [] 600000 7302250
def lw_Z (below : List Frame) (a : Array Value) (s : State) : State → Prop := fun t => ∃ o, t.status = .running ∧ Ended t below o ∧ lw_Q a s o t
/-- the law's own end, with 1 on the stack, nothing written that was there before, its room as the claim has it -/
theorem lw_ret {p : Program} {l : Launch} {e : Env} {s : State} {m : MethodId} {below : List Frame} {meth : Method} {c : Code} {b : Nat} (hx : p.tables.exec = Jvm.exec) (hb : c.code = code) (hr : meth.sig.returnType = ret) (hlocks : meth.locks = false) {pc : Nat} {H : Heap} {ls : Array Slot} (hdg : decode code pc = .ok (.ireturn, 1)) : W p l e room_1 s m #[Value.ref b] below meth c H [] 600000 7302250 (lw_Z below #[Value.ref b] s) (F0 m pc ls [.int 1]) := by
  intro T hT X
  obtain ⟨fs, hret, hrun, hended, hW, hframe⟩ := X.leave (v := some (.int 1)) (hlocks := hlocks) (fun h => by rw [hr] at h; cases h)
  have hmeth' : T.vm.method? m = some meth := X.method'
  refine ⟨T.setFrames fs, ?_, .returned (some (.int 1)), hrun, hended, rfl, ⟨_, rfl⟩, hW, hframe⟩
  jvm_step X.here [X.here.top, hx, hb, hdg, hmeth', hr, ret, narrow_b1]
  (try refine ⟨rfl, ?_⟩); (try refine ⟨rfl, ?_⟩)
  first | (intro acts; rw [hret _ acts rfl rfl rfl]) | rw [hret _ _ rfl rfl rfl]
  exact Steps.refl _
/-- what holds at the law's entry: the machine, the code, the tables' words (any of lw_tbl by 'hts w (by decide +kernel)'), the script of L ints xs at the cell b, what the Statement gives of the start (any of its parts by flat_of_before) -/
def lw_At (p : Program) (s : State) (m : MethodId) (meth : Method) (c : Code) (b L : Nat) (xs : Nat → Int32) : Prop :=
  p.tables.exec = Jvm.exec ∧ c.code = code ∧ meth.sig.returnType = ret ∧ c.maxLocals = 4 ∧ s.vm.findClass R_law = some m.cls ∧ (∀ w ∈ lw_tbl, w.before #[Value.ref b] s = true) ∧ va_X b L xs s s.heap ∧ b < s.heap.size ∧ meth.locks = false ∧ (Jvm.Cond.and given_1 narrow_1).before #[Value.ref b] s = true
/-- what is to be shown of the model: the law answers 1 -/
def LawOk : Prop := ∀ (X : Int → Int) (XL : Int), 0 ≤ XL → XL ≤ 3072 → (∀ i, inI (X i)) → WP X XL 41 353 [vR 900000] ([], fun _ _ => 0, fun _ _ => 999999) (fun r _ => r = some (vI 1))
theorem flat_at {args : Array Value} {s : State} (h : (Jvm.Cond.and given_1 narrow_1).before args s = true) {i : Nat} {w : Cond} (hi : (flatC (Jvm.Cond.and given_1 narrow_1))[i]? = some w) : w.before args s = true := flat_of_before _ h w (List.mem_of_getElem? hi)
def tmS (i : Nat) : Term := if i = 0 then .string "LeapArches$Text" 82 else .string "LeapArchesModel" 181
set_option maxRecDepth 100000 in
theorem fl_str : ∀ i, i < 2 → (flatC (Jvm.Cond.and given_1 narrow_1))[42 + 127 * i]? = some (Cond.exactly (tmS i) "java/lang/String") ∧ (flatC (Jvm.Cond.and given_1 narrow_1))[43 + 127 * i]? = some (Cond.eq (.field (tmS i) "java/lang/String" "coder" "B") (.int 0)) ∧ (flatC (Jvm.Cond.and given_1 narrow_1))[44 + 127 * i]? = some (Cond.arrayOf (.field (tmS i) "java/lang/String" "value" "[B") .byte) ∧ (flatC (Jvm.Cond.and given_1 narrow_1))[45 + 127 * i]? = some (Cond.eq (.length (.field (tmS i) "java/lang/String" "value" "[B")) (.int (Int32.ofNat (([st0.length, st1.length] : List Nat).getD i 0)))) := by decide +kernel
set_option maxRecDepth 100000 in
theorem fl_el : ∀ i, i < 2 → ∀ j, j < (([st0.length, st1.length] : List Nat).getD i 0) → (flatC (Jvm.Cond.and given_1 narrow_1))[46 + 127 * i + j]? = some (Cond.eq (.elem (.field (tmS i) "java/lang/String" "value" "[B") (.int (Int32.ofNat j))) (.int ((([st0.map Int32.ofInt, st1.map Int32.ofInt] : List (List Int32)).getD i []).getD j 0))) := by decide +kernel
theorem fl_ne : (flatC (Jvm.Cond.and given_1 narrow_1))[297]? = some (Cond.not (Cond.eq (tmS 0) (tmS 1))) := by decide +kernel
theorem fl_cs : (flatC (Jvm.Cond.and given_1 narrow_1))[4]? = some (Cond.eq (.static "java/lang/String" "COMPACT_STRINGS" "Z") (.int 1)) := by decide +kernel
theorem fl_sf : (flatC (Jvm.Cond.and given_1 narrow_1))[5]? = some (Cond.isRef (.static "jdk/internal/util/Preconditions" "SIOOBE_FORMATTER" "Ljava/util/function/BiFunction;")) := by decide +kernel
set_option maxHeartbeats 4000000 in
theorem law_start (hLaw : LawOk) {p : Program} {e : Env} {s : State} {m : MethodId} {below : List Frame} {meth : Method} {c : Code} (l : Launch) {b L : Nat} {xs : Nat → Int32} (hL : L ≤ 3072) (C0 : lw_At p s m meth c b L xs) : W p l e room_1 s m #[Value.ref b] below meth c s.heap [] 0 0 (lw_Z below #[Value.ref b] s) (entryFrame m ([Value.ref b] : List Value).toArray 4) := by
  obtain ⟨hx, hb, hr, hml, hown, hts, hXs, hbl, hlocks, hgv⟩ := C0
  have hAW : ∀ w ∈ AW, w.before #[Value.ref b] s = true := fun w h => hts w (AW_tbl w h)
  have hcls : ∀ c : Nat, ∃ q : ClassId × (Nat → Nat), c < 11 → u_Kn s (RR c) (TT c) (NN c) q.1 q.2 := by
    intro c
    by_cases hc : c < 11
    · obtain ⟨cC, iS, h⟩ := u_known (T := TT c) (N := NN c) hAW (AW_lay hc) (hAW _ (AW_ins hc))
      exact ⟨(cC, iS), fun _ => h⟩
    · exact ⟨(0, fun _ => 0), fun h => absurd h hc⟩
  obtain ⟨Dq, hDq⟩ := Classical.skolem.mp hcls
  have hao6 : va_AO RX6 s := va_AO.of (hts _ (t_1 (i := 29) (by decide +kernel)))
  have hao7 : va_AO RX7 s := va_AO.of (hts _ (t_2 (i := 68) (by decide +kernel)))
  have hao3 : va_AO RX3 s := va_AO.of (hts _ (t_2 (i := 69) (by decide +kernel)))
  have harr : ∀ k : Nat, ∃ cA : ClassId, (k = 100 ∨ k = 101 ∨ k = 102 ∨ k = 103 → ArrOfT s cA (kTy k) ∧ va_RA s cA (kTy k)) ∧ (k = 104 ∨ k = 105 ∨ k = 106 → ArrOfT s cA (.object (kC k)) ∧ va_RA s cA (.object (kC k))) := by
    intro k
    by_cases h1 : k = 100 ∨ k = 101 ∨ k = 102 ∨ k = 103
    · have hw : (Cond.arrayClass (kTy k)).before #[Value.ref b] s = true := by
        refine hAW _ (AW_o (List.mem_append_right _ ?_))
        rcases h1 with rfl | rfl | rfl | rfl <;> simp [kTy]
      obtain ⟨cA, kk, comp, f1, f2, f3⟩ := Cond.arrayClass_spec hw
      refine ⟨cA, fun _ => ⟨fun N z => ⟨(fun k h => by cases h), kk, f2, comp, f3⟩, ?_⟩, fun h => by omega⟩
      rcases h1 with rfl | rfl | rfl | rfl <;> exact f1
    · by_cases h2 : k = 104 ∨ k = 105 ∨ k = 106
      · have hov : va_AO (kC k) s := by
          rcases h2 with rfl | rfl | rfl
          · exact hao6
          · exact hao7
          · exact hao3
        obtain ⟨comp, cA, kk, g1, -, g3, g4, g5⟩ := Cond.arrayOver_spec (va_AO.use (A := #[Value.ref b]) hov)
        exact ⟨cA, fun h => absurd h h1, fun _ => ⟨fun N z => ⟨(fun k h => by cases h), kk, g3, comp, g4⟩, kk, comp, g3, g4, g1, g5⟩⟩
      · exact ⟨0, fun h => absurd h h1, fun h => absurd h h2⟩
  obtain ⟨kA, hkA⟩ := Classical.skolem.mp harr
  have hK : va_K ((fun c => (Dq c).1, fun c => (Dq c).2) : va_G) vwCl (tys7 kA) s := by
    refine ⟨fun c q hq => ?_, fun k q hq => ?_⟩
    · have hc : c < 11 := (List.getElem?_eq_some_iff.mp hq).1
      have := vw_at c hc
      rw [hq] at this
      cases this
      exact hDq c hc
    · have hk : k < 7 := (List.getElem?_eq_some_iff.mp hq).1
      rcases (show k = 0 ∨ k = 1 ∨ k = 2 ∨ k = 3 ∨ k = 4 ∨ k = 5 ∨ k = 6 by omega) with rfl | rfl | rfl | rfl | rfl | rfl | rfl <;> cases hq
      · exact (hkA 100).1 (by omega)
      · exact (hkA 101).1 (by omega)
      · exact (hkA 102).1 (by omega)
      · exact (hkA 103).1 (by omega)
      · exact (hkA 104).2 (by omega)
      · exact (hkA 105).2 (by omega)
      · exact (hkA 106).2 (by omega)
  have hnA : ∀ a : Nat, a < s.heap.size → ¬ (fun q => s.heap.size ≤ q) a := fun a h => Nat.not_le.mpr h
  obtain ⟨adK, adV, hS, hev⟩ := vk_Sof (args := #[Value.ref b]) (s := s) (N := 2) (tm := tmS) (len := [st0.length, st1.length]) (byt := [st0.map Int32.ofInt, st1.map Int32.ofInt]) (A := fun q => s.heap.size ≤ q) (by decide +kernel) (fun i hi => flat_at hgv (fl_str i hi).1) (fun i hi => flat_at hgv (fl_str i hi).2.1) (fun i hi => flat_at hgv (fl_str i hi).2.2.1) (fun i hi => flat_at hgv (fl_str i hi).2.2.2) (fun i hi j hj => flat_at hgv (fl_el i hi j hj)) (fun i j hi hj hne => by
      rcases (show (i = 0 ∧ j = 1) ∨ (i = 1 ∧ j = 0) by omega) with ⟨rfl, rfl⟩ | ⟨rfl, rfl⟩
      · exact Or.inl (flat_at hgv fl_ne)
      · exact Or.inr (flat_at hgv fl_ne)) hnA
  have hXk : Xk adK adV s.heap.size s := ⟨hao6, hao7, hao3, va_Nw.of rfl (hts _ (t_3 (i := 160) (by decide +kernel))), va_Nw.of rfl (hts _ (t_4 (i := 162) (by decide +kernel))), va_Nw.of rfl (hts _ (t_5 (i := 58) (by decide +kernel))), vk_R.of (hts _ (t_3 (i := 89) (by decide +kernel))) (hev 0 (by omega)), vk_R.of (hts _ (t_7 (i := 50) (by decide +kernel))) (hev 1 (by omega)), hS, va_Zof (hts _ (t_3 (i := 99) (by decide +kernel))) (hts _ (t_1 (i := 15) (by decide +kernel))) (va_eqi (flat_at hgv fl_cs)) hnA, va_Zqof (hts _ (t_3 (i := 115) (by decide +kernel))) (hts _ (t_1 (i := 17) (by decide +kernel))) (flat_at hgv fl_sf) hnA⟩
  obtain ⟨A, hAd⟩ : ∃ A : Nat → Option Nat, A = fun r => if r = 900000 then some b else if r = 900001 then some (adK 0) else if r = 900002 then some (adK 1) else if r = 999999 then none else some (s.heap.size + r) := ⟨_, rfl⟩
  have hAr : ∀ r, r < 900000 → A r = some (s.heap.size + r) := by
    intro r h
    rw [hAd]
    simp only
    rw [if_neg (by omega), if_neg (by omega), if_neg (by omega), if_neg (by omega)]
  have hAn : A 999999 = none := by rw [hAd]; rfl
  have hA0 : A 900000 = some b := by rw [hAd]; rfl
  have hA1 : A 900001 = some (adK 0) := by rw [hAd]; rfl
  have hA2 : A 900002 = some (adK 1) := by rw [hAd]; rfl
  have hF : FxC p s m c #[Value.ref b] code 4 (ON 11) AW ((fun c => (Dq c).1, fun c => (Dq c).2) : va_G) kA A s.heap.size 0 adK adV := ⟨hx, hb, hml, hown, hAW, hK, rfl, hAr, hAn, hA1, hA2, hXk⟩
  have hq := hLaw (fun i => (xs i.toNat).toInt) (L : Int) (by omega) (by omega) (fun i => i32_in _)
  unfold WP at hq
  rw [if_pos (by omega)] at hq
  obtain ⟨-, hq⟩ := hq
  rw [lg_entry_eq]
  have hl := lv_entry ([Value.ref b]) (n := 4) (Nat.le_of_ble_eq_true rfl)
  generalize (lg_sl ([Value.ref b]) ++ List.replicate (4 - (lg_sl ([Value.ref b])).length) Slot.unset).toArray = ls at hl ⊢
  have fr : FrC room_1 s 4 s.heap.size A kA ((fun c => (Dq c).1, fun c => (Dq c).2) : va_G) 0 0 (entL [vR 900000] 4) [] ([], fun _ _ => 0, fun _ _ => 999999) s.heap ls [] 0 0 := by
    refine ⟨⟨(fun k q h => by cases h), ⟨fun i j p q h => (by cases h), fun k q h => (by cases h)⟩, by decide, fun r q h => (by cases h), fun r q h => (by cases h)⟩, va_S.rf, ⟨hl.1, hl.2.1, fun q hq => ?_⟩, ⟨rfl, Nat.zero_le _, Nat.zero_le _⟩, fun i v hn => ?_, (fun v hv => absurd hv List.not_mem_nil), rfl, rfl⟩
    · have := prs_ent (A := A) 3 [vR 900000] 0 q hq
      simp only [List.map_cons, List.map_nil, trV, hA0, va_rf] at this
      exact hl.2.2 q this
    · exact ent_ok (as := [vR 900000]) (fun v hv => by rw [List.mem_singleton.mp hv]; trivial) hn
  have hC := met_all (l := l) (kA := kA) (adV := adV) (D := ((fun c => (Dq c).1, fun c => (Dq c).2) : va_G)) (X := fun i => (xs i.toNat).toInt) (XL := (L : Int)) hAr hAn hA1 hA2 yk_all ck_all nk_all (fun d => str_snd d) 40
  refine ex_snd (S1 := growM 353) (o := 11) (ctor := false) (rb := 1) (d := 40) hF (by omega) (fun w h => h) yk_all (by decide) (by decide) (by decide +kernel) (by decide +kernel) (fun h => by cases h) hC ?_ ?_ ?_ (fun h => by omega) (fun h => by omega) (K := KL_law) ?_ fr hq
  · intro idx y n pc k hm hyn
    exfalso
    have : ∀ q ∈ mTab 11, ¬ (q.2 = 1005 ∨ q.2 = 1006) := by decide +kernel
    exact this _ hm (by rcases hyn with ⟨rfl, _⟩ | ⟨rfl, _⟩ <;> simp)
  · intro _ pc k hk
    refine ⟨fun hdg lo st h H ls locs cells slots fr q => ?_, fun hdg lo st h H ls locs cells slots fr q => ?_⟩
    · dsimp only at q
      split at q
      · rename_i i st'
        obtain ⟨q, -⟩ := q
        have q : (0 ≤ i ∧ i < (L : Int)) ∧ k lo (vI ((xs i.toNat).toInt) :: st') h := q.2
        obtain ⟨⟨h0, h1⟩, q⟩ := q
        have hi : inI i := hd_ok fr.ok
        have hw := hk lo (vI ((xs i.toNat).toInt) :: st') h H ls locs cells slots (fr.st (cons_ok (i32_in _) (tl_ok (tl_ok fr.ok)))) q
        rw [List.map_cons, List.map_cons, show trV A (Sum.inr (Sum.inr 900000)) = .ref b by simp [trV, va_rf, hA0]]
        refine va_sld hx hb hXs hbl (Nat.not_le.mpr hbl) fr.2.1 (i32_vin hi h0 h1) hdg ?_
        rw [i32_clamp hi h0, ← i32_oi (xs i.toNat)]
        exact hw
      · exact q.elim
    · dsimp only at q
      split at q
      · rename_i st'
        obtain ⟨q, -⟩ := q
        have q : k lo (vI (L : Int) :: st') h := q.2
        have hw := hk lo (vI (L : Int) :: st') h H ls locs cells slots (fr.st (cons_ok ⟨by omega, by omega⟩ (tl_ok fr.ok))) q
        rw [List.map_cons, show trV A (Sum.inr (Sum.inr 900000)) = .ref b by simp [trV, va_rf, hA0]]
        exact va_slen hx hb hXs hbl (Nat.not_le.mpr hbl) fr.2.1 hdg hw
      · exact q.elim
  · intro _ pc hdg lo st h H ls locs cells slots fr q
    unfold o_iret at q
    split at q
    · rename_i z
      obtain ⟨_, q⟩ := q
      have e : z = 1 := by
        have := Option.some.inj q
        exact Sum.inl.inj this
      subst e
      refine va_forget (fun q hq => fr.2.1.2.2 q hq) ?_
      refine W.widen (k := 600000) (n := 7302250) fr.2.2.2.1.2.1 fr.2.2.2.1.2.2 ?_
      exact lw_ret hx hb hr hlocks hdg
    · exact q.elim
  · exact law_chk
end
