/-! all the words that the methods need stand in the tables -/
theorem t_1 {w : Cond} {i : Nat} (h : tables_1_1[i]? = some w) : w ∈ lw_tbl := List.mem_append_right _ (List.mem_append_left _ (List.mem_of_getElem? h))
theorem t_2 {w : Cond} {i : Nat} (h : tables_1_2[i]? = some w) : w ∈ lw_tbl := List.mem_append_right _ (List.mem_append_right _ (List.mem_append_left _ (List.mem_of_getElem? h)))
theorem t_3 {w : Cond} {i : Nat} (h : tables_1_3[i]? = some w) : w ∈ lw_tbl := List.mem_append_right _ (List.mem_append_right _ (List.mem_append_right _ (List.mem_append_left _ (List.mem_of_getElem? h))))
theorem t_4 {w : Cond} {i : Nat} (h : tables_1_4[i]? = some w) : w ∈ lw_tbl := List.mem_append_right _ (List.mem_append_right _ (List.mem_append_right _ (List.mem_append_right _ (List.mem_append_left _ (List.mem_of_getElem? h)))))
theorem t_5 {w : Cond} {i : Nat} (h : tables_1_5[i]? = some w) : w ∈ lw_tbl := List.mem_append_right _ (List.mem_append_right _ (List.mem_append_right _ (List.mem_append_right _ (List.mem_append_right _ (List.mem_append_left _ (List.mem_of_getElem? h))))))
theorem t_6 {w : Cond} {i : Nat} (h : tables_1_6[i]? = some w) : w ∈ lw_tbl := List.mem_append_right _ (List.mem_append_right _ (List.mem_append_right _ (List.mem_append_right _ (List.mem_append_right _ (List.mem_append_right _ (List.mem_append_left _ (List.mem_of_getElem? h)))))))
theorem t_7 {w : Cond} {i : Nat} (h : tables_1_7[i]? = some w) : w ∈ lw_tbl := List.mem_append_right _ (List.mem_append_right _ (List.mem_append_right _ (List.mem_append_right _ (List.mem_append_right _ (List.mem_append_right _ (List.mem_append_right _ (List.mem_append_left _ (List.mem_of_getElem? h))))))))
theorem t_8 {w : Cond} {i : Nat} (h : tables_1_8[i]? = some w) : w ∈ lw_tbl := List.mem_append_right _ (List.mem_append_right _ (List.mem_append_right _ (List.mem_append_right _ (List.mem_append_right _ (List.mem_append_right _ (List.mem_append_right _ (List.mem_append_right _ (List.mem_append_left _ (List.mem_of_getElem? h)))))))))
theorem t_9 {w : Cond} {i : Nat} (h : tables_1_9[i]? = some w) : w ∈ lw_tbl := List.mem_append_right _ (List.mem_append_right _ (List.mem_append_right _ (List.mem_append_right _ (List.mem_append_right _ (List.mem_append_right _ (List.mem_append_right _ (List.mem_append_right _ (List.mem_append_right _ (List.mem_of_getElem? h)))))))))
theorem t_0 {w : Cond} {i : Nat} (h : (k2_sels lw_privs)[i]? = some w) : w ∈ lw_tbl := List.mem_append_left _ (List.mem_of_getElem? h)
set_option maxRecDepth 20000 in
theorem w_f0 : ∀ w ∈ wF 0, w ∈ lw_tbl := List.forall_mem_cons.mpr ⟨t_2 (i := 96) (by decide +kernel), List.forall_mem_cons.mpr ⟨t_2 (i := 97) (by decide +kernel), List.forall_mem_cons.mpr ⟨t_2 (i := 98) (by decide +kernel), List.forall_mem_cons.mpr ⟨t_2 (i := 99) (by decide +kernel), List.forall_mem_cons.mpr ⟨t_1 (i := 149) (by decide +kernel), List.forall_mem_cons.mpr ⟨t_1 (i := 122) (by decide +kernel), List.forall_mem_cons.mpr ⟨t_1 (i := 127) (by decide +kernel), fun _ h => absurd h List.not_mem_nil⟩⟩⟩⟩⟩⟩⟩
set_option maxRecDepth 20000 in
theorem w_m0 : ∀ w ∈ wMt 0, w ∈ lw_tbl := List.forall_mem_cons.mpr ⟨t_2 (i := 95) (by decide +kernel), List.forall_mem_cons.mpr ⟨t_5 (i := 163) (by decide +kernel), List.forall_mem_cons.mpr ⟨t_5 (i := 173) (by decide +kernel), List.forall_mem_cons.mpr ⟨t_5 (i := 167) (by decide +kernel), List.forall_mem_cons.mpr ⟨t_5 (i := 179) (by decide +kernel), List.forall_mem_cons.mpr ⟨t_5 (i := 180) (by decide +kernel), List.forall_mem_cons.mpr ⟨t_5 (i := 171) (by decide +kernel), List.forall_mem_cons.mpr ⟨t_5 (i := 177) (by decide +kernel), List.forall_mem_cons.mpr ⟨t_5 (i := 178) (by decide +kernel), List.forall_mem_cons.mpr ⟨t_5 (i := 172) (by decide +kernel), fun _ h => absurd h List.not_mem_nil⟩⟩⟩⟩⟩⟩⟩⟩⟩⟩
theorem w_c0 : ∀ w ∈ wC 0, w ∈ lw_tbl := fun _ h => absurd h List.not_mem_nil
theorem w_k0 : ∀ w ∈ wK 0, w ∈ lw_tbl := fun _ h => absurd h List.not_mem_nil
theorem w_l0 : ∀ w ∈ wLg 0, w ∈ lw_tbl := fun _ h => absurd h List.not_mem_nil
set_option maxRecDepth 20000 in
theorem w_f1 : ∀ w ∈ wF 1, w ∈ lw_tbl := List.forall_mem_cons.mpr ⟨t_2 (i := 76) (by decide +kernel), List.forall_mem_cons.mpr ⟨t_2 (i := 77) (by decide +kernel), List.forall_mem_cons.mpr ⟨t_1 (i := 134) (by decide +kernel), List.forall_mem_cons.mpr ⟨t_2 (i := 79) (by decide +kernel), List.forall_mem_cons.mpr ⟨t_1 (i := 117) (by decide +kernel), List.forall_mem_cons.mpr ⟨t_2 (i := 80) (by decide +kernel), fun _ h => absurd h List.not_mem_nil⟩⟩⟩⟩⟩⟩
set_option maxRecDepth 20000 in
theorem w_m1 : ∀ w ∈ wMt 1, w ∈ lw_tbl := List.forall_mem_cons.mpr ⟨t_2 (i := 75) (by decide +kernel), List.forall_mem_cons.mpr ⟨t_5 (i := 48) (by decide +kernel), List.forall_mem_cons.mpr ⟨t_5 (i := 49) (by decide +kernel), List.forall_mem_cons.mpr ⟨t_5 (i := 54) (by decide +kernel), List.forall_mem_cons.mpr ⟨t_5 (i := 52) (by decide +kernel), List.forall_mem_cons.mpr ⟨t_5 (i := 53) (by decide +kernel), List.forall_mem_cons.mpr ⟨t_5 (i := 59) (by decide +kernel), List.forall_mem_cons.mpr ⟨t_5 (i := 63) (by decide +kernel), List.forall_mem_cons.mpr ⟨t_5 (i := 70) (by decide +kernel), List.forall_mem_cons.mpr ⟨t_5 (i := 71) (by decide +kernel), List.forall_mem_cons.mpr ⟨t_5 (i := 89) (by decide +kernel), fun _ h => absurd h List.not_mem_nil⟩⟩⟩⟩⟩⟩⟩⟩⟩⟩⟩
theorem w_c1 : ∀ w ∈ wC 1, w ∈ lw_tbl := fun _ h => absurd h List.not_mem_nil
theorem w_k1 : ∀ w ∈ wK 1, w ∈ lw_tbl := fun _ h => absurd h List.not_mem_nil
theorem w_l1 : ∀ w ∈ wLg 1, w ∈ lw_tbl := fun _ h => absurd h List.not_mem_nil
set_option maxRecDepth 20000 in
theorem w_f2 : ∀ w ∈ wF 2, w ∈ lw_tbl := List.forall_mem_cons.mpr ⟨t_2 (i := 123) (by decide +kernel), List.forall_mem_cons.mpr ⟨t_2 (i := 124) (by decide +kernel), List.forall_mem_cons.mpr ⟨t_2 (i := 121) (by decide +kernel), List.forall_mem_cons.mpr ⟨t_2 (i := 122) (by decide +kernel), List.forall_mem_cons.mpr ⟨t_2 (i := 115) (by decide +kernel), List.forall_mem_cons.mpr ⟨t_2 (i := 117) (by decide +kernel), List.forall_mem_cons.mpr ⟨t_2 (i := 119) (by decide +kernel), List.forall_mem_cons.mpr ⟨t_1 (i := 234) (by decide +kernel), List.forall_mem_cons.mpr ⟨t_1 (i := 237) (by decide +kernel), List.forall_mem_cons.mpr ⟨t_2 (i := 12) (by decide +kernel), List.forall_mem_cons.mpr ⟨t_2 (i := 0) (by decide +kernel), List.forall_mem_cons.mpr ⟨t_2 (i := 6) (by decide +kernel), List.forall_mem_cons.mpr ⟨t_1 (i := 150) (by decide +kernel), List.forall_mem_cons.mpr ⟨t_1 (i := 126) (by decide +kernel), List.forall_mem_cons.mpr ⟨t_2 (i := 9) (by decide +kernel), List.forall_mem_cons.mpr ⟨t_2 (i := 3) (by decide +kernel), List.forall_mem_cons.mpr ⟨t_1 (i := 137) (by decide +kernel), List.forall_mem_cons.mpr ⟨t_1 (i := 172) (by decide +kernel), fun _ h => absurd h List.not_mem_nil⟩⟩⟩⟩⟩⟩⟩⟩⟩⟩⟩⟩⟩⟩⟩⟩⟩⟩
set_option maxRecDepth 20000 in
theorem w_m2 : ∀ w ∈ wMt 2, w ∈ lw_tbl := List.forall_mem_cons.mpr ⟨t_2 (i := 114) (by decide +kernel), List.forall_mem_cons.mpr ⟨t_6 (i := 10) (by decide +kernel), List.forall_mem_cons.mpr ⟨t_6 (i := 14) (by decide +kernel), List.forall_mem_cons.mpr ⟨t_6 (i := 36) (by decide +kernel), List.forall_mem_cons.mpr ⟨t_6 (i := 40) (by decide +kernel), List.forall_mem_cons.mpr ⟨t_6 (i := 44) (by decide +kernel), List.forall_mem_cons.mpr ⟨t_6 (i := 45) (by decide +kernel), List.forall_mem_cons.mpr ⟨t_6 (i := 18) (by decide +kernel), List.forall_mem_cons.mpr ⟨t_6 (i := 19) (by decide +kernel), List.forall_mem_cons.mpr ⟨t_6 (i := 20) (by decide +kernel), List.forall_mem_cons.mpr ⟨t_6 (i := 21) (by decide +kernel), List.forall_mem_cons.mpr ⟨t_6 (i := 22) (by decide +kernel), List.forall_mem_cons.mpr ⟨t_6 (i := 23) (by decide +kernel), List.forall_mem_cons.mpr ⟨t_6 (i := 27) (by decide +kernel), List.forall_mem_cons.mpr ⟨t_6 (i := 31) (by decide +kernel), fun _ h => absurd h List.not_mem_nil⟩⟩⟩⟩⟩⟩⟩⟩⟩⟩⟩⟩⟩⟩⟩
theorem w_c2 : ∀ w ∈ wC 2, w ∈ lw_tbl := fun _ h => absurd h List.not_mem_nil
set_option maxRecDepth 20000 in
theorem w_k2 : ∀ w ∈ wK 2, w ∈ lw_tbl := List.forall_mem_cons.mpr ⟨t_6 (i := 35) (by decide +kernel), fun _ h => absurd h List.not_mem_nil⟩
theorem w_l2 : ∀ w ∈ wLg 2, w ∈ lw_tbl := fun _ h => absurd h List.not_mem_nil
set_option maxRecDepth 20000 in
theorem w_f3 : ∀ w ∈ wF 3, w ∈ lw_tbl := List.forall_mem_cons.mpr ⟨t_1 (i := 236) (by decide +kernel), List.forall_mem_cons.mpr ⟨t_1 (i := 239) (by decide +kernel), List.forall_mem_cons.mpr ⟨t_2 (i := 2) (by decide +kernel), List.forall_mem_cons.mpr ⟨t_2 (i := 5) (by decide +kernel), List.forall_mem_cons.mpr ⟨t_2 (i := 8) (by decide +kernel), List.forall_mem_cons.mpr ⟨t_2 (i := 11) (by decide +kernel), List.forall_mem_cons.mpr ⟨t_1 (i := 227) (by decide +kernel), List.forall_mem_cons.mpr ⟨t_1 (i := 230) (by decide +kernel), List.forall_mem_cons.mpr ⟨t_1 (i := 233) (by decide +kernel), fun _ h => absurd h List.not_mem_nil⟩⟩⟩⟩⟩⟩⟩⟩⟩
set_option maxRecDepth 20000 in
theorem w_m3 : ∀ w ∈ wMt 3, w ∈ lw_tbl := List.forall_mem_cons.mpr ⟨t_1 (i := 222) (by decide +kernel), List.forall_mem_cons.mpr ⟨t_1 (i := 223) (by decide +kernel), List.forall_mem_cons.mpr ⟨t_6 (i := 69) (by decide +kernel), fun _ h => absurd h List.not_mem_nil⟩⟩⟩
theorem w_c3 : ∀ w ∈ wC 3, w ∈ lw_tbl := fun _ h => absurd h List.not_mem_nil
theorem w_k3 : ∀ w ∈ wK 3, w ∈ lw_tbl := fun _ h => absurd h List.not_mem_nil
theorem w_l3 : ∀ w ∈ wLg 3, w ∈ lw_tbl := fun _ h => absurd h List.not_mem_nil
set_option maxRecDepth 20000 in
theorem w_f4 : ∀ w ∈ wF 4, w ∈ lw_tbl := List.forall_mem_cons.mpr ⟨t_2 (i := 52) (by decide +kernel), List.forall_mem_cons.mpr ⟨t_2 (i := 55) (by decide +kernel), List.forall_mem_cons.mpr ⟨t_2 (i := 56) (by decide +kernel), List.forall_mem_cons.mpr ⟨t_2 (i := 53) (by decide +kernel), List.forall_mem_cons.mpr ⟨t_2 (i := 54) (by decide +kernel), List.forall_mem_cons.mpr ⟨t_1 (i := 57) (by decide +kernel), List.forall_mem_cons.mpr ⟨t_1 (i := 228) (by decide +kernel), List.forall_mem_cons.mpr ⟨t_1 (i := 231) (by decide +kernel), List.forall_mem_cons.mpr ⟨t_1 (i := 235) (by decide +kernel), List.forall_mem_cons.mpr ⟨t_1 (i := 238) (by decide +kernel), List.forall_mem_cons.mpr ⟨t_2 (i := 13) (by decide +kernel), List.forall_mem_cons.mpr ⟨t_2 (i := 1) (by decide +kernel), List.forall_mem_cons.mpr ⟨t_2 (i := 4) (by decide +kernel), List.forall_mem_cons.mpr ⟨t_1 (i := 119) (by decide +kernel), List.forall_mem_cons.mpr ⟨t_2 (i := 7) (by decide +kernel), List.forall_mem_cons.mpr ⟨t_2 (i := 10) (by decide +kernel), List.forall_mem_cons.mpr ⟨t_1 (i := 60) (by decide +kernel), fun _ h => absurd h List.not_mem_nil⟩⟩⟩⟩⟩⟩⟩⟩⟩⟩⟩⟩⟩⟩⟩⟩⟩
set_option maxRecDepth 20000 in
theorem w_m4 : ∀ w ∈ wMt 4, w ∈ lw_tbl := List.forall_mem_cons.mpr ⟨t_2 (i := 51) (by decide +kernel), List.forall_mem_cons.mpr ⟨t_3 (i := 223) (by decide +kernel), List.forall_mem_cons.mpr ⟨t_3 (i := 224) (by decide +kernel), List.forall_mem_cons.mpr ⟨t_3 (i := 225) (by decide +kernel), List.forall_mem_cons.mpr ⟨t_3 (i := 226) (by decide +kernel), List.forall_mem_cons.mpr ⟨t_3 (i := 230) (by decide +kernel), List.forall_mem_cons.mpr ⟨t_3 (i := 236) (by decide +kernel), List.forall_mem_cons.mpr ⟨t_3 (i := 234) (by decide +kernel), List.forall_mem_cons.mpr ⟨t_3 (i := 239) (by decide +kernel), List.forall_mem_cons.mpr ⟨t_3 (i := 235) (by decide +kernel), List.forall_mem_cons.mpr ⟨t_4 (i := 3) (by decide +kernel), List.forall_mem_cons.mpr ⟨t_4 (i := 8) (by decide +kernel), List.forall_mem_cons.mpr ⟨t_4 (i := 11) (by decide +kernel), List.forall_mem_cons.mpr ⟨t_4 (i := 12) (by decide +kernel), List.forall_mem_cons.mpr ⟨t_4 (i := 7) (by decide +kernel), fun _ h => absurd h List.not_mem_nil⟩⟩⟩⟩⟩⟩⟩⟩⟩⟩⟩⟩⟩⟩⟩
theorem w_c4 : ∀ w ∈ wC 4, w ∈ lw_tbl := fun _ h => absurd h List.not_mem_nil
theorem w_k4 : ∀ w ∈ wK 4, w ∈ lw_tbl := fun _ h => absurd h List.not_mem_nil
theorem w_l4 : ∀ w ∈ wLg 4, w ∈ lw_tbl := fun _ h => absurd h List.not_mem_nil
set_option maxRecDepth 20000 in
theorem w_f5 : ∀ w ∈ wF 5, w ∈ lw_tbl := List.forall_mem_cons.mpr ⟨t_1 (i := 66) (by decide +kernel), List.forall_mem_cons.mpr ⟨t_1 (i := 69) (by decide +kernel), List.forall_mem_cons.mpr ⟨t_1 (i := 70) (by decide +kernel), List.forall_mem_cons.mpr ⟨t_1 (i := 71) (by decide +kernel), List.forall_mem_cons.mpr ⟨t_1 (i := 62) (by decide +kernel), List.forall_mem_cons.mpr ⟨t_1 (i := 64) (by decide +kernel), List.forall_mem_cons.mpr ⟨t_1 (i := 54) (by decide +kernel), List.forall_mem_cons.mpr ⟨t_1 (i := 67) (by decide +kernel), List.forall_mem_cons.mpr ⟨t_1 (i := 68) (by decide +kernel), List.forall_mem_cons.mpr ⟨t_1 (i := 72) (by decide +kernel), List.forall_mem_cons.mpr ⟨t_1 (i := 73) (by decide +kernel), List.forall_mem_cons.mpr ⟨t_1 (i := 58) (by decide +kernel), List.forall_mem_cons.mpr ⟨t_1 (i := 61) (by decide +kernel), List.forall_mem_cons.mpr ⟨t_1 (i := 74) (by decide +kernel), fun _ h => absurd h List.not_mem_nil⟩⟩⟩⟩⟩⟩⟩⟩⟩⟩⟩⟩⟩⟩
set_option maxRecDepth 20000 in
theorem w_m5 : ∀ w ∈ wMt 5, w ∈ lw_tbl := List.forall_mem_cons.mpr ⟨t_1 (i := 53) (by decide +kernel), List.forall_mem_cons.mpr ⟨t_3 (i := 61) (by decide +kernel), List.forall_mem_cons.mpr ⟨t_3 (i := 73) (by decide +kernel), List.forall_mem_cons.mpr ⟨t_3 (i := 148) (by decide +kernel), List.forall_mem_cons.mpr ⟨t_3 (i := 77) (by decide +kernel), List.forall_mem_cons.mpr ⟨t_3 (i := 80) (by decide +kernel), List.forall_mem_cons.mpr ⟨t_3 (i := 138) (by decide +kernel), List.forall_mem_cons.mpr ⟨t_3 (i := 141) (by decide +kernel), List.forall_mem_cons.mpr ⟨t_3 (i := 145) (by decide +kernel), List.forall_mem_cons.mpr ⟨t_3 (i := 85) (by decide +kernel), List.forall_mem_cons.mpr ⟨t_3 (i := 90) (by decide +kernel), List.forall_mem_cons.mpr ⟨t_3 (i := 100) (by decide +kernel), List.forall_mem_cons.mpr ⟨t_3 (i := 172) (by decide +kernel), fun _ h => absurd h List.not_mem_nil⟩⟩⟩⟩⟩⟩⟩⟩⟩⟩⟩⟩⟩
theorem w_c5 : ∀ w ∈ wC 5, w ∈ lw_tbl := fun _ h => absurd h List.not_mem_nil
theorem w_k5 : ∀ w ∈ wK 5, w ∈ lw_tbl := fun _ h => absurd h List.not_mem_nil
set_option maxRecDepth 20000 in
theorem w_l5 : ∀ w ∈ wLg 5, w ∈ lw_tbl := List.forall_mem_cons.mpr ⟨t_3 (i := 84) (by decide +kernel), fun _ h => absurd h List.not_mem_nil⟩
set_option maxRecDepth 20000 in
theorem w_f6 : ∀ w ∈ wF 6, w ∈ lw_tbl := List.forall_mem_cons.mpr ⟨t_1 (i := 35) (by decide +kernel), List.forall_mem_cons.mpr ⟨t_1 (i := 37) (by decide +kernel), List.forall_mem_cons.mpr ⟨t_1 (i := 39) (by decide +kernel), fun _ h => absurd h List.not_mem_nil⟩⟩⟩
set_option maxRecDepth 20000 in
theorem w_m6 : ∀ w ∈ wMt 6, w ∈ lw_tbl := List.forall_mem_cons.mpr ⟨t_1 (i := 34) (by decide +kernel), List.forall_mem_cons.mpr ⟨t_2 (i := 230) (by decide +kernel), List.forall_mem_cons.mpr ⟨t_3 (i := 17) (by decide +kernel), List.forall_mem_cons.mpr ⟨t_3 (i := 18) (by decide +kernel), fun _ h => absurd h List.not_mem_nil⟩⟩⟩⟩
theorem w_c6 : ∀ w ∈ wC 6, w ∈ lw_tbl := fun _ h => absurd h List.not_mem_nil
theorem w_k6 : ∀ w ∈ wK 6, w ∈ lw_tbl := fun _ h => absurd h List.not_mem_nil
theorem w_l6 : ∀ w ∈ wLg 6, w ∈ lw_tbl := fun _ h => absurd h List.not_mem_nil
set_option maxRecDepth 20000 in
theorem w_f7 : ∀ w ∈ wF 7, w ∈ lw_tbl := List.forall_mem_cons.mpr ⟨t_1 (i := 121) (by decide +kernel), List.forall_mem_cons.mpr ⟨t_1 (i := 124) (by decide +kernel), List.forall_mem_cons.mpr ⟨t_1 (i := 129) (by decide +kernel), List.forall_mem_cons.mpr ⟨t_1 (i := 139) (by decide +kernel), List.forall_mem_cons.mpr ⟨t_1 (i := 140) (by decide +kernel), List.forall_mem_cons.mpr ⟨t_1 (i := 142) (by decide +kernel), List.forall_mem_cons.mpr ⟨t_1 (i := 145) (by decide +kernel), List.forall_mem_cons.mpr ⟨t_1 (i := 148) (by decide +kernel), List.forall_mem_cons.mpr ⟨t_1 (i := 153) (by decide +kernel), List.forall_mem_cons.mpr ⟨t_1 (i := 155) (by decide +kernel), List.forall_mem_cons.mpr ⟨t_1 (i := 160) (by decide +kernel), List.forall_mem_cons.mpr ⟨t_1 (i := 162) (by decide +kernel), List.forall_mem_cons.mpr ⟨t_1 (i := 116) (by decide +kernel), List.forall_mem_cons.mpr ⟨t_1 (i := 132) (by decide +kernel), List.forall_mem_cons.mpr ⟨t_1 (i := 135) (by decide +kernel), List.forall_mem_cons.mpr ⟨t_1 (i := 157) (by decide +kernel), List.forall_mem_cons.mpr ⟨t_1 (i := 164) (by decide +kernel), List.forall_mem_cons.mpr ⟨t_1 (i := 167) (by decide +kernel), List.forall_mem_cons.mpr ⟨t_1 (i := 170) (by decide +kernel), List.forall_mem_cons.mpr ⟨t_1 (i := 174) (by decide +kernel), fun _ h => absurd h List.not_mem_nil⟩⟩⟩⟩⟩⟩⟩⟩⟩⟩⟩⟩⟩⟩⟩⟩⟩⟩⟩⟩
set_option maxRecDepth 20000 in
theorem w_m7 : ∀ w ∈ wMt 7, w ∈ lw_tbl := List.forall_mem_cons.mpr ⟨t_1 (i := 111) (by decide +kernel), List.forall_mem_cons.mpr ⟨t_1 (i := 112) (by decide +kernel), List.forall_mem_cons.mpr ⟨t_5 (i := 154) (by decide +kernel), List.forall_mem_cons.mpr ⟨t_4 (i := 112) (by decide +kernel), List.forall_mem_cons.mpr ⟨t_4 (i := 28) (by decide +kernel), List.forall_mem_cons.mpr ⟨t_4 (i := 36) (by decide +kernel), List.forall_mem_cons.mpr ⟨t_4 (i := 60) (by decide +kernel), List.forall_mem_cons.mpr ⟨t_4 (i := 125) (by decide +kernel), List.forall_mem_cons.mpr ⟨t_4 (i := 128) (by decide +kernel), List.forall_mem_cons.mpr ⟨t_4 (i := 56) (by decide +kernel), List.forall_mem_cons.mpr ⟨t_4 (i := 52) (by decide +kernel), List.forall_mem_cons.mpr ⟨t_4 (i := 84) (by decide +kernel), List.forall_mem_cons.mpr ⟨t_4 (i := 158) (by decide +kernel), List.forall_mem_cons.mpr ⟨t_4 (i := 121) (by decide +kernel), List.forall_mem_cons.mpr ⟨t_4 (i := 96) (by decide +kernel), List.forall_mem_cons.mpr ⟨t_5 (i := 11) (by decide +kernel), List.forall_mem_cons.mpr ⟨t_5 (i := 28) (by decide +kernel), List.forall_mem_cons.mpr ⟨t_5 (i := 29) (by decide +kernel), List.forall_mem_cons.mpr ⟨t_5 (i := 144) (by decide +kernel), List.forall_mem_cons.mpr ⟨t_4 (i := 88) (by decide +kernel), List.forall_mem_cons.mpr ⟨t_4 (i := 92) (by decide +kernel), List.forall_mem_cons.mpr ⟨t_4 (i := 117) (by decide +kernel), List.forall_mem_cons.mpr ⟨t_4 (i := 137) (by decide +kernel), List.forall_mem_cons.mpr ⟨t_5 (i := 105) (by decide +kernel), List.forall_mem_cons.mpr ⟨t_5 (i := 101) (by decide +kernel), List.forall_mem_cons.mpr ⟨t_5 (i := 197) (by decide +kernel), List.forall_mem_cons.mpr ⟨t_5 (i := 205) (by decide +kernel), List.forall_mem_cons.mpr ⟨t_5 (i := 201) (by decide +kernel), fun _ h => absurd h List.not_mem_nil⟩⟩⟩⟩⟩⟩⟩⟩⟩⟩⟩⟩⟩⟩⟩⟩⟩⟩⟩⟩⟩⟩⟩⟩⟩⟩⟩⟩
theorem w_c7 : ∀ w ∈ wC 7, w ∈ lw_tbl := fun _ h => absurd h List.not_mem_nil
theorem w_k7 : ∀ w ∈ wK 7, w ∈ lw_tbl := fun _ h => absurd h List.not_mem_nil
theorem w_l7 : ∀ w ∈ wLg 7, w ∈ lw_tbl := fun _ h => absurd h List.not_mem_nil
set_option maxRecDepth 20000 in
theorem w_f8 : ∀ w ∈ wF 8, w ∈ lw_tbl := List.forall_mem_cons.mpr ⟨t_2 (i := 39) (by decide +kernel), List.forall_mem_cons.mpr ⟨t_2 (i := 40) (by decide +kernel), List.forall_mem_cons.mpr ⟨t_1 (i := 56) (by decide +kernel), List.forall_mem_cons.mpr ⟨t_1 (i := 165) (by decide +kernel), List.forall_mem_cons.mpr ⟨t_1 (i := 168) (by decide +kernel), List.forall_mem_cons.mpr ⟨t_1 (i := 171) (by decide +kernel), List.forall_mem_cons.mpr ⟨t_1 (i := 118) (by decide +kernel), List.forall_mem_cons.mpr ⟨t_1 (i := 125) (by decide +kernel), List.forall_mem_cons.mpr ⟨t_1 (i := 130) (by decide +kernel), List.forall_mem_cons.mpr ⟨t_1 (i := 136) (by decide +kernel), List.forall_mem_cons.mpr ⟨t_1 (i := 59) (by decide +kernel), List.forall_mem_cons.mpr ⟨t_1 (i := 143) (by decide +kernel), List.forall_mem_cons.mpr ⟨t_1 (i := 146) (by decide +kernel), List.forall_mem_cons.mpr ⟨t_1 (i := 151) (by decide +kernel), List.forall_mem_cons.mpr ⟨t_1 (i := 158) (by decide +kernel), fun _ h => absurd h List.not_mem_nil⟩⟩⟩⟩⟩⟩⟩⟩⟩⟩⟩⟩⟩⟩⟩
set_option maxRecDepth 20000 in
theorem w_m8 : ∀ w ∈ wMt 8, w ∈ lw_tbl := List.forall_mem_cons.mpr ⟨t_2 (i := 38) (by decide +kernel), List.forall_mem_cons.mpr ⟨t_3 (i := 68) (by decide +kernel), List.forall_mem_cons.mpr ⟨t_3 (i := 69) (by decide +kernel), List.forall_mem_cons.mpr ⟨t_3 (i := 152) (by decide +kernel), List.forall_mem_cons.mpr ⟨t_3 (i := 156) (by decide +kernel), List.forall_mem_cons.mpr ⟨t_3 (i := 177) (by decide +kernel), List.forall_mem_cons.mpr ⟨t_3 (i := 189) (by decide +kernel), List.forall_mem_cons.mpr ⟨t_3 (i := 201) (by decide +kernel), List.forall_mem_cons.mpr ⟨t_3 (i := 163) (by decide +kernel), List.forall_mem_cons.mpr ⟨t_3 (i := 167) (by decide +kernel), List.forall_mem_cons.mpr ⟨t_3 (i := 168) (by decide +kernel), List.forall_mem_cons.mpr ⟨t_3 (i := 173) (by decide +kernel), List.forall_mem_cons.mpr ⟨t_3 (i := 181) (by decide +kernel), List.forall_mem_cons.mpr ⟨t_3 (i := 185) (by decide +kernel), List.forall_mem_cons.mpr ⟨t_3 (i := 193) (by decide +kernel), List.forall_mem_cons.mpr ⟨t_3 (i := 197) (by decide +kernel), List.forall_mem_cons.mpr ⟨t_3 (i := 205) (by decide +kernel), fun _ h => absurd h List.not_mem_nil⟩⟩⟩⟩⟩⟩⟩⟩⟩⟩⟩⟩⟩⟩⟩⟩⟩
theorem w_c8 : ∀ w ∈ wC 8, w ∈ lw_tbl := fun _ h => absurd h List.not_mem_nil
theorem w_k8 : ∀ w ∈ wK 8, w ∈ lw_tbl := fun _ h => absurd h List.not_mem_nil
theorem w_l8 : ∀ w ∈ wLg 8, w ∈ lw_tbl := fun _ h => absurd h List.not_mem_nil
set_option maxRecDepth 20000 in
theorem w_f9 : ∀ w ∈ wF 9, w ∈ lw_tbl := List.forall_mem_cons.mpr ⟨t_2 (i := 140) (by decide +kernel), List.forall_mem_cons.mpr ⟨t_2 (i := 141) (by decide +kernel), List.forall_mem_cons.mpr ⟨t_2 (i := 142) (by decide +kernel), List.forall_mem_cons.mpr ⟨t_2 (i := 143) (by decide +kernel), List.forall_mem_cons.mpr ⟨t_2 (i := 144) (by decide +kernel), List.forall_mem_cons.mpr ⟨t_2 (i := 147) (by decide +kernel), List.forall_mem_cons.mpr ⟨t_2 (i := 148) (by decide +kernel), List.forall_mem_cons.mpr ⟨t_2 (i := 149) (by decide +kernel), List.forall_mem_cons.mpr ⟨t_2 (i := 150) (by decide +kernel), List.forall_mem_cons.mpr ⟨t_2 (i := 145) (by decide +kernel), List.forall_mem_cons.mpr ⟨t_2 (i := 146) (by decide +kernel), List.forall_mem_cons.mpr ⟨t_2 (i := 151) (by decide +kernel), List.forall_mem_cons.mpr ⟨t_2 (i := 152) (by decide +kernel), List.forall_mem_cons.mpr ⟨t_2 (i := 153) (by decide +kernel), List.forall_mem_cons.mpr ⟨t_2 (i := 154) (by decide +kernel), List.forall_mem_cons.mpr ⟨t_2 (i := 155) (by decide +kernel), List.forall_mem_cons.mpr ⟨t_2 (i := 156) (by decide +kernel), List.forall_mem_cons.mpr ⟨t_2 (i := 157) (by decide +kernel), List.forall_mem_cons.mpr ⟨t_2 (i := 158) (by decide +kernel), List.forall_mem_cons.mpr ⟨t_1 (i := 36) (by decide +kernel), List.forall_mem_cons.mpr ⟨t_1 (i := 38) (by decide +kernel), List.forall_mem_cons.mpr ⟨t_1 (i := 55) (by decide +kernel), List.forall_mem_cons.mpr ⟨t_1 (i := 138) (by decide +kernel), List.forall_mem_cons.mpr ⟨t_1 (i := 232) (by decide +kernel), List.forall_mem_cons.mpr ⟨t_1 (i := 63) (by decide +kernel), List.forall_mem_cons.mpr ⟨t_1 (i := 65) (by decide +kernel), List.forall_mem_cons.mpr ⟨t_1 (i := 120) (by decide +kernel), List.forall_mem_cons.mpr ⟨t_1 (i := 159) (by decide +kernel), List.forall_mem_cons.mpr ⟨t_1 (i := 166) (by decide +kernel), List.forall_mem_cons.mpr ⟨t_1 (i := 169) (by decide +kernel), List.forall_mem_cons.mpr ⟨t_1 (i := 173) (by decide +kernel), List.forall_mem_cons.mpr ⟨t_1 (i := 175) (by decide +kernel), List.forall_mem_cons.mpr ⟨t_1 (i := 133) (by decide +kernel), List.forall_mem_cons.mpr ⟨t_1 (i := 123) (by decide +kernel), List.forall_mem_cons.mpr ⟨t_1 (i := 128) (by decide +kernel), List.forall_mem_cons.mpr ⟨t_1 (i := 131) (by decide +kernel), List.forall_mem_cons.mpr ⟨t_1 (i := 141) (by decide +kernel), List.forall_mem_cons.mpr ⟨t_1 (i := 144) (by decide +kernel), List.forall_mem_cons.mpr ⟨t_1 (i := 147) (by decide +kernel), List.forall_mem_cons.mpr ⟨t_1 (i := 152) (by decide +kernel), List.forall_mem_cons.mpr ⟨t_1 (i := 154) (by decide +kernel), List.forall_mem_cons.mpr ⟨t_1 (i := 156) (by decide +kernel), List.forall_mem_cons.mpr ⟨t_1 (i := 161) (by decide +kernel), List.forall_mem_cons.mpr ⟨t_1 (i := 163) (by decide +kernel), List.forall_mem_cons.mpr ⟨t_2 (i := 78) (by decide +kernel), List.forall_mem_cons.mpr ⟨t_1 (i := 229) (by decide +kernel), List.forall_mem_cons.mpr ⟨t_2 (i := 118) (by decide +kernel), List.forall_mem_cons.mpr ⟨t_2 (i := 120) (by decide +kernel), List.forall_mem_cons.mpr ⟨t_2 (i := 116) (by decide +kernel), fun _ h => absurd h List.not_mem_nil⟩⟩⟩⟩⟩⟩⟩⟩⟩⟩⟩⟩⟩⟩⟩⟩⟩⟩⟩⟩⟩⟩⟩⟩⟩⟩⟩⟩⟩⟩⟩⟩⟩⟩⟩⟩⟩⟩⟩⟩⟩⟩⟩⟩⟩⟩⟩⟩⟩
set_option maxRecDepth 20000 in
theorem w_m9 : ∀ w ∈ wMt 9, w ∈ lw_tbl := List.forall_mem_cons.mpr ⟨t_1 (i := 25) (by decide +kernel), List.forall_mem_cons.mpr ⟨t_1 (i := 31) (by decide +kernel), List.forall_mem_cons.mpr ⟨t_1 (i := 50) (by decide +kernel), List.forall_mem_cons.mpr ⟨t_1 (i := 108) (by decide +kernel), List.forall_mem_cons.mpr ⟨t_1 (i := 219) (by decide +kernel), List.forall_mem_cons.mpr ⟨t_2 (i := 35) (by decide +kernel), List.forall_mem_cons.mpr ⟨t_2 (i := 48) (by decide +kernel), List.forall_mem_cons.mpr ⟨t_2 (i := 72) (by decide +kernel), List.forall_mem_cons.mpr ⟨t_2 (i := 92) (by decide +kernel), List.forall_mem_cons.mpr ⟨t_2 (i := 111) (by decide +kernel), List.forall_mem_cons.mpr ⟨t_2 (i := 214) (by decide +kernel), List.forall_mem_cons.mpr ⟨t_2 (i := 218) (by decide +kernel), List.forall_mem_cons.mpr ⟨t_2 (i := 222) (by decide +kernel), List.forall_mem_cons.mpr ⟨t_2 (i := 226) (by decide +kernel), List.forall_mem_cons.mpr ⟨t_2 (i := 233) (by decide +kernel), List.forall_mem_cons.mpr ⟨t_3 (i := 1) (by decide +kernel), List.forall_mem_cons.mpr ⟨t_3 (i := 13) (by decide +kernel), List.forall_mem_cons.mpr ⟨t_3 (i := 26) (by decide +kernel), List.forall_mem_cons.mpr ⟨t_3 (i := 5) (by decide +kernel), List.forall_mem_cons.mpr ⟨t_3 (i := 34) (by decide +kernel), List.forall_mem_cons.mpr ⟨t_3 (i := 38) (by decide +kernel), List.forall_mem_cons.mpr ⟨t_3 (i := 45) (by decide +kernel), List.forall_mem_cons.mpr ⟨t_3 (i := 49) (by decide +kernel), List.forall_mem_cons.mpr ⟨t_3 (i := 57) (by decide +kernel), List.forall_mem_cons.mpr ⟨t_3 (i := 64) (by decide +kernel), List.forall_mem_cons.mpr ⟨t_3 (i := 209) (by decide +kernel), List.forall_mem_cons.mpr ⟨t_3 (i := 210) (by decide +kernel), List.forall_mem_cons.mpr ⟨t_3 (i := 218) (by decide +kernel), List.forall_mem_cons.mpr ⟨t_3 (i := 219) (by decide +kernel), List.forall_mem_cons.mpr ⟨t_4 (i := 24) (by decide +kernel), List.forall_mem_cons.mpr ⟨t_4 (i := 32) (by decide +kernel), List.forall_mem_cons.mpr ⟨t_4 (i := 44) (by decide +kernel), List.forall_mem_cons.mpr ⟨t_4 (i := 48) (by decide +kernel), List.forall_mem_cons.mpr ⟨t_4 (i := 68) (by decide +kernel), List.forall_mem_cons.mpr ⟨t_4 (i := 80) (by decide +kernel), List.forall_mem_cons.mpr ⟨t_4 (i := 100) (by decide +kernel), List.forall_mem_cons.mpr ⟨t_4 (i := 108) (by decide +kernel), List.forall_mem_cons.mpr ⟨t_4 (i := 113) (by decide +kernel), List.forall_mem_cons.mpr ⟨t_4 (i := 133) (by decide +kernel), List.forall_mem_cons.mpr ⟨t_4 (i := 145) (by decide +kernel), List.forall_mem_cons.mpr ⟨t_4 (i := 154) (by decide +kernel), List.forall_mem_cons.mpr ⟨t_4 (i := 167) (by decide +kernel), List.forall_mem_cons.mpr ⟨t_4 (i := 176) (by decide +kernel), List.forall_mem_cons.mpr ⟨t_4 (i := 182) (by decide +kernel), List.forall_mem_cons.mpr ⟨t_4 (i := 188) (by decide +kernel), List.forall_mem_cons.mpr ⟨t_4 (i := 199) (by decide +kernel), List.forall_mem_cons.mpr ⟨t_4 (i := 204) (by decide +kernel), List.forall_mem_cons.mpr ⟨t_4 (i := 209) (by decide +kernel), List.forall_mem_cons.mpr ⟨t_4 (i := 213) (by decide +kernel), List.forall_mem_cons.mpr ⟨t_4 (i := 218) (by decide +kernel), List.forall_mem_cons.mpr ⟨t_4 (i := 226) (by decide +kernel), List.forall_mem_cons.mpr ⟨t_4 (i := 234) (by decide +kernel), List.forall_mem_cons.mpr ⟨t_4 (i := 239) (by decide +kernel), List.forall_mem_cons.mpr ⟨t_5 (i := 7) (by decide +kernel), List.forall_mem_cons.mpr ⟨t_5 (i := 15) (by decide +kernel), List.forall_mem_cons.mpr ⟨t_5 (i := 24) (by decide +kernel), List.forall_mem_cons.mpr ⟨t_5 (i := 39) (by decide +kernel), List.forall_mem_cons.mpr ⟨t_5 (i := 44) (by decide +kernel), List.forall_mem_cons.mpr ⟨t_5 (i := 66) (by decide +kernel), List.forall_mem_cons.mpr ⟨t_5 (i := 76) (by decide +kernel), List.forall_mem_cons.mpr ⟨t_5 (i := 84) (by decide +kernel), List.forall_mem_cons.mpr ⟨t_5 (i := 85) (by decide +kernel), List.forall_mem_cons.mpr ⟨t_5 (i := 97) (by decide +kernel), List.forall_mem_cons.mpr ⟨t_5 (i := 113) (by decide +kernel), List.forall_mem_cons.mpr ⟨t_5 (i := 118) (by decide +kernel), List.forall_mem_cons.mpr ⟨t_5 (i := 123) (by decide +kernel), List.forall_mem_cons.mpr ⟨t_5 (i := 131) (by decide +kernel), List.forall_mem_cons.mpr ⟨t_5 (i := 140) (by decide +kernel), List.forall_mem_cons.mpr ⟨t_5 (i := 150) (by decide +kernel), List.forall_mem_cons.mpr ⟨t_5 (i := 155) (by decide +kernel), List.forall_mem_cons.mpr ⟨t_5 (i := 159) (by decide +kernel), List.forall_mem_cons.mpr ⟨t_5 (i := 185) (by decide +kernel), List.forall_mem_cons.mpr ⟨t_5 (i := 193) (by decide +kernel), List.forall_mem_cons.mpr ⟨t_5 (i := 209) (by decide +kernel), List.forall_mem_cons.mpr ⟨t_5 (i := 218) (by decide +kernel), List.forall_mem_cons.mpr ⟨t_6 (i := 2) (by decide +kernel), List.forall_mem_cons.mpr ⟨t_6 (i := 6) (by decide +kernel), List.forall_mem_cons.mpr ⟨t_6 (i := 57) (by decide +kernel), List.forall_mem_cons.mpr ⟨t_5 (i := 222) (by decide +kernel), List.forall_mem_cons.mpr ⟨t_6 (i := 65) (by decide +kernel), List.forall_mem_cons.mpr ⟨t_3 (i := 9) (by decide +kernel), List.forall_mem_cons.mpr ⟨t_5 (i := 127) (by decide +kernel), List.forall_mem_cons.mpr ⟨t_5 (i := 226) (by decide +kernel), fun _ h => absurd h List.not_mem_nil⟩⟩⟩⟩⟩⟩⟩⟩⟩⟩⟩⟩⟩⟩⟩⟩⟩⟩⟩⟩⟩⟩⟩⟩⟩⟩⟩⟩⟩⟩⟩⟩⟩⟩⟩⟩⟩⟩⟩⟩⟩⟩⟩⟩⟩⟩⟩⟩⟩⟩⟩⟩⟩⟩⟩⟩⟩⟩⟩⟩⟩⟩⟩⟩⟩⟩⟩⟩⟩⟩⟩⟩⟩⟩⟩⟩⟩⟩⟩⟩⟩⟩⟩
set_option maxRecDepth 20000 in
theorem w_c9 : ∀ w ∈ wC 9, w ∈ lw_tbl := List.forall_mem_cons.mpr ⟨t_1 (i := 28) (by decide +kernel), List.forall_mem_cons.mpr ⟨t_1 (i := 48) (by decide +kernel), List.forall_mem_cons.mpr ⟨t_1 (i := 106) (by decide +kernel), List.forall_mem_cons.mpr ⟨t_1 (i := 217) (by decide +kernel), List.forall_mem_cons.mpr ⟨t_2 (i := 33) (by decide +kernel), List.forall_mem_cons.mpr ⟨t_2 (i := 46) (by decide +kernel), List.forall_mem_cons.mpr ⟨t_2 (i := 70) (by decide +kernel), List.forall_mem_cons.mpr ⟨t_2 (i := 90) (by decide +kernel), List.forall_mem_cons.mpr ⟨t_2 (i := 109) (by decide +kernel), fun _ h => absurd h List.not_mem_nil⟩⟩⟩⟩⟩⟩⟩⟩⟩
theorem w_k9 : ∀ w ∈ wK 9, w ∈ lw_tbl := fun _ h => absurd h List.not_mem_nil
set_option maxRecDepth 20000 in
theorem w_l9 : ∀ w ∈ wLg 9, w ∈ lw_tbl := List.forall_mem_cons.mpr ⟨t_2 (i := 217) (by decide +kernel), List.forall_mem_cons.mpr ⟨t_2 (i := 221) (by decide +kernel), List.forall_mem_cons.mpr ⟨t_4 (i := 153) (by decide +kernel), List.forall_mem_cons.mpr ⟨t_4 (i := 175) (by decide +kernel), List.forall_mem_cons.mpr ⟨t_4 (i := 181) (by decide +kernel), List.forall_mem_cons.mpr ⟨t_4 (i := 187) (by decide +kernel), List.forall_mem_cons.mpr ⟨t_4 (i := 193) (by decide +kernel), List.forall_mem_cons.mpr ⟨t_4 (i := 194) (by decide +kernel), List.forall_mem_cons.mpr ⟨t_5 (i := 149) (by decide +kernel), List.forall_mem_cons.mpr ⟨t_6 (i := 1) (by decide +kernel), List.forall_mem_cons.mpr ⟨t_5 (i := 122) (by decide +kernel), fun _ h => absurd h List.not_mem_nil⟩⟩⟩⟩⟩⟩⟩⟩⟩⟩⟩
set_option maxRecDepth 20000 in
theorem w_f10 : ∀ w ∈ wF 10, w ∈ lw_tbl := List.forall_mem_cons.mpr ⟨t_6 (i := 84) (by decide +kernel), List.forall_mem_cons.mpr ⟨t_6 (i := 85) (by decide +kernel), List.forall_mem_cons.mpr ⟨t_6 (i := 88) (by decide +kernel), List.forall_mem_cons.mpr ⟨t_6 (i := 89) (by decide +kernel), List.forall_mem_cons.mpr ⟨t_6 (i := 90) (by decide +kernel), List.forall_mem_cons.mpr ⟨t_6 (i := 91) (by decide +kernel), List.forall_mem_cons.mpr ⟨t_6 (i := 92) (by decide +kernel), List.forall_mem_cons.mpr ⟨t_6 (i := 93) (by decide +kernel), List.forall_mem_cons.mpr ⟨t_6 (i := 100) (by decide +kernel), List.forall_mem_cons.mpr ⟨t_6 (i := 101) (by decide +kernel), List.forall_mem_cons.mpr ⟨t_6 (i := 105) (by decide +kernel), List.forall_mem_cons.mpr ⟨t_6 (i := 109) (by decide +kernel), List.forall_mem_cons.mpr ⟨t_6 (i := 110) (by decide +kernel), List.forall_mem_cons.mpr ⟨t_6 (i := 111) (by decide +kernel), List.forall_mem_cons.mpr ⟨t_6 (i := 112) (by decide +kernel), List.forall_mem_cons.mpr ⟨t_6 (i := 113) (by decide +kernel), List.forall_mem_cons.mpr ⟨t_6 (i := 114) (by decide +kernel), List.forall_mem_cons.mpr ⟨t_6 (i := 115) (by decide +kernel), List.forall_mem_cons.mpr ⟨t_6 (i := 118) (by decide +kernel), List.forall_mem_cons.mpr ⟨t_6 (i := 119) (by decide +kernel), List.forall_mem_cons.mpr ⟨t_6 (i := 120) (by decide +kernel), List.forall_mem_cons.mpr ⟨t_6 (i := 86) (by decide +kernel), List.forall_mem_cons.mpr ⟨t_6 (i := 87) (by decide +kernel), List.forall_mem_cons.mpr ⟨t_6 (i := 94) (by decide +kernel), List.forall_mem_cons.mpr ⟨t_6 (i := 95) (by decide +kernel), List.forall_mem_cons.mpr ⟨t_6 (i := 98) (by decide +kernel), List.forall_mem_cons.mpr ⟨t_6 (i := 97) (by decide +kernel), List.forall_mem_cons.mpr ⟨t_6 (i := 99) (by decide +kernel), List.forall_mem_cons.mpr ⟨t_6 (i := 96) (by decide +kernel), List.forall_mem_cons.mpr ⟨t_6 (i := 102) (by decide +kernel), List.forall_mem_cons.mpr ⟨t_6 (i := 103) (by decide +kernel), List.forall_mem_cons.mpr ⟨t_6 (i := 104) (by decide +kernel), List.forall_mem_cons.mpr ⟨t_6 (i := 106) (by decide +kernel), List.forall_mem_cons.mpr ⟨t_6 (i := 107) (by decide +kernel), List.forall_mem_cons.mpr ⟨t_6 (i := 108) (by decide +kernel), List.forall_mem_cons.mpr ⟨t_6 (i := 116) (by decide +kernel), List.forall_mem_cons.mpr ⟨t_6 (i := 117) (by decide +kernel), List.forall_mem_cons.mpr ⟨t_6 (i := 121) (by decide +kernel), List.forall_mem_cons.mpr ⟨t_6 (i := 122) (by decide +kernel), fun _ h => absurd h List.not_mem_nil⟩⟩⟩⟩⟩⟩⟩⟩⟩⟩⟩⟩⟩⟩⟩⟩⟩⟩⟩⟩⟩⟩⟩⟩⟩⟩⟩⟩⟩⟩⟩⟩⟩⟩⟩⟩⟩⟩⟩
set_option maxRecDepth 20000 in
theorem w_m10 : ∀ w ∈ wMt 10, w ∈ lw_tbl := List.forall_mem_cons.mpr ⟨t_6 (i := 79) (by decide +kernel), List.forall_mem_cons.mpr ⟨t_6 (i := 80) (by decide +kernel), List.forall_mem_cons.mpr ⟨t_7 (i := 42) (by decide +kernel), List.forall_mem_cons.mpr ⟨t_7 (i := 126) (by decide +kernel), List.forall_mem_cons.mpr ⟨t_6 (i := 222) (by decide +kernel), List.forall_mem_cons.mpr ⟨t_6 (i := 219) (by decide +kernel), List.forall_mem_cons.mpr ⟨t_6 (i := 230) (by decide +kernel), List.forall_mem_cons.mpr ⟨t_6 (i := 234) (by decide +kernel), List.forall_mem_cons.mpr ⟨t_7 (i := 10) (by decide +kernel), List.forall_mem_cons.mpr ⟨t_7 (i := 30) (by decide +kernel), List.forall_mem_cons.mpr ⟨t_7 (i := 34) (by decide +kernel), List.forall_mem_cons.mpr ⟨t_7 (i := 37) (by decide +kernel), List.forall_mem_cons.mpr ⟨t_7 (i := 41) (by decide +kernel), List.forall_mem_cons.mpr ⟨t_7 (i := 55) (by decide +kernel), List.forall_mem_cons.mpr ⟨t_7 (i := 56) (by decide +kernel), List.forall_mem_cons.mpr ⟨t_7 (i := 26) (by decide +kernel), List.forall_mem_cons.mpr ⟨t_7 (i := 118) (by decide +kernel), List.forall_mem_cons.mpr ⟨t_7 (i := 57) (by decide +kernel), List.forall_mem_cons.mpr ⟨t_7 (i := 51) (by decide +kernel), List.forall_mem_cons.mpr ⟨t_7 (i := 103) (by decide +kernel), List.forall_mem_cons.mpr ⟨t_7 (i := 84) (by decide +kernel), List.forall_mem_cons.mpr ⟨t_7 (i := 61) (by decide +kernel), List.forall_mem_cons.mpr ⟨t_7 (i := 69) (by decide +kernel), List.forall_mem_cons.mpr ⟨t_7 (i := 73) (by decide +kernel), List.forall_mem_cons.mpr ⟨t_7 (i := 76) (by decide +kernel), List.forall_mem_cons.mpr ⟨t_7 (i := 80) (by decide +kernel), List.forall_mem_cons.mpr ⟨t_7 (i := 92) (by decide +kernel), List.forall_mem_cons.mpr ⟨t_7 (i := 95) (by decide +kernel), List.forall_mem_cons.mpr ⟨t_7 (i := 99) (by decide +kernel), List.forall_mem_cons.mpr ⟨t_7 (i := 111) (by decide +kernel), List.forall_mem_cons.mpr ⟨t_7 (i := 65) (by decide +kernel), List.forall_mem_cons.mpr ⟨t_7 (i := 88) (by decide +kernel), List.forall_mem_cons.mpr ⟨t_7 (i := 107) (by decide +kernel), List.forall_mem_cons.mpr ⟨t_7 (i := 114) (by decide +kernel), List.forall_mem_cons.mpr ⟨t_7 (i := 22) (by decide +kernel), List.forall_mem_cons.mpr ⟨t_7 (i := 46) (by decide +kernel), List.forall_mem_cons.mpr ⟨t_7 (i := 122) (by decide +kernel), List.forall_mem_cons.mpr ⟨t_7 (i := 142) (by decide +kernel), List.forall_mem_cons.mpr ⟨t_7 (i := 146) (by decide +kernel), List.forall_mem_cons.mpr ⟨t_7 (i := 150) (by decide +kernel), List.forall_mem_cons.mpr ⟨t_7 (i := 138) (by decide +kernel), List.forall_mem_cons.mpr ⟨t_7 (i := 134) (by decide +kernel), List.forall_mem_cons.mpr ⟨t_8 (i := 28) (by decide +kernel), List.forall_mem_cons.mpr ⟨t_7 (i := 198) (by decide +kernel), List.forall_mem_cons.mpr ⟨t_7 (i := 166) (by decide +kernel), List.forall_mem_cons.mpr ⟨t_7 (i := 194) (by decide +kernel), List.forall_mem_cons.mpr ⟨t_7 (i := 206) (by decide +kernel), List.forall_mem_cons.mpr ⟨t_7 (i := 190) (by decide +kernel), List.forall_mem_cons.mpr ⟨t_7 (i := 202) (by decide +kernel), List.forall_mem_cons.mpr ⟨t_7 (i := 162) (by decide +kernel), List.forall_mem_cons.mpr ⟨t_7 (i := 186) (by decide +kernel), List.forall_mem_cons.mpr ⟨t_7 (i := 158) (by decide +kernel), List.forall_mem_cons.mpr ⟨t_7 (i := 170) (by decide +kernel), List.forall_mem_cons.mpr ⟨t_7 (i := 178) (by decide +kernel), List.forall_mem_cons.mpr ⟨t_7 (i := 182) (by decide +kernel), List.forall_mem_cons.mpr ⟨t_7 (i := 211) (by decide +kernel), List.forall_mem_cons.mpr ⟨t_7 (i := 227) (by decide +kernel), List.forall_mem_cons.mpr ⟨t_7 (i := 231) (by decide +kernel), List.forall_mem_cons.mpr ⟨t_7 (i := 235) (by decide +kernel), List.forall_mem_cons.mpr ⟨t_7 (i := 223) (by decide +kernel), List.forall_mem_cons.mpr ⟨t_8 (i := 3) (by decide +kernel), List.forall_mem_cons.mpr ⟨t_8 (i := 11) (by decide +kernel), List.forall_mem_cons.mpr ⟨t_8 (i := 19) (by decide +kernel), List.forall_mem_cons.mpr ⟨t_8 (i := 39) (by decide +kernel), List.forall_mem_cons.mpr ⟨t_8 (i := 35) (by decide +kernel), List.forall_mem_cons.mpr ⟨t_8 (i := 31) (by decide +kernel), List.forall_mem_cons.mpr ⟨t_8 (i := 85) (by decide +kernel), List.forall_mem_cons.mpr ⟨t_8 (i := 89) (by decide +kernel), List.forall_mem_cons.mpr ⟨t_8 (i := 81) (by decide +kernel), List.forall_mem_cons.mpr ⟨t_8 (i := 101) (by decide +kernel), List.forall_mem_cons.mpr ⟨t_8 (i := 105) (by decide +kernel), List.forall_mem_cons.mpr ⟨t_8 (i := 121) (by decide +kernel), List.forall_mem_cons.mpr ⟨t_8 (i := 133) (by decide +kernel), List.forall_mem_cons.mpr ⟨t_8 (i := 156) (by decide +kernel), List.forall_mem_cons.mpr ⟨t_8 (i := 160) (by decide +kernel), List.forall_mem_cons.mpr ⟨t_8 (i := 148) (by decide +kernel), List.forall_mem_cons.mpr ⟨t_8 (i := 152) (by decide +kernel), List.forall_mem_cons.mpr ⟨t_8 (i := 144) (by decide +kernel), List.forall_mem_cons.mpr ⟨t_8 (i := 168) (by decide +kernel), List.forall_mem_cons.mpr ⟨t_8 (i := 172) (by decide +kernel), List.forall_mem_cons.mpr ⟨t_8 (i := 180) (by decide +kernel), List.forall_mem_cons.mpr ⟨t_8 (i := 192) (by decide +kernel), List.forall_mem_cons.mpr ⟨t_8 (i := 188) (by decide +kernel), List.forall_mem_cons.mpr ⟨t_8 (i := 204) (by decide +kernel), List.forall_mem_cons.mpr ⟨t_8 (i := 209) (by decide +kernel), List.forall_mem_cons.mpr ⟨t_8 (i := 221) (by decide +kernel), List.forall_mem_cons.mpr ⟨t_8 (i := 238) (by decide +kernel), List.forall_mem_cons.mpr ⟨t_9 (i := 2) (by decide +kernel), List.forall_mem_cons.mpr ⟨t_9 (i := 5) (by decide +kernel), List.forall_mem_cons.mpr ⟨t_9 (i := 9) (by decide +kernel), List.forall_mem_cons.mpr ⟨t_8 (i := 229) (by decide +kernel), List.forall_mem_cons.mpr ⟨t_8 (i := 234) (by decide +kernel), List.forall_mem_cons.mpr ⟨t_9 (i := 25) (by decide +kernel), List.forall_mem_cons.mpr ⟨t_9 (i := 21) (by decide +kernel), List.forall_mem_cons.mpr ⟨t_9 (i := 41) (by decide +kernel), List.forall_mem_cons.mpr ⟨t_9 (i := 37) (by decide +kernel), List.forall_mem_cons.mpr ⟨t_9 (i := 45) (by decide +kernel), List.forall_mem_cons.mpr ⟨t_9 (i := 90) (by decide +kernel), List.forall_mem_cons.mpr ⟨t_9 (i := 70) (by decide +kernel), List.forall_mem_cons.mpr ⟨t_9 (i := 74) (by decide +kernel), List.forall_mem_cons.mpr ⟨t_9 (i := 78) (by decide +kernel), List.forall_mem_cons.mpr ⟨t_9 (i := 82) (by decide +kernel), List.forall_mem_cons.mpr ⟨t_9 (i := 86) (by decide +kernel), List.forall_mem_cons.mpr ⟨t_9 (i := 66) (by decide +kernel), List.forall_mem_cons.mpr ⟨t_9 (i := 95) (by decide +kernel), List.forall_mem_cons.mpr ⟨t_9 (i := 99) (by decide +kernel), List.forall_mem_cons.mpr ⟨t_9 (i := 62) (by decide +kernel), List.forall_mem_cons.mpr ⟨t_9 (i := 115) (by decide +kernel), fun _ h => absurd h List.not_mem_nil⟩⟩⟩⟩⟩⟩⟩⟩⟩⟩⟩⟩⟩⟩⟩⟩⟩⟩⟩⟩⟩⟩⟩⟩⟩⟩⟩⟩⟩⟩⟩⟩⟩⟩⟩⟩⟩⟩⟩⟩⟩⟩⟩⟩⟩⟩⟩⟩⟩⟩⟩⟩⟩⟩⟩⟩⟩⟩⟩⟩⟩⟩⟩⟩⟩⟩⟩⟩⟩⟩⟩⟩⟩⟩⟩⟩⟩⟩⟩⟩⟩⟩⟩⟩⟩⟩⟩⟩⟩⟩⟩⟩⟩⟩⟩⟩⟩⟩⟩⟩⟩⟩⟩⟩⟩⟩⟩⟩
theorem w_c10 : ∀ w ∈ wC 10, w ∈ lw_tbl := fun _ h => absurd h List.not_mem_nil
set_option maxRecDepth 20000 in
theorem w_k10 : ∀ w ∈ wK 10, w ∈ lw_tbl := List.forall_mem_cons.mpr ⟨t_7 (i := 40) (by decide +kernel), List.forall_mem_cons.mpr ⟨t_8 (i := 159) (by decide +kernel), List.forall_mem_cons.mpr ⟨t_9 (i := 94) (by decide +kernel), fun _ h => absurd h List.not_mem_nil⟩⟩⟩
set_option maxRecDepth 20000 in
theorem w_l10 : ∀ w ∈ wLg 10, w ∈ lw_tbl := List.forall_mem_cons.mpr ⟨t_7 (i := 1) (by decide +kernel), List.forall_mem_cons.mpr ⟨t_8 (i := 27) (by decide +kernel), List.forall_mem_cons.mpr ⟨t_8 (i := 47) (by decide +kernel), List.forall_mem_cons.mpr ⟨t_8 (i := 48) (by decide +kernel), List.forall_mem_cons.mpr ⟨t_8 (i := 57) (by decide +kernel), List.forall_mem_cons.mpr ⟨t_8 (i := 62) (by decide +kernel), List.forall_mem_cons.mpr ⟨t_8 (i := 67) (by decide +kernel), List.forall_mem_cons.mpr ⟨t_8 (i := 68) (by decide +kernel), List.forall_mem_cons.mpr ⟨t_8 (i := 208) (by decide +kernel), List.forall_mem_cons.mpr ⟨t_8 (i := 233) (by decide +kernel), List.forall_mem_cons.mpr ⟨t_9 (i := 61) (by decide +kernel), fun _ h => absurd h List.not_mem_nil⟩⟩⟩⟩⟩⟩⟩⟩⟩⟩⟩
theorem w_f11 : ∀ w ∈ wF 11, w ∈ lw_tbl := fun _ h => absurd h List.not_mem_nil
set_option maxRecDepth 20000 in
theorem w_m11 : ∀ w ∈ wMt 11, w ∈ lw_tbl := List.forall_mem_cons.mpr ⟨t_1 (i := 22) (by decide +kernel), List.forall_mem_cons.mpr ⟨t_6 (i := 76) (by decide +kernel), List.forall_mem_cons.mpr ⟨t_2 (i := 198) (by decide +kernel), List.forall_mem_cons.mpr ⟨t_6 (i := 203) (by decide +kernel), List.forall_mem_cons.mpr ⟨t_2 (i := 202) (by decide +kernel), List.forall_mem_cons.mpr ⟨t_6 (i := 207) (by decide +kernel), List.forall_mem_cons.mpr ⟨t_2 (i := 206) (by decide +kernel), List.forall_mem_cons.mpr ⟨t_6 (i := 211) (by decide +kernel), List.forall_mem_cons.mpr ⟨t_2 (i := 210) (by decide +kernel), List.forall_mem_cons.mpr ⟨t_6 (i := 215) (by decide +kernel), List.forall_mem_cons.mpr ⟨t_2 (i := 237) (by decide +kernel), List.forall_mem_cons.mpr ⟨t_6 (i := 226) (by decide +kernel), List.forall_mem_cons.mpr ⟨t_3 (i := 22) (by decide +kernel), List.forall_mem_cons.mpr ⟨t_6 (i := 237) (by decide +kernel), List.forall_mem_cons.mpr ⟨t_3 (i := 30) (by decide +kernel), List.forall_mem_cons.mpr ⟨t_7 (i := 2) (by decide +kernel), List.forall_mem_cons.mpr ⟨t_3 (i := 41) (by decide +kernel), List.forall_mem_cons.mpr ⟨t_7 (i := 6) (by decide +kernel), List.forall_mem_cons.mpr ⟨t_3 (i := 53) (by decide +kernel), List.forall_mem_cons.mpr ⟨t_7 (i := 18) (by decide +kernel), List.forall_mem_cons.mpr ⟨t_3 (i := 214) (by decide +kernel), List.forall_mem_cons.mpr ⟨t_7 (i := 130) (by decide +kernel), List.forall_mem_cons.mpr ⟨t_4 (i := 16) (by decide +kernel), List.forall_mem_cons.mpr ⟨t_7 (i := 14) (by decide +kernel), List.forall_mem_cons.mpr ⟨t_4 (i := 20) (by decide +kernel), List.forall_mem_cons.mpr ⟨t_7 (i := 154) (by decide +kernel), List.forall_mem_cons.mpr ⟨t_4 (i := 40) (by decide +kernel), List.forall_mem_cons.mpr ⟨t_7 (i := 174) (by decide +kernel), List.forall_mem_cons.mpr ⟨t_4 (i := 64) (by decide +kernel), List.forall_mem_cons.mpr ⟨t_7 (i := 207) (by decide +kernel), List.forall_mem_cons.mpr ⟨t_4 (i := 72) (by decide +kernel), List.forall_mem_cons.mpr ⟨t_7 (i := 215) (by decide +kernel), List.forall_mem_cons.mpr ⟨t_4 (i := 76) (by decide +kernel), List.forall_mem_cons.mpr ⟨t_7 (i := 219) (by decide +kernel), List.forall_mem_cons.mpr ⟨t_4 (i := 104) (by decide +kernel), List.forall_mem_cons.mpr ⟨t_7 (i := 239) (by decide +kernel), List.forall_mem_cons.mpr ⟨t_4 (i := 129) (by decide +kernel), List.forall_mem_cons.mpr ⟨t_8 (i := 7) (by decide +kernel), List.forall_mem_cons.mpr ⟨t_4 (i := 141) (by decide +kernel), List.forall_mem_cons.mpr ⟨t_8 (i := 15) (by decide +kernel), List.forall_mem_cons.mpr ⟨t_4 (i := 149) (by decide +kernel), List.forall_mem_cons.mpr ⟨t_8 (i := 23) (by decide +kernel), List.forall_mem_cons.mpr ⟨t_4 (i := 163) (by decide +kernel), List.forall_mem_cons.mpr ⟨t_8 (i := 43) (by decide +kernel), List.forall_mem_cons.mpr ⟨t_4 (i := 171) (by decide +kernel), List.forall_mem_cons.mpr ⟨t_8 (i := 49) (by decide +kernel), List.forall_mem_cons.mpr ⟨t_4 (i := 177) (by decide +kernel), List.forall_mem_cons.mpr ⟨t_8 (i := 53) (by decide +kernel), List.forall_mem_cons.mpr ⟨t_4 (i := 183) (by decide +kernel), List.forall_mem_cons.mpr ⟨t_8 (i := 58) (by decide +kernel), List.forall_mem_cons.mpr ⟨t_4 (i := 189) (by decide +kernel), List.forall_mem_cons.mpr ⟨t_8 (i := 63) (by decide +kernel), List.forall_mem_cons.mpr ⟨t_4 (i := 195) (by decide +kernel), List.forall_mem_cons.mpr ⟨t_8 (i := 69) (by decide +kernel), List.forall_mem_cons.mpr ⟨t_4 (i := 200) (by decide +kernel), List.forall_mem_cons.mpr ⟨t_8 (i := 73) (by decide +kernel), List.forall_mem_cons.mpr ⟨t_4 (i := 205) (by decide +kernel), List.forall_mem_cons.mpr ⟨t_8 (i := 77) (by decide +kernel), List.forall_mem_cons.mpr ⟨t_4 (i := 214) (by decide +kernel), List.forall_mem_cons.mpr ⟨t_8 (i := 93) (by decide +kernel), List.forall_mem_cons.mpr ⟨t_4 (i := 222) (by decide +kernel), List.forall_mem_cons.mpr ⟨t_8 (i := 97) (by decide +kernel), List.forall_mem_cons.mpr ⟨t_4 (i := 230) (by decide +kernel), List.forall_mem_cons.mpr ⟨t_8 (i := 109) (by decide +kernel), List.forall_mem_cons.mpr ⟨t_4 (i := 235) (by decide +kernel), List.forall_mem_cons.mpr ⟨t_8 (i := 113) (by decide +kernel), List.forall_mem_cons.mpr ⟨t_5 (i := 3) (by decide +kernel), List.forall_mem_cons.mpr ⟨t_8 (i := 117) (by decide +kernel), List.forall_mem_cons.mpr ⟨t_5 (i := 16) (by decide +kernel), List.forall_mem_cons.mpr ⟨t_8 (i := 125) (by decide +kernel), List.forall_mem_cons.mpr ⟨t_5 (i := 20) (by decide +kernel), List.forall_mem_cons.mpr ⟨t_8 (i := 129) (by decide +kernel), List.forall_mem_cons.mpr ⟨t_5 (i := 35) (by decide +kernel), List.forall_mem_cons.mpr ⟨t_8 (i := 136) (by decide +kernel), List.forall_mem_cons.mpr ⟨t_5 (i := 40) (by decide +kernel), List.forall_mem_cons.mpr ⟨t_8 (i := 140) (by decide +kernel), List.forall_mem_cons.mpr ⟨t_5 (i := 72) (by decide +kernel), List.forall_mem_cons.mpr ⟨t_8 (i := 164) (by decide +kernel), List.forall_mem_cons.mpr ⟨t_5 (i := 80) (by decide +kernel), List.forall_mem_cons.mpr ⟨t_8 (i := 176) (by decide +kernel), List.forall_mem_cons.mpr ⟨t_5 (i := 93) (by decide +kernel), List.forall_mem_cons.mpr ⟨t_8 (i := 184) (by decide +kernel), List.forall_mem_cons.mpr ⟨t_5 (i := 109) (by decide +kernel), List.forall_mem_cons.mpr ⟨t_8 (i := 196) (by decide +kernel), List.forall_mem_cons.mpr ⟨t_5 (i := 114) (by decide +kernel), List.forall_mem_cons.mpr ⟨t_8 (i := 200) (by decide +kernel), List.forall_mem_cons.mpr ⟨t_5 (i := 132) (by decide +kernel), List.forall_mem_cons.mpr ⟨t_8 (i := 213) (by decide +kernel), List.forall_mem_cons.mpr ⟨t_5 (i := 136) (by decide +kernel), List.forall_mem_cons.mpr ⟨t_8 (i := 217) (by decide +kernel), List.forall_mem_cons.mpr ⟨t_5 (i := 145) (by decide +kernel), List.forall_mem_cons.mpr ⟨t_8 (i := 225) (by decide +kernel), List.forall_mem_cons.mpr ⟨t_5 (i := 181) (by decide +kernel), List.forall_mem_cons.mpr ⟨t_9 (i := 13) (by decide +kernel), List.forall_mem_cons.mpr ⟨t_5 (i := 189) (by decide +kernel), List.forall_mem_cons.mpr ⟨t_9 (i := 17) (by decide +kernel), List.forall_mem_cons.mpr ⟨t_5 (i := 210) (by decide +kernel), List.forall_mem_cons.mpr ⟨t_9 (i := 29) (by decide +kernel), List.forall_mem_cons.mpr ⟨t_5 (i := 214) (by decide +kernel), List.forall_mem_cons.mpr ⟨t_9 (i := 33) (by decide +kernel), List.forall_mem_cons.mpr ⟨t_5 (i := 229) (by decide +kernel), List.forall_mem_cons.mpr ⟨t_9 (i := 49) (by decide +kernel), List.forall_mem_cons.mpr ⟨t_5 (i := 233) (by decide +kernel), List.forall_mem_cons.mpr ⟨t_9 (i := 53) (by decide +kernel), List.forall_mem_cons.mpr ⟨t_5 (i := 237) (by decide +kernel), List.forall_mem_cons.mpr ⟨t_9 (i := 57) (by decide +kernel), List.forall_mem_cons.mpr ⟨t_6 (i := 49) (by decide +kernel), List.forall_mem_cons.mpr ⟨t_9 (i := 103) (by decide +kernel), List.forall_mem_cons.mpr ⟨t_6 (i := 53) (by decide +kernel), List.forall_mem_cons.mpr ⟨t_9 (i := 107) (by decide +kernel), List.forall_mem_cons.mpr ⟨t_6 (i := 61) (by decide +kernel), List.forall_mem_cons.mpr ⟨t_9 (i := 111) (by decide +kernel), List.forall_mem_cons.mpr ⟨t_6 (i := 70) (by decide +kernel), List.forall_mem_cons.mpr ⟨t_9 (i := 119) (by decide +kernel), fun _ h => absurd h List.not_mem_nil⟩⟩⟩⟩⟩⟩⟩⟩⟩⟩⟩⟩⟩⟩⟩⟩⟩⟩⟩⟩⟩⟩⟩⟩⟩⟩⟩⟩⟩⟩⟩⟩⟩⟩⟩⟩⟩⟩⟩⟩⟩⟩⟩⟩⟩⟩⟩⟩⟩⟩⟩⟩⟩⟩⟩⟩⟩⟩⟩⟩⟩⟩⟩⟩⟩⟩⟩⟩⟩⟩⟩⟩⟩⟩⟩⟩⟩⟩⟩⟩⟩⟩⟩⟩⟩⟩⟩⟩⟩⟩⟩⟩⟩⟩⟩⟩⟩⟩⟩⟩⟩⟩⟩⟩⟩⟩⟩⟩⟩⟩⟩⟩⟩⟩
set_option maxRecDepth 20000 in
theorem w_c11 : ∀ w ∈ wC 11, w ∈ lw_tbl := List.forall_mem_cons.mpr ⟨t_1 (i := 20) (by decide +kernel), List.forall_mem_cons.mpr ⟨t_6 (i := 74) (by decide +kernel), fun _ h => absurd h List.not_mem_nil⟩⟩
theorem w_k11 : ∀ w ∈ wK 11, w ∈ lw_tbl := fun _ h => absurd h List.not_mem_nil
set_option maxRecDepth 20000 in
theorem w_l11 : ∀ w ∈ wLg 11, w ∈ lw_tbl := List.forall_mem_cons.mpr ⟨t_9 (i := 123) (by decide +kernel), fun _ h => absurd h List.not_mem_nil⟩
theorem w_f12 : ∀ w ∈ wF 12, w ∈ lw_tbl := fun _ h => absurd h List.not_mem_nil
theorem w_m12 : ∀ w ∈ wMt 12, w ∈ lw_tbl := fun _ h => absurd h List.not_mem_nil
theorem w_c12 : ∀ w ∈ wC 12, w ∈ lw_tbl := fun _ h => absurd h List.not_mem_nil
set_option maxRecDepth 20000 in
theorem w_k12 : ∀ w ∈ wK 12, w ∈ lw_tbl := List.forall_mem_cons.mpr ⟨t_5 (i := 32) (by decide +kernel), List.forall_mem_cons.mpr ⟨t_5 (i := 33) (by decide +kernel), List.forall_mem_cons.mpr ⟨t_5 (i := 34) (by decide +kernel), fun _ h => absurd h List.not_mem_nil⟩⟩⟩
theorem w_l12 : ∀ w ∈ wLg 12, w ∈ lw_tbl := fun _ h => absurd h List.not_mem_nil
theorem w_f13 : ∀ w ∈ wF 13, w ∈ lw_tbl := fun _ h => absurd h List.not_mem_nil
theorem w_m13 : ∀ w ∈ wMt 13, w ∈ lw_tbl := fun _ h => absurd h List.not_mem_nil
theorem w_c13 : ∀ w ∈ wC 13, w ∈ lw_tbl := fun _ h => absurd h List.not_mem_nil
theorem w_k13 : ∀ w ∈ wK 13, w ∈ lw_tbl := fun _ h => absurd h List.not_mem_nil
theorem w_l13 : ∀ w ∈ wLg 13, w ∈ lw_tbl := fun _ h => absurd h List.not_mem_nil
set_option maxRecDepth 20000 in
theorem w_cl0 : ∀ w ∈ wCls 0, w ∈ lw_tbl := List.forall_mem_cons.mpr ⟨t_2 (i := 100) (by decide +kernel), List.forall_mem_cons.mpr ⟨t_2 (i := 102) (by decide +kernel), List.forall_mem_cons.mpr ⟨t_2 (i := 104) (by decide +kernel), List.forall_mem_cons.mpr ⟨t_2 (i := 106) (by decide +kernel), List.forall_mem_cons.mpr ⟨t_2 (i := 91) (by decide +kernel), fun _ h => absurd h List.not_mem_nil⟩⟩⟩⟩⟩
set_option maxRecDepth 20000 in
theorem w_cl1 : ∀ w ∈ wCls 1, w ∈ lw_tbl := List.forall_mem_cons.mpr ⟨t_2 (i := 81) (by decide +kernel), List.forall_mem_cons.mpr ⟨t_2 (i := 83) (by decide +kernel), List.forall_mem_cons.mpr ⟨t_2 (i := 85) (by decide +kernel), List.forall_mem_cons.mpr ⟨t_2 (i := 87) (by decide +kernel), List.forall_mem_cons.mpr ⟨t_2 (i := 71) (by decide +kernel), fun _ h => absurd h List.not_mem_nil⟩⟩⟩⟩⟩
set_option maxRecDepth 20000 in
theorem w_cl2 : ∀ w ∈ wCls 2, w ∈ lw_tbl := List.forall_mem_cons.mpr ⟨t_2 (i := 125) (by decide +kernel), List.forall_mem_cons.mpr ⟨t_2 (i := 127) (by decide +kernel), List.forall_mem_cons.mpr ⟨t_2 (i := 129) (by decide +kernel), List.forall_mem_cons.mpr ⟨t_2 (i := 131) (by decide +kernel), List.forall_mem_cons.mpr ⟨t_2 (i := 133) (by decide +kernel), List.forall_mem_cons.mpr ⟨t_2 (i := 135) (by decide +kernel), List.forall_mem_cons.mpr ⟨t_2 (i := 137) (by decide +kernel), List.forall_mem_cons.mpr ⟨t_2 (i := 110) (by decide +kernel), fun _ h => absurd h List.not_mem_nil⟩⟩⟩⟩⟩⟩⟩⟩
set_option maxRecDepth 20000 in
theorem w_cl3 : ∀ w ∈ wCls 3, w ∈ lw_tbl := List.forall_mem_cons.mpr ⟨t_2 (i := 14) (by decide +kernel), List.forall_mem_cons.mpr ⟨t_2 (i := 16) (by decide +kernel), List.forall_mem_cons.mpr ⟨t_2 (i := 18) (by decide +kernel), List.forall_mem_cons.mpr ⟨t_2 (i := 20) (by decide +kernel), List.forall_mem_cons.mpr ⟨t_2 (i := 22) (by decide +kernel), List.forall_mem_cons.mpr ⟨t_2 (i := 24) (by decide +kernel), List.forall_mem_cons.mpr ⟨t_2 (i := 26) (by decide +kernel), List.forall_mem_cons.mpr ⟨t_2 (i := 28) (by decide +kernel), List.forall_mem_cons.mpr ⟨t_2 (i := 30) (by decide +kernel), List.forall_mem_cons.mpr ⟨t_1 (i := 218) (by decide +kernel), fun _ h => absurd h List.not_mem_nil⟩⟩⟩⟩⟩⟩⟩⟩⟩⟩
set_option maxRecDepth 20000 in
theorem w_cl4 : ∀ w ∈ wCls 4, w ∈ lw_tbl := List.forall_mem_cons.mpr ⟨t_2 (i := 57) (by decide +kernel), List.forall_mem_cons.mpr ⟨t_2 (i := 59) (by decide +kernel), List.forall_mem_cons.mpr ⟨t_2 (i := 61) (by decide +kernel), List.forall_mem_cons.mpr ⟨t_2 (i := 63) (by decide +kernel), List.forall_mem_cons.mpr ⟨t_2 (i := 65) (by decide +kernel), List.forall_mem_cons.mpr ⟨t_2 (i := 47) (by decide +kernel), fun _ h => absurd h List.not_mem_nil⟩⟩⟩⟩⟩⟩
set_option maxRecDepth 20000 in
theorem w_cl5 : ∀ w ∈ wCls 5, w ∈ lw_tbl := List.forall_mem_cons.mpr ⟨t_1 (i := 75) (by decide +kernel), List.forall_mem_cons.mpr ⟨t_1 (i := 77) (by decide +kernel), List.forall_mem_cons.mpr ⟨t_1 (i := 79) (by decide +kernel), List.forall_mem_cons.mpr ⟨t_1 (i := 81) (by decide +kernel), List.forall_mem_cons.mpr ⟨t_1 (i := 83) (by decide +kernel), List.forall_mem_cons.mpr ⟨t_1 (i := 85) (by decide +kernel), List.forall_mem_cons.mpr ⟨t_1 (i := 87) (by decide +kernel), List.forall_mem_cons.mpr ⟨t_1 (i := 89) (by decide +kernel), List.forall_mem_cons.mpr ⟨t_1 (i := 91) (by decide +kernel), List.forall_mem_cons.mpr ⟨t_1 (i := 93) (by decide +kernel), List.forall_mem_cons.mpr ⟨t_1 (i := 95) (by decide +kernel), List.forall_mem_cons.mpr ⟨t_1 (i := 97) (by decide +kernel), List.forall_mem_cons.mpr ⟨t_1 (i := 99) (by decide +kernel), List.forall_mem_cons.mpr ⟨t_1 (i := 101) (by decide +kernel), List.forall_mem_cons.mpr ⟨t_1 (i := 49) (by decide +kernel), fun _ h => absurd h List.not_mem_nil⟩⟩⟩⟩⟩⟩⟩⟩⟩⟩⟩⟩⟩⟩⟩
set_option maxRecDepth 20000 in
theorem w_cl6 : ∀ w ∈ wCls 6, w ∈ lw_tbl := List.forall_mem_cons.mpr ⟨t_1 (i := 40) (by decide +kernel), List.forall_mem_cons.mpr ⟨t_1 (i := 42) (by decide +kernel), List.forall_mem_cons.mpr ⟨t_1 (i := 44) (by decide +kernel), List.forall_mem_cons.mpr ⟨t_1 (i := 30) (by decide +kernel), fun _ h => absurd h List.not_mem_nil⟩⟩⟩⟩
set_option maxRecDepth 20000 in
theorem w_cl7 : ∀ w ∈ wCls 7, w ∈ lw_tbl := List.forall_mem_cons.mpr ⟨t_1 (i := 176) (by decide +kernel), List.forall_mem_cons.mpr ⟨t_1 (i := 178) (by decide +kernel), List.forall_mem_cons.mpr ⟨t_1 (i := 180) (by decide +kernel), List.forall_mem_cons.mpr ⟨t_1 (i := 182) (by decide +kernel), List.forall_mem_cons.mpr ⟨t_1 (i := 184) (by decide +kernel), List.forall_mem_cons.mpr ⟨t_1 (i := 186) (by decide +kernel), List.forall_mem_cons.mpr ⟨t_1 (i := 188) (by decide +kernel), List.forall_mem_cons.mpr ⟨t_1 (i := 190) (by decide +kernel), List.forall_mem_cons.mpr ⟨t_1 (i := 192) (by decide +kernel), List.forall_mem_cons.mpr ⟨t_1 (i := 194) (by decide +kernel), List.forall_mem_cons.mpr ⟨t_1 (i := 196) (by decide +kernel), List.forall_mem_cons.mpr ⟨t_1 (i := 198) (by decide +kernel), List.forall_mem_cons.mpr ⟨t_1 (i := 200) (by decide +kernel), List.forall_mem_cons.mpr ⟨t_1 (i := 202) (by decide +kernel), List.forall_mem_cons.mpr ⟨t_1 (i := 204) (by decide +kernel), List.forall_mem_cons.mpr ⟨t_1 (i := 206) (by decide +kernel), List.forall_mem_cons.mpr ⟨t_1 (i := 208) (by decide +kernel), List.forall_mem_cons.mpr ⟨t_1 (i := 210) (by decide +kernel), List.forall_mem_cons.mpr ⟨t_1 (i := 212) (by decide +kernel), List.forall_mem_cons.mpr ⟨t_1 (i := 214) (by decide +kernel), List.forall_mem_cons.mpr ⟨t_1 (i := 107) (by decide +kernel), fun _ h => absurd h List.not_mem_nil⟩⟩⟩⟩⟩⟩⟩⟩⟩⟩⟩⟩⟩⟩⟩⟩⟩⟩⟩⟩⟩
set_option maxRecDepth 20000 in
theorem w_cl8 : ∀ w ∈ wCls 8, w ∈ lw_tbl := List.forall_mem_cons.mpr ⟨t_2 (i := 41) (by decide +kernel), List.forall_mem_cons.mpr ⟨t_2 (i := 43) (by decide +kernel), List.forall_mem_cons.mpr ⟨t_2 (i := 34) (by decide +kernel), fun _ h => absurd h List.not_mem_nil⟩⟩⟩
set_option maxRecDepth 20000 in
theorem w_cl9 : ∀ w ∈ wCls 9, w ∈ lw_tbl := List.forall_mem_cons.mpr ⟨t_2 (i := 159) (by decide +kernel), List.forall_mem_cons.mpr ⟨t_2 (i := 161) (by decide +kernel), List.forall_mem_cons.mpr ⟨t_2 (i := 163) (by decide +kernel), List.forall_mem_cons.mpr ⟨t_2 (i := 165) (by decide +kernel), List.forall_mem_cons.mpr ⟨t_2 (i := 167) (by decide +kernel), List.forall_mem_cons.mpr ⟨t_2 (i := 169) (by decide +kernel), List.forall_mem_cons.mpr ⟨t_2 (i := 171) (by decide +kernel), List.forall_mem_cons.mpr ⟨t_2 (i := 173) (by decide +kernel), List.forall_mem_cons.mpr ⟨t_2 (i := 175) (by decide +kernel), List.forall_mem_cons.mpr ⟨t_2 (i := 177) (by decide +kernel), List.forall_mem_cons.mpr ⟨t_2 (i := 179) (by decide +kernel), List.forall_mem_cons.mpr ⟨t_2 (i := 181) (by decide +kernel), List.forall_mem_cons.mpr ⟨t_2 (i := 183) (by decide +kernel), List.forall_mem_cons.mpr ⟨t_2 (i := 185) (by decide +kernel), List.forall_mem_cons.mpr ⟨t_2 (i := 187) (by decide +kernel), List.forall_mem_cons.mpr ⟨t_2 (i := 189) (by decide +kernel), List.forall_mem_cons.mpr ⟨t_2 (i := 191) (by decide +kernel), List.forall_mem_cons.mpr ⟨t_2 (i := 193) (by decide +kernel), List.forall_mem_cons.mpr ⟨t_2 (i := 195) (by decide +kernel), List.forall_mem_cons.mpr ⟨t_1 (i := 21) (by decide +kernel), fun _ h => absurd h List.not_mem_nil⟩⟩⟩⟩⟩⟩⟩⟩⟩⟩⟩⟩⟩⟩⟩⟩⟩⟩⟩⟩
set_option maxRecDepth 20000 in
theorem w_cl10 : ∀ w ∈ wCls 10, w ∈ lw_tbl := List.forall_mem_cons.mpr ⟨t_6 (i := 123) (by decide +kernel), List.forall_mem_cons.mpr ⟨t_6 (i := 125) (by decide +kernel), List.forall_mem_cons.mpr ⟨t_6 (i := 127) (by decide +kernel), List.forall_mem_cons.mpr ⟨t_6 (i := 129) (by decide +kernel), List.forall_mem_cons.mpr ⟨t_6 (i := 131) (by decide +kernel), List.forall_mem_cons.mpr ⟨t_6 (i := 133) (by decide +kernel), List.forall_mem_cons.mpr ⟨t_6 (i := 135) (by decide +kernel), List.forall_mem_cons.mpr ⟨t_6 (i := 137) (by decide +kernel), List.forall_mem_cons.mpr ⟨t_6 (i := 139) (by decide +kernel), List.forall_mem_cons.mpr ⟨t_6 (i := 141) (by decide +kernel), List.forall_mem_cons.mpr ⟨t_6 (i := 143) (by decide +kernel), List.forall_mem_cons.mpr ⟨t_6 (i := 145) (by decide +kernel), List.forall_mem_cons.mpr ⟨t_6 (i := 147) (by decide +kernel), List.forall_mem_cons.mpr ⟨t_6 (i := 149) (by decide +kernel), List.forall_mem_cons.mpr ⟨t_6 (i := 151) (by decide +kernel), List.forall_mem_cons.mpr ⟨t_6 (i := 153) (by decide +kernel), List.forall_mem_cons.mpr ⟨t_6 (i := 155) (by decide +kernel), List.forall_mem_cons.mpr ⟨t_6 (i := 157) (by decide +kernel), List.forall_mem_cons.mpr ⟨t_6 (i := 159) (by decide +kernel), List.forall_mem_cons.mpr ⟨t_6 (i := 161) (by decide +kernel), List.forall_mem_cons.mpr ⟨t_6 (i := 163) (by decide +kernel), List.forall_mem_cons.mpr ⟨t_6 (i := 165) (by decide +kernel), List.forall_mem_cons.mpr ⟨t_6 (i := 167) (by decide +kernel), List.forall_mem_cons.mpr ⟨t_6 (i := 169) (by decide +kernel), List.forall_mem_cons.mpr ⟨t_6 (i := 171) (by decide +kernel), List.forall_mem_cons.mpr ⟨t_6 (i := 173) (by decide +kernel), List.forall_mem_cons.mpr ⟨t_6 (i := 175) (by decide +kernel), List.forall_mem_cons.mpr ⟨t_6 (i := 177) (by decide +kernel), List.forall_mem_cons.mpr ⟨t_6 (i := 179) (by decide +kernel), List.forall_mem_cons.mpr ⟨t_6 (i := 181) (by decide +kernel), List.forall_mem_cons.mpr ⟨t_6 (i := 183) (by decide +kernel), List.forall_mem_cons.mpr ⟨t_6 (i := 185) (by decide +kernel), List.forall_mem_cons.mpr ⟨t_6 (i := 187) (by decide +kernel), List.forall_mem_cons.mpr ⟨t_6 (i := 189) (by decide +kernel), List.forall_mem_cons.mpr ⟨t_6 (i := 191) (by decide +kernel), List.forall_mem_cons.mpr ⟨t_6 (i := 193) (by decide +kernel), List.forall_mem_cons.mpr ⟨t_6 (i := 195) (by decide +kernel), List.forall_mem_cons.mpr ⟨t_6 (i := 197) (by decide +kernel), List.forall_mem_cons.mpr ⟨t_6 (i := 199) (by decide +kernel), List.forall_mem_cons.mpr ⟨t_6 (i := 75) (by decide +kernel), fun _ h => absurd h List.not_mem_nil⟩⟩⟩⟩⟩⟩⟩⟩⟩⟩⟩⟩⟩⟩⟩⟩⟩⟩⟩⟩⟩⟩⟩⟩⟩⟩⟩⟩⟩⟩⟩⟩⟩⟩⟩⟩⟩⟩⟩⟩
set_option maxRecDepth 20000 in
theorem w_y0 : ∀ w ∈ wY 0, w ∈ lw_tbl := List.forall_mem_cons.mpr ⟨t_1 (i := 33) (by decide +kernel), List.forall_mem_cons.mpr ⟨t_1 (i := 32) (by decide +kernel), fun _ h => absurd h List.not_mem_nil⟩⟩
set_option maxRecDepth 20000 in
theorem w_y1 : ∀ w ∈ wY 1, w ∈ lw_tbl := List.forall_mem_cons.mpr ⟨t_3 (i := 8) (by decide +kernel), List.forall_mem_cons.mpr ⟨t_3 (i := 6) (by decide +kernel), List.forall_mem_cons.mpr ⟨t_3 (i := 7) (by decide +kernel), fun _ h => absurd h List.not_mem_nil⟩⟩⟩
set_option maxRecDepth 20000 in
theorem w_y2 : ∀ w ∈ wY 2, w ∈ lw_tbl := List.forall_mem_cons.mpr ⟨t_3 (i := 12) (by decide +kernel), List.forall_mem_cons.mpr ⟨t_3 (i := 10) (by decide +kernel), List.forall_mem_cons.mpr ⟨t_3 (i := 11) (by decide +kernel), fun _ h => absurd h List.not_mem_nil⟩⟩⟩
set_option maxRecDepth 20000 in
theorem w_y3 : ∀ w ∈ wY 3, w ∈ lw_tbl := List.forall_mem_cons.mpr ⟨t_3 (i := 37) (by decide +kernel), List.forall_mem_cons.mpr ⟨t_3 (i := 35) (by decide +kernel), List.forall_mem_cons.mpr ⟨t_3 (i := 36) (by decide +kernel), fun _ h => absurd h List.not_mem_nil⟩⟩⟩
set_option maxRecDepth 20000 in
theorem w_y4 : ∀ w ∈ wY 4, w ∈ lw_tbl := List.forall_mem_cons.mpr ⟨t_2 (i := 229) (by decide +kernel), List.forall_mem_cons.mpr ⟨t_2 (i := 227) (by decide +kernel), List.forall_mem_cons.mpr ⟨t_2 (i := 228) (by decide +kernel), fun _ h => absurd h List.not_mem_nil⟩⟩⟩
set_option maxRecDepth 20000 in
theorem w_y5 : ∀ w ∈ wY 5, w ∈ lw_tbl := List.forall_mem_cons.mpr ⟨t_3 (i := 16) (by decide +kernel), List.forall_mem_cons.mpr ⟨t_3 (i := 14) (by decide +kernel), List.forall_mem_cons.mpr ⟨t_3 (i := 15) (by decide +kernel), fun _ h => absurd h List.not_mem_nil⟩⟩⟩
set_option maxRecDepth 20000 in
theorem w_y6 : ∀ w ∈ wY 6, w ∈ lw_tbl := List.forall_mem_cons.mpr ⟨t_3 (i := 21) (by decide +kernel), List.forall_mem_cons.mpr ⟨t_3 (i := 20) (by decide +kernel), List.forall_mem_cons.mpr ⟨t_0 (i := 3) (by decide +kernel), fun _ h => absurd h List.not_mem_nil⟩⟩⟩
set_option maxRecDepth 20000 in
theorem w_y7 : ∀ w ∈ wY 7, w ∈ lw_tbl := List.forall_mem_cons.mpr ⟨t_1 (i := 110) (by decide +kernel), List.forall_mem_cons.mpr ⟨t_1 (i := 109) (by decide +kernel), fun _ h => absurd h List.not_mem_nil⟩⟩
set_option maxRecDepth 20000 in
theorem w_y8 : ∀ w ∈ wY 8, w ∈ lw_tbl := List.forall_mem_cons.mpr ⟨t_1 (i := 115) (by decide +kernel), List.forall_mem_cons.mpr ⟨t_1 (i := 113) (by decide +kernel), List.forall_mem_cons.mpr ⟨t_1 (i := 114) (by decide +kernel), fun _ h => absurd h List.not_mem_nil⟩⟩⟩
set_option maxRecDepth 20000 in
theorem w_y9 : ∀ w ∈ wY 9, w ∈ lw_tbl := List.forall_mem_cons.mpr ⟨t_5 (i := 153) (by decide +kernel), List.forall_mem_cons.mpr ⟨t_5 (i := 151) (by decide +kernel), List.forall_mem_cons.mpr ⟨t_5 (i := 152) (by decide +kernel), fun _ h => absurd h List.not_mem_nil⟩⟩⟩
set_option maxRecDepth 20000 in
theorem w_y10 : ∀ w ∈ wY 10, w ∈ lw_tbl := List.forall_mem_cons.mpr ⟨t_3 (i := 184) (by decide +kernel), List.forall_mem_cons.mpr ⟨t_3 (i := 182) (by decide +kernel), List.forall_mem_cons.mpr ⟨t_3 (i := 183) (by decide +kernel), fun _ h => absurd h List.not_mem_nil⟩⟩⟩
set_option maxRecDepth 20000 in
theorem w_y11 : ∀ w ∈ wY 11, w ∈ lw_tbl := List.forall_mem_cons.mpr ⟨t_3 (i := 200) (by decide +kernel), List.forall_mem_cons.mpr ⟨t_3 (i := 198) (by decide +kernel), List.forall_mem_cons.mpr ⟨t_3 (i := 199) (by decide +kernel), fun _ h => absurd h List.not_mem_nil⟩⟩⟩
set_option maxRecDepth 20000 in
theorem w_y12 : ∀ w ∈ wY 12, w ∈ lw_tbl := List.forall_mem_cons.mpr ⟨t_3 (i := 208) (by decide +kernel), List.forall_mem_cons.mpr ⟨t_3 (i := 206) (by decide +kernel), List.forall_mem_cons.mpr ⟨t_3 (i := 207) (by decide +kernel), fun _ h => absurd h List.not_mem_nil⟩⟩⟩
set_option maxRecDepth 20000 in
theorem w_y13 : ∀ w ∈ wY 13, w ∈ lw_tbl := List.forall_mem_cons.mpr ⟨t_4 (i := 47) (by decide +kernel), List.forall_mem_cons.mpr ⟨t_4 (i := 45) (by decide +kernel), List.forall_mem_cons.mpr ⟨t_4 (i := 46) (by decide +kernel), fun _ h => absurd h List.not_mem_nil⟩⟩⟩
set_option maxRecDepth 20000 in
theorem w_y14 : ∀ w ∈ wY 14, w ∈ lw_tbl := List.forall_mem_cons.mpr ⟨t_4 (i := 71) (by decide +kernel), List.forall_mem_cons.mpr ⟨t_4 (i := 69) (by decide +kernel), List.forall_mem_cons.mpr ⟨t_4 (i := 70) (by decide +kernel), fun _ h => absurd h List.not_mem_nil⟩⟩⟩
set_option maxRecDepth 20000 in
theorem w_y15 : ∀ w ∈ wY 15, w ∈ lw_tbl := List.forall_mem_cons.mpr ⟨t_4 (i := 111) (by decide +kernel), List.forall_mem_cons.mpr ⟨t_4 (i := 109) (by decide +kernel), List.forall_mem_cons.mpr ⟨t_4 (i := 110) (by decide +kernel), fun _ h => absurd h List.not_mem_nil⟩⟩⟩
set_option maxRecDepth 20000 in
theorem w_y16 : ∀ w ∈ wY 16, w ∈ lw_tbl := List.forall_mem_cons.mpr ⟨t_3 (i := 196) (by decide +kernel), List.forall_mem_cons.mpr ⟨t_3 (i := 194) (by decide +kernel), List.forall_mem_cons.mpr ⟨t_3 (i := 195) (by decide +kernel), fun _ h => absurd h List.not_mem_nil⟩⟩⟩
set_option maxRecDepth 20000 in
theorem w_y17 : ∀ w ∈ wY 17, w ∈ lw_tbl := List.forall_mem_cons.mpr ⟨t_4 (i := 31) (by decide +kernel), List.forall_mem_cons.mpr ⟨t_4 (i := 29) (by decide +kernel), List.forall_mem_cons.mpr ⟨t_4 (i := 30) (by decide +kernel), fun _ h => absurd h List.not_mem_nil⟩⟩⟩
set_option maxRecDepth 20000 in
theorem w_y18 : ∀ w ∈ wY 18, w ∈ lw_tbl := List.forall_mem_cons.mpr ⟨t_4 (i := 27) (by decide +kernel), List.forall_mem_cons.mpr ⟨t_4 (i := 25) (by decide +kernel), List.forall_mem_cons.mpr ⟨t_4 (i := 26) (by decide +kernel), fun _ h => absurd h List.not_mem_nil⟩⟩⟩
set_option maxRecDepth 20000 in
theorem w_y19 : ∀ w ∈ wY 19, w ∈ lw_tbl := List.forall_mem_cons.mpr ⟨t_4 (i := 35) (by decide +kernel), List.forall_mem_cons.mpr ⟨t_4 (i := 33) (by decide +kernel), List.forall_mem_cons.mpr ⟨t_4 (i := 34) (by decide +kernel), fun _ h => absurd h List.not_mem_nil⟩⟩⟩
set_option maxRecDepth 20000 in
theorem w_y20 : ∀ w ∈ wY 20, w ∈ lw_tbl := List.forall_mem_cons.mpr ⟨t_6 (i := 5) (by decide +kernel), List.forall_mem_cons.mpr ⟨t_6 (i := 3) (by decide +kernel), List.forall_mem_cons.mpr ⟨t_6 (i := 4) (by decide +kernel), fun _ h => absurd h List.not_mem_nil⟩⟩⟩
set_option maxRecDepth 20000 in
theorem w_y21 : ∀ w ∈ wY 21, w ∈ lw_tbl := List.forall_mem_cons.mpr ⟨t_6 (i := 60) (by decide +kernel), List.forall_mem_cons.mpr ⟨t_6 (i := 58) (by decide +kernel), List.forall_mem_cons.mpr ⟨t_6 (i := 59) (by decide +kernel), fun _ h => absurd h List.not_mem_nil⟩⟩⟩
set_option maxRecDepth 20000 in
theorem w_y22 : ∀ w ∈ wY 22, w ∈ lw_tbl := List.forall_mem_cons.mpr ⟨t_4 (i := 39) (by decide +kernel), List.forall_mem_cons.mpr ⟨t_4 (i := 38) (by decide +kernel), List.forall_mem_cons.mpr ⟨t_0 (i := 21) (by decide +kernel), fun _ h => absurd h List.not_mem_nil⟩⟩⟩
set_option maxRecDepth 20000 in
theorem w_y23 : ∀ w ∈ wY 23, w ∈ lw_tbl := List.forall_mem_cons.mpr ⟨t_4 (i := 63) (by decide +kernel), List.forall_mem_cons.mpr ⟨t_4 (i := 62) (by decide +kernel), List.forall_mem_cons.mpr ⟨t_0 (i := 22) (by decide +kernel), fun _ h => absurd h List.not_mem_nil⟩⟩⟩
set_option maxRecDepth 20000 in
theorem w_y24 : ∀ w ∈ wY 24, w ∈ lw_tbl := List.forall_mem_cons.mpr ⟨t_4 (i := 59) (by decide +kernel), List.forall_mem_cons.mpr ⟨t_4 (i := 57) (by decide +kernel), List.forall_mem_cons.mpr ⟨t_4 (i := 58) (by decide +kernel), fun _ h => absurd h List.not_mem_nil⟩⟩⟩
set_option maxRecDepth 20000 in
theorem w_y25 : ∀ w ∈ wY 25, w ∈ lw_tbl := List.forall_mem_cons.mpr ⟨t_4 (i := 124) (by decide +kernel), List.forall_mem_cons.mpr ⟨t_4 (i := 122) (by decide +kernel), List.forall_mem_cons.mpr ⟨t_4 (i := 123) (by decide +kernel), fun _ h => absurd h List.not_mem_nil⟩⟩⟩
set_option maxRecDepth 20000 in
theorem w_y26 : ∀ w ∈ wY 26, w ∈ lw_tbl := List.forall_mem_cons.mpr ⟨t_4 (i := 55) (by decide +kernel), List.forall_mem_cons.mpr ⟨t_4 (i := 53) (by decide +kernel), List.forall_mem_cons.mpr ⟨t_4 (i := 54) (by decide +kernel), fun _ h => absurd h List.not_mem_nil⟩⟩⟩
set_option maxRecDepth 20000 in
theorem w_y27 : ∀ w ∈ wY 27, w ∈ lw_tbl := List.forall_mem_cons.mpr ⟨t_4 (i := 51) (by decide +kernel), List.forall_mem_cons.mpr ⟨t_4 (i := 49) (by decide +kernel), List.forall_mem_cons.mpr ⟨t_4 (i := 50) (by decide +kernel), fun _ h => absurd h List.not_mem_nil⟩⟩⟩
set_option maxRecDepth 20000 in
theorem w_y28 : ∀ w ∈ wY 28, w ∈ lw_tbl := List.forall_mem_cons.mpr ⟨t_4 (i := 212) (by decide +kernel), List.forall_mem_cons.mpr ⟨t_4 (i := 210) (by decide +kernel), List.forall_mem_cons.mpr ⟨t_4 (i := 211) (by decide +kernel), fun _ h => absurd h List.not_mem_nil⟩⟩⟩
set_option maxRecDepth 20000 in
theorem w_y29 : ∀ w ∈ wY 29, w ∈ lw_tbl := List.forall_mem_cons.mpr ⟨t_4 (i := 87) (by decide +kernel), List.forall_mem_cons.mpr ⟨t_4 (i := 86) (by decide +kernel), List.forall_mem_cons.mpr ⟨t_0 (i := 23) (by decide +kernel), fun _ h => absurd h List.not_mem_nil⟩⟩⟩
set_option maxRecDepth 20000 in
theorem w_y30 : ∀ w ∈ wY 30, w ∈ lw_tbl := List.forall_mem_cons.mpr ⟨t_4 (i := 221) (by decide +kernel), List.forall_mem_cons.mpr ⟨t_4 (i := 219) (by decide +kernel), List.forall_mem_cons.mpr ⟨t_4 (i := 220) (by decide +kernel), fun _ h => absurd h List.not_mem_nil⟩⟩⟩
set_option maxRecDepth 20000 in
theorem w_y31 : ∀ w ∈ wY 31, w ∈ lw_tbl := List.forall_mem_cons.mpr ⟨t_4 (i := 120) (by decide +kernel), List.forall_mem_cons.mpr ⟨t_4 (i := 118) (by decide +kernel), List.forall_mem_cons.mpr ⟨t_4 (i := 119) (by decide +kernel), fun _ h => absurd h List.not_mem_nil⟩⟩⟩
set_option maxRecDepth 20000 in
theorem w_y32 : ∀ w ∈ wY 32, w ∈ lw_tbl := List.forall_mem_cons.mpr ⟨t_5 (i := 130) (by decide +kernel), List.forall_mem_cons.mpr ⟨t_5 (i := 128) (by decide +kernel), List.forall_mem_cons.mpr ⟨t_5 (i := 129) (by decide +kernel), fun _ h => absurd h List.not_mem_nil⟩⟩⟩
set_option maxRecDepth 20000 in
theorem w_y33 : ∀ w ∈ wY 33, w ∈ lw_tbl := List.forall_mem_cons.mpr ⟨t_4 (i := 99) (by decide +kernel), List.forall_mem_cons.mpr ⟨t_4 (i := 97) (by decide +kernel), List.forall_mem_cons.mpr ⟨t_4 (i := 98) (by decide +kernel), fun _ h => absurd h List.not_mem_nil⟩⟩⟩
set_option maxRecDepth 20000 in
theorem w_y34 : ∀ w ∈ wY 34, w ∈ lw_tbl := List.forall_mem_cons.mpr ⟨t_5 (i := 2) (by decide +kernel), List.forall_mem_cons.mpr ⟨t_5 (i := 0) (by decide +kernel), List.forall_mem_cons.mpr ⟨t_5 (i := 1) (by decide +kernel), fun _ h => absurd h List.not_mem_nil⟩⟩⟩
set_option maxRecDepth 20000 in
theorem w_y35 : ∀ w ∈ wY 35, w ∈ lw_tbl := List.forall_mem_cons.mpr ⟨t_5 (i := 14) (by decide +kernel), List.forall_mem_cons.mpr ⟨t_5 (i := 12) (by decide +kernel), List.forall_mem_cons.mpr ⟨t_5 (i := 13) (by decide +kernel), fun _ h => absurd h List.not_mem_nil⟩⟩⟩
set_option maxRecDepth 20000 in
theorem w_y36 : ∀ w ∈ wY 36, w ∈ lw_tbl := List.forall_mem_cons.mpr ⟨t_5 (i := 10) (by decide +kernel), List.forall_mem_cons.mpr ⟨t_5 (i := 8) (by decide +kernel), List.forall_mem_cons.mpr ⟨t_5 (i := 9) (by decide +kernel), fun _ h => absurd h List.not_mem_nil⟩⟩⟩
set_option maxRecDepth 20000 in
theorem w_y37 : ∀ w ∈ wY 37, w ∈ lw_tbl := List.forall_mem_cons.mpr ⟨t_5 (i := 27) (by decide +kernel), List.forall_mem_cons.mpr ⟨t_5 (i := 25) (by decide +kernel), List.forall_mem_cons.mpr ⟨t_5 (i := 26) (by decide +kernel), fun _ h => absurd h List.not_mem_nil⟩⟩⟩
set_option maxRecDepth 20000 in
theorem w_y38 : ∀ w ∈ wY 38, w ∈ lw_tbl := List.forall_mem_cons.mpr ⟨t_4 (i := 161) (by decide +kernel), List.forall_mem_cons.mpr ⟨t_4 (i := 159) (by decide +kernel), List.forall_mem_cons.mpr ⟨t_4 (i := 160) (by decide +kernel), fun _ h => absurd h List.not_mem_nil⟩⟩⟩
set_option maxRecDepth 20000 in
theorem w_y39 : ∀ w ∈ wY 39, w ∈ lw_tbl := List.forall_mem_cons.mpr ⟨t_5 (i := 143) (by decide +kernel), List.forall_mem_cons.mpr ⟨t_5 (i := 141) (by decide +kernel), List.forall_mem_cons.mpr ⟨t_5 (i := 142) (by decide +kernel), fun _ h => absurd h List.not_mem_nil⟩⟩⟩
set_option maxRecDepth 20000 in
theorem w_y40 : ∀ w ∈ wY 40, w ∈ lw_tbl := List.forall_mem_cons.mpr ⟨t_4 (i := 83) (by decide +kernel), List.forall_mem_cons.mpr ⟨t_4 (i := 81) (by decide +kernel), List.forall_mem_cons.mpr ⟨t_4 (i := 82) (by decide +kernel), fun _ h => absurd h List.not_mem_nil⟩⟩⟩
set_option maxRecDepth 20000 in
theorem w_y41 : ∀ w ∈ wY 41, w ∈ lw_tbl := List.forall_mem_cons.mpr ⟨t_4 (i := 116) (by decide +kernel), List.forall_mem_cons.mpr ⟨t_4 (i := 114) (by decide +kernel), List.forall_mem_cons.mpr ⟨t_4 (i := 115) (by decide +kernel), fun _ h => absurd h List.not_mem_nil⟩⟩⟩
set_option maxRecDepth 20000 in
theorem w_y42 : ∀ w ∈ wY 42, w ∈ lw_tbl := List.forall_mem_cons.mpr ⟨t_4 (i := 91) (by decide +kernel), List.forall_mem_cons.mpr ⟨t_4 (i := 90) (by decide +kernel), List.forall_mem_cons.mpr ⟨t_0 (i := 24) (by decide +kernel), fun _ h => absurd h List.not_mem_nil⟩⟩⟩
set_option maxRecDepth 20000 in
theorem w_y43 : ∀ w ∈ wY 43, w ∈ lw_tbl := List.forall_mem_cons.mpr ⟨t_4 (i := 95) (by decide +kernel), List.forall_mem_cons.mpr ⟨t_4 (i := 94) (by decide +kernel), List.forall_mem_cons.mpr ⟨t_0 (i := 25) (by decide +kernel), fun _ h => absurd h List.not_mem_nil⟩⟩⟩
set_option maxRecDepth 20000 in
theorem w_y44 : ∀ w ∈ wY 44, w ∈ lw_tbl := List.forall_mem_cons.mpr ⟨t_4 (i := 140) (by decide +kernel), List.forall_mem_cons.mpr ⟨t_4 (i := 138) (by decide +kernel), List.forall_mem_cons.mpr ⟨t_4 (i := 139) (by decide +kernel), fun _ h => absurd h List.not_mem_nil⟩⟩⟩
set_option maxRecDepth 20000 in
theorem w_y45 : ∀ w ∈ wY 45, w ∈ lw_tbl := List.forall_mem_cons.mpr ⟨t_4 (i := 136) (by decide +kernel), List.forall_mem_cons.mpr ⟨t_4 (i := 134) (by decide +kernel), List.forall_mem_cons.mpr ⟨t_4 (i := 135) (by decide +kernel), fun _ h => absurd h List.not_mem_nil⟩⟩⟩
set_option maxRecDepth 20000 in
theorem w_y46 : ∀ w ∈ wY 46, w ∈ lw_tbl := List.forall_mem_cons.mpr ⟨t_4 (i := 148) (by decide +kernel), List.forall_mem_cons.mpr ⟨t_4 (i := 146) (by decide +kernel), List.forall_mem_cons.mpr ⟨t_4 (i := 147) (by decide +kernel), fun _ h => absurd h List.not_mem_nil⟩⟩⟩
set_option maxRecDepth 20000 in
theorem w_y47 : ∀ w ∈ wY 47, w ∈ lw_tbl := List.forall_mem_cons.mpr ⟨t_6 (i := 26) (by decide +kernel), List.forall_mem_cons.mpr ⟨t_6 (i := 24) (by decide +kernel), List.forall_mem_cons.mpr ⟨t_6 (i := 25) (by decide +kernel), fun _ h => absurd h List.not_mem_nil⟩⟩⟩
set_option maxRecDepth 20000 in
theorem w_y48 : ∀ w ∈ wY 48, w ∈ lw_tbl := List.forall_mem_cons.mpr ⟨t_4 (i := 157) (by decide +kernel), List.forall_mem_cons.mpr ⟨t_4 (i := 155) (by decide +kernel), List.forall_mem_cons.mpr ⟨t_4 (i := 156) (by decide +kernel), fun _ h => absurd h List.not_mem_nil⟩⟩⟩
set_option maxRecDepth 20000 in
theorem w_y49 : ∀ w ∈ wY 49, w ∈ lw_tbl := List.forall_mem_cons.mpr ⟨t_5 (i := 104) (by decide +kernel), List.forall_mem_cons.mpr ⟨t_5 (i := 102) (by decide +kernel), List.forall_mem_cons.mpr ⟨t_5 (i := 103) (by decide +kernel), fun _ h => absurd h List.not_mem_nil⟩⟩⟩
set_option maxRecDepth 20000 in
theorem w_y50 : ∀ w ∈ wY 50, w ∈ lw_tbl := List.forall_mem_cons.mpr ⟨t_5 (i := 108) (by decide +kernel), List.forall_mem_cons.mpr ⟨t_5 (i := 107) (by decide +kernel), List.forall_mem_cons.mpr ⟨t_0 (i := 33) (by decide +kernel), fun _ h => absurd h List.not_mem_nil⟩⟩⟩
set_option maxRecDepth 20000 in
theorem w_y51 : ∀ w ∈ wY 51, w ∈ lw_tbl := List.forall_mem_cons.mpr ⟨t_5 (i := 100) (by decide +kernel), List.forall_mem_cons.mpr ⟨t_5 (i := 98) (by decide +kernel), List.forall_mem_cons.mpr ⟨t_5 (i := 99) (by decide +kernel), fun _ h => absurd h List.not_mem_nil⟩⟩⟩
set_option maxRecDepth 20000 in
theorem w_y52 : ∀ w ∈ wY 52, w ∈ lw_tbl := List.forall_mem_cons.mpr ⟨t_5 (i := 196) (by decide +kernel), List.forall_mem_cons.mpr ⟨t_5 (i := 194) (by decide +kernel), List.forall_mem_cons.mpr ⟨t_5 (i := 195) (by decide +kernel), fun _ h => absurd h List.not_mem_nil⟩⟩⟩
set_option maxRecDepth 20000 in
theorem w_y53 : ∀ w ∈ wY 53, w ∈ lw_tbl := List.forall_mem_cons.mpr ⟨t_5 (i := 200) (by decide +kernel), List.forall_mem_cons.mpr ⟨t_5 (i := 198) (by decide +kernel), List.forall_mem_cons.mpr ⟨t_5 (i := 199) (by decide +kernel), fun _ h => absurd h List.not_mem_nil⟩⟩⟩
set_option maxRecDepth 20000 in
theorem w_y54 : ∀ w ∈ wY 54, w ∈ lw_tbl := List.forall_mem_cons.mpr ⟨t_5 (i := 208) (by decide +kernel), List.forall_mem_cons.mpr ⟨t_5 (i := 207) (by decide +kernel), List.forall_mem_cons.mpr ⟨t_0 (i := 40) (by decide +kernel), fun _ h => absurd h List.not_mem_nil⟩⟩⟩
set_option maxRecDepth 20000 in
theorem w_y55 : ∀ w ∈ wY 55, w ∈ lw_tbl := List.forall_mem_cons.mpr ⟨t_5 (i := 204) (by decide +kernel), List.forall_mem_cons.mpr ⟨t_5 (i := 203) (by decide +kernel), List.forall_mem_cons.mpr ⟨t_0 (i := 39) (by decide +kernel), fun _ h => absurd h List.not_mem_nil⟩⟩⟩
set_option maxRecDepth 20000 in
theorem w_y56 : ∀ w ∈ wY 56, w ∈ lw_tbl := List.forall_mem_cons.mpr ⟨t_1 (i := 52) (by decide +kernel), List.forall_mem_cons.mpr ⟨t_1 (i := 51) (by decide +kernel), fun _ h => absurd h List.not_mem_nil⟩⟩
set_option maxRecDepth 20000 in
theorem w_y57 : ∀ w ∈ wY 57, w ∈ lw_tbl := List.forall_mem_cons.mpr ⟨t_3 (i := 48) (by decide +kernel), List.forall_mem_cons.mpr ⟨t_3 (i := 46) (by decide +kernel), List.forall_mem_cons.mpr ⟨t_3 (i := 47) (by decide +kernel), fun _ h => absurd h List.not_mem_nil⟩⟩⟩
set_option maxRecDepth 20000 in
theorem w_y58 : ∀ w ∈ wY 58, w ∈ lw_tbl := List.forall_mem_cons.mpr ⟨t_3 (i := 52) (by decide +kernel), List.forall_mem_cons.mpr ⟨t_3 (i := 50) (by decide +kernel), List.forall_mem_cons.mpr ⟨t_3 (i := 51) (by decide +kernel), fun _ h => absurd h List.not_mem_nil⟩⟩⟩
set_option maxRecDepth 20000 in
theorem w_y59 : ∀ w ∈ wY 59, w ∈ lw_tbl := List.forall_mem_cons.mpr ⟨t_3 (i := 60) (by decide +kernel), List.forall_mem_cons.mpr ⟨t_3 (i := 58) (by decide +kernel), List.forall_mem_cons.mpr ⟨t_3 (i := 59) (by decide +kernel), fun _ h => absurd h List.not_mem_nil⟩⟩⟩
set_option maxRecDepth 20000 in
theorem w_y60 : ∀ w ∈ wY 60, w ∈ lw_tbl := List.forall_mem_cons.mpr ⟨t_3 (i := 72) (by decide +kernel), List.forall_mem_cons.mpr ⟨t_3 (i := 70) (by decide +kernel), List.forall_mem_cons.mpr ⟨t_3 (i := 71) (by decide +kernel), fun _ h => absurd h List.not_mem_nil⟩⟩⟩
set_option maxRecDepth 20000 in
theorem w_y61 : ∀ w ∈ wY 61, w ∈ lw_tbl := List.forall_mem_cons.mpr ⟨t_3 (i := 76) (by decide +kernel), List.forall_mem_cons.mpr ⟨t_3 (i := 75) (by decide +kernel), List.forall_mem_cons.mpr ⟨t_0 (i := 5) (by decide +kernel), fun _ h => absurd h List.not_mem_nil⟩⟩⟩
set_option maxRecDepth 20000 in
theorem w_y62 : ∀ w ∈ wY 62, w ∈ lw_tbl := List.forall_mem_cons.mpr ⟨t_3 (i := 83) (by decide +kernel), List.forall_mem_cons.mpr ⟨t_3 (i := 82) (by decide +kernel), List.forall_mem_cons.mpr ⟨t_0 (i := 6) (by decide +kernel), fun _ h => absurd h List.not_mem_nil⟩⟩⟩
set_option maxRecDepth 20000 in
theorem w_y63 : ∀ w ∈ wY 63, w ∈ lw_tbl := List.forall_mem_cons.mpr ⟨t_3 (i := 144) (by decide +kernel), List.forall_mem_cons.mpr ⟨t_3 (i := 143) (by decide +kernel), List.forall_mem_cons.mpr ⟨t_0 (i := 8) (by decide +kernel), fun _ h => absurd h List.not_mem_nil⟩⟩⟩
set_option maxRecDepth 20000 in
theorem w_y64 : ∀ w ∈ wY 64, w ∈ lw_tbl := List.forall_mem_cons.mpr ⟨t_3 (i := 88) (by decide +kernel), List.forall_mem_cons.mpr ⟨t_3 (i := 87) (by decide +kernel), List.forall_mem_cons.mpr ⟨t_0 (i := 7) (by decide +kernel), fun _ h => absurd h List.not_mem_nil⟩⟩⟩
set_option maxRecDepth 20000 in
theorem w_y65 : ∀ w ∈ wY 65, w ∈ lw_tbl := List.forall_mem_cons.mpr ⟨t_3 (i := 79) (by decide +kernel), List.forall_mem_cons.mpr ⟨t_3 (i := 78) (by decide +kernel), fun _ h => absurd h List.not_mem_nil⟩⟩
set_option maxRecDepth 20000 in
theorem w_y66 : ∀ w ∈ wY 66, w ∈ lw_tbl := List.forall_mem_cons.mpr ⟨t_3 (i := 140) (by decide +kernel), List.forall_mem_cons.mpr ⟨t_3 (i := 139) (by decide +kernel), fun _ h => absurd h List.not_mem_nil⟩⟩
set_option maxRecDepth 20000 in
theorem w_y67 : ∀ w ∈ wY 67, w ∈ lw_tbl := List.forall_mem_cons.mpr ⟨t_3 (i := 147) (by decide +kernel), List.forall_mem_cons.mpr ⟨t_3 (i := 146) (by decide +kernel), fun _ h => absurd h List.not_mem_nil⟩⟩
set_option maxRecDepth 20000 in
theorem w_y68 : ∀ w ∈ wY 68, w ∈ lw_tbl := List.forall_mem_cons.mpr ⟨t_3 (i := 151) (by decide +kernel), List.forall_mem_cons.mpr ⟨t_3 (i := 149) (by decide +kernel), List.forall_mem_cons.mpr ⟨t_3 (i := 150) (by decide +kernel), fun _ h => absurd h List.not_mem_nil⟩⟩⟩
set_option maxRecDepth 20000 in
theorem w_y69 : ∀ w ∈ wY 69, w ∈ lw_tbl := List.forall_mem_cons.mpr ⟨t_3 (i := 166) (by decide +kernel), List.forall_mem_cons.mpr ⟨t_3 (i := 164) (by decide +kernel), List.forall_mem_cons.mpr ⟨t_3 (i := 165) (by decide +kernel), fun _ h => absurd h List.not_mem_nil⟩⟩⟩
set_option maxRecDepth 20000 in
theorem w_y70 : ∀ w ∈ wY 70, w ∈ lw_tbl := List.forall_mem_cons.mpr ⟨t_3 (i := 176) (by decide +kernel), List.forall_mem_cons.mpr ⟨t_3 (i := 174) (by decide +kernel), List.forall_mem_cons.mpr ⟨t_3 (i := 175) (by decide +kernel), fun _ h => absurd h List.not_mem_nil⟩⟩⟩
set_option maxRecDepth 20000 in
theorem w_y71 : ∀ w ∈ wY 71, w ∈ lw_tbl := List.forall_mem_cons.mpr ⟨t_3 (i := 171) (by decide +kernel), List.forall_mem_cons.mpr ⟨t_3 (i := 169) (by decide +kernel), List.forall_mem_cons.mpr ⟨t_3 (i := 170) (by decide +kernel), fun _ h => absurd h List.not_mem_nil⟩⟩⟩
set_option maxRecDepth 20000 in
theorem w_y72 : ∀ w ∈ wY 72, w ∈ lw_tbl := List.forall_mem_cons.mpr ⟨t_1 (i := 221) (by decide +kernel), List.forall_mem_cons.mpr ⟨t_1 (i := 220) (by decide +kernel), fun _ h => absurd h List.not_mem_nil⟩⟩
set_option maxRecDepth 20000 in
theorem w_y73 : ∀ w ∈ wY 73, w ∈ lw_tbl := List.forall_mem_cons.mpr ⟨t_1 (i := 226) (by decide +kernel), List.forall_mem_cons.mpr ⟨t_1 (i := 224) (by decide +kernel), List.forall_mem_cons.mpr ⟨t_1 (i := 225) (by decide +kernel), fun _ h => absurd h List.not_mem_nil⟩⟩⟩
set_option maxRecDepth 20000 in
theorem w_y74 : ∀ w ∈ wY 74, w ∈ lw_tbl := List.forall_mem_cons.mpr ⟨t_6 (i := 68) (by decide +kernel), List.forall_mem_cons.mpr ⟨t_6 (i := 66) (by decide +kernel), List.forall_mem_cons.mpr ⟨t_6 (i := 67) (by decide +kernel), fun _ h => absurd h List.not_mem_nil⟩⟩⟩
set_option maxRecDepth 20000 in
theorem w_y75 : ∀ w ∈ wY 75, w ∈ lw_tbl := List.forall_mem_cons.mpr ⟨t_2 (i := 37) (by decide +kernel), List.forall_mem_cons.mpr ⟨t_2 (i := 36) (by decide +kernel), fun _ h => absurd h List.not_mem_nil⟩⟩
set_option maxRecDepth 20000 in
theorem w_y76 : ∀ w ∈ wY 76, w ∈ lw_tbl := List.forall_mem_cons.mpr ⟨t_3 (i := 67) (by decide +kernel), List.forall_mem_cons.mpr ⟨t_3 (i := 65) (by decide +kernel), List.forall_mem_cons.mpr ⟨t_3 (i := 66) (by decide +kernel), fun _ h => absurd h List.not_mem_nil⟩⟩⟩
set_option maxRecDepth 20000 in
theorem w_y77 : ∀ w ∈ wY 77, w ∈ lw_tbl := List.forall_mem_cons.mpr ⟨t_3 (i := 155) (by decide +kernel), List.forall_mem_cons.mpr ⟨t_3 (i := 154) (by decide +kernel), List.forall_mem_cons.mpr ⟨t_0 (i := 9) (by decide +kernel), fun _ h => absurd h List.not_mem_nil⟩⟩⟩
set_option maxRecDepth 20000 in
theorem w_y78 : ∀ w ∈ wY 78, w ∈ lw_tbl := List.forall_mem_cons.mpr ⟨t_3 (i := 159) (by decide +kernel), List.forall_mem_cons.mpr ⟨t_3 (i := 158) (by decide +kernel), List.forall_mem_cons.mpr ⟨t_0 (i := 10) (by decide +kernel), fun _ h => absurd h List.not_mem_nil⟩⟩⟩
set_option maxRecDepth 20000 in
theorem w_y79 : ∀ w ∈ wY 79, w ∈ lw_tbl := List.forall_mem_cons.mpr ⟨t_3 (i := 180) (by decide +kernel), List.forall_mem_cons.mpr ⟨t_3 (i := 179) (by decide +kernel), List.forall_mem_cons.mpr ⟨t_0 (i := 11) (by decide +kernel), fun _ h => absurd h List.not_mem_nil⟩⟩⟩
set_option maxRecDepth 20000 in
theorem w_y80 : ∀ w ∈ wY 80, w ∈ lw_tbl := List.forall_mem_cons.mpr ⟨t_3 (i := 192) (by decide +kernel), List.forall_mem_cons.mpr ⟨t_3 (i := 191) (by decide +kernel), List.forall_mem_cons.mpr ⟨t_0 (i := 13) (by decide +kernel), fun _ h => absurd h List.not_mem_nil⟩⟩⟩
set_option maxRecDepth 20000 in
theorem w_y81 : ∀ w ∈ wY 81, w ∈ lw_tbl := List.forall_mem_cons.mpr ⟨t_3 (i := 204) (by decide +kernel), List.forall_mem_cons.mpr ⟨t_3 (i := 203) (by decide +kernel), List.forall_mem_cons.mpr ⟨t_0 (i := 14) (by decide +kernel), fun _ h => absurd h List.not_mem_nil⟩⟩⟩
set_option maxRecDepth 20000 in
theorem w_y82 : ∀ w ∈ wY 82, w ∈ lw_tbl := List.forall_mem_cons.mpr ⟨t_3 (i := 188) (by decide +kernel), List.forall_mem_cons.mpr ⟨t_3 (i := 187) (by decide +kernel), List.forall_mem_cons.mpr ⟨t_0 (i := 12) (by decide +kernel), fun _ h => absurd h List.not_mem_nil⟩⟩⟩
set_option maxRecDepth 20000 in
theorem w_y83 : ∀ w ∈ wY 83, w ∈ lw_tbl := List.forall_mem_cons.mpr ⟨t_2 (i := 50) (by decide +kernel), List.forall_mem_cons.mpr ⟨t_2 (i := 49) (by decide +kernel), fun _ h => absurd h List.not_mem_nil⟩⟩
set_option maxRecDepth 20000 in
theorem w_y84 : ∀ w ∈ wY 84, w ∈ lw_tbl := List.forall_mem_cons.mpr ⟨t_3 (i := 222) (by decide +kernel), List.forall_mem_cons.mpr ⟨t_3 (i := 220) (by decide +kernel), List.forall_mem_cons.mpr ⟨t_3 (i := 221) (by decide +kernel), fun _ h => absurd h List.not_mem_nil⟩⟩⟩
set_option maxRecDepth 20000 in
theorem w_y85 : ∀ w ∈ wY 85, w ∈ lw_tbl := List.forall_mem_cons.mpr ⟨t_3 (i := 229) (by decide +kernel), List.forall_mem_cons.mpr ⟨t_3 (i := 228) (by decide +kernel), List.forall_mem_cons.mpr ⟨t_0 (i := 16) (by decide +kernel), fun _ h => absurd h List.not_mem_nil⟩⟩⟩
set_option maxRecDepth 20000 in
theorem w_y86 : ∀ w ∈ wY 86, w ∈ lw_tbl := List.forall_mem_cons.mpr ⟨t_3 (i := 238) (by decide +kernel), List.forall_mem_cons.mpr ⟨t_3 (i := 237) (by decide +kernel), fun _ h => absurd h List.not_mem_nil⟩⟩
set_option maxRecDepth 20000 in
theorem w_y87 : ∀ w ∈ wY 87, w ∈ lw_tbl := List.forall_mem_cons.mpr ⟨t_3 (i := 233) (by decide +kernel), List.forall_mem_cons.mpr ⟨t_3 (i := 232) (by decide +kernel), List.forall_mem_cons.mpr ⟨t_0 (i := 17) (by decide +kernel), fun _ h => absurd h List.not_mem_nil⟩⟩⟩
set_option maxRecDepth 20000 in
theorem w_y88 : ∀ w ∈ wY 88, w ∈ lw_tbl := List.forall_mem_cons.mpr ⟨t_4 (i := 2) (by decide +kernel), List.forall_mem_cons.mpr ⟨t_4 (i := 1) (by decide +kernel), List.forall_mem_cons.mpr ⟨t_0 (i := 18) (by decide +kernel), fun _ h => absurd h List.not_mem_nil⟩⟩⟩
set_option maxRecDepth 20000 in
theorem w_y89 : ∀ w ∈ wY 89, w ∈ lw_tbl := List.forall_mem_cons.mpr ⟨t_4 (i := 15) (by decide +kernel), List.forall_mem_cons.mpr ⟨t_4 (i := 14) (by decide +kernel), List.forall_mem_cons.mpr ⟨t_0 (i := 20) (by decide +kernel), fun _ h => absurd h List.not_mem_nil⟩⟩⟩
set_option maxRecDepth 20000 in
theorem w_y90 : ∀ w ∈ wY 90, w ∈ lw_tbl := List.forall_mem_cons.mpr ⟨t_4 (i := 6) (by decide +kernel), List.forall_mem_cons.mpr ⟨t_4 (i := 5) (by decide +kernel), List.forall_mem_cons.mpr ⟨t_0 (i := 19) (by decide +kernel), fun _ h => absurd h List.not_mem_nil⟩⟩⟩
set_option maxRecDepth 20000 in
theorem w_y91 : ∀ w ∈ wY 91, w ∈ lw_tbl := List.forall_mem_cons.mpr ⟨t_4 (i := 10) (by decide +kernel), List.forall_mem_cons.mpr ⟨t_4 (i := 9) (by decide +kernel), fun _ h => absurd h List.not_mem_nil⟩⟩
set_option maxRecDepth 20000 in
theorem w_y92 : ∀ w ∈ wY 92, w ∈ lw_tbl := List.forall_mem_cons.mpr ⟨t_2 (i := 74) (by decide +kernel), List.forall_mem_cons.mpr ⟨t_2 (i := 73) (by decide +kernel), fun _ h => absurd h List.not_mem_nil⟩⟩
set_option maxRecDepth 20000 in
theorem w_y93 : ∀ w ∈ wY 93, w ∈ lw_tbl := List.forall_mem_cons.mpr ⟨t_5 (i := 47) (by decide +kernel), List.forall_mem_cons.mpr ⟨t_5 (i := 45) (by decide +kernel), List.forall_mem_cons.mpr ⟨t_5 (i := 46) (by decide +kernel), fun _ h => absurd h List.not_mem_nil⟩⟩⟩
set_option maxRecDepth 20000 in
theorem w_y94 : ∀ w ∈ wY 94, w ∈ lw_tbl := List.forall_mem_cons.mpr ⟨t_5 (i := 51) (by decide +kernel), List.forall_mem_cons.mpr ⟨t_5 (i := 50) (by decide +kernel), fun _ h => absurd h List.not_mem_nil⟩⟩
set_option maxRecDepth 20000 in
theorem w_y95 : ∀ w ∈ wY 95, w ∈ lw_tbl := List.forall_mem_cons.mpr ⟨t_5 (i := 57) (by decide +kernel), List.forall_mem_cons.mpr ⟨t_5 (i := 56) (by decide +kernel), List.forall_mem_cons.mpr ⟨t_0 (i := 29) (by decide +kernel), fun _ h => absurd h List.not_mem_nil⟩⟩⟩
set_option maxRecDepth 20000 in
theorem w_y96 : ∀ w ∈ wY 96, w ∈ lw_tbl := List.forall_mem_cons.mpr ⟨t_5 (i := 62) (by decide +kernel), List.forall_mem_cons.mpr ⟨t_5 (i := 61) (by decide +kernel), List.forall_mem_cons.mpr ⟨t_0 (i := 30) (by decide +kernel), fun _ h => absurd h List.not_mem_nil⟩⟩⟩
set_option maxRecDepth 20000 in
theorem w_y97 : ∀ w ∈ wY 97, w ∈ lw_tbl := List.forall_mem_cons.mpr ⟨t_5 (i := 65) (by decide +kernel), List.forall_mem_cons.mpr ⟨t_5 (i := 64) (by decide +kernel), fun _ h => absurd h List.not_mem_nil⟩⟩
set_option maxRecDepth 20000 in
theorem w_y98 : ∀ w ∈ wY 98, w ∈ lw_tbl := List.forall_mem_cons.mpr ⟨t_5 (i := 69) (by decide +kernel), List.forall_mem_cons.mpr ⟨t_5 (i := 67) (by decide +kernel), List.forall_mem_cons.mpr ⟨t_5 (i := 68) (by decide +kernel), fun _ h => absurd h List.not_mem_nil⟩⟩⟩
set_option maxRecDepth 20000 in
theorem w_y99 : ∀ w ∈ wY 99, w ∈ lw_tbl := List.forall_mem_cons.mpr ⟨t_5 (i := 88) (by decide +kernel), List.forall_mem_cons.mpr ⟨t_5 (i := 86) (by decide +kernel), List.forall_mem_cons.mpr ⟨t_5 (i := 87) (by decide +kernel), fun _ h => absurd h List.not_mem_nil⟩⟩⟩
set_option maxRecDepth 20000 in
theorem w_y100 : ∀ w ∈ wY 100, w ∈ lw_tbl := List.forall_mem_cons.mpr ⟨t_5 (i := 92) (by decide +kernel), List.forall_mem_cons.mpr ⟨t_5 (i := 91) (by decide +kernel), List.forall_mem_cons.mpr ⟨t_0 (i := 32) (by decide +kernel), fun _ h => absurd h List.not_mem_nil⟩⟩⟩
set_option maxRecDepth 20000 in
theorem w_y101 : ∀ w ∈ wY 101, w ∈ lw_tbl := List.forall_mem_cons.mpr ⟨t_2 (i := 94) (by decide +kernel), List.forall_mem_cons.mpr ⟨t_2 (i := 93) (by decide +kernel), fun _ h => absurd h List.not_mem_nil⟩⟩
set_option maxRecDepth 20000 in
theorem w_y102 : ∀ w ∈ wY 102, w ∈ lw_tbl := List.forall_mem_cons.mpr ⟨t_5 (i := 158) (by decide +kernel), List.forall_mem_cons.mpr ⟨t_5 (i := 156) (by decide +kernel), List.forall_mem_cons.mpr ⟨t_5 (i := 157) (by decide +kernel), fun _ h => absurd h List.not_mem_nil⟩⟩⟩
set_option maxRecDepth 20000 in
theorem w_y103 : ∀ w ∈ wY 103, w ∈ lw_tbl := List.forall_mem_cons.mpr ⟨t_5 (i := 162) (by decide +kernel), List.forall_mem_cons.mpr ⟨t_5 (i := 160) (by decide +kernel), List.forall_mem_cons.mpr ⟨t_5 (i := 161) (by decide +kernel), fun _ h => absurd h List.not_mem_nil⟩⟩⟩
set_option maxRecDepth 20000 in
theorem w_y104 : ∀ w ∈ wY 104, w ∈ lw_tbl := List.forall_mem_cons.mpr ⟨t_5 (i := 188) (by decide +kernel), List.forall_mem_cons.mpr ⟨t_5 (i := 186) (by decide +kernel), List.forall_mem_cons.mpr ⟨t_5 (i := 187) (by decide +kernel), fun _ h => absurd h List.not_mem_nil⟩⟩⟩
set_option maxRecDepth 20000 in
theorem w_y105 : ∀ w ∈ wY 105, w ∈ lw_tbl := List.forall_mem_cons.mpr ⟨t_5 (i := 166) (by decide +kernel), List.forall_mem_cons.mpr ⟨t_5 (i := 165) (by decide +kernel), List.forall_mem_cons.mpr ⟨t_0 (i := 36) (by decide +kernel), fun _ h => absurd h List.not_mem_nil⟩⟩⟩
set_option maxRecDepth 20000 in
theorem w_y106 : ∀ w ∈ wY 106, w ∈ lw_tbl := List.forall_mem_cons.mpr ⟨t_5 (i := 176) (by decide +kernel), List.forall_mem_cons.mpr ⟨t_5 (i := 175) (by decide +kernel), List.forall_mem_cons.mpr ⟨t_0 (i := 38) (by decide +kernel), fun _ h => absurd h List.not_mem_nil⟩⟩⟩
set_option maxRecDepth 20000 in
theorem w_y107 : ∀ w ∈ wY 107, w ∈ lw_tbl := List.forall_mem_cons.mpr ⟨t_5 (i := 170) (by decide +kernel), List.forall_mem_cons.mpr ⟨t_5 (i := 169) (by decide +kernel), List.forall_mem_cons.mpr ⟨t_0 (i := 37) (by decide +kernel), fun _ h => absurd h List.not_mem_nil⟩⟩⟩
set_option maxRecDepth 20000 in
theorem w_y108 : ∀ w ∈ wY 108, w ∈ lw_tbl := List.forall_mem_cons.mpr ⟨t_2 (i := 113) (by decide +kernel), List.forall_mem_cons.mpr ⟨t_2 (i := 112) (by decide +kernel), fun _ h => absurd h List.not_mem_nil⟩⟩
set_option maxRecDepth 20000 in
theorem w_y109 : ∀ w ∈ wY 109, w ∈ lw_tbl := List.forall_mem_cons.mpr ⟨t_6 (i := 9) (by decide +kernel), List.forall_mem_cons.mpr ⟨t_6 (i := 7) (by decide +kernel), List.forall_mem_cons.mpr ⟨t_6 (i := 8) (by decide +kernel), fun _ h => absurd h List.not_mem_nil⟩⟩⟩
set_option maxRecDepth 20000 in
theorem w_y110 : ∀ w ∈ wY 110, w ∈ lw_tbl := List.forall_mem_cons.mpr ⟨t_6 (i := 13) (by decide +kernel), List.forall_mem_cons.mpr ⟨t_6 (i := 12) (by decide +kernel), List.forall_mem_cons.mpr ⟨t_0 (i := 43) (by decide +kernel), fun _ h => absurd h List.not_mem_nil⟩⟩⟩
set_option maxRecDepth 20000 in
theorem w_y111 : ∀ w ∈ wY 111, w ∈ lw_tbl := List.forall_mem_cons.mpr ⟨t_6 (i := 39) (by decide +kernel), List.forall_mem_cons.mpr ⟨t_6 (i := 38) (by decide +kernel), List.forall_mem_cons.mpr ⟨t_0 (i := 47) (by decide +kernel), fun _ h => absurd h List.not_mem_nil⟩⟩⟩
set_option maxRecDepth 20000 in
theorem w_y112 : ∀ w ∈ wY 112, w ∈ lw_tbl := List.forall_mem_cons.mpr ⟨t_6 (i := 43) (by decide +kernel), List.forall_mem_cons.mpr ⟨t_6 (i := 42) (by decide +kernel), List.forall_mem_cons.mpr ⟨t_0 (i := 48) (by decide +kernel), fun _ h => absurd h List.not_mem_nil⟩⟩⟩
set_option maxRecDepth 20000 in
theorem w_y113 : ∀ w ∈ wY 113, w ∈ lw_tbl := List.forall_mem_cons.mpr ⟨t_6 (i := 48) (by decide +kernel), List.forall_mem_cons.mpr ⟨t_6 (i := 47) (by decide +kernel), List.forall_mem_cons.mpr ⟨t_0 (i := 49) (by decide +kernel), fun _ h => absurd h List.not_mem_nil⟩⟩⟩
set_option maxRecDepth 20000 in
theorem w_y114 : ∀ w ∈ wY 114, w ∈ lw_tbl := List.forall_mem_cons.mpr ⟨t_6 (i := 17) (by decide +kernel), List.forall_mem_cons.mpr ⟨t_6 (i := 16) (by decide +kernel), List.forall_mem_cons.mpr ⟨t_0 (i := 44) (by decide +kernel), fun _ h => absurd h List.not_mem_nil⟩⟩⟩
set_option maxRecDepth 20000 in
theorem w_y115 : ∀ w ∈ wY 115, w ∈ lw_tbl := List.forall_mem_cons.mpr ⟨t_6 (i := 30) (by decide +kernel), List.forall_mem_cons.mpr ⟨t_6 (i := 29) (by decide +kernel), List.forall_mem_cons.mpr ⟨t_0 (i := 45) (by decide +kernel), fun _ h => absurd h List.not_mem_nil⟩⟩⟩
set_option maxRecDepth 20000 in
theorem w_y116 : ∀ w ∈ wY 116, w ∈ lw_tbl := List.forall_mem_cons.mpr ⟨t_6 (i := 34) (by decide +kernel), List.forall_mem_cons.mpr ⟨t_6 (i := 33) (by decide +kernel), List.forall_mem_cons.mpr ⟨t_0 (i := 46) (by decide +kernel), fun _ h => absurd h List.not_mem_nil⟩⟩⟩
set_option maxRecDepth 20000 in
theorem w_y117 : ∀ w ∈ wY 117, w ∈ lw_tbl := List.forall_mem_cons.mpr ⟨t_1 (i := 24) (by decide +kernel), List.forall_mem_cons.mpr ⟨t_1 (i := 23) (by decide +kernel), fun _ h => absurd h List.not_mem_nil⟩⟩
set_option maxRecDepth 20000 in
theorem w_y118 : ∀ w ∈ wY 118, w ∈ lw_tbl := List.forall_mem_cons.mpr ⟨t_2 (i := 201) (by decide +kernel), List.forall_mem_cons.mpr ⟨t_2 (i := 199) (by decide +kernel), List.forall_mem_cons.mpr ⟨t_2 (i := 200) (by decide +kernel), fun _ h => absurd h List.not_mem_nil⟩⟩⟩
set_option maxRecDepth 20000 in
theorem w_y119 : ∀ w ∈ wY 119, w ∈ lw_tbl := List.forall_mem_cons.mpr ⟨t_2 (i := 205) (by decide +kernel), List.forall_mem_cons.mpr ⟨t_2 (i := 203) (by decide +kernel), List.forall_mem_cons.mpr ⟨t_2 (i := 204) (by decide +kernel), fun _ h => absurd h List.not_mem_nil⟩⟩⟩
set_option maxRecDepth 20000 in
theorem w_y120 : ∀ w ∈ wY 120, w ∈ lw_tbl := List.forall_mem_cons.mpr ⟨t_2 (i := 209) (by decide +kernel), List.forall_mem_cons.mpr ⟨t_2 (i := 207) (by decide +kernel), List.forall_mem_cons.mpr ⟨t_2 (i := 208) (by decide +kernel), fun _ h => absurd h List.not_mem_nil⟩⟩⟩
set_option maxRecDepth 20000 in
theorem w_y121 : ∀ w ∈ wY 121, w ∈ lw_tbl := List.forall_mem_cons.mpr ⟨t_2 (i := 213) (by decide +kernel), List.forall_mem_cons.mpr ⟨t_2 (i := 211) (by decide +kernel), List.forall_mem_cons.mpr ⟨t_2 (i := 212) (by decide +kernel), fun _ h => absurd h List.not_mem_nil⟩⟩⟩
set_option maxRecDepth 20000 in
theorem w_y122 : ∀ w ∈ wY 122, w ∈ lw_tbl := List.forall_mem_cons.mpr ⟨t_3 (i := 0) (by decide +kernel), List.forall_mem_cons.mpr ⟨t_2 (i := 238) (by decide +kernel), List.forall_mem_cons.mpr ⟨t_2 (i := 239) (by decide +kernel), fun _ h => absurd h List.not_mem_nil⟩⟩⟩
set_option maxRecDepth 20000 in
theorem w_y123 : ∀ w ∈ wY 123, w ∈ lw_tbl := List.forall_mem_cons.mpr ⟨t_3 (i := 25) (by decide +kernel), List.forall_mem_cons.mpr ⟨t_3 (i := 23) (by decide +kernel), List.forall_mem_cons.mpr ⟨t_3 (i := 24) (by decide +kernel), fun _ h => absurd h List.not_mem_nil⟩⟩⟩
set_option maxRecDepth 20000 in
theorem w_y124 : ∀ w ∈ wY 124, w ∈ lw_tbl := List.forall_mem_cons.mpr ⟨t_3 (i := 33) (by decide +kernel), List.forall_mem_cons.mpr ⟨t_3 (i := 31) (by decide +kernel), List.forall_mem_cons.mpr ⟨t_3 (i := 32) (by decide +kernel), fun _ h => absurd h List.not_mem_nil⟩⟩⟩
set_option maxRecDepth 20000 in
theorem w_y125 : ∀ w ∈ wY 125, w ∈ lw_tbl := List.forall_mem_cons.mpr ⟨t_3 (i := 44) (by decide +kernel), List.forall_mem_cons.mpr ⟨t_3 (i := 42) (by decide +kernel), List.forall_mem_cons.mpr ⟨t_3 (i := 43) (by decide +kernel), fun _ h => absurd h List.not_mem_nil⟩⟩⟩
set_option maxRecDepth 20000 in
theorem w_y126 : ∀ w ∈ wY 126, w ∈ lw_tbl := List.forall_mem_cons.mpr ⟨t_3 (i := 56) (by decide +kernel), List.forall_mem_cons.mpr ⟨t_3 (i := 54) (by decide +kernel), List.forall_mem_cons.mpr ⟨t_3 (i := 55) (by decide +kernel), fun _ h => absurd h List.not_mem_nil⟩⟩⟩
set_option maxRecDepth 20000 in
theorem w_y127 : ∀ w ∈ wY 127, w ∈ lw_tbl := List.forall_mem_cons.mpr ⟨t_3 (i := 217) (by decide +kernel), List.forall_mem_cons.mpr ⟨t_3 (i := 215) (by decide +kernel), List.forall_mem_cons.mpr ⟨t_3 (i := 216) (by decide +kernel), fun _ h => absurd h List.not_mem_nil⟩⟩⟩
set_option maxRecDepth 20000 in
theorem w_y128 : ∀ w ∈ wY 128, w ∈ lw_tbl := List.forall_mem_cons.mpr ⟨t_4 (i := 19) (by decide +kernel), List.forall_mem_cons.mpr ⟨t_4 (i := 17) (by decide +kernel), List.forall_mem_cons.mpr ⟨t_4 (i := 18) (by decide +kernel), fun _ h => absurd h List.not_mem_nil⟩⟩⟩
set_option maxRecDepth 20000 in
theorem w_y129 : ∀ w ∈ wY 129, w ∈ lw_tbl := List.forall_mem_cons.mpr ⟨t_4 (i := 23) (by decide +kernel), List.forall_mem_cons.mpr ⟨t_4 (i := 21) (by decide +kernel), List.forall_mem_cons.mpr ⟨t_4 (i := 22) (by decide +kernel), fun _ h => absurd h List.not_mem_nil⟩⟩⟩
set_option maxRecDepth 20000 in
theorem w_y130 : ∀ w ∈ wY 130, w ∈ lw_tbl := List.forall_mem_cons.mpr ⟨t_4 (i := 43) (by decide +kernel), List.forall_mem_cons.mpr ⟨t_4 (i := 41) (by decide +kernel), List.forall_mem_cons.mpr ⟨t_4 (i := 42) (by decide +kernel), fun _ h => absurd h List.not_mem_nil⟩⟩⟩
set_option maxRecDepth 20000 in
theorem w_y131 : ∀ w ∈ wY 131, w ∈ lw_tbl := List.forall_mem_cons.mpr ⟨t_4 (i := 67) (by decide +kernel), List.forall_mem_cons.mpr ⟨t_4 (i := 65) (by decide +kernel), List.forall_mem_cons.mpr ⟨t_4 (i := 66) (by decide +kernel), fun _ h => absurd h List.not_mem_nil⟩⟩⟩
set_option maxRecDepth 20000 in
theorem w_y132 : ∀ w ∈ wY 132, w ∈ lw_tbl := List.forall_mem_cons.mpr ⟨t_4 (i := 75) (by decide +kernel), List.forall_mem_cons.mpr ⟨t_4 (i := 73) (by decide +kernel), List.forall_mem_cons.mpr ⟨t_4 (i := 74) (by decide +kernel), fun _ h => absurd h List.not_mem_nil⟩⟩⟩
set_option maxRecDepth 20000 in
theorem w_y133 : ∀ w ∈ wY 133, w ∈ lw_tbl := List.forall_mem_cons.mpr ⟨t_4 (i := 79) (by decide +kernel), List.forall_mem_cons.mpr ⟨t_4 (i := 77) (by decide +kernel), List.forall_mem_cons.mpr ⟨t_4 (i := 78) (by decide +kernel), fun _ h => absurd h List.not_mem_nil⟩⟩⟩
set_option maxRecDepth 20000 in
theorem w_y134 : ∀ w ∈ wY 134, w ∈ lw_tbl := List.forall_mem_cons.mpr ⟨t_4 (i := 107) (by decide +kernel), List.forall_mem_cons.mpr ⟨t_4 (i := 105) (by decide +kernel), List.forall_mem_cons.mpr ⟨t_4 (i := 106) (by decide +kernel), fun _ h => absurd h List.not_mem_nil⟩⟩⟩
set_option maxRecDepth 20000 in
theorem w_y135 : ∀ w ∈ wY 135, w ∈ lw_tbl := List.forall_mem_cons.mpr ⟨t_4 (i := 132) (by decide +kernel), List.forall_mem_cons.mpr ⟨t_4 (i := 130) (by decide +kernel), List.forall_mem_cons.mpr ⟨t_4 (i := 131) (by decide +kernel), fun _ h => absurd h List.not_mem_nil⟩⟩⟩
set_option maxRecDepth 20000 in
theorem w_y136 : ∀ w ∈ wY 136, w ∈ lw_tbl := List.forall_mem_cons.mpr ⟨t_4 (i := 144) (by decide +kernel), List.forall_mem_cons.mpr ⟨t_4 (i := 142) (by decide +kernel), List.forall_mem_cons.mpr ⟨t_4 (i := 143) (by decide +kernel), fun _ h => absurd h List.not_mem_nil⟩⟩⟩
set_option maxRecDepth 20000 in
theorem w_y137 : ∀ w ∈ wY 137, w ∈ lw_tbl := List.forall_mem_cons.mpr ⟨t_4 (i := 152) (by decide +kernel), List.forall_mem_cons.mpr ⟨t_4 (i := 150) (by decide +kernel), List.forall_mem_cons.mpr ⟨t_4 (i := 151) (by decide +kernel), fun _ h => absurd h List.not_mem_nil⟩⟩⟩
set_option maxRecDepth 20000 in
theorem w_y138 : ∀ w ∈ wY 138, w ∈ lw_tbl := List.forall_mem_cons.mpr ⟨t_4 (i := 166) (by decide +kernel), List.forall_mem_cons.mpr ⟨t_4 (i := 164) (by decide +kernel), List.forall_mem_cons.mpr ⟨t_4 (i := 165) (by decide +kernel), fun _ h => absurd h List.not_mem_nil⟩⟩⟩
set_option maxRecDepth 20000 in
theorem w_y139 : ∀ w ∈ wY 139, w ∈ lw_tbl := List.forall_mem_cons.mpr ⟨t_4 (i := 174) (by decide +kernel), List.forall_mem_cons.mpr ⟨t_4 (i := 172) (by decide +kernel), List.forall_mem_cons.mpr ⟨t_4 (i := 173) (by decide +kernel), fun _ h => absurd h List.not_mem_nil⟩⟩⟩
set_option maxRecDepth 20000 in
theorem w_y140 : ∀ w ∈ wY 140, w ∈ lw_tbl := List.forall_mem_cons.mpr ⟨t_4 (i := 180) (by decide +kernel), List.forall_mem_cons.mpr ⟨t_4 (i := 178) (by decide +kernel), List.forall_mem_cons.mpr ⟨t_4 (i := 179) (by decide +kernel), fun _ h => absurd h List.not_mem_nil⟩⟩⟩
set_option maxRecDepth 20000 in
theorem w_y141 : ∀ w ∈ wY 141, w ∈ lw_tbl := List.forall_mem_cons.mpr ⟨t_4 (i := 186) (by decide +kernel), List.forall_mem_cons.mpr ⟨t_4 (i := 184) (by decide +kernel), List.forall_mem_cons.mpr ⟨t_4 (i := 185) (by decide +kernel), fun _ h => absurd h List.not_mem_nil⟩⟩⟩
set_option maxRecDepth 20000 in
theorem w_y142 : ∀ w ∈ wY 142, w ∈ lw_tbl := List.forall_mem_cons.mpr ⟨t_4 (i := 192) (by decide +kernel), List.forall_mem_cons.mpr ⟨t_4 (i := 190) (by decide +kernel), List.forall_mem_cons.mpr ⟨t_4 (i := 191) (by decide +kernel), fun _ h => absurd h List.not_mem_nil⟩⟩⟩
set_option maxRecDepth 20000 in
theorem w_y143 : ∀ w ∈ wY 143, w ∈ lw_tbl := List.forall_mem_cons.mpr ⟨t_4 (i := 198) (by decide +kernel), List.forall_mem_cons.mpr ⟨t_4 (i := 196) (by decide +kernel), List.forall_mem_cons.mpr ⟨t_4 (i := 197) (by decide +kernel), fun _ h => absurd h List.not_mem_nil⟩⟩⟩
set_option maxRecDepth 20000 in
theorem w_y144 : ∀ w ∈ wY 144, w ∈ lw_tbl := List.forall_mem_cons.mpr ⟨t_4 (i := 203) (by decide +kernel), List.forall_mem_cons.mpr ⟨t_4 (i := 201) (by decide +kernel), List.forall_mem_cons.mpr ⟨t_4 (i := 202) (by decide +kernel), fun _ h => absurd h List.not_mem_nil⟩⟩⟩
set_option maxRecDepth 20000 in
theorem w_y145 : ∀ w ∈ wY 145, w ∈ lw_tbl := List.forall_mem_cons.mpr ⟨t_4 (i := 208) (by decide +kernel), List.forall_mem_cons.mpr ⟨t_4 (i := 206) (by decide +kernel), List.forall_mem_cons.mpr ⟨t_4 (i := 207) (by decide +kernel), fun _ h => absurd h List.not_mem_nil⟩⟩⟩
set_option maxRecDepth 20000 in
theorem w_y146 : ∀ w ∈ wY 146, w ∈ lw_tbl := List.forall_mem_cons.mpr ⟨t_4 (i := 217) (by decide +kernel), List.forall_mem_cons.mpr ⟨t_4 (i := 215) (by decide +kernel), List.forall_mem_cons.mpr ⟨t_4 (i := 216) (by decide +kernel), fun _ h => absurd h List.not_mem_nil⟩⟩⟩
set_option maxRecDepth 20000 in
theorem w_y147 : ∀ w ∈ wY 147, w ∈ lw_tbl := List.forall_mem_cons.mpr ⟨t_4 (i := 225) (by decide +kernel), List.forall_mem_cons.mpr ⟨t_4 (i := 223) (by decide +kernel), List.forall_mem_cons.mpr ⟨t_4 (i := 224) (by decide +kernel), fun _ h => absurd h List.not_mem_nil⟩⟩⟩
set_option maxRecDepth 20000 in
theorem w_y148 : ∀ w ∈ wY 148, w ∈ lw_tbl := List.forall_mem_cons.mpr ⟨t_4 (i := 233) (by decide +kernel), List.forall_mem_cons.mpr ⟨t_4 (i := 231) (by decide +kernel), List.forall_mem_cons.mpr ⟨t_4 (i := 232) (by decide +kernel), fun _ h => absurd h List.not_mem_nil⟩⟩⟩
set_option maxRecDepth 20000 in
theorem w_y149 : ∀ w ∈ wY 149, w ∈ lw_tbl := List.forall_mem_cons.mpr ⟨t_4 (i := 238) (by decide +kernel), List.forall_mem_cons.mpr ⟨t_4 (i := 236) (by decide +kernel), List.forall_mem_cons.mpr ⟨t_4 (i := 237) (by decide +kernel), fun _ h => absurd h List.not_mem_nil⟩⟩⟩
set_option maxRecDepth 20000 in
theorem w_y150 : ∀ w ∈ wY 150, w ∈ lw_tbl := List.forall_mem_cons.mpr ⟨t_5 (i := 6) (by decide +kernel), List.forall_mem_cons.mpr ⟨t_5 (i := 4) (by decide +kernel), List.forall_mem_cons.mpr ⟨t_5 (i := 5) (by decide +kernel), fun _ h => absurd h List.not_mem_nil⟩⟩⟩
set_option maxRecDepth 20000 in
theorem w_y151 : ∀ w ∈ wY 151, w ∈ lw_tbl := List.forall_mem_cons.mpr ⟨t_5 (i := 19) (by decide +kernel), List.forall_mem_cons.mpr ⟨t_5 (i := 17) (by decide +kernel), List.forall_mem_cons.mpr ⟨t_5 (i := 18) (by decide +kernel), fun _ h => absurd h List.not_mem_nil⟩⟩⟩
set_option maxRecDepth 20000 in
theorem w_y152 : ∀ w ∈ wY 152, w ∈ lw_tbl := List.forall_mem_cons.mpr ⟨t_5 (i := 23) (by decide +kernel), List.forall_mem_cons.mpr ⟨t_5 (i := 21) (by decide +kernel), List.forall_mem_cons.mpr ⟨t_5 (i := 22) (by decide +kernel), fun _ h => absurd h List.not_mem_nil⟩⟩⟩
set_option maxRecDepth 20000 in
theorem w_y153 : ∀ w ∈ wY 153, w ∈ lw_tbl := List.forall_mem_cons.mpr ⟨t_5 (i := 38) (by decide +kernel), List.forall_mem_cons.mpr ⟨t_5 (i := 36) (by decide +kernel), List.forall_mem_cons.mpr ⟨t_5 (i := 37) (by decide +kernel), fun _ h => absurd h List.not_mem_nil⟩⟩⟩
set_option maxRecDepth 20000 in
theorem w_y154 : ∀ w ∈ wY 154, w ∈ lw_tbl := List.forall_mem_cons.mpr ⟨t_5 (i := 43) (by decide +kernel), List.forall_mem_cons.mpr ⟨t_5 (i := 41) (by decide +kernel), List.forall_mem_cons.mpr ⟨t_5 (i := 42) (by decide +kernel), fun _ h => absurd h List.not_mem_nil⟩⟩⟩
set_option maxRecDepth 20000 in
theorem w_y155 : ∀ w ∈ wY 155, w ∈ lw_tbl := List.forall_mem_cons.mpr ⟨t_5 (i := 75) (by decide +kernel), List.forall_mem_cons.mpr ⟨t_5 (i := 73) (by decide +kernel), List.forall_mem_cons.mpr ⟨t_5 (i := 74) (by decide +kernel), fun _ h => absurd h List.not_mem_nil⟩⟩⟩
set_option maxRecDepth 20000 in
theorem w_y156 : ∀ w ∈ wY 156, w ∈ lw_tbl := List.forall_mem_cons.mpr ⟨t_5 (i := 83) (by decide +kernel), List.forall_mem_cons.mpr ⟨t_5 (i := 81) (by decide +kernel), List.forall_mem_cons.mpr ⟨t_5 (i := 82) (by decide +kernel), fun _ h => absurd h List.not_mem_nil⟩⟩⟩
set_option maxRecDepth 20000 in
theorem w_y157 : ∀ w ∈ wY 157, w ∈ lw_tbl := List.forall_mem_cons.mpr ⟨t_5 (i := 96) (by decide +kernel), List.forall_mem_cons.mpr ⟨t_5 (i := 94) (by decide +kernel), List.forall_mem_cons.mpr ⟨t_5 (i := 95) (by decide +kernel), fun _ h => absurd h List.not_mem_nil⟩⟩⟩
set_option maxRecDepth 20000 in
theorem w_y158 : ∀ w ∈ wY 158, w ∈ lw_tbl := List.forall_mem_cons.mpr ⟨t_5 (i := 112) (by decide +kernel), List.forall_mem_cons.mpr ⟨t_5 (i := 110) (by decide +kernel), List.forall_mem_cons.mpr ⟨t_5 (i := 111) (by decide +kernel), fun _ h => absurd h List.not_mem_nil⟩⟩⟩
set_option maxRecDepth 20000 in
theorem w_y159 : ∀ w ∈ wY 159, w ∈ lw_tbl := List.forall_mem_cons.mpr ⟨t_5 (i := 117) (by decide +kernel), List.forall_mem_cons.mpr ⟨t_5 (i := 115) (by decide +kernel), List.forall_mem_cons.mpr ⟨t_5 (i := 116) (by decide +kernel), fun _ h => absurd h List.not_mem_nil⟩⟩⟩
set_option maxRecDepth 20000 in
theorem w_y160 : ∀ w ∈ wY 160, w ∈ lw_tbl := List.forall_mem_cons.mpr ⟨t_5 (i := 135) (by decide +kernel), List.forall_mem_cons.mpr ⟨t_5 (i := 133) (by decide +kernel), List.forall_mem_cons.mpr ⟨t_5 (i := 134) (by decide +kernel), fun _ h => absurd h List.not_mem_nil⟩⟩⟩
set_option maxRecDepth 20000 in
theorem w_y161 : ∀ w ∈ wY 161, w ∈ lw_tbl := List.forall_mem_cons.mpr ⟨t_5 (i := 139) (by decide +kernel), List.forall_mem_cons.mpr ⟨t_5 (i := 137) (by decide +kernel), List.forall_mem_cons.mpr ⟨t_5 (i := 138) (by decide +kernel), fun _ h => absurd h List.not_mem_nil⟩⟩⟩
set_option maxRecDepth 20000 in
theorem w_y162 : ∀ w ∈ wY 162, w ∈ lw_tbl := List.forall_mem_cons.mpr ⟨t_5 (i := 148) (by decide +kernel), List.forall_mem_cons.mpr ⟨t_5 (i := 146) (by decide +kernel), List.forall_mem_cons.mpr ⟨t_5 (i := 147) (by decide +kernel), fun _ h => absurd h List.not_mem_nil⟩⟩⟩
set_option maxRecDepth 20000 in
theorem w_y163 : ∀ w ∈ wY 163, w ∈ lw_tbl := List.forall_mem_cons.mpr ⟨t_5 (i := 184) (by decide +kernel), List.forall_mem_cons.mpr ⟨t_5 (i := 182) (by decide +kernel), List.forall_mem_cons.mpr ⟨t_5 (i := 183) (by decide +kernel), fun _ h => absurd h List.not_mem_nil⟩⟩⟩
set_option maxRecDepth 20000 in
theorem w_y164 : ∀ w ∈ wY 164, w ∈ lw_tbl := List.forall_mem_cons.mpr ⟨t_5 (i := 192) (by decide +kernel), List.forall_mem_cons.mpr ⟨t_5 (i := 190) (by decide +kernel), List.forall_mem_cons.mpr ⟨t_5 (i := 191) (by decide +kernel), fun _ h => absurd h List.not_mem_nil⟩⟩⟩
set_option maxRecDepth 20000 in
theorem w_y165 : ∀ w ∈ wY 165, w ∈ lw_tbl := List.forall_mem_cons.mpr ⟨t_5 (i := 213) (by decide +kernel), List.forall_mem_cons.mpr ⟨t_5 (i := 211) (by decide +kernel), List.forall_mem_cons.mpr ⟨t_5 (i := 212) (by decide +kernel), fun _ h => absurd h List.not_mem_nil⟩⟩⟩
set_option maxRecDepth 20000 in
theorem w_y166 : ∀ w ∈ wY 166, w ∈ lw_tbl := List.forall_mem_cons.mpr ⟨t_5 (i := 217) (by decide +kernel), List.forall_mem_cons.mpr ⟨t_5 (i := 215) (by decide +kernel), List.forall_mem_cons.mpr ⟨t_5 (i := 216) (by decide +kernel), fun _ h => absurd h List.not_mem_nil⟩⟩⟩
set_option maxRecDepth 20000 in
theorem w_y167 : ∀ w ∈ wY 167, w ∈ lw_tbl := List.forall_mem_cons.mpr ⟨t_5 (i := 232) (by decide +kernel), List.forall_mem_cons.mpr ⟨t_5 (i := 230) (by decide +kernel), List.forall_mem_cons.mpr ⟨t_5 (i := 231) (by decide +kernel), fun _ h => absurd h List.not_mem_nil⟩⟩⟩
set_option maxRecDepth 20000 in
theorem w_y168 : ∀ w ∈ wY 168, w ∈ lw_tbl := List.forall_mem_cons.mpr ⟨t_5 (i := 236) (by decide +kernel), List.forall_mem_cons.mpr ⟨t_5 (i := 234) (by decide +kernel), List.forall_mem_cons.mpr ⟨t_5 (i := 235) (by decide +kernel), fun _ h => absurd h List.not_mem_nil⟩⟩⟩
set_option maxRecDepth 20000 in
theorem w_y169 : ∀ w ∈ wY 169, w ∈ lw_tbl := List.forall_mem_cons.mpr ⟨t_6 (i := 0) (by decide +kernel), List.forall_mem_cons.mpr ⟨t_5 (i := 238) (by decide +kernel), List.forall_mem_cons.mpr ⟨t_5 (i := 239) (by decide +kernel), fun _ h => absurd h List.not_mem_nil⟩⟩⟩
set_option maxRecDepth 20000 in
theorem w_y170 : ∀ w ∈ wY 170, w ∈ lw_tbl := List.forall_mem_cons.mpr ⟨t_6 (i := 52) (by decide +kernel), List.forall_mem_cons.mpr ⟨t_6 (i := 50) (by decide +kernel), List.forall_mem_cons.mpr ⟨t_6 (i := 51) (by decide +kernel), fun _ h => absurd h List.not_mem_nil⟩⟩⟩
set_option maxRecDepth 20000 in
theorem w_y171 : ∀ w ∈ wY 171, w ∈ lw_tbl := List.forall_mem_cons.mpr ⟨t_6 (i := 56) (by decide +kernel), List.forall_mem_cons.mpr ⟨t_6 (i := 54) (by decide +kernel), List.forall_mem_cons.mpr ⟨t_6 (i := 55) (by decide +kernel), fun _ h => absurd h List.not_mem_nil⟩⟩⟩
set_option maxRecDepth 20000 in
theorem w_y172 : ∀ w ∈ wY 172, w ∈ lw_tbl := List.forall_mem_cons.mpr ⟨t_6 (i := 64) (by decide +kernel), List.forall_mem_cons.mpr ⟨t_6 (i := 62) (by decide +kernel), List.forall_mem_cons.mpr ⟨t_6 (i := 63) (by decide +kernel), fun _ h => absurd h List.not_mem_nil⟩⟩⟩
set_option maxRecDepth 20000 in
theorem w_y173 : ∀ w ∈ wY 173, w ∈ lw_tbl := List.forall_mem_cons.mpr ⟨t_6 (i := 73) (by decide +kernel), List.forall_mem_cons.mpr ⟨t_6 (i := 71) (by decide +kernel), List.forall_mem_cons.mpr ⟨t_6 (i := 72) (by decide +kernel), fun _ h => absurd h List.not_mem_nil⟩⟩⟩
set_option maxRecDepth 20000 in
theorem w_y174 : ∀ w ∈ wY 174, w ∈ lw_tbl := List.forall_mem_cons.mpr ⟨t_3 (i := 213) (by decide +kernel), List.forall_mem_cons.mpr ⟨t_3 (i := 212) (by decide +kernel), List.forall_mem_cons.mpr ⟨t_0 (i := 15) (by decide +kernel), fun _ h => absurd h List.not_mem_nil⟩⟩⟩
set_option maxRecDepth 20000 in
theorem w_y175 : ∀ w ∈ wY 175, w ∈ lw_tbl := List.forall_mem_cons.mpr ⟨t_3 (i := 29) (by decide +kernel), List.forall_mem_cons.mpr ⟨t_3 (i := 28) (by decide +kernel), List.forall_mem_cons.mpr ⟨t_0 (i := 4) (by decide +kernel), fun _ h => absurd h List.not_mem_nil⟩⟩⟩
set_option maxRecDepth 20000 in
theorem w_y176 : ∀ w ∈ wY 176, w ∈ lw_tbl := List.forall_mem_cons.mpr ⟨t_4 (i := 103) (by decide +kernel), List.forall_mem_cons.mpr ⟨t_4 (i := 102) (by decide +kernel), List.forall_mem_cons.mpr ⟨t_0 (i := 26) (by decide +kernel), fun _ h => absurd h List.not_mem_nil⟩⟩⟩
set_option maxRecDepth 20000 in
theorem w_y177 : ∀ w ∈ wY 177, w ∈ lw_tbl := List.forall_mem_cons.mpr ⟨t_4 (i := 229) (by decide +kernel), List.forall_mem_cons.mpr ⟨t_4 (i := 228) (by decide +kernel), List.forall_mem_cons.mpr ⟨t_0 (i := 28) (by decide +kernel), fun _ h => absurd h List.not_mem_nil⟩⟩⟩
set_option maxRecDepth 20000 in
theorem w_y178 : ∀ w ∈ wY 178, w ∈ lw_tbl := List.forall_mem_cons.mpr ⟨t_2 (i := 236) (by decide +kernel), List.forall_mem_cons.mpr ⟨t_2 (i := 235) (by decide +kernel), List.forall_mem_cons.mpr ⟨t_0 (i := 1) (by decide +kernel), fun _ h => absurd h List.not_mem_nil⟩⟩⟩
set_option maxRecDepth 20000 in
theorem w_y179 : ∀ w ∈ wY 179, w ∈ lw_tbl := List.forall_mem_cons.mpr ⟨t_2 (i := 225) (by decide +kernel), List.forall_mem_cons.mpr ⟨t_2 (i := 224) (by decide +kernel), List.forall_mem_cons.mpr ⟨t_0 (i := 0) (by decide +kernel), fun _ h => absurd h List.not_mem_nil⟩⟩⟩
set_option maxRecDepth 20000 in
theorem w_y180 : ∀ w ∈ wY 180, w ∈ lw_tbl := List.forall_mem_cons.mpr ⟨t_4 (i := 170) (by decide +kernel), List.forall_mem_cons.mpr ⟨t_4 (i := 169) (by decide +kernel), List.forall_mem_cons.mpr ⟨t_0 (i := 27) (by decide +kernel), fun _ h => absurd h List.not_mem_nil⟩⟩⟩
set_option maxRecDepth 20000 in
theorem w_y181 : ∀ w ∈ wY 181, w ∈ lw_tbl := List.forall_mem_cons.mpr ⟨t_2 (i := 220) (by decide +kernel), List.forall_mem_cons.mpr ⟨t_2 (i := 219) (by decide +kernel), fun _ h => absurd h List.not_mem_nil⟩⟩
set_option maxRecDepth 20000 in
theorem w_y182 : ∀ w ∈ wY 182, w ∈ lw_tbl := List.forall_mem_cons.mpr ⟨t_3 (i := 162) (by decide +kernel), List.forall_mem_cons.mpr ⟨t_3 (i := 161) (by decide +kernel), fun _ h => absurd h List.not_mem_nil⟩⟩
set_option maxRecDepth 20000 in
theorem w_y183 : ∀ w ∈ wY 183, w ∈ lw_tbl := List.forall_mem_cons.mpr ⟨t_2 (i := 216) (by decide +kernel), List.forall_mem_cons.mpr ⟨t_2 (i := 215) (by decide +kernel), fun _ h => absurd h List.not_mem_nil⟩⟩
set_option maxRecDepth 20000 in
theorem w_y184 : ∀ w ∈ wY 184, w ∈ lw_tbl := List.forall_mem_cons.mpr ⟨t_5 (i := 79) (by decide +kernel), List.forall_mem_cons.mpr ⟨t_5 (i := 78) (by decide +kernel), List.forall_mem_cons.mpr ⟨t_0 (i := 31) (by decide +kernel), fun _ h => absurd h List.not_mem_nil⟩⟩⟩
set_option maxRecDepth 20000 in
theorem w_y185 : ∀ w ∈ wY 185, w ∈ lw_tbl := List.forall_mem_cons.mpr ⟨t_3 (i := 4) (by decide +kernel), List.forall_mem_cons.mpr ⟨t_3 (i := 3) (by decide +kernel), List.forall_mem_cons.mpr ⟨t_0 (i := 2) (by decide +kernel), fun _ h => absurd h List.not_mem_nil⟩⟩⟩
set_option maxRecDepth 20000 in
theorem w_y186 : ∀ w ∈ wY 186, w ∈ lw_tbl := List.forall_mem_cons.mpr ⟨t_5 (i := 121) (by decide +kernel), List.forall_mem_cons.mpr ⟨t_5 (i := 120) (by decide +kernel), List.forall_mem_cons.mpr ⟨t_0 (i := 34) (by decide +kernel), fun _ h => absurd h List.not_mem_nil⟩⟩⟩
set_option maxRecDepth 20000 in
theorem w_y187 : ∀ w ∈ wY 187, w ∈ lw_tbl := List.forall_mem_cons.mpr ⟨t_5 (i := 126) (by decide +kernel), List.forall_mem_cons.mpr ⟨t_5 (i := 125) (by decide +kernel), List.forall_mem_cons.mpr ⟨t_0 (i := 35) (by decide +kernel), fun _ h => absurd h List.not_mem_nil⟩⟩⟩
set_option maxRecDepth 20000 in
theorem w_y188 : ∀ w ∈ wY 188, w ∈ lw_tbl := List.forall_mem_cons.mpr ⟨t_5 (i := 221) (by decide +kernel), List.forall_mem_cons.mpr ⟨t_5 (i := 220) (by decide +kernel), List.forall_mem_cons.mpr ⟨t_0 (i := 41) (by decide +kernel), fun _ h => absurd h List.not_mem_nil⟩⟩⟩
set_option maxRecDepth 20000 in
theorem w_y189 : ∀ w ∈ wY 189, w ∈ lw_tbl := List.forall_mem_cons.mpr ⟨t_5 (i := 225) (by decide +kernel), List.forall_mem_cons.mpr ⟨t_5 (i := 224) (by decide +kernel), List.forall_mem_cons.mpr ⟨t_0 (i := 42) (by decide +kernel), fun _ h => absurd h List.not_mem_nil⟩⟩⟩
set_option maxRecDepth 20000 in
theorem w_y190 : ∀ w ∈ wY 190, w ∈ lw_tbl := List.forall_mem_cons.mpr ⟨t_5 (i := 228) (by decide +kernel), List.forall_mem_cons.mpr ⟨t_5 (i := 227) (by decide +kernel), fun _ h => absurd h List.not_mem_nil⟩⟩
set_option maxRecDepth 20000 in
theorem w_y191 : ∀ w ∈ wY 191, w ∈ lw_tbl := List.forall_mem_cons.mpr ⟨t_6 (i := 78) (by decide +kernel), List.forall_mem_cons.mpr ⟨t_6 (i := 77) (by decide +kernel), fun _ h => absurd h List.not_mem_nil⟩⟩
set_option maxRecDepth 20000 in
theorem w_y192 : ∀ w ∈ wY 192, w ∈ lw_tbl := List.forall_mem_cons.mpr ⟨t_6 (i := 83) (by decide +kernel), List.forall_mem_cons.mpr ⟨t_6 (i := 82) (by decide +kernel), List.forall_mem_cons.mpr ⟨t_0 (i := 50) (by decide +kernel), fun _ h => absurd h List.not_mem_nil⟩⟩⟩
set_option maxRecDepth 20000 in
theorem w_y193 : ∀ w ∈ wY 193, w ∈ lw_tbl := List.forall_mem_cons.mpr ⟨t_6 (i := 206) (by decide +kernel), List.forall_mem_cons.mpr ⟨t_6 (i := 204) (by decide +kernel), List.forall_mem_cons.mpr ⟨t_6 (i := 205) (by decide +kernel), fun _ h => absurd h List.not_mem_nil⟩⟩⟩
set_option maxRecDepth 20000 in
theorem w_y194 : ∀ w ∈ wY 194, w ∈ lw_tbl := List.forall_mem_cons.mpr ⟨t_6 (i := 210) (by decide +kernel), List.forall_mem_cons.mpr ⟨t_6 (i := 208) (by decide +kernel), List.forall_mem_cons.mpr ⟨t_6 (i := 209) (by decide +kernel), fun _ h => absurd h List.not_mem_nil⟩⟩⟩
set_option maxRecDepth 20000 in
theorem w_y195 : ∀ w ∈ wY 195, w ∈ lw_tbl := List.forall_mem_cons.mpr ⟨t_6 (i := 214) (by decide +kernel), List.forall_mem_cons.mpr ⟨t_6 (i := 212) (by decide +kernel), List.forall_mem_cons.mpr ⟨t_6 (i := 213) (by decide +kernel), fun _ h => absurd h List.not_mem_nil⟩⟩⟩
set_option maxRecDepth 20000 in
theorem w_y196 : ∀ w ∈ wY 196, w ∈ lw_tbl := List.forall_mem_cons.mpr ⟨t_6 (i := 225) (by decide +kernel), List.forall_mem_cons.mpr ⟨t_6 (i := 224) (by decide +kernel), List.forall_mem_cons.mpr ⟨t_0 (i := 51) (by decide +kernel), fun _ h => absurd h List.not_mem_nil⟩⟩⟩
set_option maxRecDepth 20000 in
theorem w_y197 : ∀ w ∈ wY 197, w ∈ lw_tbl := List.forall_mem_cons.mpr ⟨t_7 (i := 45) (by decide +kernel), List.forall_mem_cons.mpr ⟨t_7 (i := 44) (by decide +kernel), List.forall_mem_cons.mpr ⟨t_0 (i := 57) (by decide +kernel), fun _ h => absurd h List.not_mem_nil⟩⟩⟩
set_option maxRecDepth 20000 in
theorem w_y198 : ∀ w ∈ wY 198, w ∈ lw_tbl := List.forall_mem_cons.mpr ⟨t_7 (i := 129) (by decide +kernel), List.forall_mem_cons.mpr ⟨t_7 (i := 128) (by decide +kernel), List.forall_mem_cons.mpr ⟨t_0 (i := 75) (by decide +kernel), fun _ h => absurd h List.not_mem_nil⟩⟩⟩
set_option maxRecDepth 20000 in
theorem w_y199 : ∀ w ∈ wY 199, w ∈ lw_tbl := List.forall_mem_cons.mpr ⟨t_8 (i := 108) (by decide +kernel), List.forall_mem_cons.mpr ⟨t_8 (i := 107) (by decide +kernel), List.forall_mem_cons.mpr ⟨t_0 (i := 107) (by decide +kernel), fun _ h => absurd h List.not_mem_nil⟩⟩⟩
set_option maxRecDepth 20000 in
theorem w_y200 : ∀ w ∈ wY 200, w ∈ lw_tbl := List.forall_mem_cons.mpr ⟨t_9 (i := 44) (by decide +kernel), List.forall_mem_cons.mpr ⟨t_9 (i := 43) (by decide +kernel), List.forall_mem_cons.mpr ⟨t_0 (i := 129) (by decide +kernel), fun _ h => absurd h List.not_mem_nil⟩⟩⟩
set_option maxRecDepth 20000 in
theorem w_y201 : ∀ w ∈ wY 201, w ∈ lw_tbl := List.forall_mem_cons.mpr ⟨t_6 (i := 221) (by decide +kernel), List.forall_mem_cons.mpr ⟨t_6 (i := 220) (by decide +kernel), fun _ h => absurd h List.not_mem_nil⟩⟩
set_option maxRecDepth 20000 in
theorem w_y202 : ∀ w ∈ wY 202, w ∈ lw_tbl := List.forall_mem_cons.mpr ⟨t_6 (i := 236) (by decide +kernel), List.forall_mem_cons.mpr ⟨t_6 (i := 235) (by decide +kernel), fun _ h => absurd h List.not_mem_nil⟩⟩
set_option maxRecDepth 20000 in
theorem w_y203 : ∀ w ∈ wY 203, w ∈ lw_tbl := List.forall_mem_cons.mpr ⟨t_6 (i := 218) (by decide +kernel), List.forall_mem_cons.mpr ⟨t_6 (i := 216) (by decide +kernel), List.forall_mem_cons.mpr ⟨t_6 (i := 217) (by decide +kernel), fun _ h => absurd h List.not_mem_nil⟩⟩⟩
set_option maxRecDepth 20000 in
theorem w_y204 : ∀ w ∈ wY 204, w ∈ lw_tbl := List.forall_mem_cons.mpr ⟨t_6 (i := 233) (by decide +kernel), List.forall_mem_cons.mpr ⟨t_6 (i := 232) (by decide +kernel), List.forall_mem_cons.mpr ⟨t_0 (i := 52) (by decide +kernel), fun _ h => absurd h List.not_mem_nil⟩⟩⟩
set_option maxRecDepth 20000 in
theorem w_y205 : ∀ w ∈ wY 205, w ∈ lw_tbl := List.forall_mem_cons.mpr ⟨t_6 (i := 229) (by decide +kernel), List.forall_mem_cons.mpr ⟨t_6 (i := 227) (by decide +kernel), List.forall_mem_cons.mpr ⟨t_6 (i := 228) (by decide +kernel), fun _ h => absurd h List.not_mem_nil⟩⟩⟩
set_option maxRecDepth 20000 in
theorem w_y206 : ∀ w ∈ wY 206, w ∈ lw_tbl := List.forall_mem_cons.mpr ⟨t_7 (i := 0) (by decide +kernel), List.forall_mem_cons.mpr ⟨t_6 (i := 238) (by decide +kernel), List.forall_mem_cons.mpr ⟨t_6 (i := 239) (by decide +kernel), fun _ h => absurd h List.not_mem_nil⟩⟩⟩
set_option maxRecDepth 20000 in
theorem w_y207 : ∀ w ∈ wY 207, w ∈ lw_tbl := List.forall_mem_cons.mpr ⟨t_7 (i := 5) (by decide +kernel), List.forall_mem_cons.mpr ⟨t_7 (i := 3) (by decide +kernel), List.forall_mem_cons.mpr ⟨t_7 (i := 4) (by decide +kernel), fun _ h => absurd h List.not_mem_nil⟩⟩⟩
set_option maxRecDepth 20000 in
theorem w_y208 : ∀ w ∈ wY 208, w ∈ lw_tbl := List.forall_mem_cons.mpr ⟨t_8 (i := 30) (by decide +kernel), List.forall_mem_cons.mpr ⟨t_8 (i := 29) (by decide +kernel), fun _ h => absurd h List.not_mem_nil⟩⟩
set_option maxRecDepth 20000 in
theorem w_y209 : ∀ w ∈ wY 209, w ∈ lw_tbl := List.forall_mem_cons.mpr ⟨t_7 (i := 9) (by decide +kernel), List.forall_mem_cons.mpr ⟨t_7 (i := 7) (by decide +kernel), List.forall_mem_cons.mpr ⟨t_7 (i := 8) (by decide +kernel), fun _ h => absurd h List.not_mem_nil⟩⟩⟩
set_option maxRecDepth 20000 in
theorem w_y210 : ∀ w ∈ wY 210, w ∈ lw_tbl := List.forall_mem_cons.mpr ⟨t_7 (i := 13) (by decide +kernel), List.forall_mem_cons.mpr ⟨t_7 (i := 12) (by decide +kernel), List.forall_mem_cons.mpr ⟨t_0 (i := 53) (by decide +kernel), fun _ h => absurd h List.not_mem_nil⟩⟩⟩
set_option maxRecDepth 20000 in
theorem w_y211 : ∀ w ∈ wY 211, w ∈ lw_tbl := List.forall_mem_cons.mpr ⟨t_7 (i := 33) (by decide +kernel), List.forall_mem_cons.mpr ⟨t_7 (i := 32) (by decide +kernel), List.forall_mem_cons.mpr ⟨t_0 (i := 56) (by decide +kernel), fun _ h => absurd h List.not_mem_nil⟩⟩⟩
set_option maxRecDepth 20000 in
theorem w_y212 : ∀ w ∈ wY 212, w ∈ lw_tbl := List.forall_mem_cons.mpr ⟨t_7 (i := 36) (by decide +kernel), List.forall_mem_cons.mpr ⟨t_7 (i := 35) (by decide +kernel), fun _ h => absurd h List.not_mem_nil⟩⟩
set_option maxRecDepth 20000 in
theorem w_y213 : ∀ w ∈ wY 213, w ∈ lw_tbl := List.forall_mem_cons.mpr ⟨t_7 (i := 39) (by decide +kernel), List.forall_mem_cons.mpr ⟨t_7 (i := 38) (by decide +kernel), fun _ h => absurd h List.not_mem_nil⟩⟩
set_option maxRecDepth 20000 in
theorem w_y214 : ∀ w ∈ wY 214, w ∈ lw_tbl := List.forall_mem_cons.mpr ⟨t_7 (i := 29) (by decide +kernel), List.forall_mem_cons.mpr ⟨t_7 (i := 28) (by decide +kernel), List.forall_mem_cons.mpr ⟨t_0 (i := 55) (by decide +kernel), fun _ h => absurd h List.not_mem_nil⟩⟩⟩
set_option maxRecDepth 20000 in
theorem w_y215 : ∀ w ∈ wY 215, w ∈ lw_tbl := List.forall_mem_cons.mpr ⟨t_7 (i := 121) (by decide +kernel), List.forall_mem_cons.mpr ⟨t_7 (i := 120) (by decide +kernel), List.forall_mem_cons.mpr ⟨t_0 (i := 73) (by decide +kernel), fun _ h => absurd h List.not_mem_nil⟩⟩⟩
set_option maxRecDepth 20000 in
theorem w_y216 : ∀ w ∈ wY 216, w ∈ lw_tbl := List.forall_mem_cons.mpr ⟨t_7 (i := 54) (by decide +kernel), List.forall_mem_cons.mpr ⟨t_7 (i := 53) (by decide +kernel), List.forall_mem_cons.mpr ⟨t_0 (i := 59) (by decide +kernel), fun _ h => absurd h List.not_mem_nil⟩⟩⟩
set_option maxRecDepth 20000 in
theorem w_y217 : ∀ w ∈ wY 217, w ∈ lw_tbl := List.forall_mem_cons.mpr ⟨t_7 (i := 60) (by decide +kernel), List.forall_mem_cons.mpr ⟨t_7 (i := 59) (by decide +kernel), List.forall_mem_cons.mpr ⟨t_0 (i := 60) (by decide +kernel), fun _ h => absurd h List.not_mem_nil⟩⟩⟩
set_option maxRecDepth 20000 in
theorem w_y218 : ∀ w ∈ wY 218, w ∈ lw_tbl := List.forall_mem_cons.mpr ⟨t_7 (i := 25) (by decide +kernel), List.forall_mem_cons.mpr ⟨t_7 (i := 24) (by decide +kernel), List.forall_mem_cons.mpr ⟨t_0 (i := 54) (by decide +kernel), fun _ h => absurd h List.not_mem_nil⟩⟩⟩
set_option maxRecDepth 20000 in
theorem w_y219 : ∀ w ∈ wY 219, w ∈ lw_tbl := List.forall_mem_cons.mpr ⟨t_7 (i := 117) (by decide +kernel), List.forall_mem_cons.mpr ⟨t_7 (i := 116) (by decide +kernel), List.forall_mem_cons.mpr ⟨t_0 (i := 72) (by decide +kernel), fun _ h => absurd h List.not_mem_nil⟩⟩⟩
set_option maxRecDepth 20000 in
theorem w_y220 : ∀ w ∈ wY 220, w ∈ lw_tbl := List.forall_mem_cons.mpr ⟨t_7 (i := 79) (by decide +kernel), List.forall_mem_cons.mpr ⟨t_7 (i := 78) (by decide +kernel), List.forall_mem_cons.mpr ⟨t_0 (i := 64) (by decide +kernel), fun _ h => absurd h List.not_mem_nil⟩⟩⟩
set_option maxRecDepth 20000 in
theorem w_y221 : ∀ w ∈ wY 221, w ∈ lw_tbl := List.forall_mem_cons.mpr ⟨t_7 (i := 64) (by decide +kernel), List.forall_mem_cons.mpr ⟨t_7 (i := 63) (by decide +kernel), List.forall_mem_cons.mpr ⟨t_0 (i := 61) (by decide +kernel), fun _ h => absurd h List.not_mem_nil⟩⟩⟩
set_option maxRecDepth 20000 in
theorem w_y222 : ∀ w ∈ wY 222, w ∈ lw_tbl := List.forall_mem_cons.mpr ⟨t_7 (i := 98) (by decide +kernel), List.forall_mem_cons.mpr ⟨t_7 (i := 97) (by decide +kernel), List.forall_mem_cons.mpr ⟨t_0 (i := 68) (by decide +kernel), fun _ h => absurd h List.not_mem_nil⟩⟩⟩
set_option maxRecDepth 20000 in
theorem w_y223 : ∀ w ∈ wY 223, w ∈ lw_tbl := List.forall_mem_cons.mpr ⟨t_7 (i := 106) (by decide +kernel), List.forall_mem_cons.mpr ⟨t_7 (i := 105) (by decide +kernel), List.forall_mem_cons.mpr ⟨t_0 (i := 70) (by decide +kernel), fun _ h => absurd h List.not_mem_nil⟩⟩⟩
set_option maxRecDepth 20000 in
theorem w_y224 : ∀ w ∈ wY 224, w ∈ lw_tbl := List.forall_mem_cons.mpr ⟨t_7 (i := 102) (by decide +kernel), List.forall_mem_cons.mpr ⟨t_7 (i := 101) (by decide +kernel), List.forall_mem_cons.mpr ⟨t_0 (i := 69) (by decide +kernel), fun _ h => absurd h List.not_mem_nil⟩⟩⟩
set_option maxRecDepth 20000 in
theorem w_y225 : ∀ w ∈ wY 225, w ∈ lw_tbl := List.forall_mem_cons.mpr ⟨t_7 (i := 17) (by decide +kernel), List.forall_mem_cons.mpr ⟨t_7 (i := 15) (by decide +kernel), List.forall_mem_cons.mpr ⟨t_7 (i := 16) (by decide +kernel), fun _ h => absurd h List.not_mem_nil⟩⟩⟩
set_option maxRecDepth 20000 in
theorem w_y226 : ∀ w ∈ wY 226, w ∈ lw_tbl := List.forall_mem_cons.mpr ⟨t_7 (i := 125) (by decide +kernel), List.forall_mem_cons.mpr ⟨t_7 (i := 124) (by decide +kernel), List.forall_mem_cons.mpr ⟨t_0 (i := 74) (by decide +kernel), fun _ h => absurd h List.not_mem_nil⟩⟩⟩
set_option maxRecDepth 20000 in
theorem w_y227 : ∀ w ∈ wY 227, w ∈ lw_tbl := List.forall_mem_cons.mpr ⟨t_7 (i := 75) (by decide +kernel), List.forall_mem_cons.mpr ⟨t_7 (i := 74) (by decide +kernel), fun _ h => absurd h List.not_mem_nil⟩⟩
set_option maxRecDepth 20000 in
theorem w_y228 : ∀ w ∈ wY 228, w ∈ lw_tbl := List.forall_mem_cons.mpr ⟨t_7 (i := 94) (by decide +kernel), List.forall_mem_cons.mpr ⟨t_7 (i := 93) (by decide +kernel), fun _ h => absurd h List.not_mem_nil⟩⟩
set_option maxRecDepth 20000 in
theorem w_y229 : ∀ w ∈ wY 229, w ∈ lw_tbl := List.forall_mem_cons.mpr ⟨t_7 (i := 113) (by decide +kernel), List.forall_mem_cons.mpr ⟨t_7 (i := 112) (by decide +kernel), fun _ h => absurd h List.not_mem_nil⟩⟩
set_option maxRecDepth 20000 in
theorem w_y230 : ∀ w ∈ wY 230, w ∈ lw_tbl := List.forall_mem_cons.mpr ⟨t_7 (i := 87) (by decide +kernel), List.forall_mem_cons.mpr ⟨t_7 (i := 86) (by decide +kernel), List.forall_mem_cons.mpr ⟨t_0 (i := 66) (by decide +kernel), fun _ h => absurd h List.not_mem_nil⟩⟩⟩
set_option maxRecDepth 20000 in
theorem w_y231 : ∀ w ∈ wY 231, w ∈ lw_tbl := List.forall_mem_cons.mpr ⟨t_7 (i := 83) (by decide +kernel), List.forall_mem_cons.mpr ⟨t_7 (i := 82) (by decide +kernel), List.forall_mem_cons.mpr ⟨t_0 (i := 65) (by decide +kernel), fun _ h => absurd h List.not_mem_nil⟩⟩⟩
set_option maxRecDepth 20000 in
theorem w_y232 : ∀ w ∈ wY 232, w ∈ lw_tbl := List.forall_mem_cons.mpr ⟨t_7 (i := 72) (by decide +kernel), List.forall_mem_cons.mpr ⟨t_7 (i := 71) (by decide +kernel), List.forall_mem_cons.mpr ⟨t_0 (i := 63) (by decide +kernel), fun _ h => absurd h List.not_mem_nil⟩⟩⟩
set_option maxRecDepth 20000 in
theorem w_y233 : ∀ w ∈ wY 233, w ∈ lw_tbl := List.forall_mem_cons.mpr ⟨t_7 (i := 68) (by decide +kernel), List.forall_mem_cons.mpr ⟨t_7 (i := 67) (by decide +kernel), List.forall_mem_cons.mpr ⟨t_0 (i := 62) (by decide +kernel), fun _ h => absurd h List.not_mem_nil⟩⟩⟩
set_option maxRecDepth 20000 in
theorem w_y234 : ∀ w ∈ wY 234, w ∈ lw_tbl := List.forall_mem_cons.mpr ⟨t_7 (i := 91) (by decide +kernel), List.forall_mem_cons.mpr ⟨t_7 (i := 90) (by decide +kernel), List.forall_mem_cons.mpr ⟨t_0 (i := 67) (by decide +kernel), fun _ h => absurd h List.not_mem_nil⟩⟩⟩
set_option maxRecDepth 20000 in
theorem w_y235 : ∀ w ∈ wY 235, w ∈ lw_tbl := List.forall_mem_cons.mpr ⟨t_7 (i := 110) (by decide +kernel), List.forall_mem_cons.mpr ⟨t_7 (i := 109) (by decide +kernel), List.forall_mem_cons.mpr ⟨t_0 (i := 71) (by decide +kernel), fun _ h => absurd h List.not_mem_nil⟩⟩⟩
set_option maxRecDepth 20000 in
theorem w_y236 : ∀ w ∈ wY 236, w ∈ lw_tbl := List.forall_mem_cons.mpr ⟨t_7 (i := 49) (by decide +kernel), List.forall_mem_cons.mpr ⟨t_7 (i := 48) (by decide +kernel), List.forall_mem_cons.mpr ⟨t_0 (i := 58) (by decide +kernel), fun _ h => absurd h List.not_mem_nil⟩⟩⟩
set_option maxRecDepth 20000 in
theorem w_y237 : ∀ w ∈ wY 237, w ∈ lw_tbl := List.forall_mem_cons.mpr ⟨t_7 (i := 21) (by decide +kernel), List.forall_mem_cons.mpr ⟨t_7 (i := 19) (by decide +kernel), List.forall_mem_cons.mpr ⟨t_7 (i := 20) (by decide +kernel), fun _ h => absurd h List.not_mem_nil⟩⟩⟩
set_option maxRecDepth 20000 in
theorem w_y238 : ∀ w ∈ wY 238, w ∈ lw_tbl := List.forall_mem_cons.mpr ⟨t_7 (i := 145) (by decide +kernel), List.forall_mem_cons.mpr ⟨t_7 (i := 144) (by decide +kernel), List.forall_mem_cons.mpr ⟨t_0 (i := 78) (by decide +kernel), fun _ h => absurd h List.not_mem_nil⟩⟩⟩
set_option maxRecDepth 20000 in
theorem w_y239 : ∀ w ∈ wY 239, w ∈ lw_tbl := List.forall_mem_cons.mpr ⟨t_7 (i := 149) (by decide +kernel), List.forall_mem_cons.mpr ⟨t_7 (i := 148) (by decide +kernel), List.forall_mem_cons.mpr ⟨t_0 (i := 79) (by decide +kernel), fun _ h => absurd h List.not_mem_nil⟩⟩⟩
set_option maxRecDepth 20000 in
theorem w_y240 : ∀ w ∈ wY 240, w ∈ lw_tbl := List.forall_mem_cons.mpr ⟨t_7 (i := 153) (by decide +kernel), List.forall_mem_cons.mpr ⟨t_7 (i := 152) (by decide +kernel), List.forall_mem_cons.mpr ⟨t_0 (i := 80) (by decide +kernel), fun _ h => absurd h List.not_mem_nil⟩⟩⟩
set_option maxRecDepth 20000 in
theorem w_y241 : ∀ w ∈ wY 241, w ∈ lw_tbl := List.forall_mem_cons.mpr ⟨t_7 (i := 141) (by decide +kernel), List.forall_mem_cons.mpr ⟨t_7 (i := 140) (by decide +kernel), List.forall_mem_cons.mpr ⟨t_0 (i := 77) (by decide +kernel), fun _ h => absurd h List.not_mem_nil⟩⟩⟩
set_option maxRecDepth 20000 in
theorem w_y242 : ∀ w ∈ wY 242, w ∈ lw_tbl := List.forall_mem_cons.mpr ⟨t_7 (i := 137) (by decide +kernel), List.forall_mem_cons.mpr ⟨t_7 (i := 136) (by decide +kernel), List.forall_mem_cons.mpr ⟨t_0 (i := 76) (by decide +kernel), fun _ h => absurd h List.not_mem_nil⟩⟩⟩
set_option maxRecDepth 20000 in
theorem w_y243 : ∀ w ∈ wY 243, w ∈ lw_tbl := List.forall_mem_cons.mpr ⟨t_7 (i := 133) (by decide +kernel), List.forall_mem_cons.mpr ⟨t_7 (i := 131) (by decide +kernel), List.forall_mem_cons.mpr ⟨t_7 (i := 132) (by decide +kernel), fun _ h => absurd h List.not_mem_nil⟩⟩⟩
set_option maxRecDepth 20000 in
theorem w_y244 : ∀ w ∈ wY 244, w ∈ lw_tbl := List.forall_mem_cons.mpr ⟨t_7 (i := 181) (by decide +kernel), List.forall_mem_cons.mpr ⟨t_7 (i := 180) (by decide +kernel), List.forall_mem_cons.mpr ⟨t_0 (i := 85) (by decide +kernel), fun _ h => absurd h List.not_mem_nil⟩⟩⟩
set_option maxRecDepth 20000 in
theorem w_y245 : ∀ w ∈ wY 245, w ∈ lw_tbl := List.forall_mem_cons.mpr ⟨t_7 (i := 214) (by decide +kernel), List.forall_mem_cons.mpr ⟨t_7 (i := 213) (by decide +kernel), List.forall_mem_cons.mpr ⟨t_0 (i := 92) (by decide +kernel), fun _ h => absurd h List.not_mem_nil⟩⟩⟩
set_option maxRecDepth 20000 in
theorem w_y246 : ∀ w ∈ wY 246, w ∈ lw_tbl := List.forall_mem_cons.mpr ⟨t_8 (i := 171) (by decide +kernel), List.forall_mem_cons.mpr ⟨t_8 (i := 170) (by decide +kernel), List.forall_mem_cons.mpr ⟨t_0 (i := 113) (by decide +kernel), fun _ h => absurd h List.not_mem_nil⟩⟩⟩
set_option maxRecDepth 20000 in
theorem w_y247 : ∀ w ∈ wY 247, w ∈ lw_tbl := List.forall_mem_cons.mpr ⟨t_8 (i := 42) (by decide +kernel), List.forall_mem_cons.mpr ⟨t_8 (i := 41) (by decide +kernel), List.forall_mem_cons.mpr ⟨t_0 (i := 102) (by decide +kernel), fun _ h => absurd h List.not_mem_nil⟩⟩⟩
set_option maxRecDepth 20000 in
theorem w_y248 : ∀ w ∈ wY 248, w ∈ lw_tbl := List.forall_mem_cons.mpr ⟨t_8 (i := 135) (by decide +kernel), List.forall_mem_cons.mpr ⟨t_8 (i := 134) (by decide +kernel), fun _ h => absurd h List.not_mem_nil⟩⟩
set_option maxRecDepth 20000 in
theorem w_y249 : ∀ w ∈ wY 249, w ∈ lw_tbl := List.forall_mem_cons.mpr ⟨t_8 (i := 158) (by decide +kernel), List.forall_mem_cons.mpr ⟨t_8 (i := 157) (by decide +kernel), fun _ h => absurd h List.not_mem_nil⟩⟩
set_option maxRecDepth 20000 in
theorem w_y250 : ∀ w ∈ wY 250, w ∈ lw_tbl := List.forall_mem_cons.mpr ⟨t_7 (i := 201) (by decide +kernel), List.forall_mem_cons.mpr ⟨t_7 (i := 200) (by decide +kernel), List.forall_mem_cons.mpr ⟨t_0 (i := 90) (by decide +kernel), fun _ h => absurd h List.not_mem_nil⟩⟩⟩
set_option maxRecDepth 20000 in
theorem w_y251 : ∀ w ∈ wY 251, w ∈ lw_tbl := List.forall_mem_cons.mpr ⟨t_7 (i := 169) (by decide +kernel), List.forall_mem_cons.mpr ⟨t_7 (i := 168) (by decide +kernel), List.forall_mem_cons.mpr ⟨t_0 (i := 83) (by decide +kernel), fun _ h => absurd h List.not_mem_nil⟩⟩⟩
set_option maxRecDepth 20000 in
theorem w_y252 : ∀ w ∈ wY 252, w ∈ lw_tbl := List.forall_mem_cons.mpr ⟨t_7 (i := 197) (by decide +kernel), List.forall_mem_cons.mpr ⟨t_7 (i := 196) (by decide +kernel), List.forall_mem_cons.mpr ⟨t_0 (i := 89) (by decide +kernel), fun _ h => absurd h List.not_mem_nil⟩⟩⟩
set_option maxRecDepth 20000 in
theorem w_y253 : ∀ w ∈ wY 253, w ∈ lw_tbl := List.forall_mem_cons.mpr ⟨t_7 (i := 193) (by decide +kernel), List.forall_mem_cons.mpr ⟨t_7 (i := 192) (by decide +kernel), List.forall_mem_cons.mpr ⟨t_0 (i := 88) (by decide +kernel), fun _ h => absurd h List.not_mem_nil⟩⟩⟩
set_option maxRecDepth 20000 in
theorem w_y254 : ∀ w ∈ wY 254, w ∈ lw_tbl := List.forall_mem_cons.mpr ⟨t_7 (i := 205) (by decide +kernel), List.forall_mem_cons.mpr ⟨t_7 (i := 204) (by decide +kernel), List.forall_mem_cons.mpr ⟨t_0 (i := 91) (by decide +kernel), fun _ h => absurd h List.not_mem_nil⟩⟩⟩
set_option maxRecDepth 20000 in
theorem w_y255 : ∀ w ∈ wY 255, w ∈ lw_tbl := List.forall_mem_cons.mpr ⟨t_7 (i := 189) (by decide +kernel), List.forall_mem_cons.mpr ⟨t_7 (i := 188) (by decide +kernel), List.forall_mem_cons.mpr ⟨t_0 (i := 87) (by decide +kernel), fun _ h => absurd h List.not_mem_nil⟩⟩⟩
set_option maxRecDepth 20000 in
theorem w_y256 : ∀ w ∈ wY 256, w ∈ lw_tbl := List.forall_mem_cons.mpr ⟨t_7 (i := 165) (by decide +kernel), List.forall_mem_cons.mpr ⟨t_7 (i := 164) (by decide +kernel), List.forall_mem_cons.mpr ⟨t_0 (i := 82) (by decide +kernel), fun _ h => absurd h List.not_mem_nil⟩⟩⟩
set_option maxRecDepth 20000 in
theorem w_y257 : ∀ w ∈ wY 257, w ∈ lw_tbl := List.forall_mem_cons.mpr ⟨t_7 (i := 161) (by decide +kernel), List.forall_mem_cons.mpr ⟨t_7 (i := 160) (by decide +kernel), List.forall_mem_cons.mpr ⟨t_0 (i := 81) (by decide +kernel), fun _ h => absurd h List.not_mem_nil⟩⟩⟩
set_option maxRecDepth 20000 in
theorem w_y258 : ∀ w ∈ wY 258, w ∈ lw_tbl := List.forall_mem_cons.mpr ⟨t_7 (i := 185) (by decide +kernel), List.forall_mem_cons.mpr ⟨t_7 (i := 184) (by decide +kernel), List.forall_mem_cons.mpr ⟨t_0 (i := 86) (by decide +kernel), fun _ h => absurd h List.not_mem_nil⟩⟩⟩
set_option maxRecDepth 20000 in
theorem w_y259 : ∀ w ∈ wY 259, w ∈ lw_tbl := List.forall_mem_cons.mpr ⟨t_7 (i := 173) (by decide +kernel), List.forall_mem_cons.mpr ⟨t_7 (i := 172) (by decide +kernel), List.forall_mem_cons.mpr ⟨t_0 (i := 84) (by decide +kernel), fun _ h => absurd h List.not_mem_nil⟩⟩⟩
set_option maxRecDepth 20000 in
theorem w_y260 : ∀ w ∈ wY 260, w ∈ lw_tbl := List.forall_mem_cons.mpr ⟨t_7 (i := 157) (by decide +kernel), List.forall_mem_cons.mpr ⟨t_7 (i := 155) (by decide +kernel), List.forall_mem_cons.mpr ⟨t_7 (i := 156) (by decide +kernel), fun _ h => absurd h List.not_mem_nil⟩⟩⟩
set_option maxRecDepth 20000 in
theorem w_y261 : ∀ w ∈ wY 261, w ∈ lw_tbl := List.forall_mem_cons.mpr ⟨t_7 (i := 177) (by decide +kernel), List.forall_mem_cons.mpr ⟨t_7 (i := 175) (by decide +kernel), List.forall_mem_cons.mpr ⟨t_7 (i := 176) (by decide +kernel), fun _ h => absurd h List.not_mem_nil⟩⟩⟩
set_option maxRecDepth 20000 in
theorem w_y262 : ∀ w ∈ wY 262, w ∈ lw_tbl := List.forall_mem_cons.mpr ⟨t_7 (i := 210) (by decide +kernel), List.forall_mem_cons.mpr ⟨t_7 (i := 208) (by decide +kernel), List.forall_mem_cons.mpr ⟨t_7 (i := 209) (by decide +kernel), fun _ h => absurd h List.not_mem_nil⟩⟩⟩
set_option maxRecDepth 20000 in
theorem w_y263 : ∀ w ∈ wY 263, w ∈ lw_tbl := List.forall_mem_cons.mpr ⟨t_7 (i := 218) (by decide +kernel), List.forall_mem_cons.mpr ⟨t_7 (i := 216) (by decide +kernel), List.forall_mem_cons.mpr ⟨t_7 (i := 217) (by decide +kernel), fun _ h => absurd h List.not_mem_nil⟩⟩⟩
set_option maxRecDepth 20000 in
theorem w_y264 : ∀ w ∈ wY 264, w ∈ lw_tbl := List.forall_mem_cons.mpr ⟨t_7 (i := 234) (by decide +kernel), List.forall_mem_cons.mpr ⟨t_7 (i := 233) (by decide +kernel), List.forall_mem_cons.mpr ⟨t_0 (i := 95) (by decide +kernel), fun _ h => absurd h List.not_mem_nil⟩⟩⟩
set_option maxRecDepth 20000 in
theorem w_y265 : ∀ w ∈ wY 265, w ∈ lw_tbl := List.forall_mem_cons.mpr ⟨t_7 (i := 230) (by decide +kernel), List.forall_mem_cons.mpr ⟨t_7 (i := 229) (by decide +kernel), List.forall_mem_cons.mpr ⟨t_0 (i := 94) (by decide +kernel), fun _ h => absurd h List.not_mem_nil⟩⟩⟩
set_option maxRecDepth 20000 in
theorem w_y266 : ∀ w ∈ wY 266, w ∈ lw_tbl := List.forall_mem_cons.mpr ⟨t_7 (i := 238) (by decide +kernel), List.forall_mem_cons.mpr ⟨t_7 (i := 237) (by decide +kernel), List.forall_mem_cons.mpr ⟨t_0 (i := 96) (by decide +kernel), fun _ h => absurd h List.not_mem_nil⟩⟩⟩
set_option maxRecDepth 20000 in
theorem w_y267 : ∀ w ∈ wY 267, w ∈ lw_tbl := List.forall_mem_cons.mpr ⟨t_7 (i := 226) (by decide +kernel), List.forall_mem_cons.mpr ⟨t_7 (i := 225) (by decide +kernel), List.forall_mem_cons.mpr ⟨t_0 (i := 93) (by decide +kernel), fun _ h => absurd h List.not_mem_nil⟩⟩⟩
set_option maxRecDepth 20000 in
theorem w_y268 : ∀ w ∈ wY 268, w ∈ lw_tbl := List.forall_mem_cons.mpr ⟨t_7 (i := 222) (by decide +kernel), List.forall_mem_cons.mpr ⟨t_7 (i := 220) (by decide +kernel), List.forall_mem_cons.mpr ⟨t_7 (i := 221) (by decide +kernel), fun _ h => absurd h List.not_mem_nil⟩⟩⟩
set_option maxRecDepth 20000 in
theorem w_y269 : ∀ w ∈ wY 269, w ∈ lw_tbl := List.forall_mem_cons.mpr ⟨t_8 (i := 6) (by decide +kernel), List.forall_mem_cons.mpr ⟨t_8 (i := 5) (by decide +kernel), List.forall_mem_cons.mpr ⟨t_0 (i := 97) (by decide +kernel), fun _ h => absurd h List.not_mem_nil⟩⟩⟩
set_option maxRecDepth 20000 in
theorem w_y270 : ∀ w ∈ wY 270, w ∈ lw_tbl := List.forall_mem_cons.mpr ⟨t_8 (i := 2) (by decide +kernel), List.forall_mem_cons.mpr ⟨t_8 (i := 0) (by decide +kernel), List.forall_mem_cons.mpr ⟨t_8 (i := 1) (by decide +kernel), fun _ h => absurd h List.not_mem_nil⟩⟩⟩
set_option maxRecDepth 20000 in
theorem w_y271 : ∀ w ∈ wY 271, w ∈ lw_tbl := List.forall_mem_cons.mpr ⟨t_8 (i := 14) (by decide +kernel), List.forall_mem_cons.mpr ⟨t_8 (i := 13) (by decide +kernel), List.forall_mem_cons.mpr ⟨t_0 (i := 98) (by decide +kernel), fun _ h => absurd h List.not_mem_nil⟩⟩⟩
set_option maxRecDepth 20000 in
theorem w_y272 : ∀ w ∈ wY 272, w ∈ lw_tbl := List.forall_mem_cons.mpr ⟨t_8 (i := 10) (by decide +kernel), List.forall_mem_cons.mpr ⟨t_8 (i := 8) (by decide +kernel), List.forall_mem_cons.mpr ⟨t_8 (i := 9) (by decide +kernel), fun _ h => absurd h List.not_mem_nil⟩⟩⟩
set_option maxRecDepth 20000 in
theorem w_y273 : ∀ w ∈ wY 273, w ∈ lw_tbl := List.forall_mem_cons.mpr ⟨t_8 (i := 22) (by decide +kernel), List.forall_mem_cons.mpr ⟨t_8 (i := 21) (by decide +kernel), List.forall_mem_cons.mpr ⟨t_0 (i := 99) (by decide +kernel), fun _ h => absurd h List.not_mem_nil⟩⟩⟩
set_option maxRecDepth 20000 in
theorem w_y274 : ∀ w ∈ wY 274, w ∈ lw_tbl := List.forall_mem_cons.mpr ⟨t_8 (i := 18) (by decide +kernel), List.forall_mem_cons.mpr ⟨t_8 (i := 16) (by decide +kernel), List.forall_mem_cons.mpr ⟨t_8 (i := 17) (by decide +kernel), fun _ h => absurd h List.not_mem_nil⟩⟩⟩
set_option maxRecDepth 20000 in
theorem w_y275 : ∀ w ∈ wY 275, w ∈ lw_tbl := List.forall_mem_cons.mpr ⟨t_8 (i := 38) (by decide +kernel), List.forall_mem_cons.mpr ⟨t_8 (i := 37) (by decide +kernel), List.forall_mem_cons.mpr ⟨t_0 (i := 101) (by decide +kernel), fun _ h => absurd h List.not_mem_nil⟩⟩⟩
set_option maxRecDepth 20000 in
theorem w_y276 : ∀ w ∈ wY 276, w ∈ lw_tbl := List.forall_mem_cons.mpr ⟨t_8 (i := 34) (by decide +kernel), List.forall_mem_cons.mpr ⟨t_8 (i := 33) (by decide +kernel), List.forall_mem_cons.mpr ⟨t_0 (i := 100) (by decide +kernel), fun _ h => absurd h List.not_mem_nil⟩⟩⟩
set_option maxRecDepth 20000 in
theorem w_y277 : ∀ w ∈ wY 277, w ∈ lw_tbl := List.forall_mem_cons.mpr ⟨t_8 (i := 26) (by decide +kernel), List.forall_mem_cons.mpr ⟨t_8 (i := 24) (by decide +kernel), List.forall_mem_cons.mpr ⟨t_8 (i := 25) (by decide +kernel), fun _ h => absurd h List.not_mem_nil⟩⟩⟩
set_option maxRecDepth 20000 in
theorem w_y278 : ∀ w ∈ wY 278, w ∈ lw_tbl := List.forall_mem_cons.mpr ⟨t_8 (i := 46) (by decide +kernel), List.forall_mem_cons.mpr ⟨t_8 (i := 44) (by decide +kernel), List.forall_mem_cons.mpr ⟨t_8 (i := 45) (by decide +kernel), fun _ h => absurd h List.not_mem_nil⟩⟩⟩
set_option maxRecDepth 20000 in
theorem w_y279 : ∀ w ∈ wY 279, w ∈ lw_tbl := List.forall_mem_cons.mpr ⟨t_8 (i := 52) (by decide +kernel), List.forall_mem_cons.mpr ⟨t_8 (i := 50) (by decide +kernel), List.forall_mem_cons.mpr ⟨t_8 (i := 51) (by decide +kernel), fun _ h => absurd h List.not_mem_nil⟩⟩⟩
set_option maxRecDepth 20000 in
theorem w_y280 : ∀ w ∈ wY 280, w ∈ lw_tbl := List.forall_mem_cons.mpr ⟨t_8 (i := 56) (by decide +kernel), List.forall_mem_cons.mpr ⟨t_8 (i := 54) (by decide +kernel), List.forall_mem_cons.mpr ⟨t_8 (i := 55) (by decide +kernel), fun _ h => absurd h List.not_mem_nil⟩⟩⟩
set_option maxRecDepth 20000 in
theorem w_y281 : ∀ w ∈ wY 281, w ∈ lw_tbl := List.forall_mem_cons.mpr ⟨t_8 (i := 61) (by decide +kernel), List.forall_mem_cons.mpr ⟨t_8 (i := 59) (by decide +kernel), List.forall_mem_cons.mpr ⟨t_8 (i := 60) (by decide +kernel), fun _ h => absurd h List.not_mem_nil⟩⟩⟩
set_option maxRecDepth 20000 in
theorem w_y282 : ∀ w ∈ wY 282, w ∈ lw_tbl := List.forall_mem_cons.mpr ⟨t_8 (i := 66) (by decide +kernel), List.forall_mem_cons.mpr ⟨t_8 (i := 64) (by decide +kernel), List.forall_mem_cons.mpr ⟨t_8 (i := 65) (by decide +kernel), fun _ h => absurd h List.not_mem_nil⟩⟩⟩
set_option maxRecDepth 20000 in
theorem w_y283 : ∀ w ∈ wY 283, w ∈ lw_tbl := List.forall_mem_cons.mpr ⟨t_9 (i := 4) (by decide +kernel), List.forall_mem_cons.mpr ⟨t_9 (i := 3) (by decide +kernel), fun _ h => absurd h List.not_mem_nil⟩⟩
set_option maxRecDepth 20000 in
theorem w_y284 : ∀ w ∈ wY 284, w ∈ lw_tbl := List.forall_mem_cons.mpr ⟨t_8 (i := 88) (by decide +kernel), List.forall_mem_cons.mpr ⟨t_8 (i := 87) (by decide +kernel), List.forall_mem_cons.mpr ⟨t_0 (i := 104) (by decide +kernel), fun _ h => absurd h List.not_mem_nil⟩⟩⟩
set_option maxRecDepth 20000 in
theorem w_y285 : ∀ w ∈ wY 285, w ∈ lw_tbl := List.forall_mem_cons.mpr ⟨t_8 (i := 92) (by decide +kernel), List.forall_mem_cons.mpr ⟨t_8 (i := 91) (by decide +kernel), List.forall_mem_cons.mpr ⟨t_0 (i := 105) (by decide +kernel), fun _ h => absurd h List.not_mem_nil⟩⟩⟩
set_option maxRecDepth 20000 in
theorem w_y286 : ∀ w ∈ wY 286, w ∈ lw_tbl := List.forall_mem_cons.mpr ⟨t_8 (i := 72) (by decide +kernel), List.forall_mem_cons.mpr ⟨t_8 (i := 70) (by decide +kernel), List.forall_mem_cons.mpr ⟨t_8 (i := 71) (by decide +kernel), fun _ h => absurd h List.not_mem_nil⟩⟩⟩
set_option maxRecDepth 20000 in
theorem w_y287 : ∀ w ∈ wY 287, w ∈ lw_tbl := List.forall_mem_cons.mpr ⟨t_8 (i := 76) (by decide +kernel), List.forall_mem_cons.mpr ⟨t_8 (i := 74) (by decide +kernel), List.forall_mem_cons.mpr ⟨t_8 (i := 75) (by decide +kernel), fun _ h => absurd h List.not_mem_nil⟩⟩⟩
set_option maxRecDepth 20000 in
theorem w_y288 : ∀ w ∈ wY 288, w ∈ lw_tbl := List.forall_mem_cons.mpr ⟨t_8 (i := 84) (by decide +kernel), List.forall_mem_cons.mpr ⟨t_8 (i := 83) (by decide +kernel), List.forall_mem_cons.mpr ⟨t_0 (i := 103) (by decide +kernel), fun _ h => absurd h List.not_mem_nil⟩⟩⟩
set_option maxRecDepth 20000 in
theorem w_y289 : ∀ w ∈ wY 289, w ∈ lw_tbl := List.forall_mem_cons.mpr ⟨t_8 (i := 80) (by decide +kernel), List.forall_mem_cons.mpr ⟨t_8 (i := 78) (by decide +kernel), List.forall_mem_cons.mpr ⟨t_8 (i := 79) (by decide +kernel), fun _ h => absurd h List.not_mem_nil⟩⟩⟩
set_option maxRecDepth 20000 in
theorem w_y290 : ∀ w ∈ wY 290, w ∈ lw_tbl := List.forall_mem_cons.mpr ⟨t_8 (i := 96) (by decide +kernel), List.forall_mem_cons.mpr ⟨t_8 (i := 94) (by decide +kernel), List.forall_mem_cons.mpr ⟨t_8 (i := 95) (by decide +kernel), fun _ h => absurd h List.not_mem_nil⟩⟩⟩
set_option maxRecDepth 20000 in
theorem w_y291 : ∀ w ∈ wY 291, w ∈ lw_tbl := List.forall_mem_cons.mpr ⟨t_8 (i := 104) (by decide +kernel), List.forall_mem_cons.mpr ⟨t_8 (i := 103) (by decide +kernel), List.forall_mem_cons.mpr ⟨t_0 (i := 106) (by decide +kernel), fun _ h => absurd h List.not_mem_nil⟩⟩⟩
set_option maxRecDepth 20000 in
theorem w_y292 : ∀ w ∈ wY 292, w ∈ lw_tbl := List.forall_mem_cons.mpr ⟨t_8 (i := 100) (by decide +kernel), List.forall_mem_cons.mpr ⟨t_8 (i := 98) (by decide +kernel), List.forall_mem_cons.mpr ⟨t_8 (i := 99) (by decide +kernel), fun _ h => absurd h List.not_mem_nil⟩⟩⟩
set_option maxRecDepth 20000 in
theorem w_y293 : ∀ w ∈ wY 293, w ∈ lw_tbl := List.forall_mem_cons.mpr ⟨t_8 (i := 112) (by decide +kernel), List.forall_mem_cons.mpr ⟨t_8 (i := 110) (by decide +kernel), List.forall_mem_cons.mpr ⟨t_8 (i := 111) (by decide +kernel), fun _ h => absurd h List.not_mem_nil⟩⟩⟩
set_option maxRecDepth 20000 in
theorem w_y294 : ∀ w ∈ wY 294, w ∈ lw_tbl := List.forall_mem_cons.mpr ⟨t_8 (i := 116) (by decide +kernel), List.forall_mem_cons.mpr ⟨t_8 (i := 114) (by decide +kernel), List.forall_mem_cons.mpr ⟨t_8 (i := 115) (by decide +kernel), fun _ h => absurd h List.not_mem_nil⟩⟩⟩
set_option maxRecDepth 20000 in
theorem w_y295 : ∀ w ∈ wY 295, w ∈ lw_tbl := List.forall_mem_cons.mpr ⟨t_8 (i := 124) (by decide +kernel), List.forall_mem_cons.mpr ⟨t_8 (i := 123) (by decide +kernel), List.forall_mem_cons.mpr ⟨t_0 (i := 108) (by decide +kernel), fun _ h => absurd h List.not_mem_nil⟩⟩⟩
set_option maxRecDepth 20000 in
theorem w_y296 : ∀ w ∈ wY 296, w ∈ lw_tbl := List.forall_mem_cons.mpr ⟨t_8 (i := 120) (by decide +kernel), List.forall_mem_cons.mpr ⟨t_8 (i := 118) (by decide +kernel), List.forall_mem_cons.mpr ⟨t_8 (i := 119) (by decide +kernel), fun _ h => absurd h List.not_mem_nil⟩⟩⟩
set_option maxRecDepth 20000 in
theorem w_y297 : ∀ w ∈ wY 297, w ∈ lw_tbl := List.forall_mem_cons.mpr ⟨t_8 (i := 128) (by decide +kernel), List.forall_mem_cons.mpr ⟨t_8 (i := 126) (by decide +kernel), List.forall_mem_cons.mpr ⟨t_8 (i := 127) (by decide +kernel), fun _ h => absurd h List.not_mem_nil⟩⟩⟩
set_option maxRecDepth 20000 in
theorem w_y298 : ∀ w ∈ wY 298, w ∈ lw_tbl := List.forall_mem_cons.mpr ⟨t_8 (i := 132) (by decide +kernel), List.forall_mem_cons.mpr ⟨t_8 (i := 130) (by decide +kernel), List.forall_mem_cons.mpr ⟨t_8 (i := 131) (by decide +kernel), fun _ h => absurd h List.not_mem_nil⟩⟩⟩
set_option maxRecDepth 20000 in
theorem w_y299 : ∀ w ∈ wY 299, w ∈ lw_tbl := List.forall_mem_cons.mpr ⟨t_8 (i := 139) (by decide +kernel), List.forall_mem_cons.mpr ⟨t_8 (i := 137) (by decide +kernel), List.forall_mem_cons.mpr ⟨t_8 (i := 138) (by decide +kernel), fun _ h => absurd h List.not_mem_nil⟩⟩⟩
set_option maxRecDepth 20000 in
theorem w_y300 : ∀ w ∈ wY 300, w ∈ lw_tbl := List.forall_mem_cons.mpr ⟨t_8 (i := 163) (by decide +kernel), List.forall_mem_cons.mpr ⟨t_8 (i := 162) (by decide +kernel), List.forall_mem_cons.mpr ⟨t_0 (i := 112) (by decide +kernel), fun _ h => absurd h List.not_mem_nil⟩⟩⟩
set_option maxRecDepth 20000 in
theorem w_y301 : ∀ w ∈ wY 301, w ∈ lw_tbl := List.forall_mem_cons.mpr ⟨t_8 (i := 155) (by decide +kernel), List.forall_mem_cons.mpr ⟨t_8 (i := 154) (by decide +kernel), List.forall_mem_cons.mpr ⟨t_0 (i := 111) (by decide +kernel), fun _ h => absurd h List.not_mem_nil⟩⟩⟩
set_option maxRecDepth 20000 in
theorem w_y302 : ∀ w ∈ wY 302, w ∈ lw_tbl := List.forall_mem_cons.mpr ⟨t_8 (i := 151) (by decide +kernel), List.forall_mem_cons.mpr ⟨t_8 (i := 150) (by decide +kernel), List.forall_mem_cons.mpr ⟨t_0 (i := 110) (by decide +kernel), fun _ h => absurd h List.not_mem_nil⟩⟩⟩
set_option maxRecDepth 20000 in
theorem w_y303 : ∀ w ∈ wY 303, w ∈ lw_tbl := List.forall_mem_cons.mpr ⟨t_8 (i := 147) (by decide +kernel), List.forall_mem_cons.mpr ⟨t_8 (i := 146) (by decide +kernel), List.forall_mem_cons.mpr ⟨t_0 (i := 109) (by decide +kernel), fun _ h => absurd h List.not_mem_nil⟩⟩⟩
set_option maxRecDepth 20000 in
theorem w_y304 : ∀ w ∈ wY 304, w ∈ lw_tbl := List.forall_mem_cons.mpr ⟨t_8 (i := 143) (by decide +kernel), List.forall_mem_cons.mpr ⟨t_8 (i := 141) (by decide +kernel), List.forall_mem_cons.mpr ⟨t_8 (i := 142) (by decide +kernel), fun _ h => absurd h List.not_mem_nil⟩⟩⟩
set_option maxRecDepth 20000 in
theorem w_y305 : ∀ w ∈ wY 305, w ∈ lw_tbl := List.forall_mem_cons.mpr ⟨t_8 (i := 175) (by decide +kernel), List.forall_mem_cons.mpr ⟨t_8 (i := 174) (by decide +kernel), List.forall_mem_cons.mpr ⟨t_0 (i := 114) (by decide +kernel), fun _ h => absurd h List.not_mem_nil⟩⟩⟩
set_option maxRecDepth 20000 in
theorem w_y306 : ∀ w ∈ wY 306, w ∈ lw_tbl := List.forall_mem_cons.mpr ⟨t_8 (i := 167) (by decide +kernel), List.forall_mem_cons.mpr ⟨t_8 (i := 165) (by decide +kernel), List.forall_mem_cons.mpr ⟨t_8 (i := 166) (by decide +kernel), fun _ h => absurd h List.not_mem_nil⟩⟩⟩
set_option maxRecDepth 20000 in
theorem w_y307 : ∀ w ∈ wY 307, w ∈ lw_tbl := List.forall_mem_cons.mpr ⟨t_8 (i := 183) (by decide +kernel), List.forall_mem_cons.mpr ⟨t_8 (i := 182) (by decide +kernel), List.forall_mem_cons.mpr ⟨t_0 (i := 115) (by decide +kernel), fun _ h => absurd h List.not_mem_nil⟩⟩⟩
set_option maxRecDepth 20000 in
theorem w_y308 : ∀ w ∈ wY 308, w ∈ lw_tbl := List.forall_mem_cons.mpr ⟨t_8 (i := 179) (by decide +kernel), List.forall_mem_cons.mpr ⟨t_8 (i := 177) (by decide +kernel), List.forall_mem_cons.mpr ⟨t_8 (i := 178) (by decide +kernel), fun _ h => absurd h List.not_mem_nil⟩⟩⟩
set_option maxRecDepth 20000 in
theorem w_y309 : ∀ w ∈ wY 309, w ∈ lw_tbl := List.forall_mem_cons.mpr ⟨t_8 (i := 195) (by decide +kernel), List.forall_mem_cons.mpr ⟨t_8 (i := 194) (by decide +kernel), List.forall_mem_cons.mpr ⟨t_0 (i := 117) (by decide +kernel), fun _ h => absurd h List.not_mem_nil⟩⟩⟩
set_option maxRecDepth 20000 in
theorem w_y310 : ∀ w ∈ wY 310, w ∈ lw_tbl := List.forall_mem_cons.mpr ⟨t_8 (i := 191) (by decide +kernel), List.forall_mem_cons.mpr ⟨t_8 (i := 190) (by decide +kernel), List.forall_mem_cons.mpr ⟨t_0 (i := 116) (by decide +kernel), fun _ h => absurd h List.not_mem_nil⟩⟩⟩
set_option maxRecDepth 20000 in
theorem w_y311 : ∀ w ∈ wY 311, w ∈ lw_tbl := List.forall_mem_cons.mpr ⟨t_8 (i := 187) (by decide +kernel), List.forall_mem_cons.mpr ⟨t_8 (i := 185) (by decide +kernel), List.forall_mem_cons.mpr ⟨t_8 (i := 186) (by decide +kernel), fun _ h => absurd h List.not_mem_nil⟩⟩⟩
set_option maxRecDepth 20000 in
theorem w_y312 : ∀ w ∈ wY 312, w ∈ lw_tbl := List.forall_mem_cons.mpr ⟨t_8 (i := 199) (by decide +kernel), List.forall_mem_cons.mpr ⟨t_8 (i := 197) (by decide +kernel), List.forall_mem_cons.mpr ⟨t_8 (i := 198) (by decide +kernel), fun _ h => absurd h List.not_mem_nil⟩⟩⟩
set_option maxRecDepth 20000 in
theorem w_y313 : ∀ w ∈ wY 313, w ∈ lw_tbl := List.forall_mem_cons.mpr ⟨t_8 (i := 207) (by decide +kernel), List.forall_mem_cons.mpr ⟨t_8 (i := 206) (by decide +kernel), List.forall_mem_cons.mpr ⟨t_0 (i := 118) (by decide +kernel), fun _ h => absurd h List.not_mem_nil⟩⟩⟩
set_option maxRecDepth 20000 in
theorem w_y314 : ∀ w ∈ wY 314, w ∈ lw_tbl := List.forall_mem_cons.mpr ⟨t_8 (i := 212) (by decide +kernel), List.forall_mem_cons.mpr ⟨t_8 (i := 211) (by decide +kernel), List.forall_mem_cons.mpr ⟨t_0 (i := 119) (by decide +kernel), fun _ h => absurd h List.not_mem_nil⟩⟩⟩
set_option maxRecDepth 20000 in
theorem w_y315 : ∀ w ∈ wY 315, w ∈ lw_tbl := List.forall_mem_cons.mpr ⟨t_8 (i := 203) (by decide +kernel), List.forall_mem_cons.mpr ⟨t_8 (i := 201) (by decide +kernel), List.forall_mem_cons.mpr ⟨t_8 (i := 202) (by decide +kernel), fun _ h => absurd h List.not_mem_nil⟩⟩⟩
set_option maxRecDepth 20000 in
theorem w_y316 : ∀ w ∈ wY 316, w ∈ lw_tbl := List.forall_mem_cons.mpr ⟨t_8 (i := 216) (by decide +kernel), List.forall_mem_cons.mpr ⟨t_8 (i := 214) (by decide +kernel), List.forall_mem_cons.mpr ⟨t_8 (i := 215) (by decide +kernel), fun _ h => absurd h List.not_mem_nil⟩⟩⟩
set_option maxRecDepth 20000 in
theorem w_y317 : ∀ w ∈ wY 317, w ∈ lw_tbl := List.forall_mem_cons.mpr ⟨t_8 (i := 224) (by decide +kernel), List.forall_mem_cons.mpr ⟨t_8 (i := 223) (by decide +kernel), List.forall_mem_cons.mpr ⟨t_0 (i := 120) (by decide +kernel), fun _ h => absurd h List.not_mem_nil⟩⟩⟩
set_option maxRecDepth 20000 in
theorem w_y318 : ∀ w ∈ wY 318, w ∈ lw_tbl := List.forall_mem_cons.mpr ⟨t_8 (i := 220) (by decide +kernel), List.forall_mem_cons.mpr ⟨t_8 (i := 218) (by decide +kernel), List.forall_mem_cons.mpr ⟨t_8 (i := 219) (by decide +kernel), fun _ h => absurd h List.not_mem_nil⟩⟩⟩
set_option maxRecDepth 20000 in
theorem w_y319 : ∀ w ∈ wY 319, w ∈ lw_tbl := List.forall_mem_cons.mpr ⟨t_9 (i := 8) (by decide +kernel), List.forall_mem_cons.mpr ⟨t_9 (i := 7) (by decide +kernel), List.forall_mem_cons.mpr ⟨t_0 (i := 124) (by decide +kernel), fun _ h => absurd h List.not_mem_nil⟩⟩⟩
set_option maxRecDepth 20000 in
theorem w_y320 : ∀ w ∈ wY 320, w ∈ lw_tbl := List.forall_mem_cons.mpr ⟨t_9 (i := 12) (by decide +kernel), List.forall_mem_cons.mpr ⟨t_9 (i := 11) (by decide +kernel), List.forall_mem_cons.mpr ⟨t_0 (i := 125) (by decide +kernel), fun _ h => absurd h List.not_mem_nil⟩⟩⟩
set_option maxRecDepth 20000 in
theorem w_y321 : ∀ w ∈ wY 321, w ∈ lw_tbl := List.forall_mem_cons.mpr ⟨t_9 (i := 1) (by decide +kernel), List.forall_mem_cons.mpr ⟨t_9 (i := 0) (by decide +kernel), List.forall_mem_cons.mpr ⟨t_0 (i := 123) (by decide +kernel), fun _ h => absurd h List.not_mem_nil⟩⟩⟩
set_option maxRecDepth 20000 in
theorem w_y322 : ∀ w ∈ wY 322, w ∈ lw_tbl := List.forall_mem_cons.mpr ⟨t_8 (i := 237) (by decide +kernel), List.forall_mem_cons.mpr ⟨t_8 (i := 236) (by decide +kernel), List.forall_mem_cons.mpr ⟨t_0 (i := 122) (by decide +kernel), fun _ h => absurd h List.not_mem_nil⟩⟩⟩
set_option maxRecDepth 20000 in
theorem w_y323 : ∀ w ∈ wY 323, w ∈ lw_tbl := List.forall_mem_cons.mpr ⟨t_8 (i := 232) (by decide +kernel), List.forall_mem_cons.mpr ⟨t_8 (i := 231) (by decide +kernel), List.forall_mem_cons.mpr ⟨t_0 (i := 121) (by decide +kernel), fun _ h => absurd h List.not_mem_nil⟩⟩⟩
set_option maxRecDepth 20000 in
theorem w_y324 : ∀ w ∈ wY 324, w ∈ lw_tbl := List.forall_mem_cons.mpr ⟨t_8 (i := 228) (by decide +kernel), List.forall_mem_cons.mpr ⟨t_8 (i := 226) (by decide +kernel), List.forall_mem_cons.mpr ⟨t_8 (i := 227) (by decide +kernel), fun _ h => absurd h List.not_mem_nil⟩⟩⟩
set_option maxRecDepth 20000 in
theorem w_y325 : ∀ w ∈ wY 325, w ∈ lw_tbl := List.forall_mem_cons.mpr ⟨t_9 (i := 16) (by decide +kernel), List.forall_mem_cons.mpr ⟨t_9 (i := 14) (by decide +kernel), List.forall_mem_cons.mpr ⟨t_9 (i := 15) (by decide +kernel), fun _ h => absurd h List.not_mem_nil⟩⟩⟩
set_option maxRecDepth 20000 in
theorem w_y326 : ∀ w ∈ wY 326, w ∈ lw_tbl := List.forall_mem_cons.mpr ⟨t_9 (i := 28) (by decide +kernel), List.forall_mem_cons.mpr ⟨t_9 (i := 27) (by decide +kernel), List.forall_mem_cons.mpr ⟨t_0 (i := 127) (by decide +kernel), fun _ h => absurd h List.not_mem_nil⟩⟩⟩
set_option maxRecDepth 20000 in
theorem w_y327 : ∀ w ∈ wY 327, w ∈ lw_tbl := List.forall_mem_cons.mpr ⟨t_9 (i := 24) (by decide +kernel), List.forall_mem_cons.mpr ⟨t_9 (i := 23) (by decide +kernel), List.forall_mem_cons.mpr ⟨t_0 (i := 126) (by decide +kernel), fun _ h => absurd h List.not_mem_nil⟩⟩⟩
set_option maxRecDepth 20000 in
theorem w_y328 : ∀ w ∈ wY 328, w ∈ lw_tbl := List.forall_mem_cons.mpr ⟨t_9 (i := 20) (by decide +kernel), List.forall_mem_cons.mpr ⟨t_9 (i := 18) (by decide +kernel), List.forall_mem_cons.mpr ⟨t_9 (i := 19) (by decide +kernel), fun _ h => absurd h List.not_mem_nil⟩⟩⟩
set_option maxRecDepth 20000 in
theorem w_y329 : ∀ w ∈ wY 329, w ∈ lw_tbl := List.forall_mem_cons.mpr ⟨t_9 (i := 32) (by decide +kernel), List.forall_mem_cons.mpr ⟨t_9 (i := 30) (by decide +kernel), List.forall_mem_cons.mpr ⟨t_9 (i := 31) (by decide +kernel), fun _ h => absurd h List.not_mem_nil⟩⟩⟩
set_option maxRecDepth 20000 in
theorem w_y330 : ∀ w ∈ wY 330, w ∈ lw_tbl := List.forall_mem_cons.mpr ⟨t_9 (i := 48) (by decide +kernel), List.forall_mem_cons.mpr ⟨t_9 (i := 47) (by decide +kernel), List.forall_mem_cons.mpr ⟨t_0 (i := 130) (by decide +kernel), fun _ h => absurd h List.not_mem_nil⟩⟩⟩
set_option maxRecDepth 20000 in
theorem w_y331 : ∀ w ∈ wY 331, w ∈ lw_tbl := List.forall_mem_cons.mpr ⟨t_9 (i := 40) (by decide +kernel), List.forall_mem_cons.mpr ⟨t_9 (i := 39) (by decide +kernel), List.forall_mem_cons.mpr ⟨t_0 (i := 128) (by decide +kernel), fun _ h => absurd h List.not_mem_nil⟩⟩⟩
set_option maxRecDepth 20000 in
theorem w_y332 : ∀ w ∈ wY 332, w ∈ lw_tbl := List.forall_mem_cons.mpr ⟨t_9 (i := 36) (by decide +kernel), List.forall_mem_cons.mpr ⟨t_9 (i := 34) (by decide +kernel), List.forall_mem_cons.mpr ⟨t_9 (i := 35) (by decide +kernel), fun _ h => absurd h List.not_mem_nil⟩⟩⟩
set_option maxRecDepth 20000 in
theorem w_y333 : ∀ w ∈ wY 333, w ∈ lw_tbl := List.forall_mem_cons.mpr ⟨t_9 (i := 52) (by decide +kernel), List.forall_mem_cons.mpr ⟨t_9 (i := 50) (by decide +kernel), List.forall_mem_cons.mpr ⟨t_9 (i := 51) (by decide +kernel), fun _ h => absurd h List.not_mem_nil⟩⟩⟩
set_option maxRecDepth 20000 in
theorem w_y334 : ∀ w ∈ wY 334, w ∈ lw_tbl := List.forall_mem_cons.mpr ⟨t_9 (i := 56) (by decide +kernel), List.forall_mem_cons.mpr ⟨t_9 (i := 54) (by decide +kernel), List.forall_mem_cons.mpr ⟨t_9 (i := 55) (by decide +kernel), fun _ h => absurd h List.not_mem_nil⟩⟩⟩
set_option maxRecDepth 20000 in
theorem w_y335 : ∀ w ∈ wY 335, w ∈ lw_tbl := List.forall_mem_cons.mpr ⟨t_9 (i := 93) (by decide +kernel), List.forall_mem_cons.mpr ⟨t_9 (i := 92) (by decide +kernel), List.forall_mem_cons.mpr ⟨t_0 (i := 138) (by decide +kernel), fun _ h => absurd h List.not_mem_nil⟩⟩⟩
set_option maxRecDepth 20000 in
theorem w_y336 : ∀ w ∈ wY 336, w ∈ lw_tbl := List.forall_mem_cons.mpr ⟨t_9 (i := 73) (by decide +kernel), List.forall_mem_cons.mpr ⟨t_9 (i := 72) (by decide +kernel), List.forall_mem_cons.mpr ⟨t_0 (i := 133) (by decide +kernel), fun _ h => absurd h List.not_mem_nil⟩⟩⟩
set_option maxRecDepth 20000 in
theorem w_y337 : ∀ w ∈ wY 337, w ∈ lw_tbl := List.forall_mem_cons.mpr ⟨t_9 (i := 77) (by decide +kernel), List.forall_mem_cons.mpr ⟨t_9 (i := 76) (by decide +kernel), List.forall_mem_cons.mpr ⟨t_0 (i := 134) (by decide +kernel), fun _ h => absurd h List.not_mem_nil⟩⟩⟩
set_option maxRecDepth 20000 in
theorem w_y338 : ∀ w ∈ wY 338, w ∈ lw_tbl := List.forall_mem_cons.mpr ⟨t_9 (i := 81) (by decide +kernel), List.forall_mem_cons.mpr ⟨t_9 (i := 80) (by decide +kernel), List.forall_mem_cons.mpr ⟨t_0 (i := 135) (by decide +kernel), fun _ h => absurd h List.not_mem_nil⟩⟩⟩
set_option maxRecDepth 20000 in
theorem w_y339 : ∀ w ∈ wY 339, w ∈ lw_tbl := List.forall_mem_cons.mpr ⟨t_9 (i := 85) (by decide +kernel), List.forall_mem_cons.mpr ⟨t_9 (i := 84) (by decide +kernel), List.forall_mem_cons.mpr ⟨t_0 (i := 136) (by decide +kernel), fun _ h => absurd h List.not_mem_nil⟩⟩⟩
set_option maxRecDepth 20000 in
theorem w_y340 : ∀ w ∈ wY 340, w ∈ lw_tbl := List.forall_mem_cons.mpr ⟨t_9 (i := 89) (by decide +kernel), List.forall_mem_cons.mpr ⟨t_9 (i := 88) (by decide +kernel), List.forall_mem_cons.mpr ⟨t_0 (i := 137) (by decide +kernel), fun _ h => absurd h List.not_mem_nil⟩⟩⟩
set_option maxRecDepth 20000 in
theorem w_y341 : ∀ w ∈ wY 341, w ∈ lw_tbl := List.forall_mem_cons.mpr ⟨t_9 (i := 69) (by decide +kernel), List.forall_mem_cons.mpr ⟨t_9 (i := 68) (by decide +kernel), List.forall_mem_cons.mpr ⟨t_0 (i := 132) (by decide +kernel), fun _ h => absurd h List.not_mem_nil⟩⟩⟩
set_option maxRecDepth 20000 in
theorem w_y342 : ∀ w ∈ wY 342, w ∈ lw_tbl := List.forall_mem_cons.mpr ⟨t_9 (i := 98) (by decide +kernel), List.forall_mem_cons.mpr ⟨t_9 (i := 97) (by decide +kernel), List.forall_mem_cons.mpr ⟨t_0 (i := 139) (by decide +kernel), fun _ h => absurd h List.not_mem_nil⟩⟩⟩
set_option maxRecDepth 20000 in
theorem w_y343 : ∀ w ∈ wY 343, w ∈ lw_tbl := List.forall_mem_cons.mpr ⟨t_9 (i := 102) (by decide +kernel), List.forall_mem_cons.mpr ⟨t_9 (i := 101) (by decide +kernel), List.forall_mem_cons.mpr ⟨t_0 (i := 140) (by decide +kernel), fun _ h => absurd h List.not_mem_nil⟩⟩⟩
set_option maxRecDepth 20000 in
theorem w_y344 : ∀ w ∈ wY 344, w ∈ lw_tbl := List.forall_mem_cons.mpr ⟨t_9 (i := 65) (by decide +kernel), List.forall_mem_cons.mpr ⟨t_9 (i := 64) (by decide +kernel), List.forall_mem_cons.mpr ⟨t_0 (i := 131) (by decide +kernel), fun _ h => absurd h List.not_mem_nil⟩⟩⟩
set_option maxRecDepth 20000 in
theorem w_y345 : ∀ w ∈ wY 345, w ∈ lw_tbl := List.forall_mem_cons.mpr ⟨t_9 (i := 60) (by decide +kernel), List.forall_mem_cons.mpr ⟨t_9 (i := 58) (by decide +kernel), List.forall_mem_cons.mpr ⟨t_9 (i := 59) (by decide +kernel), fun _ h => absurd h List.not_mem_nil⟩⟩⟩
set_option maxRecDepth 20000 in
theorem w_y346 : ∀ w ∈ wY 346, w ∈ lw_tbl := List.forall_mem_cons.mpr ⟨t_9 (i := 106) (by decide +kernel), List.forall_mem_cons.mpr ⟨t_9 (i := 104) (by decide +kernel), List.forall_mem_cons.mpr ⟨t_9 (i := 105) (by decide +kernel), fun _ h => absurd h List.not_mem_nil⟩⟩⟩
set_option maxRecDepth 20000 in
theorem w_y347 : ∀ w ∈ wY 347, w ∈ lw_tbl := List.forall_mem_cons.mpr ⟨t_9 (i := 110) (by decide +kernel), List.forall_mem_cons.mpr ⟨t_9 (i := 108) (by decide +kernel), List.forall_mem_cons.mpr ⟨t_9 (i := 109) (by decide +kernel), fun _ h => absurd h List.not_mem_nil⟩⟩⟩
set_option maxRecDepth 20000 in
theorem w_y348 : ∀ w ∈ wY 348, w ∈ lw_tbl := List.forall_mem_cons.mpr ⟨t_9 (i := 118) (by decide +kernel), List.forall_mem_cons.mpr ⟨t_9 (i := 117) (by decide +kernel), List.forall_mem_cons.mpr ⟨t_0 (i := 141) (by decide +kernel), fun _ h => absurd h List.not_mem_nil⟩⟩⟩
set_option maxRecDepth 20000 in
theorem w_y349 : ∀ w ∈ wY 349, w ∈ lw_tbl := List.forall_mem_cons.mpr ⟨t_9 (i := 114) (by decide +kernel), List.forall_mem_cons.mpr ⟨t_9 (i := 112) (by decide +kernel), List.forall_mem_cons.mpr ⟨t_9 (i := 113) (by decide +kernel), fun _ h => absurd h List.not_mem_nil⟩⟩⟩
set_option maxRecDepth 20000 in
theorem w_y350 : ∀ w ∈ wY 350, w ∈ lw_tbl := List.forall_mem_cons.mpr ⟨t_9 (i := 122) (by decide +kernel), List.forall_mem_cons.mpr ⟨t_9 (i := 120) (by decide +kernel), List.forall_mem_cons.mpr ⟨t_9 (i := 121) (by decide +kernel), fun _ h => absurd h List.not_mem_nil⟩⟩⟩
set_option maxRecDepth 20000 in
theorem w_y351 : ∀ w ∈ wY 351, w ∈ lw_tbl := List.forall_mem_cons.mpr ⟨t_5 (i := 31) (by decide +kernel), List.forall_mem_cons.mpr ⟨t_5 (i := 30) (by decide +kernel), fun _ h => absurd h List.not_mem_nil⟩⟩
set_option maxRecDepth 20000 in
theorem w_y352 : ∀ w ∈ wY 352, w ∈ lw_tbl := List.forall_mem_cons.mpr ⟨t_2 (i := 232) (by decide +kernel), List.forall_mem_cons.mpr ⟨t_2 (i := 231) (by decide +kernel), fun _ h => absurd h List.not_mem_nil⟩⟩
set_option maxRecDepth 20000 in
theorem w_o : ∀ w ∈ wO, w ∈ lw_tbl := List.forall_mem_cons.mpr ⟨t_1 (i := 9) (by decide +kernel), List.forall_mem_cons.mpr ⟨t_1 (i := 8) (by decide +kernel), List.forall_mem_cons.mpr ⟨t_1 (i := 10) (by decide +kernel), List.forall_mem_cons.mpr ⟨t_1 (i := 5) (by decide +kernel), List.forall_mem_cons.mpr ⟨t_1 (i := 7) (by decide +kernel), List.forall_mem_cons.mpr ⟨t_1 (i := 3) (by decide +kernel), List.forall_mem_cons.mpr ⟨t_1 (i := 2) (by decide +kernel), List.forall_mem_cons.mpr ⟨t_1 (i := 4) (by decide +kernel), List.forall_mem_cons.mpr ⟨t_1 (i := 6) (by decide +kernel), List.forall_mem_cons.mpr ⟨t_1 (i := 1) (by decide +kernel), List.forall_mem_cons.mpr ⟨t_1 (i := 11) (by decide +kernel), List.forall_mem_cons.mpr ⟨t_1 (i := 0) (by decide +kernel), List.forall_mem_cons.mpr ⟨t_1 (i := 19) (by decide +kernel), List.forall_mem_cons.mpr ⟨t_1 (i := 12) (by decide +kernel), List.forall_mem_cons.mpr ⟨t_1 (i := 105) (by decide +kernel), List.forall_mem_cons.mpr ⟨t_1 (i := 47) (by decide +kernel), List.forall_mem_cons.mpr ⟨t_1 (i := 104) (by decide +kernel), List.forall_mem_cons.mpr ⟨t_6 (i := 202) (by decide +kernel), List.forall_mem_cons.mpr ⟨t_1 (i := 26) (by decide +kernel), List.forall_mem_cons.mpr ⟨t_1 (i := 27) (by decide +kernel), List.forall_mem_cons.mpr ⟨t_4 (i := 126) (by decide +kernel), List.forall_mem_cons.mpr ⟨t_1 (i := 14) (by decide +kernel), List.forall_mem_cons.mpr ⟨t_4 (i := 127) (by decide +kernel), List.forall_mem_cons.mpr ⟨t_3 (i := 62) (by decide +kernel), List.forall_mem_cons.mpr ⟨t_3 (i := 63) (by decide +kernel), List.forall_mem_cons.mpr ⟨t_3 (i := 40) (by decide +kernel), List.forall_mem_cons.mpr ⟨t_3 (i := 39) (by decide +kernel), List.forall_mem_cons.mpr ⟨t_1 (i := 13) (by decide +kernel), fun _ h => absurd h List.not_mem_nil⟩⟩⟩⟩⟩⟩⟩⟩⟩⟩⟩⟩⟩⟩⟩⟩⟩⟩⟩⟩⟩⟩⟩⟩⟩⟩⟩⟩
set_option maxRecDepth 20000 in
theorem w_s : ∀ w ∈ wS, w ∈ lw_tbl := List.forall_mem_cons.mpr ⟨t_3 (i := 93) (by decide +kernel), List.forall_mem_cons.mpr ⟨t_3 (i := 91) (by decide +kernel), List.forall_mem_cons.mpr ⟨t_3 (i := 92) (by decide +kernel), List.forall_mem_cons.mpr ⟨t_3 (i := 103) (by decide +kernel), List.forall_mem_cons.mpr ⟨t_3 (i := 101) (by decide +kernel), List.forall_mem_cons.mpr ⟨t_3 (i := 102) (by decide +kernel), List.forall_mem_cons.mpr ⟨t_1 (i := 15) (by decide +kernel), List.forall_mem_cons.mpr ⟨t_9 (i := 124) (by decide +kernel), List.forall_mem_cons.mpr ⟨t_3 (i := 94) (by decide +kernel), List.forall_mem_cons.mpr ⟨t_3 (i := 95) (by decide +kernel), List.forall_mem_cons.mpr ⟨t_3 (i := 96) (by decide +kernel), List.forall_mem_cons.mpr ⟨t_3 (i := 97) (by decide +kernel), List.forall_mem_cons.mpr ⟨t_3 (i := 98) (by decide +kernel), List.forall_mem_cons.mpr ⟨t_9 (i := 125) (by decide +kernel), List.forall_mem_cons.mpr ⟨t_3 (i := 104) (by decide +kernel), List.forall_mem_cons.mpr ⟨t_3 (i := 105) (by decide +kernel), List.forall_mem_cons.mpr ⟨t_3 (i := 106) (by decide +kernel), List.forall_mem_cons.mpr ⟨t_3 (i := 107) (by decide +kernel), List.forall_mem_cons.mpr ⟨t_3 (i := 108) (by decide +kernel), List.forall_mem_cons.mpr ⟨t_3 (i := 109) (by decide +kernel), List.forall_mem_cons.mpr ⟨t_1 (i := 16) (by decide +kernel), List.forall_mem_cons.mpr ⟨t_3 (i := 110) (by decide +kernel), List.forall_mem_cons.mpr ⟨t_3 (i := 111) (by decide +kernel), List.forall_mem_cons.mpr ⟨t_3 (i := 112) (by decide +kernel), List.forall_mem_cons.mpr ⟨t_3 (i := 113) (by decide +kernel), List.forall_mem_cons.mpr ⟨t_3 (i := 114) (by decide +kernel), List.forall_mem_cons.mpr ⟨t_3 (i := 116) (by decide +kernel), List.forall_mem_cons.mpr ⟨t_3 (i := 117) (by decide +kernel), List.forall_mem_cons.mpr ⟨t_1 (i := 17) (by decide +kernel), List.forall_mem_cons.mpr ⟨t_3 (i := 118) (by decide +kernel), fun _ h => absurd h List.not_mem_nil⟩⟩⟩⟩⟩⟩⟩⟩⟩⟩⟩⟩⟩⟩⟩⟩⟩⟩⟩⟩⟩⟩⟩⟩⟩⟩⟩⟩⟩⟩
theorem w_t : ∀ y, y < 14 → ∀ w ∈ wF y ++ wMt y ++ wC y ++ wK y ++ wLg y, w ∈ lw_tbl
  | 0, _ => fun w h => by
    simp only [List.mem_append] at h
    rcases h with (((h | h) | h) | h) | h
    · exact w_f0 w h
    · exact w_m0 w h
    · exact w_c0 w h
    · exact w_k0 w h
    · exact w_l0 w h
  | 1, _ => fun w h => by
    simp only [List.mem_append] at h
    rcases h with (((h | h) | h) | h) | h
    · exact w_f1 w h
    · exact w_m1 w h
    · exact w_c1 w h
    · exact w_k1 w h
    · exact w_l1 w h
  | 2, _ => fun w h => by
    simp only [List.mem_append] at h
    rcases h with (((h | h) | h) | h) | h
    · exact w_f2 w h
    · exact w_m2 w h
    · exact w_c2 w h
    · exact w_k2 w h
    · exact w_l2 w h
  | 3, _ => fun w h => by
    simp only [List.mem_append] at h
    rcases h with (((h | h) | h) | h) | h
    · exact w_f3 w h
    · exact w_m3 w h
    · exact w_c3 w h
    · exact w_k3 w h
    · exact w_l3 w h
  | 4, _ => fun w h => by
    simp only [List.mem_append] at h
    rcases h with (((h | h) | h) | h) | h
    · exact w_f4 w h
    · exact w_m4 w h
    · exact w_c4 w h
    · exact w_k4 w h
    · exact w_l4 w h
  | 5, _ => fun w h => by
    simp only [List.mem_append] at h
    rcases h with (((h | h) | h) | h) | h
    · exact w_f5 w h
    · exact w_m5 w h
    · exact w_c5 w h
    · exact w_k5 w h
    · exact w_l5 w h
  | 6, _ => fun w h => by
    simp only [List.mem_append] at h
    rcases h with (((h | h) | h) | h) | h
    · exact w_f6 w h
    · exact w_m6 w h
    · exact w_c6 w h
    · exact w_k6 w h
    · exact w_l6 w h
  | 7, _ => fun w h => by
    simp only [List.mem_append] at h
    rcases h with (((h | h) | h) | h) | h
    · exact w_f7 w h
    · exact w_m7 w h
    · exact w_c7 w h
    · exact w_k7 w h
    · exact w_l7 w h
  | 8, _ => fun w h => by
    simp only [List.mem_append] at h
    rcases h with (((h | h) | h) | h) | h
    · exact w_f8 w h
    · exact w_m8 w h
    · exact w_c8 w h
    · exact w_k8 w h
    · exact w_l8 w h
  | 9, _ => fun w h => by
    simp only [List.mem_append] at h
    rcases h with (((h | h) | h) | h) | h
    · exact w_f9 w h
    · exact w_m9 w h
    · exact w_c9 w h
    · exact w_k9 w h
    · exact w_l9 w h
  | 10, _ => fun w h => by
    simp only [List.mem_append] at h
    rcases h with (((h | h) | h) | h) | h
    · exact w_f10 w h
    · exact w_m10 w h
    · exact w_c10 w h
    · exact w_k10 w h
    · exact w_l10 w h
  | 11, _ => fun w h => by
    simp only [List.mem_append] at h
    rcases h with (((h | h) | h) | h) | h
    · exact w_f11 w h
    · exact w_m11 w h
    · exact w_c11 w h
    · exact w_k11 w h
    · exact w_l11 w h
  | 12, _ => fun w h => by
    simp only [List.mem_append] at h
    rcases h with (((h | h) | h) | h) | h
    · exact w_f12 w h
    · exact w_m12 w h
    · exact w_c12 w h
    · exact w_k12 w h
    · exact w_l12 w h
  | 13, _ => fun w h => by
    simp only [List.mem_append] at h
    rcases h with (((h | h) | h) | h) | h
    · exact w_f13 w h
    · exact w_m13 w h
    · exact w_c13 w h
    · exact w_k13 w h
    · exact w_l13 w h
  | y + 14, h => absurd h (by omega)
theorem w_cl : ∀ y, y < 11 → ∀ w ∈ wCls y, w ∈ lw_tbl
  | 0, _ => w_cl0
  | 1, _ => w_cl1
  | 2, _ => w_cl2
  | 3, _ => w_cl3
  | 4, _ => w_cl4
  | 5, _ => w_cl5
  | 6, _ => w_cl6
  | 7, _ => w_cl7
  | 8, _ => w_cl8
  | 9, _ => w_cl9
  | 10, _ => w_cl10
  | y + 11, h => absurd h (by omega)
theorem w_yk0 : ∀ j, j < 20 → ∀ w ∈ wY (0 + j), w ∈ lw_tbl
  | 0, _ => w_y0
  | 1, _ => w_y1
  | 2, _ => w_y2
  | 3, _ => w_y3
  | 4, _ => w_y4
  | 5, _ => w_y5
  | 6, _ => w_y6
  | 7, _ => w_y7
  | 8, _ => w_y8
  | 9, _ => w_y9
  | 10, _ => w_y10
  | 11, _ => w_y11
  | 12, _ => w_y12
  | 13, _ => w_y13
  | 14, _ => w_y14
  | 15, _ => w_y15
  | 16, _ => w_y16
  | 17, _ => w_y17
  | 18, _ => w_y18
  | 19, _ => w_y19
  | y + 20, h => absurd h (by omega)
theorem w_yk1 : ∀ j, j < 20 → ∀ w ∈ wY (20 + j), w ∈ lw_tbl
  | 0, _ => w_y20
  | 1, _ => w_y21
  | 2, _ => w_y22
  | 3, _ => w_y23
  | 4, _ => w_y24
  | 5, _ => w_y25
  | 6, _ => w_y26
  | 7, _ => w_y27
  | 8, _ => w_y28
  | 9, _ => w_y29
  | 10, _ => w_y30
  | 11, _ => w_y31
  | 12, _ => w_y32
  | 13, _ => w_y33
  | 14, _ => w_y34
  | 15, _ => w_y35
  | 16, _ => w_y36
  | 17, _ => w_y37
  | 18, _ => w_y38
  | 19, _ => w_y39
  | y + 20, h => absurd h (by omega)
theorem w_yk2 : ∀ j, j < 20 → ∀ w ∈ wY (40 + j), w ∈ lw_tbl
  | 0, _ => w_y40
  | 1, _ => w_y41
  | 2, _ => w_y42
  | 3, _ => w_y43
  | 4, _ => w_y44
  | 5, _ => w_y45
  | 6, _ => w_y46
  | 7, _ => w_y47
  | 8, _ => w_y48
  | 9, _ => w_y49
  | 10, _ => w_y50
  | 11, _ => w_y51
  | 12, _ => w_y52
  | 13, _ => w_y53
  | 14, _ => w_y54
  | 15, _ => w_y55
  | 16, _ => w_y56
  | 17, _ => w_y57
  | 18, _ => w_y58
  | 19, _ => w_y59
  | y + 20, h => absurd h (by omega)
theorem w_yk3 : ∀ j, j < 20 → ∀ w ∈ wY (60 + j), w ∈ lw_tbl
  | 0, _ => w_y60
  | 1, _ => w_y61
  | 2, _ => w_y62
  | 3, _ => w_y63
  | 4, _ => w_y64
  | 5, _ => w_y65
  | 6, _ => w_y66
  | 7, _ => w_y67
  | 8, _ => w_y68
  | 9, _ => w_y69
  | 10, _ => w_y70
  | 11, _ => w_y71
  | 12, _ => w_y72
  | 13, _ => w_y73
  | 14, _ => w_y74
  | 15, _ => w_y75
  | 16, _ => w_y76
  | 17, _ => w_y77
  | 18, _ => w_y78
  | 19, _ => w_y79
  | y + 20, h => absurd h (by omega)
theorem w_yk4 : ∀ j, j < 20 → ∀ w ∈ wY (80 + j), w ∈ lw_tbl
  | 0, _ => w_y80
  | 1, _ => w_y81
  | 2, _ => w_y82
  | 3, _ => w_y83
  | 4, _ => w_y84
  | 5, _ => w_y85
  | 6, _ => w_y86
  | 7, _ => w_y87
  | 8, _ => w_y88
  | 9, _ => w_y89
  | 10, _ => w_y90
  | 11, _ => w_y91
  | 12, _ => w_y92
  | 13, _ => w_y93
  | 14, _ => w_y94
  | 15, _ => w_y95
  | 16, _ => w_y96
  | 17, _ => w_y97
  | 18, _ => w_y98
  | 19, _ => w_y99
  | y + 20, h => absurd h (by omega)
theorem w_yk5 : ∀ j, j < 20 → ∀ w ∈ wY (100 + j), w ∈ lw_tbl
  | 0, _ => w_y100
  | 1, _ => w_y101
  | 2, _ => w_y102
  | 3, _ => w_y103
  | 4, _ => w_y104
  | 5, _ => w_y105
  | 6, _ => w_y106
  | 7, _ => w_y107
  | 8, _ => w_y108
  | 9, _ => w_y109
  | 10, _ => w_y110
  | 11, _ => w_y111
  | 12, _ => w_y112
  | 13, _ => w_y113
  | 14, _ => w_y114
  | 15, _ => w_y115
  | 16, _ => w_y116
  | 17, _ => w_y117
  | 18, _ => w_y118
  | 19, _ => w_y119
  | y + 20, h => absurd h (by omega)
theorem w_yk6 : ∀ j, j < 20 → ∀ w ∈ wY (120 + j), w ∈ lw_tbl
  | 0, _ => w_y120
  | 1, _ => w_y121
  | 2, _ => w_y122
  | 3, _ => w_y123
  | 4, _ => w_y124
  | 5, _ => w_y125
  | 6, _ => w_y126
  | 7, _ => w_y127
  | 8, _ => w_y128
  | 9, _ => w_y129
  | 10, _ => w_y130
  | 11, _ => w_y131
  | 12, _ => w_y132
  | 13, _ => w_y133
  | 14, _ => w_y134
  | 15, _ => w_y135
  | 16, _ => w_y136
  | 17, _ => w_y137
  | 18, _ => w_y138
  | 19, _ => w_y139
  | y + 20, h => absurd h (by omega)
theorem w_yk7 : ∀ j, j < 20 → ∀ w ∈ wY (140 + j), w ∈ lw_tbl
  | 0, _ => w_y140
  | 1, _ => w_y141
  | 2, _ => w_y142
  | 3, _ => w_y143
  | 4, _ => w_y144
  | 5, _ => w_y145
  | 6, _ => w_y146
  | 7, _ => w_y147
  | 8, _ => w_y148
  | 9, _ => w_y149
  | 10, _ => w_y150
  | 11, _ => w_y151
  | 12, _ => w_y152
  | 13, _ => w_y153
  | 14, _ => w_y154
  | 15, _ => w_y155
  | 16, _ => w_y156
  | 17, _ => w_y157
  | 18, _ => w_y158
  | 19, _ => w_y159
  | y + 20, h => absurd h (by omega)
theorem w_yk8 : ∀ j, j < 20 → ∀ w ∈ wY (160 + j), w ∈ lw_tbl
  | 0, _ => w_y160
  | 1, _ => w_y161
  | 2, _ => w_y162
  | 3, _ => w_y163
  | 4, _ => w_y164
  | 5, _ => w_y165
  | 6, _ => w_y166
  | 7, _ => w_y167
  | 8, _ => w_y168
  | 9, _ => w_y169
  | 10, _ => w_y170
  | 11, _ => w_y171
  | 12, _ => w_y172
  | 13, _ => w_y173
  | 14, _ => w_y174
  | 15, _ => w_y175
  | 16, _ => w_y176
  | 17, _ => w_y177
  | 18, _ => w_y178
  | 19, _ => w_y179
  | y + 20, h => absurd h (by omega)
theorem w_yk9 : ∀ j, j < 20 → ∀ w ∈ wY (180 + j), w ∈ lw_tbl
  | 0, _ => w_y180
  | 1, _ => w_y181
  | 2, _ => w_y182
  | 3, _ => w_y183
  | 4, _ => w_y184
  | 5, _ => w_y185
  | 6, _ => w_y186
  | 7, _ => w_y187
  | 8, _ => w_y188
  | 9, _ => w_y189
  | 10, _ => w_y190
  | 11, _ => w_y191
  | 12, _ => w_y192
  | 13, _ => w_y193
  | 14, _ => w_y194
  | 15, _ => w_y195
  | 16, _ => w_y196
  | 17, _ => w_y197
  | 18, _ => w_y198
  | 19, _ => w_y199
  | y + 20, h => absurd h (by omega)
theorem w_yk10 : ∀ j, j < 20 → ∀ w ∈ wY (200 + j), w ∈ lw_tbl
  | 0, _ => w_y200
  | 1, _ => w_y201
  | 2, _ => w_y202
  | 3, _ => w_y203
  | 4, _ => w_y204
  | 5, _ => w_y205
  | 6, _ => w_y206
  | 7, _ => w_y207
  | 8, _ => w_y208
  | 9, _ => w_y209
  | 10, _ => w_y210
  | 11, _ => w_y211
  | 12, _ => w_y212
  | 13, _ => w_y213
  | 14, _ => w_y214
  | 15, _ => w_y215
  | 16, _ => w_y216
  | 17, _ => w_y217
  | 18, _ => w_y218
  | 19, _ => w_y219
  | y + 20, h => absurd h (by omega)
theorem w_yk11 : ∀ j, j < 20 → ∀ w ∈ wY (220 + j), w ∈ lw_tbl
  | 0, _ => w_y220
  | 1, _ => w_y221
  | 2, _ => w_y222
  | 3, _ => w_y223
  | 4, _ => w_y224
  | 5, _ => w_y225
  | 6, _ => w_y226
  | 7, _ => w_y227
  | 8, _ => w_y228
  | 9, _ => w_y229
  | 10, _ => w_y230
  | 11, _ => w_y231
  | 12, _ => w_y232
  | 13, _ => w_y233
  | 14, _ => w_y234
  | 15, _ => w_y235
  | 16, _ => w_y236
  | 17, _ => w_y237
  | 18, _ => w_y238
  | 19, _ => w_y239
  | y + 20, h => absurd h (by omega)
theorem w_yk12 : ∀ j, j < 20 → ∀ w ∈ wY (240 + j), w ∈ lw_tbl
  | 0, _ => w_y240
  | 1, _ => w_y241
  | 2, _ => w_y242
  | 3, _ => w_y243
  | 4, _ => w_y244
  | 5, _ => w_y245
  | 6, _ => w_y246
  | 7, _ => w_y247
  | 8, _ => w_y248
  | 9, _ => w_y249
  | 10, _ => w_y250
  | 11, _ => w_y251
  | 12, _ => w_y252
  | 13, _ => w_y253
  | 14, _ => w_y254
  | 15, _ => w_y255
  | 16, _ => w_y256
  | 17, _ => w_y257
  | 18, _ => w_y258
  | 19, _ => w_y259
  | y + 20, h => absurd h (by omega)
theorem w_yk13 : ∀ j, j < 20 → ∀ w ∈ wY (260 + j), w ∈ lw_tbl
  | 0, _ => w_y260
  | 1, _ => w_y261
  | 2, _ => w_y262
  | 3, _ => w_y263
  | 4, _ => w_y264
  | 5, _ => w_y265
  | 6, _ => w_y266
  | 7, _ => w_y267
  | 8, _ => w_y268
  | 9, _ => w_y269
  | 10, _ => w_y270
  | 11, _ => w_y271
  | 12, _ => w_y272
  | 13, _ => w_y273
  | 14, _ => w_y274
  | 15, _ => w_y275
  | 16, _ => w_y276
  | 17, _ => w_y277
  | 18, _ => w_y278
  | 19, _ => w_y279
  | y + 20, h => absurd h (by omega)
theorem w_yk14 : ∀ j, j < 20 → ∀ w ∈ wY (280 + j), w ∈ lw_tbl
  | 0, _ => w_y280
  | 1, _ => w_y281
  | 2, _ => w_y282
  | 3, _ => w_y283
  | 4, _ => w_y284
  | 5, _ => w_y285
  | 6, _ => w_y286
  | 7, _ => w_y287
  | 8, _ => w_y288
  | 9, _ => w_y289
  | 10, _ => w_y290
  | 11, _ => w_y291
  | 12, _ => w_y292
  | 13, _ => w_y293
  | 14, _ => w_y294
  | 15, _ => w_y295
  | 16, _ => w_y296
  | 17, _ => w_y297
  | 18, _ => w_y298
  | 19, _ => w_y299
  | y + 20, h => absurd h (by omega)
theorem w_yk15 : ∀ j, j < 20 → ∀ w ∈ wY (300 + j), w ∈ lw_tbl
  | 0, _ => w_y300
  | 1, _ => w_y301
  | 2, _ => w_y302
  | 3, _ => w_y303
  | 4, _ => w_y304
  | 5, _ => w_y305
  | 6, _ => w_y306
  | 7, _ => w_y307
  | 8, _ => w_y308
  | 9, _ => w_y309
  | 10, _ => w_y310
  | 11, _ => w_y311
  | 12, _ => w_y312
  | 13, _ => w_y313
  | 14, _ => w_y314
  | 15, _ => w_y315
  | 16, _ => w_y316
  | 17, _ => w_y317
  | 18, _ => w_y318
  | 19, _ => w_y319
  | y + 20, h => absurd h (by omega)
theorem w_yk16 : ∀ j, j < 20 → ∀ w ∈ wY (320 + j), w ∈ lw_tbl
  | 0, _ => w_y320
  | 1, _ => w_y321
  | 2, _ => w_y322
  | 3, _ => w_y323
  | 4, _ => w_y324
  | 5, _ => w_y325
  | 6, _ => w_y326
  | 7, _ => w_y327
  | 8, _ => w_y328
  | 9, _ => w_y329
  | 10, _ => w_y330
  | 11, _ => w_y331
  | 12, _ => w_y332
  | 13, _ => w_y333
  | 14, _ => w_y334
  | 15, _ => w_y335
  | 16, _ => w_y336
  | 17, _ => w_y337
  | 18, _ => w_y338
  | 19, _ => w_y339
  | y + 20, h => absurd h (by omega)
theorem w_yk17 : ∀ j, j < 13 → ∀ w ∈ wY (340 + j), w ∈ lw_tbl
  | 0, _ => w_y340
  | 1, _ => w_y341
  | 2, _ => w_y342
  | 3, _ => w_y343
  | 4, _ => w_y344
  | 5, _ => w_y345
  | 6, _ => w_y346
  | 7, _ => w_y347
  | 8, _ => w_y348
  | 9, _ => w_y349
  | 10, _ => w_y350
  | 11, _ => w_y351
  | 12, _ => w_y352
  | y + 13, h => absurd h (by omega)
theorem w_y : ∀ y, y < NMc → ∀ w ∈ wY y, w ∈ lw_tbl := by
  intro y hy
  have hy : y < 353 := hy
  by_cases h0 : y < 20
  · exact of20 (P := fun y => ∀ w ∈ wY y, w ∈ lw_tbl) w_yk0 (by omega) (by omega)
  by_cases h1 : y < 40
  · exact of20 (P := fun y => ∀ w ∈ wY y, w ∈ lw_tbl) w_yk1 (by omega) (by omega)
  by_cases h2 : y < 60
  · exact of20 (P := fun y => ∀ w ∈ wY y, w ∈ lw_tbl) w_yk2 (by omega) (by omega)
  by_cases h3 : y < 80
  · exact of20 (P := fun y => ∀ w ∈ wY y, w ∈ lw_tbl) w_yk3 (by omega) (by omega)
  by_cases h4 : y < 100
  · exact of20 (P := fun y => ∀ w ∈ wY y, w ∈ lw_tbl) w_yk4 (by omega) (by omega)
  by_cases h5 : y < 120
  · exact of20 (P := fun y => ∀ w ∈ wY y, w ∈ lw_tbl) w_yk5 (by omega) (by omega)
  by_cases h6 : y < 140
  · exact of20 (P := fun y => ∀ w ∈ wY y, w ∈ lw_tbl) w_yk6 (by omega) (by omega)
  by_cases h7 : y < 160
  · exact of20 (P := fun y => ∀ w ∈ wY y, w ∈ lw_tbl) w_yk7 (by omega) (by omega)
  by_cases h8 : y < 180
  · exact of20 (P := fun y => ∀ w ∈ wY y, w ∈ lw_tbl) w_yk8 (by omega) (by omega)
  by_cases h9 : y < 200
  · exact of20 (P := fun y => ∀ w ∈ wY y, w ∈ lw_tbl) w_yk9 (by omega) (by omega)
  by_cases h10 : y < 220
  · exact of20 (P := fun y => ∀ w ∈ wY y, w ∈ lw_tbl) w_yk10 (by omega) (by omega)
  by_cases h11 : y < 240
  · exact of20 (P := fun y => ∀ w ∈ wY y, w ∈ lw_tbl) w_yk11 (by omega) (by omega)
  by_cases h12 : y < 260
  · exact of20 (P := fun y => ∀ w ∈ wY y, w ∈ lw_tbl) w_yk12 (by omega) (by omega)
  by_cases h13 : y < 280
  · exact of20 (P := fun y => ∀ w ∈ wY y, w ∈ lw_tbl) w_yk13 (by omega) (by omega)
  by_cases h14 : y < 300
  · exact of20 (P := fun y => ∀ w ∈ wY y, w ∈ lw_tbl) w_yk14 (by omega) (by omega)
  by_cases h15 : y < 320
  · exact of20 (P := fun y => ∀ w ∈ wY y, w ∈ lw_tbl) w_yk15 (by omega) (by omega)
  by_cases h16 : y < 340
  · exact of20 (P := fun y => ∀ w ∈ wY y, w ∈ lw_tbl) w_yk16 (by omega) (by omega)
  by_cases h17 : y < 353
  · exact of20 (P := fun y => ∀ w ∈ wY y, w ∈ lw_tbl) w_yk17 (by omega) (by omega)
  omega
theorem AW_tbl : ∀ w ∈ AW, w ∈ lw_tbl := by
  intro w h
  rcases List.mem_append.mp h with h | h
  · rcases List.mem_append.mp h with h | h
    · exact w_s w h
    · exact w_o w h
  rcases List.mem_append.mp h with h | h
  · obtain ⟨o, ho, h⟩ := List.mem_flatMap.mp h
    exact w_t o (List.mem_range.mp ho) w h
  rcases List.mem_append.mp h with h | h
  · obtain ⟨o, ho, h⟩ := List.mem_flatMap.mp h
    exact w_cl o (List.mem_range.mp ho) w h
  · obtain ⟨o, ho, h⟩ := List.mem_flatMap.mp h
    exact w_y o (List.mem_range.mp ho) w h
