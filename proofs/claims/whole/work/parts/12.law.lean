theorem nm_X6_stall : mv_nm yX6_stall 2 := ⟨by decide +kernel, by decide +kernel, by decide +kernel⟩
theorem wy_X6_stall : Cond.instanceMethod yX6_stall ∈ mv_wA ∧ Cond.selects RX6 yX6_stall yX6_stall ∈ mv_wA ∧ Cond.initialized yX6_stall.cls ∈ mv_wA ∧ Cond.code yX6_stall cX6_stall 4 (some .int) ∈ mv_wA ∧ mv_nm yX6_stall 2 := ⟨mv_wA_of (mv_t1 (List.mem_of_getElem? (i := 236) rfl)) rfl, mv_wA_of (mv_t1 (List.mem_of_getElem? (i := 237) rfl)) rfl, mv_wA_of (mv_t1 (List.mem_of_getElem? (i := 1) rfl)) rfl, mv_wA_of (mv_t1 (List.mem_of_getElem? (i := 238) rfl)) rfl, nm_X6_stall⟩
theorem wc_L_13 : mv_wV RL 13 RX6 yX6_stall cX6_stall 4 (some .int) 2 := ⟨mv_wA_of (mv_t1 (List.mem_of_getElem? (i := 235) rfl)) rfl, wy_X6_stall⟩
theorem nm_X7_stall : mv_nm yX7_stall 2 := ⟨by decide +kernel, by decide +kernel, by decide +kernel⟩
theorem wy_X7_stall : Cond.instanceMethod yX7_stall ∈ mv_wA ∧ Cond.selects RX7 yX7_stall yX7_stall ∈ mv_wA ∧ Cond.initialized yX7_stall.cls ∈ mv_wA ∧ Cond.code yX7_stall cX7_stall 4 (some .int) ∈ mv_wA ∧ mv_nm yX7_stall 2 := ⟨mv_wA_of (mv_t3 (List.mem_of_getElem? (i := 134) rfl)) rfl, mv_wA_of (mv_t3 (List.mem_of_getElem? (i := 135) rfl)) rfl, mv_wA_of (mv_t1 (List.mem_of_getElem? (i := 8) rfl)) rfl, mv_wA_of (mv_t3 (List.mem_of_getElem? (i := 136) rfl)) rfl, nm_X7_stall⟩
theorem wc_L_17 : mv_wV RL 17 RX7 yX7_stall cX7_stall 4 (some .int) 2 := ⟨mv_wA_of (mv_t3 (List.mem_of_getElem? (i := 133) rfl)) rfl, wy_X7_stall⟩
theorem nm_X6_ill : mv_nm yX6_ill 2 := ⟨by decide +kernel, by decide +kernel, by decide +kernel⟩
theorem wy_X6_ill : Cond.instanceMethod yX6_ill ∈ mv_wA ∧ Cond.selects RX6 yX6_ill yX6_ill ∈ mv_wA ∧ Cond.initialized yX6_ill.cls ∈ mv_wA ∧ Cond.code yX6_ill cX6_ill 4 (some .int) ∈ mv_wA ∧ mv_nm yX6_ill 2 := ⟨mv_wA_of (mv_t2 (List.mem_of_getElem? (i := 49) rfl)) rfl, mv_wA_of (mv_t2 (List.mem_of_getElem? (i := 50) rfl)) rfl, mv_wA_of (mv_t1 (List.mem_of_getElem? (i := 1) rfl)) rfl, mv_wA_of (mv_t2 (List.mem_of_getElem? (i := 51) rfl)) rfl, nm_X6_ill⟩
theorem wc_L_18 : mv_wV RL 18 RX6 yX6_ill cX6_ill 4 (some .int) 2 := ⟨mv_wA_of (mv_t2 (List.mem_of_getElem? (i := 48) rfl)) rfl, wy_X6_ill⟩
theorem nm_X7_ill : mv_nm yX7_ill 2 := ⟨by decide +kernel, by decide +kernel, by decide +kernel⟩
theorem wy_X7_ill : Cond.instanceMethod yX7_ill ∈ mv_wA ∧ Cond.selects RX7 yX7_ill yX7_ill ∈ mv_wA ∧ Cond.initialized yX7_ill.cls ∈ mv_wA ∧ Cond.code yX7_ill cX7_ill 3 (some .int) ∈ mv_wA ∧ mv_nm yX7_ill 2 := ⟨mv_wA_of (mv_t3 (List.mem_of_getElem? (i := 148) rfl)) rfl, mv_wA_of (mv_t3 (List.mem_of_getElem? (i := 149) rfl)) rfl, mv_wA_of (mv_t1 (List.mem_of_getElem? (i := 8) rfl)) rfl, mv_wA_of (mv_t3 (List.mem_of_getElem? (i := 150) rfl)) rfl, nm_X7_ill⟩
theorem wc_L_21 : mv_wV RL 21 RX7 yX7_ill cX7_ill 3 (some .int) 2 := ⟨mv_wA_of (mv_t3 (List.mem_of_getElem? (i := 147) rfl)) rfl, wy_X7_ill⟩
theorem nm_X6_rough : mv_nm yX6_rough 2 := ⟨by decide +kernel, by decide +kernel, by decide +kernel⟩
theorem wy_X6_rough : Cond.instanceMethod yX6_rough ∈ mv_wA ∧ Cond.selects RX6 yX6_rough yX6_rough ∈ mv_wA ∧ Cond.initialized yX6_rough.cls ∈ mv_wA ∧ Cond.code yX6_rough cX6_rough 5 (some .int) ∈ mv_wA ∧ mv_nm yX6_rough 2 := ⟨mv_wA_of (mv_t2 (List.mem_of_getElem? (i := 54) rfl)) rfl, mv_wA_of (mv_t2 (List.mem_of_getElem? (i := 55) rfl)) rfl, mv_wA_of (mv_t1 (List.mem_of_getElem? (i := 1) rfl)) rfl, mv_wA_of (mv_t2 (List.mem_of_getElem? (i := 56) rfl)) rfl, nm_X6_rough⟩
theorem wc_L_22 : mv_wV RL 22 RX6 yX6_rough cX6_rough 5 (some .int) 2 := ⟨mv_wA_of (mv_t2 (List.mem_of_getElem? (i := 53) rfl)) rfl, wy_X6_rough⟩
theorem nm_X7_rough : mv_nm yX7_rough 2 := ⟨by decide +kernel, by decide +kernel, by decide +kernel⟩
theorem wy_X7_rough : Cond.instanceMethod yX7_rough ∈ mv_wA ∧ Cond.selects RX7 yX7_rough yX7_rough ∈ mv_wA ∧ Cond.initialized yX7_rough.cls ∈ mv_wA ∧ Cond.code yX7_rough cX7_rough 4 (some .int) ∈ mv_wA ∧ mv_nm yX7_rough 2 := ⟨mv_wA_of (mv_t3 (List.mem_of_getElem? (i := 160) rfl)) rfl, mv_wA_of (mv_t3 (List.mem_of_getElem? (i := 161) rfl)) rfl, mv_wA_of (mv_t1 (List.mem_of_getElem? (i := 8) rfl)) rfl, mv_wA_of (mv_t3 (List.mem_of_getElem? (i := 162) rfl)) rfl, nm_X7_rough⟩
theorem wc_L_25 : mv_wV RL 25 RX7 yX7_rough cX7_rough 4 (some .int) 2 := ⟨mv_wA_of (mv_t3 (List.mem_of_getElem? (i := 159) rfl)) rfl, wy_X7_rough⟩
theorem nm_X6_load : mv_nm yX6_load 1 := ⟨by decide +kernel, by decide +kernel, by decide +kernel⟩
theorem wy_X6_load : Cond.instanceMethod yX6_load ∈ mv_wA ∧ Cond.selects RX6 yX6_load yX6_load ∈ mv_wA ∧ Cond.initialized yX6_load.cls ∈ mv_wA ∧ Cond.code yX6_load cX6_load 3 (some .int) ∈ mv_wA ∧ mv_nm yX6_load 1 := ⟨mv_wA_of (mv_t2 (List.mem_of_getElem? (i := 58) rfl)) rfl, mv_wA_of (mv_t2 (List.mem_of_getElem? (i := 59) rfl)) rfl, mv_wA_of (mv_t1 (List.mem_of_getElem? (i := 1) rfl)) rfl, mv_wA_of (mv_t2 (List.mem_of_getElem? (i := 60) rfl)) rfl, nm_X6_load⟩
theorem wc_L_26 : mv_wV RL 26 RX6 yX6_load cX6_load 3 (some .int) 1 := ⟨mv_wA_of (mv_t2 (List.mem_of_getElem? (i := 57) rfl)) rfl, wy_X6_load⟩
theorem nm_X7_load : mv_nm yX7_load 1 := ⟨by decide +kernel, by decide +kernel, by decide +kernel⟩
theorem wy_X7_load : Cond.instanceMethod yX7_load ∈ mv_wA ∧ Cond.selects RX7 yX7_load yX7_load ∈ mv_wA ∧ Cond.initialized yX7_load.cls ∈ mv_wA ∧ Cond.code yX7_load cX7_load 3 (some .int) ∈ mv_wA ∧ mv_nm yX7_load 1 := ⟨mv_wA_of (mv_t3 (List.mem_of_getElem? (i := 164) rfl)) rfl, mv_wA_of (mv_t3 (List.mem_of_getElem? (i := 165) rfl)) rfl, mv_wA_of (mv_t1 (List.mem_of_getElem? (i := 8) rfl)) rfl, mv_wA_of (mv_t3 (List.mem_of_getElem? (i := 166) rfl)) rfl, nm_X7_load⟩
theorem wc_L_30 : mv_wV RL 30 RX7 yX7_load cX7_load 3 (some .int) 1 := ⟨mv_wA_of (mv_t3 (List.mem_of_getElem? (i := 163) rfl)) rfl, wy_X7_load⟩
theorem nm_X6_post : mv_nm yX6_post 2 := ⟨by decide +kernel, by decide +kernel, by decide +kernel⟩
theorem wy_X6_post : Cond.instanceMethod yX6_post ∈ mv_wA ∧ Cond.selects RX6 yX6_post yX6_post ∈ mv_wA ∧ Cond.initialized yX6_post.cls ∈ mv_wA ∧ Cond.code yX6_post cX6_post 4 (some .int) ∈ mv_wA ∧ mv_nm yX6_post 2 := ⟨mv_wA_of (mv_t2 (List.mem_of_getElem? (i := 62) rfl)) rfl, mv_wA_of (mv_t2 (List.mem_of_getElem? (i := 63) rfl)) rfl, mv_wA_of (mv_t1 (List.mem_of_getElem? (i := 1) rfl)) rfl, mv_wA_of (mv_t2 (List.mem_of_getElem? (i := 64) rfl)) rfl, nm_X6_post⟩
theorem wc_L_31 : mv_wV RL 31 RX6 yX6_post cX6_post 4 (some .int) 2 := ⟨mv_wA_of (mv_t2 (List.mem_of_getElem? (i := 61) rfl)) rfl, wy_X6_post⟩
theorem nm_X7_post : mv_nm yX7_post 2 := ⟨by decide +kernel, by decide +kernel, by decide +kernel⟩
theorem wy_X7_post : Cond.instanceMethod yX7_post ∈ mv_wA ∧ Cond.selects RX7 yX7_post yX7_post ∈ mv_wA ∧ Cond.initialized yX7_post.cls ∈ mv_wA ∧ Cond.code yX7_post cX7_post 3 (some .int) ∈ mv_wA ∧ mv_nm yX7_post 2 := ⟨mv_wA_of (mv_t3 (List.mem_of_getElem? (i := 168) rfl)) rfl, mv_wA_of (mv_t3 (List.mem_of_getElem? (i := 169) rfl)) rfl, mv_wA_of (mv_t1 (List.mem_of_getElem? (i := 8) rfl)) rfl, mv_wA_of (mv_t3 (List.mem_of_getElem? (i := 170) rfl)) rfl, nm_X7_post⟩
theorem wc_L_34 : mv_wV RL 34 RX7 yX7_post cX7_post 3 (some .int) 2 := ⟨mv_wA_of (mv_t3 (List.mem_of_getElem? (i := 167) rfl)) rfl, wy_X7_post⟩
theorem nm_X6_forget : mv_nm yX6_forget 1 := ⟨by decide +kernel, by decide +kernel, by decide +kernel⟩
theorem wy_X6_forget : Cond.instanceMethod yX6_forget ∈ mv_wA ∧ Cond.selects RX6 yX6_forget yX6_forget ∈ mv_wA ∧ Cond.initialized yX6_forget.cls ∈ mv_wA ∧ Cond.code yX6_forget cX6_forget 2 (some .int) ∈ mv_wA ∧ mv_nm yX6_forget 1 := ⟨mv_wA_of (mv_t2 (List.mem_of_getElem? (i := 101) rfl)) rfl, mv_wA_of (mv_t2 (List.mem_of_getElem? (i := 102) rfl)) rfl, mv_wA_of (mv_t1 (List.mem_of_getElem? (i := 1) rfl)) rfl, mv_wA_of (mv_t2 (List.mem_of_getElem? (i := 103) rfl)) rfl, nm_X6_forget⟩
theorem wc_L_35 : mv_wV RL 35 RX6 yX6_forget cX6_forget 2 (some .int) 1 := ⟨mv_wA_of (mv_t2 (List.mem_of_getElem? (i := 100) rfl)) rfl, wy_X6_forget⟩
theorem nm_X7_forget : mv_nm yX7_forget 1 := ⟨by decide +kernel, by decide +kernel, by decide +kernel⟩
theorem wy_X7_forget : Cond.instanceMethod yX7_forget ∈ mv_wA ∧ Cond.selects RX7 yX7_forget yX7_forget ∈ mv_wA ∧ Cond.initialized yX7_forget.cls ∈ mv_wA ∧ Cond.code yX7_forget cX7_forget 3 (some .int) ∈ mv_wA ∧ mv_nm yX7_forget 1 := ⟨mv_wA_of (mv_t3 (List.mem_of_getElem? (i := 206) rfl)) rfl, mv_wA_of (mv_t3 (List.mem_of_getElem? (i := 207) rfl)) rfl, mv_wA_of (mv_t1 (List.mem_of_getElem? (i := 8) rfl)) rfl, mv_wA_of (mv_t3 (List.mem_of_getElem? (i := 208) rfl)) rfl, nm_X7_forget⟩
theorem wc_L_38 : mv_wV RL 38 RX7 yX7_forget cX7_forget 3 (some .int) 1 := ⟨mv_wA_of (mv_t3 (List.mem_of_getElem? (i := 205) rfl)) rfl, wy_X7_forget⟩
theorem nm_X6_pass : mv_nm yX6_pass 1 := ⟨by decide +kernel, by decide +kernel, by decide +kernel⟩
theorem wy_X6_pass : Cond.instanceMethod yX6_pass ∈ mv_wA ∧ Cond.selects RX6 yX6_pass yX6_pass ∈ mv_wA ∧ Cond.initialized yX6_pass.cls ∈ mv_wA ∧ Cond.code yX6_pass cX6_pass 4 (some .int) ∈ mv_wA ∧ mv_nm yX6_pass 1 := ⟨mv_wA_of (mv_t2 (List.mem_of_getElem? (i := 110) rfl)) rfl, mv_wA_of (mv_t2 (List.mem_of_getElem? (i := 111) rfl)) rfl, mv_wA_of (mv_t1 (List.mem_of_getElem? (i := 1) rfl)) rfl, mv_wA_of (mv_t2 (List.mem_of_getElem? (i := 112) rfl)) rfl, nm_X6_pass⟩
theorem wc_L_39 : mv_wV RL 39 RX6 yX6_pass cX6_pass 4 (some .int) 1 := ⟨mv_wA_of (mv_t2 (List.mem_of_getElem? (i := 109) rfl)) rfl, wy_X6_pass⟩
theorem nm_X7_pass : mv_nm yX7_pass 1 := ⟨by decide +kernel, by decide +kernel, by decide +kernel⟩
theorem wy_X7_pass : Cond.instanceMethod yX7_pass ∈ mv_wA ∧ Cond.selects RX7 yX7_pass yX7_pass ∈ mv_wA ∧ Cond.initialized yX7_pass.cls ∈ mv_wA ∧ Cond.code yX7_pass cX7_pass 2 (some .int) ∈ mv_wA ∧ mv_nm yX7_pass 1 := ⟨mv_wA_of (mv_t3 (List.mem_of_getElem? (i := 214) rfl)) rfl, mv_wA_of (mv_t3 (List.mem_of_getElem? (i := 215) rfl)) rfl, mv_wA_of (mv_t1 (List.mem_of_getElem? (i := 8) rfl)) rfl, mv_wA_of (mv_t3 (List.mem_of_getElem? (i := 216) rfl)) rfl, nm_X7_pass⟩
theorem wc_L_42 : mv_wV RL 42 RX7 yX7_pass cX7_pass 2 (some .int) 1 := ⟨mv_wA_of (mv_t3 (List.mem_of_getElem? (i := 213) rfl)) rfl, wy_X7_pass⟩
theorem nm_X6_append : mv_nm yX6_append 1 := ⟨by decide +kernel, by decide +kernel, by decide +kernel⟩
theorem wy_X6_append : Cond.instanceMethod yX6_append ∈ mv_wA ∧ Cond.selects RX6 yX6_append yX6_append ∈ mv_wA ∧ Cond.initialized yX6_append.cls ∈ mv_wA ∧ Cond.code yX6_append cX6_append 2 (some .int) ∈ mv_wA ∧ mv_nm yX6_append 1 := ⟨mv_wA_of (mv_t2 (List.mem_of_getElem? (i := 152) rfl)) rfl, mv_wA_of (mv_t2 (List.mem_of_getElem? (i := 153) rfl)) rfl, mv_wA_of (mv_t1 (List.mem_of_getElem? (i := 1) rfl)) rfl, mv_wA_of (mv_t2 (List.mem_of_getElem? (i := 154) rfl)) rfl, nm_X6_append⟩
theorem wc_L_43 : mv_wV RL 43 RX6 yX6_append cX6_append 2 (some .int) 1 := ⟨mv_wA_of (mv_t2 (List.mem_of_getElem? (i := 151) rfl)) rfl, wy_X6_append⟩
theorem nm_X7_append : mv_nm yX7_append 1 := ⟨by decide +kernel, by decide +kernel, by decide +kernel⟩
theorem wy_X7_append : Cond.instanceMethod yX7_append ∈ mv_wA ∧ Cond.selects RX7 yX7_append yX7_append ∈ mv_wA ∧ Cond.initialized yX7_append.cls ∈ mv_wA ∧ Cond.code yX7_append cX7_append 2 (some .int) ∈ mv_wA ∧ mv_nm yX7_append 1 := ⟨mv_wA_of (mv_t4 (List.mem_of_getElem? (i := 10) rfl)) rfl, mv_wA_of (mv_t4 (List.mem_of_getElem? (i := 11) rfl)) rfl, mv_wA_of (mv_t1 (List.mem_of_getElem? (i := 8) rfl)) rfl, mv_wA_of (mv_t4 (List.mem_of_getElem? (i := 12) rfl)) rfl, nm_X7_append⟩
theorem wc_L_46 : mv_wV RL 46 RX7 yX7_append cX7_append 2 (some .int) 1 := ⟨mv_wA_of (mv_t4 (List.mem_of_getElem? (i := 9) rfl)) rfl, wy_X7_append⟩
theorem nm_X6_clear : mv_nm yX6_clear 0 := ⟨by decide +kernel, by decide +kernel, by decide +kernel⟩
theorem wy_X6_clear : Cond.instanceMethod yX6_clear ∈ mv_wA ∧ Cond.selects RX6 yX6_clear yX6_clear ∈ mv_wA ∧ Cond.initialized yX6_clear.cls ∈ mv_wA ∧ Cond.code yX6_clear cX6_clear 2 (some .int) ∈ mv_wA ∧ mv_nm yX6_clear 0 := ⟨mv_wA_of (mv_t2 (List.mem_of_getElem? (i := 160) rfl)) rfl, mv_wA_of (mv_t2 (List.mem_of_getElem? (i := 161) rfl)) rfl, mv_wA_of (mv_t1 (List.mem_of_getElem? (i := 1) rfl)) rfl, mv_wA_of (mv_t2 (List.mem_of_getElem? (i := 162) rfl)) rfl, nm_X6_clear⟩
theorem wc_L_47 : mv_wV RL 47 RX6 yX6_clear cX6_clear 2 (some .int) 0 := ⟨mv_wA_of (mv_t2 (List.mem_of_getElem? (i := 159) rfl)) rfl, wy_X6_clear⟩
theorem nm_X7_clear : mv_nm yX7_clear 0 := ⟨by decide +kernel, by decide +kernel, by decide +kernel⟩
theorem wy_X7_clear : Cond.instanceMethod yX7_clear ∈ mv_wA ∧ Cond.selects RX7 yX7_clear yX7_clear ∈ mv_wA ∧ Cond.initialized yX7_clear.cls ∈ mv_wA ∧ Cond.code yX7_clear cX7_clear 2 (some .int) ∈ mv_wA ∧ mv_nm yX7_clear 0 := ⟨mv_wA_of (mv_t4 (List.mem_of_getElem? (i := 14) rfl)) rfl, mv_wA_of (mv_t4 (List.mem_of_getElem? (i := 15) rfl)) rfl, mv_wA_of (mv_t1 (List.mem_of_getElem? (i := 8) rfl)) rfl, mv_wA_of (mv_t4 (List.mem_of_getElem? (i := 16) rfl)) rfl, nm_X7_clear⟩
theorem wc_L_51 : mv_wV RL 51 RX7 yX7_clear cX7_clear 2 (some .int) 0 := ⟨mv_wA_of (mv_t4 (List.mem_of_getElem? (i := 13) rfl)) rfl, wy_X7_clear⟩
theorem nm_X6_fault : mv_nm yX6_fault 1 := ⟨by decide +kernel, by decide +kernel, by decide +kernel⟩
theorem wy_X6_fault : Cond.instanceMethod yX6_fault ∈ mv_wA ∧ Cond.selects RX6 yX6_fault yX6_fault ∈ mv_wA ∧ Cond.initialized yX6_fault.cls ∈ mv_wA ∧ Cond.code yX6_fault cX6_fault 2 (some .int) ∈ mv_wA ∧ mv_nm yX6_fault 1 := ⟨mv_wA_of (mv_t2 (List.mem_of_getElem? (i := 164) rfl)) rfl, mv_wA_of (mv_t2 (List.mem_of_getElem? (i := 165) rfl)) rfl, mv_wA_of (mv_t1 (List.mem_of_getElem? (i := 1) rfl)) rfl, mv_wA_of (mv_t2 (List.mem_of_getElem? (i := 166) rfl)) rfl, nm_X6_fault⟩
theorem wc_L_52 : mv_wV RL 52 RX6 yX6_fault cX6_fault 2 (some .int) 1 := ⟨mv_wA_of (mv_t2 (List.mem_of_getElem? (i := 163) rfl)) rfl, wy_X6_fault⟩
theorem nm_X7_fault : mv_nm yX7_fault 1 := ⟨by decide +kernel, by decide +kernel, by decide +kernel⟩
theorem wy_X7_fault : Cond.instanceMethod yX7_fault ∈ mv_wA ∧ Cond.selects RX7 yX7_fault yX7_fault ∈ mv_wA ∧ Cond.initialized yX7_fault.cls ∈ mv_wA ∧ Cond.code yX7_fault cX7_fault 2 (some .int) ∈ mv_wA ∧ mv_nm yX7_fault 1 := ⟨mv_wA_of (mv_t4 (List.mem_of_getElem? (i := 18) rfl)) rfl, mv_wA_of (mv_t4 (List.mem_of_getElem? (i := 19) rfl)) rfl, mv_wA_of (mv_t1 (List.mem_of_getElem? (i := 8) rfl)) rfl, mv_wA_of (mv_t4 (List.mem_of_getElem? (i := 20) rfl)) rfl, nm_X7_fault⟩
theorem wc_L_55 : mv_wV RL 55 RX7 yX7_fault cX7_fault 2 (some .int) 1 := ⟨mv_wA_of (mv_t4 (List.mem_of_getElem? (i := 17) rfl)) rfl, wy_X7_fault⟩
theorem nm_X6_tours : mv_nm yX6_tours 0 := ⟨by decide +kernel, by decide +kernel, by decide +kernel⟩
theorem wy_X6_tours : Cond.instanceMethod yX6_tours ∈ mv_wA ∧ Cond.selects RX6 yX6_tours yX6_tours ∈ mv_wA ∧ Cond.initialized yX6_tours.cls ∈ mv_wA ∧ Cond.code yX6_tours cX6_tours 1 (some .int) ∈ mv_wA ∧ mv_nm yX6_tours 0 := ⟨mv_wA_of (mv_t2 (List.mem_of_getElem? (i := 190) rfl)) rfl, mv_wA_of (mv_t2 (List.mem_of_getElem? (i := 191) rfl)) rfl, mv_wA_of (mv_t1 (List.mem_of_getElem? (i := 1) rfl)) rfl, mv_wA_of (mv_t2 (List.mem_of_getElem? (i := 192) rfl)) rfl, nm_X6_tours⟩
theorem wc_L_56 : mv_wV RL 56 RX6 yX6_tours cX6_tours 1 (some .int) 0 := ⟨mv_wA_of (mv_t2 (List.mem_of_getElem? (i := 189) rfl)) rfl, wy_X6_tours⟩
theorem nm_X7_tours : mv_nm yX7_tours 0 := ⟨by decide +kernel, by decide +kernel, by decide +kernel⟩
theorem wy_X7_tours : Cond.instanceMethod yX7_tours ∈ mv_wA ∧ Cond.selects RX7 yX7_tours yX7_tours ∈ mv_wA ∧ Cond.initialized yX7_tours.cls ∈ mv_wA ∧ Cond.code yX7_tours cX7_tours 4 (some .int) ∈ mv_wA ∧ mv_nm yX7_tours 0 := ⟨mv_wA_of (mv_t4 (List.mem_of_getElem? (i := 46) rfl)) rfl, mv_wA_of (mv_t4 (List.mem_of_getElem? (i := 47) rfl)) rfl, mv_wA_of (mv_t1 (List.mem_of_getElem? (i := 8) rfl)) rfl, mv_wA_of (mv_t4 (List.mem_of_getElem? (i := 48) rfl)) rfl, nm_X7_tours⟩
theorem wc_L_59 : mv_wV RL 59 RX7 yX7_tours cX7_tours 4 (some .int) 0 := ⟨mv_wA_of (mv_t4 (List.mem_of_getElem? (i := 45) rfl)) rfl, wy_X7_tours⟩
theorem nm_X6_letters : mv_nm yX6_letters 0 := ⟨by decide +kernel, by decide +kernel, by decide +kernel⟩
theorem wy_X6_letters : Cond.instanceMethod yX6_letters ∈ mv_wA ∧ Cond.selects RX6 yX6_letters yX6_letters ∈ mv_wA ∧ Cond.initialized yX6_letters.cls ∈ mv_wA ∧ Cond.code yX6_letters cX6_letters 4 (some .int) ∈ mv_wA ∧ mv_nm yX6_letters 0 := ⟨mv_wA_of (mv_t2 (List.mem_of_getElem? (i := 215) rfl)) rfl, mv_wA_of (mv_t2 (List.mem_of_getElem? (i := 216) rfl)) rfl, mv_wA_of (mv_t1 (List.mem_of_getElem? (i := 1) rfl)) rfl, mv_wA_of (mv_t2 (List.mem_of_getElem? (i := 217) rfl)) rfl, nm_X6_letters⟩
theorem wc_L_60 : mv_wV RL 60 RX6 yX6_letters cX6_letters 4 (some .int) 0 := ⟨mv_wA_of (mv_t2 (List.mem_of_getElem? (i := 214) rfl)) rfl, wy_X6_letters⟩
theorem nm_X7_letters : mv_nm yX7_letters 0 := ⟨by decide +kernel, by decide +kernel, by decide +kernel⟩
theorem wy_X7_letters : Cond.instanceMethod yX7_letters ∈ mv_wA ∧ Cond.selects RX7 yX7_letters yX7_letters ∈ mv_wA ∧ Cond.initialized yX7_letters.cls ∈ mv_wA ∧ Cond.code yX7_letters cX7_letters 3 (some .int) ∈ mv_wA ∧ mv_nm yX7_letters 0 := ⟨mv_wA_of (mv_t4 (List.mem_of_getElem? (i := 50) rfl)) rfl, mv_wA_of (mv_t4 (List.mem_of_getElem? (i := 51) rfl)) rfl, mv_wA_of (mv_t1 (List.mem_of_getElem? (i := 8) rfl)) rfl, mv_wA_of (mv_t4 (List.mem_of_getElem? (i := 52) rfl)) rfl, nm_X7_letters⟩
theorem wc_L_63 : mv_wV RL 63 RX7 yX7_letters cX7_letters 3 (some .int) 0 := ⟨mv_wA_of (mv_t4 (List.mem_of_getElem? (i := 49) rfl)) rfl, wy_X7_letters⟩
theorem nm_X6_where : mv_nm yX6_where 2 := ⟨by decide +kernel, by decide +kernel, by decide +kernel⟩
theorem wy_X6_where : Cond.instanceMethod yX6_where ∈ mv_wA ∧ Cond.selects RX6 yX6_where yX6_where ∈ mv_wA ∧ Cond.initialized yX6_where.cls ∈ mv_wA ∧ Cond.code yX6_where cX6_where 4 (some .int) ∈ mv_wA ∧ mv_nm yX6_where 2 := ⟨mv_wA_of (mv_t2 (List.mem_of_getElem? (i := 219) rfl)) rfl, mv_wA_of (mv_t2 (List.mem_of_getElem? (i := 220) rfl)) rfl, mv_wA_of (mv_t1 (List.mem_of_getElem? (i := 1) rfl)) rfl, mv_wA_of (mv_t2 (List.mem_of_getElem? (i := 221) rfl)) rfl, nm_X6_where⟩
theorem wc_L_64 : mv_wV RL 64 RX6 yX6_where cX6_where 4 (some .int) 2 := ⟨mv_wA_of (mv_t2 (List.mem_of_getElem? (i := 218) rfl)) rfl, wy_X6_where⟩
theorem nm_X7_where : mv_nm yX7_where 2 := ⟨by decide +kernel, by decide +kernel, by decide +kernel⟩
theorem wy_X7_where : Cond.instanceMethod yX7_where ∈ mv_wA ∧ Cond.selects RX7 yX7_where yX7_where ∈ mv_wA ∧ Cond.initialized yX7_where.cls ∈ mv_wA ∧ Cond.code yX7_where cX7_where 3 (some .int) ∈ mv_wA ∧ mv_nm yX7_where 2 := ⟨mv_wA_of (mv_t4 (List.mem_of_getElem? (i := 54) rfl)) rfl, mv_wA_of (mv_t4 (List.mem_of_getElem? (i := 55) rfl)) rfl, mv_wA_of (mv_t1 (List.mem_of_getElem? (i := 8) rfl)) rfl, mv_wA_of (mv_t4 (List.mem_of_getElem? (i := 56) rfl)) rfl, nm_X7_where⟩
theorem wc_L_67 : mv_wV RL 67 RX7 yX7_where cX7_where 3 (some .int) 2 := ⟨mv_wA_of (mv_t4 (List.mem_of_getElem? (i := 53) rfl)) rfl, wy_X7_where⟩
theorem nm_X6_carrier : mv_nm yX6_carrier 2 := ⟨by decide +kernel, by decide +kernel, by decide +kernel⟩
theorem wy_X6_carrier : Cond.instanceMethod yX6_carrier ∈ mv_wA ∧ Cond.selects RX6 yX6_carrier yX6_carrier ∈ mv_wA ∧ Cond.initialized yX6_carrier.cls ∈ mv_wA ∧ Cond.code yX6_carrier cX6_carrier 4 (some .int) ∈ mv_wA ∧ mv_nm yX6_carrier 2 := ⟨mv_wA_of (mv_t2 (List.mem_of_getElem? (i := 228) rfl)) rfl, mv_wA_of (mv_t2 (List.mem_of_getElem? (i := 229) rfl)) rfl, mv_wA_of (mv_t1 (List.mem_of_getElem? (i := 1) rfl)) rfl, mv_wA_of (mv_t2 (List.mem_of_getElem? (i := 230) rfl)) rfl, nm_X6_carrier⟩
theorem wc_L_68 : mv_wV RL 68 RX6 yX6_carrier cX6_carrier 4 (some .int) 2 := ⟨mv_wA_of (mv_t2 (List.mem_of_getElem? (i := 227) rfl)) rfl, wy_X6_carrier⟩
theorem nm_X7_carrier : mv_nm yX7_carrier 2 := ⟨by decide +kernel, by decide +kernel, by decide +kernel⟩
theorem wy_X7_carrier : Cond.instanceMethod yX7_carrier ∈ mv_wA ∧ Cond.selects RX7 yX7_carrier yX7_carrier ∈ mv_wA ∧ Cond.initialized yX7_carrier.cls ∈ mv_wA ∧ Cond.code yX7_carrier cX7_carrier 3 (some .int) ∈ mv_wA ∧ mv_nm yX7_carrier 2 := ⟨mv_wA_of (mv_t4 (List.mem_of_getElem? (i := 58) rfl)) rfl, mv_wA_of (mv_t4 (List.mem_of_getElem? (i := 59) rfl)) rfl, mv_wA_of (mv_t1 (List.mem_of_getElem? (i := 8) rfl)) rfl, mv_wA_of (mv_t4 (List.mem_of_getElem? (i := 60) rfl)) rfl, nm_X7_carrier⟩
theorem wc_L_71 : mv_wV RL 71 RX7 yX7_carrier cX7_carrier 3 (some .int) 2 := ⟨mv_wA_of (mv_t4 (List.mem_of_getElem? (i := 57) rfl)) rfl, wy_X7_carrier⟩
theorem nm_X6_bundle : mv_nm yX6_bundle 2 := ⟨by decide +kernel, by decide +kernel, by decide +kernel⟩
theorem wy_X6_bundle : Cond.instanceMethod yX6_bundle ∈ mv_wA ∧ Cond.selects RX6 yX6_bundle yX6_bundle ∈ mv_wA ∧ Cond.initialized yX6_bundle.cls ∈ mv_wA ∧ Cond.code yX6_bundle cX6_bundle 4 (some .int) ∈ mv_wA ∧ mv_nm yX6_bundle 2 := ⟨mv_wA_of (mv_t2 (List.mem_of_getElem? (i := 234) rfl)) rfl, mv_wA_of (mv_t2 (List.mem_of_getElem? (i := 235) rfl)) rfl, mv_wA_of (mv_t1 (List.mem_of_getElem? (i := 1) rfl)) rfl, mv_wA_of (mv_t2 (List.mem_of_getElem? (i := 236) rfl)) rfl, nm_X6_bundle⟩
theorem wc_L_72 : mv_wV RL 72 RX6 yX6_bundle cX6_bundle 4 (some .int) 2 := ⟨mv_wA_of (mv_t2 (List.mem_of_getElem? (i := 233) rfl)) rfl, wy_X6_bundle⟩
theorem nm_X7_bundle : mv_nm yX7_bundle 2 := ⟨by decide +kernel, by decide +kernel, by decide +kernel⟩
theorem wy_X7_bundle : Cond.instanceMethod yX7_bundle ∈ mv_wA ∧ Cond.selects RX7 yX7_bundle yX7_bundle ∈ mv_wA ∧ Cond.initialized yX7_bundle.cls ∈ mv_wA ∧ Cond.code yX7_bundle cX7_bundle 3 (some .int) ∈ mv_wA ∧ mv_nm yX7_bundle 2 := ⟨mv_wA_of (mv_t4 (List.mem_of_getElem? (i := 62) rfl)) rfl, mv_wA_of (mv_t4 (List.mem_of_getElem? (i := 63) rfl)) rfl, mv_wA_of (mv_t1 (List.mem_of_getElem? (i := 8) rfl)) rfl, mv_wA_of (mv_t4 (List.mem_of_getElem? (i := 64) rfl)) rfl, nm_X7_bundle⟩
theorem wc_L_75 : mv_wV RL 75 RX7 yX7_bundle cX7_bundle 3 (some .int) 2 := ⟨mv_wA_of (mv_t4 (List.mem_of_getElem? (i := 61) rfl)) rfl, wy_X7_bundle⟩
theorem nm_X6_arrival : mv_nm yX6_arrival 2 := ⟨by decide +kernel, by decide +kernel, by decide +kernel⟩
theorem wy_X6_arrival : Cond.instanceMethod yX6_arrival ∈ mv_wA ∧ Cond.selects RX6 yX6_arrival yX6_arrival ∈ mv_wA ∧ Cond.initialized yX6_arrival.cls ∈ mv_wA ∧ Cond.code yX6_arrival cX6_arrival 4 (some .int) ∈ mv_wA ∧ mv_nm yX6_arrival 2 := ⟨mv_wA_of (mv_t3 (List.mem_of_getElem? (i := 11) rfl)) rfl, mv_wA_of (mv_t3 (List.mem_of_getElem? (i := 12) rfl)) rfl, mv_wA_of (mv_t1 (List.mem_of_getElem? (i := 1) rfl)) rfl, mv_wA_of (mv_t3 (List.mem_of_getElem? (i := 13) rfl)) rfl, nm_X6_arrival⟩
theorem wc_L_76 : mv_wV RL 76 RX6 yX6_arrival cX6_arrival 4 (some .int) 2 := ⟨mv_wA_of (mv_t3 (List.mem_of_getElem? (i := 10) rfl)) rfl, wy_X6_arrival⟩
theorem nm_X7_arrival : mv_nm yX7_arrival 2 := ⟨by decide +kernel, by decide +kernel, by decide +kernel⟩
theorem wy_X7_arrival : Cond.instanceMethod yX7_arrival ∈ mv_wA ∧ Cond.selects RX7 yX7_arrival yX7_arrival ∈ mv_wA ∧ Cond.initialized yX7_arrival.cls ∈ mv_wA ∧ Cond.code yX7_arrival cX7_arrival 3 (some .int) ∈ mv_wA ∧ mv_nm yX7_arrival 2 := ⟨mv_wA_of (mv_t4 (List.mem_of_getElem? (i := 81) rfl)) rfl, mv_wA_of (mv_t4 (List.mem_of_getElem? (i := 82) rfl)) rfl, mv_wA_of (mv_t1 (List.mem_of_getElem? (i := 8) rfl)) rfl, mv_wA_of (mv_t4 (List.mem_of_getElem? (i := 83) rfl)) rfl, nm_X7_arrival⟩
theorem wc_L_79 : mv_wV RL 79 RX7 yX7_arrival cX7_arrival 3 (some .int) 2 := ⟨mv_wA_of (mv_t4 (List.mem_of_getElem? (i := 80) rfl)) rfl, wy_X7_arrival⟩
theorem nm_X6_meeting : mv_nm yX6_meeting 3 := ⟨by decide +kernel, by decide +kernel, by decide +kernel⟩
theorem wy_X6_meeting : Cond.instanceMethod yX6_meeting ∈ mv_wA ∧ Cond.selects RX6 yX6_meeting yX6_meeting ∈ mv_wA ∧ Cond.initialized yX6_meeting.cls ∈ mv_wA ∧ Cond.code yX6_meeting cX6_meeting 8 (some .int) ∈ mv_wA ∧ mv_nm yX6_meeting 3 := ⟨mv_wA_of (mv_t3 (List.mem_of_getElem? (i := 20) rfl)) rfl, mv_wA_of (mv_t3 (List.mem_of_getElem? (i := 21) rfl)) rfl, mv_wA_of (mv_t1 (List.mem_of_getElem? (i := 1) rfl)) rfl, mv_wA_of (mv_t3 (List.mem_of_getElem? (i := 22) rfl)) rfl, nm_X6_meeting⟩
theorem wc_L_80 : mv_wV RL 80 RX6 yX6_meeting cX6_meeting 8 (some .int) 3 := ⟨mv_wA_of (mv_t3 (List.mem_of_getElem? (i := 19) rfl)) rfl, wy_X6_meeting⟩
theorem nm_X7_meeting : mv_nm yX7_meeting 3 := ⟨by decide +kernel, by decide +kernel, by decide +kernel⟩
theorem wy_X7_meeting : Cond.instanceMethod yX7_meeting ∈ mv_wA ∧ Cond.selects RX7 yX7_meeting yX7_meeting ∈ mv_wA ∧ Cond.initialized yX7_meeting.cls ∈ mv_wA ∧ Cond.code yX7_meeting cX7_meeting 8 (some .int) ∈ mv_wA ∧ mv_nm yX7_meeting 3 := ⟨mv_wA_of (mv_t4 (List.mem_of_getElem? (i := 85) rfl)) rfl, mv_wA_of (mv_t4 (List.mem_of_getElem? (i := 86) rfl)) rfl, mv_wA_of (mv_t1 (List.mem_of_getElem? (i := 8) rfl)) rfl, mv_wA_of (mv_t4 (List.mem_of_getElem? (i := 87) rfl)) rfl, nm_X7_meeting⟩
theorem wc_L_84 : mv_wV RL 84 RX7 yX7_meeting cX7_meeting 8 (some .int) 3 := ⟨mv_wA_of (mv_t4 (List.mem_of_getElem? (i := 84) rfl)) rfl, wy_X7_meeting⟩
theorem nm_X6_count : mv_nm yX6_count 1 := ⟨by decide +kernel, by decide +kernel, by decide +kernel⟩
theorem wy_X6_count : Cond.instanceMethod yX6_count ∈ mv_wA ∧ Cond.selects RX6 yX6_count yX6_count ∈ mv_wA ∧ Cond.initialized yX6_count.cls ∈ mv_wA ∧ Cond.code yX6_count cX6_count 2 (some .int) ∈ mv_wA ∧ mv_nm yX6_count 1 := ⟨mv_wA_of (mv_t3 (List.mem_of_getElem? (i := 24) rfl)) rfl, mv_wA_of (mv_t3 (List.mem_of_getElem? (i := 25) rfl)) rfl, mv_wA_of (mv_t1 (List.mem_of_getElem? (i := 1) rfl)) rfl, mv_wA_of (mv_t3 (List.mem_of_getElem? (i := 26) rfl)) rfl, nm_X6_count⟩
theorem wc_L_85 : mv_wV RL 85 RX6 yX6_count cX6_count 2 (some .int) 1 := ⟨mv_wA_of (mv_t3 (List.mem_of_getElem? (i := 23) rfl)) rfl, wy_X6_count⟩
theorem nm_X7_count : mv_nm yX7_count 1 := ⟨by decide +kernel, by decide +kernel, by decide +kernel⟩
theorem wy_X7_count : Cond.instanceMethod yX7_count ∈ mv_wA ∧ Cond.selects RX7 yX7_count yX7_count ∈ mv_wA ∧ Cond.initialized yX7_count.cls ∈ mv_wA ∧ Cond.code yX7_count cX7_count 2 (some .int) ∈ mv_wA ∧ mv_nm yX7_count 1 := ⟨mv_wA_of (mv_t4 (List.mem_of_getElem? (i := 89) rfl)) rfl, mv_wA_of (mv_t4 (List.mem_of_getElem? (i := 90) rfl)) rfl, mv_wA_of (mv_t1 (List.mem_of_getElem? (i := 8) rfl)) rfl, mv_wA_of (mv_t4 (List.mem_of_getElem? (i := 91) rfl)) rfl, nm_X7_count⟩
theorem wc_L_88 : mv_wV RL 88 RX7 yX7_count cX7_count 2 (some .int) 1 := ⟨mv_wA_of (mv_t4 (List.mem_of_getElem? (i := 88) rfl)) rfl, wy_X7_count⟩
theorem nm_X6_lateness : mv_nm yX6_lateness 0 := ⟨by decide +kernel, by decide +kernel, by decide +kernel⟩
theorem wy_X6_lateness : Cond.instanceMethod yX6_lateness ∈ mv_wA ∧ Cond.selects RX6 yX6_lateness yX6_lateness ∈ mv_wA ∧ Cond.initialized yX6_lateness.cls ∈ mv_wA ∧ Cond.code yX6_lateness cX6_lateness 5 (some .double) ∈ mv_wA ∧ mv_nm yX6_lateness 0 := ⟨mv_wA_of (mv_t3 (List.mem_of_getElem? (i := 48) rfl)) rfl, mv_wA_of (mv_t3 (List.mem_of_getElem? (i := 49) rfl)) rfl, mv_wA_of (mv_t1 (List.mem_of_getElem? (i := 1) rfl)) rfl, mv_wA_of (mv_t3 (List.mem_of_getElem? (i := 50) rfl)) rfl, nm_X6_lateness⟩
theorem wc_L_89 : mv_wV RL 89 RX6 yX6_lateness cX6_lateness 5 (some .double) 0 := ⟨mv_wA_of (mv_t3 (List.mem_of_getElem? (i := 47) rfl)) rfl, wy_X6_lateness⟩
theorem nm_X7_lateness : mv_nm yX7_lateness 0 := ⟨by decide +kernel, by decide +kernel, by decide +kernel⟩
theorem wy_X7_lateness : Cond.instanceMethod yX7_lateness ∈ mv_wA ∧ Cond.selects RX7 yX7_lateness yX7_lateness ∈ mv_wA ∧ Cond.initialized yX7_lateness.cls ∈ mv_wA ∧ Cond.code yX7_lateness cX7_lateness 4 (some .double) ∈ mv_wA ∧ mv_nm yX7_lateness 0 := ⟨mv_wA_of (mv_t4 (List.mem_of_getElem? (i := 101) rfl)) rfl, mv_wA_of (mv_t4 (List.mem_of_getElem? (i := 102) rfl)) rfl, mv_wA_of (mv_t1 (List.mem_of_getElem? (i := 8) rfl)) rfl, mv_wA_of (mv_t4 (List.mem_of_getElem? (i := 103) rfl)) rfl, nm_X7_lateness⟩
theorem wc_L_93 : mv_wV RL 93 RX7 yX7_lateness cX7_lateness 4 (some .double) 0 := ⟨mv_wA_of (mv_t4 (List.mem_of_getElem? (i := 100) rfl)) rfl, wy_X7_lateness⟩
theorem nm_X6_ifPosted : mv_nm yX6_ifPosted 3 := ⟨by decide +kernel, by decide +kernel, by decide +kernel⟩
theorem wy_X6_ifPosted : Cond.instanceMethod yX6_ifPosted ∈ mv_wA ∧ Cond.selects RX6 yX6_ifPosted yX6_ifPosted ∈ mv_wA ∧ Cond.initialized yX6_ifPosted.cls ∈ mv_wA ∧ Cond.code yX6_ifPosted cX6_ifPosted 4 (some .int) ∈ mv_wA ∧ mv_nm yX6_ifPosted 3 := ⟨mv_wA_of (mv_t3 (List.mem_of_getElem? (i := 52) rfl)) rfl, mv_wA_of (mv_t3 (List.mem_of_getElem? (i := 53) rfl)) rfl, mv_wA_of (mv_t1 (List.mem_of_getElem? (i := 1) rfl)) rfl, mv_wA_of (mv_t3 (List.mem_of_getElem? (i := 54) rfl)) rfl, nm_X6_ifPosted⟩
theorem wc_L_94 : mv_wV RL 94 RX6 yX6_ifPosted cX6_ifPosted 4 (some .int) 3 := ⟨mv_wA_of (mv_t3 (List.mem_of_getElem? (i := 51) rfl)) rfl, wy_X6_ifPosted⟩
theorem nm_X7_ifPosted : mv_nm yX7_ifPosted 3 := ⟨by decide +kernel, by decide +kernel, by decide +kernel⟩
theorem wy_X7_ifPosted : Cond.instanceMethod yX7_ifPosted ∈ mv_wA ∧ Cond.selects RX7 yX7_ifPosted yX7_ifPosted ∈ mv_wA ∧ Cond.initialized yX7_ifPosted.cls ∈ mv_wA ∧ Cond.code yX7_ifPosted cX7_ifPosted 4 (some .int) ∈ mv_wA ∧ mv_nm yX7_ifPosted 3 := ⟨mv_wA_of (mv_t4 (List.mem_of_getElem? (i := 105) rfl)) rfl, mv_wA_of (mv_t4 (List.mem_of_getElem? (i := 106) rfl)) rfl, mv_wA_of (mv_t1 (List.mem_of_getElem? (i := 8) rfl)) rfl, mv_wA_of (mv_t4 (List.mem_of_getElem? (i := 107) rfl)) rfl, nm_X7_ifPosted⟩
theorem wc_L_98 : mv_wV RL 98 RX7 yX7_ifPosted cX7_ifPosted 4 (some .int) 3 := ⟨mv_wA_of (mv_t4 (List.mem_of_getElem? (i := 104) rfl)) rfl, wy_X7_ifPosted⟩
theorem nm_X6_bestDay : mv_nm yX6_bestDay 2 := ⟨by decide +kernel, by decide +kernel, by decide +kernel⟩
theorem wy_X6_bestDay : Cond.instanceMethod yX6_bestDay ∈ mv_wA ∧ Cond.selects RX6 yX6_bestDay yX6_bestDay ∈ mv_wA ∧ Cond.initialized yX6_bestDay.cls ∈ mv_wA ∧ Cond.code yX6_bestDay cX6_bestDay 8 (some .int) ∈ mv_wA ∧ mv_nm yX6_bestDay 2 := ⟨mv_wA_of (mv_t3 (List.mem_of_getElem? (i := 56) rfl)) rfl, mv_wA_of (mv_t3 (List.mem_of_getElem? (i := 57) rfl)) rfl, mv_wA_of (mv_t1 (List.mem_of_getElem? (i := 1) rfl)) rfl, mv_wA_of (mv_t3 (List.mem_of_getElem? (i := 58) rfl)) rfl, nm_X6_bestDay⟩
theorem wc_L_99 : mv_wV RL 99 RX6 yX6_bestDay cX6_bestDay 8 (some .int) 2 := ⟨mv_wA_of (mv_t3 (List.mem_of_getElem? (i := 55) rfl)) rfl, wy_X6_bestDay⟩
theorem nm_X7_bestDay : mv_nm yX7_bestDay 2 := ⟨by decide +kernel, by decide +kernel, by decide +kernel⟩
theorem wy_X7_bestDay : Cond.instanceMethod yX7_bestDay ∈ mv_wA ∧ Cond.selects RX7 yX7_bestDay yX7_bestDay ∈ mv_wA ∧ Cond.initialized yX7_bestDay.cls ∈ mv_wA ∧ Cond.code yX7_bestDay cX7_bestDay 7 (some .int) ∈ mv_wA ∧ mv_nm yX7_bestDay 2 := ⟨mv_wA_of (mv_t4 (List.mem_of_getElem? (i := 109) rfl)) rfl, mv_wA_of (mv_t4 (List.mem_of_getElem? (i := 110) rfl)) rfl, mv_wA_of (mv_t1 (List.mem_of_getElem? (i := 8) rfl)) rfl, mv_wA_of (mv_t4 (List.mem_of_getElem? (i := 111) rfl)) rfl, nm_X7_bestDay⟩
theorem wc_L_102 : mv_wV RL 102 RX7 yX7_bestDay cX7_bestDay 7 (some .int) 2 := ⟨mv_wA_of (mv_t4 (List.mem_of_getElem? (i := 108) rfl)) rfl, wy_X7_bestDay⟩
theorem nm_X6_bestTown : mv_nm yX6_bestTown 1 := ⟨by decide +kernel, by decide +kernel, by decide +kernel⟩
theorem wy_X6_bestTown : Cond.instanceMethod yX6_bestTown ∈ mv_wA ∧ Cond.selects RX6 yX6_bestTown yX6_bestTown ∈ mv_wA ∧ Cond.initialized yX6_bestTown.cls ∈ mv_wA ∧ Cond.code yX6_bestTown cX6_bestTown 8 (some .int) ∈ mv_wA ∧ mv_nm yX6_bestTown 1 := ⟨mv_wA_of (mv_t3 (List.mem_of_getElem? (i := 60) rfl)) rfl, mv_wA_of (mv_t3 (List.mem_of_getElem? (i := 61) rfl)) rfl, mv_wA_of (mv_t1 (List.mem_of_getElem? (i := 1) rfl)) rfl, mv_wA_of (mv_t3 (List.mem_of_getElem? (i := 62) rfl)) rfl, nm_X6_bestTown⟩
theorem wc_L_103 : mv_wV RL 103 RX6 yX6_bestTown cX6_bestTown 8 (some .int) 1 := ⟨mv_wA_of (mv_t3 (List.mem_of_getElem? (i := 59) rfl)) rfl, wy_X6_bestTown⟩
theorem nm_X7_bestTown : mv_nm yX7_bestTown 1 := ⟨by decide +kernel, by decide +kernel, by decide +kernel⟩
theorem wy_X7_bestTown : Cond.instanceMethod yX7_bestTown ∈ mv_wA ∧ Cond.selects RX7 yX7_bestTown yX7_bestTown ∈ mv_wA ∧ Cond.initialized yX7_bestTown.cls ∈ mv_wA ∧ Cond.code yX7_bestTown cX7_bestTown 11 (some .int) ∈ mv_wA ∧ mv_nm yX7_bestTown 1 := ⟨mv_wA_of (mv_t4 (List.mem_of_getElem? (i := 113) rfl)) rfl, mv_wA_of (mv_t4 (List.mem_of_getElem? (i := 114) rfl)) rfl, mv_wA_of (mv_t1 (List.mem_of_getElem? (i := 8) rfl)) rfl, mv_wA_of (mv_t4 (List.mem_of_getElem? (i := 115) rfl)) rfl, nm_X7_bestTown⟩
theorem wc_L_106 : mv_wV RL 106 RX7 yX7_bestTown cX7_bestTown 11 (some .int) 1 := ⟨mv_wA_of (mv_t4 (List.mem_of_getElem? (i := 112) rfl)) rfl, wy_X7_bestTown⟩
theorem nm_X6_ifPassed : mv_nm yX6_ifPassed 2 := ⟨by decide +kernel, by decide +kernel, by decide +kernel⟩
theorem wy_X6_ifPassed : Cond.instanceMethod yX6_ifPassed ∈ mv_wA ∧ Cond.selects RX6 yX6_ifPassed yX6_ifPassed ∈ mv_wA ∧ Cond.initialized yX6_ifPassed.cls ∈ mv_wA ∧ Cond.code yX6_ifPassed cX6_ifPassed 4 (some .int) ∈ mv_wA ∧ mv_nm yX6_ifPassed 2 := ⟨mv_wA_of (mv_t3 (List.mem_of_getElem? (i := 71) rfl)) rfl, mv_wA_of (mv_t3 (List.mem_of_getElem? (i := 72) rfl)) rfl, mv_wA_of (mv_t1 (List.mem_of_getElem? (i := 1) rfl)) rfl, mv_wA_of (mv_t3 (List.mem_of_getElem? (i := 73) rfl)) rfl, nm_X6_ifPassed⟩
theorem wc_L_107 : mv_wV RL 107 RX6 yX6_ifPassed cX6_ifPassed 4 (some .int) 2 := ⟨mv_wA_of (mv_t3 (List.mem_of_getElem? (i := 70) rfl)) rfl, wy_X6_ifPassed⟩
theorem nm_X7_ifPassed : mv_nm yX7_ifPassed 2 := ⟨by decide +kernel, by decide +kernel, by decide +kernel⟩
theorem wy_X7_ifPassed : Cond.instanceMethod yX7_ifPassed ∈ mv_wA ∧ Cond.selects RX7 yX7_ifPassed yX7_ifPassed ∈ mv_wA ∧ Cond.initialized yX7_ifPassed.cls ∈ mv_wA ∧ Cond.code yX7_ifPassed cX7_ifPassed 6 (some .int) ∈ mv_wA ∧ mv_nm yX7_ifPassed 2 := ⟨mv_wA_of (mv_t4 (List.mem_of_getElem? (i := 117) rfl)) rfl, mv_wA_of (mv_t4 (List.mem_of_getElem? (i := 118) rfl)) rfl, mv_wA_of (mv_t1 (List.mem_of_getElem? (i := 8) rfl)) rfl, mv_wA_of (mv_t4 (List.mem_of_getElem? (i := 119) rfl)) rfl, nm_X7_ifPassed⟩
theorem wc_L_110 : mv_wV RL 110 RX7 yX7_ifPassed cX7_ifPassed 6 (some .int) 2 := ⟨mv_wA_of (mv_t4 (List.mem_of_getElem? (i := 116) rfl)) rfl, wy_X7_ifPassed⟩
theorem nm_X6_undo : mv_nm yX6_undo 0 := ⟨by decide +kernel, by decide +kernel, by decide +kernel⟩
theorem wy_X6_undo : Cond.instanceMethod yX6_undo ∈ mv_wA ∧ Cond.selects RX6 yX6_undo yX6_undo ∈ mv_wA ∧ Cond.initialized yX6_undo.cls ∈ mv_wA ∧ Cond.code yX6_undo cX6_undo 1 (some .int) ∈ mv_wA ∧ mv_nm yX6_undo 0 := ⟨mv_wA_of (mv_t3 (List.mem_of_getElem? (i := 75) rfl)) rfl, mv_wA_of (mv_t3 (List.mem_of_getElem? (i := 76) rfl)) rfl, mv_wA_of (mv_t1 (List.mem_of_getElem? (i := 1) rfl)) rfl, mv_wA_of (mv_t3 (List.mem_of_getElem? (i := 77) rfl)) rfl, nm_X6_undo⟩
theorem wc_L_111 : mv_wV RL 111 RX6 yX6_undo cX6_undo 1 (some .int) 0 := ⟨mv_wA_of (mv_t3 (List.mem_of_getElem? (i := 74) rfl)) rfl, wy_X6_undo⟩
theorem nm_X7_undo : mv_nm yX7_undo 0 := ⟨by decide +kernel, by decide +kernel, by decide +kernel⟩
theorem wy_X7_undo : Cond.instanceMethod yX7_undo ∈ mv_wA ∧ Cond.selects RX7 yX7_undo yX7_undo ∈ mv_wA ∧ Cond.initialized yX7_undo.cls ∈ mv_wA ∧ Cond.code yX7_undo cX7_undo 1 (some .int) ∈ mv_wA ∧ mv_nm yX7_undo 0 := ⟨mv_wA_of (mv_t4 (List.mem_of_getElem? (i := 121) rfl)) rfl, mv_wA_of (mv_t4 (List.mem_of_getElem? (i := 122) rfl)) rfl, mv_wA_of (mv_t1 (List.mem_of_getElem? (i := 8) rfl)) rfl, mv_wA_of (mv_t4 (List.mem_of_getElem? (i := 123) rfl)) rfl, nm_X7_undo⟩
theorem wc_L_114 : mv_wV RL 114 RX7 yX7_undo cX7_undo 1 (some .int) 0 := ⟨mv_wA_of (mv_t4 (List.mem_of_getElem? (i := 120) rfl)) rfl, wy_X7_undo⟩
theorem nm_X6_save : mv_nm yX6_save 0 := ⟨by decide +kernel, by decide +kernel, by decide +kernel⟩
theorem wy_X6_save : Cond.instanceMethod yX6_save ∈ mv_wA ∧ Cond.selects RX6 yX6_save yX6_save ∈ mv_wA ∧ Cond.initialized yX6_save.cls ∈ mv_wA ∧ Cond.code yX6_save cX6_save 1 (some .int) ∈ mv_wA ∧ mv_nm yX6_save 0 := ⟨mv_wA_of (mv_t3 (List.mem_of_getElem? (i := 83) rfl)) rfl, mv_wA_of (mv_t3 (List.mem_of_getElem? (i := 84) rfl)) rfl, mv_wA_of (mv_t1 (List.mem_of_getElem? (i := 1) rfl)) rfl, mv_wA_of (mv_t3 (List.mem_of_getElem? (i := 85) rfl)) rfl, nm_X6_save⟩
theorem wc_L_115 : mv_wV RL 115 RX6 yX6_save cX6_save 1 (some .int) 0 := ⟨mv_wA_of (mv_t3 (List.mem_of_getElem? (i := 82) rfl)) rfl, wy_X6_save⟩
theorem nm_X7_save : mv_nm yX7_save 0 := ⟨by decide +kernel, by decide +kernel, by decide +kernel⟩
theorem wy_X7_save : Cond.instanceMethod yX7_save ∈ mv_wA ∧ Cond.selects RX7 yX7_save yX7_save ∈ mv_wA ∧ Cond.initialized yX7_save.cls ∈ mv_wA ∧ Cond.code yX7_save cX7_save 1 (some .int) ∈ mv_wA ∧ mv_nm yX7_save 0 := ⟨mv_wA_of (mv_t4 (List.mem_of_getElem? (i := 125) rfl)) rfl, mv_wA_of (mv_t4 (List.mem_of_getElem? (i := 126) rfl)) rfl, mv_wA_of (mv_t1 (List.mem_of_getElem? (i := 8) rfl)) rfl, mv_wA_of (mv_t4 (List.mem_of_getElem? (i := 127) rfl)) rfl, nm_X7_save⟩
theorem wc_L_118 : mv_wV RL 118 RX7 yX7_save cX7_save 1 (some .int) 0 := ⟨mv_wA_of (mv_t4 (List.mem_of_getElem? (i := 124) rfl)) rfl, wy_X7_save⟩
theorem nm_X6_restore : mv_nm yX6_restore 0 := ⟨by decide +kernel, by decide +kernel, by decide +kernel⟩
theorem wy_X6_restore : Cond.instanceMethod yX6_restore ∈ mv_wA ∧ Cond.selects RX6 yX6_restore yX6_restore ∈ mv_wA ∧ Cond.initialized yX6_restore.cls ∈ mv_wA ∧ Cond.code yX6_restore cX6_restore 1 (some .int) ∈ mv_wA ∧ mv_nm yX6_restore 0 := ⟨mv_wA_of (mv_t3 (List.mem_of_getElem? (i := 87) rfl)) rfl, mv_wA_of (mv_t3 (List.mem_of_getElem? (i := 88) rfl)) rfl, mv_wA_of (mv_t1 (List.mem_of_getElem? (i := 1) rfl)) rfl, mv_wA_of (mv_t3 (List.mem_of_getElem? (i := 89) rfl)) rfl, nm_X6_restore⟩
theorem wc_L_119 : mv_wV RL 119 RX6 yX6_restore cX6_restore 1 (some .int) 0 := ⟨mv_wA_of (mv_t3 (List.mem_of_getElem? (i := 86) rfl)) rfl, wy_X6_restore⟩
theorem nm_X7_restore : mv_nm yX7_restore 0 := ⟨by decide +kernel, by decide +kernel, by decide +kernel⟩
theorem wy_X7_restore : Cond.instanceMethod yX7_restore ∈ mv_wA ∧ Cond.selects RX7 yX7_restore yX7_restore ∈ mv_wA ∧ Cond.initialized yX7_restore.cls ∈ mv_wA ∧ Cond.code yX7_restore cX7_restore 1 (some .int) ∈ mv_wA ∧ mv_nm yX7_restore 0 := ⟨mv_wA_of (mv_t4 (List.mem_of_getElem? (i := 129) rfl)) rfl, mv_wA_of (mv_t4 (List.mem_of_getElem? (i := 130) rfl)) rfl, mv_wA_of (mv_t1 (List.mem_of_getElem? (i := 8) rfl)) rfl, mv_wA_of (mv_t4 (List.mem_of_getElem? (i := 131) rfl)) rfl, nm_X7_restore⟩
theorem wc_L_122 : mv_wV RL 122 RX7 yX7_restore cX7_restore 1 (some .int) 0 := ⟨mv_wA_of (mv_t4 (List.mem_of_getElem? (i := 128) rfl)) rfl, wy_X7_restore⟩
section MVL
variable {p : Program} {l : Launch} {e : Env} {s : State} {m : MethodId} {b : Addr} {below : List Frame} {meth : Method} {c : Code} {N0 : Nat} {D : va_G} {dA : Nat → ClassId} {Ls : Nat} {xs : Nat → Int32} {pc q : Nat} {L : List (Nat × Value)} {st : List Value} {h : mv_Hp}
/-- the law's walk, at pc, over the small heap h -/
def mv_Lw (p : Program) (l : Launch) (e : Env) (s : State) (m : MethodId) (b : Addr) (below : List Frame) (meth : Method) (c : Code) (N0 : Nat) (D : va_G) (dA : Nat → ClassId) (pc : Nat) (L : List (Nat × Value)) (st : List Value) (h : mv_Hp) : Prop :=
  ∀ (H : Heap) (locs : List Loc) (ls : Array Slot), va_P D vwCl (mv_ws N0 dA h) H → va_S (fun q : Nat => N0 ≤ q) s.heap H locs → lv_has ls 8 L → W p l e room_1 s m #[Value.ref b] below meth c H locs (h.1.length - 0) (h.2.1 - 0) (lw_Z below #[Value.ref b] s) (F0 m pc ls st)
abbrev mv_Lx (p : Program) (s : State) (m : MethodId) (b : Addr) (meth : Method) (c : Code) (N0 : Nat) (D : va_G) (dA : Nat → ClassId) : Prop := mv_Cx N0 D dA RL code 8 ret false p s m #[Value.ref b] meth c 0
theorem ml_aload_n {k : Fin 4} {i a : Nat} (j : Nat) (hC : mv_Lx p s m b meth c N0 D dA) (hdg : decode code pc = .ok (.aload_n k, 1)) (hi : (k : Nat) = i) (hj : L[j]? = some (i, .ref a)) (hp : pc + 1 = q) (kk : mv_Lw p l e s m b below meth c N0 D dA q L (.ref a :: st) h) : mv_Lw p l e s m b below meth c N0 D dA pc L st h := by
  subst hp
  exact fun H locs ls hP hS hl => lv_aload_n hC.1 hC.2.1 hdg hi (lv_at hl j hj) (kk H locs ls hP hS hl)
theorem ml_iload_n {k : Fin 4} {i : Nat} {x : Int32} (j : Nat) (hC : mv_Lx p s m b meth c N0 D dA) (hdg : decode code pc = .ok (.iload_n k, 1)) (hi : (k : Nat) = i) (hj : L[j]? = some (i, .int x)) (hp : pc + 1 = q) (kk : mv_Lw p l e s m b below meth c N0 D dA q L (.int x :: st) h) : mv_Lw p l e s m b below meth c N0 D dA pc L st h := by
  subst hp
  exact fun H locs ls hP hS hl => lv_iload_n hC.1 hC.2.1 hdg hi (lv_at hl j hj) (kk H locs ls hP hS hl)
theorem ml_iconst {n : Int} {v : Int32} (hC : mv_Lx p s m b meth c N0 D dA) (hdg : decode code pc = .ok (.iconst n, 1)) (hv : Int32.ofInt n = v) (hp : pc + 1 = q) (kk : mv_Lw p l e s m b below meth c N0 D dA q L (.int v :: st) h) : mv_Lw p l e s m b below meth c N0 D dA pc L st h := by
  subst hp
  exact fun H locs ls hP hS hl => lv_iconst hC.1 hC.2.1 hdg hv (kk H locs ls hP hS hl)
theorem ml_bipush {n : Int} {v : Int32} (hC : mv_Lx p s m b meth c N0 D dA) (hdg : decode code pc = .ok (.bipush n, 2)) (hv : (Int8.ofInt n).toInt32 = v) (hp : pc + 2 = q) (kk : mv_Lw p l e s m b below meth c N0 D dA q L (.int v :: st) h) : mv_Lw p l e s m b below meth c N0 D dA pc L st h := by
  subst hp
  exact fun H locs ls hP hS hl => lv_bipush hC.1 hC.2.1 hdg hv (kk H locs ls hP hS hl)
theorem ml_iadd {x y : Int32} (hC : mv_Lx p s m b meth c N0 D dA) (hdg : decode code pc = .ok (.iadd, 1)) (hp : pc + 1 = q) (kk : mv_Lw p l e s m b below meth c N0 D dA q L (.int (x + y) :: st) h) : mv_Lw p l e s m b below meth c N0 D dA pc L (.int y :: .int x :: st) h := by
  subst hp
  exact fun H locs ls hP hS hl => lv_iadd hC.1 hC.2.1 hdg (kk H locs ls hP hS hl)
theorem ml_isub {x y : Int32} (hC : mv_Lx p s m b meth c N0 D dA) (hdg : decode code pc = .ok (.isub, 1)) (hp : pc + 1 = q) (kk : mv_Lw p l e s m b below meth c N0 D dA q L (.int (x - y) :: st) h) : mv_Lw p l e s m b below meth c N0 D dA pc L (.int y :: .int x :: st) h := by
  subst hp
  exact fun H locs ls hP hS hl => lv_isub hC.1 hC.2.1 hdg (kk H locs ls hP hS hl)
theorem ml_iand {x y : Int32} (hC : mv_Lx p s m b meth c N0 D dA) (hdg : decode code pc = .ok (.iand, 1)) (hp : pc + 1 = q) (kk : mv_Lw p l e s m b below meth c N0 D dA q L (.int (x &&& y) :: st) h) : mv_Lw p l e s m b below meth c N0 D dA pc L (.int y :: .int x :: st) h := by
  subst hp
  exact fun H locs ls hP hS hl => lv_iand hC.1 hC.2.1 hdg (kk H locs ls hP hS hl)
theorem ml_dup {va : Value} (hC : mv_Lx p s m b meth c N0 D dA) (hdg : decode code pc = .ok (.dup, 1)) (hva : va.category = 1) (hp : pc + 1 = q) (kk : mv_Lw p l e s m b below meth c N0 D dA q L (va :: va :: st) h) : mv_Lw p l e s m b below meth c N0 D dA pc L (va :: st) h := by
  subst hp
  exact fun H locs ls hP hS hl => lv_dup hC.1 hC.2.1 hdg hva (kk H locs ls hP hS hl)
theorem ml_goto {off : Int} (hC : mv_Lx p s m b meth c N0 D dA) (hdg : decode code pc = .ok (.goto off, 3)) (ht : (pc : Int) + off = (q : Int)) (kk : mv_Lw p l e s m b below meth c N0 D dA q L st h) : mv_Lw p l e s m b below meth c N0 D dA pc L st h :=
  fun H locs ls hP hS hl => lv_goto hC.1 hC.2.1 hdg ht (kk H locs ls hP hS hl)
theorem ml_eq {x : Int32} {off : Int} (hC : mv_Lx p s m b meth c N0 D dA) (hdg : decode code pc = .ok (.if_icmp .eq off, 3)) (ht : (pc : Int) + off = (q : Int)) (kk : mv_Lw p l e s m b below meth c N0 D dA q L st h) : mv_Lw p l e s m b below meth c N0 D dA pc L (.int x :: .int x :: st) h :=
  fun H locs ls hP hS hl => lv_icmp_eq hC.1 hC.2.1 hdg ht (fun _ => kk H locs ls hP hS hl) (fun z => absurd rfl z)
theorem ml_gt {x y : Int32} {off : Int} {tgt : Nat} (hC : mv_Lx p s m b meth c N0 D dA) (hdg : decode code pc = .ok (.if_icmp .gt off, 3)) (ht : (pc : Int) + off = (tgt : Int)) (hp : pc + 3 = q) (k1 : y < x → mv_Lw p l e s m b below meth c N0 D dA tgt L st h) (k2 : ¬ y < x → mv_Lw p l e s m b below meth c N0 D dA q L st h) : mv_Lw p l e s m b below meth c N0 D dA pc L (.int y :: .int x :: st) h := by
  subst hp
  exact fun H locs ls hP hS hl => lv_icmp_gt hC.1 hC.2.1 hdg ht (fun z => k1 z H locs ls hP hS hl) (fun z => k2 z H locs ls hP hS hl)
theorem ml_ifeq {x : Int32} {off : Int} {tgt : Nat} (hC : mv_Lx p s m b meth c N0 D dA) (hdg : decode code pc = .ok (.ifCond .eq off, 3)) (ht : (pc : Int) + off = (tgt : Int)) (hp : pc + 3 = q) (k1 : x = 0 → mv_Lw p l e s m b below meth c N0 D dA tgt L st h) (k2 : ¬ x = 0 → mv_Lw p l e s m b below meth c N0 D dA q L st h) : mv_Lw p l e s m b below meth c N0 D dA pc L (.int x :: st) h := by
  subst hp
  exact fun H locs ls hP hS hl => lv_if_eq hC.1 hC.2.1 hdg ht (fun z => k1 z H locs ls hP hS hl) (fun z => k2 z H locs ls hP hS hl)
theorem ml_tabIn {x : Int32} {dflt b1 b2 : Int} {offs : Array Int} {len : Nat} {off : Int} (hC : mv_Lx p s m b meth c N0 D dA) (hdg : decode code pc = .ok (.tableswitch dflt b1 b2 offs, len)) (h1 : ¬ x.toInt < b1) (h2 : ¬ b2 < x.toInt) (ho : offs[(x.toInt - b1).toNat]? = some off) (ht : (pc : Int) + off = (q : Int)) (kk : mv_Lw p l e s m b below meth c N0 D dA q L st h) : mv_Lw p l e s m b below meth c N0 D dA pc L (.int x :: st) h :=
  fun H locs ls hP hS hl => lv_tableIn hC.1 hC.2.1 hdg h1 h2 ho ht (kk H locs ls hP hS hl)
theorem ml_tabOut {x : Int32} {dflt b1 b2 : Int} {offs : Array Int} {len : Nat} (hC : mv_Lx p s m b meth c N0 D dA) (hdg : decode code pc = .ok (.tableswitch dflt b1 b2 offs, len)) (h1 : x.toInt < b1 ∨ b2 < x.toInt) (ht : (pc : Int) + dflt = (q : Int)) (kk : mv_Lw p l e s m b below meth c N0 D dA q L st h) : mv_Lw p l e s m b below meth c N0 D dA pc L (.int x :: st) h :=
  fun H locs ls hP hS hl => lv_tableOut hC.1 hC.2.1 hdg h1 ht (kk H locs ls hP hS hl)
theorem ml_astore_n {k : Fin 4} {i a : Nat} {L' : List (Nat × Value)} (hC : mv_Lx p s m b meth c N0 D dA) (hdg : decode code pc = .ok (.astore_n k, 1)) (hi : (k : Nat) = i) (hn : i < 8) (hL : (i, Value.ref a) :: L.filter (fun q => !(q.1 == i) && !(q.1 + 1 == i && q.2.category == 2)) = L') (hp : pc + 1 = q) (kk : mv_Lw p l e s m b below meth c N0 D dA q L' st h) : mv_Lw p l e s m b below meth c N0 D dA pc L (.ref a :: st) h := by
  subst hp
  exact fun H locs ls hP hS hl => lv_astore_n hC.1 hC.2.1 hdg hi hl hn hL (fun ls hl => kk H locs ls hP hS hl)
theorem ml_istore_n {k : Fin 4} {i : Nat} {x : Int32} {L' : List (Nat × Value)} (hC : mv_Lx p s m b meth c N0 D dA) (hdg : decode code pc = .ok (.istore_n k, 1)) (hi : (k : Nat) = i) (hn : i < 8) (hL : (i, Value.int x) :: L.filter (fun q => !(q.1 == i) && !(q.1 + 1 == i && q.2.category == 2)) = L') (hp : pc + 1 = q) (kk : mv_Lw p l e s m b below meth c N0 D dA q L' st h) : mv_Lw p l e s m b below meth c N0 D dA pc L (.int x :: st) h := by
  subst hp
  exact fun H locs ls hP hS hl => lv_istore_n hC.1 hC.2.1 hdg hi hl hn hL (fun ls hl => kk H locs ls hP hS hl)
theorem ml_dstore {i : Nat} {x : UInt64} {L' : List (Nat × Value)} (hC : mv_Lx p s m b meth c N0 D dA) (hdg : decode code pc = .ok (.dstore i, 2)) (hn : i + 1 < 8) (hL : (i, Value.double x) :: L.filter (fun q => !(q.1 == i) && (!(q.1 == i + 1) && !(q.1 + 1 == i && q.2.category == 2))) = L') (hp : pc + 2 = q) (kk : mv_Lw p l e s m b below meth c N0 D dA q L' st h) : mv_Lw p l e s m b below meth c N0 D dA pc L (.double x :: st) h := by
  subst hp
  exact fun H locs ls hP hS hl => lv_dstore hC.1 hC.2.1 hdg hl hn hL (fun ls hl => kk H locs ls hP hS hl)
theorem ml_dload {i : Nat} {x : UInt64} (j : Nat) (hC : mv_Lx p s m b meth c N0 D dA) (hdg : decode code pc = .ok (.dload i, 2)) (hj : L[j]? = some (i, .double x)) (hp : pc + 2 = q) (kk : mv_Lw p l e s m b below meth c N0 D dA q L (.double x :: st) h) : mv_Lw p l e s m b below meth c N0 D dA pc L st h := by
  subst hp
  exact fun H locs ls hP hS hl => lv_dload hC.1 hC.2.1 hdg (lv_at hl j hj) (kk H locs ls hP hS hl)
theorem ml_iinc {i : Nat} {n : Int} {x y : Int32} {L' : List (Nat × Value)} (j : Nat) (hC : mv_Lx p s m b meth c N0 D dA) (hdg : decode code pc = .ok (.iinc i n, 3)) (hj : L[j]? = some (i, .int x)) (hv : x + Int32.ofInt n = y) (hn : i < 8) (hL : (i, Value.int y) :: L.filter (fun q => !(q.1 == i) && !(q.1 + 1 == i && q.2.category == 2)) = L') (hp : pc + 3 = q) (kk : mv_Lw p l e s m b below meth c N0 D dA q L' st h) : mv_Lw p l e s m b below meth c N0 D dA pc L st h := by
  subst hp
  exact fun H locs ls hP hS hl => lv_iinc hC.1 hC.2.1 hdg hl hj hv hn hL (fun ls hl => kk H locs ls hP hS hl)
theorem ml_sub {L' : List (Nat × Value)} (ks : List Nat) (hL : lv_pick L ks = L') (kk : mv_Lw p l e s m b below meth c N0 D dA pc L' st h) : mv_Lw p l e s m b below meth c N0 D dA pc L st h := fun H locs ls hP hS hl => kk H locs ls hP hS (lv_sub hl ks hL)
/-- the script -/
def mv_Lsc (s : State) (b N0 Ls : Nat) (xs : Nat → Int32) : Prop := va_X b Ls xs s s.heap ∧ b < s.heap.size ∧ b < N0 ∧ Ls ≤ 2048
theorem ml_slen (hC : mv_Lx p s m b meth c N0 D dA) (hX : mv_Lsc s b N0 Ls xs) (hdg : decode code pc = .ok (.arraylength, 1)) (hp : pc + 1 = q) (kk : mv_Lw p l e s m b below meth c N0 D dA q L (.int (nI Ls) :: st) h) : mv_Lw p l e s m b below meth c N0 D dA pc L (.ref b :: st) h := by
  subst hp
  exact fun H locs ls hP hS hl => va_slen hC.1 hC.2.1 hX.1 hX.2.1 (by have := hX.2.2.1; omega) hS hdg (kk H locs ls hP hS hl)
theorem ml_sld {i : Nat} (hC : mv_Lx p s m b meth c N0 D dA) (hX : mv_Lsc s b N0 Ls xs) (hi : i < Ls) (hdg : decode code pc = .ok (.iaload, 1)) (hp : pc + 1 = q) (kk : mv_Lw p l e s m b below meth c N0 D dA q L (.int (xs i) :: st) h) : mv_Lw p l e s m b below meth c N0 D dA pc L (.int (nI i) :: .ref b :: st) h := by
  subst hp
  intro H locs ls hP hS hl
  have h5 := hX.2.2.2
  have h6 := va_sld (i := nI i) hC.1 hC.2.1 hX.1 hX.2.1 (by have := hX.2.2.1; omega) hS (vp_in_nI hi (by omega)) hdg (rest := st) (ls := ls) (below := below) (l := l) (e := e) (R := room_1) (Q := lw_Z below #[Value.ref b] s) (meth := meth) (cells := h.1.length - 0) (slots := h.2.1 - 0) (by rw [nI_clamp (by omega)]; exact kk H locs ls hP hS hl)
  exact h6
/-- script[i + k] -/
theorem ml_rd {i : Nat} (k : Nat) {n : Int} (hC : mv_Lx p s m b meth c N0 D dA) (hX : mv_Lsc s b N0 Ls xs) (hi : i + k < Ls) (h0 : L[0]? = some (0, .ref b)) (h3 : L[3]? = some (3, .int (nI i))) (d1 : decode code pc = .ok (.aload_n 0, 1)) (d2 : decode code (pc + 1) = .ok (.iload_n 3, 1)) (d3 : decode code (pc + 1 + 1) = .ok (.iconst n, 1)) (hn : Int32.ofInt n = nI k) (d4 : decode code (pc + 1 + 1 + 1) = .ok (.iadd, 1)) (d5 : decode code (pc + 1 + 1 + 1 + 1) = .ok (.iaload, 1)) (hp : pc + 5 = q) (kk : mv_Lw p l e s m b below meth c N0 D dA q L (.int (xs (i + k)) :: st) h) : mv_Lw p l e s m b below meth c N0 D dA pc L st h := by
  subst hp
  refine ml_aload_n 0 hC d1 rfl h0 rfl ?_
  refine ml_iload_n 3 hC d2 rfl h3 rfl ?_
  refine ml_iconst hC d3 hn rfl ?_
  refine ml_iadd hC d4 rfl ?_
  rw [nI_add]
  exact ml_sld hC hX hi d5 rfl kk
theorem ml_callV {β : Type} {rv' : β → Option Value} {bb : β} {h1 : mv_Hp} {stk : List Value} {y : MethodName} {cb : ByteArray} {kL fr' lo' ci n idx i : Nat} {rt : Option FieldType} {C : String} {T : u_T} {gf : mv_M β} (As : List Value) (hC : mv_Lx p s m b meth c N0 D dA)
    (hM : mv_SimM l N0 D dA y cb kL rt fr' lo' rv' (.ref (N0 + i) :: As) gf) (hc : vwCl[ci]? = some (C, T, n)) (hci : ci < 8) (hw : mv_wV RL idx C y cb kL rt As.length) (hR : fr' + 1 ≤ 11 ∧ 8 + (kL + 11) + lo' ≤ 440) (hRc : h1.1.length ≤ 1000 ∧ h1.2.1 ≤ 10000) (hst : stk = As.reverse ++ .ref (N0 + i) :: st) (hcat : (st.map fun v => v.category).sum ≤ 8) (hdg : decode code pc = .ok (.invokevirtual idx, 3))
    (hi : h.1[i]? = some (ci, n)) (hg : gf h = some (bb, h1)) (hp : pc + 3 = q) (kk : mv_Lw p l e s m b below meth c N0 D dA q L ((rv' bb).toList ++ st) h1) : mv_Lw p l e s m b below meth c N0 D dA pc L stk h := by
  subst hp
  exact fun H locs ls hP hS hl => mv_wcallV As hC hM hc hci hw hR ⟨by show _ ≤ 600000; omega, by show _ ≤ 7302250; omega⟩ hst hcat hdg (Nat.zero_le _) (Nat.zero_le _) hP hS hl.1 hi hg (fun H1 locs1 hP1 hS1 => kk H1 locs1 ls hP1 hS1 hl)
theorem ml_callI {bb : Unit} {h1 : mv_Hp} {stk : List Value} {y : MethodName} {cb : ByteArray} {kL fr' lo' idx i : Nat} {gf : mv_M Unit} (As : List Value) (hC : mv_Lx p s m b meth c N0 D dA)
    (hM : mv_SimM l N0 D dA y cb kL none fr' lo' mv_rV (.ref (N0 + i) :: As) gf) (hw : mv_wI RL idx y cb kL As.length) (hR : fr' + 1 ≤ 11 ∧ 8 + (kL + 11) + lo' ≤ 440) (hRc : h1.1.length ≤ 1000 ∧ h1.2.1 ≤ 10000) (hst : stk = As.reverse ++ .ref (N0 + i) :: st) (hcat : (st.map fun v => v.category).sum ≤ 8) (hdg : decode code pc = .ok (.invokespecial idx, 3))
    (hg : gf h = some (bb, h1)) (hp : pc + 3 = q) (kk : mv_Lw p l e s m b below meth c N0 D dA q L st h1) : mv_Lw p l e s m b below meth c N0 D dA pc L stk h := by
  subst hp
  exact fun H locs ls hP hS hl => mv_wcallI As hC hM hw hR ⟨by show _ ≤ 600000; omega, by show _ ≤ 7302250; omega⟩ hst hcat hdg (Nat.zero_le _) (Nat.zero_le _) hP hS hl.1 hg (fun H1 locs1 hP1 hS1 => kk H1 locs1 ls hP1 hS1 hl)
theorem ml_new {ci n idx : Nat} {C : String} {T : u_T} {ty : Nat → FieldType} (hC : mv_Lx p s m b meth c N0 D dA) (hc : vwCl[ci]? = some (C, T, n)) (hci : ci < 8) (hin : ∀ w ∈ u_ws C T n, w ∈ mv_wA) (hty : ∀ k, k < n → parseFieldDescriptor (T k).2.2.1 = some (ty k)) (hdf : ∀ k, k < n → defaultValue (ty k) = if mv_rs ci k = true then .null else .int 0) (hw : Cond.classLink RL idx C ∈ mv_wA ∧ Cond.instantiable C n ∈ mv_wA ∧ Cond.initialized C ∈ mv_wA) (hRc : h.1.length + 1 ≤ 1000 ∧ h.2.1 + n ≤ 10000) (hdg : decode code pc = .ok (.new idx, 3)) (hp : pc + 3 = q)
    (kk : mv_Lw p l e s m b below meth c N0 D dA q L (.ref (N0 + h.1.length) :: st) (h.1 ++ [(ci, n)], h.2.1 + n, mv_u1 h.2.2.1 h.1.length 0, mv_u1 h.2.2.2 h.1.length none)) : mv_Lw p l e s m b below meth c N0 D dA pc L st h := by
  subst hp
  intro H locs ls hP hS hl
  have hz := hC.2.2.2.2.2.2.2.2.2.2
  refine va_new (D := D) hC.1 hC.2.1 hC.2.2.2.2.1 hin ty hty hC.2.2.2.1 (hC.2.2.2.2.1 _ hw.1) (hC.2.2.2.2.1 _ hw.2.1) (hC.2.2.2.2.1 _ hw.2.2) hC.2.2.2.2.2.2.2.2.1 hP (mv_ws_D N0 dA h) hS (fun q hq => by rw [hz] at hq; exact Nat.le_trans (Nat.le_add_right _ _) hq) hc (fs := mv_fs N0 (h.1 ++ [(ci, n)], h.2.1 + n, mv_u1 h.2.2.1 h.1.length 0, mv_u1 h.2.2.2 h.1.length none) h.1.length ci n) (fun k hk => ?_) (by show h.1.length - 0 + 1 ≤ 600000; omega) (by show h.2.1 - 0 + n ≤ 7302250; omega) hdg (fun a H1 hP1 hD1 hS1 => ?_)
  · rw [hdf k hk]
    simp only [vp_V, List.getD, mv_fs_get hk, Option.getD_some]
    by_cases hr : mv_rs ci k = true
    · simp [hr, mv_u1, mv_vr, va_rf]
    · simp [hr, mv_u1]
  · refine mv_bound (fun hb => ?_)
    have hlt := (hP1 h.1.length _ (by rw [List.getElem?_append_right (by rw [mv_ws_len]; exact Nat.le_refl _), mv_ws_len]; simp; rfl)).lt
    have ha : a = N0 + h.1.length := mv_fresh hD1 (B := N0 + h.1.length + 1) (by have h5 : a < H1.size := hlt; omega) rfl
    subst ha
    rw [mv_ws_new (mv_cE_o hci)] at hP1
    have e3 : h.1.length - 0 + 1 = (h.1 ++ [(ci, n)]).length - 0 := by simp
    have e4 : h.2.1 - 0 + n = (h.2.1 + n) - 0 := by omega
    rw [e3, e4]
    exact kk H1 locs ls hP1 hS1 hl
theorem ml_ret (hC : mv_Lx p s m b meth c N0 D dA) (hN : N0 = s.heap.size) (hRc : h.1.length ≤ 1000 ∧ h.2.1 ≤ 10000) (hdg : decode code pc = .ok (.ireturn, 1)) : mv_Lw p l e s m b below meth c N0 D dA pc L [.int 1] h := by
  intro H locs ls hP hS hl
  refine va_forget (by rw [← hN]; exact hS.2.2) (W.widen (k := 600000) (n := 7302250) (by omega) (by omega) ?_)
  exact lw_ret (d0 := s.drawn) (Drawn.sameBut.refl s.drawn lw_cs) hC.1 hC.2.1 hC.2.2.2.2.2.1 hC.2.2.2.2.2.2.1 hdg

theorem ml_deq {x : UInt64} {b1 : CmpOp} (hC : mv_Lx p s m b meth c N0 D dA) (hdg : decode code pc = .ok (.dcmp b1, 1)) (hx : x &&& 0x7fffffffffffffff ≤ 0x7ff0000000000000) (hp : pc + 1 = q) (kk : mv_Lw p l e s m b below meth c N0 D dA q L (.int 0 :: st) h) : mv_Lw p l e s m b below meth c N0 D dA pc L (.double x :: .double x :: st) h := by
  subst hp
  exact fun H locs ls hP hS hl => lv_dcmp hC.1 hC.2.1 hdg (by rw [fp_cmp hx]; exact kk H locs ls hP hS hl)

set_option maxHeartbeats 4000000 in
set_option maxRecDepth 100000 in
theorem ml_case_0 {i : Nat} {r : Int32} {h1 h2 : mv_Hp} (hC : mv_Lx p s m b meth c N0 D dA) (hX : mv_Lsc s b N0 Ls xs) (hi : i + 4 ≤ Ls) (hk1 : h.1[0]? = some (6, 7)) (hk2 : h1.1[147]? = some (7, 12)) (hk3 : h1.1.length ≤ 1000 ∧ h1.2.1 ≤ 10000) (hk4 : h2.1.length ≤ 1000 ∧ h2.2.1 ≤ 10000) (e1 : F_X6_stall 0 (xs (i + 1)) (xs (i + 2)) h = some (r, h1)) (e2 : F_X7_stall 147 (xs (i + 1)) (xs (i + 2)) h1 = some (r, h2)) (kk : mv_Lw p l e s m b below meth c N0 D dA 864 [(0, .ref b), (1, .ref (N0 + 0)), (2, .ref (N0 + 147)), (3, .int (nI i))] [] h2) : mv_Lw p l e s m b below meth c N0 D dA 152 [(0, .ref b), (1, .ref (N0 + 0)), (2, .ref (N0 + 147)), (3, .int (nI i))] [] h := by
  refine ml_aload_n 1 hC dL_law_152 rfl rfl rfl ?_
  refine ml_rd 1 hC hX (by omega) rfl rfl dL_law_153 dL_law_154 dL_law_155 rfl dL_law_156 dL_law_157 rfl ?_
  refine ml_rd 2 hC hX (by omega) rfl rfl dL_law_158 dL_law_159 dL_law_160 rfl dL_law_161 dL_law_162 rfl ?_
  refine ml_callV (st := []) (i := 0) [.int (xs (i + 1)), .int (xs (i + 2))] hC (c_X6_stall l N0 D dA 0 (xs (i + 1)) (xs (i + 2))) (T := TX6) rfl (by decide) wc_L_13 ⟨by decide, by decide⟩ hk3 rfl (mv_cs (Nat.le_of_ble_eq_true rfl) (fun _ h => absurd h List.not_mem_nil)) dL_law_163 hk1 e1 rfl ?_
  refine ml_aload_n 2 hC dL_law_166 rfl rfl rfl ?_
  refine ml_rd 1 hC hX (by omega) rfl rfl dL_law_167 dL_law_168 dL_law_169 rfl dL_law_170 dL_law_171 rfl ?_
  refine ml_rd 2 hC hX (by omega) rfl rfl dL_law_172 dL_law_173 dL_law_174 rfl dL_law_175 dL_law_176 rfl ?_
  refine ml_callV (st := [.int r]) (i := 147) [.int (xs (i + 1)), .int (xs (i + 2))] hC (c_X7_stall l N0 D dA 147 (xs (i + 1)) (xs (i + 2))) (T := TX7) rfl (by decide) wc_L_17 ⟨by decide, by decide⟩ hk4 rfl (mv_cs (Nat.le_of_ble_eq_true rfl) (List.forall_mem_cons.mpr ⟨rfl, fun _ h => absurd h List.not_mem_nil⟩)) dL_law_177 hk2 e2 rfl ?_
  exact ml_eq (x := r) hC dL_law_180 rfl kk

set_option maxHeartbeats 4000000 in
set_option maxRecDepth 100000 in
theorem ml_case_1 {i : Nat} {r : Int32} {h1 h2 : mv_Hp} (hC : mv_Lx p s m b meth c N0 D dA) (hX : mv_Lsc s b N0 Ls xs) (hi : i + 4 ≤ Ls) (hk1 : h.1[0]? = some (6, 7)) (hk2 : h1.1[147]? = some (7, 12)) (hk3 : h1.1.length ≤ 1000 ∧ h1.2.1 ≤ 10000) (hk4 : h2.1.length ≤ 1000 ∧ h2.2.1 ≤ 10000) (e1 : F_X6_ill 0 (xs (i + 1)) (xs (i + 2)) h = some (r, h1)) (e2 : F_X7_ill 147 (xs (i + 1)) (xs (i + 2)) h1 = some (r, h2)) (kk : mv_Lw p l e s m b below meth c N0 D dA 864 [(0, .ref b), (1, .ref (N0 + 0)), (2, .ref (N0 + 147)), (3, .int (nI i))] [] h2) : mv_Lw p l e s m b below meth c N0 D dA 185 [(0, .ref b), (1, .ref (N0 + 0)), (2, .ref (N0 + 147)), (3, .int (nI i))] [] h := by
  refine ml_aload_n 1 hC dL_law_185 rfl rfl rfl ?_
  refine ml_rd 1 hC hX (by omega) rfl rfl dL_law_186 dL_law_187 dL_law_188 rfl dL_law_189 dL_law_190 rfl ?_
  refine ml_rd 2 hC hX (by omega) rfl rfl dL_law_191 dL_law_192 dL_law_193 rfl dL_law_194 dL_law_195 rfl ?_
  refine ml_callV (st := []) (i := 0) [.int (xs (i + 1)), .int (xs (i + 2))] hC (c_X6_ill l N0 D dA 0 (xs (i + 1)) (xs (i + 2))) (T := TX6) rfl (by decide) wc_L_18 ⟨by decide, by decide⟩ hk3 rfl (mv_cs (Nat.le_of_ble_eq_true rfl) (fun _ h => absurd h List.not_mem_nil)) dL_law_196 hk1 e1 rfl ?_
  refine ml_aload_n 2 hC dL_law_199 rfl rfl rfl ?_
  refine ml_rd 1 hC hX (by omega) rfl rfl dL_law_200 dL_law_201 dL_law_202 rfl dL_law_203 dL_law_204 rfl ?_
  refine ml_rd 2 hC hX (by omega) rfl rfl dL_law_205 dL_law_206 dL_law_207 rfl dL_law_208 dL_law_209 rfl ?_
  refine ml_callV (st := [.int r]) (i := 147) [.int (xs (i + 1)), .int (xs (i + 2))] hC (c_X7_ill l N0 D dA 147 (xs (i + 1)) (xs (i + 2))) (T := TX7) rfl (by decide) wc_L_21 ⟨by decide, by decide⟩ hk4 rfl (mv_cs (Nat.le_of_ble_eq_true rfl) (List.forall_mem_cons.mpr ⟨rfl, fun _ h => absurd h List.not_mem_nil⟩)) dL_law_210 hk2 e2 rfl ?_
  exact ml_eq (x := r) hC dL_law_213 rfl kk

set_option maxHeartbeats 4000000 in
set_option maxRecDepth 100000 in
theorem ml_case_2 {i : Nat} {r : Int32} {h1 h2 : mv_Hp} (hC : mv_Lx p s m b meth c N0 D dA) (hX : mv_Lsc s b N0 Ls xs) (hi : i + 4 ≤ Ls) (hk1 : h.1[0]? = some (6, 7)) (hk2 : h1.1[147]? = some (7, 12)) (hk3 : h1.1.length ≤ 1000 ∧ h1.2.1 ≤ 10000) (hk4 : h2.1.length ≤ 1000 ∧ h2.2.1 ≤ 10000) (e1 : F_X6_rough 0 (xs (i + 1)) (xs (i + 2)) h = some (r, h1)) (e2 : F_X7_rough 147 (xs (i + 1)) (xs (i + 2)) h1 = some (r, h2)) (kk : mv_Lw p l e s m b below meth c N0 D dA 864 [(0, .ref b), (1, .ref (N0 + 0)), (2, .ref (N0 + 147)), (3, .int (nI i))] [] h2) : mv_Lw p l e s m b below meth c N0 D dA 218 [(0, .ref b), (1, .ref (N0 + 0)), (2, .ref (N0 + 147)), (3, .int (nI i))] [] h := by
  refine ml_aload_n 1 hC dL_law_218 rfl rfl rfl ?_
  refine ml_rd 1 hC hX (by omega) rfl rfl dL_law_219 dL_law_220 dL_law_221 rfl dL_law_222 dL_law_223 rfl ?_
  refine ml_rd 2 hC hX (by omega) rfl rfl dL_law_224 dL_law_225 dL_law_226 rfl dL_law_227 dL_law_228 rfl ?_
  refine ml_callV (st := []) (i := 0) [.int (xs (i + 1)), .int (xs (i + 2))] hC (c_X6_rough l N0 D dA 0 (xs (i + 1)) (xs (i + 2))) (T := TX6) rfl (by decide) wc_L_22 ⟨by decide, by decide⟩ hk3 rfl (mv_cs (Nat.le_of_ble_eq_true rfl) (fun _ h => absurd h List.not_mem_nil)) dL_law_229 hk1 e1 rfl ?_
  refine ml_aload_n 2 hC dL_law_232 rfl rfl rfl ?_
  refine ml_rd 1 hC hX (by omega) rfl rfl dL_law_233 dL_law_234 dL_law_235 rfl dL_law_236 dL_law_237 rfl ?_
  refine ml_rd 2 hC hX (by omega) rfl rfl dL_law_238 dL_law_239 dL_law_240 rfl dL_law_241 dL_law_242 rfl ?_
  refine ml_callV (st := [.int r]) (i := 147) [.int (xs (i + 1)), .int (xs (i + 2))] hC (c_X7_rough l N0 D dA 147 (xs (i + 1)) (xs (i + 2))) (T := TX7) rfl (by decide) wc_L_25 ⟨by decide, by decide⟩ hk4 rfl (mv_cs (Nat.le_of_ble_eq_true rfl) (List.forall_mem_cons.mpr ⟨rfl, fun _ h => absurd h List.not_mem_nil⟩)) dL_law_243 hk2 e2 rfl ?_
  exact ml_eq (x := r) hC dL_law_246 rfl kk

set_option maxHeartbeats 4000000 in
set_option maxRecDepth 100000 in
theorem ml_case_3 {i : Nat} {r : Int32} {h1 h2 : mv_Hp} (hC : mv_Lx p s m b meth c N0 D dA) (hX : mv_Lsc s b N0 Ls xs) (hi : i + 4 ≤ Ls) (hk1 : h.1[0]? = some (6, 7)) (hk2 : h1.1[147]? = some (7, 12)) (hk3 : h1.1.length ≤ 1000 ∧ h1.2.1 ≤ 10000) (hk4 : h2.1.length ≤ 1000 ∧ h2.2.1 ≤ 10000) (e1 : F_X6_load 0 (xs (i + 1)) h = some (r, h1)) (e2 : F_X7_load 147 (xs (i + 1)) h1 = some (r, h2)) (kk : mv_Lw p l e s m b below meth c N0 D dA 864 [(0, .ref b), (1, .ref (N0 + 0)), (2, .ref (N0 + 147)), (3, .int (nI i))] [] h2) : mv_Lw p l e s m b below meth c N0 D dA 251 [(0, .ref b), (1, .ref (N0 + 0)), (2, .ref (N0 + 147)), (3, .int (nI i))] [] h := by
  refine ml_aload_n 1 hC dL_law_251 rfl rfl rfl ?_
  refine ml_rd 1 hC hX (by omega) rfl rfl dL_law_252 dL_law_253 dL_law_254 rfl dL_law_255 dL_law_256 rfl ?_
  refine ml_callV (st := []) (i := 0) [.int (xs (i + 1))] hC (c_X6_load l N0 D dA 0 (xs (i + 1))) (T := TX6) rfl (by decide) wc_L_26 ⟨by decide, by decide⟩ hk3 rfl (mv_cs (Nat.le_of_ble_eq_true rfl) (fun _ h => absurd h List.not_mem_nil)) dL_law_257 hk1 e1 rfl ?_
  refine ml_aload_n 2 hC dL_law_260 rfl rfl rfl ?_
  refine ml_rd 1 hC hX (by omega) rfl rfl dL_law_261 dL_law_262 dL_law_263 rfl dL_law_264 dL_law_265 rfl ?_
  refine ml_callV (st := [.int r]) (i := 147) [.int (xs (i + 1))] hC (c_X7_load l N0 D dA 147 (xs (i + 1))) (T := TX7) rfl (by decide) wc_L_30 ⟨by decide, by decide⟩ hk4 rfl (mv_cs (Nat.le_of_ble_eq_true rfl) (List.forall_mem_cons.mpr ⟨rfl, fun _ h => absurd h List.not_mem_nil⟩)) dL_law_266 hk2 e2 rfl ?_
  exact ml_eq (x := r) hC dL_law_269 rfl kk

set_option maxHeartbeats 4000000 in
set_option maxRecDepth 100000 in
theorem ml_case_4 {i : Nat} {r : Int32} {h1 h2 : mv_Hp} (hC : mv_Lx p s m b meth c N0 D dA) (hX : mv_Lsc s b N0 Ls xs) (hi : i + 4 ≤ Ls) (hk1 : h.1[0]? = some (6, 7)) (hk2 : h1.1[147]? = some (7, 12)) (hk3 : h1.1.length ≤ 1000 ∧ h1.2.1 ≤ 10000) (hk4 : h2.1.length ≤ 1000 ∧ h2.2.1 ≤ 10000) (e1 : F_X6_post 0 (xs (i + 1)) (xs (i + 2)) h = some (r, h1)) (e2 : F_X7_post 147 (xs (i + 1)) (xs (i + 2)) h1 = some (r, h2)) (kk : mv_Lw p l e s m b below meth c N0 D dA 864 [(0, .ref b), (1, .ref (N0 + 0)), (2, .ref (N0 + 147)), (3, .int (nI i))] [] h2) : mv_Lw p l e s m b below meth c N0 D dA 274 [(0, .ref b), (1, .ref (N0 + 0)), (2, .ref (N0 + 147)), (3, .int (nI i))] [] h := by
  refine ml_aload_n 1 hC dL_law_274 rfl rfl rfl ?_
  refine ml_rd 1 hC hX (by omega) rfl rfl dL_law_275 dL_law_276 dL_law_277 rfl dL_law_278 dL_law_279 rfl ?_
  refine ml_rd 2 hC hX (by omega) rfl rfl dL_law_280 dL_law_281 dL_law_282 rfl dL_law_283 dL_law_284 rfl ?_
  refine ml_callV (st := []) (i := 0) [.int (xs (i + 1)), .int (xs (i + 2))] hC (c_X6_post l N0 D dA 0 (xs (i + 1)) (xs (i + 2))) (T := TX6) rfl (by decide) wc_L_31 ⟨by decide, by decide⟩ hk3 rfl (mv_cs (Nat.le_of_ble_eq_true rfl) (fun _ h => absurd h List.not_mem_nil)) dL_law_285 hk1 e1 rfl ?_
  refine ml_aload_n 2 hC dL_law_288 rfl rfl rfl ?_
  refine ml_rd 1 hC hX (by omega) rfl rfl dL_law_289 dL_law_290 dL_law_291 rfl dL_law_292 dL_law_293 rfl ?_
  refine ml_rd 2 hC hX (by omega) rfl rfl dL_law_294 dL_law_295 dL_law_296 rfl dL_law_297 dL_law_298 rfl ?_
  refine ml_callV (st := [.int r]) (i := 147) [.int (xs (i + 1)), .int (xs (i + 2))] hC (c_X7_post l N0 D dA 147 (xs (i + 1)) (xs (i + 2))) (T := TX7) rfl (by decide) wc_L_34 ⟨by decide, by decide⟩ hk4 rfl (mv_cs (Nat.le_of_ble_eq_true rfl) (List.forall_mem_cons.mpr ⟨rfl, fun _ h => absurd h List.not_mem_nil⟩)) dL_law_299 hk2 e2 rfl ?_
  exact ml_eq (x := r) hC dL_law_302 rfl kk

set_option maxHeartbeats 4000000 in
set_option maxRecDepth 100000 in
theorem ml_case_5 {i : Nat} {r : Int32} {h1 h2 : mv_Hp} (hC : mv_Lx p s m b meth c N0 D dA) (hX : mv_Lsc s b N0 Ls xs) (hi : i + 4 ≤ Ls) (hk1 : h.1[0]? = some (6, 7)) (hk2 : h1.1[147]? = some (7, 12)) (hk3 : h1.1.length ≤ 1000 ∧ h1.2.1 ≤ 10000) (hk4 : h2.1.length ≤ 1000 ∧ h2.2.1 ≤ 10000) (e1 : F_X6_forget 0 (xs (i + 1)) h = some (r, h1)) (e2 : F_X7_forget 147 (xs (i + 1)) h1 = some (r, h2)) (kk : mv_Lw p l e s m b below meth c N0 D dA 864 [(0, .ref b), (1, .ref (N0 + 0)), (2, .ref (N0 + 147)), (3, .int (nI i))] [] h2) : mv_Lw p l e s m b below meth c N0 D dA 307 [(0, .ref b), (1, .ref (N0 + 0)), (2, .ref (N0 + 147)), (3, .int (nI i))] [] h := by
  refine ml_aload_n 1 hC dL_law_307 rfl rfl rfl ?_
  refine ml_rd 1 hC hX (by omega) rfl rfl dL_law_308 dL_law_309 dL_law_310 rfl dL_law_311 dL_law_312 rfl ?_
  refine ml_callV (st := []) (i := 0) [.int (xs (i + 1))] hC (c_X6_forget l N0 D dA 0 (xs (i + 1))) (T := TX6) rfl (by decide) wc_L_35 ⟨by decide, by decide⟩ hk3 rfl (mv_cs (Nat.le_of_ble_eq_true rfl) (fun _ h => absurd h List.not_mem_nil)) dL_law_313 hk1 e1 rfl ?_
  refine ml_aload_n 2 hC dL_law_316 rfl rfl rfl ?_
  refine ml_rd 1 hC hX (by omega) rfl rfl dL_law_317 dL_law_318 dL_law_319 rfl dL_law_320 dL_law_321 rfl ?_
  refine ml_callV (st := [.int r]) (i := 147) [.int (xs (i + 1))] hC (c_X7_forget l N0 D dA 147 (xs (i + 1))) (T := TX7) rfl (by decide) wc_L_38 ⟨by decide, by decide⟩ hk4 rfl (mv_cs (Nat.le_of_ble_eq_true rfl) (List.forall_mem_cons.mpr ⟨rfl, fun _ h => absurd h List.not_mem_nil⟩)) dL_law_322 hk2 e2 rfl ?_
  exact ml_eq (x := r) hC dL_law_325 rfl kk

set_option maxHeartbeats 4000000 in
set_option maxRecDepth 100000 in
theorem ml_case_6 {i : Nat} {r : Int32} {h1 h2 : mv_Hp} (hC : mv_Lx p s m b meth c N0 D dA) (hX : mv_Lsc s b N0 Ls xs) (hi : i + 4 ≤ Ls) (hk1 : h.1[0]? = some (6, 7)) (hk2 : h1.1[147]? = some (7, 12)) (hk3 : h1.1.length ≤ 1000 ∧ h1.2.1 ≤ 10000) (hk4 : h2.1.length ≤ 1000 ∧ h2.2.1 ≤ 10000) (e1 : F_X6_pass 0 (xs (i + 1)) h = some (r, h1)) (e2 : F_X7_pass 147 (xs (i + 1)) h1 = some (r, h2)) (kk : mv_Lw p l e s m b below meth c N0 D dA 864 [(0, .ref b), (1, .ref (N0 + 0)), (2, .ref (N0 + 147)), (3, .int (nI i))] [] h2) : mv_Lw p l e s m b below meth c N0 D dA 330 [(0, .ref b), (1, .ref (N0 + 0)), (2, .ref (N0 + 147)), (3, .int (nI i))] [] h := by
  refine ml_aload_n 1 hC dL_law_330 rfl rfl rfl ?_
  refine ml_rd 1 hC hX (by omega) rfl rfl dL_law_331 dL_law_332 dL_law_333 rfl dL_law_334 dL_law_335 rfl ?_
  refine ml_callV (st := []) (i := 0) [.int (xs (i + 1))] hC (c_X6_pass l N0 D dA 0 (xs (i + 1))) (T := TX6) rfl (by decide) wc_L_39 ⟨by decide, by decide⟩ hk3 rfl (mv_cs (Nat.le_of_ble_eq_true rfl) (fun _ h => absurd h List.not_mem_nil)) dL_law_336 hk1 e1 rfl ?_
  refine ml_aload_n 2 hC dL_law_339 rfl rfl rfl ?_
  refine ml_rd 1 hC hX (by omega) rfl rfl dL_law_340 dL_law_341 dL_law_342 rfl dL_law_343 dL_law_344 rfl ?_
  refine ml_callV (st := [.int r]) (i := 147) [.int (xs (i + 1))] hC (c_X7_pass l N0 D dA 147 (xs (i + 1))) (T := TX7) rfl (by decide) wc_L_42 ⟨by decide, by decide⟩ hk4 rfl (mv_cs (Nat.le_of_ble_eq_true rfl) (List.forall_mem_cons.mpr ⟨rfl, fun _ h => absurd h List.not_mem_nil⟩)) dL_law_345 hk2 e2 rfl ?_
  exact ml_eq (x := r) hC dL_law_348 rfl kk

set_option maxHeartbeats 4000000 in
set_option maxRecDepth 100000 in
theorem ml_case_7 {i : Nat} {r : Int32} {h1 h2 : mv_Hp} (hC : mv_Lx p s m b meth c N0 D dA) (hX : mv_Lsc s b N0 Ls xs) (hi : i + 4 ≤ Ls) (hk1 : h.1[0]? = some (6, 7)) (hk2 : h1.1[147]? = some (7, 12)) (hk3 : h1.1.length ≤ 1000 ∧ h1.2.1 ≤ 10000) (hk4 : h2.1.length ≤ 1000 ∧ h2.2.1 ≤ 10000) (e1 : F_X6_append 0 (xs (i + 1)) h = some (r, h1)) (e2 : F_X7_append 147 (xs (i + 1)) h1 = some (r, h2)) (kk : mv_Lw p l e s m b below meth c N0 D dA 864 [(0, .ref b), (1, .ref (N0 + 0)), (2, .ref (N0 + 147)), (3, .int (nI i))] [] h2) : mv_Lw p l e s m b below meth c N0 D dA 353 [(0, .ref b), (1, .ref (N0 + 0)), (2, .ref (N0 + 147)), (3, .int (nI i))] [] h := by
  refine ml_aload_n 1 hC dL_law_353 rfl rfl rfl ?_
  refine ml_rd 1 hC hX (by omega) rfl rfl dL_law_354 dL_law_355 dL_law_356 rfl dL_law_357 dL_law_358 rfl ?_
  refine ml_callV (st := []) (i := 0) [.int (xs (i + 1))] hC (c_X6_append l N0 D dA 0 (xs (i + 1))) (T := TX6) rfl (by decide) wc_L_43 ⟨by decide, by decide⟩ hk3 rfl (mv_cs (Nat.le_of_ble_eq_true rfl) (fun _ h => absurd h List.not_mem_nil)) dL_law_359 hk1 e1 rfl ?_
  refine ml_aload_n 2 hC dL_law_362 rfl rfl rfl ?_
  refine ml_rd 1 hC hX (by omega) rfl rfl dL_law_363 dL_law_364 dL_law_365 rfl dL_law_366 dL_law_367 rfl ?_
  refine ml_callV (st := [.int r]) (i := 147) [.int (xs (i + 1))] hC (c_X7_append l N0 D dA 147 (xs (i + 1))) (T := TX7) rfl (by decide) wc_L_46 ⟨by decide, by decide⟩ hk4 rfl (mv_cs (Nat.le_of_ble_eq_true rfl) (List.forall_mem_cons.mpr ⟨rfl, fun _ h => absurd h List.not_mem_nil⟩)) dL_law_368 hk2 e2 rfl ?_
  exact ml_eq (x := r) hC dL_law_371 rfl kk

set_option maxHeartbeats 4000000 in
set_option maxRecDepth 100000 in
theorem ml_case_8 {i : Nat} {r : Int32} {h1 h2 : mv_Hp} (hC : mv_Lx p s m b meth c N0 D dA) (hX : mv_Lsc s b N0 Ls xs) (hi : i + 4 ≤ Ls) (hk1 : h.1[0]? = some (6, 7)) (hk2 : h1.1[147]? = some (7, 12)) (hk3 : h1.1.length ≤ 1000 ∧ h1.2.1 ≤ 10000) (hk4 : h2.1.length ≤ 1000 ∧ h2.2.1 ≤ 10000) (e1 : F_X6_clear 0 h = some (r, h1)) (e2 : F_X7_clear 147 h1 = some (r, h2)) (kk : mv_Lw p l e s m b below meth c N0 D dA 864 [(0, .ref b), (1, .ref (N0 + 0)), (2, .ref (N0 + 147)), (3, .int (nI i))] [] h2) : mv_Lw p l e s m b below meth c N0 D dA 376 [(0, .ref b), (1, .ref (N0 + 0)), (2, .ref (N0 + 147)), (3, .int (nI i))] [] h := by
  refine ml_aload_n 1 hC dL_law_376 rfl rfl rfl ?_
  refine ml_callV (st := []) (i := 0) [] hC (c_X6_clear l N0 D dA 0) (T := TX6) rfl (by decide) wc_L_47 ⟨by decide, by decide⟩ hk3 rfl (mv_cs (Nat.le_of_ble_eq_true rfl) (fun _ h => absurd h List.not_mem_nil)) dL_law_377 hk1 e1 rfl ?_
  refine ml_aload_n 2 hC dL_law_380 rfl rfl rfl ?_
  refine ml_callV (st := [.int r]) (i := 147) [] hC (c_X7_clear l N0 D dA 147) (T := TX7) rfl (by decide) wc_L_51 ⟨by decide, by decide⟩ hk4 rfl (mv_cs (Nat.le_of_ble_eq_true rfl) (List.forall_mem_cons.mpr ⟨rfl, fun _ h => absurd h List.not_mem_nil⟩)) dL_law_381 hk2 e2 rfl ?_
  exact ml_eq (x := r) hC dL_law_384 rfl kk

set_option maxHeartbeats 4000000 in
set_option maxRecDepth 100000 in
theorem ml_case_9 {i : Nat} {r : Int32} {h1 h2 : mv_Hp} (hC : mv_Lx p s m b meth c N0 D dA) (hX : mv_Lsc s b N0 Ls xs) (hi : i + 4 ≤ Ls) (hk1 : h.1[0]? = some (6, 7)) (hk2 : h1.1[147]? = some (7, 12)) (hk3 : h1.1.length ≤ 1000 ∧ h1.2.1 ≤ 10000) (hk4 : h2.1.length ≤ 1000 ∧ h2.2.1 ≤ 10000) (e1 : F_X6_fault 0 (xs (i + 1)) h = some (r, h1)) (e2 : F_X7_fault 147 (xs (i + 1)) h1 = some (r, h2)) (kk : mv_Lw p l e s m b below meth c N0 D dA 864 [(0, .ref b), (1, .ref (N0 + 0)), (2, .ref (N0 + 147)), (3, .int (nI i))] [] h2) : mv_Lw p l e s m b below meth c N0 D dA 389 [(0, .ref b), (1, .ref (N0 + 0)), (2, .ref (N0 + 147)), (3, .int (nI i))] [] h := by
  refine ml_aload_n 1 hC dL_law_389 rfl rfl rfl ?_
  refine ml_rd 1 hC hX (by omega) rfl rfl dL_law_390 dL_law_391 dL_law_392 rfl dL_law_393 dL_law_394 rfl ?_
  refine ml_callV (st := []) (i := 0) [.int (xs (i + 1))] hC (c_X6_fault l N0 D dA 0 (xs (i + 1))) (T := TX6) rfl (by decide) wc_L_52 ⟨by decide, by decide⟩ hk3 rfl (mv_cs (Nat.le_of_ble_eq_true rfl) (fun _ h => absurd h List.not_mem_nil)) dL_law_395 hk1 e1 rfl ?_
  refine ml_aload_n 2 hC dL_law_398 rfl rfl rfl ?_
  refine ml_rd 1 hC hX (by omega) rfl rfl dL_law_399 dL_law_400 dL_law_401 rfl dL_law_402 dL_law_403 rfl ?_
  refine ml_callV (st := [.int r]) (i := 147) [.int (xs (i + 1))] hC (c_X7_fault l N0 D dA 147 (xs (i + 1))) (T := TX7) rfl (by decide) wc_L_55 ⟨by decide, by decide⟩ hk4 rfl (mv_cs (Nat.le_of_ble_eq_true rfl) (List.forall_mem_cons.mpr ⟨rfl, fun _ h => absurd h List.not_mem_nil⟩)) dL_law_404 hk2 e2 rfl ?_
  exact ml_eq (x := r) hC dL_law_407 rfl kk

set_option maxHeartbeats 4000000 in
set_option maxRecDepth 100000 in
theorem ml_case_10 {i : Nat} {r : Int32} {h1 h2 : mv_Hp} (hC : mv_Lx p s m b meth c N0 D dA) (hX : mv_Lsc s b N0 Ls xs) (hi : i + 4 ≤ Ls) (hk1 : h.1[0]? = some (6, 7)) (hk2 : h1.1[147]? = some (7, 12)) (hk3 : h1.1.length ≤ 1000 ∧ h1.2.1 ≤ 10000) (hk4 : h2.1.length ≤ 1000 ∧ h2.2.1 ≤ 10000) (e1 : F_X6_tours 0 h = some (r, h1)) (e2 : F_X7_tours 147 h1 = some (r, h2)) (kk : mv_Lw p l e s m b below meth c N0 D dA 864 [(0, .ref b), (1, .ref (N0 + 0)), (2, .ref (N0 + 147)), (3, .int (nI i))] [] h2) : mv_Lw p l e s m b below meth c N0 D dA 412 [(0, .ref b), (1, .ref (N0 + 0)), (2, .ref (N0 + 147)), (3, .int (nI i))] [] h := by
  refine ml_aload_n 1 hC dL_law_412 rfl rfl rfl ?_
  refine ml_callV (st := []) (i := 0) [] hC (c_X6_tours l N0 D dA 0) (T := TX6) rfl (by decide) wc_L_56 ⟨by decide, by decide⟩ hk3 rfl (mv_cs (Nat.le_of_ble_eq_true rfl) (fun _ h => absurd h List.not_mem_nil)) dL_law_413 hk1 e1 rfl ?_
  refine ml_aload_n 2 hC dL_law_416 rfl rfl rfl ?_
  refine ml_callV (st := [.int r]) (i := 147) [] hC (c_X7_tours l N0 D dA 147) (T := TX7) rfl (by decide) wc_L_59 ⟨by decide, by decide⟩ hk4 rfl (mv_cs (Nat.le_of_ble_eq_true rfl) (List.forall_mem_cons.mpr ⟨rfl, fun _ h => absurd h List.not_mem_nil⟩)) dL_law_417 hk2 e2 rfl ?_
  exact ml_eq (x := r) hC dL_law_420 rfl kk

set_option maxHeartbeats 4000000 in
set_option maxRecDepth 100000 in
theorem ml_case_11 {i : Nat} {r : Int32} {h1 h2 : mv_Hp} (hC : mv_Lx p s m b meth c N0 D dA) (hX : mv_Lsc s b N0 Ls xs) (hi : i + 4 ≤ Ls) (hk1 : h.1[0]? = some (6, 7)) (hk2 : h1.1[147]? = some (7, 12)) (hk3 : h1.1.length ≤ 1000 ∧ h1.2.1 ≤ 10000) (hk4 : h2.1.length ≤ 1000 ∧ h2.2.1 ≤ 10000) (e1 : F_X6_letters 0 h = some (r, h1)) (e2 : F_X7_letters 147 h1 = some (r, h2)) (kk : mv_Lw p l e s m b below meth c N0 D dA 864 [(0, .ref b), (1, .ref (N0 + 0)), (2, .ref (N0 + 147)), (3, .int (nI i))] [] h2) : mv_Lw p l e s m b below meth c N0 D dA 425 [(0, .ref b), (1, .ref (N0 + 0)), (2, .ref (N0 + 147)), (3, .int (nI i))] [] h := by
  refine ml_aload_n 1 hC dL_law_425 rfl rfl rfl ?_
  refine ml_callV (st := []) (i := 0) [] hC (c_X6_letters l N0 D dA 0) (T := TX6) rfl (by decide) wc_L_60 ⟨by decide, by decide⟩ hk3 rfl (mv_cs (Nat.le_of_ble_eq_true rfl) (fun _ h => absurd h List.not_mem_nil)) dL_law_426 hk1 e1 rfl ?_
  refine ml_aload_n 2 hC dL_law_429 rfl rfl rfl ?_
  refine ml_callV (st := [.int r]) (i := 147) [] hC (c_X7_letters l N0 D dA 147) (T := TX7) rfl (by decide) wc_L_63 ⟨by decide, by decide⟩ hk4 rfl (mv_cs (Nat.le_of_ble_eq_true rfl) (List.forall_mem_cons.mpr ⟨rfl, fun _ h => absurd h List.not_mem_nil⟩)) dL_law_430 hk2 e2 rfl ?_
  exact ml_eq (x := r) hC dL_law_433 rfl kk

set_option maxHeartbeats 4000000 in
set_option maxRecDepth 100000 in
theorem ml_case_12 {i : Nat} {r : Int32} {h1 h2 : mv_Hp} (hC : mv_Lx p s m b meth c N0 D dA) (hX : mv_Lsc s b N0 Ls xs) (hi : i + 4 ≤ Ls) (hk1 : h.1[0]? = some (6, 7)) (hk2 : h1.1[147]? = some (7, 12)) (hk3 : h1.1.length ≤ 1000 ∧ h1.2.1 ≤ 10000) (hk4 : h2.1.length ≤ 1000 ∧ h2.2.1 ≤ 10000) (e1 : F_X6_where 0 (xs (i + 1)) (xs (i + 2)) h = some (r, h1)) (e2 : F_X7_where 147 (xs (i + 1)) (xs (i + 2)) h1 = some (r, h2)) (kk : mv_Lw p l e s m b below meth c N0 D dA 864 [(0, .ref b), (1, .ref (N0 + 0)), (2, .ref (N0 + 147)), (3, .int (nI i))] [] h2) : mv_Lw p l e s m b below meth c N0 D dA 438 [(0, .ref b), (1, .ref (N0 + 0)), (2, .ref (N0 + 147)), (3, .int (nI i))] [] h := by
  refine ml_aload_n 1 hC dL_law_438 rfl rfl rfl ?_
  refine ml_rd 1 hC hX (by omega) rfl rfl dL_law_439 dL_law_440 dL_law_441 rfl dL_law_442 dL_law_443 rfl ?_
  refine ml_rd 2 hC hX (by omega) rfl rfl dL_law_444 dL_law_445 dL_law_446 rfl dL_law_447 dL_law_448 rfl ?_
  refine ml_callV (st := []) (i := 0) [.int (xs (i + 1)), .int (xs (i + 2))] hC (c_X6_where l N0 D dA 0 (xs (i + 1)) (xs (i + 2))) (T := TX6) rfl (by decide) wc_L_64 ⟨by decide, by decide⟩ hk3 rfl (mv_cs (Nat.le_of_ble_eq_true rfl) (fun _ h => absurd h List.not_mem_nil)) dL_law_449 hk1 e1 rfl ?_
  refine ml_aload_n 2 hC dL_law_452 rfl rfl rfl ?_
  refine ml_rd 1 hC hX (by omega) rfl rfl dL_law_453 dL_law_454 dL_law_455 rfl dL_law_456 dL_law_457 rfl ?_
  refine ml_rd 2 hC hX (by omega) rfl rfl dL_law_458 dL_law_459 dL_law_460 rfl dL_law_461 dL_law_462 rfl ?_
  refine ml_callV (st := [.int r]) (i := 147) [.int (xs (i + 1)), .int (xs (i + 2))] hC (c_X7_where l N0 D dA 147 (xs (i + 1)) (xs (i + 2))) (T := TX7) rfl (by decide) wc_L_67 ⟨by decide, by decide⟩ hk4 rfl (mv_cs (Nat.le_of_ble_eq_true rfl) (List.forall_mem_cons.mpr ⟨rfl, fun _ h => absurd h List.not_mem_nil⟩)) dL_law_463 hk2 e2 rfl ?_
  exact ml_eq (x := r) hC dL_law_466 rfl kk

set_option maxHeartbeats 4000000 in
set_option maxRecDepth 100000 in
theorem ml_case_13 {i : Nat} {r : Int32} {h1 h2 : mv_Hp} (hC : mv_Lx p s m b meth c N0 D dA) (hX : mv_Lsc s b N0 Ls xs) (hi : i + 4 ≤ Ls) (hk1 : h.1[0]? = some (6, 7)) (hk2 : h1.1[147]? = some (7, 12)) (hk3 : h1.1.length ≤ 1000 ∧ h1.2.1 ≤ 10000) (hk4 : h2.1.length ≤ 1000 ∧ h2.2.1 ≤ 10000) (e1 : F_X6_carrier 0 (xs (i + 1)) (xs (i + 2)) h = some (r, h1)) (e2 : F_X7_carrier 147 (xs (i + 1)) (xs (i + 2)) h1 = some (r, h2)) (kk : mv_Lw p l e s m b below meth c N0 D dA 864 [(0, .ref b), (1, .ref (N0 + 0)), (2, .ref (N0 + 147)), (3, .int (nI i))] [] h2) : mv_Lw p l e s m b below meth c N0 D dA 471 [(0, .ref b), (1, .ref (N0 + 0)), (2, .ref (N0 + 147)), (3, .int (nI i))] [] h := by
  refine ml_aload_n 1 hC dL_law_471 rfl rfl rfl ?_
  refine ml_rd 1 hC hX (by omega) rfl rfl dL_law_472 dL_law_473 dL_law_474 rfl dL_law_475 dL_law_476 rfl ?_
  refine ml_rd 2 hC hX (by omega) rfl rfl dL_law_477 dL_law_478 dL_law_479 rfl dL_law_480 dL_law_481 rfl ?_
  refine ml_callV (st := []) (i := 0) [.int (xs (i + 1)), .int (xs (i + 2))] hC (c_X6_carrier l N0 D dA 0 (xs (i + 1)) (xs (i + 2))) (T := TX6) rfl (by decide) wc_L_68 ⟨by decide, by decide⟩ hk3 rfl (mv_cs (Nat.le_of_ble_eq_true rfl) (fun _ h => absurd h List.not_mem_nil)) dL_law_482 hk1 e1 rfl ?_
  refine ml_aload_n 2 hC dL_law_485 rfl rfl rfl ?_
  refine ml_rd 1 hC hX (by omega) rfl rfl dL_law_486 dL_law_487 dL_law_488 rfl dL_law_489 dL_law_490 rfl ?_
  refine ml_rd 2 hC hX (by omega) rfl rfl dL_law_491 dL_law_492 dL_law_493 rfl dL_law_494 dL_law_495 rfl ?_
  refine ml_callV (st := [.int r]) (i := 147) [.int (xs (i + 1)), .int (xs (i + 2))] hC (c_X7_carrier l N0 D dA 147 (xs (i + 1)) (xs (i + 2))) (T := TX7) rfl (by decide) wc_L_71 ⟨by decide, by decide⟩ hk4 rfl (mv_cs (Nat.le_of_ble_eq_true rfl) (List.forall_mem_cons.mpr ⟨rfl, fun _ h => absurd h List.not_mem_nil⟩)) dL_law_496 hk2 e2 rfl ?_
  exact ml_eq (x := r) hC dL_law_499 rfl kk

set_option maxHeartbeats 4000000 in
set_option maxRecDepth 100000 in
theorem ml_case_14 {i : Nat} {r : Int32} {h1 h2 : mv_Hp} (hC : mv_Lx p s m b meth c N0 D dA) (hX : mv_Lsc s b N0 Ls xs) (hi : i + 4 ≤ Ls) (hk1 : h.1[0]? = some (6, 7)) (hk2 : h1.1[147]? = some (7, 12)) (hk3 : h1.1.length ≤ 1000 ∧ h1.2.1 ≤ 10000) (hk4 : h2.1.length ≤ 1000 ∧ h2.2.1 ≤ 10000) (e1 : F_X6_bundle 0 (xs (i + 1)) (xs (i + 2)) h = some (r, h1)) (e2 : F_X7_bundle 147 (xs (i + 1)) (xs (i + 2)) h1 = some (r, h2)) (kk : mv_Lw p l e s m b below meth c N0 D dA 864 [(0, .ref b), (1, .ref (N0 + 0)), (2, .ref (N0 + 147)), (3, .int (nI i))] [] h2) : mv_Lw p l e s m b below meth c N0 D dA 504 [(0, .ref b), (1, .ref (N0 + 0)), (2, .ref (N0 + 147)), (3, .int (nI i))] [] h := by
  refine ml_aload_n 1 hC dL_law_504 rfl rfl rfl ?_
  refine ml_rd 1 hC hX (by omega) rfl rfl dL_law_505 dL_law_506 dL_law_507 rfl dL_law_508 dL_law_509 rfl ?_
  refine ml_rd 2 hC hX (by omega) rfl rfl dL_law_510 dL_law_511 dL_law_512 rfl dL_law_513 dL_law_514 rfl ?_
  refine ml_callV (st := []) (i := 0) [.int (xs (i + 1)), .int (xs (i + 2))] hC (c_X6_bundle l N0 D dA 0 (xs (i + 1)) (xs (i + 2))) (T := TX6) rfl (by decide) wc_L_72 ⟨by decide, by decide⟩ hk3 rfl (mv_cs (Nat.le_of_ble_eq_true rfl) (fun _ h => absurd h List.not_mem_nil)) dL_law_515 hk1 e1 rfl ?_
  refine ml_aload_n 2 hC dL_law_518 rfl rfl rfl ?_
  refine ml_rd 1 hC hX (by omega) rfl rfl dL_law_519 dL_law_520 dL_law_521 rfl dL_law_522 dL_law_523 rfl ?_
  refine ml_rd 2 hC hX (by omega) rfl rfl dL_law_524 dL_law_525 dL_law_526 rfl dL_law_527 dL_law_528 rfl ?_
  refine ml_callV (st := [.int r]) (i := 147) [.int (xs (i + 1)), .int (xs (i + 2))] hC (c_X7_bundle l N0 D dA 147 (xs (i + 1)) (xs (i + 2))) (T := TX7) rfl (by decide) wc_L_75 ⟨by decide, by decide⟩ hk4 rfl (mv_cs (Nat.le_of_ble_eq_true rfl) (List.forall_mem_cons.mpr ⟨rfl, fun _ h => absurd h List.not_mem_nil⟩)) dL_law_529 hk2 e2 rfl ?_
  exact ml_eq (x := r) hC dL_law_532 rfl kk

set_option maxHeartbeats 4000000 in
set_option maxRecDepth 100000 in
theorem ml_case_15 {i : Nat} {r : Int32} {h1 h2 : mv_Hp} (hC : mv_Lx p s m b meth c N0 D dA) (hX : mv_Lsc s b N0 Ls xs) (hi : i + 4 ≤ Ls) (hk1 : h.1[0]? = some (6, 7)) (hk2 : h1.1[147]? = some (7, 12)) (hk3 : h1.1.length ≤ 1000 ∧ h1.2.1 ≤ 10000) (hk4 : h2.1.length ≤ 1000 ∧ h2.2.1 ≤ 10000) (e1 : F_X6_arrival 0 (xs (i + 1)) (xs (i + 2)) h = some (r, h1)) (e2 : F_X7_arrival 147 (xs (i + 1)) (xs (i + 2)) h1 = some (r, h2)) (kk : mv_Lw p l e s m b below meth c N0 D dA 864 [(0, .ref b), (1, .ref (N0 + 0)), (2, .ref (N0 + 147)), (3, .int (nI i))] [] h2) : mv_Lw p l e s m b below meth c N0 D dA 537 [(0, .ref b), (1, .ref (N0 + 0)), (2, .ref (N0 + 147)), (3, .int (nI i))] [] h := by
  refine ml_aload_n 1 hC dL_law_537 rfl rfl rfl ?_
  refine ml_rd 1 hC hX (by omega) rfl rfl dL_law_538 dL_law_539 dL_law_540 rfl dL_law_541 dL_law_542 rfl ?_
  refine ml_rd 2 hC hX (by omega) rfl rfl dL_law_543 dL_law_544 dL_law_545 rfl dL_law_546 dL_law_547 rfl ?_
  refine ml_callV (st := []) (i := 0) [.int (xs (i + 1)), .int (xs (i + 2))] hC (c_X6_arrival l N0 D dA 0 (xs (i + 1)) (xs (i + 2))) (T := TX6) rfl (by decide) wc_L_76 ⟨by decide, by decide⟩ hk3 rfl (mv_cs (Nat.le_of_ble_eq_true rfl) (fun _ h => absurd h List.not_mem_nil)) dL_law_548 hk1 e1 rfl ?_
  refine ml_aload_n 2 hC dL_law_551 rfl rfl rfl ?_
  refine ml_rd 1 hC hX (by omega) rfl rfl dL_law_552 dL_law_553 dL_law_554 rfl dL_law_555 dL_law_556 rfl ?_
  refine ml_rd 2 hC hX (by omega) rfl rfl dL_law_557 dL_law_558 dL_law_559 rfl dL_law_560 dL_law_561 rfl ?_
  refine ml_callV (st := [.int r]) (i := 147) [.int (xs (i + 1)), .int (xs (i + 2))] hC (c_X7_arrival l N0 D dA 147 (xs (i + 1)) (xs (i + 2))) (T := TX7) rfl (by decide) wc_L_79 ⟨by decide, by decide⟩ hk4 rfl (mv_cs (Nat.le_of_ble_eq_true rfl) (List.forall_mem_cons.mpr ⟨rfl, fun _ h => absurd h List.not_mem_nil⟩)) dL_law_562 hk2 e2 rfl ?_
  exact ml_eq (x := r) hC dL_law_565 rfl kk

set_option maxHeartbeats 4000000 in
set_option maxRecDepth 100000 in
theorem ml_case_16 {i : Nat} {r : Int32} {h1 h2 : mv_Hp} {bz : Int32} (hbz : bz = if xs (i + 3) = 0 then 0 else 1) (hC : mv_Lx p s m b meth c N0 D dA) (hX : mv_Lsc s b N0 Ls xs) (hi : i + 4 ≤ Ls) (hk1 : h.1[0]? = some (6, 7)) (hk2 : h1.1[147]? = some (7, 12)) (hk3 : h1.1.length ≤ 1000 ∧ h1.2.1 ≤ 10000) (hk4 : h2.1.length ≤ 1000 ∧ h2.2.1 ≤ 10000) (e1 : F_X6_meeting 0 (xs (i + 1)) (xs (i + 2)) bz h = some (r, h1)) (e2 : F_X7_meeting 147 (xs (i + 1)) (xs (i + 2)) bz h1 = some (r, h2)) (kk : mv_Lw p l e s m b below meth c N0 D dA 864 [(0, .ref b), (1, .ref (N0 + 0)), (2, .ref (N0 + 147)), (3, .int (nI i))] [] h2) : mv_Lw p l e s m b below meth c N0 D dA 570 [(0, .ref b), (1, .ref (N0 + 0)), (2, .ref (N0 + 147)), (3, .int (nI i))] [] h := by
  by_cases hz : xs (i + 3) = 0
  · rw [if_pos hz] at hbz; subst hbz
    refine ml_aload_n 1 hC dL_law_570 rfl rfl rfl ?_
    refine ml_rd 1 hC hX (by omega) rfl rfl dL_law_571 dL_law_572 dL_law_573 rfl dL_law_574 dL_law_575 rfl ?_
    refine ml_rd 2 hC hX (by omega) rfl rfl dL_law_576 dL_law_577 dL_law_578 rfl dL_law_579 dL_law_580 rfl ?_
    refine ml_rd 3 hC hX (by omega) rfl rfl dL_law_581 dL_law_582 dL_law_583 rfl dL_law_584 dL_law_585 rfl ?_
    refine ml_ifeq (tgt := 593) hC dL_law_586 rfl rfl (fun _ => ?_) (fun z => absurd hz z)
    refine ml_iconst (v := 0) hC dL_law_593 (by decide) rfl ?_
    refine ml_callV (st := []) (i := 0) [.int (xs (i + 1)), .int (xs (i + 2)), .int 0] hC (c_X6_meeting l N0 D dA 0 (xs (i + 1)) (xs (i + 2)) 0) (T := TX6) rfl (by decide) wc_L_80 ⟨by decide, by decide⟩ hk3 rfl (mv_cs (Nat.le_of_ble_eq_true rfl) (fun _ h => absurd h List.not_mem_nil)) dL_law_594 hk1 e1 rfl ?_
    refine ml_aload_n 2 hC dL_law_597 rfl rfl rfl ?_
    refine ml_rd 1 hC hX (by omega) rfl rfl dL_law_598 dL_law_599 dL_law_600 rfl dL_law_601 dL_law_602 rfl ?_
    refine ml_rd 2 hC hX (by omega) rfl rfl dL_law_603 dL_law_604 dL_law_605 rfl dL_law_606 dL_law_607 rfl ?_
    refine ml_rd 3 hC hX (by omega) rfl rfl dL_law_608 dL_law_609 dL_law_610 rfl dL_law_611 dL_law_612 rfl ?_
    refine ml_ifeq (tgt := 620) hC dL_law_613 rfl rfl (fun _ => ?_) (fun z => absurd hz z)
    refine ml_iconst (v := 0) hC dL_law_620 (by decide) rfl ?_
    refine ml_callV (st := [.int r]) (i := 147) [.int (xs (i + 1)), .int (xs (i + 2)), .int 0] hC (c_X7_meeting l N0 D dA 147 (xs (i + 1)) (xs (i + 2)) 0) (T := TX7) rfl (by decide) wc_L_84 ⟨by decide, by decide⟩ hk4 rfl (mv_cs (Nat.le_of_ble_eq_true rfl) (List.forall_mem_cons.mpr ⟨rfl, fun _ h => absurd h List.not_mem_nil⟩)) dL_law_621 hk2 e2 rfl ?_
    exact ml_eq (x := r) hC dL_law_624 rfl kk
  · rw [if_neg hz] at hbz; subst hbz
    refine ml_aload_n 1 hC dL_law_570 rfl rfl rfl ?_
    refine ml_rd 1 hC hX (by omega) rfl rfl dL_law_571 dL_law_572 dL_law_573 rfl dL_law_574 dL_law_575 rfl ?_
    refine ml_rd 2 hC hX (by omega) rfl rfl dL_law_576 dL_law_577 dL_law_578 rfl dL_law_579 dL_law_580 rfl ?_
    refine ml_rd 3 hC hX (by omega) rfl rfl dL_law_581 dL_law_582 dL_law_583 rfl dL_law_584 dL_law_585 rfl ?_
    refine ml_ifeq (tgt := 593) hC dL_law_586 rfl rfl (fun z => absurd z hz) (fun _ => ?_)
    refine ml_iconst (v := 1) hC dL_law_589 (by decide) rfl ?_
    refine ml_goto (q := 594) hC dL_law_590 rfl ?_
    refine ml_callV (st := []) (i := 0) [.int (xs (i + 1)), .int (xs (i + 2)), .int 1] hC (c_X6_meeting l N0 D dA 0 (xs (i + 1)) (xs (i + 2)) 1) (T := TX6) rfl (by decide) wc_L_80 ⟨by decide, by decide⟩ hk3 rfl (mv_cs (Nat.le_of_ble_eq_true rfl) (fun _ h => absurd h List.not_mem_nil)) dL_law_594 hk1 e1 rfl ?_
    refine ml_aload_n 2 hC dL_law_597 rfl rfl rfl ?_
    refine ml_rd 1 hC hX (by omega) rfl rfl dL_law_598 dL_law_599 dL_law_600 rfl dL_law_601 dL_law_602 rfl ?_
    refine ml_rd 2 hC hX (by omega) rfl rfl dL_law_603 dL_law_604 dL_law_605 rfl dL_law_606 dL_law_607 rfl ?_
    refine ml_rd 3 hC hX (by omega) rfl rfl dL_law_608 dL_law_609 dL_law_610 rfl dL_law_611 dL_law_612 rfl ?_
    refine ml_ifeq (tgt := 620) hC dL_law_613 rfl rfl (fun z => absurd z hz) (fun _ => ?_)
    refine ml_iconst (v := 1) hC dL_law_616 (by decide) rfl ?_
    refine ml_goto (q := 621) hC dL_law_617 rfl ?_
    refine ml_callV (st := [.int r]) (i := 147) [.int (xs (i + 1)), .int (xs (i + 2)), .int 1] hC (c_X7_meeting l N0 D dA 147 (xs (i + 1)) (xs (i + 2)) 1) (T := TX7) rfl (by decide) wc_L_84 ⟨by decide, by decide⟩ hk4 rfl (mv_cs (Nat.le_of_ble_eq_true rfl) (List.forall_mem_cons.mpr ⟨rfl, fun _ h => absurd h List.not_mem_nil⟩)) dL_law_621 hk2 e2 rfl ?_
    exact ml_eq (x := r) hC dL_law_624 rfl kk

set_option maxHeartbeats 4000000 in
set_option maxRecDepth 100000 in
theorem ml_case_17 {i : Nat} {r : Int32} {h1 h2 : mv_Hp} (hC : mv_Lx p s m b meth c N0 D dA) (hX : mv_Lsc s b N0 Ls xs) (hi : i + 4 ≤ Ls) (hk1 : h.1[0]? = some (6, 7)) (hk2 : h1.1[147]? = some (7, 12)) (hk3 : h1.1.length ≤ 1000 ∧ h1.2.1 ≤ 10000) (hk4 : h2.1.length ≤ 1000 ∧ h2.2.1 ≤ 10000) (e1 : F_X6_count 0 (xs (i + 1)) h = some (r, h1)) (e2 : F_X7_count 147 (xs (i + 1)) h1 = some (r, h2)) (kk : mv_Lw p l e s m b below meth c N0 D dA 864 [(0, .ref b), (1, .ref (N0 + 0)), (2, .ref (N0 + 147)), (3, .int (nI i))] [] h2) : mv_Lw p l e s m b below meth c N0 D dA 629 [(0, .ref b), (1, .ref (N0 + 0)), (2, .ref (N0 + 147)), (3, .int (nI i))] [] h := by
  refine ml_aload_n 1 hC dL_law_629 rfl rfl rfl ?_
  refine ml_rd 1 hC hX (by omega) rfl rfl dL_law_630 dL_law_631 dL_law_632 rfl dL_law_633 dL_law_634 rfl ?_
  refine ml_callV (st := []) (i := 0) [.int (xs (i + 1))] hC (c_X6_count l N0 D dA 0 (xs (i + 1))) (T := TX6) rfl (by decide) wc_L_85 ⟨by decide, by decide⟩ hk3 rfl (mv_cs (Nat.le_of_ble_eq_true rfl) (fun _ h => absurd h List.not_mem_nil)) dL_law_635 hk1 e1 rfl ?_
  refine ml_aload_n 2 hC dL_law_638 rfl rfl rfl ?_
  refine ml_rd 1 hC hX (by omega) rfl rfl dL_law_639 dL_law_640 dL_law_641 rfl dL_law_642 dL_law_643 rfl ?_
  refine ml_callV (st := [.int r]) (i := 147) [.int (xs (i + 1))] hC (c_X7_count l N0 D dA 147 (xs (i + 1))) (T := TX7) rfl (by decide) wc_L_88 ⟨by decide, by decide⟩ hk4 rfl (mv_cs (Nat.le_of_ble_eq_true rfl) (List.forall_mem_cons.mpr ⟨rfl, fun _ h => absurd h List.not_mem_nil⟩)) dL_law_644 hk2 e2 rfl ?_
  exact ml_eq (x := r) hC dL_law_647 rfl kk

set_option maxHeartbeats 4000000 in
set_option maxRecDepth 100000 in
theorem ml_case_18 {i : Nat} {r : UInt64} {h1 h2 : mv_Hp} (hC : mv_Lx p s m b meth c N0 D dA) (hX : mv_Lsc s b N0 Ls xs) (hi : i + 4 ≤ Ls) (hk1 : h.1[0]? = some (6, 7)) (hk2 : h1.1[147]? = some (7, 12)) (hk3 : h1.1.length ≤ 1000 ∧ h1.2.1 ≤ 10000) (hk4 : h2.1.length ≤ 1000 ∧ h2.2.1 ≤ 10000) (e1 : F_X6_lateness 0 h = some (r, h1)) (e2 : F_X7_lateness 147 h1 = some (r, h2)) (hnd : r &&& 0x7fffffffffffffff ≤ 0x7ff0000000000000) (kk : mv_Lw p l e s m b below meth c N0 D dA 864 [(0, .ref b), (1, .ref (N0 + 0)), (2, .ref (N0 + 147)), (3, .int (nI i))] [] h2) : mv_Lw p l e s m b below meth c N0 D dA 652 [(0, .ref b), (1, .ref (N0 + 0)), (2, .ref (N0 + 147)), (3, .int (nI i))] [] h := by
  refine ml_aload_n 1 hC dL_law_652 rfl rfl rfl ?_
  refine ml_callV (st := []) (i := 0) [] hC (c_X6_lateness l N0 D dA 0) (T := TX6) rfl (by decide) wc_L_89 ⟨by decide, by decide⟩ hk3 rfl (mv_cs (Nat.le_of_ble_eq_true rfl) (fun _ h => absurd h List.not_mem_nil)) dL_law_653 hk1 e1 rfl ?_
  refine ml_dstore hC dL_law_656 (by decide) rfl rfl ?_
  refine ml_aload_n 3 hC dL_law_658 rfl rfl rfl ?_
  refine ml_callV (st := []) (i := 147) [] hC (c_X7_lateness l N0 D dA 147) (T := TX7) rfl (by decide) wc_L_93 ⟨by decide, by decide⟩ hk4 rfl (mv_cs (Nat.le_of_ble_eq_true rfl) (fun _ h => absurd h List.not_mem_nil)) dL_law_659 hk2 e2 rfl ?_
  refine ml_dstore hC dL_law_662 (by decide) rfl rfl ?_
  refine ml_dload 1 hC dL_law_664 rfl rfl ?_
  refine ml_dload 0 hC dL_law_666 rfl rfl ?_
  refine ml_deq hC dL_law_668 hnd rfl ?_
  refine ml_ifeq (tgt := 690) hC dL_law_669 rfl rfl (fun _ => ?_) (fun z => absurd rfl z)
  refine ml_goto (q := 864) hC dL_law_690 rfl ?_
  exact ml_sub [2, 3, 4, 5] rfl kk

set_option maxHeartbeats 4000000 in
set_option maxRecDepth 100000 in
theorem ml_case_19 {i : Nat} {r : Int32} {h1 h2 : mv_Hp} (hC : mv_Lx p s m b meth c N0 D dA) (hX : mv_Lsc s b N0 Ls xs) (hi : i + 4 ≤ Ls) (hk1 : h.1[0]? = some (6, 7)) (hk2 : h1.1[147]? = some (7, 12)) (hk3 : h1.1.length ≤ 1000 ∧ h1.2.1 ≤ 10000) (hk4 : h2.1.length ≤ 1000 ∧ h2.2.1 ≤ 10000) (e1 : F_X6_ifPosted 0 (xs (i + 1)) (xs (i + 2)) (xs (i + 3)) h = some (r, h1)) (e2 : F_X7_ifPosted 147 (xs (i + 1)) (xs (i + 2)) (xs (i + 3)) h1 = some (r, h2)) (kk : mv_Lw p l e s m b below meth c N0 D dA 864 [(0, .ref b), (1, .ref (N0 + 0)), (2, .ref (N0 + 147)), (3, .int (nI i))] [] h2) : mv_Lw p l e s m b below meth c N0 D dA 693 [(0, .ref b), (1, .ref (N0 + 0)), (2, .ref (N0 + 147)), (3, .int (nI i))] [] h := by
  refine ml_aload_n 1 hC dL_law_693 rfl rfl rfl ?_
  refine ml_rd 1 hC hX (by omega) rfl rfl dL_law_694 dL_law_695 dL_law_696 rfl dL_law_697 dL_law_698 rfl ?_
  refine ml_rd 2 hC hX (by omega) rfl rfl dL_law_699 dL_law_700 dL_law_701 rfl dL_law_702 dL_law_703 rfl ?_
  refine ml_rd 3 hC hX (by omega) rfl rfl dL_law_704 dL_law_705 dL_law_706 rfl dL_law_707 dL_law_708 rfl ?_
  refine ml_callV (st := []) (i := 0) [.int (xs (i + 1)), .int (xs (i + 2)), .int (xs (i + 3))] hC (c_X6_ifPosted l N0 D dA 0 (xs (i + 1)) (xs (i + 2)) (xs (i + 3))) (T := TX6) rfl (by decide) wc_L_94 ⟨by decide, by decide⟩ hk3 rfl (mv_cs (Nat.le_of_ble_eq_true rfl) (fun _ h => absurd h List.not_mem_nil)) dL_law_709 hk1 e1 rfl ?_
  refine ml_aload_n 2 hC dL_law_712 rfl rfl rfl ?_
  refine ml_rd 1 hC hX (by omega) rfl rfl dL_law_713 dL_law_714 dL_law_715 rfl dL_law_716 dL_law_717 rfl ?_
  refine ml_rd 2 hC hX (by omega) rfl rfl dL_law_718 dL_law_719 dL_law_720 rfl dL_law_721 dL_law_722 rfl ?_
  refine ml_rd 3 hC hX (by omega) rfl rfl dL_law_723 dL_law_724 dL_law_725 rfl dL_law_726 dL_law_727 rfl ?_
  refine ml_callV (st := [.int r]) (i := 147) [.int (xs (i + 1)), .int (xs (i + 2)), .int (xs (i + 3))] hC (c_X7_ifPosted l N0 D dA 147 (xs (i + 1)) (xs (i + 2)) (xs (i + 3))) (T := TX7) rfl (by decide) wc_L_98 ⟨by decide, by decide⟩ hk4 rfl (mv_cs (Nat.le_of_ble_eq_true rfl) (List.forall_mem_cons.mpr ⟨rfl, fun _ h => absurd h List.not_mem_nil⟩)) dL_law_728 hk2 e2 rfl ?_
  exact ml_eq (x := r) hC dL_law_731 rfl kk

set_option maxHeartbeats 4000000 in
set_option maxRecDepth 100000 in
theorem ml_case_20 {i : Nat} {r : Int32} {h1 h2 : mv_Hp} (hC : mv_Lx p s m b meth c N0 D dA) (hX : mv_Lsc s b N0 Ls xs) (hi : i + 4 ≤ Ls) (hk1 : h.1[0]? = some (6, 7)) (hk2 : h1.1[147]? = some (7, 12)) (hk3 : h1.1.length ≤ 1000 ∧ h1.2.1 ≤ 10000) (hk4 : h2.1.length ≤ 1000 ∧ h2.2.1 ≤ 10000) (e1 : F_X6_bestDay 0 (xs (i + 1)) (xs (i + 2)) h = some (r, h1)) (e2 : F_X7_bestDay 147 (xs (i + 1)) (xs (i + 2)) h1 = some (r, h2)) (kk : mv_Lw p l e s m b below meth c N0 D dA 864 [(0, .ref b), (1, .ref (N0 + 0)), (2, .ref (N0 + 147)), (3, .int (nI i))] [] h2) : mv_Lw p l e s m b below meth c N0 D dA 736 [(0, .ref b), (1, .ref (N0 + 0)), (2, .ref (N0 + 147)), (3, .int (nI i))] [] h := by
  refine ml_aload_n 1 hC dL_law_736 rfl rfl rfl ?_
  refine ml_rd 1 hC hX (by omega) rfl rfl dL_law_737 dL_law_738 dL_law_739 rfl dL_law_740 dL_law_741 rfl ?_
  refine ml_rd 2 hC hX (by omega) rfl rfl dL_law_742 dL_law_743 dL_law_744 rfl dL_law_745 dL_law_746 rfl ?_
  refine ml_callV (st := []) (i := 0) [.int (xs (i + 1)), .int (xs (i + 2))] hC (c_X6_bestDay l N0 D dA 0 (xs (i + 1)) (xs (i + 2))) (T := TX6) rfl (by decide) wc_L_99 ⟨by decide, by decide⟩ hk3 rfl (mv_cs (Nat.le_of_ble_eq_true rfl) (fun _ h => absurd h List.not_mem_nil)) dL_law_747 hk1 e1 rfl ?_
  refine ml_aload_n 2 hC dL_law_750 rfl rfl rfl ?_
  refine ml_rd 1 hC hX (by omega) rfl rfl dL_law_751 dL_law_752 dL_law_753 rfl dL_law_754 dL_law_755 rfl ?_
  refine ml_rd 2 hC hX (by omega) rfl rfl dL_law_756 dL_law_757 dL_law_758 rfl dL_law_759 dL_law_760 rfl ?_
  refine ml_callV (st := [.int r]) (i := 147) [.int (xs (i + 1)), .int (xs (i + 2))] hC (c_X7_bestDay l N0 D dA 147 (xs (i + 1)) (xs (i + 2))) (T := TX7) rfl (by decide) wc_L_102 ⟨by decide, by decide⟩ hk4 rfl (mv_cs (Nat.le_of_ble_eq_true rfl) (List.forall_mem_cons.mpr ⟨rfl, fun _ h => absurd h List.not_mem_nil⟩)) dL_law_761 hk2 e2 rfl ?_
  exact ml_eq (x := r) hC dL_law_764 rfl kk

set_option maxHeartbeats 4000000 in
set_option maxRecDepth 100000 in
theorem ml_case_21 {i : Nat} {r : Int32} {h1 h2 : mv_Hp} (hC : mv_Lx p s m b meth c N0 D dA) (hX : mv_Lsc s b N0 Ls xs) (hi : i + 4 ≤ Ls) (hk1 : h.1[0]? = some (6, 7)) (hk2 : h1.1[147]? = some (7, 12)) (hk3 : h1.1.length ≤ 1000 ∧ h1.2.1 ≤ 10000) (hk4 : h2.1.length ≤ 1000 ∧ h2.2.1 ≤ 10000) (e1 : F_X6_bestTown 0 (xs (i + 1)) h = some (r, h1)) (e2 : F_X7_bestTown 147 (xs (i + 1)) h1 = some (r, h2)) (kk : mv_Lw p l e s m b below meth c N0 D dA 864 [(0, .ref b), (1, .ref (N0 + 0)), (2, .ref (N0 + 147)), (3, .int (nI i))] [] h2) : mv_Lw p l e s m b below meth c N0 D dA 769 [(0, .ref b), (1, .ref (N0 + 0)), (2, .ref (N0 + 147)), (3, .int (nI i))] [] h := by
  refine ml_aload_n 1 hC dL_law_769 rfl rfl rfl ?_
  refine ml_rd 1 hC hX (by omega) rfl rfl dL_law_770 dL_law_771 dL_law_772 rfl dL_law_773 dL_law_774 rfl ?_
  refine ml_callV (st := []) (i := 0) [.int (xs (i + 1))] hC (c_X6_bestTown l N0 D dA 0 (xs (i + 1))) (T := TX6) rfl (by decide) wc_L_103 ⟨by decide, by decide⟩ hk3 rfl (mv_cs (Nat.le_of_ble_eq_true rfl) (fun _ h => absurd h List.not_mem_nil)) dL_law_775 hk1 e1 rfl ?_
  refine ml_aload_n 2 hC dL_law_778 rfl rfl rfl ?_
  refine ml_rd 1 hC hX (by omega) rfl rfl dL_law_779 dL_law_780 dL_law_781 rfl dL_law_782 dL_law_783 rfl ?_
  refine ml_callV (st := [.int r]) (i := 147) [.int (xs (i + 1))] hC (c_X7_bestTown l N0 D dA 147 (xs (i + 1))) (T := TX7) rfl (by decide) wc_L_106 ⟨by decide, by decide⟩ hk4 rfl (mv_cs (Nat.le_of_ble_eq_true rfl) (List.forall_mem_cons.mpr ⟨rfl, fun _ h => absurd h List.not_mem_nil⟩)) dL_law_784 hk2 e2 rfl ?_
  exact ml_eq (x := r) hC dL_law_787 rfl kk

set_option maxHeartbeats 4000000 in
set_option maxRecDepth 100000 in
theorem ml_case_22 {i : Nat} {r : Int32} {h1 h2 : mv_Hp} (hC : mv_Lx p s m b meth c N0 D dA) (hX : mv_Lsc s b N0 Ls xs) (hi : i + 4 ≤ Ls) (hk1 : h.1[0]? = some (6, 7)) (hk2 : h1.1[147]? = some (7, 12)) (hk3 : h1.1.length ≤ 1000 ∧ h1.2.1 ≤ 10000) (hk4 : h2.1.length ≤ 1000 ∧ h2.2.1 ≤ 10000) (e1 : F_X6_ifPassed 0 (xs (i + 1)) (xs (i + 2)) h = some (r, h1)) (e2 : F_X7_ifPassed 147 (xs (i + 1)) (xs (i + 2)) h1 = some (r, h2)) (kk : mv_Lw p l e s m b below meth c N0 D dA 864 [(0, .ref b), (1, .ref (N0 + 0)), (2, .ref (N0 + 147)), (3, .int (nI i))] [] h2) : mv_Lw p l e s m b below meth c N0 D dA 792 [(0, .ref b), (1, .ref (N0 + 0)), (2, .ref (N0 + 147)), (3, .int (nI i))] [] h := by
  refine ml_aload_n 1 hC dL_law_792 rfl rfl rfl ?_
  refine ml_rd 1 hC hX (by omega) rfl rfl dL_law_793 dL_law_794 dL_law_795 rfl dL_law_796 dL_law_797 rfl ?_
  refine ml_rd 2 hC hX (by omega) rfl rfl dL_law_798 dL_law_799 dL_law_800 rfl dL_law_801 dL_law_802 rfl ?_
  refine ml_callV (st := []) (i := 0) [.int (xs (i + 1)), .int (xs (i + 2))] hC (c_X6_ifPassed l N0 D dA 0 (xs (i + 1)) (xs (i + 2))) (T := TX6) rfl (by decide) wc_L_107 ⟨by decide, by decide⟩ hk3 rfl (mv_cs (Nat.le_of_ble_eq_true rfl) (fun _ h => absurd h List.not_mem_nil)) dL_law_803 hk1 e1 rfl ?_
  refine ml_aload_n 2 hC dL_law_806 rfl rfl rfl ?_
  refine ml_rd 1 hC hX (by omega) rfl rfl dL_law_807 dL_law_808 dL_law_809 rfl dL_law_810 dL_law_811 rfl ?_
  refine ml_rd 2 hC hX (by omega) rfl rfl dL_law_812 dL_law_813 dL_law_814 rfl dL_law_815 dL_law_816 rfl ?_
  refine ml_callV (st := [.int r]) (i := 147) [.int (xs (i + 1)), .int (xs (i + 2))] hC (c_X7_ifPassed l N0 D dA 147 (xs (i + 1)) (xs (i + 2))) (T := TX7) rfl (by decide) wc_L_110 ⟨by decide, by decide⟩ hk4 rfl (mv_cs (Nat.le_of_ble_eq_true rfl) (List.forall_mem_cons.mpr ⟨rfl, fun _ h => absurd h List.not_mem_nil⟩)) dL_law_817 hk2 e2 rfl ?_
  exact ml_eq (x := r) hC dL_law_820 rfl kk

set_option maxHeartbeats 4000000 in
set_option maxRecDepth 100000 in
theorem ml_case_23 {i : Nat} {r : Int32} {h1 h2 : mv_Hp} (hC : mv_Lx p s m b meth c N0 D dA) (hX : mv_Lsc s b N0 Ls xs) (hi : i + 4 ≤ Ls) (hk1 : h.1[0]? = some (6, 7)) (hk2 : h1.1[147]? = some (7, 12)) (hk3 : h1.1.length ≤ 1000 ∧ h1.2.1 ≤ 10000) (hk4 : h2.1.length ≤ 1000 ∧ h2.2.1 ≤ 10000) (e1 : F_X6_undo 0 h = some (r, h1)) (e2 : F_X7_undo 147 h1 = some (r, h2)) (kk : mv_Lw p l e s m b below meth c N0 D dA 864 [(0, .ref b), (1, .ref (N0 + 0)), (2, .ref (N0 + 147)), (3, .int (nI i))] [] h2) : mv_Lw p l e s m b below meth c N0 D dA 825 [(0, .ref b), (1, .ref (N0 + 0)), (2, .ref (N0 + 147)), (3, .int (nI i))] [] h := by
  refine ml_aload_n 1 hC dL_law_825 rfl rfl rfl ?_
  refine ml_callV (st := []) (i := 0) [] hC (c_X6_undo l N0 D dA 0) (T := TX6) rfl (by decide) wc_L_111 ⟨by decide, by decide⟩ hk3 rfl (mv_cs (Nat.le_of_ble_eq_true rfl) (fun _ h => absurd h List.not_mem_nil)) dL_law_826 hk1 e1 rfl ?_
  refine ml_aload_n 2 hC dL_law_829 rfl rfl rfl ?_
  refine ml_callV (st := [.int r]) (i := 147) [] hC (c_X7_undo l N0 D dA 147) (T := TX7) rfl (by decide) wc_L_114 ⟨by decide, by decide⟩ hk4 rfl (mv_cs (Nat.le_of_ble_eq_true rfl) (List.forall_mem_cons.mpr ⟨rfl, fun _ h => absurd h List.not_mem_nil⟩)) dL_law_830 hk2 e2 rfl ?_
  exact ml_eq (x := r) hC dL_law_833 rfl kk

set_option maxHeartbeats 4000000 in
set_option maxRecDepth 100000 in
theorem ml_case_24 {i : Nat} {r : Int32} {h1 h2 : mv_Hp} (hC : mv_Lx p s m b meth c N0 D dA) (hX : mv_Lsc s b N0 Ls xs) (hi : i + 4 ≤ Ls) (hk1 : h.1[0]? = some (6, 7)) (hk2 : h1.1[147]? = some (7, 12)) (hk3 : h1.1.length ≤ 1000 ∧ h1.2.1 ≤ 10000) (hk4 : h2.1.length ≤ 1000 ∧ h2.2.1 ≤ 10000) (e1 : F_X6_save 0 h = some (r, h1)) (e2 : F_X7_save 147 h1 = some (r, h2)) (kk : mv_Lw p l e s m b below meth c N0 D dA 864 [(0, .ref b), (1, .ref (N0 + 0)), (2, .ref (N0 + 147)), (3, .int (nI i))] [] h2) : mv_Lw p l e s m b below meth c N0 D dA 838 [(0, .ref b), (1, .ref (N0 + 0)), (2, .ref (N0 + 147)), (3, .int (nI i))] [] h := by
  refine ml_aload_n 1 hC dL_law_838 rfl rfl rfl ?_
  refine ml_callV (st := []) (i := 0) [] hC (c_X6_save l N0 D dA 0) (T := TX6) rfl (by decide) wc_L_115 ⟨by decide, by decide⟩ hk3 rfl (mv_cs (Nat.le_of_ble_eq_true rfl) (fun _ h => absurd h List.not_mem_nil)) dL_law_839 hk1 e1 rfl ?_
  refine ml_aload_n 2 hC dL_law_842 rfl rfl rfl ?_
  refine ml_callV (st := [.int r]) (i := 147) [] hC (c_X7_save l N0 D dA 147) (T := TX7) rfl (by decide) wc_L_118 ⟨by decide, by decide⟩ hk4 rfl (mv_cs (Nat.le_of_ble_eq_true rfl) (List.forall_mem_cons.mpr ⟨rfl, fun _ h => absurd h List.not_mem_nil⟩)) dL_law_843 hk2 e2 rfl ?_
  exact ml_eq (x := r) hC dL_law_846 rfl kk

set_option maxHeartbeats 4000000 in
set_option maxRecDepth 100000 in
theorem ml_case_25 {i : Nat} {r : Int32} {h1 h2 : mv_Hp} (hC : mv_Lx p s m b meth c N0 D dA) (hX : mv_Lsc s b N0 Ls xs) (hi : i + 4 ≤ Ls) (hk1 : h.1[0]? = some (6, 7)) (hk2 : h1.1[147]? = some (7, 12)) (hk3 : h1.1.length ≤ 1000 ∧ h1.2.1 ≤ 10000) (hk4 : h2.1.length ≤ 1000 ∧ h2.2.1 ≤ 10000) (e1 : F_X6_restore 0 h = some (r, h1)) (e2 : F_X7_restore 147 h1 = some (r, h2)) (kk : mv_Lw p l e s m b below meth c N0 D dA 864 [(0, .ref b), (1, .ref (N0 + 0)), (2, .ref (N0 + 147)), (3, .int (nI i))] [] h2) : mv_Lw p l e s m b below meth c N0 D dA 851 [(0, .ref b), (1, .ref (N0 + 0)), (2, .ref (N0 + 147)), (3, .int (nI i))] [] h := by
  refine ml_aload_n 1 hC dL_law_851 rfl rfl rfl ?_
  refine ml_callV (st := []) (i := 0) [] hC (c_X6_restore l N0 D dA 0) (T := TX6) rfl (by decide) wc_L_119 ⟨by decide, by decide⟩ hk3 rfl (mv_cs (Nat.le_of_ble_eq_true rfl) (fun _ h => absurd h List.not_mem_nil)) dL_law_852 hk1 e1 rfl ?_
  refine ml_aload_n 2 hC dL_law_855 rfl rfl rfl ?_
  refine ml_callV (st := [.int r]) (i := 147) [] hC (c_X7_restore l N0 D dA 147) (T := TX7) rfl (by decide) wc_L_122 ⟨by decide, by decide⟩ hk4 rfl (mv_cs (Nat.le_of_ble_eq_true rfl) (List.forall_mem_cons.mpr ⟨rfl, fun _ h => absurd h List.not_mem_nil⟩)) dL_law_856 hk2 e2 rfl ?_
  exact ml_eq (x := r) hC dL_law_859 rfl kk
end MVL
