/-! ===== the law's wrappers: their words and instructions ===== -/
def zSW (y : MethodName) (bytes : ByteArray) (maxL : Nat) (ret : Option FieldType) (hh : List (Nat × Nat × Nat × Nat)) : Prop := Cond.static y ∈ lw_tbl ∧ Cond.initialized y.cls ∈ lw_tbl ∧ Cond.codeWith y bytes maxL ret hh ∈ lw_tbl
def hL_put : List (Nat × Nat × Nat × Nat) := [(0, 11, 14, 19)]
theorem zw_L_put : zSW yL_put cL_put 5 (some .int) hL_put := ⟨tb2 (List.mem_of_getElem? (i := 4) rfl), tb1 (List.mem_of_getElem? (i := 0) rfl), tb2 (List.mem_of_getElem? (i := 5) rfl)⟩
def hL_mono : List (Nat × Nat × Nat × Nat) := [(0, 11, 14, 19), (0, 11, 18, 24)]
theorem zw_L_mono : zSW yL_mono cL_mono 5 (some .int) hL_mono := ⟨tb2 (List.mem_of_getElem? (i := 17) rfl), tb1 (List.mem_of_getElem? (i := 0) rfl), tb2 (List.mem_of_getElem? (i := 18) rfl)⟩
def hL_digit : List (Nat × Nat × Nat × Nat) := [(0, 20, 23, 19), (0, 20, 27, 24)]
theorem zw_L_digit : zSW yL_digit cL_digit 6 (some .int) hL_digit := ⟨tb2 (List.mem_of_getElem? (i := 26) rfl), tb1 (List.mem_of_getElem? (i := 0) rfl), tb2 (List.mem_of_getElem? (i := 27) rfl)⟩
def hL_flip : List (Nat × Nat × Nat × Nat) := [(0, 18, 21, 19), (0, 18, 25, 24)]
theorem zw_L_flip : zSW yL_flip cL_flip 5 (some .int) hL_flip := ⟨tb2 (List.mem_of_getElem? (i := 35) rfl), tb1 (List.mem_of_getElem? (i := 0) rfl), tb2 (List.mem_of_getElem? (i := 36) rfl)⟩
def hL_copy : List (Nat × Nat × Nat × Nat) := [(0, 11, 14, 19)]
theorem zw_L_copy : zSW yL_copy cL_copy 5 (some .int) hL_copy := ⟨tb2 (List.mem_of_getElem? (i := 42) rfl), tb1 (List.mem_of_getElem? (i := 0) rfl), tb2 (List.mem_of_getElem? (i := 43) rfl)⟩
def hL_swap : List (Nat × Nat × Nat × Nat) := [(0, 11, 14, 19)]
theorem zw_L_swap : zSW yL_swap cL_swap 5 (some .int) hL_swap := ⟨tb2 (List.mem_of_getElem? (i := 49) rfl), tb1 (List.mem_of_getElem? (i := 0) rfl), tb2 (List.mem_of_getElem? (i := 50) rfl)⟩
def hL_end : List (Nat × Nat × Nat × Nat) := [(0, 15, 18, 19)]
theorem zw_L_end : zSW yL_end cL_end 7 (some .int) hL_end := ⟨tb2 (List.mem_of_getElem? (i := 56) rfl), tb1 (List.mem_of_getElem? (i := 0) rfl), tb2 (List.mem_of_getElem? (i := 57) rfl)⟩
def hL_join : List (Nat × Nat × Nat × Nat) := [(0, 15, 18, 19), (0, 15, 22, 24)]
theorem zw_L_join : zSW yL_join cL_join 7 (some .int) hL_join := ⟨tb2 (List.mem_of_getElem? (i := 69) rfl), tb1 (List.mem_of_getElem? (i := 0) rfl), tb2 (List.mem_of_getElem? (i := 70) rfl)⟩
def hL_times : List (Nat × Nat × Nat × Nat) := [(0, 13, 16, 19)]
theorem zw_L_times : zSW yL_times cL_times 6 (some .int) hL_times := ⟨tb2 (List.mem_of_getElem? (i := 80) rfl), tb1 (List.mem_of_getElem? (i := 0) rfl), tb2 (List.mem_of_getElem? (i := 81) rfl)⟩
def hL_square : List (Nat × Nat × Nat × Nat) := [(0, 11, 14, 19)]
theorem zw_L_square : zSW yL_square cL_square 5 (some .int) hL_square := ⟨tb2 (List.mem_of_getElem? (i := 95) rfl), tb1 (List.mem_of_getElem? (i := 0) rfl), tb2 (List.mem_of_getElem? (i := 96) rfl)⟩
def hL_shift : List (Nat × Nat × Nat × Nat) := [(0, 13, 16, 19), (0, 13, 20, 24)]
theorem zw_L_shift : zSW yL_shift cL_shift 6 (some .int) hL_shift := ⟨tb2 (List.mem_of_getElem? (i := 102) rfl), tb1 (List.mem_of_getElem? (i := 0) rfl), tb2 (List.mem_of_getElem? (i := 103) rfl)⟩
def hL_quotient : List (Nat × Nat × Nat × Nat) := [(0, 13, 16, 19)]
theorem zw_L_quotient : zSW yL_quotient cL_quotient 6 (some .int) hL_quotient := ⟨tb2 (List.mem_of_getElem? (i := 109) rfl), tb1 (List.mem_of_getElem? (i := 0) rfl), tb2 (List.mem_of_getElem? (i := 110) rfl)⟩
def hL_rest : List (Nat × Nat × Nat × Nat) := [(0, 13, 16, 19)]
theorem zw_L_rest : zSW yL_rest cL_rest 6 (some .int) hL_rest := ⟨tb2 (List.mem_of_getElem? (i := 117) rfl), tb1 (List.mem_of_getElem? (i := 0) rfl), tb2 (List.mem_of_getElem? (i := 118) rfl)⟩
def hL_gcd : List (Nat × Nat × Nat × Nat) := [(0, 13, 16, 19)]
theorem zw_L_gcd : zSW yL_gcd cL_gcd 6 (some .int) hL_gcd := ⟨tb2 (List.mem_of_getElem? (i := 127) rfl), tb1 (List.mem_of_getElem? (i := 0) rfl), tb2 (List.mem_of_getElem? (i := 128) rfl)⟩
def hL_lcm : List (Nat × Nat × Nat × Nat) := [(0, 13, 16, 19)]
theorem zw_L_lcm : zSW yL_lcm cL_lcm 6 (some .int) hL_lcm := ⟨tb2 (List.mem_of_getElem? (i := 134) rfl), tb1 (List.mem_of_getElem? (i := 0) rfl), tb2 (List.mem_of_getElem? (i := 135) rfl)⟩
def hL_bezout : List (Nat × Nat × Nat × Nat) := [(0, 15, 18, 19)]
theorem zw_L_bezout : zSW yL_bezout cL_bezout 7 (some .int) hL_bezout := ⟨tb2 (List.mem_of_getElem? (i := 141) rfl), tb1 (List.mem_of_getElem? (i := 0) rfl), tb2 (List.mem_of_getElem? (i := 142) rfl)⟩
def hL_derive : List (Nat × Nat × Nat × Nat) := [(0, 11, 14, 19)]
theorem zw_L_derive : zSW yL_derive cL_derive 5 (some .int) hL_derive := ⟨tb2 (List.mem_of_getElem? (i := 148) rfl), tb1 (List.mem_of_getElem? (i := 0) rfl), tb2 (List.mem_of_getElem? (i := 149) rfl)⟩
def hL_root : List (Nat × Nat × Nat × Nat) := [(0, 11, 14, 19)]
theorem zw_L_root : zSW yL_root cL_root 5 (some .int) hL_root := ⟨tb2 (List.mem_of_getElem? (i := 159) rfl), tb1 (List.mem_of_getElem? (i := 0) rfl), tb2 (List.mem_of_getElem? (i := 160) rfl)⟩
def hL_turn : List (Nat × Nat × Nat × Nat) := [(0, 11, 14, 19)]
theorem zw_L_turn : zSW yL_turn cL_turn 5 (some .int) hL_turn := ⟨tb2 (List.mem_of_getElem? (i := 169) rfl), tb1 (List.mem_of_getElem? (i := 0) rfl), tb2 (List.mem_of_getElem? (i := 170) rfl)⟩
def hL_move : List (Nat × Nat × Nat × Nat) := [(0, 11, 14, 19)]
theorem zw_L_move : zSW yL_move cL_move 5 (some .int) hL_move := ⟨tb2 (List.mem_of_getElem? (i := 179) rfl), tb1 (List.mem_of_getElem? (i := 0) rfl), tb2 (List.mem_of_getElem? (i := 180) rfl)⟩
def hL_power : List (Nat × Nat × Nat × Nat) := [(0, 15, 18, 19), (0, 15, 22, 24)]
theorem zw_L_power : zSW yL_power cL_power 7 (some .int) hL_power := ⟨tb2 (List.mem_of_getElem? (i := 189) rfl), tb1 (List.mem_of_getElem? (i := 0) rfl), tb2 (List.mem_of_getElem? (i := 190) rfl)⟩
def hL_nth : List (Nat × Nat × Nat × Nat) := [(0, 13, 16, 19), (0, 13, 20, 24)]
theorem zw_L_nth : zSW yL_nth cL_nth 6 (some .int) hL_nth := ⟨tb2 (List.mem_of_getElem? (i := 203) rfl), tb1 (List.mem_of_getElem? (i := 0) rfl), tb2 (List.mem_of_getElem? (i := 204) rfl)⟩
def hL_field : List (Nat × Nat × Nat × Nat) := [(0, 11, 14, 19), (0, 11, 18, 24)]
theorem zw_L_field : zSW yL_field cL_field 5 (some .int) hL_field := ⟨tb2 (List.mem_of_getElem? (i := 222) rfl), tb1 (List.mem_of_getElem? (i := 0) rfl), tb2 (List.mem_of_getElem? (i := 223) rfl)⟩
def hL_again : List (Nat × Nat × Nat × Nat) := [(0, 13, 16, 19), (0, 13, 20, 24)]
theorem zw_L_again : zSW yL_again cL_again 6 (some .int) hL_again := ⟨tb2 (List.mem_of_getElem? (i := 236) rfl), tb1 (List.mem_of_getElem? (i := 0) rfl), tb2 (List.mem_of_getElem? (i := 237) rfl)⟩
def hL_degree : List (Nat × Nat × Nat × Nat) := [(0, 10, 13, 19)]
theorem zw_L_degree : zSW yL_degree cL_degree 4 (some .int) hL_degree := ⟨tb3 (List.mem_of_getElem? (i := 3) rfl), tb1 (List.mem_of_getElem? (i := 0) rfl), tb3 (List.mem_of_getElem? (i := 4) rfl)⟩
def hL_low : List (Nat × Nat × Nat × Nat) := [(0, 10, 13, 19)]
theorem zw_L_low : zSW yL_low cL_low 4 (some .int) hL_low := ⟨tb3 (List.mem_of_getElem? (i := 7) rfl), tb1 (List.mem_of_getElem? (i := 0) rfl), tb3 (List.mem_of_getElem? (i := 8) rfl)⟩
def hL_weight : List (Nat × Nat × Nat × Nat) := [(0, 10, 13, 19)]
theorem zw_L_weight : zSW yL_weight cL_weight 4 (some .int) hL_weight := ⟨tb3 (List.mem_of_getElem? (i := 11) rfl), tb1 (List.mem_of_getElem? (i := 0) rfl), tb3 (List.mem_of_getElem? (i := 12) rfl)⟩
def hL_at : List (Nat × Nat × Nat × Nat) := [(0, 18, 21, 19), (0, 18, 25, 24)]
theorem zw_L_at : zSW yL_at cL_at 5 (some .int) hL_at := ⟨tb3 (List.mem_of_getElem? (i := 15) rfl), tb1 (List.mem_of_getElem? (i := 0) rfl), tb3 (List.mem_of_getElem? (i := 16) rfl)⟩
def hL_digits : List (Nat × Nat × Nat × Nat) := [(0, 10, 13, 19)]
theorem zw_L_digits : zSW yL_digits cL_digits 4 (some .int) hL_digits := ⟨tb3 (List.mem_of_getElem? (i := 22) rfl), tb1 (List.mem_of_getElem? (i := 0) rfl), tb3 (List.mem_of_getElem? (i := 23) rfl)⟩
def hL_text : List (Nat × Nat × Nat × Nat) := [(0, 9, 12, 19)]
theorem zw_L_text : zSW yL_text cL_text 4 (some .int) hL_text := ⟨tb3 (List.mem_of_getElem? (i := 26) rfl), tb1 (List.mem_of_getElem? (i := 0) rfl), tb3 (List.mem_of_getElem? (i := 27) rfl)⟩
def hL_code : List (Nat × Nat × Nat × Nat) := [(0, 10, 13, 19), (0, 10, 17, 24)]
theorem zw_L_code : zSW yL_code cL_code 5 (some .int) hL_code := ⟨tb4 (List.mem_of_getElem? (i := 64) rfl), tb1 (List.mem_of_getElem? (i := 0) rfl), tb4 (List.mem_of_getElem? (i := 65) rfl)⟩
def hL_order : List (Nat × Nat × Nat × Nat) := [(0, 11, 14, 19)]
theorem zw_L_order : zSW yL_order cL_order 5 (some .int) hL_order := ⟨tb4 (List.mem_of_getElem? (i := 109) rfl), tb1 (List.mem_of_getElem? (i := 0) rfl), tb4 (List.mem_of_getElem? (i := 110) rfl)⟩
def hL_isSame : List (Nat × Nat × Nat × Nat) := [(0, 18, 21, 19)]
theorem zw_L_isSame : zSW yL_isSame cL_isSame 5 (some .int) hL_isSame := ⟨tb4 (List.mem_of_getElem? (i := 113) rfl), tb1 (List.mem_of_getElem? (i := 0) rfl), tb4 (List.mem_of_getElem? (i := 114) rfl)⟩
def hL_value : List (Nat × Nat × Nat × Nat) := [(0, 11, 14, 19)]
theorem zw_L_value : zSW yL_value cL_value 5 (some .int) hL_value := ⟨tb4 (List.mem_of_getElem? (i := 120) rfl), tb1 (List.mem_of_getElem? (i := 0) rfl), tb4 (List.mem_of_getElem? (i := 121) rfl)⟩
def hL_divides : List (Nat × Nat × Nat × Nat) := [(0, 18, 21, 19)]
theorem zw_L_divides : zSW yL_divides cL_divides 5 (some .int) hL_divides := ⟨tb4 (List.mem_of_getElem? (i := 127) rfl), tb1 (List.mem_of_getElem? (i := 0) rfl), tb4 (List.mem_of_getElem? (i := 128) rfl)⟩
def hL_isFree : List (Nat × Nat × Nat × Nat) := [(0, 17, 20, 19)]
theorem zw_L_isFree : zSW yL_isFree cL_isFree 4 (some .int) hL_isFree := ⟨tb4 (List.mem_of_getElem? (i := 135) rfl), tb1 (List.mem_of_getElem? (i := 0) rfl), tb4 (List.mem_of_getElem? (i := 136) rfl)⟩
def hL_irreducible : List (Nat × Nat × Nat × Nat) := [(0, 10, 13, 19)]
theorem zw_L_irreducible : zSW yL_irreducible cL_irreducible 4 (some .int) hL_irreducible := ⟨tb4 (List.mem_of_getElem? (i := 142) rfl), tb1 (List.mem_of_getElem? (i := 0) rfl), tb4 (List.mem_of_getElem? (i := 143) rfl)⟩
def hL_rank : List (Nat × Nat × Nat × Nat) := [(0, 10, 13, 19)]
theorem zw_L_rank : zSW yL_rank cL_rank 4 (some .int) hL_rank := ⟨tb4 (List.mem_of_getElem? (i := 150) rfl), tb1 (List.mem_of_getElem? (i := 0) rfl), tb4 (List.mem_of_getElem? (i := 151) rfl)⟩
def hL_factors : List (Nat × Nat × Nat × Nat) := [(0, 9, 12, 19)]
theorem zw_L_factors : zSW yL_factors cL_factors 4 (some .int) hL_factors := ⟨tb4 (List.mem_of_getElem? (i := 160) rfl), tb1 (List.mem_of_getElem? (i := 0) rfl), tb4 (List.mem_of_getElem? (i := 161) rfl)⟩
def hL_period : List (Nat × Nat × Nat × Nat) := [(0, 10, 13, 19)]
theorem zw_L_period : zSW yL_period cL_period 4 (some .int) hL_period := ⟨tb4 (List.mem_of_getElem? (i := 178) rfl), tb1 (List.mem_of_getElem? (i := 0) rfl), tb4 (List.mem_of_getElem? (i := 179) rfl)⟩
def hL_many : List (Nat × Nat × Nat × Nat) := [(0, 10, 13, 24)]
theorem zw_L_many : zSW yL_many cL_many 4 (some .int) hL_many := ⟨tb4 (List.mem_of_getElem? (i := 189) rfl), tb1 (List.mem_of_getElem? (i := 0) rfl), tb4 (List.mem_of_getElem? (i := 190) rfl)⟩
def hL_formula : List (Nat × Nat × Nat × Nat) := [(0, 10, 13, 24)]
theorem zw_L_formula : zSW yL_formula cL_formula 4 (some .int) hL_formula := ⟨tb4 (List.mem_of_getElem? (i := 196) rfl), tb1 (List.mem_of_getElem? (i := 0) rfl), tb4 (List.mem_of_getElem? (i := 197) rfl)⟩
def hL_find : List (Nat × Nat × Nat × Nat) := [(0, 11, 14, 19)]
theorem zw_L_find : zSW yL_find cL_find 5 (some .int) hL_find := ⟨tb4 (List.mem_of_getElem? (i := 209) rfl), tb1 (List.mem_of_getElem? (i := 0) rfl), tb4 (List.mem_of_getElem? (i := 210) rfl)⟩
def hL_house : List (Nat × Nat × Nat × Nat) := [(0, 10, 13, 24)]
theorem zw_L_house : zSW yL_house cL_house 4 (some .int) hL_house := ⟨tb4 (List.mem_of_getElem? (i := 213) rfl), tb1 (List.mem_of_getElem? (i := 0) rfl), tb4 (List.mem_of_getElem? (i := 214) rfl)⟩
def tL_put_0 : List (Nat × Instr × Nat) := [(0, .aload_n 3, 1), (1, .aload_n 0, 1), (2, .iload_n 1, 1), (3, .iload_n 2, 1), (4, .invokevirtual 7, 3), (7, .i2l, 1), (8, .putfield 13, 3), (11, .goto 7, 3), (14, .astore 4, 2), (16, .iconst 1, 1), (17, .ireturn, 1), (18, .iconst 0, 1), (19, .ireturn, 1)]
theorem otL_put_0 : ∀ q ∈ tL_put_0, decode cL_put q.1 = .ok q.2 := by decide +kernel
theorem dL_put_0 : decode cL_put 0 = .ok (.aload_n 3, 1) := otL_put_0 (0, .aload_n 3, 1) (List.mem_of_getElem? (i := 0) rfl)
theorem dL_put_1 : decode cL_put 1 = .ok (.aload_n 0, 1) := otL_put_0 (1, .aload_n 0, 1) (List.mem_of_getElem? (i := 1) rfl)
theorem dL_put_2 : decode cL_put 2 = .ok (.iload_n 1, 1) := otL_put_0 (2, .iload_n 1, 1) (List.mem_of_getElem? (i := 2) rfl)
theorem dL_put_3 : decode cL_put 3 = .ok (.iload_n 2, 1) := otL_put_0 (3, .iload_n 2, 1) (List.mem_of_getElem? (i := 3) rfl)
theorem dL_put_4 : decode cL_put 4 = .ok (.invokevirtual 7, 3) := otL_put_0 (4, .invokevirtual 7, 3) (List.mem_of_getElem? (i := 4) rfl)
theorem dL_put_7 : decode cL_put 7 = .ok (.i2l, 1) := otL_put_0 (7, .i2l, 1) (List.mem_of_getElem? (i := 5) rfl)
theorem dL_put_8 : decode cL_put 8 = .ok (.putfield 13, 3) := otL_put_0 (8, .putfield 13, 3) (List.mem_of_getElem? (i := 6) rfl)
theorem dL_put_11 : decode cL_put 11 = .ok (.goto 7, 3) := otL_put_0 (11, .goto 7, 3) (List.mem_of_getElem? (i := 7) rfl)
theorem dL_put_14 : decode cL_put 14 = .ok (.astore 4, 2) := otL_put_0 (14, .astore 4, 2) (List.mem_of_getElem? (i := 8) rfl)
theorem dL_put_16 : decode cL_put 16 = .ok (.iconst 1, 1) := otL_put_0 (16, .iconst 1, 1) (List.mem_of_getElem? (i := 9) rfl)
theorem dL_put_17 : decode cL_put 17 = .ok (.ireturn, 1) := otL_put_0 (17, .ireturn, 1) (List.mem_of_getElem? (i := 10) rfl)
theorem dL_put_18 : decode cL_put 18 = .ok (.iconst 0, 1) := otL_put_0 (18, .iconst 0, 1) (List.mem_of_getElem? (i := 11) rfl)
theorem dL_put_19 : decode cL_put 19 = .ok (.ireturn, 1) := otL_put_0 (19, .ireturn, 1) (List.mem_of_getElem? (i := 12) rfl)
def tL_mono_0 : List (Nat × Instr × Nat) := [(0, .aload_n 3, 1), (1, .aload_n 0, 1), (2, .iload_n 1, 1), (3, .iload_n 2, 1), (4, .invokevirtual 21, 3), (7, .i2l, 1), (8, .putfield 13, 3), (11, .goto 11, 3), (14, .astore 4, 2), (16, .iconst 1, 1), (17, .ireturn, 1), (18, .astore 4, 2), (20, .iconst 2, 1), (21, .ireturn, 1), (22, .iconst 0, 1), (23, .ireturn, 1)]
theorem otL_mono_0 : ∀ q ∈ tL_mono_0, decode cL_mono q.1 = .ok q.2 := by decide +kernel
theorem dL_mono_0 : decode cL_mono 0 = .ok (.aload_n 3, 1) := otL_mono_0 (0, .aload_n 3, 1) (List.mem_of_getElem? (i := 0) rfl)
theorem dL_mono_1 : decode cL_mono 1 = .ok (.aload_n 0, 1) := otL_mono_0 (1, .aload_n 0, 1) (List.mem_of_getElem? (i := 1) rfl)
theorem dL_mono_2 : decode cL_mono 2 = .ok (.iload_n 1, 1) := otL_mono_0 (2, .iload_n 1, 1) (List.mem_of_getElem? (i := 2) rfl)
theorem dL_mono_3 : decode cL_mono 3 = .ok (.iload_n 2, 1) := otL_mono_0 (3, .iload_n 2, 1) (List.mem_of_getElem? (i := 3) rfl)
theorem dL_mono_4 : decode cL_mono 4 = .ok (.invokevirtual 21, 3) := otL_mono_0 (4, .invokevirtual 21, 3) (List.mem_of_getElem? (i := 4) rfl)
theorem dL_mono_7 : decode cL_mono 7 = .ok (.i2l, 1) := otL_mono_0 (7, .i2l, 1) (List.mem_of_getElem? (i := 5) rfl)
theorem dL_mono_8 : decode cL_mono 8 = .ok (.putfield 13, 3) := otL_mono_0 (8, .putfield 13, 3) (List.mem_of_getElem? (i := 6) rfl)
theorem dL_mono_11 : decode cL_mono 11 = .ok (.goto 11, 3) := otL_mono_0 (11, .goto 11, 3) (List.mem_of_getElem? (i := 7) rfl)
theorem dL_mono_14 : decode cL_mono 14 = .ok (.astore 4, 2) := otL_mono_0 (14, .astore 4, 2) (List.mem_of_getElem? (i := 8) rfl)
theorem dL_mono_16 : decode cL_mono 16 = .ok (.iconst 1, 1) := otL_mono_0 (16, .iconst 1, 1) (List.mem_of_getElem? (i := 9) rfl)
theorem dL_mono_17 : decode cL_mono 17 = .ok (.ireturn, 1) := otL_mono_0 (17, .ireturn, 1) (List.mem_of_getElem? (i := 10) rfl)
theorem dL_mono_18 : decode cL_mono 18 = .ok (.astore 4, 2) := otL_mono_0 (18, .astore 4, 2) (List.mem_of_getElem? (i := 11) rfl)
theorem dL_mono_20 : decode cL_mono 20 = .ok (.iconst 2, 1) := otL_mono_0 (20, .iconst 2, 1) (List.mem_of_getElem? (i := 12) rfl)
theorem dL_mono_21 : decode cL_mono 21 = .ok (.ireturn, 1) := otL_mono_0 (21, .ireturn, 1) (List.mem_of_getElem? (i := 13) rfl)
theorem dL_mono_22 : decode cL_mono 22 = .ok (.iconst 0, 1) := otL_mono_0 (22, .iconst 0, 1) (List.mem_of_getElem? (i := 14) rfl)
theorem dL_mono_23 : decode cL_mono 23 = .ok (.ireturn, 1) := otL_mono_0 (23, .ireturn, 1) (List.mem_of_getElem? (i := 15) rfl)
def tL_digit_0 : List (Nat × Instr × Nat) := [(0, .aload 4, 2), (2, .aload_n 0, 1), (3, .iload_n 1, 1), (4, .iload_n 2, 1), (5, .iload_n 3, 1), (6, .invokevirtual 26, 3), (9, .ifCond .eq 7, 3), (12, .lconst 1, 1), (13, .goto 4, 3), (16, .lconst 0, 1), (17, .putfield 13, 3), (20, .goto 11, 3), (23, .astore 5, 2), (25, .iconst 1, 1), (26, .ireturn, 1), (27, .astore 5, 2), (29, .iconst 2, 1), (30, .ireturn, 1), (31, .iconst 0, 1), (32, .ireturn, 1)]
theorem otL_digit_0 : ∀ q ∈ tL_digit_0, decode cL_digit q.1 = .ok q.2 := by decide +kernel
theorem dL_digit_0 : decode cL_digit 0 = .ok (.aload 4, 2) := otL_digit_0 (0, .aload 4, 2) (List.mem_of_getElem? (i := 0) rfl)
theorem dL_digit_2 : decode cL_digit 2 = .ok (.aload_n 0, 1) := otL_digit_0 (2, .aload_n 0, 1) (List.mem_of_getElem? (i := 1) rfl)
theorem dL_digit_3 : decode cL_digit 3 = .ok (.iload_n 1, 1) := otL_digit_0 (3, .iload_n 1, 1) (List.mem_of_getElem? (i := 2) rfl)
theorem dL_digit_4 : decode cL_digit 4 = .ok (.iload_n 2, 1) := otL_digit_0 (4, .iload_n 2, 1) (List.mem_of_getElem? (i := 3) rfl)
theorem dL_digit_5 : decode cL_digit 5 = .ok (.iload_n 3, 1) := otL_digit_0 (5, .iload_n 3, 1) (List.mem_of_getElem? (i := 4) rfl)
theorem dL_digit_6 : decode cL_digit 6 = .ok (.invokevirtual 26, 3) := otL_digit_0 (6, .invokevirtual 26, 3) (List.mem_of_getElem? (i := 5) rfl)
theorem dL_digit_9 : decode cL_digit 9 = .ok (.ifCond .eq 7, 3) := otL_digit_0 (9, .ifCond .eq 7, 3) (List.mem_of_getElem? (i := 6) rfl)
theorem dL_digit_12 : decode cL_digit 12 = .ok (.lconst 1, 1) := otL_digit_0 (12, .lconst 1, 1) (List.mem_of_getElem? (i := 7) rfl)
theorem dL_digit_13 : decode cL_digit 13 = .ok (.goto 4, 3) := otL_digit_0 (13, .goto 4, 3) (List.mem_of_getElem? (i := 8) rfl)
theorem dL_digit_16 : decode cL_digit 16 = .ok (.lconst 0, 1) := otL_digit_0 (16, .lconst 0, 1) (List.mem_of_getElem? (i := 9) rfl)
theorem dL_digit_17 : decode cL_digit 17 = .ok (.putfield 13, 3) := otL_digit_0 (17, .putfield 13, 3) (List.mem_of_getElem? (i := 10) rfl)
theorem dL_digit_20 : decode cL_digit 20 = .ok (.goto 11, 3) := otL_digit_0 (20, .goto 11, 3) (List.mem_of_getElem? (i := 11) rfl)
theorem dL_digit_23 : decode cL_digit 23 = .ok (.astore 5, 2) := otL_digit_0 (23, .astore 5, 2) (List.mem_of_getElem? (i := 12) rfl)
theorem dL_digit_25 : decode cL_digit 25 = .ok (.iconst 1, 1) := otL_digit_0 (25, .iconst 1, 1) (List.mem_of_getElem? (i := 13) rfl)
theorem dL_digit_26 : decode cL_digit 26 = .ok (.ireturn, 1) := otL_digit_0 (26, .ireturn, 1) (List.mem_of_getElem? (i := 14) rfl)
theorem dL_digit_27 : decode cL_digit 27 = .ok (.astore 5, 2) := otL_digit_0 (27, .astore 5, 2) (List.mem_of_getElem? (i := 15) rfl)
theorem dL_digit_29 : decode cL_digit 29 = .ok (.iconst 2, 1) := otL_digit_0 (29, .iconst 2, 1) (List.mem_of_getElem? (i := 16) rfl)
theorem dL_digit_30 : decode cL_digit 30 = .ok (.ireturn, 1) := otL_digit_0 (30, .ireturn, 1) (List.mem_of_getElem? (i := 17) rfl)
theorem dL_digit_31 : decode cL_digit 31 = .ok (.iconst 0, 1) := otL_digit_0 (31, .iconst 0, 1) (List.mem_of_getElem? (i := 18) rfl)
theorem dL_digit_32 : decode cL_digit 32 = .ok (.ireturn, 1) := otL_digit_0 (32, .ireturn, 1) (List.mem_of_getElem? (i := 19) rfl)
def tL_flip_0 : List (Nat × Instr × Nat) := [(0, .aload_n 3, 1), (1, .aload_n 0, 1), (2, .iload_n 1, 1), (3, .iload_n 2, 1), (4, .invokevirtual 30, 3), (7, .ifCond .eq 7, 3), (10, .lconst 1, 1), (11, .goto 4, 3), (14, .lconst 0, 1), (15, .putfield 13, 3), (18, .goto 11, 3), (21, .astore 4, 2), (23, .iconst 1, 1), (24, .ireturn, 1), (25, .astore 4, 2), (27, .iconst 2, 1), (28, .ireturn, 1), (29, .iconst 0, 1), (30, .ireturn, 1)]
theorem otL_flip_0 : ∀ q ∈ tL_flip_0, decode cL_flip q.1 = .ok q.2 := by decide +kernel
theorem dL_flip_0 : decode cL_flip 0 = .ok (.aload_n 3, 1) := otL_flip_0 (0, .aload_n 3, 1) (List.mem_of_getElem? (i := 0) rfl)
theorem dL_flip_1 : decode cL_flip 1 = .ok (.aload_n 0, 1) := otL_flip_0 (1, .aload_n 0, 1) (List.mem_of_getElem? (i := 1) rfl)
theorem dL_flip_2 : decode cL_flip 2 = .ok (.iload_n 1, 1) := otL_flip_0 (2, .iload_n 1, 1) (List.mem_of_getElem? (i := 2) rfl)
theorem dL_flip_3 : decode cL_flip 3 = .ok (.iload_n 2, 1) := otL_flip_0 (3, .iload_n 2, 1) (List.mem_of_getElem? (i := 3) rfl)
theorem dL_flip_4 : decode cL_flip 4 = .ok (.invokevirtual 30, 3) := otL_flip_0 (4, .invokevirtual 30, 3) (List.mem_of_getElem? (i := 4) rfl)
theorem dL_flip_7 : decode cL_flip 7 = .ok (.ifCond .eq 7, 3) := otL_flip_0 (7, .ifCond .eq 7, 3) (List.mem_of_getElem? (i := 5) rfl)
theorem dL_flip_10 : decode cL_flip 10 = .ok (.lconst 1, 1) := otL_flip_0 (10, .lconst 1, 1) (List.mem_of_getElem? (i := 6) rfl)
theorem dL_flip_11 : decode cL_flip 11 = .ok (.goto 4, 3) := otL_flip_0 (11, .goto 4, 3) (List.mem_of_getElem? (i := 7) rfl)
theorem dL_flip_14 : decode cL_flip 14 = .ok (.lconst 0, 1) := otL_flip_0 (14, .lconst 0, 1) (List.mem_of_getElem? (i := 8) rfl)
theorem dL_flip_15 : decode cL_flip 15 = .ok (.putfield 13, 3) := otL_flip_0 (15, .putfield 13, 3) (List.mem_of_getElem? (i := 9) rfl)
theorem dL_flip_18 : decode cL_flip 18 = .ok (.goto 11, 3) := otL_flip_0 (18, .goto 11, 3) (List.mem_of_getElem? (i := 10) rfl)
theorem dL_flip_21 : decode cL_flip 21 = .ok (.astore 4, 2) := otL_flip_0 (21, .astore 4, 2) (List.mem_of_getElem? (i := 11) rfl)
theorem dL_flip_23 : decode cL_flip 23 = .ok (.iconst 1, 1) := otL_flip_0 (23, .iconst 1, 1) (List.mem_of_getElem? (i := 12) rfl)
theorem dL_flip_24 : decode cL_flip 24 = .ok (.ireturn, 1) := otL_flip_0 (24, .ireturn, 1) (List.mem_of_getElem? (i := 13) rfl)
theorem dL_flip_25 : decode cL_flip 25 = .ok (.astore 4, 2) := otL_flip_0 (25, .astore 4, 2) (List.mem_of_getElem? (i := 14) rfl)
theorem dL_flip_27 : decode cL_flip 27 = .ok (.iconst 2, 1) := otL_flip_0 (27, .iconst 2, 1) (List.mem_of_getElem? (i := 15) rfl)
theorem dL_flip_28 : decode cL_flip 28 = .ok (.ireturn, 1) := otL_flip_0 (28, .ireturn, 1) (List.mem_of_getElem? (i := 16) rfl)
theorem dL_flip_29 : decode cL_flip 29 = .ok (.iconst 0, 1) := otL_flip_0 (29, .iconst 0, 1) (List.mem_of_getElem? (i := 17) rfl)
theorem dL_flip_30 : decode cL_flip 30 = .ok (.ireturn, 1) := otL_flip_0 (30, .ireturn, 1) (List.mem_of_getElem? (i := 18) rfl)
def tL_copy_0 : List (Nat × Instr × Nat) := [(0, .aload_n 3, 1), (1, .aload_n 0, 1), (2, .iload_n 1, 1), (3, .iload_n 2, 1), (4, .invokevirtual 34, 3), (7, .i2l, 1), (8, .putfield 13, 3), (11, .goto 7, 3), (14, .astore 4, 2), (16, .iconst 1, 1), (17, .ireturn, 1), (18, .iconst 0, 1), (19, .ireturn, 1)]
theorem otL_copy_0 : ∀ q ∈ tL_copy_0, decode cL_copy q.1 = .ok q.2 := by decide +kernel
theorem dL_copy_0 : decode cL_copy 0 = .ok (.aload_n 3, 1) := otL_copy_0 (0, .aload_n 3, 1) (List.mem_of_getElem? (i := 0) rfl)
theorem dL_copy_1 : decode cL_copy 1 = .ok (.aload_n 0, 1) := otL_copy_0 (1, .aload_n 0, 1) (List.mem_of_getElem? (i := 1) rfl)
theorem dL_copy_2 : decode cL_copy 2 = .ok (.iload_n 1, 1) := otL_copy_0 (2, .iload_n 1, 1) (List.mem_of_getElem? (i := 2) rfl)
theorem dL_copy_3 : decode cL_copy 3 = .ok (.iload_n 2, 1) := otL_copy_0 (3, .iload_n 2, 1) (List.mem_of_getElem? (i := 3) rfl)
theorem dL_copy_4 : decode cL_copy 4 = .ok (.invokevirtual 34, 3) := otL_copy_0 (4, .invokevirtual 34, 3) (List.mem_of_getElem? (i := 4) rfl)
theorem dL_copy_7 : decode cL_copy 7 = .ok (.i2l, 1) := otL_copy_0 (7, .i2l, 1) (List.mem_of_getElem? (i := 5) rfl)
theorem dL_copy_8 : decode cL_copy 8 = .ok (.putfield 13, 3) := otL_copy_0 (8, .putfield 13, 3) (List.mem_of_getElem? (i := 6) rfl)
theorem dL_copy_11 : decode cL_copy 11 = .ok (.goto 7, 3) := otL_copy_0 (11, .goto 7, 3) (List.mem_of_getElem? (i := 7) rfl)
theorem dL_copy_14 : decode cL_copy 14 = .ok (.astore 4, 2) := otL_copy_0 (14, .astore 4, 2) (List.mem_of_getElem? (i := 8) rfl)
theorem dL_copy_16 : decode cL_copy 16 = .ok (.iconst 1, 1) := otL_copy_0 (16, .iconst 1, 1) (List.mem_of_getElem? (i := 9) rfl)
theorem dL_copy_17 : decode cL_copy 17 = .ok (.ireturn, 1) := otL_copy_0 (17, .ireturn, 1) (List.mem_of_getElem? (i := 10) rfl)
theorem dL_copy_18 : decode cL_copy 18 = .ok (.iconst 0, 1) := otL_copy_0 (18, .iconst 0, 1) (List.mem_of_getElem? (i := 11) rfl)
theorem dL_copy_19 : decode cL_copy 19 = .ok (.ireturn, 1) := otL_copy_0 (19, .ireturn, 1) (List.mem_of_getElem? (i := 12) rfl)
def tL_swap_0 : List (Nat × Instr × Nat) := [(0, .aload_n 3, 1), (1, .aload_n 0, 1), (2, .iload_n 1, 1), (3, .iload_n 2, 1), (4, .invokevirtual 37, 3), (7, .i2l, 1), (8, .putfield 13, 3), (11, .goto 7, 3), (14, .astore 4, 2), (16, .iconst 1, 1), (17, .ireturn, 1), (18, .iconst 0, 1), (19, .ireturn, 1)]
theorem otL_swap_0 : ∀ q ∈ tL_swap_0, decode cL_swap q.1 = .ok q.2 := by decide +kernel
theorem dL_swap_0 : decode cL_swap 0 = .ok (.aload_n 3, 1) := otL_swap_0 (0, .aload_n 3, 1) (List.mem_of_getElem? (i := 0) rfl)
theorem dL_swap_1 : decode cL_swap 1 = .ok (.aload_n 0, 1) := otL_swap_0 (1, .aload_n 0, 1) (List.mem_of_getElem? (i := 1) rfl)
theorem dL_swap_2 : decode cL_swap 2 = .ok (.iload_n 1, 1) := otL_swap_0 (2, .iload_n 1, 1) (List.mem_of_getElem? (i := 2) rfl)
theorem dL_swap_3 : decode cL_swap 3 = .ok (.iload_n 2, 1) := otL_swap_0 (3, .iload_n 2, 1) (List.mem_of_getElem? (i := 3) rfl)
theorem dL_swap_4 : decode cL_swap 4 = .ok (.invokevirtual 37, 3) := otL_swap_0 (4, .invokevirtual 37, 3) (List.mem_of_getElem? (i := 4) rfl)
theorem dL_swap_7 : decode cL_swap 7 = .ok (.i2l, 1) := otL_swap_0 (7, .i2l, 1) (List.mem_of_getElem? (i := 5) rfl)
theorem dL_swap_8 : decode cL_swap 8 = .ok (.putfield 13, 3) := otL_swap_0 (8, .putfield 13, 3) (List.mem_of_getElem? (i := 6) rfl)
theorem dL_swap_11 : decode cL_swap 11 = .ok (.goto 7, 3) := otL_swap_0 (11, .goto 7, 3) (List.mem_of_getElem? (i := 7) rfl)
theorem dL_swap_14 : decode cL_swap 14 = .ok (.astore 4, 2) := otL_swap_0 (14, .astore 4, 2) (List.mem_of_getElem? (i := 8) rfl)
theorem dL_swap_16 : decode cL_swap 16 = .ok (.iconst 1, 1) := otL_swap_0 (16, .iconst 1, 1) (List.mem_of_getElem? (i := 9) rfl)
theorem dL_swap_17 : decode cL_swap 17 = .ok (.ireturn, 1) := otL_swap_0 (17, .ireturn, 1) (List.mem_of_getElem? (i := 10) rfl)
theorem dL_swap_18 : decode cL_swap 18 = .ok (.iconst 0, 1) := otL_swap_0 (18, .iconst 0, 1) (List.mem_of_getElem? (i := 11) rfl)
theorem dL_swap_19 : decode cL_swap 19 = .ok (.ireturn, 1) := otL_swap_0 (19, .ireturn, 1) (List.mem_of_getElem? (i := 12) rfl)
def tL_end_0 : List (Nat × Instr × Nat) := [(0, .aload 5, 2), (2, .aload_n 0, 1), (3, .iload_n 1, 1), (4, .iload_n 2, 1), (5, .iload_n 3, 1), (6, .iload 4, 2), (8, .invokevirtual 40, 3), (11, .i2l, 1), (12, .putfield 13, 3), (15, .goto 7, 3), (18, .astore 6, 2), (20, .iconst 1, 1), (21, .ireturn, 1), (22, .iconst 0, 1), (23, .ireturn, 1)]
theorem otL_end_0 : ∀ q ∈ tL_end_0, decode cL_end q.1 = .ok q.2 := by decide +kernel
theorem dL_end_0 : decode cL_end 0 = .ok (.aload 5, 2) := otL_end_0 (0, .aload 5, 2) (List.mem_of_getElem? (i := 0) rfl)
theorem dL_end_2 : decode cL_end 2 = .ok (.aload_n 0, 1) := otL_end_0 (2, .aload_n 0, 1) (List.mem_of_getElem? (i := 1) rfl)
theorem dL_end_3 : decode cL_end 3 = .ok (.iload_n 1, 1) := otL_end_0 (3, .iload_n 1, 1) (List.mem_of_getElem? (i := 2) rfl)
theorem dL_end_4 : decode cL_end 4 = .ok (.iload_n 2, 1) := otL_end_0 (4, .iload_n 2, 1) (List.mem_of_getElem? (i := 3) rfl)
theorem dL_end_5 : decode cL_end 5 = .ok (.iload_n 3, 1) := otL_end_0 (5, .iload_n 3, 1) (List.mem_of_getElem? (i := 4) rfl)
theorem dL_end_6 : decode cL_end 6 = .ok (.iload 4, 2) := otL_end_0 (6, .iload 4, 2) (List.mem_of_getElem? (i := 5) rfl)
theorem dL_end_8 : decode cL_end 8 = .ok (.invokevirtual 40, 3) := otL_end_0 (8, .invokevirtual 40, 3) (List.mem_of_getElem? (i := 6) rfl)
theorem dL_end_11 : decode cL_end 11 = .ok (.i2l, 1) := otL_end_0 (11, .i2l, 1) (List.mem_of_getElem? (i := 7) rfl)
theorem dL_end_12 : decode cL_end 12 = .ok (.putfield 13, 3) := otL_end_0 (12, .putfield 13, 3) (List.mem_of_getElem? (i := 8) rfl)
theorem dL_end_15 : decode cL_end 15 = .ok (.goto 7, 3) := otL_end_0 (15, .goto 7, 3) (List.mem_of_getElem? (i := 9) rfl)
theorem dL_end_18 : decode cL_end 18 = .ok (.astore 6, 2) := otL_end_0 (18, .astore 6, 2) (List.mem_of_getElem? (i := 10) rfl)
theorem dL_end_20 : decode cL_end 20 = .ok (.iconst 1, 1) := otL_end_0 (20, .iconst 1, 1) (List.mem_of_getElem? (i := 11) rfl)
theorem dL_end_21 : decode cL_end 21 = .ok (.ireturn, 1) := otL_end_0 (21, .ireturn, 1) (List.mem_of_getElem? (i := 12) rfl)
theorem dL_end_22 : decode cL_end 22 = .ok (.iconst 0, 1) := otL_end_0 (22, .iconst 0, 1) (List.mem_of_getElem? (i := 13) rfl)
theorem dL_end_23 : decode cL_end 23 = .ok (.ireturn, 1) := otL_end_0 (23, .ireturn, 1) (List.mem_of_getElem? (i := 14) rfl)
def tL_join_0 : List (Nat × Instr × Nat) := [(0, .aload 5, 2), (2, .aload_n 0, 1), (3, .iload_n 1, 1), (4, .iload_n 2, 1), (5, .iload_n 3, 1), (6, .iload 4, 2), (8, .invokevirtual 44, 3), (11, .i2l, 1), (12, .putfield 13, 3), (15, .goto 11, 3), (18, .astore 6, 2), (20, .iconst 1, 1), (21, .ireturn, 1), (22, .astore 6, 2), (24, .iconst 2, 1), (25, .ireturn, 1), (26, .iconst 0, 1), (27, .ireturn, 1)]
theorem otL_join_0 : ∀ q ∈ tL_join_0, decode cL_join q.1 = .ok q.2 := by decide +kernel
theorem dL_join_0 : decode cL_join 0 = .ok (.aload 5, 2) := otL_join_0 (0, .aload 5, 2) (List.mem_of_getElem? (i := 0) rfl)
theorem dL_join_2 : decode cL_join 2 = .ok (.aload_n 0, 1) := otL_join_0 (2, .aload_n 0, 1) (List.mem_of_getElem? (i := 1) rfl)
theorem dL_join_3 : decode cL_join 3 = .ok (.iload_n 1, 1) := otL_join_0 (3, .iload_n 1, 1) (List.mem_of_getElem? (i := 2) rfl)
theorem dL_join_4 : decode cL_join 4 = .ok (.iload_n 2, 1) := otL_join_0 (4, .iload_n 2, 1) (List.mem_of_getElem? (i := 3) rfl)
theorem dL_join_5 : decode cL_join 5 = .ok (.iload_n 3, 1) := otL_join_0 (5, .iload_n 3, 1) (List.mem_of_getElem? (i := 4) rfl)
theorem dL_join_6 : decode cL_join 6 = .ok (.iload 4, 2) := otL_join_0 (6, .iload 4, 2) (List.mem_of_getElem? (i := 5) rfl)
theorem dL_join_8 : decode cL_join 8 = .ok (.invokevirtual 44, 3) := otL_join_0 (8, .invokevirtual 44, 3) (List.mem_of_getElem? (i := 6) rfl)
theorem dL_join_11 : decode cL_join 11 = .ok (.i2l, 1) := otL_join_0 (11, .i2l, 1) (List.mem_of_getElem? (i := 7) rfl)
theorem dL_join_12 : decode cL_join 12 = .ok (.putfield 13, 3) := otL_join_0 (12, .putfield 13, 3) (List.mem_of_getElem? (i := 8) rfl)
theorem dL_join_15 : decode cL_join 15 = .ok (.goto 11, 3) := otL_join_0 (15, .goto 11, 3) (List.mem_of_getElem? (i := 9) rfl)
theorem dL_join_18 : decode cL_join 18 = .ok (.astore 6, 2) := otL_join_0 (18, .astore 6, 2) (List.mem_of_getElem? (i := 10) rfl)
theorem dL_join_20 : decode cL_join 20 = .ok (.iconst 1, 1) := otL_join_0 (20, .iconst 1, 1) (List.mem_of_getElem? (i := 11) rfl)
theorem dL_join_21 : decode cL_join 21 = .ok (.ireturn, 1) := otL_join_0 (21, .ireturn, 1) (List.mem_of_getElem? (i := 12) rfl)
theorem dL_join_22 : decode cL_join 22 = .ok (.astore 6, 2) := otL_join_0 (22, .astore 6, 2) (List.mem_of_getElem? (i := 13) rfl)
theorem dL_join_24 : decode cL_join 24 = .ok (.iconst 2, 1) := otL_join_0 (24, .iconst 2, 1) (List.mem_of_getElem? (i := 14) rfl)
theorem dL_join_25 : decode cL_join 25 = .ok (.ireturn, 1) := otL_join_0 (25, .ireturn, 1) (List.mem_of_getElem? (i := 15) rfl)
theorem dL_join_26 : decode cL_join 26 = .ok (.iconst 0, 1) := otL_join_0 (26, .iconst 0, 1) (List.mem_of_getElem? (i := 16) rfl)
theorem dL_join_27 : decode cL_join 27 = .ok (.ireturn, 1) := otL_join_0 (27, .ireturn, 1) (List.mem_of_getElem? (i := 17) rfl)
def tL_times_0 : List (Nat × Instr × Nat) := [(0, .aload 4, 2), (2, .aload_n 0, 1), (3, .iload_n 1, 1), (4, .iload_n 2, 1), (5, .iload_n 3, 1), (6, .invokevirtual 48, 3), (9, .i2l, 1), (10, .putfield 13, 3), (13, .goto 7, 3), (16, .astore 5, 2), (18, .iconst 1, 1), (19, .ireturn, 1), (20, .iconst 0, 1), (21, .ireturn, 1)]
theorem otL_times_0 : ∀ q ∈ tL_times_0, decode cL_times q.1 = .ok q.2 := by decide +kernel
theorem dL_times_0 : decode cL_times 0 = .ok (.aload 4, 2) := otL_times_0 (0, .aload 4, 2) (List.mem_of_getElem? (i := 0) rfl)
theorem dL_times_2 : decode cL_times 2 = .ok (.aload_n 0, 1) := otL_times_0 (2, .aload_n 0, 1) (List.mem_of_getElem? (i := 1) rfl)
theorem dL_times_3 : decode cL_times 3 = .ok (.iload_n 1, 1) := otL_times_0 (3, .iload_n 1, 1) (List.mem_of_getElem? (i := 2) rfl)
theorem dL_times_4 : decode cL_times 4 = .ok (.iload_n 2, 1) := otL_times_0 (4, .iload_n 2, 1) (List.mem_of_getElem? (i := 3) rfl)
theorem dL_times_5 : decode cL_times 5 = .ok (.iload_n 3, 1) := otL_times_0 (5, .iload_n 3, 1) (List.mem_of_getElem? (i := 4) rfl)
theorem dL_times_6 : decode cL_times 6 = .ok (.invokevirtual 48, 3) := otL_times_0 (6, .invokevirtual 48, 3) (List.mem_of_getElem? (i := 5) rfl)
theorem dL_times_9 : decode cL_times 9 = .ok (.i2l, 1) := otL_times_0 (9, .i2l, 1) (List.mem_of_getElem? (i := 6) rfl)
theorem dL_times_10 : decode cL_times 10 = .ok (.putfield 13, 3) := otL_times_0 (10, .putfield 13, 3) (List.mem_of_getElem? (i := 7) rfl)
theorem dL_times_13 : decode cL_times 13 = .ok (.goto 7, 3) := otL_times_0 (13, .goto 7, 3) (List.mem_of_getElem? (i := 8) rfl)
theorem dL_times_16 : decode cL_times 16 = .ok (.astore 5, 2) := otL_times_0 (16, .astore 5, 2) (List.mem_of_getElem? (i := 9) rfl)
theorem dL_times_18 : decode cL_times 18 = .ok (.iconst 1, 1) := otL_times_0 (18, .iconst 1, 1) (List.mem_of_getElem? (i := 10) rfl)
theorem dL_times_19 : decode cL_times 19 = .ok (.ireturn, 1) := otL_times_0 (19, .ireturn, 1) (List.mem_of_getElem? (i := 11) rfl)
theorem dL_times_20 : decode cL_times 20 = .ok (.iconst 0, 1) := otL_times_0 (20, .iconst 0, 1) (List.mem_of_getElem? (i := 12) rfl)
theorem dL_times_21 : decode cL_times 21 = .ok (.ireturn, 1) := otL_times_0 (21, .ireturn, 1) (List.mem_of_getElem? (i := 13) rfl)
def tL_square_0 : List (Nat × Instr × Nat) := [(0, .aload_n 3, 1), (1, .aload_n 0, 1), (2, .iload_n 1, 1), (3, .iload_n 2, 1), (4, .invokevirtual 52, 3), (7, .i2l, 1), (8, .putfield 13, 3), (11, .goto 7, 3), (14, .astore 4, 2), (16, .iconst 1, 1), (17, .ireturn, 1), (18, .iconst 0, 1), (19, .ireturn, 1)]
theorem otL_square_0 : ∀ q ∈ tL_square_0, decode cL_square q.1 = .ok q.2 := by decide +kernel
theorem dL_square_0 : decode cL_square 0 = .ok (.aload_n 3, 1) := otL_square_0 (0, .aload_n 3, 1) (List.mem_of_getElem? (i := 0) rfl)
theorem dL_square_1 : decode cL_square 1 = .ok (.aload_n 0, 1) := otL_square_0 (1, .aload_n 0, 1) (List.mem_of_getElem? (i := 1) rfl)
theorem dL_square_2 : decode cL_square 2 = .ok (.iload_n 1, 1) := otL_square_0 (2, .iload_n 1, 1) (List.mem_of_getElem? (i := 2) rfl)
theorem dL_square_3 : decode cL_square 3 = .ok (.iload_n 2, 1) := otL_square_0 (3, .iload_n 2, 1) (List.mem_of_getElem? (i := 3) rfl)
theorem dL_square_4 : decode cL_square 4 = .ok (.invokevirtual 52, 3) := otL_square_0 (4, .invokevirtual 52, 3) (List.mem_of_getElem? (i := 4) rfl)
theorem dL_square_7 : decode cL_square 7 = .ok (.i2l, 1) := otL_square_0 (7, .i2l, 1) (List.mem_of_getElem? (i := 5) rfl)
theorem dL_square_8 : decode cL_square 8 = .ok (.putfield 13, 3) := otL_square_0 (8, .putfield 13, 3) (List.mem_of_getElem? (i := 6) rfl)
theorem dL_square_11 : decode cL_square 11 = .ok (.goto 7, 3) := otL_square_0 (11, .goto 7, 3) (List.mem_of_getElem? (i := 7) rfl)
theorem dL_square_14 : decode cL_square 14 = .ok (.astore 4, 2) := otL_square_0 (14, .astore 4, 2) (List.mem_of_getElem? (i := 8) rfl)
theorem dL_square_16 : decode cL_square 16 = .ok (.iconst 1, 1) := otL_square_0 (16, .iconst 1, 1) (List.mem_of_getElem? (i := 9) rfl)
theorem dL_square_17 : decode cL_square 17 = .ok (.ireturn, 1) := otL_square_0 (17, .ireturn, 1) (List.mem_of_getElem? (i := 10) rfl)
theorem dL_square_18 : decode cL_square 18 = .ok (.iconst 0, 1) := otL_square_0 (18, .iconst 0, 1) (List.mem_of_getElem? (i := 11) rfl)
theorem dL_square_19 : decode cL_square 19 = .ok (.ireturn, 1) := otL_square_0 (19, .ireturn, 1) (List.mem_of_getElem? (i := 12) rfl)
def tL_shift_0 : List (Nat × Instr × Nat) := [(0, .aload 4, 2), (2, .aload_n 0, 1), (3, .iload_n 1, 1), (4, .iload_n 2, 1), (5, .iload_n 3, 1), (6, .invokevirtual 55, 3), (9, .i2l, 1), (10, .putfield 13, 3), (13, .goto 11, 3), (16, .astore 5, 2), (18, .iconst 1, 1), (19, .ireturn, 1), (20, .astore 5, 2), (22, .iconst 2, 1), (23, .ireturn, 1), (24, .iconst 0, 1), (25, .ireturn, 1)]
theorem otL_shift_0 : ∀ q ∈ tL_shift_0, decode cL_shift q.1 = .ok q.2 := by decide +kernel
theorem dL_shift_0 : decode cL_shift 0 = .ok (.aload 4, 2) := otL_shift_0 (0, .aload 4, 2) (List.mem_of_getElem? (i := 0) rfl)
theorem dL_shift_2 : decode cL_shift 2 = .ok (.aload_n 0, 1) := otL_shift_0 (2, .aload_n 0, 1) (List.mem_of_getElem? (i := 1) rfl)
theorem dL_shift_3 : decode cL_shift 3 = .ok (.iload_n 1, 1) := otL_shift_0 (3, .iload_n 1, 1) (List.mem_of_getElem? (i := 2) rfl)
theorem dL_shift_4 : decode cL_shift 4 = .ok (.iload_n 2, 1) := otL_shift_0 (4, .iload_n 2, 1) (List.mem_of_getElem? (i := 3) rfl)
theorem dL_shift_5 : decode cL_shift 5 = .ok (.iload_n 3, 1) := otL_shift_0 (5, .iload_n 3, 1) (List.mem_of_getElem? (i := 4) rfl)
theorem dL_shift_6 : decode cL_shift 6 = .ok (.invokevirtual 55, 3) := otL_shift_0 (6, .invokevirtual 55, 3) (List.mem_of_getElem? (i := 5) rfl)
theorem dL_shift_9 : decode cL_shift 9 = .ok (.i2l, 1) := otL_shift_0 (9, .i2l, 1) (List.mem_of_getElem? (i := 6) rfl)
theorem dL_shift_10 : decode cL_shift 10 = .ok (.putfield 13, 3) := otL_shift_0 (10, .putfield 13, 3) (List.mem_of_getElem? (i := 7) rfl)
theorem dL_shift_13 : decode cL_shift 13 = .ok (.goto 11, 3) := otL_shift_0 (13, .goto 11, 3) (List.mem_of_getElem? (i := 8) rfl)
theorem dL_shift_16 : decode cL_shift 16 = .ok (.astore 5, 2) := otL_shift_0 (16, .astore 5, 2) (List.mem_of_getElem? (i := 9) rfl)
theorem dL_shift_18 : decode cL_shift 18 = .ok (.iconst 1, 1) := otL_shift_0 (18, .iconst 1, 1) (List.mem_of_getElem? (i := 10) rfl)
theorem dL_shift_19 : decode cL_shift 19 = .ok (.ireturn, 1) := otL_shift_0 (19, .ireturn, 1) (List.mem_of_getElem? (i := 11) rfl)
theorem dL_shift_20 : decode cL_shift 20 = .ok (.astore 5, 2) := otL_shift_0 (20, .astore 5, 2) (List.mem_of_getElem? (i := 12) rfl)
theorem dL_shift_22 : decode cL_shift 22 = .ok (.iconst 2, 1) := otL_shift_0 (22, .iconst 2, 1) (List.mem_of_getElem? (i := 13) rfl)
theorem dL_shift_23 : decode cL_shift 23 = .ok (.ireturn, 1) := otL_shift_0 (23, .ireturn, 1) (List.mem_of_getElem? (i := 14) rfl)
theorem dL_shift_24 : decode cL_shift 24 = .ok (.iconst 0, 1) := otL_shift_0 (24, .iconst 0, 1) (List.mem_of_getElem? (i := 15) rfl)
theorem dL_shift_25 : decode cL_shift 25 = .ok (.ireturn, 1) := otL_shift_0 (25, .ireturn, 1) (List.mem_of_getElem? (i := 16) rfl)
def tL_quotient_0 : List (Nat × Instr × Nat) := [(0, .aload 4, 2), (2, .aload_n 0, 1), (3, .iload_n 1, 1), (4, .iload_n 2, 1), (5, .iload_n 3, 1), (6, .invokevirtual 58, 3), (9, .i2l, 1), (10, .putfield 13, 3), (13, .goto 7, 3), (16, .astore 5, 2), (18, .iconst 1, 1), (19, .ireturn, 1), (20, .iconst 0, 1), (21, .ireturn, 1)]
theorem otL_quotient_0 : ∀ q ∈ tL_quotient_0, decode cL_quotient q.1 = .ok q.2 := by decide +kernel
theorem dL_quotient_0 : decode cL_quotient 0 = .ok (.aload 4, 2) := otL_quotient_0 (0, .aload 4, 2) (List.mem_of_getElem? (i := 0) rfl)
theorem dL_quotient_2 : decode cL_quotient 2 = .ok (.aload_n 0, 1) := otL_quotient_0 (2, .aload_n 0, 1) (List.mem_of_getElem? (i := 1) rfl)
theorem dL_quotient_3 : decode cL_quotient 3 = .ok (.iload_n 1, 1) := otL_quotient_0 (3, .iload_n 1, 1) (List.mem_of_getElem? (i := 2) rfl)
theorem dL_quotient_4 : decode cL_quotient 4 = .ok (.iload_n 2, 1) := otL_quotient_0 (4, .iload_n 2, 1) (List.mem_of_getElem? (i := 3) rfl)
theorem dL_quotient_5 : decode cL_quotient 5 = .ok (.iload_n 3, 1) := otL_quotient_0 (5, .iload_n 3, 1) (List.mem_of_getElem? (i := 4) rfl)
theorem dL_quotient_6 : decode cL_quotient 6 = .ok (.invokevirtual 58, 3) := otL_quotient_0 (6, .invokevirtual 58, 3) (List.mem_of_getElem? (i := 5) rfl)
theorem dL_quotient_9 : decode cL_quotient 9 = .ok (.i2l, 1) := otL_quotient_0 (9, .i2l, 1) (List.mem_of_getElem? (i := 6) rfl)
theorem dL_quotient_10 : decode cL_quotient 10 = .ok (.putfield 13, 3) := otL_quotient_0 (10, .putfield 13, 3) (List.mem_of_getElem? (i := 7) rfl)
theorem dL_quotient_13 : decode cL_quotient 13 = .ok (.goto 7, 3) := otL_quotient_0 (13, .goto 7, 3) (List.mem_of_getElem? (i := 8) rfl)
theorem dL_quotient_16 : decode cL_quotient 16 = .ok (.astore 5, 2) := otL_quotient_0 (16, .astore 5, 2) (List.mem_of_getElem? (i := 9) rfl)
theorem dL_quotient_18 : decode cL_quotient 18 = .ok (.iconst 1, 1) := otL_quotient_0 (18, .iconst 1, 1) (List.mem_of_getElem? (i := 10) rfl)
theorem dL_quotient_19 : decode cL_quotient 19 = .ok (.ireturn, 1) := otL_quotient_0 (19, .ireturn, 1) (List.mem_of_getElem? (i := 11) rfl)
theorem dL_quotient_20 : decode cL_quotient 20 = .ok (.iconst 0, 1) := otL_quotient_0 (20, .iconst 0, 1) (List.mem_of_getElem? (i := 12) rfl)
theorem dL_quotient_21 : decode cL_quotient 21 = .ok (.ireturn, 1) := otL_quotient_0 (21, .ireturn, 1) (List.mem_of_getElem? (i := 13) rfl)
def tL_rest_0 : List (Nat × Instr × Nat) := [(0, .aload 4, 2), (2, .aload_n 0, 1), (3, .iload_n 1, 1), (4, .iload_n 2, 1), (5, .iload_n 3, 1), (6, .invokevirtual 61, 3), (9, .i2l, 1), (10, .putfield 13, 3), (13, .goto 7, 3), (16, .astore 5, 2), (18, .iconst 1, 1), (19, .ireturn, 1), (20, .iconst 0, 1), (21, .ireturn, 1)]
theorem otL_rest_0 : ∀ q ∈ tL_rest_0, decode cL_rest q.1 = .ok q.2 := by decide +kernel
theorem dL_rest_0 : decode cL_rest 0 = .ok (.aload 4, 2) := otL_rest_0 (0, .aload 4, 2) (List.mem_of_getElem? (i := 0) rfl)
theorem dL_rest_2 : decode cL_rest 2 = .ok (.aload_n 0, 1) := otL_rest_0 (2, .aload_n 0, 1) (List.mem_of_getElem? (i := 1) rfl)
theorem dL_rest_3 : decode cL_rest 3 = .ok (.iload_n 1, 1) := otL_rest_0 (3, .iload_n 1, 1) (List.mem_of_getElem? (i := 2) rfl)
theorem dL_rest_4 : decode cL_rest 4 = .ok (.iload_n 2, 1) := otL_rest_0 (4, .iload_n 2, 1) (List.mem_of_getElem? (i := 3) rfl)
theorem dL_rest_5 : decode cL_rest 5 = .ok (.iload_n 3, 1) := otL_rest_0 (5, .iload_n 3, 1) (List.mem_of_getElem? (i := 4) rfl)
theorem dL_rest_6 : decode cL_rest 6 = .ok (.invokevirtual 61, 3) := otL_rest_0 (6, .invokevirtual 61, 3) (List.mem_of_getElem? (i := 5) rfl)
theorem dL_rest_9 : decode cL_rest 9 = .ok (.i2l, 1) := otL_rest_0 (9, .i2l, 1) (List.mem_of_getElem? (i := 6) rfl)
theorem dL_rest_10 : decode cL_rest 10 = .ok (.putfield 13, 3) := otL_rest_0 (10, .putfield 13, 3) (List.mem_of_getElem? (i := 7) rfl)
theorem dL_rest_13 : decode cL_rest 13 = .ok (.goto 7, 3) := otL_rest_0 (13, .goto 7, 3) (List.mem_of_getElem? (i := 8) rfl)
theorem dL_rest_16 : decode cL_rest 16 = .ok (.astore 5, 2) := otL_rest_0 (16, .astore 5, 2) (List.mem_of_getElem? (i := 9) rfl)
theorem dL_rest_18 : decode cL_rest 18 = .ok (.iconst 1, 1) := otL_rest_0 (18, .iconst 1, 1) (List.mem_of_getElem? (i := 10) rfl)
theorem dL_rest_19 : decode cL_rest 19 = .ok (.ireturn, 1) := otL_rest_0 (19, .ireturn, 1) (List.mem_of_getElem? (i := 11) rfl)
theorem dL_rest_20 : decode cL_rest 20 = .ok (.iconst 0, 1) := otL_rest_0 (20, .iconst 0, 1) (List.mem_of_getElem? (i := 12) rfl)
theorem dL_rest_21 : decode cL_rest 21 = .ok (.ireturn, 1) := otL_rest_0 (21, .ireturn, 1) (List.mem_of_getElem? (i := 13) rfl)
def tL_gcd_0 : List (Nat × Instr × Nat) := [(0, .aload 4, 2), (2, .aload_n 0, 1), (3, .iload_n 1, 1), (4, .iload_n 2, 1), (5, .iload_n 3, 1), (6, .invokevirtual 64, 3), (9, .i2l, 1), (10, .putfield 13, 3), (13, .goto 7, 3), (16, .astore 5, 2), (18, .iconst 1, 1), (19, .ireturn, 1), (20, .iconst 0, 1), (21, .ireturn, 1)]
theorem otL_gcd_0 : ∀ q ∈ tL_gcd_0, decode cL_gcd q.1 = .ok q.2 := by decide +kernel
theorem dL_gcd_0 : decode cL_gcd 0 = .ok (.aload 4, 2) := otL_gcd_0 (0, .aload 4, 2) (List.mem_of_getElem? (i := 0) rfl)
theorem dL_gcd_2 : decode cL_gcd 2 = .ok (.aload_n 0, 1) := otL_gcd_0 (2, .aload_n 0, 1) (List.mem_of_getElem? (i := 1) rfl)
theorem dL_gcd_3 : decode cL_gcd 3 = .ok (.iload_n 1, 1) := otL_gcd_0 (3, .iload_n 1, 1) (List.mem_of_getElem? (i := 2) rfl)
theorem dL_gcd_4 : decode cL_gcd 4 = .ok (.iload_n 2, 1) := otL_gcd_0 (4, .iload_n 2, 1) (List.mem_of_getElem? (i := 3) rfl)
theorem dL_gcd_5 : decode cL_gcd 5 = .ok (.iload_n 3, 1) := otL_gcd_0 (5, .iload_n 3, 1) (List.mem_of_getElem? (i := 4) rfl)
theorem dL_gcd_6 : decode cL_gcd 6 = .ok (.invokevirtual 64, 3) := otL_gcd_0 (6, .invokevirtual 64, 3) (List.mem_of_getElem? (i := 5) rfl)
theorem dL_gcd_9 : decode cL_gcd 9 = .ok (.i2l, 1) := otL_gcd_0 (9, .i2l, 1) (List.mem_of_getElem? (i := 6) rfl)
theorem dL_gcd_10 : decode cL_gcd 10 = .ok (.putfield 13, 3) := otL_gcd_0 (10, .putfield 13, 3) (List.mem_of_getElem? (i := 7) rfl)
theorem dL_gcd_13 : decode cL_gcd 13 = .ok (.goto 7, 3) := otL_gcd_0 (13, .goto 7, 3) (List.mem_of_getElem? (i := 8) rfl)
theorem dL_gcd_16 : decode cL_gcd 16 = .ok (.astore 5, 2) := otL_gcd_0 (16, .astore 5, 2) (List.mem_of_getElem? (i := 9) rfl)
theorem dL_gcd_18 : decode cL_gcd 18 = .ok (.iconst 1, 1) := otL_gcd_0 (18, .iconst 1, 1) (List.mem_of_getElem? (i := 10) rfl)
theorem dL_gcd_19 : decode cL_gcd 19 = .ok (.ireturn, 1) := otL_gcd_0 (19, .ireturn, 1) (List.mem_of_getElem? (i := 11) rfl)
theorem dL_gcd_20 : decode cL_gcd 20 = .ok (.iconst 0, 1) := otL_gcd_0 (20, .iconst 0, 1) (List.mem_of_getElem? (i := 12) rfl)
theorem dL_gcd_21 : decode cL_gcd 21 = .ok (.ireturn, 1) := otL_gcd_0 (21, .ireturn, 1) (List.mem_of_getElem? (i := 13) rfl)
def tL_lcm_0 : List (Nat × Instr × Nat) := [(0, .aload 4, 2), (2, .aload_n 0, 1), (3, .iload_n 1, 1), (4, .iload_n 2, 1), (5, .iload_n 3, 1), (6, .invokevirtual 67, 3), (9, .i2l, 1), (10, .putfield 13, 3), (13, .goto 7, 3), (16, .astore 5, 2), (18, .iconst 1, 1), (19, .ireturn, 1), (20, .iconst 0, 1), (21, .ireturn, 1)]
theorem otL_lcm_0 : ∀ q ∈ tL_lcm_0, decode cL_lcm q.1 = .ok q.2 := by decide +kernel
theorem dL_lcm_0 : decode cL_lcm 0 = .ok (.aload 4, 2) := otL_lcm_0 (0, .aload 4, 2) (List.mem_of_getElem? (i := 0) rfl)
theorem dL_lcm_2 : decode cL_lcm 2 = .ok (.aload_n 0, 1) := otL_lcm_0 (2, .aload_n 0, 1) (List.mem_of_getElem? (i := 1) rfl)
theorem dL_lcm_3 : decode cL_lcm 3 = .ok (.iload_n 1, 1) := otL_lcm_0 (3, .iload_n 1, 1) (List.mem_of_getElem? (i := 2) rfl)
theorem dL_lcm_4 : decode cL_lcm 4 = .ok (.iload_n 2, 1) := otL_lcm_0 (4, .iload_n 2, 1) (List.mem_of_getElem? (i := 3) rfl)
theorem dL_lcm_5 : decode cL_lcm 5 = .ok (.iload_n 3, 1) := otL_lcm_0 (5, .iload_n 3, 1) (List.mem_of_getElem? (i := 4) rfl)
theorem dL_lcm_6 : decode cL_lcm 6 = .ok (.invokevirtual 67, 3) := otL_lcm_0 (6, .invokevirtual 67, 3) (List.mem_of_getElem? (i := 5) rfl)
theorem dL_lcm_9 : decode cL_lcm 9 = .ok (.i2l, 1) := otL_lcm_0 (9, .i2l, 1) (List.mem_of_getElem? (i := 6) rfl)
theorem dL_lcm_10 : decode cL_lcm 10 = .ok (.putfield 13, 3) := otL_lcm_0 (10, .putfield 13, 3) (List.mem_of_getElem? (i := 7) rfl)
theorem dL_lcm_13 : decode cL_lcm 13 = .ok (.goto 7, 3) := otL_lcm_0 (13, .goto 7, 3) (List.mem_of_getElem? (i := 8) rfl)
theorem dL_lcm_16 : decode cL_lcm 16 = .ok (.astore 5, 2) := otL_lcm_0 (16, .astore 5, 2) (List.mem_of_getElem? (i := 9) rfl)
theorem dL_lcm_18 : decode cL_lcm 18 = .ok (.iconst 1, 1) := otL_lcm_0 (18, .iconst 1, 1) (List.mem_of_getElem? (i := 10) rfl)
theorem dL_lcm_19 : decode cL_lcm 19 = .ok (.ireturn, 1) := otL_lcm_0 (19, .ireturn, 1) (List.mem_of_getElem? (i := 11) rfl)
theorem dL_lcm_20 : decode cL_lcm 20 = .ok (.iconst 0, 1) := otL_lcm_0 (20, .iconst 0, 1) (List.mem_of_getElem? (i := 12) rfl)
theorem dL_lcm_21 : decode cL_lcm 21 = .ok (.ireturn, 1) := otL_lcm_0 (21, .ireturn, 1) (List.mem_of_getElem? (i := 13) rfl)
def tL_bezout_0 : List (Nat × Instr × Nat) := [(0, .aload 5, 2), (2, .aload_n 0, 1), (3, .iload_n 1, 1), (4, .iload_n 2, 1), (5, .iload_n 3, 1), (6, .iload 4, 2), (8, .invokevirtual 70, 3), (11, .i2l, 1), (12, .putfield 13, 3), (15, .goto 7, 3), (18, .astore 6, 2), (20, .iconst 1, 1), (21, .ireturn, 1), (22, .iconst 0, 1), (23, .ireturn, 1)]
theorem otL_bezout_0 : ∀ q ∈ tL_bezout_0, decode cL_bezout q.1 = .ok q.2 := by decide +kernel
theorem dL_bezout_0 : decode cL_bezout 0 = .ok (.aload 5, 2) := otL_bezout_0 (0, .aload 5, 2) (List.mem_of_getElem? (i := 0) rfl)
theorem dL_bezout_2 : decode cL_bezout 2 = .ok (.aload_n 0, 1) := otL_bezout_0 (2, .aload_n 0, 1) (List.mem_of_getElem? (i := 1) rfl)
theorem dL_bezout_3 : decode cL_bezout 3 = .ok (.iload_n 1, 1) := otL_bezout_0 (3, .iload_n 1, 1) (List.mem_of_getElem? (i := 2) rfl)
theorem dL_bezout_4 : decode cL_bezout 4 = .ok (.iload_n 2, 1) := otL_bezout_0 (4, .iload_n 2, 1) (List.mem_of_getElem? (i := 3) rfl)
theorem dL_bezout_5 : decode cL_bezout 5 = .ok (.iload_n 3, 1) := otL_bezout_0 (5, .iload_n 3, 1) (List.mem_of_getElem? (i := 4) rfl)
theorem dL_bezout_6 : decode cL_bezout 6 = .ok (.iload 4, 2) := otL_bezout_0 (6, .iload 4, 2) (List.mem_of_getElem? (i := 5) rfl)
theorem dL_bezout_8 : decode cL_bezout 8 = .ok (.invokevirtual 70, 3) := otL_bezout_0 (8, .invokevirtual 70, 3) (List.mem_of_getElem? (i := 6) rfl)
theorem dL_bezout_11 : decode cL_bezout 11 = .ok (.i2l, 1) := otL_bezout_0 (11, .i2l, 1) (List.mem_of_getElem? (i := 7) rfl)
theorem dL_bezout_12 : decode cL_bezout 12 = .ok (.putfield 13, 3) := otL_bezout_0 (12, .putfield 13, 3) (List.mem_of_getElem? (i := 8) rfl)
theorem dL_bezout_15 : decode cL_bezout 15 = .ok (.goto 7, 3) := otL_bezout_0 (15, .goto 7, 3) (List.mem_of_getElem? (i := 9) rfl)
theorem dL_bezout_18 : decode cL_bezout 18 = .ok (.astore 6, 2) := otL_bezout_0 (18, .astore 6, 2) (List.mem_of_getElem? (i := 10) rfl)
theorem dL_bezout_20 : decode cL_bezout 20 = .ok (.iconst 1, 1) := otL_bezout_0 (20, .iconst 1, 1) (List.mem_of_getElem? (i := 11) rfl)
theorem dL_bezout_21 : decode cL_bezout 21 = .ok (.ireturn, 1) := otL_bezout_0 (21, .ireturn, 1) (List.mem_of_getElem? (i := 12) rfl)
theorem dL_bezout_22 : decode cL_bezout 22 = .ok (.iconst 0, 1) := otL_bezout_0 (22, .iconst 0, 1) (List.mem_of_getElem? (i := 13) rfl)
theorem dL_bezout_23 : decode cL_bezout 23 = .ok (.ireturn, 1) := otL_bezout_0 (23, .ireturn, 1) (List.mem_of_getElem? (i := 14) rfl)
def tL_derive_0 : List (Nat × Instr × Nat) := [(0, .aload_n 3, 1), (1, .aload_n 0, 1), (2, .iload_n 1, 1), (3, .iload_n 2, 1), (4, .invokevirtual 73, 3), (7, .i2l, 1), (8, .putfield 13, 3), (11, .goto 7, 3), (14, .astore 4, 2), (16, .iconst 1, 1), (17, .ireturn, 1), (18, .iconst 0, 1), (19, .ireturn, 1)]
theorem otL_derive_0 : ∀ q ∈ tL_derive_0, decode cL_derive q.1 = .ok q.2 := by decide +kernel
theorem dL_derive_0 : decode cL_derive 0 = .ok (.aload_n 3, 1) := otL_derive_0 (0, .aload_n 3, 1) (List.mem_of_getElem? (i := 0) rfl)
theorem dL_derive_1 : decode cL_derive 1 = .ok (.aload_n 0, 1) := otL_derive_0 (1, .aload_n 0, 1) (List.mem_of_getElem? (i := 1) rfl)
theorem dL_derive_2 : decode cL_derive 2 = .ok (.iload_n 1, 1) := otL_derive_0 (2, .iload_n 1, 1) (List.mem_of_getElem? (i := 2) rfl)
theorem dL_derive_3 : decode cL_derive 3 = .ok (.iload_n 2, 1) := otL_derive_0 (3, .iload_n 2, 1) (List.mem_of_getElem? (i := 3) rfl)
theorem dL_derive_4 : decode cL_derive 4 = .ok (.invokevirtual 73, 3) := otL_derive_0 (4, .invokevirtual 73, 3) (List.mem_of_getElem? (i := 4) rfl)
theorem dL_derive_7 : decode cL_derive 7 = .ok (.i2l, 1) := otL_derive_0 (7, .i2l, 1) (List.mem_of_getElem? (i := 5) rfl)
theorem dL_derive_8 : decode cL_derive 8 = .ok (.putfield 13, 3) := otL_derive_0 (8, .putfield 13, 3) (List.mem_of_getElem? (i := 6) rfl)
theorem dL_derive_11 : decode cL_derive 11 = .ok (.goto 7, 3) := otL_derive_0 (11, .goto 7, 3) (List.mem_of_getElem? (i := 7) rfl)
theorem dL_derive_14 : decode cL_derive 14 = .ok (.astore 4, 2) := otL_derive_0 (14, .astore 4, 2) (List.mem_of_getElem? (i := 8) rfl)
theorem dL_derive_16 : decode cL_derive 16 = .ok (.iconst 1, 1) := otL_derive_0 (16, .iconst 1, 1) (List.mem_of_getElem? (i := 9) rfl)
theorem dL_derive_17 : decode cL_derive 17 = .ok (.ireturn, 1) := otL_derive_0 (17, .ireturn, 1) (List.mem_of_getElem? (i := 10) rfl)
theorem dL_derive_18 : decode cL_derive 18 = .ok (.iconst 0, 1) := otL_derive_0 (18, .iconst 0, 1) (List.mem_of_getElem? (i := 11) rfl)
theorem dL_derive_19 : decode cL_derive 19 = .ok (.ireturn, 1) := otL_derive_0 (19, .ireturn, 1) (List.mem_of_getElem? (i := 12) rfl)
def tL_root_0 : List (Nat × Instr × Nat) := [(0, .aload_n 3, 1), (1, .aload_n 0, 1), (2, .iload_n 1, 1), (3, .iload_n 2, 1), (4, .invokevirtual 76, 3), (7, .i2l, 1), (8, .putfield 13, 3), (11, .goto 7, 3), (14, .astore 4, 2), (16, .iconst 1, 1), (17, .ireturn, 1), (18, .iconst 0, 1), (19, .ireturn, 1)]
theorem otL_root_0 : ∀ q ∈ tL_root_0, decode cL_root q.1 = .ok q.2 := by decide +kernel
theorem dL_root_0 : decode cL_root 0 = .ok (.aload_n 3, 1) := otL_root_0 (0, .aload_n 3, 1) (List.mem_of_getElem? (i := 0) rfl)
theorem dL_root_1 : decode cL_root 1 = .ok (.aload_n 0, 1) := otL_root_0 (1, .aload_n 0, 1) (List.mem_of_getElem? (i := 1) rfl)
theorem dL_root_2 : decode cL_root 2 = .ok (.iload_n 1, 1) := otL_root_0 (2, .iload_n 1, 1) (List.mem_of_getElem? (i := 2) rfl)
theorem dL_root_3 : decode cL_root 3 = .ok (.iload_n 2, 1) := otL_root_0 (3, .iload_n 2, 1) (List.mem_of_getElem? (i := 3) rfl)
theorem dL_root_4 : decode cL_root 4 = .ok (.invokevirtual 76, 3) := otL_root_0 (4, .invokevirtual 76, 3) (List.mem_of_getElem? (i := 4) rfl)
theorem dL_root_7 : decode cL_root 7 = .ok (.i2l, 1) := otL_root_0 (7, .i2l, 1) (List.mem_of_getElem? (i := 5) rfl)
theorem dL_root_8 : decode cL_root 8 = .ok (.putfield 13, 3) := otL_root_0 (8, .putfield 13, 3) (List.mem_of_getElem? (i := 6) rfl)
theorem dL_root_11 : decode cL_root 11 = .ok (.goto 7, 3) := otL_root_0 (11, .goto 7, 3) (List.mem_of_getElem? (i := 7) rfl)
theorem dL_root_14 : decode cL_root 14 = .ok (.astore 4, 2) := otL_root_0 (14, .astore 4, 2) (List.mem_of_getElem? (i := 8) rfl)
theorem dL_root_16 : decode cL_root 16 = .ok (.iconst 1, 1) := otL_root_0 (16, .iconst 1, 1) (List.mem_of_getElem? (i := 9) rfl)
theorem dL_root_17 : decode cL_root 17 = .ok (.ireturn, 1) := otL_root_0 (17, .ireturn, 1) (List.mem_of_getElem? (i := 10) rfl)
theorem dL_root_18 : decode cL_root 18 = .ok (.iconst 0, 1) := otL_root_0 (18, .iconst 0, 1) (List.mem_of_getElem? (i := 11) rfl)
theorem dL_root_19 : decode cL_root 19 = .ok (.ireturn, 1) := otL_root_0 (19, .ireturn, 1) (List.mem_of_getElem? (i := 12) rfl)
def tL_turn_0 : List (Nat × Instr × Nat) := [(0, .aload_n 3, 1), (1, .aload_n 0, 1), (2, .iload_n 1, 1), (3, .iload_n 2, 1), (4, .invokevirtual 79, 3), (7, .i2l, 1), (8, .putfield 13, 3), (11, .goto 7, 3), (14, .astore 4, 2), (16, .iconst 1, 1), (17, .ireturn, 1), (18, .iconst 0, 1), (19, .ireturn, 1)]
theorem otL_turn_0 : ∀ q ∈ tL_turn_0, decode cL_turn q.1 = .ok q.2 := by decide +kernel
theorem dL_turn_0 : decode cL_turn 0 = .ok (.aload_n 3, 1) := otL_turn_0 (0, .aload_n 3, 1) (List.mem_of_getElem? (i := 0) rfl)
theorem dL_turn_1 : decode cL_turn 1 = .ok (.aload_n 0, 1) := otL_turn_0 (1, .aload_n 0, 1) (List.mem_of_getElem? (i := 1) rfl)
theorem dL_turn_2 : decode cL_turn 2 = .ok (.iload_n 1, 1) := otL_turn_0 (2, .iload_n 1, 1) (List.mem_of_getElem? (i := 2) rfl)
theorem dL_turn_3 : decode cL_turn 3 = .ok (.iload_n 2, 1) := otL_turn_0 (3, .iload_n 2, 1) (List.mem_of_getElem? (i := 3) rfl)
theorem dL_turn_4 : decode cL_turn 4 = .ok (.invokevirtual 79, 3) := otL_turn_0 (4, .invokevirtual 79, 3) (List.mem_of_getElem? (i := 4) rfl)
theorem dL_turn_7 : decode cL_turn 7 = .ok (.i2l, 1) := otL_turn_0 (7, .i2l, 1) (List.mem_of_getElem? (i := 5) rfl)
theorem dL_turn_8 : decode cL_turn 8 = .ok (.putfield 13, 3) := otL_turn_0 (8, .putfield 13, 3) (List.mem_of_getElem? (i := 6) rfl)
theorem dL_turn_11 : decode cL_turn 11 = .ok (.goto 7, 3) := otL_turn_0 (11, .goto 7, 3) (List.mem_of_getElem? (i := 7) rfl)
theorem dL_turn_14 : decode cL_turn 14 = .ok (.astore 4, 2) := otL_turn_0 (14, .astore 4, 2) (List.mem_of_getElem? (i := 8) rfl)
theorem dL_turn_16 : decode cL_turn 16 = .ok (.iconst 1, 1) := otL_turn_0 (16, .iconst 1, 1) (List.mem_of_getElem? (i := 9) rfl)
theorem dL_turn_17 : decode cL_turn 17 = .ok (.ireturn, 1) := otL_turn_0 (17, .ireturn, 1) (List.mem_of_getElem? (i := 10) rfl)
theorem dL_turn_18 : decode cL_turn 18 = .ok (.iconst 0, 1) := otL_turn_0 (18, .iconst 0, 1) (List.mem_of_getElem? (i := 11) rfl)
theorem dL_turn_19 : decode cL_turn 19 = .ok (.ireturn, 1) := otL_turn_0 (19, .ireturn, 1) (List.mem_of_getElem? (i := 12) rfl)
def tL_move_0 : List (Nat × Instr × Nat) := [(0, .aload_n 3, 1), (1, .aload_n 0, 1), (2, .iload_n 1, 1), (3, .iload_n 2, 1), (4, .invokevirtual 82, 3), (7, .i2l, 1), (8, .putfield 13, 3), (11, .goto 7, 3), (14, .astore 4, 2), (16, .iconst 1, 1), (17, .ireturn, 1), (18, .iconst 0, 1), (19, .ireturn, 1)]
theorem otL_move_0 : ∀ q ∈ tL_move_0, decode cL_move q.1 = .ok q.2 := by decide +kernel
theorem dL_move_0 : decode cL_move 0 = .ok (.aload_n 3, 1) := otL_move_0 (0, .aload_n 3, 1) (List.mem_of_getElem? (i := 0) rfl)
theorem dL_move_1 : decode cL_move 1 = .ok (.aload_n 0, 1) := otL_move_0 (1, .aload_n 0, 1) (List.mem_of_getElem? (i := 1) rfl)
theorem dL_move_2 : decode cL_move 2 = .ok (.iload_n 1, 1) := otL_move_0 (2, .iload_n 1, 1) (List.mem_of_getElem? (i := 2) rfl)
theorem dL_move_3 : decode cL_move 3 = .ok (.iload_n 2, 1) := otL_move_0 (3, .iload_n 2, 1) (List.mem_of_getElem? (i := 3) rfl)
theorem dL_move_4 : decode cL_move 4 = .ok (.invokevirtual 82, 3) := otL_move_0 (4, .invokevirtual 82, 3) (List.mem_of_getElem? (i := 4) rfl)
theorem dL_move_7 : decode cL_move 7 = .ok (.i2l, 1) := otL_move_0 (7, .i2l, 1) (List.mem_of_getElem? (i := 5) rfl)
theorem dL_move_8 : decode cL_move 8 = .ok (.putfield 13, 3) := otL_move_0 (8, .putfield 13, 3) (List.mem_of_getElem? (i := 6) rfl)
theorem dL_move_11 : decode cL_move 11 = .ok (.goto 7, 3) := otL_move_0 (11, .goto 7, 3) (List.mem_of_getElem? (i := 7) rfl)
theorem dL_move_14 : decode cL_move 14 = .ok (.astore 4, 2) := otL_move_0 (14, .astore 4, 2) (List.mem_of_getElem? (i := 8) rfl)
theorem dL_move_16 : decode cL_move 16 = .ok (.iconst 1, 1) := otL_move_0 (16, .iconst 1, 1) (List.mem_of_getElem? (i := 9) rfl)
theorem dL_move_17 : decode cL_move 17 = .ok (.ireturn, 1) := otL_move_0 (17, .ireturn, 1) (List.mem_of_getElem? (i := 10) rfl)
theorem dL_move_18 : decode cL_move 18 = .ok (.iconst 0, 1) := otL_move_0 (18, .iconst 0, 1) (List.mem_of_getElem? (i := 11) rfl)
theorem dL_move_19 : decode cL_move 19 = .ok (.ireturn, 1) := otL_move_0 (19, .ireturn, 1) (List.mem_of_getElem? (i := 12) rfl)
def tL_power_0 : List (Nat × Instr × Nat) := [(0, .aload 5, 2), (2, .aload_n 0, 1), (3, .iload_n 1, 1), (4, .iload_n 2, 1), (5, .iload_n 3, 1), (6, .iload 4, 2), (8, .invokevirtual 85, 3), (11, .i2l, 1), (12, .putfield 13, 3), (15, .goto 11, 3), (18, .astore 6, 2), (20, .iconst 1, 1), (21, .ireturn, 1), (22, .astore 6, 2), (24, .iconst 2, 1), (25, .ireturn, 1), (26, .iconst 0, 1), (27, .ireturn, 1)]
theorem otL_power_0 : ∀ q ∈ tL_power_0, decode cL_power q.1 = .ok q.2 := by decide +kernel
theorem dL_power_0 : decode cL_power 0 = .ok (.aload 5, 2) := otL_power_0 (0, .aload 5, 2) (List.mem_of_getElem? (i := 0) rfl)
theorem dL_power_2 : decode cL_power 2 = .ok (.aload_n 0, 1) := otL_power_0 (2, .aload_n 0, 1) (List.mem_of_getElem? (i := 1) rfl)
theorem dL_power_3 : decode cL_power 3 = .ok (.iload_n 1, 1) := otL_power_0 (3, .iload_n 1, 1) (List.mem_of_getElem? (i := 2) rfl)
theorem dL_power_4 : decode cL_power 4 = .ok (.iload_n 2, 1) := otL_power_0 (4, .iload_n 2, 1) (List.mem_of_getElem? (i := 3) rfl)
theorem dL_power_5 : decode cL_power 5 = .ok (.iload_n 3, 1) := otL_power_0 (5, .iload_n 3, 1) (List.mem_of_getElem? (i := 4) rfl)
theorem dL_power_6 : decode cL_power 6 = .ok (.iload 4, 2) := otL_power_0 (6, .iload 4, 2) (List.mem_of_getElem? (i := 5) rfl)
theorem dL_power_8 : decode cL_power 8 = .ok (.invokevirtual 85, 3) := otL_power_0 (8, .invokevirtual 85, 3) (List.mem_of_getElem? (i := 6) rfl)
theorem dL_power_11 : decode cL_power 11 = .ok (.i2l, 1) := otL_power_0 (11, .i2l, 1) (List.mem_of_getElem? (i := 7) rfl)
theorem dL_power_12 : decode cL_power 12 = .ok (.putfield 13, 3) := otL_power_0 (12, .putfield 13, 3) (List.mem_of_getElem? (i := 8) rfl)
theorem dL_power_15 : decode cL_power 15 = .ok (.goto 11, 3) := otL_power_0 (15, .goto 11, 3) (List.mem_of_getElem? (i := 9) rfl)
theorem dL_power_18 : decode cL_power 18 = .ok (.astore 6, 2) := otL_power_0 (18, .astore 6, 2) (List.mem_of_getElem? (i := 10) rfl)
theorem dL_power_20 : decode cL_power 20 = .ok (.iconst 1, 1) := otL_power_0 (20, .iconst 1, 1) (List.mem_of_getElem? (i := 11) rfl)
theorem dL_power_21 : decode cL_power 21 = .ok (.ireturn, 1) := otL_power_0 (21, .ireturn, 1) (List.mem_of_getElem? (i := 12) rfl)
theorem dL_power_22 : decode cL_power 22 = .ok (.astore 6, 2) := otL_power_0 (22, .astore 6, 2) (List.mem_of_getElem? (i := 13) rfl)
theorem dL_power_24 : decode cL_power 24 = .ok (.iconst 2, 1) := otL_power_0 (24, .iconst 2, 1) (List.mem_of_getElem? (i := 14) rfl)
theorem dL_power_25 : decode cL_power 25 = .ok (.ireturn, 1) := otL_power_0 (25, .ireturn, 1) (List.mem_of_getElem? (i := 15) rfl)
theorem dL_power_26 : decode cL_power 26 = .ok (.iconst 0, 1) := otL_power_0 (26, .iconst 0, 1) (List.mem_of_getElem? (i := 16) rfl)
theorem dL_power_27 : decode cL_power 27 = .ok (.ireturn, 1) := otL_power_0 (27, .ireturn, 1) (List.mem_of_getElem? (i := 17) rfl)
def tL_nth_0 : List (Nat × Instr × Nat) := [(0, .aload 4, 2), (2, .aload_n 0, 1), (3, .iload_n 1, 1), (4, .iload_n 2, 1), (5, .iload_n 3, 1), (6, .invokevirtual 88, 3), (9, .i2l, 1), (10, .putfield 13, 3), (13, .goto 11, 3), (16, .astore 5, 2), (18, .iconst 1, 1), (19, .ireturn, 1), (20, .astore 5, 2), (22, .iconst 2, 1), (23, .ireturn, 1), (24, .iconst 0, 1), (25, .ireturn, 1)]
theorem otL_nth_0 : ∀ q ∈ tL_nth_0, decode cL_nth q.1 = .ok q.2 := by decide +kernel
theorem dL_nth_0 : decode cL_nth 0 = .ok (.aload 4, 2) := otL_nth_0 (0, .aload 4, 2) (List.mem_of_getElem? (i := 0) rfl)
theorem dL_nth_2 : decode cL_nth 2 = .ok (.aload_n 0, 1) := otL_nth_0 (2, .aload_n 0, 1) (List.mem_of_getElem? (i := 1) rfl)
theorem dL_nth_3 : decode cL_nth 3 = .ok (.iload_n 1, 1) := otL_nth_0 (3, .iload_n 1, 1) (List.mem_of_getElem? (i := 2) rfl)
theorem dL_nth_4 : decode cL_nth 4 = .ok (.iload_n 2, 1) := otL_nth_0 (4, .iload_n 2, 1) (List.mem_of_getElem? (i := 3) rfl)
theorem dL_nth_5 : decode cL_nth 5 = .ok (.iload_n 3, 1) := otL_nth_0 (5, .iload_n 3, 1) (List.mem_of_getElem? (i := 4) rfl)
theorem dL_nth_6 : decode cL_nth 6 = .ok (.invokevirtual 88, 3) := otL_nth_0 (6, .invokevirtual 88, 3) (List.mem_of_getElem? (i := 5) rfl)
theorem dL_nth_9 : decode cL_nth 9 = .ok (.i2l, 1) := otL_nth_0 (9, .i2l, 1) (List.mem_of_getElem? (i := 6) rfl)
theorem dL_nth_10 : decode cL_nth 10 = .ok (.putfield 13, 3) := otL_nth_0 (10, .putfield 13, 3) (List.mem_of_getElem? (i := 7) rfl)
theorem dL_nth_13 : decode cL_nth 13 = .ok (.goto 11, 3) := otL_nth_0 (13, .goto 11, 3) (List.mem_of_getElem? (i := 8) rfl)
theorem dL_nth_16 : decode cL_nth 16 = .ok (.astore 5, 2) := otL_nth_0 (16, .astore 5, 2) (List.mem_of_getElem? (i := 9) rfl)
theorem dL_nth_18 : decode cL_nth 18 = .ok (.iconst 1, 1) := otL_nth_0 (18, .iconst 1, 1) (List.mem_of_getElem? (i := 10) rfl)
theorem dL_nth_19 : decode cL_nth 19 = .ok (.ireturn, 1) := otL_nth_0 (19, .ireturn, 1) (List.mem_of_getElem? (i := 11) rfl)
theorem dL_nth_20 : decode cL_nth 20 = .ok (.astore 5, 2) := otL_nth_0 (20, .astore 5, 2) (List.mem_of_getElem? (i := 12) rfl)
theorem dL_nth_22 : decode cL_nth 22 = .ok (.iconst 2, 1) := otL_nth_0 (22, .iconst 2, 1) (List.mem_of_getElem? (i := 13) rfl)
theorem dL_nth_23 : decode cL_nth 23 = .ok (.ireturn, 1) := otL_nth_0 (23, .ireturn, 1) (List.mem_of_getElem? (i := 14) rfl)
theorem dL_nth_24 : decode cL_nth 24 = .ok (.iconst 0, 1) := otL_nth_0 (24, .iconst 0, 1) (List.mem_of_getElem? (i := 15) rfl)
theorem dL_nth_25 : decode cL_nth 25 = .ok (.ireturn, 1) := otL_nth_0 (25, .ireturn, 1) (List.mem_of_getElem? (i := 16) rfl)
def tL_field_0 : List (Nat × Instr × Nat) := [(0, .aload_n 3, 1), (1, .aload_n 0, 1), (2, .iload_n 1, 1), (3, .iload_n 2, 1), (4, .invokevirtual 91, 3), (7, .i2l, 1), (8, .putfield 13, 3), (11, .goto 11, 3), (14, .astore 4, 2), (16, .iconst 1, 1), (17, .ireturn, 1), (18, .astore 4, 2), (20, .iconst 2, 1), (21, .ireturn, 1), (22, .iconst 0, 1), (23, .ireturn, 1)]
theorem otL_field_0 : ∀ q ∈ tL_field_0, decode cL_field q.1 = .ok q.2 := by decide +kernel
theorem dL_field_0 : decode cL_field 0 = .ok (.aload_n 3, 1) := otL_field_0 (0, .aload_n 3, 1) (List.mem_of_getElem? (i := 0) rfl)
theorem dL_field_1 : decode cL_field 1 = .ok (.aload_n 0, 1) := otL_field_0 (1, .aload_n 0, 1) (List.mem_of_getElem? (i := 1) rfl)
theorem dL_field_2 : decode cL_field 2 = .ok (.iload_n 1, 1) := otL_field_0 (2, .iload_n 1, 1) (List.mem_of_getElem? (i := 2) rfl)
theorem dL_field_3 : decode cL_field 3 = .ok (.iload_n 2, 1) := otL_field_0 (3, .iload_n 2, 1) (List.mem_of_getElem? (i := 3) rfl)
theorem dL_field_4 : decode cL_field 4 = .ok (.invokevirtual 91, 3) := otL_field_0 (4, .invokevirtual 91, 3) (List.mem_of_getElem? (i := 4) rfl)
theorem dL_field_7 : decode cL_field 7 = .ok (.i2l, 1) := otL_field_0 (7, .i2l, 1) (List.mem_of_getElem? (i := 5) rfl)
theorem dL_field_8 : decode cL_field 8 = .ok (.putfield 13, 3) := otL_field_0 (8, .putfield 13, 3) (List.mem_of_getElem? (i := 6) rfl)
theorem dL_field_11 : decode cL_field 11 = .ok (.goto 11, 3) := otL_field_0 (11, .goto 11, 3) (List.mem_of_getElem? (i := 7) rfl)
theorem dL_field_14 : decode cL_field 14 = .ok (.astore 4, 2) := otL_field_0 (14, .astore 4, 2) (List.mem_of_getElem? (i := 8) rfl)
theorem dL_field_16 : decode cL_field 16 = .ok (.iconst 1, 1) := otL_field_0 (16, .iconst 1, 1) (List.mem_of_getElem? (i := 9) rfl)
theorem dL_field_17 : decode cL_field 17 = .ok (.ireturn, 1) := otL_field_0 (17, .ireturn, 1) (List.mem_of_getElem? (i := 10) rfl)
theorem dL_field_18 : decode cL_field 18 = .ok (.astore 4, 2) := otL_field_0 (18, .astore 4, 2) (List.mem_of_getElem? (i := 11) rfl)
theorem dL_field_20 : decode cL_field 20 = .ok (.iconst 2, 1) := otL_field_0 (20, .iconst 2, 1) (List.mem_of_getElem? (i := 12) rfl)
theorem dL_field_21 : decode cL_field 21 = .ok (.ireturn, 1) := otL_field_0 (21, .ireturn, 1) (List.mem_of_getElem? (i := 13) rfl)
theorem dL_field_22 : decode cL_field 22 = .ok (.iconst 0, 1) := otL_field_0 (22, .iconst 0, 1) (List.mem_of_getElem? (i := 14) rfl)
theorem dL_field_23 : decode cL_field 23 = .ok (.ireturn, 1) := otL_field_0 (23, .ireturn, 1) (List.mem_of_getElem? (i := 15) rfl)
def tL_again_0 : List (Nat × Instr × Nat) := [(0, .aload 4, 2), (2, .aload_n 0, 1), (3, .iload_n 1, 1), (4, .iload_n 2, 1), (5, .iload_n 3, 1), (6, .invokevirtual 94, 3), (9, .i2l, 1), (10, .putfield 13, 3), (13, .goto 11, 3), (16, .astore 5, 2), (18, .iconst 1, 1), (19, .ireturn, 1), (20, .astore 5, 2), (22, .iconst 2, 1), (23, .ireturn, 1), (24, .iconst 0, 1), (25, .ireturn, 1)]
theorem otL_again_0 : ∀ q ∈ tL_again_0, decode cL_again q.1 = .ok q.2 := by decide +kernel
theorem dL_again_0 : decode cL_again 0 = .ok (.aload 4, 2) := otL_again_0 (0, .aload 4, 2) (List.mem_of_getElem? (i := 0) rfl)
theorem dL_again_2 : decode cL_again 2 = .ok (.aload_n 0, 1) := otL_again_0 (2, .aload_n 0, 1) (List.mem_of_getElem? (i := 1) rfl)
theorem dL_again_3 : decode cL_again 3 = .ok (.iload_n 1, 1) := otL_again_0 (3, .iload_n 1, 1) (List.mem_of_getElem? (i := 2) rfl)
theorem dL_again_4 : decode cL_again 4 = .ok (.iload_n 2, 1) := otL_again_0 (4, .iload_n 2, 1) (List.mem_of_getElem? (i := 3) rfl)
theorem dL_again_5 : decode cL_again 5 = .ok (.iload_n 3, 1) := otL_again_0 (5, .iload_n 3, 1) (List.mem_of_getElem? (i := 4) rfl)
theorem dL_again_6 : decode cL_again 6 = .ok (.invokevirtual 94, 3) := otL_again_0 (6, .invokevirtual 94, 3) (List.mem_of_getElem? (i := 5) rfl)
theorem dL_again_9 : decode cL_again 9 = .ok (.i2l, 1) := otL_again_0 (9, .i2l, 1) (List.mem_of_getElem? (i := 6) rfl)
theorem dL_again_10 : decode cL_again 10 = .ok (.putfield 13, 3) := otL_again_0 (10, .putfield 13, 3) (List.mem_of_getElem? (i := 7) rfl)
theorem dL_again_13 : decode cL_again 13 = .ok (.goto 11, 3) := otL_again_0 (13, .goto 11, 3) (List.mem_of_getElem? (i := 8) rfl)
theorem dL_again_16 : decode cL_again 16 = .ok (.astore 5, 2) := otL_again_0 (16, .astore 5, 2) (List.mem_of_getElem? (i := 9) rfl)
theorem dL_again_18 : decode cL_again 18 = .ok (.iconst 1, 1) := otL_again_0 (18, .iconst 1, 1) (List.mem_of_getElem? (i := 10) rfl)
theorem dL_again_19 : decode cL_again 19 = .ok (.ireturn, 1) := otL_again_0 (19, .ireturn, 1) (List.mem_of_getElem? (i := 11) rfl)
theorem dL_again_20 : decode cL_again 20 = .ok (.astore 5, 2) := otL_again_0 (20, .astore 5, 2) (List.mem_of_getElem? (i := 12) rfl)
theorem dL_again_22 : decode cL_again 22 = .ok (.iconst 2, 1) := otL_again_0 (22, .iconst 2, 1) (List.mem_of_getElem? (i := 13) rfl)
theorem dL_again_23 : decode cL_again 23 = .ok (.ireturn, 1) := otL_again_0 (23, .ireturn, 1) (List.mem_of_getElem? (i := 14) rfl)
theorem dL_again_24 : decode cL_again 24 = .ok (.iconst 0, 1) := otL_again_0 (24, .iconst 0, 1) (List.mem_of_getElem? (i := 15) rfl)
theorem dL_again_25 : decode cL_again 25 = .ok (.ireturn, 1) := otL_again_0 (25, .ireturn, 1) (List.mem_of_getElem? (i := 16) rfl)
def tL_degree_0 : List (Nat × Instr × Nat) := [(0, .aload_n 2, 1), (1, .aload_n 0, 1), (2, .iload_n 1, 1), (3, .invokevirtual 97, 3), (6, .i2l, 1), (7, .putfield 13, 3), (10, .goto 6, 3), (13, .astore_n 3, 1), (14, .iconst 1, 1), (15, .ireturn, 1), (16, .iconst 0, 1), (17, .ireturn, 1)]
theorem otL_degree_0 : ∀ q ∈ tL_degree_0, decode cL_degree q.1 = .ok q.2 := by decide +kernel
theorem dL_degree_0 : decode cL_degree 0 = .ok (.aload_n 2, 1) := otL_degree_0 (0, .aload_n 2, 1) (List.mem_of_getElem? (i := 0) rfl)
theorem dL_degree_1 : decode cL_degree 1 = .ok (.aload_n 0, 1) := otL_degree_0 (1, .aload_n 0, 1) (List.mem_of_getElem? (i := 1) rfl)
theorem dL_degree_2 : decode cL_degree 2 = .ok (.iload_n 1, 1) := otL_degree_0 (2, .iload_n 1, 1) (List.mem_of_getElem? (i := 2) rfl)
theorem dL_degree_3 : decode cL_degree 3 = .ok (.invokevirtual 97, 3) := otL_degree_0 (3, .invokevirtual 97, 3) (List.mem_of_getElem? (i := 3) rfl)
theorem dL_degree_6 : decode cL_degree 6 = .ok (.i2l, 1) := otL_degree_0 (6, .i2l, 1) (List.mem_of_getElem? (i := 4) rfl)
theorem dL_degree_7 : decode cL_degree 7 = .ok (.putfield 13, 3) := otL_degree_0 (7, .putfield 13, 3) (List.mem_of_getElem? (i := 5) rfl)
theorem dL_degree_10 : decode cL_degree 10 = .ok (.goto 6, 3) := otL_degree_0 (10, .goto 6, 3) (List.mem_of_getElem? (i := 6) rfl)
theorem dL_degree_13 : decode cL_degree 13 = .ok (.astore_n 3, 1) := otL_degree_0 (13, .astore_n 3, 1) (List.mem_of_getElem? (i := 7) rfl)
theorem dL_degree_14 : decode cL_degree 14 = .ok (.iconst 1, 1) := otL_degree_0 (14, .iconst 1, 1) (List.mem_of_getElem? (i := 8) rfl)
theorem dL_degree_15 : decode cL_degree 15 = .ok (.ireturn, 1) := otL_degree_0 (15, .ireturn, 1) (List.mem_of_getElem? (i := 9) rfl)
theorem dL_degree_16 : decode cL_degree 16 = .ok (.iconst 0, 1) := otL_degree_0 (16, .iconst 0, 1) (List.mem_of_getElem? (i := 10) rfl)
theorem dL_degree_17 : decode cL_degree 17 = .ok (.ireturn, 1) := otL_degree_0 (17, .ireturn, 1) (List.mem_of_getElem? (i := 11) rfl)
def tL_low_0 : List (Nat × Instr × Nat) := [(0, .aload_n 2, 1), (1, .aload_n 0, 1), (2, .iload_n 1, 1), (3, .invokevirtual 101, 3), (6, .i2l, 1), (7, .putfield 13, 3), (10, .goto 6, 3), (13, .astore_n 3, 1), (14, .iconst 1, 1), (15, .ireturn, 1), (16, .iconst 0, 1), (17, .ireturn, 1)]
theorem otL_low_0 : ∀ q ∈ tL_low_0, decode cL_low q.1 = .ok q.2 := by decide +kernel
theorem dL_low_0 : decode cL_low 0 = .ok (.aload_n 2, 1) := otL_low_0 (0, .aload_n 2, 1) (List.mem_of_getElem? (i := 0) rfl)
theorem dL_low_1 : decode cL_low 1 = .ok (.aload_n 0, 1) := otL_low_0 (1, .aload_n 0, 1) (List.mem_of_getElem? (i := 1) rfl)
theorem dL_low_2 : decode cL_low 2 = .ok (.iload_n 1, 1) := otL_low_0 (2, .iload_n 1, 1) (List.mem_of_getElem? (i := 2) rfl)
theorem dL_low_3 : decode cL_low 3 = .ok (.invokevirtual 101, 3) := otL_low_0 (3, .invokevirtual 101, 3) (List.mem_of_getElem? (i := 3) rfl)
theorem dL_low_6 : decode cL_low 6 = .ok (.i2l, 1) := otL_low_0 (6, .i2l, 1) (List.mem_of_getElem? (i := 4) rfl)
theorem dL_low_7 : decode cL_low 7 = .ok (.putfield 13, 3) := otL_low_0 (7, .putfield 13, 3) (List.mem_of_getElem? (i := 5) rfl)
theorem dL_low_10 : decode cL_low 10 = .ok (.goto 6, 3) := otL_low_0 (10, .goto 6, 3) (List.mem_of_getElem? (i := 6) rfl)
theorem dL_low_13 : decode cL_low 13 = .ok (.astore_n 3, 1) := otL_low_0 (13, .astore_n 3, 1) (List.mem_of_getElem? (i := 7) rfl)
theorem dL_low_14 : decode cL_low 14 = .ok (.iconst 1, 1) := otL_low_0 (14, .iconst 1, 1) (List.mem_of_getElem? (i := 8) rfl)
theorem dL_low_15 : decode cL_low 15 = .ok (.ireturn, 1) := otL_low_0 (15, .ireturn, 1) (List.mem_of_getElem? (i := 9) rfl)
theorem dL_low_16 : decode cL_low 16 = .ok (.iconst 0, 1) := otL_low_0 (16, .iconst 0, 1) (List.mem_of_getElem? (i := 10) rfl)
theorem dL_low_17 : decode cL_low 17 = .ok (.ireturn, 1) := otL_low_0 (17, .ireturn, 1) (List.mem_of_getElem? (i := 11) rfl)
def tL_weight_0 : List (Nat × Instr × Nat) := [(0, .aload_n 2, 1), (1, .aload_n 0, 1), (2, .iload_n 1, 1), (3, .invokevirtual 104, 3), (6, .i2l, 1), (7, .putfield 13, 3), (10, .goto 6, 3), (13, .astore_n 3, 1), (14, .iconst 1, 1), (15, .ireturn, 1), (16, .iconst 0, 1), (17, .ireturn, 1)]
theorem otL_weight_0 : ∀ q ∈ tL_weight_0, decode cL_weight q.1 = .ok q.2 := by decide +kernel
theorem dL_weight_0 : decode cL_weight 0 = .ok (.aload_n 2, 1) := otL_weight_0 (0, .aload_n 2, 1) (List.mem_of_getElem? (i := 0) rfl)
theorem dL_weight_1 : decode cL_weight 1 = .ok (.aload_n 0, 1) := otL_weight_0 (1, .aload_n 0, 1) (List.mem_of_getElem? (i := 1) rfl)
theorem dL_weight_2 : decode cL_weight 2 = .ok (.iload_n 1, 1) := otL_weight_0 (2, .iload_n 1, 1) (List.mem_of_getElem? (i := 2) rfl)
theorem dL_weight_3 : decode cL_weight 3 = .ok (.invokevirtual 104, 3) := otL_weight_0 (3, .invokevirtual 104, 3) (List.mem_of_getElem? (i := 3) rfl)
theorem dL_weight_6 : decode cL_weight 6 = .ok (.i2l, 1) := otL_weight_0 (6, .i2l, 1) (List.mem_of_getElem? (i := 4) rfl)
theorem dL_weight_7 : decode cL_weight 7 = .ok (.putfield 13, 3) := otL_weight_0 (7, .putfield 13, 3) (List.mem_of_getElem? (i := 5) rfl)
theorem dL_weight_10 : decode cL_weight 10 = .ok (.goto 6, 3) := otL_weight_0 (10, .goto 6, 3) (List.mem_of_getElem? (i := 6) rfl)
theorem dL_weight_13 : decode cL_weight 13 = .ok (.astore_n 3, 1) := otL_weight_0 (13, .astore_n 3, 1) (List.mem_of_getElem? (i := 7) rfl)
theorem dL_weight_14 : decode cL_weight 14 = .ok (.iconst 1, 1) := otL_weight_0 (14, .iconst 1, 1) (List.mem_of_getElem? (i := 8) rfl)
theorem dL_weight_15 : decode cL_weight 15 = .ok (.ireturn, 1) := otL_weight_0 (15, .ireturn, 1) (List.mem_of_getElem? (i := 9) rfl)
theorem dL_weight_16 : decode cL_weight 16 = .ok (.iconst 0, 1) := otL_weight_0 (16, .iconst 0, 1) (List.mem_of_getElem? (i := 10) rfl)
theorem dL_weight_17 : decode cL_weight 17 = .ok (.ireturn, 1) := otL_weight_0 (17, .ireturn, 1) (List.mem_of_getElem? (i := 11) rfl)
def tL_at_0 : List (Nat × Instr × Nat) := [(0, .aload_n 3, 1), (1, .aload_n 0, 1), (2, .iload_n 1, 1), (3, .iload_n 2, 1), (4, .invokevirtual 107, 3), (7, .ifCond .eq 7, 3), (10, .lconst 1, 1), (11, .goto 4, 3), (14, .lconst 0, 1), (15, .putfield 13, 3), (18, .goto 11, 3), (21, .astore 4, 2), (23, .iconst 1, 1), (24, .ireturn, 1), (25, .astore 4, 2), (27, .iconst 2, 1), (28, .ireturn, 1), (29, .iconst 0, 1), (30, .ireturn, 1)]
theorem otL_at_0 : ∀ q ∈ tL_at_0, decode cL_at q.1 = .ok q.2 := by decide +kernel
theorem dL_at_0 : decode cL_at 0 = .ok (.aload_n 3, 1) := otL_at_0 (0, .aload_n 3, 1) (List.mem_of_getElem? (i := 0) rfl)
theorem dL_at_1 : decode cL_at 1 = .ok (.aload_n 0, 1) := otL_at_0 (1, .aload_n 0, 1) (List.mem_of_getElem? (i := 1) rfl)
theorem dL_at_2 : decode cL_at 2 = .ok (.iload_n 1, 1) := otL_at_0 (2, .iload_n 1, 1) (List.mem_of_getElem? (i := 2) rfl)
theorem dL_at_3 : decode cL_at 3 = .ok (.iload_n 2, 1) := otL_at_0 (3, .iload_n 2, 1) (List.mem_of_getElem? (i := 3) rfl)
theorem dL_at_4 : decode cL_at 4 = .ok (.invokevirtual 107, 3) := otL_at_0 (4, .invokevirtual 107, 3) (List.mem_of_getElem? (i := 4) rfl)
theorem dL_at_7 : decode cL_at 7 = .ok (.ifCond .eq 7, 3) := otL_at_0 (7, .ifCond .eq 7, 3) (List.mem_of_getElem? (i := 5) rfl)
theorem dL_at_10 : decode cL_at 10 = .ok (.lconst 1, 1) := otL_at_0 (10, .lconst 1, 1) (List.mem_of_getElem? (i := 6) rfl)
theorem dL_at_11 : decode cL_at 11 = .ok (.goto 4, 3) := otL_at_0 (11, .goto 4, 3) (List.mem_of_getElem? (i := 7) rfl)
theorem dL_at_14 : decode cL_at 14 = .ok (.lconst 0, 1) := otL_at_0 (14, .lconst 0, 1) (List.mem_of_getElem? (i := 8) rfl)
theorem dL_at_15 : decode cL_at 15 = .ok (.putfield 13, 3) := otL_at_0 (15, .putfield 13, 3) (List.mem_of_getElem? (i := 9) rfl)
theorem dL_at_18 : decode cL_at 18 = .ok (.goto 11, 3) := otL_at_0 (18, .goto 11, 3) (List.mem_of_getElem? (i := 10) rfl)
theorem dL_at_21 : decode cL_at 21 = .ok (.astore 4, 2) := otL_at_0 (21, .astore 4, 2) (List.mem_of_getElem? (i := 11) rfl)
theorem dL_at_23 : decode cL_at 23 = .ok (.iconst 1, 1) := otL_at_0 (23, .iconst 1, 1) (List.mem_of_getElem? (i := 12) rfl)
theorem dL_at_24 : decode cL_at 24 = .ok (.ireturn, 1) := otL_at_0 (24, .ireturn, 1) (List.mem_of_getElem? (i := 13) rfl)
theorem dL_at_25 : decode cL_at 25 = .ok (.astore 4, 2) := otL_at_0 (25, .astore 4, 2) (List.mem_of_getElem? (i := 14) rfl)
theorem dL_at_27 : decode cL_at 27 = .ok (.iconst 2, 1) := otL_at_0 (27, .iconst 2, 1) (List.mem_of_getElem? (i := 15) rfl)
theorem dL_at_28 : decode cL_at 28 = .ok (.ireturn, 1) := otL_at_0 (28, .ireturn, 1) (List.mem_of_getElem? (i := 16) rfl)
theorem dL_at_29 : decode cL_at 29 = .ok (.iconst 0, 1) := otL_at_0 (29, .iconst 0, 1) (List.mem_of_getElem? (i := 17) rfl)
theorem dL_at_30 : decode cL_at 30 = .ok (.ireturn, 1) := otL_at_0 (30, .ireturn, 1) (List.mem_of_getElem? (i := 18) rfl)
def tL_digits_0 : List (Nat × Instr × Nat) := [(0, .aload_n 2, 1), (1, .aload_n 0, 1), (2, .iload_n 1, 1), (3, .invokevirtual 110, 3), (6, .i2l, 1), (7, .putfield 13, 3), (10, .goto 6, 3), (13, .astore_n 3, 1), (14, .iconst 1, 1), (15, .ireturn, 1), (16, .iconst 0, 1), (17, .ireturn, 1)]
theorem otL_digits_0 : ∀ q ∈ tL_digits_0, decode cL_digits q.1 = .ok q.2 := by decide +kernel
theorem dL_digits_0 : decode cL_digits 0 = .ok (.aload_n 2, 1) := otL_digits_0 (0, .aload_n 2, 1) (List.mem_of_getElem? (i := 0) rfl)
theorem dL_digits_1 : decode cL_digits 1 = .ok (.aload_n 0, 1) := otL_digits_0 (1, .aload_n 0, 1) (List.mem_of_getElem? (i := 1) rfl)
theorem dL_digits_2 : decode cL_digits 2 = .ok (.iload_n 1, 1) := otL_digits_0 (2, .iload_n 1, 1) (List.mem_of_getElem? (i := 2) rfl)
theorem dL_digits_3 : decode cL_digits 3 = .ok (.invokevirtual 110, 3) := otL_digits_0 (3, .invokevirtual 110, 3) (List.mem_of_getElem? (i := 3) rfl)
theorem dL_digits_6 : decode cL_digits 6 = .ok (.i2l, 1) := otL_digits_0 (6, .i2l, 1) (List.mem_of_getElem? (i := 4) rfl)
theorem dL_digits_7 : decode cL_digits 7 = .ok (.putfield 13, 3) := otL_digits_0 (7, .putfield 13, 3) (List.mem_of_getElem? (i := 5) rfl)
theorem dL_digits_10 : decode cL_digits 10 = .ok (.goto 6, 3) := otL_digits_0 (10, .goto 6, 3) (List.mem_of_getElem? (i := 6) rfl)
theorem dL_digits_13 : decode cL_digits 13 = .ok (.astore_n 3, 1) := otL_digits_0 (13, .astore_n 3, 1) (List.mem_of_getElem? (i := 7) rfl)
theorem dL_digits_14 : decode cL_digits 14 = .ok (.iconst 1, 1) := otL_digits_0 (14, .iconst 1, 1) (List.mem_of_getElem? (i := 8) rfl)
theorem dL_digits_15 : decode cL_digits 15 = .ok (.ireturn, 1) := otL_digits_0 (15, .ireturn, 1) (List.mem_of_getElem? (i := 9) rfl)
theorem dL_digits_16 : decode cL_digits 16 = .ok (.iconst 0, 1) := otL_digits_0 (16, .iconst 0, 1) (List.mem_of_getElem? (i := 10) rfl)
theorem dL_digits_17 : decode cL_digits 17 = .ok (.ireturn, 1) := otL_digits_0 (17, .ireturn, 1) (List.mem_of_getElem? (i := 11) rfl)
def tL_text_0 : List (Nat × Instr × Nat) := [(0, .aload_n 2, 1), (1, .aload_n 0, 1), (2, .iload_n 1, 1), (3, .invokevirtual 113, 3), (6, .putfield 117, 3), (9, .goto 6, 3), (12, .astore_n 3, 1), (13, .iconst 1, 1), (14, .ireturn, 1), (15, .iconst 0, 1), (16, .ireturn, 1)]
theorem otL_text_0 : ∀ q ∈ tL_text_0, decode cL_text q.1 = .ok q.2 := by decide +kernel
theorem dL_text_0 : decode cL_text 0 = .ok (.aload_n 2, 1) := otL_text_0 (0, .aload_n 2, 1) (List.mem_of_getElem? (i := 0) rfl)
theorem dL_text_1 : decode cL_text 1 = .ok (.aload_n 0, 1) := otL_text_0 (1, .aload_n 0, 1) (List.mem_of_getElem? (i := 1) rfl)
theorem dL_text_2 : decode cL_text 2 = .ok (.iload_n 1, 1) := otL_text_0 (2, .iload_n 1, 1) (List.mem_of_getElem? (i := 2) rfl)
theorem dL_text_3 : decode cL_text 3 = .ok (.invokevirtual 113, 3) := otL_text_0 (3, .invokevirtual 113, 3) (List.mem_of_getElem? (i := 3) rfl)
theorem dL_text_6 : decode cL_text 6 = .ok (.putfield 117, 3) := otL_text_0 (6, .putfield 117, 3) (List.mem_of_getElem? (i := 4) rfl)
theorem dL_text_9 : decode cL_text 9 = .ok (.goto 6, 3) := otL_text_0 (9, .goto 6, 3) (List.mem_of_getElem? (i := 5) rfl)
theorem dL_text_12 : decode cL_text 12 = .ok (.astore_n 3, 1) := otL_text_0 (12, .astore_n 3, 1) (List.mem_of_getElem? (i := 6) rfl)
theorem dL_text_13 : decode cL_text 13 = .ok (.iconst 1, 1) := otL_text_0 (13, .iconst 1, 1) (List.mem_of_getElem? (i := 7) rfl)
theorem dL_text_14 : decode cL_text 14 = .ok (.ireturn, 1) := otL_text_0 (14, .ireturn, 1) (List.mem_of_getElem? (i := 8) rfl)
theorem dL_text_15 : decode cL_text 15 = .ok (.iconst 0, 1) := otL_text_0 (15, .iconst 0, 1) (List.mem_of_getElem? (i := 9) rfl)
theorem dL_text_16 : decode cL_text 16 = .ok (.ireturn, 1) := otL_text_0 (16, .ireturn, 1) (List.mem_of_getElem? (i := 10) rfl)
def tL_code_0 : List (Nat × Instr × Nat) := [(0, .aload_n 3, 1), (1, .aload_n 0, 1), (2, .iload_n 1, 1), (3, .iload_n 2, 1), (4, .invokevirtual 121, 3), (7, .putfield 117, 3), (10, .goto 11, 3), (13, .astore 4, 2), (15, .iconst 1, 1), (16, .ireturn, 1), (17, .astore 4, 2), (19, .iconst 2, 1), (20, .ireturn, 1), (21, .iconst 0, 1), (22, .ireturn, 1)]
theorem otL_code_0 : ∀ q ∈ tL_code_0, decode cL_code q.1 = .ok q.2 := by decide +kernel
theorem dL_code_0 : decode cL_code 0 = .ok (.aload_n 3, 1) := otL_code_0 (0, .aload_n 3, 1) (List.mem_of_getElem? (i := 0) rfl)
theorem dL_code_1 : decode cL_code 1 = .ok (.aload_n 0, 1) := otL_code_0 (1, .aload_n 0, 1) (List.mem_of_getElem? (i := 1) rfl)
theorem dL_code_2 : decode cL_code 2 = .ok (.iload_n 1, 1) := otL_code_0 (2, .iload_n 1, 1) (List.mem_of_getElem? (i := 2) rfl)
theorem dL_code_3 : decode cL_code 3 = .ok (.iload_n 2, 1) := otL_code_0 (3, .iload_n 2, 1) (List.mem_of_getElem? (i := 3) rfl)
theorem dL_code_4 : decode cL_code 4 = .ok (.invokevirtual 121, 3) := otL_code_0 (4, .invokevirtual 121, 3) (List.mem_of_getElem? (i := 4) rfl)
theorem dL_code_7 : decode cL_code 7 = .ok (.putfield 117, 3) := otL_code_0 (7, .putfield 117, 3) (List.mem_of_getElem? (i := 5) rfl)
theorem dL_code_10 : decode cL_code 10 = .ok (.goto 11, 3) := otL_code_0 (10, .goto 11, 3) (List.mem_of_getElem? (i := 6) rfl)
theorem dL_code_13 : decode cL_code 13 = .ok (.astore 4, 2) := otL_code_0 (13, .astore 4, 2) (List.mem_of_getElem? (i := 7) rfl)
theorem dL_code_15 : decode cL_code 15 = .ok (.iconst 1, 1) := otL_code_0 (15, .iconst 1, 1) (List.mem_of_getElem? (i := 8) rfl)
theorem dL_code_16 : decode cL_code 16 = .ok (.ireturn, 1) := otL_code_0 (16, .ireturn, 1) (List.mem_of_getElem? (i := 9) rfl)
theorem dL_code_17 : decode cL_code 17 = .ok (.astore 4, 2) := otL_code_0 (17, .astore 4, 2) (List.mem_of_getElem? (i := 10) rfl)
theorem dL_code_19 : decode cL_code 19 = .ok (.iconst 2, 1) := otL_code_0 (19, .iconst 2, 1) (List.mem_of_getElem? (i := 11) rfl)
theorem dL_code_20 : decode cL_code 20 = .ok (.ireturn, 1) := otL_code_0 (20, .ireturn, 1) (List.mem_of_getElem? (i := 12) rfl)
theorem dL_code_21 : decode cL_code 21 = .ok (.iconst 0, 1) := otL_code_0 (21, .iconst 0, 1) (List.mem_of_getElem? (i := 13) rfl)
theorem dL_code_22 : decode cL_code 22 = .ok (.ireturn, 1) := otL_code_0 (22, .ireturn, 1) (List.mem_of_getElem? (i := 14) rfl)
def tL_order_0 : List (Nat × Instr × Nat) := [(0, .aload_n 3, 1), (1, .aload_n 0, 1), (2, .iload_n 1, 1), (3, .iload_n 2, 1), (4, .invokevirtual 125, 3), (7, .i2l, 1), (8, .putfield 13, 3), (11, .goto 7, 3), (14, .astore 4, 2), (16, .iconst 1, 1), (17, .ireturn, 1), (18, .iconst 0, 1), (19, .ireturn, 1)]
theorem otL_order_0 : ∀ q ∈ tL_order_0, decode cL_order q.1 = .ok q.2 := by decide +kernel
theorem dL_order_0 : decode cL_order 0 = .ok (.aload_n 3, 1) := otL_order_0 (0, .aload_n 3, 1) (List.mem_of_getElem? (i := 0) rfl)
theorem dL_order_1 : decode cL_order 1 = .ok (.aload_n 0, 1) := otL_order_0 (1, .aload_n 0, 1) (List.mem_of_getElem? (i := 1) rfl)
theorem dL_order_2 : decode cL_order 2 = .ok (.iload_n 1, 1) := otL_order_0 (2, .iload_n 1, 1) (List.mem_of_getElem? (i := 2) rfl)
theorem dL_order_3 : decode cL_order 3 = .ok (.iload_n 2, 1) := otL_order_0 (3, .iload_n 2, 1) (List.mem_of_getElem? (i := 3) rfl)
theorem dL_order_4 : decode cL_order 4 = .ok (.invokevirtual 125, 3) := otL_order_0 (4, .invokevirtual 125, 3) (List.mem_of_getElem? (i := 4) rfl)
theorem dL_order_7 : decode cL_order 7 = .ok (.i2l, 1) := otL_order_0 (7, .i2l, 1) (List.mem_of_getElem? (i := 5) rfl)
theorem dL_order_8 : decode cL_order 8 = .ok (.putfield 13, 3) := otL_order_0 (8, .putfield 13, 3) (List.mem_of_getElem? (i := 6) rfl)
theorem dL_order_11 : decode cL_order 11 = .ok (.goto 7, 3) := otL_order_0 (11, .goto 7, 3) (List.mem_of_getElem? (i := 7) rfl)
theorem dL_order_14 : decode cL_order 14 = .ok (.astore 4, 2) := otL_order_0 (14, .astore 4, 2) (List.mem_of_getElem? (i := 8) rfl)
theorem dL_order_16 : decode cL_order 16 = .ok (.iconst 1, 1) := otL_order_0 (16, .iconst 1, 1) (List.mem_of_getElem? (i := 9) rfl)
theorem dL_order_17 : decode cL_order 17 = .ok (.ireturn, 1) := otL_order_0 (17, .ireturn, 1) (List.mem_of_getElem? (i := 10) rfl)
theorem dL_order_18 : decode cL_order 18 = .ok (.iconst 0, 1) := otL_order_0 (18, .iconst 0, 1) (List.mem_of_getElem? (i := 11) rfl)
theorem dL_order_19 : decode cL_order 19 = .ok (.ireturn, 1) := otL_order_0 (19, .ireturn, 1) (List.mem_of_getElem? (i := 12) rfl)
def tL_isSame_0 : List (Nat × Instr × Nat) := [(0, .aload_n 3, 1), (1, .aload_n 0, 1), (2, .iload_n 1, 1), (3, .iload_n 2, 1), (4, .invokevirtual 128, 3), (7, .ifCond .eq 7, 3), (10, .lconst 1, 1), (11, .goto 4, 3), (14, .lconst 0, 1), (15, .putfield 13, 3), (18, .goto 7, 3), (21, .astore 4, 2), (23, .iconst 1, 1), (24, .ireturn, 1), (25, .iconst 0, 1), (26, .ireturn, 1)]
theorem otL_isSame_0 : ∀ q ∈ tL_isSame_0, decode cL_isSame q.1 = .ok q.2 := by decide +kernel
theorem dL_isSame_0 : decode cL_isSame 0 = .ok (.aload_n 3, 1) := otL_isSame_0 (0, .aload_n 3, 1) (List.mem_of_getElem? (i := 0) rfl)
theorem dL_isSame_1 : decode cL_isSame 1 = .ok (.aload_n 0, 1) := otL_isSame_0 (1, .aload_n 0, 1) (List.mem_of_getElem? (i := 1) rfl)
theorem dL_isSame_2 : decode cL_isSame 2 = .ok (.iload_n 1, 1) := otL_isSame_0 (2, .iload_n 1, 1) (List.mem_of_getElem? (i := 2) rfl)
theorem dL_isSame_3 : decode cL_isSame 3 = .ok (.iload_n 2, 1) := otL_isSame_0 (3, .iload_n 2, 1) (List.mem_of_getElem? (i := 3) rfl)
theorem dL_isSame_4 : decode cL_isSame 4 = .ok (.invokevirtual 128, 3) := otL_isSame_0 (4, .invokevirtual 128, 3) (List.mem_of_getElem? (i := 4) rfl)
theorem dL_isSame_7 : decode cL_isSame 7 = .ok (.ifCond .eq 7, 3) := otL_isSame_0 (7, .ifCond .eq 7, 3) (List.mem_of_getElem? (i := 5) rfl)
theorem dL_isSame_10 : decode cL_isSame 10 = .ok (.lconst 1, 1) := otL_isSame_0 (10, .lconst 1, 1) (List.mem_of_getElem? (i := 6) rfl)
theorem dL_isSame_11 : decode cL_isSame 11 = .ok (.goto 4, 3) := otL_isSame_0 (11, .goto 4, 3) (List.mem_of_getElem? (i := 7) rfl)
theorem dL_isSame_14 : decode cL_isSame 14 = .ok (.lconst 0, 1) := otL_isSame_0 (14, .lconst 0, 1) (List.mem_of_getElem? (i := 8) rfl)
theorem dL_isSame_15 : decode cL_isSame 15 = .ok (.putfield 13, 3) := otL_isSame_0 (15, .putfield 13, 3) (List.mem_of_getElem? (i := 9) rfl)
theorem dL_isSame_18 : decode cL_isSame 18 = .ok (.goto 7, 3) := otL_isSame_0 (18, .goto 7, 3) (List.mem_of_getElem? (i := 10) rfl)
theorem dL_isSame_21 : decode cL_isSame 21 = .ok (.astore 4, 2) := otL_isSame_0 (21, .astore 4, 2) (List.mem_of_getElem? (i := 11) rfl)
theorem dL_isSame_23 : decode cL_isSame 23 = .ok (.iconst 1, 1) := otL_isSame_0 (23, .iconst 1, 1) (List.mem_of_getElem? (i := 12) rfl)
theorem dL_isSame_24 : decode cL_isSame 24 = .ok (.ireturn, 1) := otL_isSame_0 (24, .ireturn, 1) (List.mem_of_getElem? (i := 13) rfl)
theorem dL_isSame_25 : decode cL_isSame 25 = .ok (.iconst 0, 1) := otL_isSame_0 (25, .iconst 0, 1) (List.mem_of_getElem? (i := 14) rfl)
theorem dL_isSame_26 : decode cL_isSame 26 = .ok (.ireturn, 1) := otL_isSame_0 (26, .ireturn, 1) (List.mem_of_getElem? (i := 15) rfl)
def tL_value_0 : List (Nat × Instr × Nat) := [(0, .aload_n 3, 1), (1, .aload_n 0, 1), (2, .iload_n 1, 1), (3, .iload_n 2, 1), (4, .invokevirtual 131, 3), (7, .i2l, 1), (8, .putfield 13, 3), (11, .goto 7, 3), (14, .astore 4, 2), (16, .iconst 1, 1), (17, .ireturn, 1), (18, .iconst 0, 1), (19, .ireturn, 1)]
theorem otL_value_0 : ∀ q ∈ tL_value_0, decode cL_value q.1 = .ok q.2 := by decide +kernel
theorem dL_value_0 : decode cL_value 0 = .ok (.aload_n 3, 1) := otL_value_0 (0, .aload_n 3, 1) (List.mem_of_getElem? (i := 0) rfl)
theorem dL_value_1 : decode cL_value 1 = .ok (.aload_n 0, 1) := otL_value_0 (1, .aload_n 0, 1) (List.mem_of_getElem? (i := 1) rfl)
theorem dL_value_2 : decode cL_value 2 = .ok (.iload_n 1, 1) := otL_value_0 (2, .iload_n 1, 1) (List.mem_of_getElem? (i := 2) rfl)
theorem dL_value_3 : decode cL_value 3 = .ok (.iload_n 2, 1) := otL_value_0 (3, .iload_n 2, 1) (List.mem_of_getElem? (i := 3) rfl)
theorem dL_value_4 : decode cL_value 4 = .ok (.invokevirtual 131, 3) := otL_value_0 (4, .invokevirtual 131, 3) (List.mem_of_getElem? (i := 4) rfl)
theorem dL_value_7 : decode cL_value 7 = .ok (.i2l, 1) := otL_value_0 (7, .i2l, 1) (List.mem_of_getElem? (i := 5) rfl)
theorem dL_value_8 : decode cL_value 8 = .ok (.putfield 13, 3) := otL_value_0 (8, .putfield 13, 3) (List.mem_of_getElem? (i := 6) rfl)
theorem dL_value_11 : decode cL_value 11 = .ok (.goto 7, 3) := otL_value_0 (11, .goto 7, 3) (List.mem_of_getElem? (i := 7) rfl)
theorem dL_value_14 : decode cL_value 14 = .ok (.astore 4, 2) := otL_value_0 (14, .astore 4, 2) (List.mem_of_getElem? (i := 8) rfl)
theorem dL_value_16 : decode cL_value 16 = .ok (.iconst 1, 1) := otL_value_0 (16, .iconst 1, 1) (List.mem_of_getElem? (i := 9) rfl)
theorem dL_value_17 : decode cL_value 17 = .ok (.ireturn, 1) := otL_value_0 (17, .ireturn, 1) (List.mem_of_getElem? (i := 10) rfl)
theorem dL_value_18 : decode cL_value 18 = .ok (.iconst 0, 1) := otL_value_0 (18, .iconst 0, 1) (List.mem_of_getElem? (i := 11) rfl)
theorem dL_value_19 : decode cL_value 19 = .ok (.ireturn, 1) := otL_value_0 (19, .ireturn, 1) (List.mem_of_getElem? (i := 12) rfl)
def tL_divides_0 : List (Nat × Instr × Nat) := [(0, .aload_n 3, 1), (1, .aload_n 0, 1), (2, .iload_n 1, 1), (3, .iload_n 2, 1), (4, .invokevirtual 135, 3), (7, .ifCond .eq 7, 3), (10, .lconst 1, 1), (11, .goto 4, 3), (14, .lconst 0, 1), (15, .putfield 13, 3), (18, .goto 7, 3), (21, .astore 4, 2), (23, .iconst 1, 1), (24, .ireturn, 1), (25, .iconst 0, 1), (26, .ireturn, 1)]
theorem otL_divides_0 : ∀ q ∈ tL_divides_0, decode cL_divides q.1 = .ok q.2 := by decide +kernel
theorem dL_divides_0 : decode cL_divides 0 = .ok (.aload_n 3, 1) := otL_divides_0 (0, .aload_n 3, 1) (List.mem_of_getElem? (i := 0) rfl)
theorem dL_divides_1 : decode cL_divides 1 = .ok (.aload_n 0, 1) := otL_divides_0 (1, .aload_n 0, 1) (List.mem_of_getElem? (i := 1) rfl)
theorem dL_divides_2 : decode cL_divides 2 = .ok (.iload_n 1, 1) := otL_divides_0 (2, .iload_n 1, 1) (List.mem_of_getElem? (i := 2) rfl)
theorem dL_divides_3 : decode cL_divides 3 = .ok (.iload_n 2, 1) := otL_divides_0 (3, .iload_n 2, 1) (List.mem_of_getElem? (i := 3) rfl)
theorem dL_divides_4 : decode cL_divides 4 = .ok (.invokevirtual 135, 3) := otL_divides_0 (4, .invokevirtual 135, 3) (List.mem_of_getElem? (i := 4) rfl)
theorem dL_divides_7 : decode cL_divides 7 = .ok (.ifCond .eq 7, 3) := otL_divides_0 (7, .ifCond .eq 7, 3) (List.mem_of_getElem? (i := 5) rfl)
theorem dL_divides_10 : decode cL_divides 10 = .ok (.lconst 1, 1) := otL_divides_0 (10, .lconst 1, 1) (List.mem_of_getElem? (i := 6) rfl)
theorem dL_divides_11 : decode cL_divides 11 = .ok (.goto 4, 3) := otL_divides_0 (11, .goto 4, 3) (List.mem_of_getElem? (i := 7) rfl)
theorem dL_divides_14 : decode cL_divides 14 = .ok (.lconst 0, 1) := otL_divides_0 (14, .lconst 0, 1) (List.mem_of_getElem? (i := 8) rfl)
theorem dL_divides_15 : decode cL_divides 15 = .ok (.putfield 13, 3) := otL_divides_0 (15, .putfield 13, 3) (List.mem_of_getElem? (i := 9) rfl)
theorem dL_divides_18 : decode cL_divides 18 = .ok (.goto 7, 3) := otL_divides_0 (18, .goto 7, 3) (List.mem_of_getElem? (i := 10) rfl)
theorem dL_divides_21 : decode cL_divides 21 = .ok (.astore 4, 2) := otL_divides_0 (21, .astore 4, 2) (List.mem_of_getElem? (i := 11) rfl)
theorem dL_divides_23 : decode cL_divides 23 = .ok (.iconst 1, 1) := otL_divides_0 (23, .iconst 1, 1) (List.mem_of_getElem? (i := 12) rfl)
theorem dL_divides_24 : decode cL_divides 24 = .ok (.ireturn, 1) := otL_divides_0 (24, .ireturn, 1) (List.mem_of_getElem? (i := 13) rfl)
theorem dL_divides_25 : decode cL_divides 25 = .ok (.iconst 0, 1) := otL_divides_0 (25, .iconst 0, 1) (List.mem_of_getElem? (i := 14) rfl)
theorem dL_divides_26 : decode cL_divides 26 = .ok (.ireturn, 1) := otL_divides_0 (26, .ireturn, 1) (List.mem_of_getElem? (i := 15) rfl)
def tL_isFree_0 : List (Nat × Instr × Nat) := [(0, .aload_n 2, 1), (1, .aload_n 0, 1), (2, .iload_n 1, 1), (3, .invokevirtual 138, 3), (6, .ifCond .eq 7, 3), (9, .lconst 1, 1), (10, .goto 4, 3), (13, .lconst 0, 1), (14, .putfield 13, 3), (17, .goto 6, 3), (20, .astore_n 3, 1), (21, .iconst 1, 1), (22, .ireturn, 1), (23, .iconst 0, 1), (24, .ireturn, 1)]
theorem otL_isFree_0 : ∀ q ∈ tL_isFree_0, decode cL_isFree q.1 = .ok q.2 := by decide +kernel
theorem dL_isFree_0 : decode cL_isFree 0 = .ok (.aload_n 2, 1) := otL_isFree_0 (0, .aload_n 2, 1) (List.mem_of_getElem? (i := 0) rfl)
theorem dL_isFree_1 : decode cL_isFree 1 = .ok (.aload_n 0, 1) := otL_isFree_0 (1, .aload_n 0, 1) (List.mem_of_getElem? (i := 1) rfl)
theorem dL_isFree_2 : decode cL_isFree 2 = .ok (.iload_n 1, 1) := otL_isFree_0 (2, .iload_n 1, 1) (List.mem_of_getElem? (i := 2) rfl)
theorem dL_isFree_3 : decode cL_isFree 3 = .ok (.invokevirtual 138, 3) := otL_isFree_0 (3, .invokevirtual 138, 3) (List.mem_of_getElem? (i := 3) rfl)
theorem dL_isFree_6 : decode cL_isFree 6 = .ok (.ifCond .eq 7, 3) := otL_isFree_0 (6, .ifCond .eq 7, 3) (List.mem_of_getElem? (i := 4) rfl)
theorem dL_isFree_9 : decode cL_isFree 9 = .ok (.lconst 1, 1) := otL_isFree_0 (9, .lconst 1, 1) (List.mem_of_getElem? (i := 5) rfl)
theorem dL_isFree_10 : decode cL_isFree 10 = .ok (.goto 4, 3) := otL_isFree_0 (10, .goto 4, 3) (List.mem_of_getElem? (i := 6) rfl)
theorem dL_isFree_13 : decode cL_isFree 13 = .ok (.lconst 0, 1) := otL_isFree_0 (13, .lconst 0, 1) (List.mem_of_getElem? (i := 7) rfl)
theorem dL_isFree_14 : decode cL_isFree 14 = .ok (.putfield 13, 3) := otL_isFree_0 (14, .putfield 13, 3) (List.mem_of_getElem? (i := 8) rfl)
theorem dL_isFree_17 : decode cL_isFree 17 = .ok (.goto 6, 3) := otL_isFree_0 (17, .goto 6, 3) (List.mem_of_getElem? (i := 9) rfl)
theorem dL_isFree_20 : decode cL_isFree 20 = .ok (.astore_n 3, 1) := otL_isFree_0 (20, .astore_n 3, 1) (List.mem_of_getElem? (i := 10) rfl)
theorem dL_isFree_21 : decode cL_isFree 21 = .ok (.iconst 1, 1) := otL_isFree_0 (21, .iconst 1, 1) (List.mem_of_getElem? (i := 11) rfl)
theorem dL_isFree_22 : decode cL_isFree 22 = .ok (.ireturn, 1) := otL_isFree_0 (22, .ireturn, 1) (List.mem_of_getElem? (i := 12) rfl)
theorem dL_isFree_23 : decode cL_isFree 23 = .ok (.iconst 0, 1) := otL_isFree_0 (23, .iconst 0, 1) (List.mem_of_getElem? (i := 13) rfl)
theorem dL_isFree_24 : decode cL_isFree 24 = .ok (.ireturn, 1) := otL_isFree_0 (24, .ireturn, 1) (List.mem_of_getElem? (i := 14) rfl)
def tL_irreducible_0 : List (Nat × Instr × Nat) := [(0, .aload_n 2, 1), (1, .aload_n 0, 1), (2, .iload_n 1, 1), (3, .invokevirtual 142, 3), (6, .i2l, 1), (7, .putfield 13, 3), (10, .goto 6, 3), (13, .astore_n 3, 1), (14, .iconst 1, 1), (15, .ireturn, 1), (16, .iconst 0, 1), (17, .ireturn, 1)]
theorem otL_irreducible_0 : ∀ q ∈ tL_irreducible_0, decode cL_irreducible q.1 = .ok q.2 := by decide +kernel
theorem dL_irreducible_0 : decode cL_irreducible 0 = .ok (.aload_n 2, 1) := otL_irreducible_0 (0, .aload_n 2, 1) (List.mem_of_getElem? (i := 0) rfl)
theorem dL_irreducible_1 : decode cL_irreducible 1 = .ok (.aload_n 0, 1) := otL_irreducible_0 (1, .aload_n 0, 1) (List.mem_of_getElem? (i := 1) rfl)
theorem dL_irreducible_2 : decode cL_irreducible 2 = .ok (.iload_n 1, 1) := otL_irreducible_0 (2, .iload_n 1, 1) (List.mem_of_getElem? (i := 2) rfl)
theorem dL_irreducible_3 : decode cL_irreducible 3 = .ok (.invokevirtual 142, 3) := otL_irreducible_0 (3, .invokevirtual 142, 3) (List.mem_of_getElem? (i := 3) rfl)
theorem dL_irreducible_6 : decode cL_irreducible 6 = .ok (.i2l, 1) := otL_irreducible_0 (6, .i2l, 1) (List.mem_of_getElem? (i := 4) rfl)
theorem dL_irreducible_7 : decode cL_irreducible 7 = .ok (.putfield 13, 3) := otL_irreducible_0 (7, .putfield 13, 3) (List.mem_of_getElem? (i := 5) rfl)
theorem dL_irreducible_10 : decode cL_irreducible 10 = .ok (.goto 6, 3) := otL_irreducible_0 (10, .goto 6, 3) (List.mem_of_getElem? (i := 6) rfl)
theorem dL_irreducible_13 : decode cL_irreducible 13 = .ok (.astore_n 3, 1) := otL_irreducible_0 (13, .astore_n 3, 1) (List.mem_of_getElem? (i := 7) rfl)
theorem dL_irreducible_14 : decode cL_irreducible 14 = .ok (.iconst 1, 1) := otL_irreducible_0 (14, .iconst 1, 1) (List.mem_of_getElem? (i := 8) rfl)
theorem dL_irreducible_15 : decode cL_irreducible 15 = .ok (.ireturn, 1) := otL_irreducible_0 (15, .ireturn, 1) (List.mem_of_getElem? (i := 9) rfl)
theorem dL_irreducible_16 : decode cL_irreducible 16 = .ok (.iconst 0, 1) := otL_irreducible_0 (16, .iconst 0, 1) (List.mem_of_getElem? (i := 10) rfl)
theorem dL_irreducible_17 : decode cL_irreducible 17 = .ok (.ireturn, 1) := otL_irreducible_0 (17, .ireturn, 1) (List.mem_of_getElem? (i := 11) rfl)
def tL_rank_0 : List (Nat × Instr × Nat) := [(0, .aload_n 2, 1), (1, .aload_n 0, 1), (2, .iload_n 1, 1), (3, .invokevirtual 145, 3), (6, .i2l, 1), (7, .putfield 13, 3), (10, .goto 6, 3), (13, .astore_n 3, 1), (14, .iconst 1, 1), (15, .ireturn, 1), (16, .iconst 0, 1), (17, .ireturn, 1)]
theorem otL_rank_0 : ∀ q ∈ tL_rank_0, decode cL_rank q.1 = .ok q.2 := by decide +kernel
theorem dL_rank_0 : decode cL_rank 0 = .ok (.aload_n 2, 1) := otL_rank_0 (0, .aload_n 2, 1) (List.mem_of_getElem? (i := 0) rfl)
theorem dL_rank_1 : decode cL_rank 1 = .ok (.aload_n 0, 1) := otL_rank_0 (1, .aload_n 0, 1) (List.mem_of_getElem? (i := 1) rfl)
theorem dL_rank_2 : decode cL_rank 2 = .ok (.iload_n 1, 1) := otL_rank_0 (2, .iload_n 1, 1) (List.mem_of_getElem? (i := 2) rfl)
theorem dL_rank_3 : decode cL_rank 3 = .ok (.invokevirtual 145, 3) := otL_rank_0 (3, .invokevirtual 145, 3) (List.mem_of_getElem? (i := 3) rfl)
theorem dL_rank_6 : decode cL_rank 6 = .ok (.i2l, 1) := otL_rank_0 (6, .i2l, 1) (List.mem_of_getElem? (i := 4) rfl)
theorem dL_rank_7 : decode cL_rank 7 = .ok (.putfield 13, 3) := otL_rank_0 (7, .putfield 13, 3) (List.mem_of_getElem? (i := 5) rfl)
theorem dL_rank_10 : decode cL_rank 10 = .ok (.goto 6, 3) := otL_rank_0 (10, .goto 6, 3) (List.mem_of_getElem? (i := 6) rfl)
theorem dL_rank_13 : decode cL_rank 13 = .ok (.astore_n 3, 1) := otL_rank_0 (13, .astore_n 3, 1) (List.mem_of_getElem? (i := 7) rfl)
theorem dL_rank_14 : decode cL_rank 14 = .ok (.iconst 1, 1) := otL_rank_0 (14, .iconst 1, 1) (List.mem_of_getElem? (i := 8) rfl)
theorem dL_rank_15 : decode cL_rank 15 = .ok (.ireturn, 1) := otL_rank_0 (15, .ireturn, 1) (List.mem_of_getElem? (i := 9) rfl)
theorem dL_rank_16 : decode cL_rank 16 = .ok (.iconst 0, 1) := otL_rank_0 (16, .iconst 0, 1) (List.mem_of_getElem? (i := 10) rfl)
theorem dL_rank_17 : decode cL_rank 17 = .ok (.ireturn, 1) := otL_rank_0 (17, .ireturn, 1) (List.mem_of_getElem? (i := 11) rfl)
def tL_factors_0 : List (Nat × Instr × Nat) := [(0, .aload_n 2, 1), (1, .aload_n 0, 1), (2, .iload_n 1, 1), (3, .invokevirtual 148, 3), (6, .putfield 117, 3), (9, .goto 6, 3), (12, .astore_n 3, 1), (13, .iconst 1, 1), (14, .ireturn, 1), (15, .iconst 0, 1), (16, .ireturn, 1)]
theorem otL_factors_0 : ∀ q ∈ tL_factors_0, decode cL_factors q.1 = .ok q.2 := by decide +kernel
theorem dL_factors_0 : decode cL_factors 0 = .ok (.aload_n 2, 1) := otL_factors_0 (0, .aload_n 2, 1) (List.mem_of_getElem? (i := 0) rfl)
theorem dL_factors_1 : decode cL_factors 1 = .ok (.aload_n 0, 1) := otL_factors_0 (1, .aload_n 0, 1) (List.mem_of_getElem? (i := 1) rfl)
theorem dL_factors_2 : decode cL_factors 2 = .ok (.iload_n 1, 1) := otL_factors_0 (2, .iload_n 1, 1) (List.mem_of_getElem? (i := 2) rfl)
theorem dL_factors_3 : decode cL_factors 3 = .ok (.invokevirtual 148, 3) := otL_factors_0 (3, .invokevirtual 148, 3) (List.mem_of_getElem? (i := 3) rfl)
theorem dL_factors_6 : decode cL_factors 6 = .ok (.putfield 117, 3) := otL_factors_0 (6, .putfield 117, 3) (List.mem_of_getElem? (i := 4) rfl)
theorem dL_factors_9 : decode cL_factors 9 = .ok (.goto 6, 3) := otL_factors_0 (9, .goto 6, 3) (List.mem_of_getElem? (i := 5) rfl)
theorem dL_factors_12 : decode cL_factors 12 = .ok (.astore_n 3, 1) := otL_factors_0 (12, .astore_n 3, 1) (List.mem_of_getElem? (i := 6) rfl)
theorem dL_factors_13 : decode cL_factors 13 = .ok (.iconst 1, 1) := otL_factors_0 (13, .iconst 1, 1) (List.mem_of_getElem? (i := 7) rfl)
theorem dL_factors_14 : decode cL_factors 14 = .ok (.ireturn, 1) := otL_factors_0 (14, .ireturn, 1) (List.mem_of_getElem? (i := 8) rfl)
theorem dL_factors_15 : decode cL_factors 15 = .ok (.iconst 0, 1) := otL_factors_0 (15, .iconst 0, 1) (List.mem_of_getElem? (i := 9) rfl)
theorem dL_factors_16 : decode cL_factors 16 = .ok (.ireturn, 1) := otL_factors_0 (16, .ireturn, 1) (List.mem_of_getElem? (i := 10) rfl)
def tL_period_0 : List (Nat × Instr × Nat) := [(0, .aload_n 2, 1), (1, .aload_n 0, 1), (2, .iload_n 1, 1), (3, .invokevirtual 151, 3), (6, .i2l, 1), (7, .putfield 13, 3), (10, .goto 6, 3), (13, .astore_n 3, 1), (14, .iconst 1, 1), (15, .ireturn, 1), (16, .iconst 0, 1), (17, .ireturn, 1)]
theorem otL_period_0 : ∀ q ∈ tL_period_0, decode cL_period q.1 = .ok q.2 := by decide +kernel
theorem dL_period_0 : decode cL_period 0 = .ok (.aload_n 2, 1) := otL_period_0 (0, .aload_n 2, 1) (List.mem_of_getElem? (i := 0) rfl)
theorem dL_period_1 : decode cL_period 1 = .ok (.aload_n 0, 1) := otL_period_0 (1, .aload_n 0, 1) (List.mem_of_getElem? (i := 1) rfl)
theorem dL_period_2 : decode cL_period 2 = .ok (.iload_n 1, 1) := otL_period_0 (2, .iload_n 1, 1) (List.mem_of_getElem? (i := 2) rfl)
theorem dL_period_3 : decode cL_period 3 = .ok (.invokevirtual 151, 3) := otL_period_0 (3, .invokevirtual 151, 3) (List.mem_of_getElem? (i := 3) rfl)
theorem dL_period_6 : decode cL_period 6 = .ok (.i2l, 1) := otL_period_0 (6, .i2l, 1) (List.mem_of_getElem? (i := 4) rfl)
theorem dL_period_7 : decode cL_period 7 = .ok (.putfield 13, 3) := otL_period_0 (7, .putfield 13, 3) (List.mem_of_getElem? (i := 5) rfl)
theorem dL_period_10 : decode cL_period 10 = .ok (.goto 6, 3) := otL_period_0 (10, .goto 6, 3) (List.mem_of_getElem? (i := 6) rfl)
theorem dL_period_13 : decode cL_period 13 = .ok (.astore_n 3, 1) := otL_period_0 (13, .astore_n 3, 1) (List.mem_of_getElem? (i := 7) rfl)
theorem dL_period_14 : decode cL_period 14 = .ok (.iconst 1, 1) := otL_period_0 (14, .iconst 1, 1) (List.mem_of_getElem? (i := 8) rfl)
theorem dL_period_15 : decode cL_period 15 = .ok (.ireturn, 1) := otL_period_0 (15, .ireturn, 1) (List.mem_of_getElem? (i := 9) rfl)
theorem dL_period_16 : decode cL_period 16 = .ok (.iconst 0, 1) := otL_period_0 (16, .iconst 0, 1) (List.mem_of_getElem? (i := 10) rfl)
theorem dL_period_17 : decode cL_period 17 = .ok (.ireturn, 1) := otL_period_0 (17, .ireturn, 1) (List.mem_of_getElem? (i := 11) rfl)
def tL_many_0 : List (Nat × Instr × Nat) := [(0, .aload_n 2, 1), (1, .aload_n 0, 1), (2, .iload_n 1, 1), (3, .invokevirtual 154, 3), (6, .i2l, 1), (7, .putfield 13, 3), (10, .goto 6, 3), (13, .astore_n 3, 1), (14, .iconst 1, 1), (15, .ireturn, 1), (16, .iconst 0, 1), (17, .ireturn, 1)]
theorem otL_many_0 : ∀ q ∈ tL_many_0, decode cL_many q.1 = .ok q.2 := by decide +kernel
theorem dL_many_0 : decode cL_many 0 = .ok (.aload_n 2, 1) := otL_many_0 (0, .aload_n 2, 1) (List.mem_of_getElem? (i := 0) rfl)
theorem dL_many_1 : decode cL_many 1 = .ok (.aload_n 0, 1) := otL_many_0 (1, .aload_n 0, 1) (List.mem_of_getElem? (i := 1) rfl)
theorem dL_many_2 : decode cL_many 2 = .ok (.iload_n 1, 1) := otL_many_0 (2, .iload_n 1, 1) (List.mem_of_getElem? (i := 2) rfl)
theorem dL_many_3 : decode cL_many 3 = .ok (.invokevirtual 154, 3) := otL_many_0 (3, .invokevirtual 154, 3) (List.mem_of_getElem? (i := 3) rfl)
theorem dL_many_6 : decode cL_many 6 = .ok (.i2l, 1) := otL_many_0 (6, .i2l, 1) (List.mem_of_getElem? (i := 4) rfl)
theorem dL_many_7 : decode cL_many 7 = .ok (.putfield 13, 3) := otL_many_0 (7, .putfield 13, 3) (List.mem_of_getElem? (i := 5) rfl)
theorem dL_many_10 : decode cL_many 10 = .ok (.goto 6, 3) := otL_many_0 (10, .goto 6, 3) (List.mem_of_getElem? (i := 6) rfl)
theorem dL_many_13 : decode cL_many 13 = .ok (.astore_n 3, 1) := otL_many_0 (13, .astore_n 3, 1) (List.mem_of_getElem? (i := 7) rfl)
theorem dL_many_14 : decode cL_many 14 = .ok (.iconst 1, 1) := otL_many_0 (14, .iconst 1, 1) (List.mem_of_getElem? (i := 8) rfl)
theorem dL_many_15 : decode cL_many 15 = .ok (.ireturn, 1) := otL_many_0 (15, .ireturn, 1) (List.mem_of_getElem? (i := 9) rfl)
theorem dL_many_16 : decode cL_many 16 = .ok (.iconst 0, 1) := otL_many_0 (16, .iconst 0, 1) (List.mem_of_getElem? (i := 10) rfl)
theorem dL_many_17 : decode cL_many 17 = .ok (.ireturn, 1) := otL_many_0 (17, .ireturn, 1) (List.mem_of_getElem? (i := 11) rfl)
def tL_formula_0 : List (Nat × Instr × Nat) := [(0, .aload_n 2, 1), (1, .aload_n 0, 1), (2, .iload_n 1, 1), (3, .invokevirtual 157, 3), (6, .i2l, 1), (7, .putfield 13, 3), (10, .goto 6, 3), (13, .astore_n 3, 1), (14, .iconst 1, 1), (15, .ireturn, 1), (16, .iconst 0, 1), (17, .ireturn, 1)]
theorem otL_formula_0 : ∀ q ∈ tL_formula_0, decode cL_formula q.1 = .ok q.2 := by decide +kernel
theorem dL_formula_0 : decode cL_formula 0 = .ok (.aload_n 2, 1) := otL_formula_0 (0, .aload_n 2, 1) (List.mem_of_getElem? (i := 0) rfl)
theorem dL_formula_1 : decode cL_formula 1 = .ok (.aload_n 0, 1) := otL_formula_0 (1, .aload_n 0, 1) (List.mem_of_getElem? (i := 1) rfl)
theorem dL_formula_2 : decode cL_formula 2 = .ok (.iload_n 1, 1) := otL_formula_0 (2, .iload_n 1, 1) (List.mem_of_getElem? (i := 2) rfl)
theorem dL_formula_3 : decode cL_formula 3 = .ok (.invokevirtual 157, 3) := otL_formula_0 (3, .invokevirtual 157, 3) (List.mem_of_getElem? (i := 3) rfl)
theorem dL_formula_6 : decode cL_formula 6 = .ok (.i2l, 1) := otL_formula_0 (6, .i2l, 1) (List.mem_of_getElem? (i := 4) rfl)
theorem dL_formula_7 : decode cL_formula 7 = .ok (.putfield 13, 3) := otL_formula_0 (7, .putfield 13, 3) (List.mem_of_getElem? (i := 5) rfl)
theorem dL_formula_10 : decode cL_formula 10 = .ok (.goto 6, 3) := otL_formula_0 (10, .goto 6, 3) (List.mem_of_getElem? (i := 6) rfl)
theorem dL_formula_13 : decode cL_formula 13 = .ok (.astore_n 3, 1) := otL_formula_0 (13, .astore_n 3, 1) (List.mem_of_getElem? (i := 7) rfl)
theorem dL_formula_14 : decode cL_formula 14 = .ok (.iconst 1, 1) := otL_formula_0 (14, .iconst 1, 1) (List.mem_of_getElem? (i := 8) rfl)
theorem dL_formula_15 : decode cL_formula 15 = .ok (.ireturn, 1) := otL_formula_0 (15, .ireturn, 1) (List.mem_of_getElem? (i := 9) rfl)
theorem dL_formula_16 : decode cL_formula 16 = .ok (.iconst 0, 1) := otL_formula_0 (16, .iconst 0, 1) (List.mem_of_getElem? (i := 10) rfl)
theorem dL_formula_17 : decode cL_formula 17 = .ok (.ireturn, 1) := otL_formula_0 (17, .ireturn, 1) (List.mem_of_getElem? (i := 11) rfl)
def tL_find_0 : List (Nat × Instr × Nat) := [(0, .aload_n 3, 1), (1, .aload_n 0, 1), (2, .iload_n 1, 1), (3, .iload_n 2, 1), (4, .invokevirtual 160, 3), (7, .i2l, 1), (8, .putfield 13, 3), (11, .goto 7, 3), (14, .astore 4, 2), (16, .iconst 1, 1), (17, .ireturn, 1), (18, .iconst 0, 1), (19, .ireturn, 1)]
theorem otL_find_0 : ∀ q ∈ tL_find_0, decode cL_find q.1 = .ok q.2 := by decide +kernel
theorem dL_find_0 : decode cL_find 0 = .ok (.aload_n 3, 1) := otL_find_0 (0, .aload_n 3, 1) (List.mem_of_getElem? (i := 0) rfl)
theorem dL_find_1 : decode cL_find 1 = .ok (.aload_n 0, 1) := otL_find_0 (1, .aload_n 0, 1) (List.mem_of_getElem? (i := 1) rfl)
theorem dL_find_2 : decode cL_find 2 = .ok (.iload_n 1, 1) := otL_find_0 (2, .iload_n 1, 1) (List.mem_of_getElem? (i := 2) rfl)
theorem dL_find_3 : decode cL_find 3 = .ok (.iload_n 2, 1) := otL_find_0 (3, .iload_n 2, 1) (List.mem_of_getElem? (i := 3) rfl)
theorem dL_find_4 : decode cL_find 4 = .ok (.invokevirtual 160, 3) := otL_find_0 (4, .invokevirtual 160, 3) (List.mem_of_getElem? (i := 4) rfl)
theorem dL_find_7 : decode cL_find 7 = .ok (.i2l, 1) := otL_find_0 (7, .i2l, 1) (List.mem_of_getElem? (i := 5) rfl)
theorem dL_find_8 : decode cL_find 8 = .ok (.putfield 13, 3) := otL_find_0 (8, .putfield 13, 3) (List.mem_of_getElem? (i := 6) rfl)
theorem dL_find_11 : decode cL_find 11 = .ok (.goto 7, 3) := otL_find_0 (11, .goto 7, 3) (List.mem_of_getElem? (i := 7) rfl)
theorem dL_find_14 : decode cL_find 14 = .ok (.astore 4, 2) := otL_find_0 (14, .astore 4, 2) (List.mem_of_getElem? (i := 8) rfl)
theorem dL_find_16 : decode cL_find 16 = .ok (.iconst 1, 1) := otL_find_0 (16, .iconst 1, 1) (List.mem_of_getElem? (i := 9) rfl)
theorem dL_find_17 : decode cL_find 17 = .ok (.ireturn, 1) := otL_find_0 (17, .ireturn, 1) (List.mem_of_getElem? (i := 10) rfl)
theorem dL_find_18 : decode cL_find 18 = .ok (.iconst 0, 1) := otL_find_0 (18, .iconst 0, 1) (List.mem_of_getElem? (i := 11) rfl)
theorem dL_find_19 : decode cL_find 19 = .ok (.ireturn, 1) := otL_find_0 (19, .ireturn, 1) (List.mem_of_getElem? (i := 12) rfl)
def tL_house_0 : List (Nat × Instr × Nat) := [(0, .aload_n 2, 1), (1, .aload_n 0, 1), (2, .iload_n 1, 1), (3, .invokevirtual 163, 3), (6, .i2l, 1), (7, .putfield 13, 3), (10, .goto 6, 3), (13, .astore_n 3, 1), (14, .iconst 1, 1), (15, .ireturn, 1), (16, .iconst 0, 1), (17, .ireturn, 1)]
theorem otL_house_0 : ∀ q ∈ tL_house_0, decode cL_house q.1 = .ok q.2 := by decide +kernel
theorem dL_house_0 : decode cL_house 0 = .ok (.aload_n 2, 1) := otL_house_0 (0, .aload_n 2, 1) (List.mem_of_getElem? (i := 0) rfl)
theorem dL_house_1 : decode cL_house 1 = .ok (.aload_n 0, 1) := otL_house_0 (1, .aload_n 0, 1) (List.mem_of_getElem? (i := 1) rfl)
theorem dL_house_2 : decode cL_house 2 = .ok (.iload_n 1, 1) := otL_house_0 (2, .iload_n 1, 1) (List.mem_of_getElem? (i := 2) rfl)
theorem dL_house_3 : decode cL_house 3 = .ok (.invokevirtual 163, 3) := otL_house_0 (3, .invokevirtual 163, 3) (List.mem_of_getElem? (i := 3) rfl)
theorem dL_house_6 : decode cL_house 6 = .ok (.i2l, 1) := otL_house_0 (6, .i2l, 1) (List.mem_of_getElem? (i := 4) rfl)
theorem dL_house_7 : decode cL_house 7 = .ok (.putfield 13, 3) := otL_house_0 (7, .putfield 13, 3) (List.mem_of_getElem? (i := 5) rfl)
theorem dL_house_10 : decode cL_house 10 = .ok (.goto 6, 3) := otL_house_0 (10, .goto 6, 3) (List.mem_of_getElem? (i := 6) rfl)
theorem dL_house_13 : decode cL_house 13 = .ok (.astore_n 3, 1) := otL_house_0 (13, .astore_n 3, 1) (List.mem_of_getElem? (i := 7) rfl)
theorem dL_house_14 : decode cL_house 14 = .ok (.iconst 1, 1) := otL_house_0 (14, .iconst 1, 1) (List.mem_of_getElem? (i := 8) rfl)
theorem dL_house_15 : decode cL_house 15 = .ok (.ireturn, 1) := otL_house_0 (15, .ireturn, 1) (List.mem_of_getElem? (i := 9) rfl)
theorem dL_house_16 : decode cL_house 16 = .ok (.iconst 0, 1) := otL_house_0 (16, .iconst 0, 1) (List.mem_of_getElem? (i := 10) rfl)
theorem dL_house_17 : decode cL_house 17 = .ok (.ireturn, 1) := otL_house_0 (17, .ireturn, 1) (List.mem_of_getElem? (i := 11) rfl)
