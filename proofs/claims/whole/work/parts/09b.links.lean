theorem kv_X5_heldFor : mw_Mv mX5_heldFor := ⟨List.mem_of_getElem? (i := 727) (by decide +kernel), List.mem_of_getElem? (i := 29) (by decide +kernel)⟩
def mX5_place : mw_M := (yX5_place, cX5_place, 3, (some .int))
theorem kd_X5_place : mw_Md mX5_place 2 := ⟨List.mem_of_getElem? (i := 720) (by decide +kernel), k_inX5, by decide +kernel, by decide +kernel, by decide +kernel⟩
theorem kv_X5_place : mw_Mv mX5_place := ⟨List.mem_of_getElem? (i := 718) (by decide +kernel), List.mem_of_getElem? (i := 719) (by decide +kernel)⟩
def mX5_letter : mw_M := (yX5_letter, cX5_letter, 3, (some .int))
theorem kd_X5_letter : mw_Md mX5_letter 2 := ⟨List.mem_of_getElem? (i := 732) (by decide +kernel), k_inX5, by decide +kernel, by decide +kernel, by decide +kernel⟩
theorem kv_X5_letter : mw_Mv mX5_letter := ⟨List.mem_of_getElem? (i := 730) (by decide +kernel), List.mem_of_getElem? (i := 731) (by decide +kernel)⟩
def mX5_challenge : mw_M := (yX5_challenge, cX5_challenge, 3, (some .int))
theorem kd_X5_challenge : mw_Md mX5_challenge 2 := ⟨List.mem_of_getElem? (i := 737) (by decide +kernel), k_inX5, by decide +kernel, by decide +kernel, by decide +kernel⟩
theorem kv_X5_challenge : mw_Mv mX5_challenge := ⟨List.mem_of_getElem? (i := 735) (by decide +kernel), List.mem_of_getElem? (i := 736) (by decide +kernel)⟩
def mX5_held : mw_M := (yX5_held, cX5_held, 3, (some .int))
theorem kd_X5_held : mw_Md mX5_held 2 := ⟨List.mem_of_getElem? (i := 741) (by decide +kernel), k_inX5, by decide +kernel, by decide +kernel, by decide +kernel⟩
theorem kv_X5_held : mw_Mv mX5_held := ⟨List.mem_of_getElem? (i := 739) (by decide +kernel), List.mem_of_getElem? (i := 740) (by decide +kernel)⟩
def mX5_name : mw_M := (yX5_name, cX5_name, 2, (some .int))
theorem kd_X5_name : mw_Md mX5_name 1 := ⟨List.mem_of_getElem? (i := 746) (by decide +kernel), k_inX5, by decide +kernel, by decide +kernel, by decide +kernel⟩
theorem kv_X5_name : mw_Mv mX5_name := ⟨List.mem_of_getElem? (i := 744) (by decide +kernel), List.mem_of_getElem? (i := 745) (by decide +kernel)⟩
def mX5_word_ : mw_M := (yX5_word_, cX5_word_, 3, (some .int))
theorem kd_X5_word_ : mw_Md mX5_word_ 2 := ⟨List.mem_of_getElem? (i := 750) (by decide +kernel), k_inX5, by decide +kernel, by decide +kernel, by decide +kernel⟩
theorem kv_X5_word_ : mw_Mv mX5_word_ := ⟨List.mem_of_getElem? (i := 748) (by decide +kernel), List.mem_of_getElem? (i := 749) (by decide +kernel)⟩
def mX5_next : mw_M := (yX5_next, cX5_next, 3, (some .int))
theorem kd_X5_next : mw_Md mX5_next 1 := ⟨List.mem_of_getElem? (i := 758) (by decide +kernel), k_inX5, by decide +kernel, by decide +kernel, by decide +kernel⟩
theorem kv_X5_next : mw_Mv mX5_next := ⟨List.mem_of_getElem? (i := 757) (by decide +kernel), List.mem_of_getElem? (i := 30) (by decide +kernel)⟩
def mX5_say : mw_M := (yX5_say, cX5_say, 1, (some .int))
theorem kd_X5_say : mw_Md mX5_say 0 := ⟨List.mem_of_getElem? (i := 754) (by decide +kernel), k_inX5, by decide +kernel, by decide +kernel, by decide +kernel⟩
theorem kv_X5_say : mw_Mv mX5_say := ⟨List.mem_of_getElem? (i := 752) (by decide +kernel), List.mem_of_getElem? (i := 753) (by decide +kernel)⟩
def mX5_speak : mw_M := (yX5_speak, cX5_speak, 1, (some .int))
theorem kd_X5_speak : mw_Md mX5_speak 0 := ⟨List.mem_of_getElem? (i := 786) (by decide +kernel), k_inX5, by decide +kernel, by decide +kernel, by decide +kernel⟩
theorem kv_X5_speak : mw_Mv mX5_speak := ⟨List.mem_of_getElem? (i := 784) (by decide +kernel), List.mem_of_getElem? (i := 785) (by decide +kernel)⟩
def mX5_open : mw_M := (yX5_open, cX5_open, 3, (some .int))
theorem kd_X5_open : mw_Md mX5_open 1 := ⟨List.mem_of_getElem? (i := 790) (by decide +kernel), k_inX5, by decide +kernel, by decide +kernel, by decide +kernel⟩
theorem kv_X5_open : mw_Mv mX5_open := ⟨List.mem_of_getElem? (i := 788) (by decide +kernel), List.mem_of_getElem? (i := 789) (by decide +kernel)⟩
def mX5_go : mw_M := (yX5_go, cX5_go, 2, (some .int))
theorem kd_X5_go : mw_Md mX5_go 1 := ⟨List.mem_of_getElem? (i := 803) (by decide +kernel), k_inX5, by decide +kernel, by decide +kernel, by decide +kernel⟩
theorem kv_X5_go : mw_Mv mX5_go := ⟨List.mem_of_getElem? (i := 801) (by decide +kernel), List.mem_of_getElem? (i := 802) (by decide +kernel)⟩
def mX5_close : mw_M := (yX5_close, cX5_close, 3, (some .int))
theorem kd_X5_close : mw_Md mX5_close 1 := ⟨List.mem_of_getElem? (i := 815) (by decide +kernel), k_inX5, by decide +kernel, by decide +kernel, by decide +kernel⟩
theorem kv_X5_close : mw_Mv mX5_close := ⟨List.mem_of_getElem? (i := 813) (by decide +kernel), List.mem_of_getElem? (i := 814) (by decide +kernel)⟩
def mX5_again : mw_M := (yX5_again, cX5_again, 3, (some .int))
theorem kd_X5_again : mw_Md mX5_again 1 := ⟨List.mem_of_getElem? (i := 823) (by decide +kernel), k_inX5, by decide +kernel, by decide +kernel, by decide +kernel⟩
theorem kv_X5_again : mw_Mv mX5_again := ⟨List.mem_of_getElem? (i := 821) (by decide +kernel), List.mem_of_getElem? (i := 822) (by decide +kernel)⟩
def mX5_arriveNow : mw_M := (yX5_arriveNow, cX5_arriveNow, 10, (some .int))
theorem kd_X5_arriveNow : mw_Md mX5_arriveNow 1 := ⟨List.mem_of_getElem? (i := 835) (by decide +kernel), k_inX5, by decide +kernel, by decide +kernel, by decide +kernel⟩
theorem kv_X5_arriveNow : mw_Mv mX5_arriveNow := ⟨List.mem_of_getElem? (i := 834) (by decide +kernel), List.mem_of_getElem? (i := 42) (by decide +kernel)⟩
def mX5_isLetter : mw_M := (yX5_isLetter, cX5_isLetter, 2, (some .boolean))
theorem kd_X5_isLetter : mw_Md mX5_isLetter 1 := ⟨List.mem_of_getElem? (i := 831) (by decide +kernel), k_inX5, by decide +kernel, by decide +kernel, by decide +kernel⟩
theorem kv_X5_isLetter : mw_Mv mX5_isLetter := ⟨List.mem_of_getElem? (i := 830) (by decide +kernel), List.mem_of_getElem? (i := 41) (by decide +kernel)⟩
def mX5_arrive : mw_M := (yX5_arrive, cX5_arrive, 2, (some .int))
theorem kd_X5_arrive : mw_Md mX5_arrive 1 := ⟨List.mem_of_getElem? (i := 827) (by decide +kernel), k_inX5, by decide +kernel, by decide +kernel, by decide +kernel⟩
theorem kv_X5_arrive : mw_Mv mX5_arrive := ⟨List.mem_of_getElem? (i := 825) (by decide +kernel), List.mem_of_getElem? (i := 826) (by decide +kernel)⟩
def mX5_lose : mw_M := (yX5_lose, cX5_lose, 2, (some .int))
theorem kd_X5_lose : mw_Md mX5_lose 1 := ⟨List.mem_of_getElem? (i := 895) (by decide +kernel), k_inX5, by decide +kernel, by decide +kernel, by decide +kernel⟩
theorem kv_X5_lose : mw_Mv mX5_lose := ⟨List.mem_of_getElem? (i := 893) (by decide +kernel), List.mem_of_getElem? (i := 894) (by decide +kernel)⟩
def mX5_twice : mw_M := (yX5_twice, cX5_twice, 3, (some .int))
theorem kd_X5_twice : mw_Md mX5_twice 1 := ⟨List.mem_of_getElem? (i := 899) (by decide +kernel), k_inX5, by decide +kernel, by decide +kernel, by decide +kernel⟩
theorem kv_X5_twice : mw_Mv mX5_twice := ⟨List.mem_of_getElem? (i := 897) (by decide +kernel), List.mem_of_getElem? (i := 898) (by decide +kernel)⟩
def mX5_forge : mw_M := (yX5_forge, cX5_forge, 8, (some .int))
theorem kd_X5_forge : mw_Md mX5_forge 5 := ⟨List.mem_of_getElem? (i := 903) (by decide +kernel), k_inX5, by decide +kernel, by decide +kernel, by decide +kernel⟩
theorem kv_X5_forge : mw_Mv mX5_forge := ⟨List.mem_of_getElem? (i := 901) (by decide +kernel), List.mem_of_getElem? (i := 902) (by decide +kernel)⟩
def mX5_tick : mw_M := (yX5_tick, cX5_tick, 1, (some .int))
theorem kd_X5_tick : mw_Md mX5_tick 0 := ⟨List.mem_of_getElem? (i := 910) (by decide +kernel), k_inX5, by decide +kernel, by decide +kernel, by decide +kernel⟩
theorem kv_X5_tick : mw_Mv mX5_tick := ⟨List.mem_of_getElem? (i := 908) (by decide +kernel), List.mem_of_getElem? (i := 909) (by decide +kernel)⟩
def mX5_draw : mw_M := (yX5_draw, cX5_draw, 2, (some .int))
theorem kd_X5_draw : mw_Md mX5_draw 1 := ⟨List.mem_of_getElem? (i := 939) (by decide +kernel), k_inX5, by decide +kernel, by decide +kernel, by decide +kernel⟩
theorem kv_X5_draw : mw_Mv mX5_draw := ⟨List.mem_of_getElem? (i := 938) (by decide +kernel), List.mem_of_getElem? (i := 62) (by decide +kernel)⟩
def mX5_chance : mw_M := (yX5_chance, cX5_chance, 3, (some .int))
theorem kd_X5_chance : mw_Md mX5_chance 0 := ⟨List.mem_of_getElem? (i := 935) (by decide +kernel), k_inX5, by decide +kernel, by decide +kernel, by decide +kernel⟩
theorem kv_X5_chance : mw_Mv mX5_chance := ⟨List.mem_of_getElem? (i := 934) (by decide +kernel), List.mem_of_getElem? (i := 61) (by decide +kernel)⟩
def mX5_drift : mw_M := (yX5_drift, cX5_drift, 4, (some .int))
theorem kd_X5_drift : mw_Md mX5_drift 1 := ⟨List.mem_of_getElem? (i := 930) (by decide +kernel), k_inX5, by decide +kernel, by decide +kernel, by decide +kernel⟩
theorem kv_X5_drift : mw_Mv mX5_drift := ⟨List.mem_of_getElem? (i := 928) (by decide +kernel), List.mem_of_getElem? (i := 929) (by decide +kernel)⟩
def mX5_write : mw_M := (yX5_write, cX5_write, 4, (some .int))
theorem kd_X5_write : mw_Md mX5_write 3 := ⟨List.mem_of_getElem? (i := 955) (by decide +kernel), k_inX5, by decide +kernel, by decide +kernel, by decide +kernel⟩
theorem kv_X5_write : mw_Mv mX5_write := ⟨List.mem_of_getElem? (i := 953) (by decide +kernel), List.mem_of_getElem? (i := 954) (by decide +kernel)⟩
def mX5_tear : mw_M := (yX5_tear, cX5_tear, 2, (some .int))
theorem kd_X5_tear : mw_Md mX5_tear 0 := ⟨List.mem_of_getElem? (i := 960) (by decide +kernel), k_inX5, by decide +kernel, by decide +kernel, by decide +kernel⟩
theorem kv_X5_tear : mw_Mv mX5_tear := ⟨List.mem_of_getElem? (i := 958) (by decide +kernel), List.mem_of_getElem? (i := 959) (by decide +kernel)⟩
def mX5_seed : mw_M := (yX5_seed, cX5_seed, 3, (some .int))
theorem kd_X5_seed : mw_Md mX5_seed 1 := ⟨List.mem_of_getElem? (i := 964) (by decide +kernel), k_inX5, by decide +kernel, by decide +kernel, by decide +kernel⟩
theorem kv_X5_seed : mw_Mv mX5_seed := ⟨List.mem_of_getElem? (i := 962) (by decide +kernel), List.mem_of_getElem? (i := 963) (by decide +kernel)⟩
def mX5_copy : mw_M := (yX5_copy, cX5_copy, 4, none)
theorem kd_X5_copy : mw_Md mX5_copy 2 := ⟨List.mem_of_getElem? (i := 972) (by decide +kernel), k_inX5, by decide +kernel, by decide +kernel, by decide +kernel⟩
theorem kv_X5_copy : mw_Mv mX5_copy := ⟨List.mem_of_getElem? (i := 971) (by decide +kernel), List.mem_of_getElem? (i := 63) (by decide +kernel)⟩
def mX5_keep : mw_M := (yX5_keep, cX5_keep, 2, (some .int))
theorem kd_X5_keep : mw_Md mX5_keep 1 := ⟨List.mem_of_getElem? (i := 968) (by decide +kernel), k_inX5, by decide +kernel, by decide +kernel, by decide +kernel⟩
theorem kv_X5_keep : mw_Mv mX5_keep := ⟨List.mem_of_getElem? (i := 966) (by decide +kernel), List.mem_of_getElem? (i := 967) (by decide +kernel)⟩
def mX5_goBack : mw_M := (yX5_goBack, cX5_goBack, 2, (some .int))
theorem kd_X5_goBack : mw_Md mX5_goBack 1 := ⟨List.mem_of_getElem? (i := 976) (by decide +kernel), k_inX5, by decide +kernel, by decide +kernel, by decide +kernel⟩
theorem kv_X5_goBack : mw_Mv mX5_goBack := ⟨List.mem_of_getElem? (i := 974) (by decide +kernel), List.mem_of_getElem? (i := 975) (by decide +kernel)⟩
def mJ13_bitCount_95d88 : mw_M := (yJ13_bitCount_95d88, cJ13_bitCount_95d88, 2, (some .int))
theorem kd_J13_bitCount_95d88 : mw_Md mJ13_bitCount_95d88 1 := ⟨List.mem_of_getElem? (i := 274) (by decide +kernel), k_inJ13, by decide +kernel, by decide +kernel, by decide +kernel⟩
theorem ks_J13_bitCount_95d88 : Cond.static (mJ13_bitCount_95d88).1 ∈ lw_tbl := List.mem_of_getElem? (i := 273) (by decide +kernel)
def mJ9_max_7cf53 : mw_M := (yJ9_max_7cf53, cJ9_max_7cf53, 2, (some .int))
theorem kd_J9_max_7cf53 : mw_Md mJ9_max_7cf53 2 := ⟨List.mem_of_getElem? (i := 96) (by decide +kernel), k_inJ9, by decide +kernel, by decide +kernel, by decide +kernel⟩
theorem ks_J9_max_7cf53 : Cond.static (mJ9_max_7cf53).1 ∈ lw_tbl := List.mem_of_getElem? (i := 95) (by decide +kernel)
def mJ9_min_7cf53 : mw_M := (yJ9_min_7cf53, cJ9_min_7cf53, 2, (some .int))
theorem kd_J9_min_7cf53 : mw_Md mJ9_min_7cf53 2 := ⟨List.mem_of_getElem? (i := 99) (by decide +kernel), k_inJ9, by decide +kernel, by decide +kernel, by decide +kernel⟩
theorem ks_J9_min_7cf53 : Cond.static (mJ9_min_7cf53).1 ∈ lw_tbl := List.mem_of_getElem? (i := 98) (by decide +kernel)
theorem ko_L_7 : Cond.classLink RL 7 RX4 ∈ lw_tbl := List.mem_of_getElem? (i := 74) (by decide +kernel)
theorem kn_X4 : Cond.instantiable RX4 3 ∈ lw_tbl := List.mem_of_getElem? (i := 75) (by decide +kernel)
theorem kl_L_9 : Cond.methodLink RL 9 yX4_init ∈ lw_tbl := List.mem_of_getElem? (i := 76) (by decide +kernel)
theorem kl_X4_1 : Cond.methodLink RX4 1 objectInit ∈ lw_tbl := List.mem_of_getElem? (i := 79) (by decide +kernel)
theorem ko_X4_7 : Cond.classLink RX4 7 RX3 ∈ lw_tbl := List.mem_of_getElem? (i := 82) (by decide +kernel)
theorem kn_X3 : Cond.instantiable RX3 15 ∈ lw_tbl := List.mem_of_getElem? (i := 83) (by decide +kernel)
theorem kl_X4_9 : Cond.methodLink RX4 9 yX3_init ∈ lw_tbl := List.mem_of_getElem? (i := 84) (by decide +kernel)
theorem kl_X3_3 : Cond.methodLink RX3 3 objectInit ∈ lw_tbl := List.mem_of_getElem? (i := 87) (by decide +kernel)
theorem ko_X3_9 : Cond.classLink RX3 9 RX2 ∈ lw_tbl := List.mem_of_getElem? (i := 88) (by decide +kernel)
theorem kn_X2 : Cond.instantiable RX2 4 ∈ lw_tbl := List.mem_of_getElem? (i := 89) (by decide +kernel)
theorem kl_X3_11 : Cond.methodLink RX3 11 yX2_init ∈ lw_tbl := List.mem_of_getElem? (i := 90) (by decide +kernel)
theorem kl_X2_3 : Cond.methodLink RX2 3 objectInit ∈ lw_tbl := List.mem_of_getElem? (i := 93) (by decide +kernel)
theorem kl_X2_9 : Cond.methodLink RX2 9 yJ9_max_7cf53 ∈ lw_tbl := List.mem_of_getElem? (i := 94) (by decide +kernel)
theorem kl_X2_21 : Cond.methodLink RX2 21 yJ9_min_7cf53 ∈ lw_tbl := List.mem_of_getElem? (i := 97) (by decide +kernel)
theorem kf_X2_15 : mw_FlO RX2 15 2 0 := ⟨_, _, _, rfl, by decide, List.mem_of_getElem? (i := 100) (by decide +kernel)⟩
theorem kf_X2_24 : mw_FlO RX2 24 2 1 := ⟨_, _, _, rfl, by decide, List.mem_of_getElem? (i := 101) (by decide +kernel)⟩
theorem kf_X2_27 : mw_FlO RX2 27 2 2 := ⟨_, _, _, rfl, by decide, List.mem_of_getElem? (i := 102) (by decide +kernel)⟩
theorem kf_X2_31 : mw_FlO RX2 31 2 3 := ⟨_, _, _, rfl, by decide, List.mem_of_getElem? (i := 103) (by decide +kernel)⟩
theorem ka_int : Cond.arrayClass .int ∈ lw_tbl := List.mem_of_getElem? (i := 113) (by decide +kernel)
theorem ko_X3_29 : Cond.classLink RX3 29 RX1 ∈ lw_tbl := List.mem_of_getElem? (i := 114) (by decide +kernel)
theorem kn_X1 : Cond.instantiable RX1 2 ∈ lw_tbl := List.mem_of_getElem? (i := 115) (by decide +kernel)
theorem kl_X3_31 : Cond.methodLink RX3 31 yX1_init ∈ lw_tbl := List.mem_of_getElem? (i := 116) (by decide +kernel)
theorem kl_X1_3 : Cond.methodLink RX1 3 objectInit ∈ lw_tbl := List.mem_of_getElem? (i := 119) (by decide +kernel)
theorem kl_X1_9 : Cond.methodLink RX1 9 yJ9_max_7cf53 ∈ lw_tbl := List.mem_of_getElem? (i := 120) (by decide +kernel)
theorem kf_X1_15 : mw_FlO RX1 15 1 0 := ⟨_, _, _, rfl, by decide, List.mem_of_getElem? (i := 121) (by decide +kernel)⟩
theorem kf_X1_21 : mw_FlO RX1 21 1 1 := ⟨_, _, _, rfl, by decide, List.mem_of_getElem? (i := 122) (by decide +kernel)⟩
theorem ka_long : Cond.arrayClass .long ∈ lw_tbl := List.mem_of_getElem? (i := 128) (by decide +kernel)
theorem ko_X3_44 : Cond.classLink RX3 44 RX0 ∈ lw_tbl := List.mem_of_getElem? (i := 129) (by decide +kernel)
theorem kn_X0 : Cond.instantiable RX0 8 ∈ lw_tbl := List.mem_of_getElem? (i := 130) (by decide +kernel)
theorem kl_X3_46 : Cond.methodLinkNest RX3 46 yX0_init "MovedWays" ∈ lw_tbl := List.mem_of_getElem? (i := 131) (by decide +kernel)
theorem kl_X0_3 : Cond.methodLink RX0 3 objectInit ∈ lw_tbl := List.mem_of_getElem? (i := 134) (by decide +kernel)
theorem ko_X0_9 : Cond.classLink RX0 9 RX1 ∈ lw_tbl := List.mem_of_getElem? (i := 135) (by decide +kernel)
theorem kl_X0_11 : Cond.methodLink RX0 11 yX1_init ∈ lw_tbl := List.mem_of_getElem? (i := 136) (by decide +kernel)
theorem kk_X0_20 : Cond.constant RX0 20 (32768) ∈ lw_tbl := List.mem_of_getElem? (i := 137) (by decide +kernel)
theorem kf_X0_14 : mw_FlO RX0 14 0 0 := ⟨_, _, _, rfl, by decide, List.mem_of_getElem? (i := 138) (by decide +kernel)⟩
theorem kf_X4_107 : mw_Fl RX4 107 0 0 := ⟨_, _, _, rfl, by decide, Or.inr ⟨"MovedWays", List.mem_of_getElem? (i := 139) (by decide +kernel)⟩⟩
theorem kf_X3_201 : mw_Fl RX3 201 0 0 := ⟨_, _, _, rfl, by decide, Or.inr ⟨"MovedWays", List.mem_of_getElem? (i := 140) (by decide +kernel)⟩⟩
theorem kf_X0_21 : mw_FlO RX0 21 0 1 := ⟨_, _, _, rfl, by decide, List.mem_of_getElem? (i := 141) (by decide +kernel)⟩
theorem kf_X3_176 : mw_Fl RX3 176 0 1 := ⟨_, _, _, rfl, by decide, Or.inr ⟨"MovedWays", List.mem_of_getElem? (i := 142) (by decide +kernel)⟩⟩
theorem kf_X4_104 : mw_Fl RX4 104 0 2 := ⟨_, _, _, rfl, by decide, Or.inr ⟨"MovedWays", List.mem_of_getElem? (i := 143) (by decide +kernel)⟩⟩
theorem kf_X0_44 : mw_FlO RX0 44 0 2 := ⟨_, _, _, rfl, by decide, List.mem_of_getElem? (i := 144) (by decide +kernel)⟩
theorem kf_X0_28 : mw_FlO RX0 28 0 3 := ⟨_, _, _, rfl, by decide, List.mem_of_getElem? (i := 145) (by decide +kernel)⟩
theorem kf_X4_113 : mw_Fl RX4 113 0 3 := ⟨_, _, _, rfl, by decide, Or.inr ⟨"MovedWays", List.mem_of_getElem? (i := 146) (by decide +kernel)⟩⟩
theorem kf_X4_116 : mw_Fl RX4 116 0 4 := ⟨_, _, _, rfl, by decide, Or.inr ⟨"MovedWays", List.mem_of_getElem? (i := 147) (by decide +kernel)⟩⟩
theorem kf_X0_51 : mw_FlO RX0 51 0 4 := ⟨_, _, _, rfl, by decide, List.mem_of_getElem? (i := 148) (by decide +kernel)⟩
theorem kf_X3_146 : mw_Fl RX3 146 0 4 := ⟨_, _, _, rfl, by decide, Or.inr ⟨"MovedWays", List.mem_of_getElem? (i := 149) (by decide +kernel)⟩⟩
theorem kf_X4_119 : mw_Fl RX4 119 0 5 := ⟨_, _, _, rfl, by decide, Or.inr ⟨"MovedWays", List.mem_of_getElem? (i := 150) (by decide +kernel)⟩⟩
theorem kf_X0_54 : mw_FlO RX0 54 0 5 := ⟨_, _, _, rfl, by decide, List.mem_of_getElem? (i := 151) (by decide +kernel)⟩
theorem kf_X3_166 : mw_Fl RX3 166 0 5 := ⟨_, _, _, rfl, by decide, Or.inr ⟨"MovedWays", List.mem_of_getElem? (i := 152) (by decide +kernel)⟩⟩
theorem kf_X4_50 : mw_Fl RX4 50 0 6 := ⟨_, _, _, rfl, by decide, Or.inr ⟨"MovedWays", List.mem_of_getElem? (i := 153) (by decide +kernel)⟩⟩
theorem kf_X0_37 : mw_FlO RX0 37 0 6 := ⟨_, _, _, rfl, by decide, List.mem_of_getElem? (i := 154) (by decide +kernel)⟩
theorem kf_X3_106 : mw_Fl RX3 106 0 6 := ⟨_, _, _, rfl, by decide, Or.inr ⟨"MovedWays", List.mem_of_getElem? (i := 155) (by decide +kernel)⟩⟩
theorem kf_X0_24 : mw_FlO RX0 24 0 7 := ⟨_, _, _, rfl, by decide, List.mem_of_getElem? (i := 156) (by decide +kernel)⟩
theorem kf_X4_58 : mw_Fl RX4 58 0 7 := ⟨_, _, _, rfl, by decide, Or.inr ⟨"MovedWays", List.mem_of_getElem? (i := 157) (by decide +kernel)⟩⟩
theorem kf_X3_192 : mw_Fl RX3 192 0 7 := ⟨_, _, _, rfl, by decide, Or.inr ⟨"MovedWays", List.mem_of_getElem? (i := 158) (by decide +kernel)⟩⟩
theorem kl_X3_65 : Cond.methodLink RX3 65 yX2_add ∈ lw_tbl := List.mem_of_getElem? (i := 176) (by decide +kernel)
theorem kl_X3_69 : Cond.methodLink RX3 69 yX2_put ∈ lw_tbl := List.mem_of_getElem? (i := 180) (by decide +kernel)
theorem kl_X3_73 : Cond.methodLink RX3 73 yX1_add ∈ lw_tbl := List.mem_of_getElem? (i := 184) (by decide +kernel)
theorem kf_X3_14 : mw_FlO RX3 14 3 0 := ⟨_, _, _, rfl, by decide, List.mem_of_getElem? (i := 188) (by decide +kernel)⟩
theorem kf_X4_33 : mw_Fl RX4 33 3 0 := ⟨_, _, _, rfl, by decide, Or.inr ⟨"MovedWays", List.mem_of_getElem? (i := 189) (by decide +kernel)⟩⟩
theorem kf_X3_20 : mw_FlO RX3 20 3 1 := ⟨_, _, _, rfl, by decide, List.mem_of_getElem? (i := 190) (by decide +kernel)⟩
theorem kf_X4_40 : mw_Fl RX4 40 3 1 := ⟨_, _, _, rfl, by decide, Or.inr ⟨"MovedWays", List.mem_of_getElem? (i := 191) (by decide +kernel)⟩⟩
theorem kf_X3_23 : mw_FlO RX3 23 3 2 := ⟨_, _, _, rfl, by decide, List.mem_of_getElem? (i := 192) (by decide +kernel)⟩
theorem kf_X4_43 : mw_Fl RX4 43 3 2 := ⟨_, _, _, rfl, by decide, Or.inr ⟨"MovedWays", List.mem_of_getElem? (i := 193) (by decide +kernel)⟩⟩
theorem kf_X3_26 : mw_FlO RX3 26 3 3 := ⟨_, _, _, rfl, by decide, List.mem_of_getElem? (i := 194) (by decide +kernel)⟩
theorem kf_X4_128 : mw_Fl RX4 128 3 3 := ⟨_, _, _, rfl, by decide, Or.inr ⟨"MovedWays", List.mem_of_getElem? (i := 195) (by decide +kernel)⟩⟩
theorem kf_X3_34 : mw_FlO RX3 34 3 4 := ⟨_, _, _, rfl, by decide, List.mem_of_getElem? (i := 196) (by decide +kernel)⟩
theorem kf_X4_64 : mw_Fl RX4 64 3 4 := ⟨_, _, _, rfl, by decide, Or.inr ⟨"MovedWays", List.mem_of_getElem? (i := 197) (by decide +kernel)⟩⟩
theorem kf_X3_38 : mw_FlO RX3 38 3 5 := ⟨_, _, _, rfl, by decide, List.mem_of_getElem? (i := 198) (by decide +kernel)⟩
theorem kf_X4_71 : mw_Fl RX4 71 3 5 := ⟨_, _, _, rfl, by decide, Or.inr ⟨"MovedWays", List.mem_of_getElem? (i := 199) (by decide +kernel)⟩⟩
theorem kf_X3_41 : mw_FlO RX3 41 3 6 := ⟨_, _, _, rfl, by decide, List.mem_of_getElem? (i := 200) (by decide +kernel)⟩
theorem kf_X3_47 : mw_FlO RX3 47 3 7 := ⟨_, _, _, rfl, by decide, List.mem_of_getElem? (i := 201) (by decide +kernel)⟩
theorem kf_X4_46 : mw_Fl RX4 46 3 7 := ⟨_, _, _, rfl, by decide, Or.inr ⟨"MovedWays", List.mem_of_getElem? (i := 202) (by decide +kernel)⟩⟩
theorem kf_X3_51 : mw_FlO RX3 51 3 8 := ⟨_, _, _, rfl, by decide, List.mem_of_getElem? (i := 203) (by decide +kernel)⟩
theorem kf_X4_55 : mw_Fl RX4 55 3 8 := ⟨_, _, _, rfl, by decide, Or.inr ⟨"MovedWays", List.mem_of_getElem? (i := 204) (by decide +kernel)⟩⟩
theorem kf_X3_54 : mw_FlO RX3 54 3 9 := ⟨_, _, _, rfl, by decide, List.mem_of_getElem? (i := 205) (by decide +kernel)⟩
theorem kf_X4_29 : mw_Fl RX4 29 3 10 := ⟨_, _, _, rfl, by decide, Or.inr ⟨"MovedWays", List.mem_of_getElem? (i := 206) (by decide +kernel)⟩⟩
theorem kf_X3_89 : mw_FlO RX3 89 3 10 := ⟨_, _, _, rfl, by decide, List.mem_of_getElem? (i := 207) (by decide +kernel)⟩
theorem kf_X3_58 : mw_FlO RX3 58 3 11 := ⟨_, _, _, rfl, by decide, List.mem_of_getElem? (i := 208) (by decide +kernel)⟩
theorem kf_X4_61 : mw_Fl RX4 61 3 11 := ⟨_, _, _, rfl, by decide, Or.inr ⟨"MovedWays", List.mem_of_getElem? (i := 209) (by decide +kernel)⟩⟩
theorem kf_X3_62 : mw_FlO RX3 62 3 12 := ⟨_, _, _, rfl, by decide, List.mem_of_getElem? (i := 210) (by decide +kernel)⟩
theorem kf_X4_74 : mw_Fl RX4 74 3 12 := ⟨_, _, _, rfl, by decide, Or.inr ⟨"MovedWays", List.mem_of_getElem? (i := 211) (by decide +kernel)⟩⟩
theorem kf_X3_92 : mw_FlO RX3 92 3 13 := ⟨_, _, _, rfl, by decide, List.mem_of_getElem? (i := 212) (by decide +kernel)⟩
theorem kf_X4_81 : mw_Fl RX4 81 3 13 := ⟨_, _, _, rfl, by decide, Or.inr ⟨"MovedWays", List.mem_of_getElem? (i := 213) (by decide +kernel)⟩⟩
theorem kf_X3_95 : mw_FlO RX3 95 3 14 := ⟨_, _, _, rfl, by decide, List.mem_of_getElem? (i := 214) (by decide +kernel)⟩
theorem kf_X4_91 : mw_Fl RX4 91 3 14 := ⟨_, _, _, rfl, by decide, Or.inr ⟨"MovedWays", List.mem_of_getElem? (i := 215) (by decide +kernel)⟩⟩
theorem ko_X4_16 : Cond.classLink RX4 16 RX2 ∈ lw_tbl := List.mem_of_getElem? (i := 247) (by decide +kernel)
theorem kl_X4_18 : Cond.methodLink RX4 18 yX2_init ∈ lw_tbl := List.mem_of_getElem? (i := 248) (by decide +kernel)
theorem kf_X4_10 : mw_FlO RX4 10 4 0 := ⟨_, _, _, rfl, by decide, List.mem_of_getElem? (i := 250) (by decide +kernel)⟩
theorem kf_X4_21 : mw_FlO RX4 21 4 1 := ⟨_, _, _, rfl, by decide, List.mem_of_getElem? (i := 251) (by decide +kernel)⟩
theorem kf_X4_25 : mw_FlO RX4 25 4 2 := ⟨_, _, _, rfl, by decide, List.mem_of_getElem? (i := 252) (by decide +kernel)⟩
theorem kl_L_13 : Cond.methodLink RL 13 yX4_told ∈ lw_tbl := List.mem_of_getElem? (i := 260) (by decide +kernel)
theorem kl_X4_36 : Cond.methodLink RX4 36 yX2_size ∈ lw_tbl := List.mem_of_getElem? (i := 264) (by decide +kernel)
theorem kl_X4_68 : Cond.methodLink RX4 68 yX1_size ∈ lw_tbl := List.mem_of_getElem? (i := 268) (by decide +kernel)
theorem kl_X1_27 : Cond.methodLink RX1 27 yJ13_bitCount_95d88 ∈ lw_tbl := List.mem_of_getElem? (i := 272) (by decide +kernel)
theorem kk_J13_314 : Cond.constantLong RJ13 314 (6148914691236517205) ∈ lw_tbl := List.mem_of_getElem? (i := 275) (by decide +kernel)
theorem kk_J13_316 : Cond.constantLong RJ13 316 (3689348814741910323) ∈ lw_tbl := List.mem_of_getElem? (i := 276) (by decide +kernel)
theorem kk_J13_318 : Cond.constantLong RJ13 318 (1085102592571150095) ∈ lw_tbl := List.mem_of_getElem? (i := 277) (by decide +kernel)
theorem kl_X4_77 : Cond.methodLink RX4 77 yX3_droppedBy ∈ lw_tbl := List.mem_of_getElem? (i := 278) (by decide +kernel)
theorem kl_X4_84 : Cond.methodLink RX4 84 yX3_isSettled ∈ lw_tbl := List.mem_of_getElem? (i := 282) (by decide +kernel)
theorem kl_X3_109 : Cond.methodLink RX3 109 yX3_isProved ∈ lw_tbl := List.mem_of_getElem? (i := 286) (by decide +kernel)
theorem kl_X3_98 : Cond.methodLink RX3 98 yX2_at ∈ lw_tbl := List.mem_of_getElem? (i := 290) (by decide +kernel)
theorem kl_X3_113 : Cond.methodLink RX3 113 yX3_isOpen ∈ lw_tbl := List.mem_of_getElem? (i := 294) (by decide +kernel)
theorem kl_X3_102 : Cond.methodLink RX3 102 yX2_size ∈ lw_tbl := List.mem_of_getElem? (i := 298) (by decide +kernel)
theorem kl_X3_116 : Cond.methodLink RX3 116 yX0_hasAllOf ∈ lw_tbl := List.mem_of_getElem? (i := 299) (by decide +kernel)
theorem kl_X0_40 : Cond.methodLink RX0 40 yX1_inRow ∈ lw_tbl := List.mem_of_getElem? (i := 303) (by decide +kernel)
theorem kl_X1_33 : Cond.methodLink RX1 33 yX1_has ∈ lw_tbl := List.mem_of_getElem? (i := 307) (by decide +kernel)
theorem kl_X4_88 : Cond.methodLink RX4 88 yX4_firstWrong ∈ lw_tbl := List.mem_of_getElem? (i := 311) (by decide +kernel)
theorem kl_X4_198 : Cond.methodLink RX4 198 yX2_at ∈ lw_tbl := List.mem_of_getElem? (i := 315) (by decide +kernel)
theorem kl_X4_100 : Cond.methodLink RX4 100 yX3_endOf ∈ lw_tbl := List.mem_of_getElem? (i := 316) (by decide +kernel)
theorem kl_X4_135 : Cond.methodLink RX4 135 yX1_has ∈ lw_tbl := List.mem_of_getElem? (i := 320) (by decide +kernel)
theorem kk_X4_94 : Cond.constant RX4 94 (-1000000002) ∈ lw_tbl := List.mem_of_getElem? (i := 321) (by decide +kernel)
theorem kl_L_18 : Cond.methodLink RL 18 yX4_end ∈ lw_tbl := List.mem_of_getElem? (i := 322) (by decide +kernel)
theorem kl_X4_95 : Cond.methodLink RX4 95 yX4_isEnd ∈ lw_tbl := List.mem_of_getElem? (i := 326) (by decide +kernel)
theorem kk_X4_99 : Cond.constant RX4 99 (-1000000001) ∈ lw_tbl := List.mem_of_getElem? (i := 329) (by decide +kernel)
theorem kl_X4_110 : Cond.methodLink RX4 110 yX1_inRow ∈ lw_tbl := List.mem_of_getElem? (i := 330) (by decide +kernel)
theorem kl_L_23 : Cond.methodLink RL 23 yX4_place ∈ lw_tbl := List.mem_of_getElem? (i := 331) (by decide +kernel)
theorem kl_X4_122 : Cond.methodLink RX4 122 yX4_isPlace ∈ lw_tbl := List.mem_of_getElem? (i := 335) (by decide +kernel)
theorem kl_X4_125 : Cond.methodLink RX4 125 yX3_waitingFor ∈ lw_tbl := List.mem_of_getElem? (i := 338) (by decide +kernel)
theorem kl_X4_131 : Cond.methodLink RX4 131 yX4_cell ∈ lw_tbl := List.mem_of_getElem? (i := 342) (by decide +kernel)
theorem kl_X4_162 : Cond.methodLink RX4 162 yX2_hasRow ∈ lw_tbl := List.mem_of_getElem? (i := 345) (by decide +kernel)
theorem kl_X4_195 : Cond.methodLink RX4 195 yX2_hasColumn ∈ lw_tbl := List.mem_of_getElem? (i := 349) (by decide +kernel)
theorem kl_L_27 : Cond.methodLink RL 27 yX4_letter ∈ lw_tbl := List.mem_of_getElem? (i := 353) (by decide +kernel)
theorem kl_L_31 : Cond.methodLink RL 31 yX4_challenge ∈ lw_tbl := List.mem_of_getElem? (i := 357) (by decide +kernel)
theorem kl_L_35 : Cond.methodLink RL 35 yX4_held ∈ lw_tbl := List.mem_of_getElem? (i := 361) (by decide +kernel)
theorem kl_L_39 : Cond.methodLink RL 39 yX4_name ∈ lw_tbl := List.mem_of_getElem? (i := 365) (by decide +kernel)
theorem kl_L_43 : Cond.methodLink RL 43 yX4_word ∈ lw_tbl := List.mem_of_getElem? (i := 369) (by decide +kernel)
theorem kl_X4_138 : Cond.methodLink RX4 138 yX4_otherOf ∈ lw_tbl := List.mem_of_getElem? (i := 373) (by decide +kernel)
theorem kl_L_47 : Cond.methodLink RL 47 yX4_say ∈ lw_tbl := List.mem_of_getElem? (i := 376) (by decide +kernel)
theorem kl_X4_141 : Cond.methodLink RX4 141 yX4_nextWord ∈ lw_tbl := List.mem_of_getElem? (i := 380) (by decide +kernel)
theorem kk_X4_174 : Cond.constant RX4 174 (-1000000004) ∈ lw_tbl := List.mem_of_getElem? (i := 384) (by decide +kernel)
theorem kl_X4_158 : Cond.methodLink RX4 158 yX3_writes ∈ lw_tbl := List.mem_of_getElem? (i := 385) (by decide +kernel)
theorem kl_X3_127 : Cond.methodLink RX3 127 yX3_mayGo ∈ lw_tbl := List.mem_of_getElem? (i := 389) (by decide +kernel)
theorem kl_X3_149 : Cond.methodLink RX3 149 yX3_sizeOf ∈ lw_tbl := List.mem_of_getElem? (i := 393) (by decide +kernel)
theorem kf_X3_163 : Cond.fieldLinkNest RX3 163 "MovedWays" "SIZES" "[I" "MovedWays" ∈ lw_tbl := List.mem_of_getElem? (i := 396) (by decide +kernel)
theorem kl_X3_131 : Cond.methodLink RX3 131 yX3_sends ∈ lw_tbl := List.mem_of_getElem? (i := 398) (by decide +kernel)
theorem kl_X3_142 : Cond.methodLink RX3 142 yX3_endOf ∈ lw_tbl := List.mem_of_getElem? (i := 402) (by decide +kernel)
theorem kl_X3_135 : Cond.methodLink RX3 135 yX2_isFull ∈ lw_tbl := List.mem_of_getElem? (i := 403) (by decide +kernel)
theorem kl_X3_139 : Cond.methodLink RX3 139 yX2_drop ∈ lw_tbl := List.mem_of_getElem? (i := 407) (by decide +kernel)
theorem kl_X2_34 : Cond.methodLink RX2 34 arraycopyName ∈ lw_tbl := List.mem_of_getElem? (i := 411) (by decide +kernel)
theorem kt_native : Cond.native arraycopyName ∈ lw_tbl := List.mem_of_getElem? (i := 413) (by decide +kernel)
theorem kl_L_52 : Cond.methodLink RL 52 yX4_open ∈ lw_tbl := List.mem_of_getElem? (i := 414) (by decide +kernel)
theorem kl_X4_144 : Cond.methodLink RX4 144 yX3_isOpen ∈ lw_tbl := List.mem_of_getElem? (i := 418) (by decide +kernel)
theorem kk_X4_147 : Cond.constant RX4 147 (-1000000003) ∈ lw_tbl := List.mem_of_getElem? (i := 419) (by decide +kernel)
theorem kl_X4_148 : Cond.methodLink RX4 148 yX3_opens ∈ lw_tbl := List.mem_of_getElem? (i := 420) (by decide +kernel)
theorem kl_X3_222 : Cond.methodLink RX3 222 yX1_least ∈ lw_tbl := List.mem_of_getElem? (i := 424) (by decide +kernel)
theorem kl_X3_216 : Cond.methodLink RX3 216 yX1_remove ∈ lw_tbl := List.mem_of_getElem? (i := 428) (by decide +kernel)
theorem kk_X1_25 : Cond.constantLong RX1 25 (-1) ∈ lw_tbl := List.mem_of_getElem? (i := 432) (by decide +kernel)
theorem kl_X3_195 : Cond.methodLink RX3 195 yX3_challenges ∈ lw_tbl := List.mem_of_getElem? (i := 433) (by decide +kernel)
theorem kl_L_56 : Cond.methodLink RL 56 yX4_go ∈ lw_tbl := List.mem_of_getElem? (i := 437) (by decide +kernel)
theorem kl_X4_151 : Cond.methodLink RX4 151 yX3_goesTo ∈ lw_tbl := List.mem_of_getElem? (i := 441) (by decide +kernel)
theorem kl_X3_225 : Cond.methodLink RX3 225 yX0_moveTo ∈ lw_tbl := List.mem_of_getElem? (i := 445) (by decide +kernel)
theorem kl_X3_204 : Cond.methodLink RX3 204 yX1_inRow ∈ lw_tbl := List.mem_of_getElem? (i := 449) (by decide +kernel)
theorem kl_L_60 : Cond.methodLink RL 60 yX4_close ∈ lw_tbl := List.mem_of_getElem? (i := 450) (by decide +kernel)
theorem kl_X4_155 : Cond.methodLink RX4 155 yX3_closes ∈ lw_tbl := List.mem_of_getElem? (i := 454) (by decide +kernel)
theorem kl_L_64 : Cond.methodLink RL 64 yX4_speak ∈ lw_tbl := List.mem_of_getElem? (i := 458) (by decide +kernel)
theorem kl_L_68 : Cond.methodLink RL 68 yX4_again ∈ lw_tbl := List.mem_of_getElem? (i := 462) (by decide +kernel)
theorem kl_L_72 : Cond.methodLink RL 72 yX4_arrive ∈ lw_tbl := List.mem_of_getElem? (i := 466) (by decide +kernel)
theorem kl_X4_165 : Cond.methodLink RX4 165 yX3_delivers ∈ lw_tbl := List.mem_of_getElem? (i := 470) (by decide +kernel)
theorem kl_X3_155 : Cond.methodLink RX3 155 yX3_houseTakes ∈ lw_tbl := List.mem_of_getElem? (i := 474) (by decide +kernel)
theorem kl_X3_173 : Cond.methodLink RX3 173 yX1_has ∈ lw_tbl := List.mem_of_getElem? (i := 478) (by decide +kernel)
theorem kl_X3_179 : Cond.methodLink RX3 179 yX3_houseFollows ∈ lw_tbl := List.mem_of_getElem? (i := 479) (by decide +kernel)
theorem kl_X3_183 : Cond.methodLink RX3 183 yX3_houseDoubts ∈ lw_tbl := List.mem_of_getElem? (i := 483) (by decide +kernel)
theorem kl_X3_169 : Cond.methodLink RX3 169 yX3_askedWith ∈ lw_tbl := List.mem_of_getElem? (i := 487) (by decide +kernel)
theorem kl_X3_198 : Cond.methodLink RX3 198 yX3_writes ∈ lw_tbl := List.mem_of_getElem? (i := 491) (by decide +kernel)
theorem kl_X3_186 : Cond.methodLink RX3 186 yX3_houseActs ∈ lw_tbl := List.mem_of_getElem? (i := 492) (by decide +kernel)
theorem kl_X3_207 : Cond.methodLink RX3 207 yX3_answered ∈ lw_tbl := List.mem_of_getElem? (i := 496) (by decide +kernel)
theorem kl_X3_189 : Cond.methodLink RX3 189 yX3_letsOut ∈ lw_tbl := List.mem_of_getElem? (i := 500) (by decide +kernel)
theorem kl_X3_210 : Cond.methodLink RX3 210 yX3_replaces ∈ lw_tbl := List.mem_of_getElem? (i := 504) (by decide +kernel)
theorem kl_X3_213 : Cond.methodLink RX3 213 yX0_confirm ∈ lw_tbl := List.mem_of_getElem? (i := 508) (by decide +kernel)
theorem kl_X0_31 : Cond.methodLink RX0 31 yJ9_max_7cf53 ∈ lw_tbl := List.mem_of_getElem? (i := 512) (by decide +kernel)
theorem kl_X3_159 : Cond.methodLink RX3 159 yX3_guestTakes ∈ lw_tbl := List.mem_of_getElem? (i := 513) (by decide +kernel)
theorem kl_X3_219 : Cond.methodLink RX3 219 yX3_guestActs ∈ lw_tbl := List.mem_of_getElem? (i := 517) (by decide +kernel)
theorem kl_L_76 : Cond.methodLink RL 76 yX4_lose ∈ lw_tbl := List.mem_of_getElem? (i := 521) (by decide +kernel)
theorem kl_X4_168 : Cond.methodLink RX4 168 yX3_loses ∈ lw_tbl := List.mem_of_getElem? (i := 525) (by decide +kernel)
theorem kl_X3_152 : Cond.methodLink RX3 152 yX2_hasRow ∈ lw_tbl := List.mem_of_getElem? (i := 529) (by decide +kernel)
theorem kl_L_80 : Cond.methodLink RL 80 yX4_twice ∈ lw_tbl := List.mem_of_getElem? (i := 530) (by decide +kernel)
theorem kl_X4_171 : Cond.methodLink RX4 171 yX2_isFull ∈ lw_tbl := List.mem_of_getElem? (i := 534) (by decide +kernel)
theorem kl_X4_175 : Cond.methodLink RX4 175 yX2_repeat ∈ lw_tbl := List.mem_of_getElem? (i := 535) (by decide +kernel)
theorem kl_L_84 : Cond.methodLink RL 84 yX4_forge ∈ lw_tbl := List.mem_of_getElem? (i := 539) (by decide +kernel)
theorem kl_X4_178 : Cond.methodLink RX4 178 yX2_add ∈ lw_tbl := List.mem_of_getElem? (i := 543) (by decide +kernel)
theorem kl_L_89 : Cond.methodLink RL 89 yX4_tick ∈ lw_tbl := List.mem_of_getElem? (i := 544) (by decide +kernel)
theorem kl_X4_182 : Cond.methodLink RX4 182 yX3_passes ∈ lw_tbl := List.mem_of_getElem? (i := 548) (by decide +kernel)
theorem kl_X3_228 : Cond.methodLink RX3 228 yX3_asksAgain ∈ lw_tbl := List.mem_of_getElem? (i := 552) (by decide +kernel)
theorem kl_X3_231 : Cond.methodLink RX3 231 yX3_givesUp ∈ lw_tbl := List.mem_of_getElem? (i := 556) (by decide +kernel)
theorem kl_X3_234 : Cond.methodLink RX3 234 yX3_forgets ∈ lw_tbl := List.mem_of_getElem? (i := 560) (by decide +kernel)
theorem kl_X3_240 : Cond.methodLink RX3 240 yX3_dropsHeldOf ∈ lw_tbl := List.mem_of_getElem? (i := 564) (by decide +kernel)
theorem kl_X3_237 : Cond.methodLink RX3 237 yX3_leaves ∈ lw_tbl := List.mem_of_getElem? (i := 568) (by decide +kernel)
theorem kl_X3_243 : Cond.methodLink RX3 243 yX3_goesTo ∈ lw_tbl := List.mem_of_getElem? (i := 572) (by decide +kernel)
theorem kl_X3_246 : Cond.methodLink RX3 246 yX3_closes ∈ lw_tbl := List.mem_of_getElem? (i := 573) (by decide +kernel)
theorem kl_L_93 : Cond.methodLink RL 93 yX4_drift ∈ lw_tbl := List.mem_of_getElem? (i := 574) (by decide +kernel)
theorem kl_X4_185 : Cond.methodLink RX4 185 yX4_drawOne ∈ lw_tbl := List.mem_of_getElem? (i := 578) (by decide +kernel)
theorem kl_X4_202 : Cond.methodLink RX4 202 yX3_draw ∈ lw_tbl := List.mem_of_getElem? (i := 582) (by decide +kernel)
theorem kk_X3_120 : Cond.constantLong RX3 120 (1103515245) ∈ lw_tbl := List.mem_of_getElem? (i := 586) (by decide +kernel)
theorem kk_X3_122 : Cond.constantLong RX3 122 (12345) ∈ lw_tbl := List.mem_of_getElem? (i := 587) (by decide +kernel)
theorem kk_X3_124 : Cond.constantLong RX3 124 (2147483647) ∈ lw_tbl := List.mem_of_getElem? (i := 588) (by decide +kernel)
theorem kk_X3_126 : Cond.constant RX3 126 (65536) ∈ lw_tbl := List.mem_of_getElem? (i := 589) (by decide +kernel)
theorem kl_X4_205 : Cond.methodLink RX4 205 yX4_say ∈ lw_tbl := List.mem_of_getElem? (i := 590) (by decide +kernel)
theorem kl_X4_208 : Cond.methodLink RX4 208 yX4_speak ∈ lw_tbl := List.mem_of_getElem? (i := 591) (by decide +kernel)
theorem kl_X4_211 : Cond.methodLink RX4 211 yX4_goOrOpen ∈ lw_tbl := List.mem_of_getElem? (i := 592) (by decide +kernel)
theorem kl_X4_217 : Cond.methodLink RX4 217 yX4_go ∈ lw_tbl := List.mem_of_getElem? (i := 596) (by decide +kernel)
theorem kl_X4_220 : Cond.methodLink RX4 220 yX4_open ∈ lw_tbl := List.mem_of_getElem? (i := 597) (by decide +kernel)
theorem kl_X4_214 : Cond.methodLink RX4 214 yX4_again ∈ lw_tbl := List.mem_of_getElem? (i := 598) (by decide +kernel)
theorem kl_L_97 : Cond.methodLink RL 97 yX4_write ∈ lw_tbl := List.mem_of_getElem? (i := 599) (by decide +kernel)
theorem kl_L_102 : Cond.methodLink RL 102 yX4_tear ∈ lw_tbl := List.mem_of_getElem? (i := 603) (by decide +kernel)
theorem kl_X4_188 : Cond.methodLink RX4 188 yX2_empty ∈ lw_tbl := List.mem_of_getElem? (i := 607) (by decide +kernel)
theorem kl_L_106 : Cond.methodLink RL 106 yX4_seed ∈ lw_tbl := List.mem_of_getElem? (i := 611) (by decide +kernel)
theorem kl_L_110 : Cond.methodLink RL 110 yX4_keep ∈ lw_tbl := List.mem_of_getElem? (i := 615) (by decide +kernel)
theorem kl_X4_191 : Cond.methodLink RX4 191 yX3_becomes ∈ lw_tbl := List.mem_of_getElem? (i := 619) (by decide +kernel)
theorem kl_X3_75 : Cond.methodLink RX3 75 yX2_becomes ∈ lw_tbl := List.mem_of_getElem? (i := 623) (by decide +kernel)
theorem kl_X3_79 : Cond.methodLink RX3 79 yX1_becomes ∈ lw_tbl := List.mem_of_getElem? (i := 627) (by decide +kernel)
theorem kl_X1_37 : Cond.methodLink RX1 37 arraycopyName ∈ lw_tbl := List.mem_of_getElem? (i := 631) (by decide +kernel)
theorem kl_X3_82 : Cond.methodLink RX3 82 yX0_becomes ∈ lw_tbl := List.mem_of_getElem? (i := 632) (by decide +kernel)
theorem kl_X0_47 : Cond.methodLink RX0 47 yX1_becomes ∈ lw_tbl := List.mem_of_getElem? (i := 636) (by decide +kernel)
theorem kl_X3_85 : Cond.methodLink RX3 85 yX3_droppedBy ∈ lw_tbl := List.mem_of_getElem? (i := 637) (by decide +kernel)
theorem kl_L_114 : Cond.methodLink RL 114 yX4_goBack ∈ lw_tbl := List.mem_of_getElem? (i := 638) (by decide +kernel)
theorem ko_L_10 : Cond.classLink RL 10 RX5 ∈ lw_tbl := List.mem_of_getElem? (i := 642) (by decide +kernel)
theorem kn_X5 : Cond.instantiable RX5 8 ∈ lw_tbl := List.mem_of_getElem? (i := 643) (by decide +kernel)
theorem kl_L_12 : Cond.methodLink RL 12 yX5_init ∈ lw_tbl := List.mem_of_getElem? (i := 644) (by decide +kernel)
theorem kl_X5_1 : Cond.methodLink RX5 1 objectInit ∈ lw_tbl := List.mem_of_getElem? (i := 647) (by decide +kernel)
theorem kf_X5_7 : mw_FlO RX5 7 5 0 := ⟨_, _, _, rfl, by decide, List.mem_of_getElem? (i := 648) (by decide +kernel)⟩
theorem kf_X5_236 : mw_FlO RX5 236 5 1 := ⟨_, _, _, rfl, by decide, List.mem_of_getElem? (i := 649) (by decide +kernel)⟩
theorem kf_X5_135 : mw_FlO RX5 135 5 2 := ⟨_, _, _, rfl, by decide, List.mem_of_getElem? (i := 650) (by decide +kernel)⟩
theorem kf_X5_13 : mw_FlO RX5 13 5 3 := ⟨_, _, _, rfl, by decide, List.mem_of_getElem? (i := 651) (by decide +kernel)⟩
theorem kf_X5_16 : mw_FlO RX5 16 5 4 := ⟨_, _, _, rfl, by decide, List.mem_of_getElem? (i := 652) (by decide +kernel)⟩
theorem kf_X5_19 : mw_FlO RX5 19 5 5 := ⟨_, _, _, rfl, by decide, List.mem_of_getElem? (i := 653) (by decide +kernel)⟩
theorem kf_X5_22 : mw_FlO RX5 22 5 6 := ⟨_, _, _, rfl, by decide, List.mem_of_getElem? (i := 654) (by decide +kernel)⟩
theorem kf_X5_119 : mw_FlO RX5 119 5 7 := ⟨_, _, _, rfl, by decide, List.mem_of_getElem? (i := 655) (by decide +kernel)⟩
theorem kl_L_17 : Cond.methodLink RL 17 yX5_told ∈ lw_tbl := List.mem_of_getElem? (i := 673) (by decide +kernel)
theorem kl_X5_123 : Cond.methodLink RX5 123 yX5_manyOf ∈ lw_tbl := List.mem_of_getElem? (i := 677) (by decide +kernel)
theorem kl_X5_139 : Cond.methodLink RX5 139 yX5_toldMore ∈ lw_tbl := List.mem_of_getElem? (i := 681) (by decide +kernel)
theorem kl_X5_127 : Cond.methodLink RX5 127 yX5_isSettled ∈ lw_tbl := List.mem_of_getElem? (i := 685) (by decide +kernel)
theorem kl_X5_116 : Cond.methodLink RX5 116 yX5_hasAll ∈ lw_tbl := List.mem_of_getElem? (i := 689) (by decide +kernel)
theorem kl_X5_131 : Cond.methodLink RX5 131 yX5_wrong ∈ lw_tbl := List.mem_of_getElem? (i := 693) (by decide +kernel)
theorem kk_X5_138 : Cond.constant RX5 138 (-1000000002) ∈ lw_tbl := List.mem_of_getElem? (i := 697) (by decide +kernel)
theorem kl_L_22 : Cond.methodLink RL 22 yX5_end ∈ lw_tbl := List.mem_of_getElem? (i := 698) (by decide +kernel)
theorem kl_X5_144 : Cond.methodLink RX5 144 yX5_isEnd ∈ lw_tbl := List.mem_of_getElem? (i := 702) (by decide +kernel)
theorem kl_X5_68 : Cond.methodLink RX5 68 yX5_in ∈ lw_tbl := List.mem_of_getElem? (i := 705) (by decide +kernel)
theorem kk_X5_147 : Cond.constant RX5 147 (-1000000001) ∈ lw_tbl := List.mem_of_getElem? (i := 708) (by decide +kernel)
theorem kl_X5_148 : Cond.methodLink RX5 148 yX5_manyHas ∈ lw_tbl := List.mem_of_getElem? (i := 709) (by decide +kernel)
theorem kl_X5_58 : Cond.methodLink RX5 58 yX5_inRow ∈ lw_tbl := List.mem_of_getElem? (i := 713) (by decide +kernel)
theorem kl_L_26 : Cond.methodLink RL 26 yX5_place ∈ lw_tbl := List.mem_of_getElem? (i := 717) (by decide +kernel)
theorem kl_X5_151 : Cond.methodLink RX5 151 yX5_isPlace ∈ lw_tbl := List.mem_of_getElem? (i := 721) (by decide +kernel)
theorem kk_X5_142 : Cond.constantLong RX5 142 (4) ∈ lw_tbl := List.mem_of_getElem? (i := 724) (by decide +kernel)
theorem kl_X5_154 : Cond.methodLink RX5 154 yX5_heldFor ∈ lw_tbl := List.mem_of_getElem? (i := 725) (by decide +kernel)
theorem kl_L_30 : Cond.methodLink RL 30 yX5_letter ∈ lw_tbl := List.mem_of_getElem? (i := 729) (by decide +kernel)
theorem kk_X5_157 : Cond.constantLong RX5 157 (5) ∈ lw_tbl := List.mem_of_getElem? (i := 733) (by decide +kernel)
theorem kl_L_34 : Cond.methodLink RL 34 yX5_challenge ∈ lw_tbl := List.mem_of_getElem? (i := 734) (by decide +kernel)
theorem kl_L_38 : Cond.methodLink RL 38 yX5_held ∈ lw_tbl := List.mem_of_getElem? (i := 738) (by decide +kernel)
theorem kk_X5_159 : Cond.constantLong RX5 159 (2) ∈ lw_tbl := List.mem_of_getElem? (i := 742) (by decide +kernel)
theorem kl_L_42 : Cond.methodLink RL 42 yX5_name ∈ lw_tbl := List.mem_of_getElem? (i := 743) (by decide +kernel)
theorem kl_L_46 : Cond.methodLink RL 46 yX5_word_ ∈ lw_tbl := List.mem_of_getElem? (i := 747) (by decide +kernel)
theorem kl_L_51 : Cond.methodLink RL 51 yX5_say ∈ lw_tbl := List.mem_of_getElem? (i := 751) (by decide +kernel)
theorem kl_X5_162 : Cond.methodLink RX5 162 yX5_next ∈ lw_tbl := List.mem_of_getElem? (i := 755) (by decide +kernel)
theorem kk_X5_161 : Cond.constant RX5 161 (-1000000004) ∈ lw_tbl := List.mem_of_getElem? (i := 759) (by decide +kernel)
theorem kl_X5_47 : Cond.methodLink RX5 47 yX5_goes ∈ lw_tbl := List.mem_of_getElem? (i := 760) (by decide +kernel)
theorem kl_X5_33 : Cond.methodLink RX5 33 yX5_maySend ∈ lw_tbl := List.mem_of_getElem? (i := 764) (by decide +kernel)
theorem kl_X5_25 : Cond.methodLink RX5 25 yX5_sizeOf ∈ lw_tbl := List.mem_of_getElem? (i := 768) (by decide +kernel)
theorem kl_X5_37 : Cond.methodLink RX5 37 yX5_send ∈ lw_tbl := List.mem_of_getElem? (i := 771) (by decide +kernel)
theorem kl_X5_40 : Cond.methodLink RX5 40 yX5_hold ∈ lw_tbl := List.mem_of_getElem? (i := 775) (by decide +kernel)
theorem kl_X5_29 : Cond.methodLink RX5 29 yX5_removeAt ∈ lw_tbl := List.mem_of_getElem? (i := 779) (by decide +kernel)
theorem kl_L_67 : Cond.methodLink RL 67 yX5_speak ∈ lw_tbl := List.mem_of_getElem? (i := 783) (by decide +kernel)
theorem kl_L_55 : Cond.methodLink RL 55 yX5_open ∈ lw_tbl := List.mem_of_getElem? (i := 787) (by decide +kernel)
theorem kl_X5_165 : Cond.methodLink RX5 165 yX5_leastSpare ∈ lw_tbl := List.mem_of_getElem? (i := 791) (by decide +kernel)
theorem kk_X5_168 : Cond.constant RX5 168 (-1000000003) ∈ lw_tbl := List.mem_of_getElem? (i := 795) (by decide +kernel)
theorem kl_X5_54 : Cond.methodLink RX5 54 yX5_challengeNow ∈ lw_tbl := List.mem_of_getElem? (i := 796) (by decide +kernel)
theorem kl_L_59 : Cond.methodLink RL 59 yX5_go ∈ lw_tbl := List.mem_of_getElem? (i := 800) (by decide +kernel)
theorem kl_X5_101 : Cond.methodLink RX5 101 yX5_goTo ∈ lw_tbl := List.mem_of_getElem? (i := 804) (by decide +kernel)
theorem kl_X5_85 : Cond.methodLink RX5 85 yX5_word ∈ lw_tbl := List.mem_of_getElem? (i := 808) (by decide +kernel)
theorem kl_L_63 : Cond.methodLink RL 63 yX5_close ∈ lw_tbl := List.mem_of_getElem? (i := 812) (by decide +kernel)
theorem kl_X5_104 : Cond.methodLink RX5 104 yX5_closeNow ∈ lw_tbl := List.mem_of_getElem? (i := 816) (by decide +kernel)
theorem kl_L_71 : Cond.methodLink RL 71 yX5_again ∈ lw_tbl := List.mem_of_getElem? (i := 820) (by decide +kernel)
theorem kl_L_75 : Cond.methodLink RL 75 yX5_arrive ∈ lw_tbl := List.mem_of_getElem? (i := 824) (by decide +kernel)
theorem kl_X5_177 : Cond.methodLink RX5 177 yX5_isLetter ∈ lw_tbl := List.mem_of_getElem? (i := 828) (by decide +kernel)
theorem kl_X5_180 : Cond.methodLink RX5 180 yX5_arriveNow ∈ lw_tbl := List.mem_of_getElem? (i := 832) (by decide +kernel)
theorem kl_X5_169 : Cond.methodLink RX5 169 yX5_takenByHouse ∈ lw_tbl := List.mem_of_getElem? (i := 836) (by decide +kernel)
theorem kl_X5_72 : Cond.methodLink RX5 72 yX5_isLive ∈ lw_tbl := List.mem_of_getElem? (i := 840) (by decide +kernel)
theorem kl_X5_76 : Cond.methodLink RX5 76 yX5_took ∈ lw_tbl := List.mem_of_getElem? (i := 844) (by decide +kernel)
theorem kl_X5_79 : Cond.methodLink RX5 79 yX5_note ∈ lw_tbl := List.mem_of_getElem? (i := 848) (by decide +kernel)
theorem kl_X5_82 : Cond.methodLink RX5 82 yX5_follow ∈ lw_tbl := List.mem_of_getElem? (i := 852) (by decide +kernel)
theorem kl_X5_61 : Cond.methodLink RX5 61 yX5_challengeOnce ∈ lw_tbl := List.mem_of_getElem? (i := 856) (by decide +kernel)
theorem kl_X5_50 : Cond.methodLink RX5 50 yX5_findAsked ∈ lw_tbl := List.mem_of_getElem? (i := 860) (by decide +kernel)
theorem kl_X5_89 : Cond.methodLink RX5 89 yX5_proveBy ∈ lw_tbl := List.mem_of_getElem? (i := 864) (by decide +kernel)
theorem kl_X5_65 : Cond.methodLink RX5 65 yX5_letOut ∈ lw_tbl := List.mem_of_getElem? (i := 868) (by decide +kernel)
theorem kl_X5_44 : Cond.methodLink RX5 44 yX5_firstHeld ∈ lw_tbl := List.mem_of_getElem? (i := 872) (by decide +kernel)
theorem kl_X5_92 : Cond.methodLink RX5 92 yX5_retire ∈ lw_tbl := List.mem_of_getElem? (i := 876) (by decide +kernel)
theorem kl_X5_95 : Cond.methodLink RX5 95 yX5_confirm ∈ lw_tbl := List.mem_of_getElem? (i := 880) (by decide +kernel)
theorem kl_X5_173 : Cond.methodLink RX5 173 yX5_takenByGuest ∈ lw_tbl := List.mem_of_getElem? (i := 884) (by decide +kernel)
theorem kl_X5_98 : Cond.methodLink RX5 98 yX5_sureBy ∈ lw_tbl := List.mem_of_getElem? (i := 888) (by decide +kernel)
theorem kl_L_79 : Cond.methodLink RL 79 yX5_lose ∈ lw_tbl := List.mem_of_getElem? (i := 892) (by decide +kernel)
theorem kl_L_83 : Cond.methodLink RL 83 yX5_twice ∈ lw_tbl := List.mem_of_getElem? (i := 896) (by decide +kernel)
theorem kl_L_88 : Cond.methodLink RL 88 yX5_forge ∈ lw_tbl := List.mem_of_getElem? (i := 900) (by decide +kernel)
theorem kk_X5_183 : Cond.constantLong RX5 183 (-1) ∈ lw_tbl := List.mem_of_getElem? (i := 904) (by decide +kernel)
theorem kk_X5_185 : Cond.constantLong RX5 185 (99) ∈ lw_tbl := List.mem_of_getElem? (i := 905) (by decide +kernel)
theorem kk_X5_187 : Cond.constantLong RX5 187 (9999) ∈ lw_tbl := List.mem_of_getElem? (i := 906) (by decide +kernel)
theorem kl_L_92 : Cond.methodLink RL 92 yX5_tick ∈ lw_tbl := List.mem_of_getElem? (i := 907) (by decide +kernel)
theorem kl_X5_189 : Cond.methodLink RX5 189 yX5_tickNow ∈ lw_tbl := List.mem_of_getElem? (i := 911) (by decide +kernel)
theorem kl_X5_113 : Cond.methodLink RX5 113 yX5_lookAt ∈ lw_tbl := List.mem_of_getElem? (i := 915) (by decide +kernel)
theorem kl_X5_107 : Cond.methodLink RX5 107 yX5_forget ∈ lw_tbl := List.mem_of_getElem? (i := 919) (by decide +kernel)
theorem kl_X5_110 : Cond.methodLink RX5 110 yX5_giveUp ∈ lw_tbl := List.mem_of_getElem? (i := 923) (by decide +kernel)
theorem kl_L_96 : Cond.methodLink RL 96 yX5_drift ∈ lw_tbl := List.mem_of_getElem? (i := 927) (by decide +kernel)
theorem kk_X5_226 : Cond.constantLong RX5 226 (20) ∈ lw_tbl := List.mem_of_getElem? (i := 931) (by decide +kernel)
theorem kl_X5_228 : Cond.methodLink RX5 228 yX5_chance ∈ lw_tbl := List.mem_of_getElem? (i := 932) (by decide +kernel)
theorem kl_X5_199 : Cond.methodLink RX5 199 yX5_draw ∈ lw_tbl := List.mem_of_getElem? (i := 936) (by decide +kernel)
theorem kk_X5_192 : Cond.constantLong RX5 192 (1103515245) ∈ lw_tbl := List.mem_of_getElem? (i := 940) (by decide +kernel)
theorem kk_X5_194 : Cond.constantLong RX5 194 (12345) ∈ lw_tbl := List.mem_of_getElem? (i := 941) (by decide +kernel)
theorem kk_X5_196 : Cond.constantLong RX5 196 (2147483648) ∈ lw_tbl := List.mem_of_getElem? (i := 942) (by decide +kernel)
theorem kk_X5_198 : Cond.constant RX5 198 (65536) ∈ lw_tbl := List.mem_of_getElem? (i := 943) (by decide +kernel)
theorem kl_X5_202 : Cond.methodLink RX5 202 yX5_arrive ∈ lw_tbl := List.mem_of_getElem? (i := 944) (by decide +kernel)
theorem kl_X5_205 : Cond.methodLink RX5 205 yX5_lose ∈ lw_tbl := List.mem_of_getElem? (i := 945) (by decide +kernel)
theorem kl_X5_208 : Cond.methodLink RX5 208 yX5_say ∈ lw_tbl := List.mem_of_getElem? (i := 946) (by decide +kernel)
theorem kl_X5_211 : Cond.methodLink RX5 211 yX5_speak ∈ lw_tbl := List.mem_of_getElem? (i := 947) (by decide +kernel)
theorem kl_X5_214 : Cond.methodLink RX5 214 yX5_tick ∈ lw_tbl := List.mem_of_getElem? (i := 948) (by decide +kernel)
theorem kl_X5_217 : Cond.methodLink RX5 217 yX5_go ∈ lw_tbl := List.mem_of_getElem? (i := 949) (by decide +kernel)
theorem kl_X5_220 : Cond.methodLink RX5 220 yX5_open ∈ lw_tbl := List.mem_of_getElem? (i := 950) (by decide +kernel)
theorem kl_X5_223 : Cond.methodLink RX5 223 yX5_again ∈ lw_tbl := List.mem_of_getElem? (i := 951) (by decide +kernel)
theorem kl_L_101 : Cond.methodLink RL 101 yX5_write ∈ lw_tbl := List.mem_of_getElem? (i := 952) (by decide +kernel)
theorem kk_X5_231 : Cond.constantLong RX5 231 (39) ∈ lw_tbl := List.mem_of_getElem? (i := 956) (by decide +kernel)
theorem kl_L_105 : Cond.methodLink RL 105 yX5_tear ∈ lw_tbl := List.mem_of_getElem? (i := 957) (by decide +kernel)
theorem kl_L_109 : Cond.methodLink RL 109 yX5_seed ∈ lw_tbl := List.mem_of_getElem? (i := 961) (by decide +kernel)
theorem kl_L_113 : Cond.methodLink RL 113 yX5_keep ∈ lw_tbl := List.mem_of_getElem? (i := 965) (by decide +kernel)
theorem kl_X5_233 : Cond.methodLink RX5 233 yX5_copy ∈ lw_tbl := List.mem_of_getElem? (i := 969) (by decide +kernel)
theorem kl_L_117 : Cond.methodLink RL 117 yX5_goBack ∈ lw_tbl := List.mem_of_getElem? (i := 973) (by decide +kernel)
theorem kt_stat : Cond.static arraycopyName ∈ lw_tbl := List.mem_of_getElem? (i := 412) (by decide +kernel)
theorem kt_oi : Cond.instanceMethod objectInit ∈ lw_tbl := List.mem_of_getElem? (i := 80) (by decide +kernel)
theorem kt_oc : Cond.code objectInit ⟨#[0xb1]⟩ 1 none ∈ lw_tbl := List.mem_of_getElem? (i := 81) (by decide +kernel)
theorem kw_X0 : ∀ w ∈ u_ws RX0 TX0 8, w ∈ lw_tbl := by
  intro w hw
  obtain ⟨k, hk, rfl⟩ := List.mem_map.mp hw
  have hk := List.mem_range.mp hk
  match k, hk with
  | 0, _ => exact List.mem_of_getElem? (i := 159) (by decide +kernel)
  | 1, _ => exact List.mem_of_getElem? (i := 161) (by decide +kernel)
  | 2, _ => exact List.mem_of_getElem? (i := 163) (by decide +kernel)
  | 3, _ => exact List.mem_of_getElem? (i := 165) (by decide +kernel)
  | 4, _ => exact List.mem_of_getElem? (i := 167) (by decide +kernel)
  | 5, _ => exact List.mem_of_getElem? (i := 169) (by decide +kernel)
  | 6, _ => exact List.mem_of_getElem? (i := 171) (by decide +kernel)
  | 7, _ => exact List.mem_of_getElem? (i := 173) (by decide +kernel)
  | k + 8, hk => exact absurd hk (by omega)
theorem kc_0 : mw_Cl 0 := fun C T N h => by cases h; exact ⟨kw_X0, ⟨tyX0, tyX0_ok⟩, nmX0⟩
theorem kw_X1 : ∀ w ∈ u_ws RX1 TX1 2, w ∈ lw_tbl := by
  intro w hw
  obtain ⟨k, hk, rfl⟩ := List.mem_map.mp hw
  have hk := List.mem_range.mp hk
  match k, hk with
  | 0, _ => exact List.mem_of_getElem? (i := 123) (by decide +kernel)
  | 1, _ => exact List.mem_of_getElem? (i := 125) (by decide +kernel)
  | k + 2, hk => exact absurd hk (by omega)
theorem kc_1 : mw_Cl 1 := fun C T N h => by cases h; exact ⟨kw_X1, ⟨tyX1, tyX1_ok⟩, nmX1⟩
theorem kw_X2 : ∀ w ∈ u_ws RX2 TX2 4, w ∈ lw_tbl := by
  intro w hw
  obtain ⟨k, hk, rfl⟩ := List.mem_map.mp hw
  have hk := List.mem_range.mp hk
  match k, hk with
  | 0, _ => exact List.mem_of_getElem? (i := 104) (by decide +kernel)
  | 1, _ => exact List.mem_of_getElem? (i := 106) (by decide +kernel)
  | 2, _ => exact List.mem_of_getElem? (i := 108) (by decide +kernel)
  | 3, _ => exact List.mem_of_getElem? (i := 110) (by decide +kernel)
  | k + 4, hk => exact absurd hk (by omega)
theorem kc_2 : mw_Cl 2 := fun C T N h => by cases h; exact ⟨kw_X2, ⟨tyX2, tyX2_ok⟩, nmX2⟩
theorem kw_X3 : ∀ w ∈ u_ws RX3 TX3 15, w ∈ lw_tbl := by
  intro w hw
  obtain ⟨k, hk, rfl⟩ := List.mem_map.mp hw
  have hk := List.mem_range.mp hk
  match k, hk with
  | 0, _ => exact List.mem_of_getElem? (i := 216) (by decide +kernel)
  | 1, _ => exact List.mem_of_getElem? (i := 218) (by decide +kernel)
  | 2, _ => exact List.mem_of_getElem? (i := 220) (by decide +kernel)
  | 3, _ => exact List.mem_of_getElem? (i := 222) (by decide +kernel)
  | 4, _ => exact List.mem_of_getElem? (i := 224) (by decide +kernel)
  | 5, _ => exact List.mem_of_getElem? (i := 226) (by decide +kernel)
  | 6, _ => exact List.mem_of_getElem? (i := 228) (by decide +kernel)
  | 7, _ => exact List.mem_of_getElem? (i := 230) (by decide +kernel)
  | 8, _ => exact List.mem_of_getElem? (i := 232) (by decide +kernel)
  | 9, _ => exact List.mem_of_getElem? (i := 234) (by decide +kernel)
  | 10, _ => exact List.mem_of_getElem? (i := 236) (by decide +kernel)
  | 11, _ => exact List.mem_of_getElem? (i := 238) (by decide +kernel)
  | 12, _ => exact List.mem_of_getElem? (i := 240) (by decide +kernel)
  | 13, _ => exact List.mem_of_getElem? (i := 242) (by decide +kernel)
  | 14, _ => exact List.mem_of_getElem? (i := 244) (by decide +kernel)
  | k + 15, hk => exact absurd hk (by omega)
theorem kc_3 : mw_Cl 3 := fun C T N h => by cases h; exact ⟨kw_X3, ⟨tyX3, tyX3_ok⟩, nmX3⟩
theorem kw_X4 : ∀ w ∈ u_ws RX4 TX4 3, w ∈ lw_tbl := by
  intro w hw
  obtain ⟨k, hk, rfl⟩ := List.mem_map.mp hw
  have hk := List.mem_range.mp hk
  match k, hk with
  | 0, _ => exact List.mem_of_getElem? (i := 253) (by decide +kernel)
  | 1, _ => exact List.mem_of_getElem? (i := 255) (by decide +kernel)
  | 2, _ => exact List.mem_of_getElem? (i := 257) (by decide +kernel)
  | k + 3, hk => exact absurd hk (by omega)
theorem kc_4 : mw_Cl 4 := fun C T N h => by cases h; exact ⟨kw_X4, ⟨tyX4, tyX4_ok⟩, nmX4⟩
theorem kw_X5 : ∀ w ∈ u_ws RX5 TX5 8, w ∈ lw_tbl := by
  intro w hw
  obtain ⟨k, hk, rfl⟩ := List.mem_map.mp hw
  have hk := List.mem_range.mp hk
  match k, hk with
  | 0, _ => exact List.mem_of_getElem? (i := 656) (by decide +kernel)
  | 1, _ => exact List.mem_of_getElem? (i := 658) (by decide +kernel)
  | 2, _ => exact List.mem_of_getElem? (i := 660) (by decide +kernel)
  | 3, _ => exact List.mem_of_getElem? (i := 662) (by decide +kernel)
  | 4, _ => exact List.mem_of_getElem? (i := 664) (by decide +kernel)
  | 5, _ => exact List.mem_of_getElem? (i := 666) (by decide +kernel)
  | 6, _ => exact List.mem_of_getElem? (i := 668) (by decide +kernel)
  | 7, _ => exact List.mem_of_getElem? (i := 670) (by decide +kernel)
  | k + 8, hk => exact absurd hk (by omega)
theorem kc_5 : mw_Cl 5 := fun C T N h => by cases h; exact ⟨kw_X5, ⟨tyX5, tyX5_ok⟩, nmX5⟩
theorem mw_FlO.fl {own : String} {idx ci k : Nat} (h : mw_FlO own idx ci k) : mw_Fl own idx ci k := by
  obtain ⟨C, T, N, h1, h2, h3⟩ := h
  exact ⟨C, T, N, h1, h2, Or.inl h3⟩
