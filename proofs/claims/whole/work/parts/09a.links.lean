theorem k_inX0 : Cond.initialized RX0 ∈ lw_tbl := List.mem_of_getElem? (i := 70) (by decide +kernel)
theorem k_inX1 : Cond.initialized RX1 ∈ lw_tbl := List.mem_of_getElem? (i := 69) (by decide +kernel)
theorem k_inX2 : Cond.initialized RX2 ∈ lw_tbl := List.mem_of_getElem? (i := 67) (by decide +kernel)
theorem k_inX3 : Cond.initialized RX3 ∈ lw_tbl := List.mem_of_getElem? (i := 66) (by decide +kernel)
theorem k_inX4 : Cond.initialized RX4 ∈ lw_tbl := List.mem_of_getElem? (i := 65) (by decide +kernel)
theorem k_inX5 : Cond.initialized RX5 ∈ lw_tbl := List.mem_of_getElem? (i := 71) (by decide +kernel)
theorem k_inL : Cond.initialized RL ∈ lw_tbl := List.mem_of_getElem? (i := 64) (by decide +kernel)
theorem k_inJ13 : Cond.initialized RJ13 ∈ lw_tbl := List.mem_of_getElem? (i := 72) (by decide +kernel)
theorem k_inJ9 : Cond.initialized RJ9 ∈ lw_tbl := List.mem_of_getElem? (i := 68) (by decide +kernel)
theorem k_inJ10 : Cond.initialized RJ10 ∈ lw_tbl := List.mem_of_getElem? (i := 73) (by decide +kernel)
def mX0_init : mw_M := (yX0_init, cX0_init, 1, none)
theorem kd_X0_init : mw_Md mX0_init 0 := ⟨List.mem_of_getElem? (i := 133) (by decide +kernel), k_inX0, by decide +kernel, by decide +kernel, by decide +kernel⟩
theorem ki_X0_init : Cond.instanceMethod (mX0_init).1 ∈ lw_tbl := List.mem_of_getElem? (i := 132) (by decide +kernel)
def mX0_confirm : mw_M := (yX0_confirm, cX0_confirm, 2, none)
theorem kd_X0_confirm : mw_Md mX0_confirm 1 := ⟨List.mem_of_getElem? (i := 511) (by decide +kernel), k_inX0, by decide +kernel, by decide +kernel, by decide +kernel⟩
theorem kv_X0_confirm : mw_Mv mX0_confirm := ⟨List.mem_of_getElem? (i := 509) (by decide +kernel), List.mem_of_getElem? (i := 510) (by decide +kernel)⟩
def mX0_moveTo : mw_M := (yX0_moveTo, cX0_moveTo, 2, none)
theorem kd_X0_moveTo : mw_Md mX0_moveTo 1 := ⟨List.mem_of_getElem? (i := 448) (by decide +kernel), k_inX0, by decide +kernel, by decide +kernel, by decide +kernel⟩
theorem kv_X0_moveTo : mw_Mv mX0_moveTo := ⟨List.mem_of_getElem? (i := 446) (by decide +kernel), List.mem_of_getElem? (i := 447) (by decide +kernel)⟩
def mX0_hasAllOf : mw_M := (yX0_hasAllOf, cX0_hasAllOf, 2, (some .boolean))
theorem kd_X0_hasAllOf : mw_Md mX0_hasAllOf 1 := ⟨List.mem_of_getElem? (i := 302) (by decide +kernel), k_inX0, by decide +kernel, by decide +kernel, by decide +kernel⟩
theorem kv_X0_hasAllOf : mw_Mv mX0_hasAllOf := ⟨List.mem_of_getElem? (i := 300) (by decide +kernel), List.mem_of_getElem? (i := 301) (by decide +kernel)⟩
def mX0_becomes : mw_M := (yX0_becomes, cX0_becomes, 2, none)
theorem kd_X0_becomes : mw_Md mX0_becomes 1 := ⟨List.mem_of_getElem? (i := 635) (by decide +kernel), k_inX0, by decide +kernel, by decide +kernel, by decide +kernel⟩
theorem kv_X0_becomes : mw_Mv mX0_becomes := ⟨List.mem_of_getElem? (i := 633) (by decide +kernel), List.mem_of_getElem? (i := 634) (by decide +kernel)⟩
def mX1_init : mw_M := (yX1_init, cX1_init, 2, none)
theorem kd_X1_init : mw_Md mX1_init 1 := ⟨List.mem_of_getElem? (i := 118) (by decide +kernel), k_inX1, by decide +kernel, by decide +kernel, by decide +kernel⟩
theorem ki_X1_init : Cond.instanceMethod (mX1_init).1 ∈ lw_tbl := List.mem_of_getElem? (i := 117) (by decide +kernel)
def mX1_has : mw_M := (yX1_has, cX1_has, 3, (some .boolean))
theorem kd_X1_has : mw_Md mX1_has 1 := ⟨List.mem_of_getElem? (i := 310) (by decide +kernel), k_inX1, by decide +kernel, by decide +kernel, by decide +kernel⟩
theorem kv_X1_has : mw_Mv mX1_has := ⟨List.mem_of_getElem? (i := 308) (by decide +kernel), List.mem_of_getElem? (i := 309) (by decide +kernel)⟩
def mX1_add : mw_M := (yX1_add, cX1_add, 3, none)
theorem kd_X1_add : mw_Md mX1_add 1 := ⟨List.mem_of_getElem? (i := 187) (by decide +kernel), k_inX1, by decide +kernel, by decide +kernel, by decide +kernel⟩
theorem kv_X1_add : mw_Mv mX1_add := ⟨List.mem_of_getElem? (i := 185) (by decide +kernel), List.mem_of_getElem? (i := 186) (by decide +kernel)⟩
def mX1_remove : mw_M := (yX1_remove, cX1_remove, 3, none)
theorem kd_X1_remove : mw_Md mX1_remove 1 := ⟨List.mem_of_getElem? (i := 431) (by decide +kernel), k_inX1, by decide +kernel, by decide +kernel, by decide +kernel⟩
theorem kv_X1_remove : mw_Mv mX1_remove := ⟨List.mem_of_getElem? (i := 429) (by decide +kernel), List.mem_of_getElem? (i := 430) (by decide +kernel)⟩
def mX1_size : mw_M := (yX1_size, cX1_size, 3, (some .int))
theorem kd_X1_size : mw_Md mX1_size 0 := ⟨List.mem_of_getElem? (i := 271) (by decide +kernel), k_inX1, by decide +kernel, by decide +kernel, by decide +kernel⟩
theorem kv_X1_size : mw_Mv mX1_size := ⟨List.mem_of_getElem? (i := 269) (by decide +kernel), List.mem_of_getElem? (i := 270) (by decide +kernel)⟩
def mX1_least : mw_M := (yX1_least, cX1_least, 2, (some .int))
theorem kd_X1_least : mw_Md mX1_least 0 := ⟨List.mem_of_getElem? (i := 427) (by decide +kernel), k_inX1, by decide +kernel, by decide +kernel, by decide +kernel⟩
theorem kv_X1_least : mw_Mv mX1_least := ⟨List.mem_of_getElem? (i := 425) (by decide +kernel), List.mem_of_getElem? (i := 426) (by decide +kernel)⟩
def mX1_inRow : mw_M := (yX1_inRow, cX1_inRow, 2, (some .int))
theorem kd_X1_inRow : mw_Md mX1_inRow 0 := ⟨List.mem_of_getElem? (i := 306) (by decide +kernel), k_inX1, by decide +kernel, by decide +kernel, by decide +kernel⟩
theorem kv_X1_inRow : mw_Mv mX1_inRow := ⟨List.mem_of_getElem? (i := 304) (by decide +kernel), List.mem_of_getElem? (i := 305) (by decide +kernel)⟩
def mX1_becomes : mw_M := (yX1_becomes, cX1_becomes, 2, none)
theorem kd_X1_becomes : mw_Md mX1_becomes 1 := ⟨List.mem_of_getElem? (i := 630) (by decide +kernel), k_inX1, by decide +kernel, by decide +kernel, by decide +kernel⟩
theorem kv_X1_becomes : mw_Mv mX1_becomes := ⟨List.mem_of_getElem? (i := 628) (by decide +kernel), List.mem_of_getElem? (i := 629) (by decide +kernel)⟩
def mX2_init : mw_M := (yX2_init, cX2_init, 3, none)
theorem kd_X2_init : mw_Md mX2_init 2 := ⟨List.mem_of_getElem? (i := 92) (by decide +kernel), k_inX2, by decide +kernel, by decide +kernel, by decide +kernel⟩
theorem ki_X2_init : Cond.instanceMethod (mX2_init).1 ∈ lw_tbl := List.mem_of_getElem? (i := 91) (by decide +kernel)
def mX2_size : mw_M := (yX2_size, cX2_size, 1, (some .int))
theorem kd_X2_size : mw_Md mX2_size 0 := ⟨List.mem_of_getElem? (i := 267) (by decide +kernel), k_inX2, by decide +kernel, by decide +kernel, by decide +kernel⟩
theorem kv_X2_size : mw_Mv mX2_size := ⟨List.mem_of_getElem? (i := 265) (by decide +kernel), List.mem_of_getElem? (i := 266) (by decide +kernel)⟩
def mX2_isFull : mw_M := (yX2_isFull, cX2_isFull, 1, (some .boolean))
theorem kd_X2_isFull : mw_Md mX2_isFull 0 := ⟨List.mem_of_getElem? (i := 406) (by decide +kernel), k_inX2, by decide +kernel, by decide +kernel, by decide +kernel⟩
theorem kv_X2_isFull : mw_Mv mX2_isFull := ⟨List.mem_of_getElem? (i := 404) (by decide +kernel), List.mem_of_getElem? (i := 405) (by decide +kernel)⟩
def mX2_hasRow : mw_M := (yX2_hasRow, cX2_hasRow, 2, (some .boolean))
theorem kd_X2_hasRow : mw_Md mX2_hasRow 1 := ⟨List.mem_of_getElem? (i := 348) (by decide +kernel), k_inX2, by decide +kernel, by decide +kernel, by decide +kernel⟩
theorem kv_X2_hasRow : mw_Mv mX2_hasRow := ⟨List.mem_of_getElem? (i := 346) (by decide +kernel), List.mem_of_getElem? (i := 347) (by decide +kernel)⟩
def mX2_hasColumn : mw_M := (yX2_hasColumn, cX2_hasColumn, 2, (some .boolean))
theorem kd_X2_hasColumn : mw_Md mX2_hasColumn 1 := ⟨List.mem_of_getElem? (i := 352) (by decide +kernel), k_inX2, by decide +kernel, by decide +kernel, by decide +kernel⟩
theorem kv_X2_hasColumn : mw_Mv mX2_hasColumn := ⟨List.mem_of_getElem? (i := 350) (by decide +kernel), List.mem_of_getElem? (i := 351) (by decide +kernel)⟩
def mX2_at : mw_M := (yX2_at, cX2_at, 5, (some .int))
theorem kd_X2_at : mw_Md mX2_at 2 := ⟨List.mem_of_getElem? (i := 293) (by decide +kernel), k_inX2, by decide +kernel, by decide +kernel, by decide +kernel⟩
theorem kv_X2_at : mw_Mv mX2_at := ⟨List.mem_of_getElem? (i := 291) (by decide +kernel), List.mem_of_getElem? (i := 292) (by decide +kernel)⟩
def mX2_put : mw_M := (yX2_put, cX2_put, 5, none)
theorem kd_X2_put : mw_Md mX2_put 3 := ⟨List.mem_of_getElem? (i := 183) (by decide +kernel), k_inX2, by decide +kernel, by decide +kernel, by decide +kernel⟩
theorem kv_X2_put : mw_Mv mX2_put := ⟨List.mem_of_getElem? (i := 181) (by decide +kernel), List.mem_of_getElem? (i := 182) (by decide +kernel)⟩
def mX2_add : mw_M := (yX2_add, cX2_add, 8, none)
theorem kd_X2_add : mw_Md mX2_add 6 := ⟨List.mem_of_getElem? (i := 179) (by decide +kernel), k_inX2, by decide +kernel, by decide +kernel, by decide +kernel⟩
theorem kv_X2_add : mw_Mv mX2_add := ⟨List.mem_of_getElem? (i := 177) (by decide +kernel), List.mem_of_getElem? (i := 178) (by decide +kernel)⟩
def mX2_repeat : mw_M := (yX2_repeat, cX2_repeat, 2, none)
theorem kd_X2_repeat : mw_Md mX2_repeat 1 := ⟨List.mem_of_getElem? (i := 538) (by decide +kernel), k_inX2, by decide +kernel, by decide +kernel, by decide +kernel⟩
theorem kv_X2_repeat : mw_Mv mX2_repeat := ⟨List.mem_of_getElem? (i := 536) (by decide +kernel), List.mem_of_getElem? (i := 537) (by decide +kernel)⟩
def mX2_drop : mw_M := (yX2_drop, cX2_drop, 2, none)
theorem kd_X2_drop : mw_Md mX2_drop 1 := ⟨List.mem_of_getElem? (i := 410) (by decide +kernel), k_inX2, by decide +kernel, by decide +kernel, by decide +kernel⟩
theorem kv_X2_drop : mw_Mv mX2_drop := ⟨List.mem_of_getElem? (i := 408) (by decide +kernel), List.mem_of_getElem? (i := 409) (by decide +kernel)⟩
def mX2_empty : mw_M := (yX2_empty, cX2_empty, 1, none)
theorem kd_X2_empty : mw_Md mX2_empty 0 := ⟨List.mem_of_getElem? (i := 610) (by decide +kernel), k_inX2, by decide +kernel, by decide +kernel, by decide +kernel⟩
theorem kv_X2_empty : mw_Mv mX2_empty := ⟨List.mem_of_getElem? (i := 608) (by decide +kernel), List.mem_of_getElem? (i := 609) (by decide +kernel)⟩
def mX2_becomes : mw_M := (yX2_becomes, cX2_becomes, 2, none)
theorem kd_X2_becomes : mw_Md mX2_becomes 1 := ⟨List.mem_of_getElem? (i := 626) (by decide +kernel), k_inX2, by decide +kernel, by decide +kernel, by decide +kernel⟩
theorem kv_X2_becomes : mw_Mv mX2_becomes := ⟨List.mem_of_getElem? (i := 624) (by decide +kernel), List.mem_of_getElem? (i := 625) (by decide +kernel)⟩
def mX3_init : mw_M := (yX3_init, cX3_init, 2, none)
theorem kd_X3_init : mw_Md mX3_init 0 := ⟨List.mem_of_getElem? (i := 86) (by decide +kernel), k_inX3, by decide +kernel, by decide +kernel, by decide +kernel⟩
theorem ki_X3_init : Cond.instanceMethod (mX3_init).1 ∈ lw_tbl := List.mem_of_getElem? (i := 85) (by decide +kernel)
def mX3_becomes : mw_M := (yX3_becomes, cX3_becomes, 3, none)
theorem kd_X3_becomes : mw_Md mX3_becomes 1 := ⟨List.mem_of_getElem? (i := 622) (by decide +kernel), k_inX3, by decide +kernel, by decide +kernel, by decide +kernel⟩
theorem kv_X3_becomes : mw_Mv mX3_becomes := ⟨List.mem_of_getElem? (i := 620) (by decide +kernel), List.mem_of_getElem? (i := 621) (by decide +kernel)⟩
def mX3_endOf : mw_M := (yX3_endOf, cX3_endOf, 2, (some (.object "MovedWays$End")))
theorem kd_X3_endOf : mw_Md mX3_endOf 1 := ⟨List.mem_of_getElem? (i := 319) (by decide +kernel), k_inX3, by decide +kernel, by decide +kernel, by decide +kernel⟩
theorem kv_X3_endOf : mw_Mv mX3_endOf := ⟨List.mem_of_getElem? (i := 317) (by decide +kernel), List.mem_of_getElem? (i := 318) (by decide +kernel)⟩
def mX3_isOpen : mw_M := (yX3_isOpen, cX3_isOpen, 2, (some .boolean))
theorem kd_X3_isOpen : mw_Md mX3_isOpen 1 := ⟨List.mem_of_getElem? (i := 297) (by decide +kernel), k_inX3, by decide +kernel, by decide +kernel, by decide +kernel⟩
theorem kv_X3_isOpen : mw_Mv mX3_isOpen := ⟨List.mem_of_getElem? (i := 295) (by decide +kernel), List.mem_of_getElem? (i := 296) (by decide +kernel)⟩
def mX3_isProved : mw_M := (yX3_isProved, cX3_isProved, 2, (some .boolean))
theorem kd_X3_isProved : mw_Md mX3_isProved 1 := ⟨List.mem_of_getElem? (i := 289) (by decide +kernel), k_inX3, by decide +kernel, by decide +kernel, by decide +kernel⟩
theorem kv_X3_isProved : mw_Mv mX3_isProved := ⟨List.mem_of_getElem? (i := 287) (by decide +kernel), List.mem_of_getElem? (i := 288) (by decide +kernel)⟩
def mX3_droppedBy : mw_M := (yX3_droppedBy, cX3_droppedBy, 2, (some .int))
theorem kd_X3_droppedBy : mw_Md mX3_droppedBy 1 := ⟨List.mem_of_getElem? (i := 281) (by decide +kernel), k_inX3, by decide +kernel, by decide +kernel, by decide +kernel⟩
theorem kv_X3_droppedBy : mw_Mv mX3_droppedBy := ⟨List.mem_of_getElem? (i := 279) (by decide +kernel), List.mem_of_getElem? (i := 280) (by decide +kernel)⟩
def mX3_waitingFor : mw_M := (yX3_waitingFor, cX3_waitingFor, 4, (some .int))
theorem kd_X3_waitingFor : mw_Md mX3_waitingFor 1 := ⟨List.mem_of_getElem? (i := 341) (by decide +kernel), k_inX3, by decide +kernel, by decide +kernel, by decide +kernel⟩
theorem kv_X3_waitingFor : mw_Mv mX3_waitingFor := ⟨List.mem_of_getElem? (i := 339) (by decide +kernel), List.mem_of_getElem? (i := 340) (by decide +kernel)⟩
def mX3_isSettled : mw_M := (yX3_isSettled, cX3_isSettled, 2, (some .boolean))
theorem kd_X3_isSettled : mw_Md mX3_isSettled 0 := ⟨List.mem_of_getElem? (i := 285) (by decide +kernel), k_inX3, by decide +kernel, by decide +kernel, by decide +kernel⟩
theorem kv_X3_isSettled : mw_Mv mX3_isSettled := ⟨List.mem_of_getElem? (i := 283) (by decide +kernel), List.mem_of_getElem? (i := 284) (by decide +kernel)⟩
def mX3_draw : mw_M := (yX3_draw, cX3_draw, 2, (some .int))
theorem kd_X3_draw : mw_Md mX3_draw 1 := ⟨List.mem_of_getElem? (i := 585) (by decide +kernel), k_inX3, by decide +kernel, by decide +kernel, by decide +kernel⟩
theorem kv_X3_draw : mw_Mv mX3_draw := ⟨List.mem_of_getElem? (i := 583) (by decide +kernel), List.mem_of_getElem? (i := 584) (by decide +kernel)⟩
def mX3_writes : mw_M := (yX3_writes, cX3_writes, 5, none)
theorem kd_X3_writes : mw_Md mX3_writes 4 := ⟨List.mem_of_getElem? (i := 388) (by decide +kernel), k_inX3, by decide +kernel, by decide +kernel, by decide +kernel⟩
theorem kv_X3_writes : mw_Mv mX3_writes := ⟨List.mem_of_getElem? (i := 386) (by decide +kernel), List.mem_of_getElem? (i := 387) (by decide +kernel)⟩
def mX3_sends : mw_M := (yX3_sends, cX3_sends, 8, none)
theorem kd_X3_sends : mw_Md mX3_sends 4 := ⟨List.mem_of_getElem? (i := 401) (by decide +kernel), k_inX3, by decide +kernel, by decide +kernel, by decide +kernel⟩
theorem kv_X3_sends : mw_Mv mX3_sends := ⟨List.mem_of_getElem? (i := 400) (by decide +kernel), List.mem_of_getElem? (i := 3) (by decide +kernel)⟩
def mX3_loses : mw_M := (yX3_loses, cX3_loses, 2, none)
theorem kd_X3_loses : mw_Md mX3_loses 1 := ⟨List.mem_of_getElem? (i := 528) (by decide +kernel), k_inX3, by decide +kernel, by decide +kernel, by decide +kernel⟩
theorem kv_X3_loses : mw_Mv mX3_loses := ⟨List.mem_of_getElem? (i := 526) (by decide +kernel), List.mem_of_getElem? (i := 527) (by decide +kernel)⟩
def mX3_delivers : mw_M := (yX3_delivers, cX3_delivers, 9, (some .int))
theorem kd_X3_delivers : mw_Md mX3_delivers 1 := ⟨List.mem_of_getElem? (i := 473) (by decide +kernel), k_inX3, by decide +kernel, by decide +kernel, by decide +kernel⟩
theorem kv_X3_delivers : mw_Mv mX3_delivers := ⟨List.mem_of_getElem? (i := 471) (by decide +kernel), List.mem_of_getElem? (i := 472) (by decide +kernel)⟩
def mX3_sizeOf : mw_M := (yX3_sizeOf, cX3_sizeOf, 1, (some .int))
theorem kd_X3_sizeOf : mw_Md mX3_sizeOf 1 := ⟨List.mem_of_getElem? (i := 395) (by decide +kernel), k_inX3, by decide +kernel, by decide +kernel, by decide +kernel⟩
theorem ks_X3_sizeOf : Cond.static (mX3_sizeOf).1 ∈ lw_tbl := List.mem_of_getElem? (i := 394) (by decide +kernel)
def mX3_mayGo : mw_M := (yX3_mayGo, cX3_mayGo, 3, (some .boolean))
theorem kd_X3_mayGo : mw_Md mX3_mayGo 2 := ⟨List.mem_of_getElem? (i := 392) (by decide +kernel), k_inX3, by decide +kernel, by decide +kernel, by decide +kernel⟩
theorem kv_X3_mayGo : mw_Mv mX3_mayGo := ⟨List.mem_of_getElem? (i := 391) (by decide +kernel), List.mem_of_getElem? (i := 2) (by decide +kernel)⟩
def mX3_letsOut : mw_M := (yX3_letsOut, cX3_letsOut, 6, none)
theorem kd_X3_letsOut : mw_Md mX3_letsOut 1 := ⟨List.mem_of_getElem? (i := 503) (by decide +kernel), k_inX3, by decide +kernel, by decide +kernel, by decide +kernel⟩
theorem kv_X3_letsOut : mw_Mv mX3_letsOut := ⟨List.mem_of_getElem? (i := 502) (by decide +kernel), List.mem_of_getElem? (i := 11) (by decide +kernel)⟩
def mX3_dropsHeldOf : mw_M := (yX3_dropsHeldOf, cX3_dropsHeldOf, 3, none)
theorem kd_X3_dropsHeldOf : mw_Md mX3_dropsHeldOf 1 := ⟨List.mem_of_getElem? (i := 567) (by decide +kernel), k_inX3, by decide +kernel, by decide +kernel, by decide +kernel⟩
theorem kv_X3_dropsHeldOf : mw_Mv mX3_dropsHeldOf := ⟨List.mem_of_getElem? (i := 566) (by decide +kernel), List.mem_of_getElem? (i := 18) (by decide +kernel)⟩
def mX3_challenges : mw_M := (yX3_challenges, cX3_challenges, 5, (some .int))
theorem kd_X3_challenges : mw_Md mX3_challenges 2 := ⟨List.mem_of_getElem? (i := 436) (by decide +kernel), k_inX3, by decide +kernel, by decide +kernel, by decide +kernel⟩
theorem kv_X3_challenges : mw_Mv mX3_challenges := ⟨List.mem_of_getElem? (i := 435) (by decide +kernel), List.mem_of_getElem? (i := 4) (by decide +kernel)⟩
def mX3_askedWith : mw_M := (yX3_askedWith, cX3_askedWith, 5, (some .int))
theorem kd_X3_askedWith : mw_Md mX3_askedWith 3 := ⟨List.mem_of_getElem? (i := 490) (by decide +kernel), k_inX3, by decide +kernel, by decide +kernel, by decide +kernel⟩
theorem kv_X3_askedWith : mw_Mv mX3_askedWith := ⟨List.mem_of_getElem? (i := 489) (by decide +kernel), List.mem_of_getElem? (i := 8) (by decide +kernel)⟩
def mX3_answered : mw_M := (yX3_answered, cX3_answered, 5, (some .int))
theorem kd_X3_answered : mw_Md mX3_answered 2 := ⟨List.mem_of_getElem? (i := 499) (by decide +kernel), k_inX3, by decide +kernel, by decide +kernel, by decide +kernel⟩
theorem kv_X3_answered : mw_Mv mX3_answered := ⟨List.mem_of_getElem? (i := 498) (by decide +kernel), List.mem_of_getElem? (i := 10) (by decide +kernel)⟩
def mX3_houseTakes : mw_M := (yX3_houseTakes, cX3_houseTakes, 6, (some .int))
theorem kd_X3_houseTakes : mw_Md mX3_houseTakes 5 := ⟨List.mem_of_getElem? (i := 477) (by decide +kernel), k_inX3, by decide +kernel, by decide +kernel, by decide +kernel⟩
theorem kv_X3_houseTakes : mw_Mv mX3_houseTakes := ⟨List.mem_of_getElem? (i := 476) (by decide +kernel), List.mem_of_getElem? (i := 5) (by decide +kernel)⟩
def mX3_houseFollows : mw_M := (yX3_houseFollows, cX3_houseFollows, 5, (some .boolean))
theorem kd_X3_houseFollows : mw_Md mX3_houseFollows 3 := ⟨List.mem_of_getElem? (i := 482) (by decide +kernel), k_inX3, by decide +kernel, by decide +kernel, by decide +kernel⟩
theorem kv_X3_houseFollows : mw_Mv mX3_houseFollows := ⟨List.mem_of_getElem? (i := 481) (by decide +kernel), List.mem_of_getElem? (i := 6) (by decide +kernel)⟩
def mX3_houseDoubts : mw_M := (yX3_houseDoubts, cX3_houseDoubts, 2, none)
theorem kd_X3_houseDoubts : mw_Md mX3_houseDoubts 1 := ⟨List.mem_of_getElem? (i := 486) (by decide +kernel), k_inX3, by decide +kernel, by decide +kernel, by decide +kernel⟩
theorem kv_X3_houseDoubts : mw_Mv mX3_houseDoubts := ⟨List.mem_of_getElem? (i := 485) (by decide +kernel), List.mem_of_getElem? (i := 7) (by decide +kernel)⟩
def mX3_houseActs : mw_M := (yX3_houseActs, cX3_houseActs, 7, none)
theorem kd_X3_houseActs : mw_Md mX3_houseActs 4 := ⟨List.mem_of_getElem? (i := 495) (by decide +kernel), k_inX3, by decide +kernel, by decide +kernel, by decide +kernel⟩
theorem kv_X3_houseActs : mw_Mv mX3_houseActs := ⟨List.mem_of_getElem? (i := 494) (by decide +kernel), List.mem_of_getElem? (i := 9) (by decide +kernel)⟩
def mX3_replaces : mw_M := (yX3_replaces, cX3_replaces, 3, (some .int))
theorem kd_X3_replaces : mw_Md mX3_replaces 1 := ⟨List.mem_of_getElem? (i := 507) (by decide +kernel), k_inX3, by decide +kernel, by decide +kernel, by decide +kernel⟩
theorem kv_X3_replaces : mw_Mv mX3_replaces := ⟨List.mem_of_getElem? (i := 506) (by decide +kernel), List.mem_of_getElem? (i := 12) (by decide +kernel)⟩
def mX3_guestTakes : mw_M := (yX3_guestTakes, cX3_guestTakes, 5, (some .int))
theorem kd_X3_guestTakes : mw_Md mX3_guestTakes 4 := ⟨List.mem_of_getElem? (i := 516) (by decide +kernel), k_inX3, by decide +kernel, by decide +kernel, by decide +kernel⟩
theorem kv_X3_guestTakes : mw_Mv mX3_guestTakes := ⟨List.mem_of_getElem? (i := 515) (by decide +kernel), List.mem_of_getElem? (i := 13) (by decide +kernel)⟩
def mX3_guestActs : mw_M := (yX3_guestActs, cX3_guestActs, 4, none)
theorem kd_X3_guestActs : mw_Md mX3_guestActs 3 := ⟨List.mem_of_getElem? (i := 520) (by decide +kernel), k_inX3, by decide +kernel, by decide +kernel, by decide +kernel⟩
theorem kv_X3_guestActs : mw_Mv mX3_guestActs := ⟨List.mem_of_getElem? (i := 519) (by decide +kernel), List.mem_of_getElem? (i := 14) (by decide +kernel)⟩
def mX3_opens : mw_M := (yX3_opens, cX3_opens, 3, (some .int))
theorem kd_X3_opens : mw_Md mX3_opens 1 := ⟨List.mem_of_getElem? (i := 423) (by decide +kernel), k_inX3, by decide +kernel, by decide +kernel, by decide +kernel⟩
theorem kv_X3_opens : mw_Mv mX3_opens := ⟨List.mem_of_getElem? (i := 421) (by decide +kernel), List.mem_of_getElem? (i := 422) (by decide +kernel)⟩
def mX3_closes : mw_M := (yX3_closes, cX3_closes, 3, (some .int))
theorem kd_X3_closes : mw_Md mX3_closes 1 := ⟨List.mem_of_getElem? (i := 457) (by decide +kernel), k_inX3, by decide +kernel, by decide +kernel, by decide +kernel⟩
theorem kv_X3_closes : mw_Mv mX3_closes := ⟨List.mem_of_getElem? (i := 455) (by decide +kernel), List.mem_of_getElem? (i := 456) (by decide +kernel)⟩
def mX3_goesTo : mw_M := (yX3_goesTo, cX3_goesTo, 2, none)
theorem kd_X3_goesTo : mw_Md mX3_goesTo 1 := ⟨List.mem_of_getElem? (i := 444) (by decide +kernel), k_inX3, by decide +kernel, by decide +kernel, by decide +kernel⟩
theorem kv_X3_goesTo : mw_Mv mX3_goesTo := ⟨List.mem_of_getElem? (i := 442) (by decide +kernel), List.mem_of_getElem? (i := 443) (by decide +kernel)⟩
def mX3_passes : mw_M := (yX3_passes, cX3_passes, 3, none)
theorem kd_X3_passes : mw_Md mX3_passes 0 := ⟨List.mem_of_getElem? (i := 551) (by decide +kernel), k_inX3, by decide +kernel, by decide +kernel, by decide +kernel⟩
theorem kv_X3_passes : mw_Mv mX3_passes := ⟨List.mem_of_getElem? (i := 549) (by decide +kernel), List.mem_of_getElem? (i := 550) (by decide +kernel)⟩
def mX3_asksAgain : mw_M := (yX3_asksAgain, cX3_asksAgain, 2, none)
theorem kd_X3_asksAgain : mw_Md mX3_asksAgain 1 := ⟨List.mem_of_getElem? (i := 555) (by decide +kernel), k_inX3, by decide +kernel, by decide +kernel, by decide +kernel⟩
theorem kv_X3_asksAgain : mw_Mv mX3_asksAgain := ⟨List.mem_of_getElem? (i := 554) (by decide +kernel), List.mem_of_getElem? (i := 15) (by decide +kernel)⟩
def mX3_givesUp : mw_M := (yX3_givesUp, cX3_givesUp, 4, none)
theorem kd_X3_givesUp : mw_Md mX3_givesUp 1 := ⟨List.mem_of_getElem? (i := 559) (by decide +kernel), k_inX3, by decide +kernel, by decide +kernel, by decide +kernel⟩
theorem kv_X3_givesUp : mw_Mv mX3_givesUp := ⟨List.mem_of_getElem? (i := 558) (by decide +kernel), List.mem_of_getElem? (i := 16) (by decide +kernel)⟩
def mX3_forgets : mw_M := (yX3_forgets, cX3_forgets, 2, none)
theorem kd_X3_forgets : mw_Md mX3_forgets 1 := ⟨List.mem_of_getElem? (i := 563) (by decide +kernel), k_inX3, by decide +kernel, by decide +kernel, by decide +kernel⟩
theorem kv_X3_forgets : mw_Mv mX3_forgets := ⟨List.mem_of_getElem? (i := 562) (by decide +kernel), List.mem_of_getElem? (i := 17) (by decide +kernel)⟩
def mX3_leaves : mw_M := (yX3_leaves, cX3_leaves, 2, none)
theorem kd_X3_leaves : mw_Md mX3_leaves 1 := ⟨List.mem_of_getElem? (i := 571) (by decide +kernel), k_inX3, by decide +kernel, by decide +kernel, by decide +kernel⟩
theorem kv_X3_leaves : mw_Mv mX3_leaves := ⟨List.mem_of_getElem? (i := 570) (by decide +kernel), List.mem_of_getElem? (i := 19) (by decide +kernel)⟩
def mX4_init : mw_M := (yX4_init, cX4_init, 1, none)
theorem kd_X4_init : mw_Md mX4_init 0 := ⟨List.mem_of_getElem? (i := 78) (by decide +kernel), k_inX4, by decide +kernel, by decide +kernel, by decide +kernel⟩
theorem ki_X4_init : Cond.instanceMethod (mX4_init).1 ∈ lw_tbl := List.mem_of_getElem? (i := 77) (by decide +kernel)
def mX4_told : mw_M := (yX4_told, cX4_told, 2, (some .int))
theorem kd_X4_told : mw_Md mX4_told 1 := ⟨List.mem_of_getElem? (i := 263) (by decide +kernel), k_inX4, by decide +kernel, by decide +kernel, by decide +kernel⟩
theorem kv_X4_told : mw_Mv mX4_told := ⟨List.mem_of_getElem? (i := 261) (by decide +kernel), List.mem_of_getElem? (i := 262) (by decide +kernel)⟩
def mX4_end : mw_M := (yX4_end, cX4_end, 4, (some .int))
theorem kd_X4_end : mw_Md mX4_end 2 := ⟨List.mem_of_getElem? (i := 325) (by decide +kernel), k_inX4, by decide +kernel, by decide +kernel, by decide +kernel⟩
theorem kv_X4_end : mw_Mv mX4_end := ⟨List.mem_of_getElem? (i := 323) (by decide +kernel), List.mem_of_getElem? (i := 324) (by decide +kernel)⟩
def mX4_place : mw_M := (yX4_place, cX4_place, 3, (some .int))
theorem kd_X4_place : mw_Md mX4_place 2 := ⟨List.mem_of_getElem? (i := 334) (by decide +kernel), k_inX4, by decide +kernel, by decide +kernel, by decide +kernel⟩
theorem kv_X4_place : mw_Mv mX4_place := ⟨List.mem_of_getElem? (i := 332) (by decide +kernel), List.mem_of_getElem? (i := 333) (by decide +kernel)⟩
def mX4_letter : mw_M := (yX4_letter, cX4_letter, 3, (some .int))
theorem kd_X4_letter : mw_Md mX4_letter 2 := ⟨List.mem_of_getElem? (i := 356) (by decide +kernel), k_inX4, by decide +kernel, by decide +kernel, by decide +kernel⟩
theorem kv_X4_letter : mw_Mv mX4_letter := ⟨List.mem_of_getElem? (i := 354) (by decide +kernel), List.mem_of_getElem? (i := 355) (by decide +kernel)⟩
def mX4_challenge : mw_M := (yX4_challenge, cX4_challenge, 3, (some .int))
theorem kd_X4_challenge : mw_Md mX4_challenge 2 := ⟨List.mem_of_getElem? (i := 360) (by decide +kernel), k_inX4, by decide +kernel, by decide +kernel, by decide +kernel⟩
theorem kv_X4_challenge : mw_Mv mX4_challenge := ⟨List.mem_of_getElem? (i := 358) (by decide +kernel), List.mem_of_getElem? (i := 359) (by decide +kernel)⟩
def mX4_held : mw_M := (yX4_held, cX4_held, 3, (some .int))
theorem kd_X4_held : mw_Md mX4_held 2 := ⟨List.mem_of_getElem? (i := 364) (by decide +kernel), k_inX4, by decide +kernel, by decide +kernel, by decide +kernel⟩
theorem kv_X4_held : mw_Mv mX4_held := ⟨List.mem_of_getElem? (i := 362) (by decide +kernel), List.mem_of_getElem? (i := 363) (by decide +kernel)⟩
def mX4_name : mw_M := (yX4_name, cX4_name, 2, (some .int))
theorem kd_X4_name : mw_Md mX4_name 1 := ⟨List.mem_of_getElem? (i := 368) (by decide +kernel), k_inX4, by decide +kernel, by decide +kernel, by decide +kernel⟩
theorem kv_X4_name : mw_Mv mX4_name := ⟨List.mem_of_getElem? (i := 366) (by decide +kernel), List.mem_of_getElem? (i := 367) (by decide +kernel)⟩
def mX4_word : mw_M := (yX4_word, cX4_word, 3, (some .int))
theorem kd_X4_word : mw_Md mX4_word 2 := ⟨List.mem_of_getElem? (i := 372) (by decide +kernel), k_inX4, by decide +kernel, by decide +kernel, by decide +kernel⟩
theorem kv_X4_word : mw_Mv mX4_word := ⟨List.mem_of_getElem? (i := 370) (by decide +kernel), List.mem_of_getElem? (i := 371) (by decide +kernel)⟩
def mX4_say : mw_M := (yX4_say, cX4_say, 1, (some .int))
theorem kd_X4_say : mw_Md mX4_say 0 := ⟨List.mem_of_getElem? (i := 379) (by decide +kernel), k_inX4, by decide +kernel, by decide +kernel, by decide +kernel⟩
theorem kv_X4_say : mw_Mv mX4_say := ⟨List.mem_of_getElem? (i := 377) (by decide +kernel), List.mem_of_getElem? (i := 378) (by decide +kernel)⟩
def mX4_open : mw_M := (yX4_open, cX4_open, 2, (some .int))
theorem kd_X4_open : mw_Md mX4_open 1 := ⟨List.mem_of_getElem? (i := 417) (by decide +kernel), k_inX4, by decide +kernel, by decide +kernel, by decide +kernel⟩
theorem kv_X4_open : mw_Mv mX4_open := ⟨List.mem_of_getElem? (i := 415) (by decide +kernel), List.mem_of_getElem? (i := 416) (by decide +kernel)⟩
def mX4_go : mw_M := (yX4_go, cX4_go, 2, (some .int))
theorem kd_X4_go : mw_Md mX4_go 1 := ⟨List.mem_of_getElem? (i := 440) (by decide +kernel), k_inX4, by decide +kernel, by decide +kernel, by decide +kernel⟩
theorem kv_X4_go : mw_Mv mX4_go := ⟨List.mem_of_getElem? (i := 438) (by decide +kernel), List.mem_of_getElem? (i := 439) (by decide +kernel)⟩
def mX4_close : mw_M := (yX4_close, cX4_close, 2, (some .int))
theorem kd_X4_close : mw_Md mX4_close 1 := ⟨List.mem_of_getElem? (i := 453) (by decide +kernel), k_inX4, by decide +kernel, by decide +kernel, by decide +kernel⟩
theorem kv_X4_close : mw_Mv mX4_close := ⟨List.mem_of_getElem? (i := 451) (by decide +kernel), List.mem_of_getElem? (i := 452) (by decide +kernel)⟩
def mX4_speak : mw_M := (yX4_speak, cX4_speak, 1, (some .int))
theorem kd_X4_speak : mw_Md mX4_speak 0 := ⟨List.mem_of_getElem? (i := 461) (by decide +kernel), k_inX4, by decide +kernel, by decide +kernel, by decide +kernel⟩
theorem kv_X4_speak : mw_Mv mX4_speak := ⟨List.mem_of_getElem? (i := 459) (by decide +kernel), List.mem_of_getElem? (i := 460) (by decide +kernel)⟩
def mX4_again : mw_M := (yX4_again, cX4_again, 3, (some .int))
theorem kd_X4_again : mw_Md mX4_again 1 := ⟨List.mem_of_getElem? (i := 465) (by decide +kernel), k_inX4, by decide +kernel, by decide +kernel, by decide +kernel⟩
theorem kv_X4_again : mw_Mv mX4_again := ⟨List.mem_of_getElem? (i := 463) (by decide +kernel), List.mem_of_getElem? (i := 464) (by decide +kernel)⟩
def mX4_arrive : mw_M := (yX4_arrive, cX4_arrive, 2, (some .int))
theorem kd_X4_arrive : mw_Md mX4_arrive 1 := ⟨List.mem_of_getElem? (i := 469) (by decide +kernel), k_inX4, by decide +kernel, by decide +kernel, by decide +kernel⟩
theorem kv_X4_arrive : mw_Mv mX4_arrive := ⟨List.mem_of_getElem? (i := 467) (by decide +kernel), List.mem_of_getElem? (i := 468) (by decide +kernel)⟩
def mX4_lose : mw_M := (yX4_lose, cX4_lose, 2, (some .int))
theorem kd_X4_lose : mw_Md mX4_lose 1 := ⟨List.mem_of_getElem? (i := 524) (by decide +kernel), k_inX4, by decide +kernel, by decide +kernel, by decide +kernel⟩
theorem kv_X4_lose : mw_Mv mX4_lose := ⟨List.mem_of_getElem? (i := 522) (by decide +kernel), List.mem_of_getElem? (i := 523) (by decide +kernel)⟩
def mX4_twice : mw_M := (yX4_twice, cX4_twice, 2, (some .int))
theorem kd_X4_twice : mw_Md mX4_twice 1 := ⟨List.mem_of_getElem? (i := 533) (by decide +kernel), k_inX4, by decide +kernel, by decide +kernel, by decide +kernel⟩
theorem kv_X4_twice : mw_Mv mX4_twice := ⟨List.mem_of_getElem? (i := 531) (by decide +kernel), List.mem_of_getElem? (i := 532) (by decide +kernel)⟩
def mX4_forge : mw_M := (yX4_forge, cX4_forge, 6, (some .int))
theorem kd_X4_forge : mw_Md mX4_forge 5 := ⟨List.mem_of_getElem? (i := 542) (by decide +kernel), k_inX4, by decide +kernel, by decide +kernel, by decide +kernel⟩
theorem kv_X4_forge : mw_Mv mX4_forge := ⟨List.mem_of_getElem? (i := 540) (by decide +kernel), List.mem_of_getElem? (i := 541) (by decide +kernel)⟩
def mX4_tick : mw_M := (yX4_tick, cX4_tick, 1, (some .int))
theorem kd_X4_tick : mw_Md mX4_tick 0 := ⟨List.mem_of_getElem? (i := 547) (by decide +kernel), k_inX4, by decide +kernel, by decide +kernel, by decide +kernel⟩
theorem kv_X4_tick : mw_Mv mX4_tick := ⟨List.mem_of_getElem? (i := 545) (by decide +kernel), List.mem_of_getElem? (i := 546) (by decide +kernel)⟩
def mX4_drift : mw_M := (yX4_drift, cX4_drift, 3, (some .int))
theorem kd_X4_drift : mw_Md mX4_drift 1 := ⟨List.mem_of_getElem? (i := 577) (by decide +kernel), k_inX4, by decide +kernel, by decide +kernel, by decide +kernel⟩
theorem kv_X4_drift : mw_Mv mX4_drift := ⟨List.mem_of_getElem? (i := 575) (by decide +kernel), List.mem_of_getElem? (i := 576) (by decide +kernel)⟩
def mX4_write : mw_M := (yX4_write, cX4_write, 4, (some .int))
theorem kd_X4_write : mw_Md mX4_write 3 := ⟨List.mem_of_getElem? (i := 602) (by decide +kernel), k_inX4, by decide +kernel, by decide +kernel, by decide +kernel⟩
theorem kv_X4_write : mw_Mv mX4_write := ⟨List.mem_of_getElem? (i := 600) (by decide +kernel), List.mem_of_getElem? (i := 601) (by decide +kernel)⟩
def mX4_tear : mw_M := (yX4_tear, cX4_tear, 2, (some .int))
theorem kd_X4_tear : mw_Md mX4_tear 0 := ⟨List.mem_of_getElem? (i := 606) (by decide +kernel), k_inX4, by decide +kernel, by decide +kernel, by decide +kernel⟩
theorem kv_X4_tear : mw_Mv mX4_tear := ⟨List.mem_of_getElem? (i := 604) (by decide +kernel), List.mem_of_getElem? (i := 605) (by decide +kernel)⟩
def mX4_seed : mw_M := (yX4_seed, cX4_seed, 3, (some .int))
theorem kd_X4_seed : mw_Md mX4_seed 1 := ⟨List.mem_of_getElem? (i := 614) (by decide +kernel), k_inX4, by decide +kernel, by decide +kernel, by decide +kernel⟩
theorem kv_X4_seed : mw_Mv mX4_seed := ⟨List.mem_of_getElem? (i := 612) (by decide +kernel), List.mem_of_getElem? (i := 613) (by decide +kernel)⟩
def mX4_keep : mw_M := (yX4_keep, cX4_keep, 3, (some .int))
theorem kd_X4_keep : mw_Md mX4_keep 1 := ⟨List.mem_of_getElem? (i := 618) (by decide +kernel), k_inX4, by decide +kernel, by decide +kernel, by decide +kernel⟩
theorem kv_X4_keep : mw_Mv mX4_keep := ⟨List.mem_of_getElem? (i := 616) (by decide +kernel), List.mem_of_getElem? (i := 617) (by decide +kernel)⟩
def mX4_goBack : mw_M := (yX4_goBack, cX4_goBack, 3, (some .int))
theorem kd_X4_goBack : mw_Md mX4_goBack 1 := ⟨List.mem_of_getElem? (i := 641) (by decide +kernel), k_inX4, by decide +kernel, by decide +kernel, by decide +kernel⟩
theorem kv_X4_goBack : mw_Mv mX4_goBack := ⟨List.mem_of_getElem? (i := 639) (by decide +kernel), List.mem_of_getElem? (i := 640) (by decide +kernel)⟩
def mX4_isEnd : mw_M := (yX4_isEnd, cX4_isEnd, 1, (some .boolean))
theorem kd_X4_isEnd : mw_Md mX4_isEnd 1 := ⟨List.mem_of_getElem? (i := 328) (by decide +kernel), k_inX4, by decide +kernel, by decide +kernel, by decide +kernel⟩
theorem ks_X4_isEnd : Cond.static (mX4_isEnd).1 ∈ lw_tbl := List.mem_of_getElem? (i := 327) (by decide +kernel)
def mX4_isPlace : mw_M := (yX4_isPlace, cX4_isPlace, 1, (some .boolean))
theorem kd_X4_isPlace : mw_Md mX4_isPlace 1 := ⟨List.mem_of_getElem? (i := 337) (by decide +kernel), k_inX4, by decide +kernel, by decide +kernel, by decide +kernel⟩
theorem ks_X4_isPlace : Cond.static (mX4_isPlace).1 ∈ lw_tbl := List.mem_of_getElem? (i := 336) (by decide +kernel)
def mX4_otherOf : mw_M := (yX4_otherOf, cX4_otherOf, 1, (some .int))
theorem kd_X4_otherOf : mw_Md mX4_otherOf 1 := ⟨List.mem_of_getElem? (i := 375) (by decide +kernel), k_inX4, by decide +kernel, by decide +kernel, by decide +kernel⟩
theorem ks_X4_otherOf : Cond.static (mX4_otherOf).1 ∈ lw_tbl := List.mem_of_getElem? (i := 374) (by decide +kernel)
def mX4_cell : mw_M := (yX4_cell, cX4_cell, 3, (some .int))
theorem kd_X4_cell : mw_Md mX4_cell 3 := ⟨List.mem_of_getElem? (i := 344) (by decide +kernel), k_inX4, by decide +kernel, by decide +kernel, by decide +kernel⟩
theorem ks_X4_cell : Cond.static (mX4_cell).1 ∈ lw_tbl := List.mem_of_getElem? (i := 343) (by decide +kernel)
def mX4_nextWord : mw_M := (yX4_nextWord, cX4_nextWord, 4, (some .int))
theorem kd_X4_nextWord : mw_Md mX4_nextWord 1 := ⟨List.mem_of_getElem? (i := 383) (by decide +kernel), k_inX4, by decide +kernel, by decide +kernel, by decide +kernel⟩
theorem kv_X4_nextWord : mw_Mv mX4_nextWord := ⟨List.mem_of_getElem? (i := 382) (by decide +kernel), List.mem_of_getElem? (i := 1) (by decide +kernel)⟩
def mX4_firstWrong : mw_M := (yX4_firstWrong, cX4_firstWrong, 3, (some .int))
theorem kd_X4_firstWrong : mw_Md mX4_firstWrong 0 := ⟨List.mem_of_getElem? (i := 314) (by decide +kernel), k_inX4, by decide +kernel, by decide +kernel, by decide +kernel⟩
theorem kv_X4_firstWrong : mw_Mv mX4_firstWrong := ⟨List.mem_of_getElem? (i := 313) (by decide +kernel), List.mem_of_getElem? (i := 0) (by decide +kernel)⟩
def mX4_drawOne : mw_M := (yX4_drawOne, cX4_drawOne, 2, none)
theorem kd_X4_drawOne : mw_Md mX4_drawOne 0 := ⟨List.mem_of_getElem? (i := 581) (by decide +kernel), k_inX4, by decide +kernel, by decide +kernel, by decide +kernel⟩
theorem kv_X4_drawOne : mw_Mv mX4_drawOne := ⟨List.mem_of_getElem? (i := 580) (by decide +kernel), List.mem_of_getElem? (i := 20) (by decide +kernel)⟩
def mX4_goOrOpen : mw_M := (yX4_goOrOpen, cX4_goOrOpen, 2, none)
theorem kd_X4_goOrOpen : mw_Md mX4_goOrOpen 1 := ⟨List.mem_of_getElem? (i := 595) (by decide +kernel), k_inX4, by decide +kernel, by decide +kernel, by decide +kernel⟩
theorem kv_X4_goOrOpen : mw_Mv mX4_goOrOpen := ⟨List.mem_of_getElem? (i := 594) (by decide +kernel), List.mem_of_getElem? (i := 21) (by decide +kernel)⟩
def mX5_init : mw_M := (yX5_init, cX5_init, 2, none)
theorem kd_X5_init : mw_Md mX5_init 0 := ⟨List.mem_of_getElem? (i := 646) (by decide +kernel), k_inX5, by decide +kernel, by decide +kernel, by decide +kernel⟩
theorem ki_X5_init : Cond.instanceMethod (mX5_init).1 ∈ lw_tbl := List.mem_of_getElem? (i := 645) (by decide +kernel)
def mX5_in : mw_M := (yX5_in, cX5_in, 6, (some .boolean))
theorem kd_X5_in : mw_Md mX5_in 3 := ⟨List.mem_of_getElem? (i := 707) (by decide +kernel), k_inX5, by decide +kernel, by decide +kernel, by decide +kernel⟩
theorem ks_X5_in : Cond.static (mX5_in).1 ∈ lw_tbl := List.mem_of_getElem? (i := 706) (by decide +kernel)
def mX5_sizeOf : mw_M := (yX5_sizeOf, cX5_sizeOf, 1, (some .int))
theorem kd_X5_sizeOf : mw_Md mX5_sizeOf 1 := ⟨List.mem_of_getElem? (i := 770) (by decide +kernel), k_inX5, by decide +kernel, by decide +kernel, by decide +kernel⟩
theorem ks_X5_sizeOf : Cond.static (mX5_sizeOf).1 ∈ lw_tbl := List.mem_of_getElem? (i := 769) (by decide +kernel)
def mX5_removeAt : mw_M := (yX5_removeAt, cX5_removeAt, 6, none)
theorem kd_X5_removeAt : mw_Md mX5_removeAt 4 := ⟨List.mem_of_getElem? (i := 782) (by decide +kernel), k_inX5, by decide +kernel, by decide +kernel, by decide +kernel⟩
theorem kv_X5_removeAt : mw_Mv mX5_removeAt := ⟨List.mem_of_getElem? (i := 781) (by decide +kernel), List.mem_of_getElem? (i := 35) (by decide +kernel)⟩
def mX5_send : mw_M := (yX5_send, cX5_send, 7, none)
theorem kd_X5_send : mw_Md mX5_send 4 := ⟨List.mem_of_getElem? (i := 774) (by decide +kernel), k_inX5, by decide +kernel, by decide +kernel, by decide +kernel⟩
theorem kv_X5_send : mw_Mv mX5_send := ⟨List.mem_of_getElem? (i := 773) (by decide +kernel), List.mem_of_getElem? (i := 33) (by decide +kernel)⟩
def mX5_maySend : mw_M := (yX5_maySend, cX5_maySend, 3, (some .boolean))
theorem kd_X5_maySend : mw_Md mX5_maySend 2 := ⟨List.mem_of_getElem? (i := 767) (by decide +kernel), k_inX5, by decide +kernel, by decide +kernel, by decide +kernel⟩
theorem kv_X5_maySend : mw_Mv mX5_maySend := ⟨List.mem_of_getElem? (i := 766) (by decide +kernel), List.mem_of_getElem? (i := 32) (by decide +kernel)⟩
def mX5_hold : mw_M := (yX5_hold, cX5_hold, 5, none)
theorem kd_X5_hold : mw_Md mX5_hold 3 := ⟨List.mem_of_getElem? (i := 778) (by decide +kernel), k_inX5, by decide +kernel, by decide +kernel, by decide +kernel⟩
theorem kv_X5_hold : mw_Mv mX5_hold := ⟨List.mem_of_getElem? (i := 777) (by decide +kernel), List.mem_of_getElem? (i := 34) (by decide +kernel)⟩
def mX5_goes : mw_M := (yX5_goes, cX5_goes, 5, none)
theorem kd_X5_goes : mw_Md mX5_goes 4 := ⟨List.mem_of_getElem? (i := 763) (by decide +kernel), k_inX5, by decide +kernel, by decide +kernel, by decide +kernel⟩
theorem kv_X5_goes : mw_Mv mX5_goes := ⟨List.mem_of_getElem? (i := 762) (by decide +kernel), List.mem_of_getElem? (i := 31) (by decide +kernel)⟩
def mX5_firstHeld : mw_M := (yX5_firstHeld, cX5_firstHeld, 3, (some .int))
theorem kd_X5_firstHeld : mw_Md mX5_firstHeld 1 := ⟨List.mem_of_getElem? (i := 875) (by decide +kernel), k_inX5, by decide +kernel, by decide +kernel, by decide +kernel⟩
theorem kv_X5_firstHeld : mw_Mv mX5_firstHeld := ⟨List.mem_of_getElem? (i := 874) (by decide +kernel), List.mem_of_getElem? (i := 52) (by decide +kernel)⟩
def mX5_letOut : mw_M := (yX5_letOut, cX5_letOut, 5, none)
theorem kd_X5_letOut : mw_Md mX5_letOut 1 := ⟨List.mem_of_getElem? (i := 871) (by decide +kernel), k_inX5, by decide +kernel, by decide +kernel, by decide +kernel⟩
theorem kv_X5_letOut : mw_Mv mX5_letOut := ⟨List.mem_of_getElem? (i := 870) (by decide +kernel), List.mem_of_getElem? (i := 51) (by decide +kernel)⟩
def mX5_challengeNow : mw_M := (yX5_challengeNow, cX5_challengeNow, 5, none)
theorem kd_X5_challengeNow : mw_Md mX5_challengeNow 2 := ⟨List.mem_of_getElem? (i := 799) (by decide +kernel), k_inX5, by decide +kernel, by decide +kernel, by decide +kernel⟩
theorem kv_X5_challengeNow : mw_Mv mX5_challengeNow := ⟨List.mem_of_getElem? (i := 798) (by decide +kernel), List.mem_of_getElem? (i := 37) (by decide +kernel)⟩
def mX5_findAsked : mw_M := (yX5_findAsked, cX5_findAsked, 5, (some .int))
theorem kd_X5_findAsked : mw_Md mX5_findAsked 3 := ⟨List.mem_of_getElem? (i := 863) (by decide +kernel), k_inX5, by decide +kernel, by decide +kernel, by decide +kernel⟩
theorem kv_X5_findAsked : mw_Mv mX5_findAsked := ⟨List.mem_of_getElem? (i := 862) (by decide +kernel), List.mem_of_getElem? (i := 49) (by decide +kernel)⟩
def mX5_challengeOnce : mw_M := (yX5_challengeOnce, cX5_challengeOnce, 2, none)
theorem kd_X5_challengeOnce : mw_Md mX5_challengeOnce 1 := ⟨List.mem_of_getElem? (i := 859) (by decide +kernel), k_inX5, by decide +kernel, by decide +kernel, by decide +kernel⟩
theorem kv_X5_challengeOnce : mw_Mv mX5_challengeOnce := ⟨List.mem_of_getElem? (i := 858) (by decide +kernel), List.mem_of_getElem? (i := 48) (by decide +kernel)⟩
def mX5_took : mw_M := (yX5_took, cX5_took, 3, (some .boolean))
theorem kd_X5_took : mw_Md mX5_took 2 := ⟨List.mem_of_getElem? (i := 847) (by decide +kernel), k_inX5, by decide +kernel, by decide +kernel, by decide +kernel⟩
theorem kv_X5_took : mw_Mv mX5_took := ⟨List.mem_of_getElem? (i := 846) (by decide +kernel), List.mem_of_getElem? (i := 45) (by decide +kernel)⟩
def mX5_note : mw_M := (yX5_note, cX5_note, 3, none)
theorem kd_X5_note : mw_Md mX5_note 2 := ⟨List.mem_of_getElem? (i := 851) (by decide +kernel), k_inX5, by decide +kernel, by decide +kernel, by decide +kernel⟩
theorem kv_X5_note : mw_Mv mX5_note := ⟨List.mem_of_getElem? (i := 850) (by decide +kernel), List.mem_of_getElem? (i := 46) (by decide +kernel)⟩
def mX5_inRow : mw_M := (yX5_inRow, cX5_inRow, 3, (some .int))
theorem kd_X5_inRow : mw_Md mX5_inRow 1 := ⟨List.mem_of_getElem? (i := 716) (by decide +kernel), k_inX5, by decide +kernel, by decide +kernel, by decide +kernel⟩
theorem kv_X5_inRow : mw_Mv mX5_inRow := ⟨List.mem_of_getElem? (i := 715) (by decide +kernel), List.mem_of_getElem? (i := 28) (by decide +kernel)⟩
def mX5_word : mw_M := (yX5_word, cX5_word, 4, none)
theorem kd_X5_word : mw_Md mX5_word 3 := ⟨List.mem_of_getElem? (i := 811) (by decide +kernel), k_inX5, by decide +kernel, by decide +kernel, by decide +kernel⟩
theorem kv_X5_word : mw_Mv mX5_word := ⟨List.mem_of_getElem? (i := 810) (by decide +kernel), List.mem_of_getElem? (i := 39) (by decide +kernel)⟩
def mX5_confirm : mw_M := (yX5_confirm, cX5_confirm, 3, none)
theorem kd_X5_confirm : mw_Md mX5_confirm 2 := ⟨List.mem_of_getElem? (i := 883) (by decide +kernel), k_inX5, by decide +kernel, by decide +kernel, by decide +kernel⟩
theorem kv_X5_confirm : mw_Mv mX5_confirm := ⟨List.mem_of_getElem? (i := 882) (by decide +kernel), List.mem_of_getElem? (i := 54) (by decide +kernel)⟩
def mX5_follow : mw_M := (yX5_follow, cX5_follow, 3, none)
theorem kd_X5_follow : mw_Md mX5_follow 1 := ⟨List.mem_of_getElem? (i := 855) (by decide +kernel), k_inX5, by decide +kernel, by decide +kernel, by decide +kernel⟩
theorem kv_X5_follow : mw_Mv mX5_follow := ⟨List.mem_of_getElem? (i := 854) (by decide +kernel), List.mem_of_getElem? (i := 47) (by decide +kernel)⟩
def mX5_proveBy : mw_M := (yX5_proveBy, cX5_proveBy, 4, none)
theorem kd_X5_proveBy : mw_Md mX5_proveBy 1 := ⟨List.mem_of_getElem? (i := 867) (by decide +kernel), k_inX5, by decide +kernel, by decide +kernel, by decide +kernel⟩
theorem kv_X5_proveBy : mw_Mv mX5_proveBy := ⟨List.mem_of_getElem? (i := 866) (by decide +kernel), List.mem_of_getElem? (i := 50) (by decide +kernel)⟩
def mX5_retire : mw_M := (yX5_retire, cX5_retire, 5, none)
theorem kd_X5_retire : mw_Md mX5_retire 2 := ⟨List.mem_of_getElem? (i := 879) (by decide +kernel), k_inX5, by decide +kernel, by decide +kernel, by decide +kernel⟩
theorem kv_X5_retire : mw_Mv mX5_retire := ⟨List.mem_of_getElem? (i := 878) (by decide +kernel), List.mem_of_getElem? (i := 53) (by decide +kernel)⟩
def mX5_isLive : mw_M := (yX5_isLive, cX5_isLive, 2, (some .boolean))
theorem kd_X5_isLive : mw_Md mX5_isLive 1 := ⟨List.mem_of_getElem? (i := 843) (by decide +kernel), k_inX5, by decide +kernel, by decide +kernel, by decide +kernel⟩
theorem kv_X5_isLive : mw_Mv mX5_isLive := ⟨List.mem_of_getElem? (i := 842) (by decide +kernel), List.mem_of_getElem? (i := 44) (by decide +kernel)⟩
def mX5_takenByHouse : mw_M := (yX5_takenByHouse, cX5_takenByHouse, 6, (some .int))
theorem kd_X5_takenByHouse : mw_Md mX5_takenByHouse 5 := ⟨List.mem_of_getElem? (i := 839) (by decide +kernel), k_inX5, by decide +kernel, by decide +kernel, by decide +kernel⟩
theorem kv_X5_takenByHouse : mw_Mv mX5_takenByHouse := ⟨List.mem_of_getElem? (i := 838) (by decide +kernel), List.mem_of_getElem? (i := 43) (by decide +kernel)⟩
def mX5_sureBy : mw_M := (yX5_sureBy, cX5_sureBy, 3, none)
theorem kd_X5_sureBy : mw_Md mX5_sureBy 1 := ⟨List.mem_of_getElem? (i := 891) (by decide +kernel), k_inX5, by decide +kernel, by decide +kernel, by decide +kernel⟩
theorem kv_X5_sureBy : mw_Mv mX5_sureBy := ⟨List.mem_of_getElem? (i := 890) (by decide +kernel), List.mem_of_getElem? (i := 56) (by decide +kernel)⟩
def mX5_takenByGuest : mw_M := (yX5_takenByGuest, cX5_takenByGuest, 5, (some .int))
theorem kd_X5_takenByGuest : mw_Md mX5_takenByGuest 4 := ⟨List.mem_of_getElem? (i := 887) (by decide +kernel), k_inX5, by decide +kernel, by decide +kernel, by decide +kernel⟩
theorem kv_X5_takenByGuest : mw_Mv mX5_takenByGuest := ⟨List.mem_of_getElem? (i := 886) (by decide +kernel), List.mem_of_getElem? (i := 55) (by decide +kernel)⟩
def mX5_goTo : mw_M := (yX5_goTo, cX5_goTo, 2, none)
theorem kd_X5_goTo : mw_Md mX5_goTo 1 := ⟨List.mem_of_getElem? (i := 807) (by decide +kernel), k_inX5, by decide +kernel, by decide +kernel, by decide +kernel⟩
theorem kv_X5_goTo : mw_Mv mX5_goTo := ⟨List.mem_of_getElem? (i := 806) (by decide +kernel), List.mem_of_getElem? (i := 38) (by decide +kernel)⟩
def mX5_closeNow : mw_M := (yX5_closeNow, cX5_closeNow, 3, none)
theorem kd_X5_closeNow : mw_Md mX5_closeNow 1 := ⟨List.mem_of_getElem? (i := 819) (by decide +kernel), k_inX5, by decide +kernel, by decide +kernel, by decide +kernel⟩
theorem kv_X5_closeNow : mw_Mv mX5_closeNow := ⟨List.mem_of_getElem? (i := 818) (by decide +kernel), List.mem_of_getElem? (i := 40) (by decide +kernel)⟩
def mX5_leastSpare : mw_M := (yX5_leastSpare, cX5_leastSpare, 2, (some .int))
theorem kd_X5_leastSpare : mw_Md mX5_leastSpare 0 := ⟨List.mem_of_getElem? (i := 794) (by decide +kernel), k_inX5, by decide +kernel, by decide +kernel, by decide +kernel⟩
theorem kv_X5_leastSpare : mw_Mv mX5_leastSpare := ⟨List.mem_of_getElem? (i := 793) (by decide +kernel), List.mem_of_getElem? (i := 36) (by decide +kernel)⟩
def mX5_forget : mw_M := (yX5_forget, cX5_forget, 3, none)
theorem kd_X5_forget : mw_Md mX5_forget 1 := ⟨List.mem_of_getElem? (i := 922) (by decide +kernel), k_inX5, by decide +kernel, by decide +kernel, by decide +kernel⟩
theorem kv_X5_forget : mw_Mv mX5_forget := ⟨List.mem_of_getElem? (i := 921) (by decide +kernel), List.mem_of_getElem? (i := 59) (by decide +kernel)⟩
def mX5_giveUp : mw_M := (yX5_giveUp, cX5_giveUp, 2, none)
theorem kd_X5_giveUp : mw_Md mX5_giveUp 1 := ⟨List.mem_of_getElem? (i := 926) (by decide +kernel), k_inX5, by decide +kernel, by decide +kernel, by decide +kernel⟩
theorem kv_X5_giveUp : mw_Mv mX5_giveUp := ⟨List.mem_of_getElem? (i := 925) (by decide +kernel), List.mem_of_getElem? (i := 60) (by decide +kernel)⟩
def mX5_lookAt : mw_M := (yX5_lookAt, cX5_lookAt, 5, (some .boolean))
theorem kd_X5_lookAt : mw_Md mX5_lookAt 1 := ⟨List.mem_of_getElem? (i := 918) (by decide +kernel), k_inX5, by decide +kernel, by decide +kernel, by decide +kernel⟩
theorem kv_X5_lookAt : mw_Mv mX5_lookAt := ⟨List.mem_of_getElem? (i := 917) (by decide +kernel), List.mem_of_getElem? (i := 58) (by decide +kernel)⟩
def mX5_tickNow : mw_M := (yX5_tickNow, cX5_tickNow, 3, (some .int))
theorem kd_X5_tickNow : mw_Md mX5_tickNow 0 := ⟨List.mem_of_getElem? (i := 914) (by decide +kernel), k_inX5, by decide +kernel, by decide +kernel, by decide +kernel⟩
theorem kv_X5_tickNow : mw_Mv mX5_tickNow := ⟨List.mem_of_getElem? (i := 913) (by decide +kernel), List.mem_of_getElem? (i := 57) (by decide +kernel)⟩
def mX5_manyHas : mw_M := (yX5_manyHas, cX5_manyHas, 4, (some .int))
theorem kd_X5_manyHas : mw_Md mX5_manyHas 1 := ⟨List.mem_of_getElem? (i := 712) (by decide +kernel), k_inX5, by decide +kernel, by decide +kernel, by decide +kernel⟩
theorem kv_X5_manyHas : mw_Mv mX5_manyHas := ⟨List.mem_of_getElem? (i := 711) (by decide +kernel), List.mem_of_getElem? (i := 27) (by decide +kernel)⟩
def mX5_hasAll : mw_M := (yX5_hasAll, cX5_hasAll, 4, (some .boolean))
theorem kd_X5_hasAll : mw_Md mX5_hasAll 1 := ⟨List.mem_of_getElem? (i := 692) (by decide +kernel), k_inX5, by decide +kernel, by decide +kernel, by decide +kernel⟩
theorem kv_X5_hasAll : mw_Mv mX5_hasAll := ⟨List.mem_of_getElem? (i := 691) (by decide +kernel), List.mem_of_getElem? (i := 25) (by decide +kernel)⟩
def mX5_isSettled : mw_M := (yX5_isSettled, cX5_isSettled, 3, (some .boolean))
theorem kd_X5_isSettled : mw_Md mX5_isSettled 0 := ⟨List.mem_of_getElem? (i := 688) (by decide +kernel), k_inX5, by decide +kernel, by decide +kernel, by decide +kernel⟩
theorem kv_X5_isSettled : mw_Mv mX5_isSettled := ⟨List.mem_of_getElem? (i := 687) (by decide +kernel), List.mem_of_getElem? (i := 24) (by decide +kernel)⟩
def mX5_manyOf : mw_M := (yX5_manyOf, cX5_manyOf, 5, (some .int))
theorem kd_X5_manyOf : mw_Md mX5_manyOf 2 := ⟨List.mem_of_getElem? (i := 680) (by decide +kernel), k_inX5, by decide +kernel, by decide +kernel, by decide +kernel⟩
theorem kv_X5_manyOf : mw_Mv mX5_manyOf := ⟨List.mem_of_getElem? (i := 679) (by decide +kernel), List.mem_of_getElem? (i := 22) (by decide +kernel)⟩
def mX5_wrong : mw_M := (yX5_wrong, cX5_wrong, 2, (some .int))
theorem kd_X5_wrong : mw_Md mX5_wrong 0 := ⟨List.mem_of_getElem? (i := 696) (by decide +kernel), k_inX5, by decide +kernel, by decide +kernel, by decide +kernel⟩
theorem kv_X5_wrong : mw_Mv mX5_wrong := ⟨List.mem_of_getElem? (i := 695) (by decide +kernel), List.mem_of_getElem? (i := 26) (by decide +kernel)⟩
def mX5_toldMore : mw_M := (yX5_toldMore, cX5_toldMore, 2, (some .int))
theorem kd_X5_toldMore : mw_Md mX5_toldMore 1 := ⟨List.mem_of_getElem? (i := 684) (by decide +kernel), k_inX5, by decide +kernel, by decide +kernel, by decide +kernel⟩
theorem kv_X5_toldMore : mw_Mv mX5_toldMore := ⟨List.mem_of_getElem? (i := 683) (by decide +kernel), List.mem_of_getElem? (i := 23) (by decide +kernel)⟩
def mX5_told : mw_M := (yX5_told, cX5_told, 2, (some .int))
theorem kd_X5_told : mw_Md mX5_told 1 := ⟨List.mem_of_getElem? (i := 676) (by decide +kernel), k_inX5, by decide +kernel, by decide +kernel, by decide +kernel⟩
theorem kv_X5_told : mw_Mv mX5_told := ⟨List.mem_of_getElem? (i := 674) (by decide +kernel), List.mem_of_getElem? (i := 675) (by decide +kernel)⟩
def mX5_isEnd : mw_M := (yX5_isEnd, cX5_isEnd, 1, (some .boolean))
theorem kd_X5_isEnd : mw_Md mX5_isEnd 1 := ⟨List.mem_of_getElem? (i := 704) (by decide +kernel), k_inX5, by decide +kernel, by decide +kernel, by decide +kernel⟩
theorem ks_X5_isEnd : Cond.static (mX5_isEnd).1 ∈ lw_tbl := List.mem_of_getElem? (i := 703) (by decide +kernel)
def mX5_isPlace : mw_M := (yX5_isPlace, cX5_isPlace, 1, (some .boolean))
theorem kd_X5_isPlace : mw_Md mX5_isPlace 1 := ⟨List.mem_of_getElem? (i := 723) (by decide +kernel), k_inX5, by decide +kernel, by decide +kernel, by decide +kernel⟩
theorem ks_X5_isPlace : Cond.static (mX5_isPlace).1 ∈ lw_tbl := List.mem_of_getElem? (i := 722) (by decide +kernel)
def mX5_end : mw_M := (yX5_end, cX5_end, 3, (some .int))
theorem kd_X5_end : mw_Md mX5_end 2 := ⟨List.mem_of_getElem? (i := 701) (by decide +kernel), k_inX5, by decide +kernel, by decide +kernel, by decide +kernel⟩
theorem kv_X5_end : mw_Mv mX5_end := ⟨List.mem_of_getElem? (i := 699) (by decide +kernel), List.mem_of_getElem? (i := 700) (by decide +kernel)⟩
def mX5_heldFor : mw_M := (yX5_heldFor, cX5_heldFor, 4, (some .int))
theorem kd_X5_heldFor : mw_Md mX5_heldFor 1 := ⟨List.mem_of_getElem? (i := 728) (by decide +kernel), k_inX5, by decide +kernel, by decide +kernel, by decide +kernel⟩
