/-! what each call answers and makes, on the row W -/
abbrev oU : Int32 := -1000000001
abbrev oO : Int32 := -1000000002
abbrev oN : Int32 := -1000000003
abbrev oF : Int32 := -1000000004
/-- a number from 0 on below n -/
def mo_bl (x : Int32) (n : Nat) : Bool := decide (0 ≤ x) && decide (x < nI n)
theorem mo_bl_t {x : Int32} {n : Nat} (h : mo_bl x n = true) (hn : n ≤ 100000) : ∃ j, j < n ∧ x = nI j := by
  simp only [mo_bl, Bool.and_eq_true, decide_eq_true_eq] at h
  exact ml_of_range h.1 h.2 hn
theorem mo_bl_n {j n : Nat} (hj : j < n) (hn : n ≤ 100000) : mo_bl (nI j) n = true := by
  simp only [mo_bl, Bool.and_eq_true, decide_eq_true_eq]
  exact ⟨nI_pos' (by omega), nI_lt hj (by omega)⟩
theorem mo_in_bl {x : Int32} {g : Nat} (hg : 0 < g) (hg2 : g ≤ 100000) : mo_in x.toInt64 0 (nI (g - 1)).toInt64 = mo_bl x g := by
  have h := ml_in0 (x := x) hg hg2
  rw [ml_pred hg] at h
  unfold mo_bl
  cases hb : mo_in x.toInt64 0 (nI (g - 1)).toInt64 with
  | true => rw [hb] at h; simpa using h.mp rfl
  | false =>
    rw [hb] at h
    have h3 : ¬ (0 ≤ x ∧ x < nI g) := fun q => by cases h.mpr q
    cases hc : (decide (0 ≤ x) && decide (x < nI g)) with
    | false => rfl
    | true =>
      rw [Bool.and_eq_true, decide_eq_true_eq, decide_eq_true_eq] at hc
      exact absurd hc h3
theorem mo_in_bl0 {x : Int32} : mo_in x.toInt64 0 (nI 0 - nI 1).toInt64 = mo_bl x 0 := by
  have e1 : mo_bl x 0 = false := by
    cases hb : mo_bl x 0 with
    | false => rfl
    | true => obtain ⟨j, hj, -⟩ := mo_bl_t hb (by omega); omega
  rw [e1]
  unfold mo_in
  rw [show (0 : Int64) = (0 : Int32).toInt64 by decide]
  rw [Bool.and_eq_false_iff, decide_eq_false_iff_not, decide_eq_false_iff_not, mb_wide_le, mb_wide_le]
  by_cases h : 0 ≤ x
  · right
    intro h2
    have h3 : (0 : Int32) ≤ nI 0 - nI 1 := by
      rw [Int32.le_iff_toInt_le] at *
      omega
    exact absurd h3 (by decide)
  · exact Or.inl h
/-- the count's place, whatever it is -/
theorem mo_in_cnt {x : Int32} {n : Nat} (hn : n ≤ 1000) : mo_in x.toInt64 0 (nI n - nI 1).toInt64 = mo_bl x n := by
  rcases Nat.eq_zero_or_pos n with rfl | h
  · exact mo_in_bl0
  · rw [ml_pred h]; exact mo_in_bl h (by omega)
def op_next (W : Nat → Int32) (e : Nat) : Int32 × (Nat → Int32) :=
  if W (18 + e) = nI 40 then (oF, W) else (W (18 + e), mo_goes (upd W (18 + e) (W (18 + e) + nI 1)) e (mo_n (W (2 + e))) 0 (W (18 + e)))
def op_open (W : Nat → Int32) (x : Int32) : Int32 × (Nat → Int32) :=
  if mo_bl x 5 = true then
    (if 0 ≤ W (22 + mo_n x) ∨ ¬ mo_least W < 40 then (oN, W)
     else (nI (mo_least W), mo_challenge (upd (upd (upd W (87 + mo_least W) (nI 2)) (22 + mo_n x) (nI (mo_least W))) (27 + mo_n x) (nI 0)) 0 (mo_n x)))
  else (oU, W)
def op_go (W : Nat → Int32) (x : Int32) : Int32 × (Nat → Int32) :=
  if mo_bl x 5 = true then (if W (22 + mo_n x) < 0 ∨ W 2 = x then (oN, W) else (mo_goTo W (mo_n x) 4, mo_goTo W (mo_n x))) else (oU, W)
def op_close (W : Nat → Int32) (x : Int32) : Int32 × (Nat → Int32) :=
  if mo_bl x 5 = true then (if W (22 + mo_n x) < 0 ∨ W 2 = x then (oN, W) else (W (22 + mo_n x), mo_close W (mo_n x))) else (oU, W)
def op_again (W : Nat → Int32) (x : Int32) : Int32 × (Nat → Int32) :=
  if mo_bl x 2 = true then (if W (20 + mo_n x) < W (18 + mo_n x) then (W (20 + mo_n x), mo_goes W (mo_n x) (mo_n (W (2 + mo_n x))) 0 (W (20 + mo_n x))) else (oN, W)) else (oU, W)
/-- LETTER k is taken: by what it is dropped; what is so then -/
def mo_why (W : Nat → Int32) (k : Nat) : Nat :=
  if W (327 + 6 * k) = 0 then mo_houseWhy (mo_rm W 327 6 11 k) (W (327 + 6 * k + 2)) (mo_n (W (327 + 6 * k + 3)))
  else mo_guestWhy (mo_rm W 327 6 11 k) (mo_n (W (327 + 6 * k + 1))) (mo_n (W (327 + 6 * k + 3)))
def mo_taken (W : Nat → Int32) (k : Nat) : Nat → Int32 :=
  if W (327 + 6 * k) = 0 then mo_house (mo_rm W 327 6 11 k) (mo_n (W (327 + 6 * k + 1))) (W (327 + 6 * k + 2)) (mo_n (W (327 + 6 * k + 3))) (mo_n (W (327 + 6 * k + 4))) (W (327 + 6 * k + 5))
  else mo_guest (mo_rm W 327 6 11 k) (mo_n (W (327 + 6 * k + 1))) (mo_n (W (327 + 6 * k + 3))) (mo_n (W (327 + 6 * k + 4))) (W (327 + 6 * k + 5))
def mo_arr (W : Nat → Int32) (k : Nat) : Nat → Int32 := if mo_why W k = 0 then mo_taken W k else upd (mo_taken W k) (6 + mo_why W k) (mo_taken W k (6 + mo_why W k) + nI 1)
def op_arrive (W : Nat → Int32) (x : Int32) : Int32 × (Nat → Int32) := if mo_bl x (mo_n (W 11)) = true then (nI (mo_why W (mo_n x)), mo_arr W (mo_n x)) else (oU, W)
def mo_lose (W : Nat → Int32) (k : Nat) : Nat → Int32 := upd (mo_rm W 327 6 11 k) 10 (W 10 + nI 1)
def op_lose (W : Nat → Int32) (x : Int32) : Int32 × (Nat → Int32) := if mo_bl x (mo_n (W 11)) = true then (nI (mo_n (W 11) - 1), mo_lose W (mo_n x)) else (oU, W)
def mo_twice (W : Nat → Int32) (k : Nat) : Nat → Int32 := upd (mo_put W (327 + 6 * mo_n (W 11)) 6 (fun j => W (327 + 6 * k + j))) 11 (W 11 + nI 1)
def op_twice (W : Nat → Int32) (x : Int32) : Int32 × (Nat → Int32) := if mo_bl x (mo_n (W 11)) = true then (if W 11 = nI 24 then (oF, W) else (W 11 + nI 1, mo_twice W (mo_n x))) else (oU, W)
def mo_good (name number kind value : Int32) : Bool := (decide (-1 ≤ name) && decide (name < nI 100)) && mo_bl number 10000 && mo_bl kind 6 && mo_bl value 100
def mo_forge (W : Nat → Int32) (a b c d e : Int32) : Nat → Int32 := upd (mo_put W (327 + 6 * mo_n (W 11)) 6 (mo_r6 (nI 0) a b c d e)) 11 (W 11 + nI 1)
def op_forge (W : Nat → Int32) (a b c d e : Int32) : Int32 × (Nat → Int32) :=
  if mo_bl a 5 = true then (if mo_good b c d e = true then (if W 11 = nI 24 then (oF, W) else (W 11 + nI 1, mo_forge W a b c d e)) else (oO, W)) else (oU, W)
/-- what is told -/
def mo_ha (W : Nat → Int32) (e : Nat) : Bool := decide (mo_n (W (19 - e)) ≤ mo_row W e)
def mo_settled (W : Nat → Int32) : Bool := decide (W 2 = W 3) && decide (W (32 + mo_n (W 2)) = nI 1) && decide (0 ≤ W (22 + mo_n (W 2))) && decide (W 11 = 0) && decide (W 12 = 0) && mo_ha W 0 && mo_ha W 1
def mo_wr (W bo ba bi : Nat → Int32) (n : Nat) : Nat := mo_fst (fun k => !decide (W (127 + 100 * mo_n (bo k) + mo_n (ba k)) = bi k)) n
def an_told (W : Nat → Int32) (ρ : md_R) (j : Nat) : Int32 :=
  if j = 0 then W 0 else if j = 1 then W 11 else if j = 2 then W 12 else if j = 3 then W 13 else if j = 4 then W 2 else if j = 5 then W 3 else if j = 6 then W 4 else if j = 7 then W 5 else if j = 8 then W 1
  else if j = 9 then nI (mo_cnt (fun k => decide (W (47 + k) = nI 1)) 40) else if j = 10 then nI (mo_cnt (fun k => decide (W (87 + k) = nI 1)) 40) else if j = 11 then W 6 else if j = 12 then W 7 else if j = 13 then W 8 else if j = 14 then W 9 else if j = 15 then W 10
  else if j = 16 then mo_b (mo_settled W) else if j = 17 then ρ.2.2.2.2.2.2 else if j = 18 then mo_ix (mo_wr W ρ.2.2.2.1 ρ.2.2.2.2.1 ρ.2.2.2.2.2.1 (mo_n ρ.2.2.2.2.2.2)) (mo_n ρ.2.2.2.2.2.2) else ρ.2.1
def op_told (W : Nat → Int32) (ρ : md_R) (x : Int32) : Int32 := if mo_bl x 20 = true then an_told W ρ (mo_n x) else oO
def an_end (W : Nat → Int32) (e j : Nat) : Int32 :=
  if j = 0 then W (18 + e) else if j = 1 then nI (mo_cnt (fun k => decide (W (127 + 100 * e + k) = nI 1)) 100) else if j = 2 then nI (mo_row W e) else if j = 3 then W (20 + e) else if j = 4 then W (14 + e) else W (16 + e)
def op_end (W : Nat → Int32) (x y : Int32) : Int32 := if mo_bl x 2 = true then (if mo_bl y 6 = true then an_end W (mo_n x) (mo_n y) else oO) else oU
def mo_hf (W : Nat → Int32) (p : Nat) : Nat := mo_cnt (fun k => decide (W (471 + 3 * k) = nI p)) (mo_n (W 12))
def an_place (W : Nat → Int32) (p j : Nat) : Int32 :=
  if j = 0 then W (22 + p) else if j = 1 then W (27 + p) else if j = 2 then W (32 + p) else if j = 3 then W (37 + p) else if j = 4 then W (42 + p) else nI (mo_hf W p)
def op_place (W : Nat → Int32) (x y : Int32) : Int32 := if mo_bl x 5 = true then (if mo_bl y 6 = true then an_place W (mo_n x) (mo_n y) else oO) else oU
def op_letter (W : Nat → Int32) (x y : Int32) : Int32 := if mo_bl x (mo_n (W 11)) = true then (if mo_bl y 6 = true then W (327 + 6 * mo_n x + mo_n y) else oO) else oU
def op_asked (W : Nat → Int32) (x y : Int32) : Int32 := if mo_bl x (mo_n (W 13)) = true then (if mo_bl y 5 = true then W (507 + 5 * mo_n x + mo_n y) else oO) else oU
def op_held (W : Nat → Int32) (x y : Int32) : Int32 := if mo_bl x (mo_n (W 12)) = true then (if mo_bl y 3 = true then W (471 + 3 * mo_n x + mo_n y) else oO) else oU
def op_name (W : Nat → Int32) (x : Int32) : Int32 := if mo_bl x (mo_n (W 1)) = true then W (47 + mo_n x) + (if W (87 + mo_n x) = nI 1 then nI 2 else nI 0) else oU
def op_word (W : Nat → Int32) (x y : Int32) : Int32 := if mo_bl x 2 = true then (if mo_bl y (mo_n (W (19 - mo_n x))) = true then W (127 + 100 * mo_n x + mo_n y) else oU) else oU
/-- a draw: the seed's next, the number below n -/
def mo_seedR (sd : Int32) : Int32 := ((sd.toInt64 * 1103515245 + 12345) - (sd.toInt64 * 1103515245 + 12345) / 2147483648 * 2147483648).toInt32
def mo_drawR (sd n : Int32) : Int32 := mo_seedR sd / 65536 - mo_seedR sd / 65536 / n * n
/-- sealed: their big numbers are never to be reckoned with -/
noncomputable def mo_seed : Int32 → Int32 := Classical.choose (⟨mo_seedR, rfl⟩ : ∃ f, f = mo_seedR)
noncomputable def mo_draw : Int32 → Int32 → Int32 := Classical.choose (⟨mo_drawR, rfl⟩ : ∃ f, f = mo_drawR)
theorem mo_seed_e : mo_seed = mo_seedR := Classical.choose_spec (⟨mo_seedR, rfl⟩ : ∃ f, f = mo_seedR)
theorem mo_draw_e : mo_draw = mo_drawR := Classical.choose_spec (⟨mo_drawR, rfl⟩ : ∃ f, f = mo_drawR)
/-- one of the draws: the answer, the row, the seed -/
noncomputable def op_chance (W : Nat → Int32) (sd : Int32) : Int32 × (Nat → Int32) × Int32 :=
  let d := mo_draw sd (nI 10)
  let s1 := mo_seed sd
  if d < nI 5 then
    let x := if 0 < W 11 then mo_draw s1 (W 11) else -1
    let s2 := if 0 < W 11 then mo_seed s1 else s1
    if d < nI 4 then ((op_arrive W x).1, (op_arrive W x).2, s2) else ((op_lose W x).1, (op_lose W x).2, s2)
  else if d = nI 5 then ((op_next W 0).1, (op_next W 0).2, s1)
  else if d = nI 6 then ((op_next W 1).1, (op_next W 1).2, s1)
  else if d = nI 7 then (mo_tick W 13, mo_tick W, s1)
  else if d = nI 8 then
    let p := mo_draw s1 (nI 5)
    if 0 ≤ W (22 + mo_n p) then ((op_go W p).1, (op_go W p).2, mo_seed s1) else ((op_open W p).1, (op_open W p).2, mo_seed s1)
  else ((op_again W (mo_draw s1 (nI 2))).1, (op_again W (mo_draw s1 (nI 2))).2, mo_seed s1)
