/-! THE MODEL: what is so, as one row of numbers; what each happening makes of it -/
/-- n numbers are put from the place a on -/
def mo_put (W : Nat → Int32) (a n : Nat) (r : Nat → Int32) : Nat → Int32 := fun j => if a ≤ j ∧ j < a + n then r (j - a) else W j
theorem mo_put_in {W r : Nat → Int32} {a n j : Nat} (h : a ≤ j) (h2 : j < a + n) : mo_put W a n r j = r (j - a) := if_pos ⟨h, h2⟩
theorem mo_put_out {W r : Nat → Int32} {a n j : Nat} (h : j < a ∨ a + n ≤ j) : mo_put W a n r j = W j := if_neg (by omega)
def mo_r3 (a b c : Int32) : Nat → Int32 := fun j => match j with
  | 0 => a
  | 1 => b
  | _ => c
def mo_r5 (a b c d e : Int32) : Nat → Int32 := fun j => match j with
  | 0 => a
  | 1 => b
  | 2 => c
  | 3 => d
  | _ => e
def mo_r6 (a b c d e f : Int32) : Nat → Int32 := fun j => match j with
  | 0 => a
  | 1 => b
  | 2 => c
  | 3 => d
  | 4 => e
  | _ => f
/-- the place of the first one below n; n if there is none -/
def mo_fst (P : Nat → Bool) : Nat → Nat
  | 0 => 0
  | n + 1 => if mo_fst P n < n then mo_fst P n else if P n then n else n + 1
def mo_cnt (P : Nat → Bool) : Nat → Nat
  | 0 => 0
  | n + 1 => mo_cnt P n + if P n then 1 else 0
abbrev mo_n (x : Int32) : Nat := x.toNatClampNeg
/-- the k-th of a row of things of so many numbers goes; how many there are is told at cnt -/
def mo_rm (W : Nat → Int32) (frm size cnt k : Nat) : Nat → Int32 := upd (va_cpy W W (frm + size * (k + 1)) (frm + size * k) (size * (mo_n (W cnt) - 1 - k))) cnt (W cnt - nI 1)
def mo_send (W : Nat → Int32) (e p k : Nat) (v : Int32) : Nat → Int32 :=
  let W1 := upd W (14 + e) (W (14 + e) + nI 1)
  let W2 := if e = 1 then upd W1 (42 + p) (W1 (42 + p) + mw_sz k) else W1
  if W 11 = nI 24 then upd W2 10 (W 10 + nI 1)
  else upd (mo_put W2 (327 + 6 * mo_n (W 11)) 6 (mo_r6 (nI e) (nI p) (if e = 0 then W (22 + p) else -1) (W (14 + e)) (nI k) v)) 11 (W 11 + nI 1)
def mo_may (W : Nat → Int32) (p k : Nat) : Bool := decide (W (32 + p) = nI 1) || decide (W (42 + p) + mw_sz k ≤ nI 3 * W (37 + p))
def mo_hold (W : Nat → Int32) (p k : Nat) (v : Int32) : Nat → Int32 :=
  let W1 := if W 12 = nI 12 then mo_rm W 471 3 12 0 else W
  upd (mo_put W1 (471 + 3 * mo_n (W1 12)) 3 (mo_r3 (nI p) (nI k) v)) 12 (W1 12 + nI 1)
def mo_goes (W : Nat → Int32) (e p k : Nat) (v : Int32) : Nat → Int32 := if e = 0 ∨ mo_may W p k = true then mo_send W e p k v else mo_hold W p k v
/-- the first held one of a place -/
def mo_fh (W : Nat → Int32) (p : Nat) : Nat := mo_fst (fun k => decide (W (471 + 3 * k) = nI p)) (mo_n (W 12))
def mo_lo (p : Nat) : Nat → (Nat → Int32) → (Nat → Int32)
  | 0, W => W
  | n + 1, W => if mo_fh W p < mo_n (W 12) then
      (if mo_may W p (mo_n (W (471 + 3 * mo_fh W p + 1))) = true then mo_lo p n (mo_send (mo_rm W 471 3 12 (mo_fh W p)) 1 p (mo_n (W (471 + 3 * mo_fh W p + 1))) (W (471 + 3 * mo_fh W p + 2))) else W)
      else W
def mo_letOut (W : Nat → Int32) (p : Nat) : Nat → Int32 := mo_lo p (mo_n (W 12)) W
def mo_ask (W : Nat → Int32) (e p : Nat) : Nat → Int32 :=
  let W1 := if W 13 = nI 6 then mo_rm W 507 5 13 0 else W
  upd (mo_put (upd W1 (16 + e) (W (16 + e) + nI 1)) (507 + 5 * mo_n (W1 13)) 5 (mo_r5 (nI e) (W (16 + e)) (nI p) (W 0) (nI 0))) 13 (W1 13 + nI 1)
def mo_challenge (W : Nat → Int32) (e p : Nat) : Nat → Int32 := mo_goes (mo_ask W e p) e p 1 (W (16 + e))
/-- the first challenge of an end with a number in a column -/
def mo_fa (W : Nat → Int32) (e what : Nat) (v : Int32) : Nat := mo_fst (fun k => decide (W (507 + 5 * k) = nI e) && decide (W (507 + 5 * k + what) = v)) (mo_n (W 13))
def mo_once (W : Nat → Int32) (p : Nat) : Nat → Int32 := if W (32 + p) = 0 ∧ ¬ mo_fa W 1 2 (nI p) < mo_n (W 13) then mo_challenge W 1 p else W
/-- whether an end took a number -/
def mo_bit (W : Nat → Int32) (e y : Nat) : Bool := (W (537 + 1300 * e + y / 32)).toBitVec.getLsbD (y % 32)
def mo_note (W : Nat → Int32) (e y : Nat) : Nat → Int32 := upd W (537 + 1300 * e + y / 32) (W (537 + 1300 * e + y / 32) ||| nI 1 <<< (nI (y % 32) &&& 31))
def mo_row (W : Nat → Int32) (e : Nat) : Nat := mo_fst (fun k => !decide (W (127 + 100 * e + k) = nI 1)) 100
def mo_heard (W : Nat → Int32) (e : Nat) : Nat → Int32 := mo_goes W e (mo_n (W (2 + e))) 5 (nI (mo_row W e))
def mo_word (W : Nat → Int32) (e v : Nat) : Nat → Int32 := mo_heard (upd W (127 + 100 * e + v) (nI 1)) e
def mo_confirm (W : Nat → Int32) (e : Nat) (x : Int32) : Nat → Int32 := upd W (20 + e) (if W (20 + e) < x then x else W (20 + e))
def mo_follow (W : Nat → Int32) (p : Nat) : Nat → Int32 :=
  if W 3 = nI p then W else mo_once (upd (upd W 5 (if W (32 + mo_n (W 3)) = nI 1 then W 3 else W 5)) 3 (nI p)) p
def mo_prove (W : Nat → Int32) (x : Int32) : Nat → Int32 :=
  if mo_fa W 1 1 x < mo_n (W 13) then mo_letOut (upd (mo_rm W 507 5 13 (mo_fa W 1 1 x)) (32 + mo_n (W (507 + 5 * mo_fa W 1 1 x + 2))) (nI 1)) (mo_n (W (507 + 5 * mo_fa W 1 1 x + 2))) else W
def mo_live (W : Nat → Int32) (x : Int32) : Bool := decide (0 ≤ x) && decide (x < W 1) && decide (W (47 + mo_n x) = nI 1)
def mo_retire (W : Nat → Int32) (x own : Int32) : Nat → Int32 :=
  if mo_live W x = true ∧ ¬ x = own then
    (if W 1 < nI 40 then mo_goes (upd (upd (upd W (47 + mo_n x) (nI 0)) (47 + mo_n (W 1)) (nI 1)) 1 (W 1 + nI 1)) 1 (mo_n (W 3)) 3 (W 1) else upd W (47 + mo_n x) (nI 0))
  else W
/-- what the house does by the kind of a letter -/
def mo_houseBy (W : Nat → Int32) (p k : Nat) (name x : Int32) : Nat → Int32 :=
  if k = 0 then mo_word W 1 (mo_n x) else if k = 1 then mo_once (mo_goes W 1 p 2 x) p else if k = 2 then mo_prove W x else if k = 4 then mo_retire W x name else if k = 5 then mo_confirm W 1 x else W
def mo_new (W : Nat → Int32) (p k y : Nat) : Nat → Int32 := if (k = 0 ∨ 3 < k) ∧ W 6 < nI y then mo_follow (upd W 6 (nI y)) p else W
def mo_houseGot (W : Nat → Int32) (p k y : Nat) : Nat → Int32 := upd (mo_note W 1 y) (37 + p) (W (37 + p) + mw_sz k)
def mo_houseTook (W : Nat → Int32) (p k y : Nat) (name x : Int32) : Nat → Int32 := mo_letOut (mo_houseBy (mo_new (mo_houseGot W p k y) p k y) p k name x) p
/-- by what it is dropped -/
def mo_houseWhy (W : Nat → Int32) (name : Int32) (y : Nat) : Nat := if mo_live W name = true then (if mo_bit W 1 y = true then 3 else 0) else 1
def mo_house (W : Nat → Int32) (p : Nat) (name : Int32) (y k : Nat) (x : Int32) : Nat → Int32 := if mo_houseWhy W name y = 0 then mo_houseTook W p k y name x else W
def mo_sure (W : Nat → Int32) (x : Int32) : Nat → Int32 :=
  if mo_fa W 0 1 x < mo_n (W 13) then mo_rm (upd W (27 + mo_n (W (507 + 5 * mo_fa W 0 1 x + 2))) (nI 1)) 507 5 13 (mo_fa W 0 1 x) else W
def mo_guestBy (W : Nat → Int32) (p k : Nat) (x : Int32) : Nat → Int32 :=
  if k = 0 then mo_word W 0 (mo_n x) else if k = 1 then mo_goes W 0 p 2 x else if k = 2 then mo_sure W x else if k = 3 then upd W (87 + mo_n x) (if W (87 + mo_n x) = 0 then nI 1 else W (87 + mo_n x)) else if k = 5 then mo_confirm W 0 x else W
def mo_guestWhy (W : Nat → Int32) (p y : Nat) : Nat := if W (22 + p) < 0 then 2 else if mo_bit W 0 y = true then 3 else 0
def mo_guest (W : Nat → Int32) (p y k : Nat) (x : Int32) : Nat → Int32 := if mo_guestWhy W p y = 0 then mo_guestBy (mo_note W 0 y) p k x else W
def mo_goTo (W : Nat → Int32) (p : Nat) : Nat → Int32 := mo_heard (upd (upd W 4 (W 2)) 2 (nI p)) 0
def mo_close (W : Nat → Int32) (p : Nat) : Nat → Int32 := mo_send (upd W (22 + p) (-1)) 0 (mo_n (W 2)) 4 (W (22 + p))
def mo_least (W : Nat → Int32) : Nat := mo_fst (fun n => decide (W (87 + n) = nI 1)) 40
/-- held ones of a place go for good -/
def mo_dh (p : Nat) : Nat → (Nat → Int32) → (Nat → Int32)
  | 0, W => W
  | n + 1, W => if mo_fh W p < mo_n (W 12) then mo_dh p n (mo_rm W 471 3 12 (mo_fh W p)) else W
def mo_drop (W : Nat → Int32) (p : Nat) : Nat → Int32 := mo_dh p (mo_n (W 12)) W
def mo_forget (W : Nat → Int32) (p : Nat) : Nat → Int32 :=
  if W (32 + p) = nI 1 then W else
    let W1 := mo_drop (upd (upd W (37 + p) (nI 0)) (42 + p) (nI 0)) p
    upd W1 3 (if W 3 = nI p then W 5 else W 3)
def mo_leave (W : Nat → Int32) (p : Nat) : Nat → Int32 := if W 2 = nI p then W else mo_close W p
def mo_back (W : Nat → Int32) (p : Nat) : Nat → Int32 := if W 2 = nI p ∧ 0 ≤ W 4 ∧ 0 ≤ W (22 + mo_n (W 4)) then mo_goTo W (mo_n (W 4)) else W
def mo_giveUp (W : Nat → Int32) (p : Nat) : Nat → Int32 := if W (22 + p) < 0 ∨ W (27 + p) = nI 1 then W else mo_leave (mo_back W p) p
/-- a challenge is looked at: what is so then, and whether it is still in the row -/
def mo_stays (W : Nat → Int32) (k : Nat) : Bool := decide (W 0 - W (507 + 5 * k + 3) < nI 3) || decide (W (507 + 5 * k + 4) < nI 2)
def mo_look (W : Nat → Int32) (k : Nat) : Nat → Int32 :=
  if W 0 - W (507 + 5 * k + 3) < nI 3 then W
  else if W (507 + 5 * k + 4) < nI 2 then mo_goes (upd (upd W (507 + 5 * k + 4) (W (507 + 5 * k + 4) + nI 1)) (507 + 5 * k + 3) (W 0)) (mo_n (W (507 + 5 * k))) (mo_n (W (507 + 5 * k + 2))) 1 (W (507 + 5 * k + 1))
  else if W (507 + 5 * k) = nI 1 then mo_forget (mo_rm W 507 5 13 k) (mo_n (W (507 + 5 * k + 2))) else mo_giveUp (mo_rm W 507 5 13 k) (mo_n (W (507 + 5 * k + 2)))
def mo_looks : Nat → Nat → (Nat → Int32) → (Nat → Int32)
  | 0, _, W => W
  | n + 1, k, W => mo_looks n (if mo_stays W k = true then k + 1 else k) (mo_look W k)
def mo_tick (W : Nat → Int32) : Nat → Int32 := mo_looks (mo_n (W 13)) 0 (upd W 0 (W 0 + nI 1))
