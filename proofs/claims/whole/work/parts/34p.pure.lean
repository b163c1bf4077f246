/-- what the house does by the kind of a letter, without the doubt behind a challenge -/
def mo_act (W : Nat → Int32) (p k : Nat) (name x : Int32) : Nat → Int32 := if k = 1 then mo_goes W 1 p 2 x else mo_houseBy W p k name x
theorem ml_act1 {W : Nat → Int32} {p : Nat} {name x : Int32} : mo_act W p 1 name x = mo_goes W 1 p 2 x := if_pos rfl
theorem ml_actn {W : Nat → Int32} {p k : Nat} {name x : Int32} (h : k ≠ 1) : mo_act W p k name x = mo_houseBy W p k name x := if_neg h
theorem ml_wordC {W : Nat → Int32} {e v cu : Nat} (he : e < 2) (hv : v < 100) (hcu : W (2 + e) = nI cu) (hcu5 : cu < 5) : mo_word W e v = mo_goes (upd W (127 + 100 * e + v) (nI 1)) e cu 5 (nI (mo_row (upd W (127 + 100 * e + v) (nI 1)) e)) := by
  unfold mo_word mo_heard
  rw [pk_un (show 2 + e ≠ 127 + 100 * e + v by omega), hcu, ml_n (by omega)]
theorem ml_proveT {W : Nat → Int32} {x : Int32} {k pl : Nat} (hk : k = mo_fa W 1 1 x) (hf : k < mo_n (W 13)) (hp : W (507 + 5 * k + 2) = nI pl) (hpl : pl < 5) : mo_prove W x = mo_letOut (upd (mo_rm W 507 5 13 k) (32 + pl) (nI 1)) pl := by
  unfold mo_prove
  rw [← hk, if_pos hf, hp, ml_n (by omega)]
theorem ml_proveF {W : Nat → Int32} {x : Int32} (hf : ¬ mo_fa W 1 1 x < mo_n (W 13)) : mo_prove W x = W := by unfold mo_prove; rw [if_neg hf]
theorem ml_forgetC {W : Nat → Int32} {c p : Nat} (h : iv c W) (hp : p < 5) (hn : ¬ W (32 + p) = nI 1) {V : Nat → Int32} (hV : V = mo_drop (upd (upd W (37 + p) (nI 0)) (42 + p) (nI 0)) p) : V 3 = W 3 ∧ V 5 = W 5 := by
  have hc : iv_c (upd (upd W (37 + p) (nI 0)) (42 + p) (nI 0)) := (h.free (fun j a => by rw [pk_un (by omega), pk_un (by omega)])).1
  subst hV
  unfold mo_drop
  constructor <;> rw [ml_dh_out _ _ _ hc (by omega) (by omega), pk_un (by omega), pk_un (by omega)]
