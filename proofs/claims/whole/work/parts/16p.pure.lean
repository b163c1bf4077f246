theorem ml_retire_f {W : Nat → Int32} {x own : Int32} (h : ¬ (mo_live W x = true ∧ ¬ x = own)) : mo_retire W x own = W := by unfold mo_retire; rw [if_neg h]
theorem ml_retire_full {W : Nat → Int32} {j g : Nat} {own : Int32} (hl : mo_live W (nI j) = true) (hne : ¬ nI j = own) (hj : j < 40) (hg : W 1 = nI g) (h : ¬ W 1 < nI 40) : mo_retire W (nI j) own = upd W (47 + j) (nI 0) := by
  unfold mo_retire
  rw [if_pos ⟨hl, hne⟩, if_neg h, ml_n (by omega)]
theorem ml_retire_new {W : Nat → Int32} {j g cu : Nat} {own : Int32} (hl : mo_live W (nI j) = true) (hne : ¬ nI j = own) (hj : j < 40) (hg : W 1 = nI g) (hg2 : g ≤ 40) (hcu : W 3 = nI cu) (hcu5 : cu < 5) (h : W 1 < nI 40) : mo_retire W (nI j) own = mo_goes (upd (upd (upd W (47 + j) (nI 0)) (47 + g) (nI 1)) 1 (nI g + nI 1)) 1 cu 3 (nI g) := by
  unfold mo_retire
  rw [if_pos ⟨hl, hne⟩, if_pos h, ml_n (by omega), hg, ml_n (by omega), hcu, ml_n (by omega)]
theorem ml_house_1 {W : Nat → Int32} {p y k : Nat} {name x : Int32} (h : mo_live W name = false) : mo_houseWhy W name y = 1 ∧ mo_house W p name y k x = W := by
  have h1 : mo_houseWhy W name y = 1 := by unfold mo_houseWhy; rw [if_neg (by rw [h]; decide)]
  exact ⟨h1, by unfold mo_house; rw [h1, if_neg (by decide)]⟩
theorem ml_house_3 {W : Nat → Int32} {p y k : Nat} {name x : Int32} (h : mo_live W name = true) (h2 : mo_bit W 1 y = true) : mo_houseWhy W name y = 3 ∧ mo_house W p name y k x = W := by
  have h1 : mo_houseWhy W name y = 3 := by unfold mo_houseWhy; rw [if_pos h, if_pos h2]
  exact ⟨h1, by unfold mo_house; rw [h1, if_neg (by decide)]⟩
theorem ml_house_0 {W : Nat → Int32} {p y k : Nat} {name x : Int32} (h : mo_live W name = true) (h2 : mo_bit W 1 y = false) : mo_houseWhy W name y = 0 ∧ mo_house W p name y k x = mo_letOut (mo_houseBy (mo_new (mo_houseGot W p k y) p k y) p k name x) p := by
  have h1 : mo_houseWhy W name y = 0 := by unfold mo_houseWhy; rw [if_pos h, if_neg (by rw [h2]; decide)]
  exact ⟨h1, by unfold mo_house mo_houseTook; rw [if_pos h1]⟩
theorem ml_new_k {G : Nat → Int32} {p k y : Nat} (h : ¬ (k = 0 ∨ 3 < k)) : mo_new G p k y = G := by unfold mo_new; rw [if_neg (fun q => h q.1)]
theorem ml_new_n {G : Nat → Int32} {p k y : Nat} (h : nI y ≤ G 6) : mo_new G p k y = G := by unfold mo_new; rw [if_neg (fun q => Int32.not_lt.mpr h q.2)]
theorem ml_new_y {G : Nat → Int32} {p k y : Nat} (h : k = 0 ∨ 3 < k) (h2 : ¬ nI y ≤ G 6) : mo_new G p k y = mo_follow (upd G 6 (nI y)) p := by unfold mo_new; rw [if_pos ⟨h, Int32.not_le.mp h2⟩]
theorem ml_guest_2 {W : Nat → Int32} {p y k : Nat} {x : Int32} (h : W (22 + p) < 0) : mo_guestWhy W p y = 2 ∧ mo_guest W p y k x = W := by
  have h1 : mo_guestWhy W p y = 2 := by unfold mo_guestWhy; rw [if_pos h]
  exact ⟨h1, by unfold mo_guest; rw [h1, if_neg (by decide)]⟩
theorem ml_guest_3 {W : Nat → Int32} {p y k : Nat} {x : Int32} (h : ¬ W (22 + p) < 0) (h2 : mo_bit W 0 y = true) : mo_guestWhy W p y = 3 ∧ mo_guest W p y k x = W := by
  have h1 : mo_guestWhy W p y = 3 := by unfold mo_guestWhy; rw [if_neg h, if_pos h2]
  exact ⟨h1, by unfold mo_guest; rw [h1, if_neg (by decide)]⟩
theorem ml_guest_0 {W : Nat → Int32} {p y k : Nat} {x : Int32} (h : ¬ W (22 + p) < 0) (h2 : mo_bit W 0 y = false) : mo_guestWhy W p y = 0 ∧ mo_guest W p y k x = mo_guestBy (mo_note W 0 y) p k x := by
  have h1 : mo_guestWhy W p y = 0 := by unfold mo_guestWhy; rw [if_neg h, if_neg (by rw [h2]; decide)]
  exact ⟨h1, by unfold mo_guest; rw [if_pos h1]⟩
theorem ml_sure_t {W : Nat → Int32} {x : Int32} {k pl : Nat} (hk : k = mo_fa W 0 1 x) (hf : k < mo_n (W 13)) (hp : W (507 + 5 * k + 2) = nI pl) (hpl : pl < 5) : mo_sure W x = mo_rm (upd W (27 + pl) (nI 1)) 507 5 13 k := by
  unfold mo_sure
  rw [← hk, if_pos hf, hp, ml_n (by omega)]
theorem ml_sure_f {W : Nat → Int32} {x : Int32} (hf : ¬ mo_fa W 0 1 x < mo_n (W 13)) : mo_sure W x = W := by unfold mo_sure; rw [if_neg hf]
theorem iv_goMid {W : Nat → Int32} {c p : Nat} (h : iv c W) (hp : p < 5) : iv c (upd (upd W 4 (W 2)) 2 (nI p)) := by
  obtain ⟨q, hq, h2⟩ := ml_c2 h
  obtain ⟨b1, b2, b3⟩ := h.2.2.2.2.2.2.2.2
  refine iv_cur h (fun j a => by rw [pk_un (by omega), pk_un (by omega)]) ⟨p, hp, pk_us⟩ ?_ (Or.inr ⟨q, hq, ?_⟩) ?_ ?_
  · rw [pk_un (by omega), pk_un (by omega)]; exact ml_c3 h
  · rw [pk_un (by omega), pk_us]; exact h2
  · rw [pk_un (by omega), pk_un (by omega)]; exact b2
  · rw [pk_un (by omega), pk_un (by omega), pk_un (by omega), pk_un (by omega)]; exact b3
theorem ml_least_is {W : Nat → Int32} {t : Nat} (ht : t < 40) (hy : W (87 + t) = nI 1) (hno : ∀ j, j < t → ¬ W (87 + j) = nI 1) : mo_least W = t := ml_fst_is ht (by simp [hy]) (fun j hj => by simp [hno j hj])
theorem ml_least_none {W : Nat → Int32} (hno : ∀ j, j < 40 → ¬ W (87 + j) = nI 1) : mo_least W = 40 := ml_fst_none (fun j hj => by simp [hno j hj])
theorem ml_forget_t {W : Nat → Int32} {p : Nat} (h : W (32 + p) = nI 1) : mo_forget W p = W := by unfold mo_forget; rw [if_pos h]
theorem ml_forget_f {W V : Nat → Int32} {p : Nat} (h : ¬ W (32 + p) = nI 1) (hV : V = mo_drop (upd (upd W (37 + p) (nI 0)) (42 + p) (nI 0)) p) : mo_forget W p = upd V 3 (if W 3 = nI p then W 5 else W 3) := by unfold mo_forget; rw [if_neg h, ← hV]
theorem ml_giveUp_t {W : Nat → Int32} {p : Nat} (h : W (22 + p) < 0 ∨ W (27 + p) = nI 1) : mo_giveUp W p = W := by unfold mo_giveUp; rw [if_pos h]
theorem ml_giveUp_f {W : Nat → Int32} {p : Nat} (h : ¬ W (22 + p) < 0) (h2 : ¬ W (27 + p) = nI 1) : mo_giveUp W p = mo_leave (mo_back W p) p := by unfold mo_giveUp; rw [if_neg (by rintro (q | q); exact h q; exact h2 q)]
theorem ml_back_f {W : Nat → Int32} {p : Nat} (h : ¬ (W 2 = nI p ∧ 0 ≤ W 4 ∧ 0 ≤ W (22 + mo_n (W 4)))) : mo_back W p = W := by unfold mo_back; rw [if_neg h]
theorem ml_back_t {W : Nat → Int32} {p f : Nat} (h : W 2 = nI p) (h2 : W 4 = nI f) (hf : f < 5) (h3 : ¬ W (22 + f) < 0) : mo_back W p = mo_goTo W f := by
  unfold mo_back
  rw [h2, ml_n (by omega), if_pos ⟨h, nI_pos' (by omega), Int32.not_lt.mp h3⟩]
theorem ml_look_1 {W : Nat → Int32} {k : Nat} (h : W 0 - W (507 + 5 * k + 3) < nI 3) : mo_stays W k = true ∧ mo_look W k = W := by
  exact ⟨by simp [mo_stays, h], by unfold mo_look; rw [if_pos h]⟩
theorem ml_look_2 {W : Nat → Int32} {k e p : Nat} (h : ¬ W 0 - W (507 + 5 * k + 3) < nI 3) (h2 : W (507 + 5 * k + 4) < nI 2) (he : W (507 + 5 * k) = nI e) (hp : W (507 + 5 * k + 2) = nI p) (he2 : e < 2) (hp5 : p < 5) : mo_stays W k = true ∧ mo_look W k = mo_goes (upd (upd W (507 + 5 * k + 4) (W (507 + 5 * k + 4) + nI 1)) (507 + 5 * k + 3) (W 0)) e p 1 (W (507 + 5 * k + 1)) := by
  exact ⟨by simp [mo_stays, h2], by unfold mo_look; rw [if_neg h, if_pos h2, he, hp, ml_n (by omega), ml_n (by omega)]⟩
theorem ml_look_3 {W : Nat → Int32} {k e p : Nat} (h : ¬ W 0 - W (507 + 5 * k + 3) < nI 3) (h2 : ¬ W (507 + 5 * k + 4) < nI 2) (he : W (507 + 5 * k) = nI e) (hp : W (507 + 5 * k + 2) = nI p) (he2 : e < 2) (hp5 : p < 5) : mo_stays W k = false ∧ mo_look W k = (if nI e = nI 1 then mo_forget (mo_rm W 507 5 13 k) p else mo_giveUp (mo_rm W 507 5 13 k) p) := by
  exact ⟨by simp [mo_stays, h, h2], by unfold mo_look; rw [if_neg h, if_neg h2, he, hp, ml_n (by omega)]⟩
