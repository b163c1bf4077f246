section IVU
variable {W : Nat → Int32} {c : Nat}
/-- OPEN, SURE, PROVED of a place -/
theorem iv_open {p : Nat} {x : Int32} (h : iv c W) (hp : p < 5) (hx : x = -1 ∨ ∃ n, n < 40 ∧ x = nI n) : iv c (upd W (22 + p) x) := by
  obtain ⟨h1, h2, h3, h4, h5, h6, h7, h8, h9⟩ := h
  have o : ∀ j, j ≠ 22 + p → upd W (22 + p) x j = W j := fun j a => pk_un a
  refine ⟨h1.cg (fun j a b => o j (by omega)), h2.cg (fun j a b => o j (by omega)), h3.cg (o 11 (by omega)) (ml_n24 h1) (fun j a b => o j (by omega)), h4.cg (o 12 (by omega)) (ml_n12 h1) (fun j a b => o j (by omega)), h5.cg (o 13 (by omega)) (ml_n6 h1) (fun j a b => o j (by omega)), ?_, h7.cg (o 1 (by omega)) (fun j a b => o j (by omega)), h8.cg (fun j a => o j (by omega)), h9.cg h8 (fun j a => o j (by omega))⟩
  intro q hq
  obtain ⟨a, b, d⟩ := h6 q hq
  rw [o (27 + q) (by omega), o (32 + q) (by omega)]
  by_cases e : q = p
  · subst e; rw [pk_us]; exact ⟨hx, b, d⟩
  · rw [o (22 + q) (by omega)]; exact ⟨a, b, d⟩
theorem iv_sureU {p : Nat} {x : Int32} (h : iv c W) (hp : p < 5) (hx : x = nI 0 ∨ x = nI 1) : iv c (upd W (27 + p) x) := by
  obtain ⟨h1, h2, h3, h4, h5, h6, h7, h8, h9⟩ := h
  have o : ∀ j, j ≠ 27 + p → upd W (27 + p) x j = W j := fun j a => pk_un a
  refine ⟨h1.cg (fun j a b => o j (by omega)), h2.cg (fun j a b => o j (by omega)), h3.cg (o 11 (by omega)) (ml_n24 h1) (fun j a b => o j (by omega)), h4.cg (o 12 (by omega)) (ml_n12 h1) (fun j a b => o j (by omega)), h5.cg (o 13 (by omega)) (ml_n6 h1) (fun j a b => o j (by omega)), ?_, h7.cg (o 1 (by omega)) (fun j a b => o j (by omega)), h8.cg (fun j a => o j (by omega)), h9.cg h8 (fun j a => o j (by omega))⟩
  intro q hq
  obtain ⟨a, b, d⟩ := h6 q hq
  rw [o (22 + q) (by omega), o (32 + q) (by omega)]
  by_cases e : q = p
  · subst e; rw [pk_us]; exact ⟨a, hx, d⟩
  · rw [o (27 + q) (by omega)]; exact ⟨a, b, d⟩
theorem iv_proved {p : Nat} (h : iv c W) (hp : p < 5) : iv c (upd W (32 + p) (nI 1)) := by
  obtain ⟨h1, h2, h3, h4, h5, h6, h7, h8, h9⟩ := h
  have o : ∀ j, j ≠ 32 + p → upd W (32 + p) (nI 1) j = W j := fun j a => pk_un a
  refine ⟨h1.cg (fun j a b => o j (by omega)), h2.cg (fun j a b => o j (by omega)), h3.cg (o 11 (by omega)) (ml_n24 h1) (fun j a b => o j (by omega)), h4.cg (o 12 (by omega)) (ml_n12 h1) (fun j a b => o j (by omega)), h5.cg (o 13 (by omega)) (ml_n6 h1) (fun j a b => o j (by omega)), ?_, h7.cg (o 1 (by omega)) (fun j a b => o j (by omega)), h8.cg (fun j a => o j (by omega)), ?_⟩
  · intro q hq
    obtain ⟨a, b, d⟩ := h6 q hq
    rw [o (22 + q) (by omega), o (27 + q) (by omega)]
    by_cases e : q = p
    · subst e; rw [pk_us]; exact ⟨a, b, Or.inr rfl⟩
    · rw [o (32 + q) (by omega)]; exact ⟨a, b, d⟩
  · obtain ⟨a, b, d⟩ := h9
    unfold iv_b
    rw [o 4 (by omega), o 5 (by omega), o 3 (by omega)]
    refine ⟨a, b, ?_⟩
    by_cases e : 32 + mo_n (W 3) = 32 + p
    · rw [e, pk_us]; exact Or.inl rfl
    · rw [o _ e]; exact d
/-- WORDS, CONFIRMED, CURRENT, HAS of an end -/
theorem iv_wU {W' : Nat → Int32} {e : Nat} (h : iv c W) (he : e < 2) (o : ∀ j, j ≠ 18 + e → j ≠ 20 + e → ¬ (127 + 100 * e ≤ j ∧ j < 227 + 100 * e) → W' j = W j) (a : ∃ n, n ≤ 40 ∧ W' (18 + e) = nI n) (b : ∃ v, v ≤ 100 ∧ W' (20 + e) = nI v) (d : ∀ k, k < 100 → W' (127 + 100 * e + k) = nI 0 ∨ W' (127 + 100 * e + k) = nI 1) : iv c W' := by
  obtain ⟨h1, h2, h3, h4, h5, h6, h7, h8, h9⟩ := h
  refine ⟨h1.cg (fun j a b => o j (by omega) (by omega) (by omega)), h2.cg (fun j a b => o j (by omega) (by omega) (by omega)), h3.cg (o 11 (by omega) (by omega) (by omega)) (ml_n24 h1) (fun j a b => o j (by omega) (by omega) (by omega)), h4.cg (o 12 (by omega) (by omega) (by omega)) (ml_n12 h1) (fun j a b => o j (by omega) (by omega) (by omega)), h5.cg (o 13 (by omega) (by omega) (by omega)) (ml_n6 h1) (fun j a b => o j (by omega) (by omega) (by omega)), h6.cg (fun j a b => o j (by omega) (by omega) (by omega)), h7.cg (o 1 (by omega) (by omega) (by omega)) (fun j a b => o j (by omega) (by omega) (by omega)), ?_, h9.cg h8 (fun j a => o j (by omega) (by omega) (by omega))⟩
  intro q hq
  obtain ⟨q1, q2, q3, q4⟩ := h8 q hq
  rw [o (2 + q) (by omega) (by omega) (by omega)]
  by_cases hqe : q = e
  · subst hqe; exact ⟨a, b, q3, d⟩
  · rw [o (18 + q) (by omega) (by omega) (by omega), o (20 + q) (by omega) (by omega) (by omega)]
    refine ⟨q1, q2, q3, fun k hk => ?_⟩
    rw [o (127 + 100 * q + k) (by omega) (by omega) (by omega)]
    exact q4 k hk
theorem iv_has {e v : Nat} (h : iv c W) (he : e < 2) (hv : v < 100) : iv c (upd W (127 + 100 * e + v) (nI 1)) := by
  obtain ⟨q1, q2, q3, q4⟩ := h.2.2.2.2.2.2.2.1 e he
  refine iv_wU h he (fun j a b d => pk_un (by omega)) ?_ ?_ ?_
  · rw [pk_un (by omega)]; exact q1
  · rw [pk_un (by omega)]; exact q2
  · intro k hk
    by_cases hkv : k = v
    · subst hkv; rw [pk_us]; exact Or.inr rfl
    · rw [pk_un (by omega)]; exact q4 k hk
theorem iv_conf {e v : Nat} (h : iv c W) (he : e < 2) (hv : v ≤ 100) : iv c (upd W (20 + e) (nI v)) := by
  obtain ⟨q1, q2, q3, q4⟩ := h.2.2.2.2.2.2.2.1 e he
  refine iv_wU h he (fun j a b d => pk_un (by omega)) ?_ ?_ ?_
  · rw [pk_un (by omega)]; exact q1
  · exact ⟨v, hv, pk_us⟩
  · intro k hk
    rw [pk_un (by omega)]; exact q4 k hk
theorem iv_words {e n : Nat} (h : iv c W) (he : e < 2) (hn : n ≤ 40) : iv c (upd W (18 + e) (nI n)) := by
  obtain ⟨q1, q2, q3, q4⟩ := h.2.2.2.2.2.2.2.1 e he
  refine iv_wU h he (fun j a b d => pk_un (by omega)) ?_ ?_ ?_
  · exact ⟨n, hn, pk_us⟩
  · rw [pk_un (by omega)]; exact q2
  · intro k hk
    rw [pk_un (by omega)]; exact q4 k hk
theorem iv_confirm {e : Nat} {x : Int32} (h : iv c W) (he : e < 2) (hx : ∃ v, v ≤ 100 ∧ x = nI v) : iv c (mo_confirm W e x) := by
  unfold mo_confirm
  obtain ⟨v, hv, rfl⟩ := hx
  obtain ⟨-, ⟨u, hu, hw⟩, -⟩ := h.2.2.2.2.2.2.2.1 e he
  rw [hw]
  split
  · exact iv_conf h he hv
  · exact iv_conf h he hu
theorem iv_word {e v : Nat} (h : iv (c + 1) W) (he : e < 2) (hv : v < 100) : iv c (mo_word W e v) := iv_heard (iv_has h he hv) he
/-- CURRENT and FORMER of the guest; CURRENT and BACK of the house -/
theorem iv_cur {W' : Nat → Int32} (h : iv c W) (o : ∀ j, ¬ (2 ≤ j ∧ j < 6) → W' j = W j) (a : ∃ p, p < 5 ∧ W' 2 = nI p) (b : ∃ p, p < 5 ∧ W' 3 = nI p) (d : W' 4 = -1 ∨ ∃ p, p < 5 ∧ W' 4 = nI p) (f : W' 5 = -1 ∨ ∃ p, p < 5 ∧ W' 5 = nI p) (g : W (32 + mo_n (W' 3)) = nI 1 ∨ ∃ p, p < 5 ∧ W' 5 = nI p) : iv c W' := by
  obtain ⟨h1, h2, h3, h4, h5, h6, h7, h8, h9⟩ := h
  refine ⟨h1.cg (fun j a b => o j (by omega)), h2.cg (fun j a b => o j (by omega)), h3.cg (o 11 (by omega)) (ml_n24 h1) (fun j a b => o j (by omega)), h4.cg (o 12 (by omega)) (ml_n12 h1) (fun j a b => o j (by omega)), h5.cg (o 13 (by omega)) (ml_n6 h1) (fun j a b => o j (by omega)), h6.cg (fun j a b => o j (by omega)), h7.cg (o 1 (by omega)) (fun j a b => o j (by omega)), ?_, ⟨d, f, ?_⟩⟩
  · intro e he
    obtain ⟨q1, q2, q3, q4⟩ := h8 e he
    rw [o (18 + e) (by omega), o (20 + e) (by omega)]
    refine ⟨q1, q2, ?_, fun k hk => by rw [o _ (by omega)]; exact q4 k hk⟩
    rcases (show e = 0 ∨ e = 1 by omega) with rfl | rfl
    · exact a
    · exact b
  · rw [o (32 + mo_n (W' 3)) (by omega)]; exact g
theorem ml_c2 (h : iv c W) : ∃ p, p < 5 ∧ W 2 = nI p := (h.2.2.2.2.2.2.2.1 0 (by omega)).2.2.1
theorem ml_c3 (h : iv c W) : ∃ p, p < 5 ∧ W 3 = nI p := (h.2.2.2.2.2.2.2.1 1 (by omega)).2.2.1
theorem iv_follow {p : Nat} (h : iv (c + 1) W) (hp : p < 5) : iv c (mo_follow W p) := by
  unfold mo_follow
  split
  · exact h.less (by omega)
  · refine iv_once ?_ hp
    obtain ⟨q, hq, h3⟩ := ml_c3 h
    obtain ⟨b1, b2, b3⟩ := h.2.2.2.2.2.2.2.2
    have hb : (if W (32 + mo_n (W 3)) = nI 1 then W 3 else W 5) = -1 ∨ ∃ p, p < 5 ∧ (if W (32 + mo_n (W 3)) = nI 1 then W 3 else W 5) = nI p := by
      split
      · exact Or.inr ⟨q, hq, h3⟩
      · exact b2
    have hb2 : ∃ p, p < 5 ∧ (if W (32 + mo_n (W 3)) = nI 1 then W 3 else W 5) = nI p := by
      split
      · exact ⟨q, hq, h3⟩
      · next hn =>
        rcases b3 with z | z
        · exact absurd z hn
        · exact z
    refine iv_cur h (fun j a => by rw [pk_un (by omega), pk_un (by omega)]) ?_ ⟨p, hp, pk_us⟩ ?_ ?_ (Or.inr ?_)
    · rw [pk_un (by omega), pk_un (by omega)]; exact ml_c2 h
    · rw [pk_un (by omega), pk_un (by omega)]; exact b1
    · rw [pk_un (by omega), pk_us]; exact hb
    · rw [pk_un (by omega), pk_us]; exact hb2
theorem iv_goTo {p : Nat} (h : iv (c + 1) W) (hp : p < 5) : iv c (mo_goTo W p) := by
  unfold mo_goTo
  refine iv_heard ?_ (by omega)
  obtain ⟨q, hq, h2⟩ := ml_c2 h
  obtain ⟨b1, b2, b3⟩ := h.2.2.2.2.2.2.2.2
  refine iv_cur h (fun j a => by rw [pk_un (by omega), pk_un (by omega)]) ⟨p, hp, pk_us⟩ ?_ (Or.inr ⟨q, hq, ?_⟩) ?_ ?_
  · rw [pk_un (by omega), pk_un (by omega)]; exact ml_c3 h
  · rw [pk_un (by omega), pk_us]; exact h2
  · rw [pk_un (by omega), pk_un (by omega)]; exact b2
  · rw [pk_un (by omega), pk_un (by omega), pk_un (by omega), pk_un (by omega)]; exact b3
theorem iv_prove {x : Int32} (h : iv (c + 12) W) : iv c (mo_prove W x) := by
  unfold mo_prove
  split
  · next hf =>
    obtain ⟨e, p, t, -, hp, -, -, hpl, -⟩ := h.2.2.2.2.1 _ hf
    rw [hpl, ml_n (by omega)]
    exact iv_letOut (iv_proved (iv_rma h hf) hp) hp
  · exact h.less (by omega)
theorem iv_names {W' : Nat → Int32} (h : iv c W) (o : ∀ j, j ≠ 1 → ¬ (47 ≤ j ∧ j < 127) → W' j = W j) (hn : iv_n W') : iv c W' := by
  obtain ⟨h1, h2, h3, h4, h5, h6, h7, h8, h9⟩ := h
  exact ⟨h1.cg (fun j a b => o j (by omega) (by omega)), h2.cg (fun j a b => o j (by omega) (by omega)), h3.cg (o 11 (by omega) (by omega)) (ml_n24 h1) (fun j a b => o j (by omega) (by omega)), h4.cg (o 12 (by omega) (by omega)) (ml_n12 h1) (fun j a b => o j (by omega) (by omega)), h5.cg (o 13 (by omega) (by omega)) (ml_n6 h1) (fun j a b => o j (by omega) (by omega)), h6.cg (fun j a b => o j (by omega) (by omega)), hn, h8.cg (fun j a => o j (by omega) (by omega)), h9.cg h8 (fun j a => o j (by omega) (by omega))⟩
theorem ml_live {x : Int32} (h : iv c W) (hl : mo_live W x = true) : mo_n x < mo_n (W 1) ∧ x = nI (mo_n x) ∧ mo_n (W 1) ≤ 40 ∧ W 1 = nI (mo_n (W 1)) ∧ 2 ≤ mo_n (W 1) := by
  obtain ⟨g, g1, g2, g3, -⟩ := h.2.2.2.2.2.2.1
  simp only [mo_live, Bool.and_eq_true, decide_eq_true_eq] at hl
  have e1 : mo_n (W 1) = g := by rw [g3, ml_n (by omega)]
  obtain ⟨j, hj, rfl⟩ := nI_of (x := x) (Int32.not_lt.mpr hl.1.1)
  have e2 : mo_n (nI j) = j := nI_clamp hj
  have e3 := hl.1.2
  rw [g3, nI_ltI hj (by omega)] at e3
  rw [e1, e2]
  exact ⟨e3, rfl, g2, g3, g1⟩
theorem iv_retire {x own : Int32} (h : iv (c + 1) W) : iv c (mo_retire W x own) := by
  unfold mo_retire
  split
  · next hl =>
    obtain ⟨a1, a2, a3, a4, a5⟩ := ml_live h hl.1
    obtain ⟨g, g1, g2, g3, g4⟩ := h.2.2.2.2.2.2.1
    have e1 : mo_n (W 1) = g := by rw [g3, ml_n (by omega)]
    have hfirst : iv (c + 1) (upd W (47 + mo_n x) (nI 0)) := by
      refine iv_names h (fun j a b => pk_un (by omega)) ⟨g, g1, g2, by rw [pk_un (by omega)]; exact g3, fun n hn => ?_⟩
      obtain ⟨b1, b2, b3⟩ := g4 n hn
      rw [pk_un (show 87 + n ≠ 47 + mo_n x by omega)]
      by_cases hnx : n = mo_n x
      · subst hnx; rw [pk_us]; exact ⟨Or.inl rfl, fun _ => rfl, b3⟩
      · rw [pk_un (by omega)]; exact ⟨b1, b2, b3⟩
    split
    · next h40 =>
      have hg40 : g < 40 := by rw [g3, nI_ltI (by omega) (by omega)] at h40; exact h40
      have hcur := (ml_cur h.2.2.2.2.2.2.2.1 (e := 1) (by omega)).1
      refine iv_goes (c := c) (iv_names hfirst (fun j a b => by rw [pk_un a, pk_un (by omega)]) ⟨g + 1, by omega, by omega, by rw [pk_us, g3, nI_add], fun n hn => ?_⟩) (by omega) hcur (by omega) ⟨fun q => absurd q (by omega), fun _ _ => ⟨g, hg40, g3⟩, fun q => absurd q (by omega)⟩
      obtain ⟨b1, b2, b3⟩ := g4 n hn
      rw [e1, pk_un (show 47 + n ≠ 1 by omega), pk_un (show 87 + n ≠ 1 by omega), pk_un (show 87 + n ≠ 47 + g by omega), pk_un (show 87 + n ≠ 47 + mo_n x by omega)]
      by_cases hng : n = g
      · subst hng; rw [pk_us]; exact ⟨Or.inr rfl, fun q => absurd q (by omega), b3⟩
      · rw [pk_un (by omega)]
        by_cases hnx : n = mo_n x
        · subst hnx; rw [pk_us]; exact ⟨Or.inl rfl, fun _ => rfl, b3⟩
        · rw [pk_un (by omega)]; exact ⟨b1, fun q => b2 (by omega), b3⟩
    · exact hfirst.less (by omega)
  · exact h.less (by omega)
theorem iv_note {e y : Nat} (h : iv c W) (he : e < 2) : iv c (mo_note W e y) := h.free (fun j a => by unfold mo_note; rw [pk_un (by omega)])
theorem iv_got {p k y : Nat} (h : iv c W) (hp : p < 5) : iv c (mo_houseGot W p k y) := (iv_note (e := 1) (y := y) h (by omega)).free (fun j a => by unfold mo_houseGot; rw [pk_un (by omega)])
theorem iv_new {p k y : Nat} (h : iv (c + 1) W) (hp : p < 5) : iv c (mo_new W p k y) := by
  unfold mo_new
  split
  · exact iv_follow (h.free (fun j a => pk_un (by omega))) hp
  · exact h.less (by omega)
theorem iv_sure {x : Int32} (h : iv c W) : iv c (mo_sure W x) := by
  unfold mo_sure
  split
  · next hf =>
    obtain ⟨e, p, t, -, hp, -, -, hpl, -⟩ := h.2.2.2.2.1 _ hf
    rw [hpl, ml_n (by omega)]
    refine iv_rma (iv_sureU h hp (Or.inr rfl)) ?_
    rw [pk_un (by omega)]
    exact hf
  · exact h
theorem iv_spare {n : Nat} {x : Int32} (h : iv c W) (hn : n < 40) (hx : x = nI 0 ∨ x = nI 1 ∨ x = nI 2) : iv c (upd W (87 + n) x) := by
  obtain ⟨g, g1, g2, g3, g4⟩ := h.2.2.2.2.2.2.1
  refine iv_names h (fun j a b => pk_un (by omega)) ⟨g, g1, g2, by rw [pk_un (by omega)]; exact g3, fun q hq => ?_⟩
  obtain ⟨b1, b2, b3⟩ := g4 q hq
  rw [pk_un (show 47 + q ≠ 87 + n by omega)]
  by_cases hqn : q = n
  · subst hqn; rw [pk_us]; exact ⟨b1, b2, hx⟩
  · rw [pk_un (by omega)]; exact ⟨b1, b2, b3⟩
theorem iv_named {v : Nat} (h : iv c W) (hv : v < 40) : iv c (upd W (87 + v) (if W (87 + v) = 0 then nI 1 else W (87 + v))) := by
  refine iv_spare h hv ?_
  split
  · exact Or.inr (Or.inl rfl)
  · obtain ⟨g, g1, g2, g3, g4⟩ := h.2.2.2.2.2.2.1
    exact (g4 v hv).2.2
theorem ml_gb0 {p : Nat} {x : Int32} : mo_guestBy W p 0 x = mo_word W 0 (mo_n x) := by unfold mo_guestBy; rw [if_pos rfl]
theorem ml_gb1 {p : Nat} {x : Int32} : mo_guestBy W p 1 x = mo_goes W 0 p 2 x := by unfold mo_guestBy; rw [if_neg (by decide), if_pos rfl]
theorem ml_gb2 {p : Nat} {x : Int32} : mo_guestBy W p 2 x = mo_sure W x := by unfold mo_guestBy; rw [if_neg (by decide), if_neg (by decide), if_pos rfl]
theorem ml_gb3 {p : Nat} {x : Int32} : mo_guestBy W p 3 x = upd W (87 + mo_n x) (if W (87 + mo_n x) = 0 then nI 1 else W (87 + mo_n x)) := by unfold mo_guestBy; rw [if_neg (by decide), if_neg (by decide), if_neg (by decide), if_pos rfl]
theorem ml_gb4 {p : Nat} {x : Int32} : mo_guestBy W p 4 x = W := by unfold mo_guestBy; rw [if_neg (by decide), if_neg (by decide), if_neg (by decide), if_neg (by decide), if_neg (by decide)]
theorem ml_gb5 {p : Nat} {x : Int32} : mo_guestBy W p 5 x = mo_confirm W 0 x := by unfold mo_guestBy; rw [if_neg (by decide), if_neg (by decide), if_neg (by decide), if_neg (by decide), if_pos rfl]
theorem ml_hb0 {p : Nat} {name x : Int32} : mo_houseBy W p 0 name x = mo_word W 1 (mo_n x) := by unfold mo_houseBy; rw [if_pos rfl]
theorem ml_hb1 {p : Nat} {name x : Int32} : mo_houseBy W p 1 name x = mo_once (mo_goes W 1 p 2 x) p := by unfold mo_houseBy; rw [if_neg (by decide), if_pos rfl]
theorem ml_hb2 {p : Nat} {name x : Int32} : mo_houseBy W p 2 name x = mo_prove W x := by unfold mo_houseBy; rw [if_neg (by decide), if_neg (by decide), if_pos rfl]
theorem ml_hb3 {p : Nat} {name x : Int32} : mo_houseBy W p 3 name x = W := by unfold mo_houseBy; rw [if_neg (by decide), if_neg (by decide), if_neg (by decide), if_neg (by decide), if_neg (by decide)]
theorem ml_hb4 {p : Nat} {name x : Int32} : mo_houseBy W p 4 name x = mo_retire W x name := by unfold mo_houseBy; rw [if_neg (by decide), if_neg (by decide), if_neg (by decide), if_pos rfl]
theorem ml_hb5 {p : Nat} {name x : Int32} : mo_houseBy W p 5 name x = mo_confirm W 1 x := by unfold mo_houseBy; rw [if_neg (by decide), if_neg (by decide), if_neg (by decide), if_neg (by decide), if_pos rfl]
theorem iv_houseBy {p k : Nat} {name x : Int32} (h : iv (c + 12) W) (hp : p < 5) (hk : k < 6) (hv : iv_v 0 k x) : iv c (mo_houseBy W p k name x) := by
  rcases (show k = 0 ∨ k = 1 ∨ k = 2 ∨ k = 3 ∨ k = 4 ∨ k = 5 by omega) with rfl | rfl | rfl | rfl | rfl | rfl
  · obtain ⟨v, hv2, hx⟩ := hv.1 rfl
    have hm : mo_n x = v := by rw [hx, ml_n (by omega)]
    rw [ml_hb0, hm]
    exact iv_word (h.less (by omega)) (by omega) hv2
  · rw [ml_hb1]
    exact iv_once (iv_goes (c := c + 1) (h.less (by omega)) (by omega) hp (by omega) (iv_v1 _ _ _ (by omega) (by omega) (by omega))) hp
  · rw [ml_hb2]; exact iv_prove h
  · rw [ml_hb3]; exact h.less (by omega)
  · rw [ml_hb4]; exact iv_retire (h.less (by omega))
  · rw [ml_hb5]; exact iv_confirm (h.less (by omega)) (by omega) (hv.2.2 rfl)
theorem iv_house {p y k : Nat} {name x : Int32} (h : iv (c + 25) W) (hp : p < 5) (hk : k < 6) (hv : iv_v 0 k x) : iv c (mo_house W p name y k x) := by
  unfold mo_house
  split
  · exact iv_letOut (iv_houseBy (c := c + 12) (iv_new (c := c + 24) (iv_got h hp) hp) hp hk hv) hp
  · exact h.less (by omega)
theorem iv_gb0 {p : Nat} {x : Int32} (h : iv (c + 1) W) (hv : iv_v 1 0 x) : iv c (mo_guestBy W p 0 x) := by
  obtain ⟨v, hv2, hx⟩ := hv.1 rfl
  have hm : mo_n x = v := by rw [hx, ml_n (by omega)]
  rw [ml_gb0, hm]
  exact iv_word h (e := 0) (v := v) (by omega) hv2
theorem iv_gb3 {p : Nat} {x : Int32} (h : iv c W) (hv : iv_v 1 3 x) : iv c (mo_guestBy W p 3 x) := by
  obtain ⟨v, hv2, hx⟩ := hv.2.1 rfl rfl
  have hm : mo_n x = v := by rw [hx, ml_n (by omega)]
  rw [ml_gb3, hm]
  exact iv_named h hv2
theorem iv_guestBy {p k : Nat} {x : Int32} (h : iv (c + 1) W) (hp : p < 5) (hk : k < 6) (hv : iv_v 1 k x) : iv c (mo_guestBy W p k x) := by
  have h0 : iv c W := h.less (by omega)
  rcases (show k = 0 ∨ k = 1 ∨ k = 2 ∨ k = 3 ∨ k = 4 ∨ k = 5 by omega) with rfl | rfl | rfl | rfl | rfl | rfl
  · exact iv_gb0 h hv
  · rw [ml_gb1]; exact iv_goes h (by omega) hp (by omega) (iv_v1 _ _ _ (by omega) (by omega) (by omega))
  · rw [ml_gb2]; exact iv_sure h0
  · exact iv_gb3 h0 hv
  · rw [ml_gb4]; exact h0
  · rw [ml_gb5]; exact iv_confirm h0 (by omega) (hv.2.2 rfl)
theorem iv_guest {p y k : Nat} {x : Int32} (h : iv (c + 1) W) (hp : p < 5) (hk : k < 6) (hv : iv_v 1 k x) : iv c (mo_guest W p y k x) := by
  unfold mo_guest
  split
  · exact iv_guestBy (iv_note h (by omega)) hp hk hv
  · exact h.less (by omega)
theorem iv_close {p : Nat} (h : iv (c + 1) W) (hp : p < 5) : iv c (mo_close W p) := by
  unfold mo_close
  exact iv_send (iv_open h hp (Or.inl rfl)) (by omega) (ml_cur h.2.2.2.2.2.2.2.1 (e := 0) (by omega)).1 (by omega) (iv_v1 _ _ _ (by omega) (by omega) (by omega))
theorem iv_dh {p : Nat} : ∀ (n : Nat) (W : Nat → Int32), iv c W → iv c (mo_dh p n W)
  | 0, W, h => h
  | n + 1, W, h => by
    unfold mo_dh
    split
    · next hf => exact iv_dh n _ (iv_rmh h hf)
    · exact h
theorem ml_dh_out {p : Nat} : ∀ (n : Nat) (W : Nat → Int32) (j : Nat), iv_c W → (j < 471 ∨ 507 ≤ j) → j ≠ 12 → mo_dh p n W j = W j
  | 0, W, j, h, a, b => rfl
  | n + 1, W, j, h, a, b => by
    unfold mo_dh
    split
    · next hf =>
      have hn := ml_i12 h
      have hl := ml_n12 h
      have o : ∀ j, (j < 471 ∨ 507 ≤ j) → j ≠ 12 → mo_rm W 471 3 12 (mo_fh W p) j = W j := fun j a b => ml_rmh_out hn (by omega) hf (by omega) b
      rw [ml_dh_out n _ j ⟨by rw [o 11 (by omega) (by omega)]; exact h.1, ⟨_, by omega, ml_rmh_q hn (by omega)⟩, by rw [o 13 (by omega) (by omega)]; exact h.2.2⟩ a b, o j a b]
    · rfl
theorem iv_forget {p : Nat} (h : iv c W) (hp : p < 5) : iv c (mo_forget W p) := by
  unfold mo_forget
  split
  · exact h
  · next hpr =>
    have h0 : iv c (upd (upd W (37 + p) (nI 0)) (42 + p) (nI 0)) := h.free (fun j a => by rw [pk_un (by omega), pk_un (by omega)])
    have h1 : iv c (mo_drop (upd (upd W (37 + p) (nI 0)) (42 + p) (nI 0)) p) := iv_dh _ _ h0
    have o : ∀ j, (j < 37 ∨ 47 ≤ j) → (j < 471 ∨ 507 ≤ j) → j ≠ 12 → mo_drop (upd (upd W (37 + p) (nI 0)) (42 + p) (nI 0)) p j = W j := fun j a b d => by
      unfold mo_drop
      rw [ml_dh_out _ _ j h0.1 b d, pk_un (by omega), pk_un (by omega)]
    obtain ⟨q, hq, h3⟩ := ml_c3 h
    obtain ⟨b1, b2, b3⟩ := h.2.2.2.2.2.2.2.2
    refine iv_cur h1 (fun j a => pk_un (by omega)) ?_ ?_ ?_ ?_ ?_
    · rw [pk_un (by omega)]; exact ml_c2 h1
    · rw [pk_us]
      split
      · next he =>
        rcases b3 with z | z
        · rw [he, ml_n (by omega)] at z
          exact absurd z hpr
        · exact z
      · exact ⟨q, hq, h3⟩
    · rw [pk_un (by omega), o 4 (by omega) (by omega) (by omega)]; exact b1
    · rw [pk_un (by omega), o 5 (by omega) (by omega) (by omega)]; exact b2
    · rw [pk_us, pk_un (by omega), o 5 (by omega) (by omega) (by omega)]
      by_cases he : W 3 = nI p
      · right
        rcases b3 with z | z
        · rw [he, ml_n (by omega)] at z
          exact absurd z hpr
        · exact z
      · rw [if_neg he, h3, ml_n (by omega), o (32 + q) (by omega) (by omega) (by omega)]
        rw [h3, ml_n (by omega)] at b3
        exact b3
theorem iv_leave {p : Nat} (h : iv (c + 1) W) (hp : p < 5) : iv c (mo_leave W p) := by
  unfold mo_leave
  split
  · exact h.less (by omega)
  · exact iv_close h hp
theorem iv_back {p : Nat} (h : iv (c + 1) W) : iv c (mo_back W p) := by
  unfold mo_back
  split
  · next hh =>
    obtain ⟨b1, -, -⟩ := h.2.2.2.2.2.2.2.2
    rcases b1 with z | ⟨q, hq, z⟩
    · exact absurd hh.2.1 (by rw [z]; decide)
    · exact iv_goTo h (by rw [z, ml_n (by omega)]; exact hq)
  · exact h.less (by omega)
theorem iv_giveUp {p : Nat} (h : iv (c + 2) W) (hp : p < 5) : iv c (mo_giveUp W p) := by
  unfold mo_giveUp
  split
  · exact h.less (by omega)
  · exact iv_leave (iv_back (c := c + 1) h) hp
theorem iv_tries {k t : Nat} {z : Int32} (h : iv c W) (hk : k < mo_n (W 13)) (ht : t ≤ 2) : iv c (upd (upd W (507 + 5 * k + 4) (nI t)) (507 + 5 * k + 3) z) := by
  obtain ⟨h1, h2, h3, h4, h5, h6, h7, h8, h9⟩ := h
  have hl := ml_n6 h1
  have o : ∀ j, j ≠ 507 + 5 * k + 4 → j ≠ 507 + 5 * k + 3 → upd (upd W (507 + 5 * k + 4) (nI t)) (507 + 5 * k + 3) z j = W j := fun j a b => by rw [pk_un b, pk_un a]
  refine ⟨h1.cg (fun j a b => o j (by omega) (by omega)), h2.cg (fun j a b => o j (by omega) (by omega)), h3.cg (o 11 (by omega) (by omega)) (ml_n24 h1) (fun j a b => o j (by omega) (by omega)), h4.cg (o 12 (by omega) (by omega)) (ml_n12 h1) (fun j a b => o j (by omega) (by omega)), ?_, h6.cg (fun j a b => o j (by omega) (by omega)), h7.cg (o 1 (by omega) (by omega)) (fun j a b => o j (by omega) (by omega)), h8.cg (fun j a => o j (by omega) (by omega)), h9.cg h8 (fun j a => o j (by omega) (by omega))⟩
  intro i hi
  rw [o 13 (by omega) (by omega)] at hi
  obtain ⟨e, p, t0, a1, a2, a3, a4, a5, a6⟩ := h5 i hi
  rw [o (507 + 5 * i) (by omega) (by omega), o (507 + 5 * i + 2) (by omega) (by omega)]
  by_cases hik : i = k
  · subst hik
    refine ⟨e, p, t, a1, a2, ht, a4, a5, ?_⟩
    rw [pk_un (by omega), pk_us]
  · rw [o (507 + 5 * i + 4) (by omega) (by omega)]
    exact ⟨e, p, t0, a1, a2, a3, a4, a5, a6⟩
theorem iv_look {k : Nat} (h : iv (c + 2) W) (hk : k < mo_n (W 13)) : iv c (mo_look W k) := by
  obtain ⟨e, p, t, a1, a2, a3, a4, a5, a6⟩ := h.2.2.2.2.1 k hk
  unfold mo_look
  split
  · exact h.less (by omega)
  · split
    · next ht =>
      rw [a6, nI_ltI (by omega) (by omega)] at ht
      rw [a4, a5, a6, ml_n (by omega), ml_n (by omega), nI_add]
      exact (iv_goes (c := c + 1) (iv_tries h hk (by omega)) a1 a2 (by omega) (iv_v1 _ _ _ (by omega) (by omega) (by omega))).less (by omega)
    · rw [a5, ml_n (by omega)]
      split
      · exact (iv_forget (iv_rma h hk) a2).less (by omega)
      · exact iv_giveUp (iv_rma h hk) a2
theorem ml_lt_of {W : Nat → Int32} {k : Nat} : k < mo_n (W 13) → k < mo_n (W 13) := id
/-- a look leaves the row as long, or one shorter; those behind it stay -/
theorem ml_send_out {W : Nat → Int32} {e p k j : Nat} {v : Int32} (hc : iv_c W) (hp : p < 5) (a : j < 10 ∨ 11 < j) (b : j ≠ 14 + e) (d : ¬ (42 ≤ j ∧ j < 47)) (f : j < 327 ∨ 471 ≤ j) : mo_send W e p k v j = W j := by
  have hi := ml_i11 hc
  have hr := ml_n24 hc
  unfold mo_send
  by_cases hf : W 11 = nI 24
  · rw [if_pos hf, pk_un (by omega)]
    split
    · rw [pk_un (by omega), pk_un (by omega)]
    · rw [pk_un (by omega)]
  · rw [if_neg hf, pk_un (by omega), mo_put_out (by
      by_cases hq : mo_n (W 11) = 24
      · exact absurd (by rw [hi, hq]) hf
      · omega)]
    split
    · rw [pk_un (by omega), pk_un (by omega)]
    · rw [pk_un (by omega)]
theorem ml_hold_out {W : Nat → Int32} {p k j : Nat} {v : Int32} (hc : iv_c W) (a : j < 471 ∨ 507 ≤ j) (b : j ≠ 12) : mo_hold W p k v j = W j := by
  have hi := ml_i12 hc
  have hr := ml_n12 hc
  unfold mo_hold
  by_cases hf : W 12 = nI 12
  · have h12 : mo_n (W 12) = 12 := by rw [hf]; rfl
    have hq := ml_rmh_q (k := 0) hi (by omega)
    rw [h12] at hq
    rw [if_pos hf]
    rw [pk_un b, hq, ml_n (by omega), mo_put_out (by omega), ml_rmh_out hi (by omega) (by omega) (by omega) b]
  · have h12 : mo_n (W 12) < 12 := by
      by_cases hq : mo_n (W 12) = 12
      · exact absurd (by rw [hi, hq]) hf
      · omega
    rw [if_neg hf]
    rw [pk_un b, mo_put_out (by omega)]
theorem ml_goes_out {W : Nat → Int32} {e p k j : Nat} {v : Int32} (hc : iv_c W) (hp : p < 5) (a : j < 10 ∨ 12 < j) (b : j ≠ 14 + e) (d : ¬ (42 ≤ j ∧ j < 47)) (f : j < 327 ∨ 507 ≤ j) : mo_goes W e p k v j = W j := by
  unfold mo_goes
  split
  · exact ml_send_out hc hp (by omega) b d (by omega)
  · exact ml_hold_out hc (by omega) (by omega)
theorem ml_heard_out {W : Nat → Int32} {c e j : Nat} (h : iv c W) (he : e < 2) (a : j < 10 ∨ 12 < j) (b : j ≠ 14 + e) (d : ¬ (42 ≤ j ∧ j < 47)) (f : j < 327 ∨ 507 ≤ j) : mo_heard W e j = W j := ml_goes_out h.1 (ml_cur h.2.2.2.2.2.2.2.1 he).1 a b d f
theorem ml_look_n {W : Nat → Int32} {c k : Nat} (h : iv (c + 2) W) (hk : k < mo_n (W 13)) : mo_n (mo_look W k 13) = (if mo_stays W k = true then mo_n (W 13) else mo_n (W 13) - 1) := by
  obtain ⟨e, p, t, a1, a2, a3, a4, a5, a6⟩ := h.2.2.2.2.1 k hk
  have hn := ml_i13 h.1
  have hl := ml_n6 h.1
  have hrm := iv_rma h hk
  have hq := ml_rma_q (k := k) hn (by omega)
  unfold mo_look mo_stays
  by_cases h1 : W 0 - W (507 + 5 * k + 3) < nI 3
  · simp [h1]
  · by_cases h2 : W (507 + 5 * k + 4) < nI 2
    · rw [if_neg h1, if_pos h2, a4, a5, ml_n (by omega), ml_n (by omega), ml_goes_out (by
        have ht := h2
        rw [a6, nI_ltI (by omega) (by omega)] at ht
        rw [a6, nI_add]
        exact (iv_tries h hk (by omega)).1) a2 (by omega) (by omega) (by omega) (by omega), pk_un (by omega), pk_un (by omega)]
      simp [h2]
    · rw [if_neg h1, if_neg h2, a5, ml_n (by omega)]
      have hst : (decide (W 0 - W (507 + 5 * k + 3) < nI 3) || decide (W (507 + 5 * k + 4) < nI 2)) = false := by simp [h1, h2]
      rw [hst, if_neg (show ¬ (false = true) by decide)]
      split
      · -- forget
        have e1 : mo_forget (mo_rm W 507 5 13 k) p 13 = mo_rm W 507 5 13 k 13 := by
          unfold mo_forget
          split
          · rfl
          · dsimp only
            rw [pk_un (by omega)]
            unfold mo_drop
            rw [ml_dh_out _ _ 13 (hrm.free (fun j a => by rw [pk_un (by omega), pk_un (by omega)])).1 (by omega) (by omega), pk_un (by omega), pk_un (by omega)]
        rw [e1, hq, ml_n (by omega)]
      · have e1 : mo_giveUp (mo_rm W 507 5 13 k) p 13 = mo_rm W 507 5 13 k 13 := by
          unfold mo_giveUp
          split
          · rfl
          · have hb := iv_back (c := c + 1) (p := p) hrm
            have e2 : mo_back (mo_rm W 507 5 13 k) p 13 = mo_rm W 507 5 13 k 13 := by
              unfold mo_back
              split
              · next hh =>
                obtain ⟨b1, -, -⟩ := hrm.2.2.2.2.2.2.2.2
                rcases b1 with z | ⟨q, hq2, z⟩
                · exact absurd hh.2.1 (by rw [z]; decide)
                · unfold mo_goTo
                  have hcc := iv_cur hrm (W' := upd (upd (mo_rm W 507 5 13 k) 4 (mo_rm W 507 5 13 k 2)) 2 (nI (mo_n (mo_rm W 507 5 13 k 4)))) (fun j a => by rw [pk_un (by omega), pk_un (by omega)]) ⟨q, hq2, by rw [pk_us, z, ml_n (by omega)]⟩ (by rw [pk_un (by omega), pk_un (by omega)]; exact ml_c3 hrm) (by
                    obtain ⟨q3, hq3, z3⟩ := ml_c2 hrm
                    exact Or.inr ⟨q3, hq3, by rw [pk_un (by omega), pk_us, z3]⟩) (by rw [pk_un (by omega), pk_un (by omega)]; exact hrm.2.2.2.2.2.2.2.2.2.1) (by rw [pk_un (by omega), pk_un (by omega), pk_un (by omega), pk_un (by omega)]; exact hrm.2.2.2.2.2.2.2.2.2.2)
                  rw [ml_heard_out hcc (by omega) (by omega) (by omega) (by omega) (by omega), pk_un (by omega), pk_un (by omega)]
              · rfl
            unfold mo_leave
            split
            · exact e2
            · unfold mo_close
              rw [ml_send_out (iv_open hb a2 (Or.inl rfl)).1 (ml_cur hb.2.2.2.2.2.2.2.1 (e := 0) (by omega)).1 (by omega) (by omega) (by omega) (by omega), pk_un (by omega), e2]
        rw [e1, hq, ml_n (by omega)]
theorem iv_looks : ∀ (n c k : Nat) (W : Nat → Int32), iv (c + 2 * n) W → k + n ≤ mo_n (W 13) → iv c (mo_looks n k W)
  | 0, c, k, W, h, _ => h
  | n + 1, c, k, W, h, hk => by
    unfold mo_looks
    have h1 : iv (c + 2 * n) (mo_look W k) := iv_look (c := c + 2 * n) h (by omega)
    refine iv_looks n c _ _ h1 ?_
    rw [ml_look_n (c := c + 2 * n) h (by omega)]
    split <;> omega
theorem iv_tick {W : Nat → Int32} {c : Nat} (h : iv (c + 12) W) : iv c (mo_tick W) := by
  have hl := ml_n6 h.1
  unfold mo_tick
  refine iv_looks _ c 0 _ ((h.free (fun j a => pk_un (by omega))).less (by omega)) ?_
  rw [pk_un (by omega)]
  omega
end IVU
