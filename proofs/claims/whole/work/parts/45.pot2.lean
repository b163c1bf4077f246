section RM
variable {W : Nat → Int32} {c : Nat}
theorem rl_houseBy {p k : Nat} {name x : Int32} (hv : iv (c + 12) W) (hp : p < 5) (hk : k < 6) (hx : iv_v 0 k x) : rl (if k = 1 then 6 else if k = 0 ∨ k = 4 then 2 else 0) 0 W (mo_houseBy W p k name x) := by
  rcases (show k = 0 ∨ k = 1 ∨ k = 2 ∨ k = 3 ∨ k = 4 ∨ k = 5 by omega) with rfl | rfl | rfl | rfl | rfl | rfl
  · obtain ⟨v, hv2, hxx⟩ := hx.1 rfl
    rw [ml_hb0, hxx, ml_n (by omega)]
    exact (rl_word hv (e := 1) (by omega) hv2).mono (by decide) (by omega)
  · rw [ml_hb1]
    have h1 := rl_goes (k := 2) (v := x) hv (e := 1) (by omega) hp
    have hi : iv (c + 11) (mo_goes W 1 p 2 x) := iv_goes (c := c + 11) hv (by omega) hp (by omega) (iv_v1 _ _ _ (by omega) (by omega) (by omega))
    exact (h1.trans (rl_once (c := c + 10) hi hp)).mono (by decide) (by omega)
  · rw [ml_hb2]; exact (rl_prove hv).mono (by omega) (by omega)
  · rw [ml_hb3]; exact rl.rfl'
  · rw [ml_hb4]; exact (rl_retire (c := c + 11) hv).mono (by decide) (by omega)
  · rw [ml_hb5]; exact (rl_confirm hv (by omega)).mono (by omega) (by omega)
theorem rl_note {e y : Nat} (hv : iv c W) (he : e < 2) (hy : y < 32768) : rl 0 0 W (mo_note W e y) := rl_cg (ml_n6 hv.1) (fun j a => by unfold mo_note; exact pk_un (by omega))
theorem rl_house {p y k : Nat} {name x : Int32} (hv : iv (c + 25) W) (hp : p < 5) (hy : y < 32768) (hk : k < 6) (hx : iv_v 0 k x) : rl 6 0 W (mo_house W p name y k x) := by
  unfold mo_house
  split
  · unfold mo_houseTook
    have hn6 := ml_n6 hv.1
    have h1 : rl 0 0 W (mo_houseGot W p k y) := rl_cg hn6 (fun j a => by
      unfold mo_houseGot
      rw [pk_un (by omega)]
      unfold mo_note
      exact pk_un (by omega))
    have i1 : iv (c + 25) (mo_houseGot W p k y) := iv_got hv hp
    have h2 := rl_new (c := c + 24) (k := k) (y := y) i1 hp
    have i2 : iv (c + 24) (mo_new (mo_houseGot W p k y) p k y) := iv_new (c := c + 24) i1 hp
    have h3 := rl_houseBy (c := c + 12) (name := name) i2 hp hk hx
    have i3 := iv_houseBy (c := c + 12) (name := name) i2 hp hk hx
    have h4 := rl_letOut (c := c) i3 hp
    refine (((h1.trans h2).trans h3).trans h4).mono ?_ (by omega)
    rcases (show k = 0 ∨ k = 1 ∨ k = 2 ∨ k = 3 ∨ k = 4 ∨ k = 5 by omega) with rfl | rfl | rfl | rfl | rfl | rfl <;> decide
  · exact rl.rfl'
theorem rl_sure {x : Int32} (hv : iv c W) : rl 0 0 W (mo_sure W x) := by
  unfold mo_sure
  split
  · next hf =>
    obtain ⟨e, p, t, a1, a2, a3, a4, a5, a6⟩ := hv.2.2.2.2.1 _ hf
    rw [a5, ml_n (by omega)]
    have h1 : rl 0 0 W (upd W (27 + p) (nI 1)) := rl_up hv (by omega)
    have i1 : iv c (upd W (27 + p) (nI 1)) := iv_sureU hv a2 (Or.inr rfl)
    have hf2 : mo_fa W 0 1 x < mo_n (upd W (27 + p) (nI 1) 13) := by rw [pk_un (by omega)]; exact hf
    exact h1.trans (rl_rma' i1.1 hf2)
  · exact rl.rfl'
theorem rl_named {v : Nat} {x : Int32} (hv : iv c W) (hv2 : v < 40) (hx : x = nI 2 ↔ W (87 + v) = nI 2) : rl 0 0 W (upd W (87 + v) x) := by
  have hn6 := ml_n6 hv.1
  have e1 := ro_cg (W' := upd W (87 + v) x) hn6 (pk_un (by omega)) (fun j a b => pk_un (by omega))
  have e2 := rg_cg (W' := upd W (87 + v) x) hn6 (pk_un (by omega)) (fun j a b => pk_un (by omega))
  have e3 : sp (upd W (87 + v) x) = sp W := sp_cg (fun k hk => by
    by_cases q : k = v
    · subst q; rw [pk_us]; exact hx
    · rw [pk_un (by omega)])
  refine ⟨?_, ?_, fun j hj => pk_un (by omega)⟩
  · unfold PH; rw [e1, pk_un (by omega), pk_un (by omega)]; omega
  · unfold PG; rw [e2, e3, pk_un (by omega)]; omega
theorem rl_guestBy {p k : Nat} {x : Int32} (hv : iv c W) (hp : p < 5) (hk : k < 6) (hx : iv_v 1 k x) : rl 0 1 W (mo_guestBy W p k x) := by
  rcases (show k = 0 ∨ k = 1 ∨ k = 2 ∨ k = 3 ∨ k = 4 ∨ k = 5 by omega) with rfl | rfl | rfl | rfl | rfl | rfl
  · obtain ⟨v, hv2, hxx⟩ := hx.1 rfl
    rw [ml_gb0, hxx, ml_n (by omega)]
    exact (rl_word hv (e := 0) (by omega) hv2).mono (by omega) (by omega)
  · rw [ml_gb1]; exact (rl_goes hv (e := 0) (by omega) hp).mono (by omega) (by omega)
  · rw [ml_gb2]; exact (rl_sure hv).mono (by omega) (by omega)
  · obtain ⟨v, hv2, hxx⟩ := hx.2.1 rfl rfl
    rw [ml_gb3, hxx, ml_n (by omega)]
    refine (rl_named hv hv2 ?_).mono (by omega) (by omega)
    by_cases q : W (87 + v) = 0
    · rw [if_pos q, q]; decide
    · rw [if_neg q]
  · rw [ml_gb4]; exact rl.rfl'
  · rw [ml_gb5]; exact (rl_confirm hv (by omega)).mono (by omega) (by omega)
theorem rl_guest {p y k : Nat} {x : Int32} (hv : iv c W) (hp : p < 5) (hy : y < 32768) (hk : k < 6) (hx : iv_v 1 k x) : rl 0 1 W (mo_guest W p y k x) := by
  unfold mo_guest
  split
  · exact ((rl_note hv (by omega) hy).trans (rl_guestBy (iv_note hv (by omega)) hp hk hx)).mono (by omega) (by omega)
  · exact rl.rfl'
theorem rl_goTo {p : Nat} (hv : iv c W) (hp : p < 5) : rl 0 1 W (mo_goTo W p) := by
  unfold mo_goTo
  have h1 : rl 0 0 W (upd (upd W 4 (W 2)) 2 (nI p)) := rl_cg (ml_n6 hv.1) (fun j a => by rw [pk_un (by omega), pk_un (by omega)])
  exact (h1.trans (rl_heard (iv_goMid hv hp) (by omega))).mono (by omega) (by omega)
theorem rl_close {p : Nat} (hv : iv c W) (hp : p < 5) : rl 0 1 W (mo_close W p) := by
  unfold mo_close
  have h1 : rl 0 0 W (upd W (22 + p) (-1)) := rl_up hv (by omega)
  exact (h1.trans (rl_send (iv_open hv hp (Or.inl rfl)) (e := 0) (by omega) (ml_cur hv.2.2.2.2.2.2.2.1 (e := 0) (by omega)).1)).mono (by omega) (by omega)
theorem rl_forget {p : Nat} (hv : iv c W) (hp : p < 5) : rl 0 0 W (mo_forget W p) := by
  unfold mo_forget
  split
  · exact rl.rfl'
  · dsimp only
    have hn6 := ml_n6 hv.1
    have h1 : rl 0 0 W (upd (upd W (37 + p) (nI 0)) (42 + p) (nI 0)) := rl_cg hn6 (fun j a => by rw [pk_un (by omega), pk_un (by omega)])
    have i1 : iv c (upd (upd W (37 + p) (nI 0)) (42 + p) (nI 0)) := hv.free (fun j a => by rw [pk_un (by omega), pk_un (by omega)])
    have h2 : rl 0 0 (upd (upd W (37 + p) (nI 0)) (42 + p) (nI 0)) (mo_drop (upd (upd W (37 + p) (nI 0)) (42 + p) (nI 0)) p) := rl_dh _ _ i1.1
    have c2 : iv_c (mo_drop (upd (upd W (37 + p) (nI 0)) (42 + p) (nI 0)) p) := ivc_dh _ _ i1.1
    refine ((h1.trans h2).trans (rl_cg (ml_n6 c2) (fun j a => pk_un (by omega)))).mono (by omega) (by omega)
theorem rl_giveUp {p : Nat} (hv : iv (c + 1) W) (hp : p < 5) : rl 0 2 W (mo_giveUp W p) := by
  unfold mo_giveUp
  split
  · exact rl.rfl'
  · have h1 : rl 0 1 W (mo_back W p) := by
      unfold mo_back
      split
      · next h =>
        rcases hv.2.2.2.2.2.2.2.2.1 with q | ⟨f, hf, q⟩
        · rw [q] at h; exact absurd h.2.1 (by decide)
        · rw [q, ml_n (by omega)]; exact rl_goTo hv hf
      · exact rl.rfl'
    have i1 : iv c (mo_back W p) := iv_back hv
    have h2 : rl 0 1 (mo_back W p) (mo_leave (mo_back W p) p) := by
      unfold mo_leave
      split
      · exact rl.rfl'
      · exact rl_close i1 hp
    exact h1.trans h2
theorem rl_tries {k t : Nat} {z : Int32} (hv : iv c W) (hk : k < mo_n (W 13)) (ht : W (507 + 5 * k + 4) = nI t) (ht2 : t < 2) : PH (upd (upd W (507 + 5 * k + 4) (nI (t + 1))) (507 + 5 * k + 3) z) + 1 = PH W ∧ PG (upd (upd W (507 + 5 * k + 4) (nI (t + 1))) (507 + 5 * k + 3) z) + (if W (507 + 5 * k) = nI 0 then 1 else 0) = PG W := by
  have hn6 := ml_n6 hv.1
  obtain ⟨V, hV⟩ : ∃ V, V = upd (upd W (507 + 5 * k + 4) (nI (t + 1))) (507 + 5 * k + 3) z := ⟨_, rfl⟩
  rw [← hV]
  have ho : ∀ j, j ≠ 507 + 5 * k + 4 → j ≠ 507 + 5 * k + 3 → V j = W j := fun j a b => by rw [hV, pk_un b, pk_un a]
  have h4 : V (507 + 5 * k + 4) = nI (t + 1) := by rw [hV, pk_un (by omega), pk_us]
  have key : ∀ (f g : Nat → Nat) (n d : Nat), k < n → (∀ i, i < n → i ≠ k → g i = f i) → g k + d = f k → sm g n + d = sm f n := by
    intro f g n d
    induction n with
    | zero => intro h; exact absurd h (Nat.not_lt_zero k)
    | succ n ih =>
      intro h1 h2 h3
      show sm g n + g n + d = sm f n + f n
      by_cases q : k = n
      · subst q
        rw [sm_cg (f := g) (g := f) (fun i hi => h2 i (by omega) (by omega))]
        omega
      · have := ih (by omega) (fun i hi hne => h2 i (by omega) hne) h3
        have := h2 n (by omega) (fun z => q z.symm)
        omega
  have e1 : ro V + 1 = ro W := by
    unfold ro
    rw [ho 13 (by omega) (by omega)]
    refine key _ _ _ 1 hk (fun i hi hne => by rw [ho _ (by omega) (by omega)]) ?_
    rw [h4, ht, ml_n (by omega), ml_n (by omega)]
    omega
  have e2 : rg V + (if W (507 + 5 * k) = nI 0 then 1 else 0) = rg W := by
    unfold rg
    rw [ho 13 (by omega) (by omega)]
    refine key _ _ _ _ hk (fun i hi hne => by unfold rgf; rw [ho _ (by omega) (by omega), ho _ (by omega) (by omega)]) ?_
    unfold rgf
    rw [ho (507 + 5 * k) (by omega) (by omega), h4, ht, ml_n (by omega), ml_n (by omega)]
    split <;> omega
  have e3 : sp V = sp W := sp_cg (fun k hk => by rw [ho _ (by omega) (by omega)])
  constructor
  · unfold PH; rw [ho 15 (by omega) (by omega), ho 12 (by omega) (by omega)]; omega
  · unfold PG; rw [ho 14 (by omega) (by omega), e3]; omega
theorem rl_look {k : Nat} (hv : iv (c + 2) W) (hk : k < mo_n (W 13)) : rl 1 0 W (mo_look W k) := by
  obtain ⟨e, p, t, a1, a2, a3, a4, a5, a6⟩ := hv.2.2.2.2.1 k hk
  have hn6 := ml_n6 hv.1
  by_cases h1 : W 0 - W (507 + 5 * k + 3) < nI 3
  · rw [(ml_look_1 h1).2]; exact rl.rfl'
  · by_cases h2 : W (507 + 5 * k + 4) < nI 2
    · rw [(ml_look_2 h1 h2 a4 a5 a1 a2).2, a6, nI_add]
      have ht : t < 2 := by rw [a6, nI_ltI (by omega) (by omega)] at h2; exact h2
      have b1 := rl_tries (z := W 0) hv hk a6 ht
      have i1 : iv (c + 2) (upd (upd W (507 + 5 * k + 4) (nI (t + 1))) (507 + 5 * k + 3) (W 0)) := iv_tries hv hk (by omega)
      have b2 := rl_goes (k := 1) (v := W (507 + 5 * k + 1)) i1 a1 a2
      refine ⟨by have := b1.1; have := b2.1; omega, ?_, fun j hj => by rw [b2.2.2 j hj, pk_un (by omega), pk_un (by omega)]⟩
      have c1 := b1.2
      have c2 := b2.2.1
      rw [a4] at c1
      rcases (show e = 0 ∨ e = 1 by omega) with rfl | rfl
      · rw [if_pos rfl] at c1; omega
      · rw [if_neg (by decide)] at c1; omega
    · rw [(ml_look_3 h1 h2 a4 a5 a1 a2).2]
      have ht : t = 2 := by rw [a6, nI_ltI (by omega) (by omega)] at h2; omega
      have b1 := rl_rma hv.1 hk
      have i1 := iv_rma hv hk
      have hg : rgf W k = if e = 0 then 2 else 0 := by
        unfold rgf
        rw [a4, a6, ht]
        rcases (show e = 0 ∨ e = 1 by omega) with rfl | rfl
        · rw [if_pos rfl, if_pos rfl]; rfl
        · rw [if_neg (by decide), if_neg (by decide)]
      rcases (show e = 0 ∨ e = 1 by omega) with rfl | rfl
      · rw [if_neg (by decide)]
        rw [if_pos rfl] at hg
        have b2 := rl_giveUp (c := c + 1) i1 a2
        exact ⟨by have := b1.1; have := b2.1; omega, by have := b1.2.1; have := b2.2.1; omega, fun j hj => by rw [b2.2.2 j hj, b1.2.2 j hj]⟩
      · rw [if_pos rfl]
        have b2 := rl_forget i1 a2
        exact ⟨by have := b1.1; have := b2.1; omega, by have := b1.2.1; have := b2.2.1; omega, fun j hj => by rw [b2.2.2 j hj, b1.2.2 j hj]⟩
theorem rl_looks : ∀ (n c k : Nat) (W : Nat → Int32), iv (c + 2 * n) W → k + n ≤ mo_n (W 13) → rl n 0 W (mo_looks n k W)
  | 0, c, k, W, _, _ => rl.rfl'
  | n + 1, c, k, W, hv, hk => by
    have hv2 : iv (c + 2 * n + 2) W := hv
    have h1 := rl_look (c := c + 2 * n) (k := k) hv2 (by omega)
    have i1 := iv_look (c := c + 2 * n) (k := k) hv2 (by omega)
    have hn := ml_look_n (c := c + 2 * n) (k := k) hv2 (by omega)
    unfold mo_looks
    refine (h1.trans (rl_looks n c _ _ i1 ?_)).mono (by omega) (by omega)
    rw [hn]
    split <;> omega
theorem rl_tick (hv : iv (c + 12) W) : rl 6 0 W (mo_tick W) := by
  unfold mo_tick
  have hn6 := ml_n6 hv.1
  have h1 : rl 0 0 W (upd W 0 (W 0 + nI 1)) := rl_up hv (by omega)
  have i1 : iv (c + 12) (upd W 0 (W 0 + nI 1)) := hv.free (fun j a => pk_un (by omega))
  exact (h1.trans (rl_looks _ c 0 _ (i1.less (by omega)) (by rw [pk_un (by omega)]; omega))).mono (by omega) (by omega)
theorem rl_rmr {k : Nat} (hv : iv c W) (hk : k < mo_n (W 11)) : rl 0 0 W (mo_rm W 327 6 11 k) := rl_cg (ml_n6 hv.1) (fun j a => ml_rmr_out (ml_i11 hv.1) (ml_n24 hv.1) hk (by have := ml_n24 hv.1; omega) (by omega))
theorem rl_taken {k : Nat} (hv : iv (c + 25) W) (hk : k < mo_n (W 11)) : rl 6 1 W (mo_taken W k) ∧ iv c (mo_taken W k) := by
  obtain ⟨e, p, y, kd, he, hp, hy, hkd, hee, hpp, hyy, hkk, hvx⟩ := hv.2.2.1 k hk
  have h1 := rl_rmr hv hk
  have i1 := iv_rmr hv hk
  rcases (show e = 0 ∨ e = 1 by omega) with rfl | rfl
  · rw [ml_taken_h hee hpp hyy hkk hp hy hkd]
    exact ⟨(h1.trans (rl_house (c := c) i1 hp hy hkd hvx)).mono (by omega) (by omega), iv_house i1 hp hkd hvx⟩
  · rw [ml_taken_g hee hpp hyy hkk hp hy hkd]
    exact ⟨(h1.trans (rl_guest i1 hp hy hkd hvx)).mono (by omega) (by omega), (iv_guest (c := c + 24) i1 hp hkd hvx).less (by omega)⟩
theorem ml_why3 (k : Nat) : mo_why W k ≤ 3 := by
  unfold mo_why
  split
  · exact ml_hw3 _ _ _
  · exact ml_gw3 _ _ _
theorem rl_arr {k : Nat} (hv : iv (c + 25) W) (hk : k < mo_n (W 11)) : rl 6 1 W (mo_arr W k) ∧ iv c (mo_arr W k) := by
  have h := rl_taken hv hk
  have hw := ml_why3 (W := W) k
  unfold mo_arr
  split
  · exact h
  · next hn =>
    exact ⟨(h.1.trans (rl_up h.2 (by omega))).mono (by omega) (by omega), h.2.free (fun j a => pk_un (by omega))⟩
theorem rl_lose {k : Nat} (hv : iv c W) (hk : k < mo_n (W 11)) : rl 0 0 W (mo_lose W k) ∧ iv c (mo_lose W k) := by
  have i1 := iv_rmr hv hk
  exact ⟨(rl_rmr hv hk).trans (rl_up i1 (by omega)), i1.free (fun j a => pk_un (by omega))⟩
/-- a letter more on the road -/
theorem rl_road {n : Nat} {r : Nat → Int32} (hv : iv c W) (hn : W 11 = nI n) (hn2 : n < 24) (hr : ∃ e p y kd : Nat, e < 2 ∧ p < 5 ∧ y < 32768 ∧ kd < 6 ∧ r 0 = nI e ∧ r 1 = nI p ∧ r 3 = nI y ∧ r 4 = nI kd ∧ iv_v e kd (r 5)) : rl 0 0 W (upd (mo_put W (327 + 6 * n) 6 r) 11 (nI (n + 1))) ∧ iv c (upd (mo_put W (327 + 6 * n) 6 r) 11 (nI (n + 1))) := by
  obtain ⟨V, hV⟩ : ∃ V, V = upd (mo_put W (327 + 6 * n) 6 r) 11 (nI (n + 1)) := ⟨_, rfl⟩
  rw [← hV]
  have ho : ∀ j, j ≠ 11 → (j < 327 + 6 * n ∨ 327 + 6 * n + 6 ≤ j) → V j = W j := fun j a b => by rw [hV, pk_un a, mo_put_out b]
  have hin : ∀ j, j < 6 → V (327 + 6 * n + j) = r j := fun j hj => by rw [hV, pk_un (by omega), mo_put_in (by omega) (by omega), Nat.add_sub_cancel_left]
  have h11 : mo_n (V 11) = n + 1 := by rw [hV, pk_us, ml_n (by omega)]
  refine ⟨rl_cg (ml_n6 hv.1) (fun j a => ho j (by omega) (by omega)), ?_⟩
  obtain ⟨v1, v2, v3, v4, v5, v6, v7, v8, v9⟩ := hv
  refine ⟨⟨⟨n + 1, by omega, by rw [hV, pk_us]⟩, ?_, ?_⟩, v2.cg (fun j a b => ho j (by omega) (by omega)), ?_, v4.cg (ho 12 (by omega) (by omega)) (ml_n12 v1) (fun j a b => ho j (by omega) (by omega)), v5.cg (ho 13 (by omega) (by omega)) (ml_n6 v1) (fun j a b => ho j (by omega) (by omega)), v6.cg (fun j a b => ho j (by omega) (by omega)), v7.cg (ho 1 (by omega) (by omega)) (fun j a b => ho j (by omega) (by omega)), v8.cg (fun j a => ho j (by omega) (by omega)), v9.cg v8 (fun j a => ho j (by omega) (by omega))⟩
  · obtain ⟨m, m1, m2⟩ := v1.2.1; exact ⟨m, m1, by rw [ho 12 (by omega) (by omega)]; exact m2⟩
  · obtain ⟨m, m1, m2⟩ := v1.2.2; exact ⟨m, m1, by rw [ho 13 (by omega) (by omega)]; exact m2⟩
  · intro k hk
    rw [h11] at hk
    by_cases q : k = n
    · subst q
      obtain ⟨e, p, y, kd, b1, b2, b3, b4, b5, b6, b7, b8, b9⟩ := hr
      exact ⟨e, p, y, kd, b1, b2, b3, b4, (hin 0 (by omega)).trans b5, (hin 1 (by omega)).trans b6, (hin 3 (by omega)).trans b7, (hin 4 (by omega)).trans b8, by rw [hin 5 (by omega)]; exact b9⟩
    · obtain ⟨e, p, y, kd, b1, b2, b3, b4, b5, b6, b7, b8, b9⟩ := v3 k (by rw [hn, ml_n (by omega)]; omega)
      refine ⟨e, p, y, kd, b1, b2, b3, b4, ?_, ?_, ?_, ?_, ?_⟩
      · rw [ho _ (by omega) (by omega)]; exact b5
      · rw [ho _ (by omega) (by omega)]; exact b6
      · rw [ho _ (by omega) (by omega)]; exact b7
      · rw [ho _ (by omega) (by omega)]; exact b8
      · rw [ho _ (by omega) (by omega)]; exact b9
end RM
