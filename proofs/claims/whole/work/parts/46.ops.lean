/-! each call: the potentials, the invariant, the seed -/
def rop (W W' : Nat → Int32) : Prop := rl 6 1 W W' ∧ iv 0 W'
section RO
variable {W : Nat → Int32}
theorem iv_v0 (e n : Nat) (hn : n < 100) : iv_v e 0 (nI n) := ⟨fun _ => ⟨n, hn, rfl⟩, fun h => absurd h (by decide), fun h => absurd h (by decide)⟩
theorem rop_same (hv : iv 40 W) : rop W W := ⟨rl.rfl', hv.less (by omega)⟩
theorem rop_next {e : Nat} (hv : iv 40 W) (he : e < 2) : rop W (op_next W e).2 := by
  unfold op_next
  obtain ⟨⟨n, n1, n2⟩, -, ⟨p, p1, p2⟩, -⟩ := hv.2.2.2.2.2.2.2.1 e he
  split
  · exact rop_same hv
  · next h =>
    have hn : n < 40 := by rw [n2, nI_eq (by omega) (by omega)] at h; omega
    show rop W (mo_goes (upd W (18 + e) (W (18 + e) + nI 1)) e (mo_n (W (2 + e))) 0 (W (18 + e)))
    rw [n2, p2, ml_n (by omega), nI_add]
    have h1 : rl 0 0 W (upd W (18 + e) (nI (n + 1))) := rl_up hv (by omega)
    have i1 : iv 40 (upd W (18 + e) (nI (n + 1))) := iv_words hv he (by omega)
    exact ⟨(h1.trans (rl_goes i1 he p1)).mono (by omega) (by omega), (iv_goes (c := 39) i1 he p1 (by omega) (iv_v0 e n (by omega))).less (by omega)⟩
theorem rop_again {x : Int32} (hv : iv 40 W) : rop W (op_again W x).2 := by
  unfold op_again
  split
  · next hx =>
    obtain ⟨e, he, rfl⟩ := mo_bl_t hx (by omega)
    rw [ml_n (by omega)]
    obtain ⟨⟨n, n1, n2⟩, ⟨v, v1, v2⟩, ⟨p, p1, p2⟩, -⟩ := hv.2.2.2.2.2.2.2.1 e he
    split
    · next h =>
      show rop W (mo_goes W e (mo_n (W (2 + e))) 0 (W (20 + e)))
      have hn : v < n := by rw [n2, v2, nI_ltI (by omega) (by omega)] at h; exact h
      rw [v2, p2, ml_n (by omega)]
      exact ⟨(rl_goes hv he p1).mono (by omega) (by omega), (iv_goes (c := 39) hv he p1 (by omega) (iv_v0 e v (by omega))).less (by omega)⟩
    · exact rop_same hv
  · exact rop_same hv
theorem sp_less {q : Nat} (hq : q < 40) (h1 : W (87 + q) = nI 1) : sp (upd W (87 + q) (nI 2)) + 1 = sp W := by
  have key : ∀ n, q < n → mo_cnt (fun k => !decide (upd W (87 + q) (nI 2) (87 + k) = nI 2)) n + 1 = mo_cnt (fun k => !decide (W (87 + k) = nI 2)) n := by
    intro n
    induction n with
    | zero => intro h; exact absurd h (Nat.not_lt_zero q)
    | succ n ih =>
      intro h
      show mo_cnt _ n + (if (!decide (upd W (87 + q) (nI 2) (87 + n) = nI 2)) = true then 1 else 0) + 1 = mo_cnt _ n + (if (!decide (W (87 + n) = nI 2)) = true then 1 else 0)
      by_cases z : q = n
      · subst z
        rw [pk_us, h1, mo_cnt_cg (P := fun k => !decide (upd W (87 + q) (nI 2) (87 + k) = nI 2)) (Q := fun k => !decide (W (87 + k) = nI 2)) (fun k hk => by rw [pk_un (by omega)])]
        rw [if_neg (by decide), if_pos (by decide)]
      · rw [pk_un (by omega)]
        have := ih (by omega)
        omega
  exact key 40 hq
theorem rop_open {x : Int32} (hv : iv 40 W) : rop W (op_open W x).2 := by
  unfold op_open
  split
  · next hx =>
    obtain ⟨p, hp, rfl⟩ := mo_bl_t hx (by omega)
    rw [ml_n (by omega)]
    split
    · exact rop_same hv
    · next h =>
      have hl : mo_least W < 40 := Decidable.byContradiction (fun q => h (Or.inr q))
      have hl1 : W (87 + mo_least W) = nI 1 := of_decide_eq_true (ml_fst_yes _ _ hl)
      show rop W (mo_challenge (upd (upd (upd W (87 + mo_least W) (nI 2)) (22 + p) (nI (mo_least W))) (27 + p) (nI 0)) 0 p)
      obtain ⟨q, hq⟩ : ∃ q, q = mo_least W := ⟨_, rfl⟩
      rw [← hq] at hl hl1 ⊢
      have hn6 := ml_n6 hv.1
      have i0 : iv 40 (upd W (87 + q) (nI 2)) := iv_spare hv hl (Or.inr (Or.inr rfl))
      have iU : iv 40 (upd (upd (upd W (87 + q) (nI 2)) (22 + p) (nI q)) (27 + p) (nI 0)) := iv_sureU (iv_open i0 hp (Or.inr ⟨q, hl, rfl⟩)) hp (Or.inl rfl)
      have h1 : rl 0 0 (upd W (87 + q) (nI 2)) (upd (upd (upd W (87 + q) (nI 2)) (22 + p) (nI q)) (27 + p) (nI 0)) := rl_cg (ml_n6 i0.1) (fun j a => by rw [pk_un (by omega), pk_un (by omega)])
      have h2 := rl_challenge (c := 39) iU (e := 0) (by omega) hp
      have hs := sp_less hl hl1
      have e1 := ro_cg (W' := upd W (87 + q) (nI 2)) hn6 (pk_un (by omega)) (fun j a b => pk_un (by omega))
      have e2 := rg_cg (W' := upd W (87 + q) (nI 2)) hn6 (pk_un (by omega)) (fun j a b => pk_un (by omega))
      have f1 : PH (upd W (87 + q) (nI 2)) = PH W := by unfold PH; rw [e1, pk_un (by omega), pk_un (by omega)]
      have f2 : PG (upd W (87 + q) (nI 2)) + 5 = PG W := by unfold PG; rw [e2, pk_un (by omega)]; omega
      refine ⟨⟨?_, ?_, fun j hj => ?_⟩, (iv_challenge (c := 39) iU (by omega) hp).less (by omega)⟩
      · have := h1.1; have := h2.1; omega
      · have := h1.2.1; have := h2.2.1; omega
      · rw [h2.2.2 j hj, h1.2.2 j hj, pk_un (by omega)]
  · exact rop_same hv
theorem rop_go {x : Int32} (hv : iv 40 W) : rop W (op_go W x).2 := by
  unfold op_go
  split
  · next hx =>
    obtain ⟨p, hp, rfl⟩ := mo_bl_t hx (by omega)
    rw [ml_n (by omega)]
    split
    · exact rop_same hv
    · exact ⟨(rl_goTo hv hp).mono (by omega) (by omega), (iv_goTo (c := 39) hv hp).less (by omega)⟩
  · exact rop_same hv
theorem rop_close {x : Int32} (hv : iv 40 W) : rop W (op_close W x).2 := by
  unfold op_close
  split
  · next hx =>
    obtain ⟨p, hp, rfl⟩ := mo_bl_t hx (by omega)
    rw [ml_n (by omega)]
    split
    · exact rop_same hv
    · exact ⟨(rl_close hv hp).mono (by omega) (by omega), (iv_close (c := 39) hv hp).less (by omega)⟩
  · exact rop_same hv
theorem rop_arrive {x : Int32} (hv : iv 40 W) : rop W (op_arrive W x).2 := by
  have hr := ml_n24 hv.1
  unfold op_arrive
  split
  · next hx =>
    obtain ⟨k, hk, rfl⟩ := mo_bl_t hx (by omega)
    rw [ml_n (by omega)]
    have h := rl_arr (c := 15) hv hk
    exact ⟨h.1, h.2.less (by omega)⟩
  · exact rop_same hv
theorem rop_lose {x : Int32} (hv : iv 40 W) : rop W (op_lose W x).2 := by
  have hr := ml_n24 hv.1
  unfold op_lose
  split
  · next hx =>
    obtain ⟨k, hk, rfl⟩ := mo_bl_t hx (by omega)
    rw [ml_n (by omega)]
    have h := rl_lose hv hk
    exact ⟨h.1.mono (by omega) (by omega), h.2.less (by omega)⟩
  · exact rop_same hv
theorem rop_twice {x : Int32} (hv : iv 40 W) : rop W (op_twice W x).2 := by
  have hr := ml_n24 hv.1
  have hi := ml_i11 hv.1
  unfold op_twice
  split
  · next hx =>
    obtain ⟨k, hk, rfl⟩ := mo_bl_t hx (by omega)
    rw [ml_n (by omega)]
    split
    · exact rop_same hv
    · next h =>
      have h24 : mo_n (W 11) < 24 := by
        have : ¬ mo_n (W 11) = 24 := fun q => h (by rw [hi, q])
        omega
      show rop W (mo_twice W k)
      unfold mo_twice
      rw [show W 11 + nI 1 = nI (mo_n (W 11) + 1) by rw [← nI_add, ← hi]]
      obtain ⟨e, p, y, kd, b1, b2, b3, b4, b5, b6, b7, b8, b9⟩ := hv.2.2.1 k hk
      have h2 := rl_road (r := fun j => W (327 + 6 * k + j)) hv hi h24 ⟨e, p, y, kd, b1, b2, b3, b4, b5, b6, b7, b8, b9⟩
      exact ⟨h2.1.mono (by omega) (by omega), h2.2.less (by omega)⟩
  · exact rop_same hv
theorem rop_forge {a b d e f : Int32} (hv : iv 40 W) : rop W (op_forge W a b d e f).2 := by
  have hr := ml_n24 hv.1
  have hi := ml_i11 hv.1
  unfold op_forge
  split
  · next ha =>
    split
    · next hg =>
      split
      · exact rop_same hv
      · next h =>
        have h24 : mo_n (W 11) < 24 := by
          have : ¬ mo_n (W 11) = 24 := fun q => h (by rw [hi, q])
          omega
        show rop W (mo_forge W a b d e f)
        unfold mo_forge
        rw [show W 11 + nI 1 = nI (mo_n (W 11) + 1) by rw [← nI_add, ← hi]]
        obtain ⟨p, hp, rfl⟩ := mo_bl_t ha (by omega)
        unfold mo_good at hg
        rw [Bool.and_eq_true, Bool.and_eq_true, Bool.and_eq_true] at hg
        obtain ⟨y, hy, rfl⟩ := mo_bl_t hg.1.1.2 (by omega)
        obtain ⟨kd, hkd, rfl⟩ := mo_bl_t hg.1.2 (by omega)
        obtain ⟨v, hv2, rfl⟩ := mo_bl_t hg.2 (by omega)
        have h2 := rl_road (r := mo_r6 (nI 0) (nI p) b (nI y) (nI kd) (nI v)) hv hi h24 ⟨0, p, y, kd, by omega, hp, by omega, hkd, rfl, rfl, rfl, rfl, ⟨fun _ => ⟨v, hv2, rfl⟩, fun _ q => absurd q (by decide), fun _ => ⟨v, by omega, rfl⟩⟩⟩
        exact ⟨h2.1.mono (by omega) (by omega), h2.2.less (by omega)⟩
    · exact rop_same hv
  · exact rop_same hv
theorem rop_tick (hv : iv 40 W) : rop W (mo_tick W) := ⟨(rl_tick (c := 28) hv).mono (by omega) (by omega), (iv_tick (c := 28) hv).less (by omega)⟩
theorem rop_chance {sd : Int32} (hv : iv 40 W) (hs : 0 ≤ sd) : rop W (op_chance W sd).2.1 ∧ 0 ≤ (op_chance W sd).2.2 := by
  obtain ⟨⟨j, hj, hd⟩, hs1⟩ := ml_drawE (n := 10) hs (by omega) (by omega)
  have hr := ml_n24 hv.1
  have hi := ml_i11 hv.1
  have hs2 : ∀ n : Nat, 0 < n → n < 1000 → 0 ≤ mo_seed (mo_seed sd) := fun n h0 h1 => (ml_drawE (n := n) hs1 h0 (by omega)).2
  unfold op_chance
  dsimp only
  split
  · split
    · refine ⟨rop_arrive hv, ?_⟩
      dsimp only
      split
      · exact hs2 1 (by omega) (by omega)
      · exact hs1
    · refine ⟨rop_lose hv, ?_⟩
      dsimp only
      split
      · exact hs2 1 (by omega) (by omega)
      · exact hs1
  · split
    · exact ⟨rop_next hv (by omega), hs1⟩
    · split
      · exact ⟨rop_next hv (by omega), hs1⟩
      · split
        · exact ⟨rop_tick hv, hs1⟩
        · split
          · split
            · exact ⟨rop_go hv, hs2 1 (by omega) (by omega)⟩
            · exact ⟨rop_open hv, hs2 1 (by omega) (by omega)⟩
          · exact ⟨rop_again hv, hs2 1 (by omega) (by omega)⟩
/-- the numbers stay small -/
theorem iv.up {c : Nat} (hv : iv c W) (h1 : PH W ≤ 61440) (h2 : PG W ≤ 32000) : iv 40 W := by
  obtain ⟨v1, ⟨⟨x0, b0, q0⟩, ⟨x1, b1, q1⟩⟩, v3⟩ := hv
  unfold PH at h1
  unfold PG at h2
  rw [q1, ml_n (by omega)] at h1
  rw [q0, ml_n (by omega)] at h2
  exact ⟨v1, ⟨⟨x0, by omega, q0⟩, ⟨x1, by omega, q1⟩⟩, v3⟩
theorem rop_dr {sd : Int32} (hv : iv 40 W) (hs : 0 ≤ sd) (D : Nat) (h1 : PH W ≤ 6 * D) (h2 : PG W ≤ D + 200) : ∀ i, D + i ≤ 10240 → iv 40 (mo_dr i (W, sd)).1 ∧ 0 ≤ (mo_dr i (W, sd)).2 ∧ rl (6 * i) i W (mo_dr i (W, sd)).1
  | 0, _ => ⟨hv, hs, rl.rfl'⟩
  | i + 1, hi => by
    obtain ⟨a1, a2, a3⟩ := rop_dr hv hs D h1 h2 i (by omega)
    have b := rop_chance a1 a2
    rw [ml_driftS]
    have hrl := a3.trans b.1.1
    refine ⟨iv.up b.1.2 ?_ ?_, b.2, hrl.mono (by omega) (by omega)⟩
    · have := hrl.1; show PH (op_chance (mo_dr i (W, sd)).1 (mo_dr i (W, sd)).2).2.1 ≤ _; omega
    · have := hrl.2.1; show PG (op_chance (mo_dr i (W, sd)).1 (mo_dr i (W, sd)).2).2.1 ≤ _; omega
end RO
