/-! MovedWays at x: its Ways at x + 1, its book at x + 27, its images at x + 29 -/
def mx_I (Γ : mw_C) (x : Nat) (W : Nat → Int32) (ρ : md_R) (H : Heap) : Prop :=
  mw_ob Γ x 4 [.ref (x + 1), .ref (x + 27), .ref (x + 29)] H ∧ ws_I Γ (x + 1) W ρ.2.1 H ∧ mo_n ρ.2.2.2.2.2.2 ≤ 20 ∧ tc Γ (x + 27) 20 3 (mo_n ρ.2.2.2.2.2.2) (fun k j => mo_r3 (ρ.2.2.2.1 k) (ρ.2.2.2.2.1 k) (ρ.2.2.2.2.2.1 k) j) H
def mx_A (x : Nat) : Nat → Prop := fun q => x ≤ q ∧ q < x + 29
theorem mx_As {Γ : mw_C} {x : Nat} (h : Γ.2.2.2 ≤ x) : ∀ q, mx_A x q → Γ.2.2.2 ≤ q := fun _ hq => Nat.le_trans h hq.1
theorem mx_sub {x q : Nat} (h : ws_A (x + 1) q) : mx_A x q := by unfold ws_A at h; unfold mx_A; omega
theorem mx_subB {x q : Nat} (h : tb_A (x + 27) q) : mx_A x q := by unfold tb_A at h; unfold mx_A; omega
theorem ws_I.kpA {Γ : mw_C} {b : Nat} {W : Nat → Int32} {sd : Int32} {H H1 : Heap} (h : ws_I Γ b W sd H) (hq : ∀ q : Nat, q < H.size → ws_A b q → H1[q]? = H[q]?) : ws_I Γ b W sd H1 :=
  ⟨h.1.kp (fun q a z => hq q a (by unfold ws_A; omega)), h.2.1.kp (fun q a z => hq q a (by unfold ws_A; omega)), h.2.2.1.kp (fun q a z => hq q a (by unfold ws_A; omega)), h.2.2.2.1.kp (fun q a z => hq q a (by unfold ws_A; omega)), h.2.2.2.2.1.kp (fun q a z => hq q a (by unfold ws_A; omega)), h.2.2.2.2.2.1.kp (fun q a z => hq q a (by unfold ws_A; omega)), h.2.2.2.2.2.2.1.kp (fun q a z => hq q a (by unfold ws_A; omega)), h.2.2.2.2.2.2.2.1.kp (fun q a z => hq q a (by unfold ws_A; omega)), h.2.2.2.2.2.2.2.2.1.kp (fun q a z => hq q a (by unfold ws_A; omega)), h.2.2.2.2.2.2.2.2.2.1.kp (fun q a z => hq q a (by unfold ws_A; omega)), h.2.2.2.2.2.2.2.2.2.2.1.kp (fun q a z => hq q a (by unfold ws_A; omega)), h.2.2.2.2.2.2.2.2.2.2.2.1.kp (fun q a z => hq q a (by unfold ws_A; omega)), h.2.2.2.2.2.2.2.2.2.2.2.2.1.kp (fun q a z => hq q a (by unfold ws_A; omega)), h.2.2.2.2.2.2.2.2.2.2.2.2.2.1.kp (fun q a z => hq q a (by unfold ws_A; omega)), h.2.2.2.2.2.2.2.2.2.2.2.2.2.2.kp (fun q a z => hq q a (by unfold ws_A; omega))⟩
section MX
variable {l : Launch} {Γ : mw_C} {x : Nat} {W W' : Nat → Int32} {ρ : md_R} {H H1 : Heap} {d : mw_M} {lev : Nat} {A : Nat → Prop} {as : List Value} {ov : Option Value}
theorem mx_I.one {sd' : Int32} {a : Nat} (h : mx_I Γ x W ρ H) (o : mw_one a H H1) (ha : ws_A (x + 1) a) (c : ws_I Γ (x + 1) W' sd' H1) : mx_I Γ x W' (ρ.1, sd', ρ.2.2.1, ρ.2.2.2.1, ρ.2.2.2.2.1, ρ.2.2.2.2.2.1, ρ.2.2.2.2.2.2) H1 := by
  unfold ws_A at ha
  exact ⟨h.1.kp (fun q _ z => o.2 q (by omega)), c, h.2.2.1, h.2.2.2.kp (fun q _ z => o.2 q (by unfold tb_A at z; omega))⟩
theorem mx_I.one0 {a : Nat} (h : mx_I Γ x W ρ H) (o : mw_one a H H1) (ha : ws_A (x + 1) a) (c : ws_I Γ (x + 1) W' ρ.2.1 H1) : mx_I Γ x W' ρ H1 := h.one o ha c
theorem mx_I.lift {sd' : Int32} (h : mx_I Γ x W ρ H) (hA : ∀ q, A q → ws_A (x + 1) q) (c : mw_Cr l Γ d lev 0 0 A as H ov (ws_I Γ (x + 1) W' sd')) : mw_Cr l Γ d lev 0 0 A as H ov (mx_I Γ x W' (ρ.1, sd', ρ.2.2.1, ρ.2.2.2.1, ρ.2.2.2.2.1, ρ.2.2.2.2.2.1, ρ.2.2.2.2.2.2)) :=
  c.wide (fun H1 hJ _ hf => ⟨h.1.kp (fun q a z => hf q a (fun w => by have := hA q w; unfold ws_A at this; omega)), hJ, h.2.2.1, h.2.2.2.kp (fun q a z => hf q a (fun w => by have := hA q w; unfold ws_A at this; unfold tb_A at z; omega))⟩)
theorem mx_I.lift0 (h : mx_I Γ x W ρ H) (hA : ∀ q, A q → ws_A (x + 1) q) (c : mw_Cr l Γ d lev 0 0 A as H ov (ws_I Γ (x + 1) W' ρ.2.1)) : mw_Cr l Γ d lev 0 0 A as H ov (mx_I Γ x W' ρ) := h.lift hA c
/-- the book -/
theorem mx_I.book {n' : Int32} {bo ba bi : Nat → Int32} (h : mx_I Γ x W ρ H) (hn : mo_n n' ≤ 20) (c : mw_Cr l Γ d lev 0 0 (tb_A (x + 27)) as H ov (tc Γ (x + 27) 20 3 (mo_n n') (fun k j => mo_r3 (bo k) (ba k) (bi k) j))) : mw_Cr l Γ d lev 0 0 (tb_A (x + 27)) as H ov (mx_I Γ x W (ρ.1, ρ.2.1, ρ.2.2.1, bo, ba, bi, n')) :=
  c.wide (fun H1 hJ _ hf => ⟨h.1.kp (fun q a z => hf q a (by unfold tb_A; omega)), h.2.1.kpA (fun q a z => hf q a (by unfold tb_A; unfold ws_A at z; omega)), hn, hJ⟩)
theorem mx_I.book0 (h : mx_I Γ x W ρ H) (c : mw_Cr l Γ d lev 0 0 (tb_A (x + 27)) as H ov (tc Γ (x + 27) 20 3 (mo_n ρ.2.2.2.2.2.2) (fun k j => mo_r3 (ρ.2.2.2.1 k) (ρ.2.2.2.2.1 k) (ρ.2.2.2.2.2.1 k) j))) : mw_Cr l Γ d lev 0 0 (tb_A (x + 27)) as H ov (mx_I Γ x W ρ) := h.book h.2.2.1 c
theorem mx_I.o_book (h : mx_I Γ x W ρ H) : ∃ fs, mw_ob Γ (x + 27) 2 fs H := tc.ob h.2.2.2
theorem xb_size (hx : Γ.2.2.2 ≤ x) (h : mx_I Γ x W ρ H) : mw_Cr l Γ mX2_size 1 0 0 (tb_A (x + 27)) [.ref (x + 27)] H (some (.int (nI (mo_n ρ.2.2.2.2.2.2)))) (mx_I Γ x W ρ) := h.book0 (tk_size (by omega) h.2.2.2 h.2.2.1 (by omega) (by omega))
theorem xb_isFull (hx : Γ.2.2.2 ≤ x) (h : mx_I Γ x W ρ H) : mw_Cr l Γ mX2_isFull 1 0 0 (tb_A (x + 27)) [.ref (x + 27)] H (some (.int (mo_b (decide (20 ≤ mo_n ρ.2.2.2.2.2.2))))) (mx_I Γ x W ρ) := h.book0 (tk_isFull (by omega) h.2.2.2 h.2.2.1 (by omega) (by omega))
theorem xb_at0 {k : Nat} (hx : Γ.2.2.2 ≤ x) (h : mx_I Γ x W ρ H) (hk : k < mo_n ρ.2.2.2.2.2.2) : mw_Cr l Γ mX2_at 1 0 0 (tb_A (x + 27)) [.ref (x + 27), .int (nI k), .int (nI 0)] H (some (.int (ρ.2.2.2.1 k))) (mx_I Γ x W ρ) := h.book0 (tk_at (j := 0) (by omega) h.2.2.2 h.2.2.1 (by omega) (by omega) hk (by omega))
theorem xb_at1 {k : Nat} (hx : Γ.2.2.2 ≤ x) (h : mx_I Γ x W ρ H) (hk : k < mo_n ρ.2.2.2.2.2.2) : mw_Cr l Γ mX2_at 1 0 0 (tb_A (x + 27)) [.ref (x + 27), .int (nI k), .int (nI 1)] H (some (.int (ρ.2.2.2.2.1 k))) (mx_I Γ x W ρ) := h.book0 (tk_at (j := 1) (by omega) h.2.2.2 h.2.2.1 (by omega) (by omega) hk (by omega))
theorem xb_at2 {k : Nat} (hx : Γ.2.2.2 ≤ x) (h : mx_I Γ x W ρ H) (hk : k < mo_n ρ.2.2.2.2.2.2) : mw_Cr l Γ mX2_at 1 0 0 (tb_A (x + 27)) [.ref (x + 27), .int (nI k), .int (nI 2)] H (some (.int (ρ.2.2.2.2.2.1 k))) (mx_I Γ x W ρ) := h.book0 (tk_at (j := 2) (by omega) h.2.2.2 h.2.2.1 (by omega) (by omega) hk (by omega))
theorem xb_empty (hx : Γ.2.2.2 ≤ x) (h : mx_I Γ x W ρ H) : mw_Cr l Γ mX2_empty 1 0 0 (tb_A (x + 27)) [.ref (x + 27)] H none (mx_I Γ x W (op_tear ρ).2) := h.book (by decide) (tk_empty (by omega) h.2.2.2 h.2.2.1 (by omega) (by omega))
theorem xb_add {a0 a1 a2 : Int32} {n : Nat} (hx : Γ.2.2.2 ≤ x) (h : mx_I Γ x W ρ H) (hn : ρ.2.2.2.2.2.2 = nI n) (hn2 : n < 20) : mw_Cr l Γ mX2_add 1 0 0 (tb_A (x + 27)) [.ref (x + 27), .int a0, .int a1, .int a2, .int (nI 0), .int (nI 0), .int (nI 0)] H none (mx_I Γ x W (ρ.1, ρ.2.1, ρ.2.2.1, upd ρ.2.2.2.1 (mo_n ρ.2.2.2.2.2.2) a0, upd ρ.2.2.2.2.1 (mo_n ρ.2.2.2.2.2.2) a1, upd ρ.2.2.2.2.2.1 (mo_n ρ.2.2.2.2.2.2) a2, ρ.2.2.2.2.2.2 + nI 1)) := by
  have hnn : mo_n ρ.2.2.2.2.2.2 = n := by rw [hn, ml_n (by omega)]
  have hn1 : mo_n (ρ.2.2.2.2.2.2 + nI 1) = n + 1 := by rw [hn, nI_add, ml_n (by omega)]
  refine h.book (by omega) ?_
  have h2 := h.2.2.2
  rw [hnn] at h2
  rw [hn1, hnn]
  refine tk_add (by omega) h2 (by omega) (by omega) (by omega) hn2 (fun j hj => ?_) (fun a ha c hc => ?_)
  · rw [pk_us, pk_us, pk_us]
    rcases (show j = 0 ∨ j = 1 ∨ j = 2 by omega) with rfl | rfl | rfl <;> rfl
  · rw [pk_un (by omega), pk_un (by omega), pk_un (by omega)]
end MX
