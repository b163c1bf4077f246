/-! the law's own state: both objects, the images; what is known of the numbers behind i calls -/
theorem ws_I.cgA {Γ : mw_C} {b : Nat} {W W' : Nat → Int32} {sd : Int32} {H : Heap} (h : ws_I Γ b W sd H) (q : ∀ j, j < 3137 → W' j = W j) : ws_I Γ b W' sd H :=
  ⟨h.1.cg (fun j a => q j (by omega)), h.2.1.cg (fun j a => q j (by omega)), h.2.2.1.cg (fun j a => q j (by omega)), h.2.2.2.1.cg (fun j a => q j (by omega)), h.2.2.2.2.1.cg (fun j a => q j (by omega)), h.2.2.2.2.2.1.cg (fun j a => q j (by omega)), h.2.2.2.2.2.2.1.cg (fun j a => q j (by omega)), h.2.2.2.2.2.2.2.1.cg (fun j a => q j (by omega)), h.2.2.2.2.2.2.2.2.1.cg (fun j a => q j (by omega)), h.2.2.2.2.2.2.2.2.2.1.cg (fun j a => q j (by omega)), h.2.2.2.2.2.2.2.2.2.2.1.cg (fun j a => q j (by omega)), h.2.2.2.2.2.2.2.2.2.2.2.1.cg (fun j a => q j (by omega)), h.2.2.2.2.2.2.2.2.2.2.2.2.1.cg (fun j a => q j (by omega)), h.2.2.2.2.2.2.2.2.2.2.2.2.2.1.cg (fun j a => q j (by omega)), h.2.2.2.2.2.2.2.2.2.2.2.2.2.2.cg (fun j a => q j (by omega))⟩
def HH (Γ : mw_C) (x : Nat) (W : Nat → Int32) (ρ : md_R) (im : Nat → Option Nat) (V : Nat → Nat → Int32) (vs : Nat → Int32) (Wm : Nat → Int32) (ρm : md_R) (H : Heap) : Prop :=
  mx_I Γ x W ρ H ∧ mw_ra Γ (x + 29) 2 im H ∧ (∀ k, k < 2 → ∀ a, im k = some a → x + 36 ≤ a ∧ a + 26 ≤ H.size ∧ ws_I Γ a (V k) (vs k) H) ∧ md_I Γ (x + 30) Wm ρm H
abbrev iV (W : Nat → Int32) (k : Nat) : Nat → Int32 := fun j => W (3137 * (k + 1) + j)
def lwJ (Γ : mw_C) (x : Nat) (W : Nat → Int32) (ρ : md_R) (im : Nat → Option Nat) (H : Heap) : Prop := HH Γ x W ρ im (iV W) ρ.2.2.1 W ρ H
def lwP (i : Nat) (W : Nat → Int32) (ρ : md_R) (im : Nat → Option Nat) : Prop :=
  iv 40 W ∧ iv_k ρ ∧ 0 ≤ ρ.2.1 ∧ PH W ≤ 120 * i ∧ PG W ≤ 20 * i + 200 ∧ (∃ q, q < 4 ∧ ρ.1 = nI q) ∧ (∀ k, k < 2 → (im k = none ↔ (ρ.1 >>> (nI k &&& 31)) &&& nI 1 = 0)) ∧ (∀ k, k < 2 → ∀ a, im k = some a → iv 40 (iV W k) ∧ 0 ≤ ρ.2.2.1 k ∧ PH (iV W k) ≤ 120 * i ∧ PG (iV W k) ≤ 20 * i + 200) ∧ ∀ a0 a1, im 0 = some a0 → im 1 = some a1 → a0 + 26 ≤ a1 ∨ a1 + 26 ≤ a0
theorem md_I.kpD {Γ : mw_C} {mb : Nat} {W : Nat → Int32} {ρ : md_R} {H H1 : Heap} (h : md_I Γ mb W ρ H) (hq : ∀ q : Nat, q < H.size → md_A mb q → H1[q]? = H[q]?) : md_I Γ mb W ρ H1 :=
  ⟨h.1.kept (hq _ h.1.lt md_A0), h.2.1.kept (hq _ h.2.1.lt md_A1), h.2.2.1.kept (hq _ h.2.2.1.lt md_A2), h.2.2.2.1.kept (hq _ h.2.2.2.1.lt md_A3), h.2.2.2.2.1.kept (hq _ h.2.2.2.2.1.lt md_A4), h.2.2.2.2.2.kept (hq _ h.2.2.2.2.2.lt md_A5)⟩
section LW
variable {l : Launch} {Γ : mw_C} {x : Nat} {W W' Wm Wm' : Nat → Int32} {ρ ρ' ρm ρm' : md_R} {im : Nat → Option Nat} {V : Nat → Nat → Int32} {vs : Nat → Int32} {H : Heap} {d : mw_M} {lev : Nat} {as : List Value} {ov : Option Value}
/-- a call of the class -/
theorem HH.cls (h : HH Γ x W ρ im V vs Wm ρm H) (c : mw_Cr l Γ d lev 0 0 (mx_A x) as H ov (mx_I Γ x W' ρ')) : mw_Cr l Γ d lev 0 0 (mx_A x) as H ov (HH Γ x W' ρ' im V vs Wm ρm) :=
  c.wide (fun H1 hJ hs hf => ⟨hJ, h.2.1.kept (hf _ h.2.1.lt (by unfold mx_A; omega)), fun k hk a ha => ⟨(h.2.2.1 k hk a ha).1, Nat.le_trans (h.2.2.1 k hk a ha).2.1 hs, (h.2.2.1 k hk a ha).2.2.kpA (fun q b z => hf q b (by have := (h.2.2.1 k hk a ha).1; unfold ws_A at z; unfold mx_A; omega))⟩, h.2.2.2.kpD (fun q b z => hf q b (by unfold md_A at z; unfold mx_A; omega))⟩)
/-- a call of the reference -/
theorem HH.ref (h : HH Γ x W ρ im V vs Wm ρm H) (c : mw_Cr l Γ d lev 0 0 (md_A (x + 30)) as H ov (md_I Γ (x + 30) Wm' ρm')) : mw_Cr l Γ d lev 0 0 (md_A (x + 30)) as H ov (HH Γ x W ρ im V vs Wm' ρm') :=
  c.wide (fun H1 hJ hs hf => ⟨h.1.kpM (fun q b z => hf q b (by unfold mx_A at z; unfold md_A; omega)), h.2.1.kept (hf _ h.2.1.lt (by unfold md_A; omega)), fun k hk a ha => ⟨(h.2.2.1 k hk a ha).1, Nat.le_trans (h.2.2.1 k hk a ha).2.1 hs, (h.2.2.1 k hk a ha).2.2.kpA (fun q b z => hf q b (by have := (h.2.2.1 k hk a ha).1; unfold ws_A at z; unfold md_A; omega))⟩, hJ⟩)
theorem lwJ.of (h : HH Γ x W' ρ' im (iV W) ρ.2.2.1 W' ρ' H) (hi : ∀ j, 3137 ≤ j → W' j = W j) (hr : ρ'.2.2.1 = ρ.2.2.1) : lwJ Γ x W' ρ' im H := by
  unfold lwJ
  rw [hr, show iV W' = iV W from funext (fun k => funext (fun j => hi _ (by omega)))]
  exact h
theorem lwP.step {i : Nat} (h : lwP i W ρ im) (hi : i < 512) (r : rl 120 20 W W') (v : iv 0 W') (hk : iv_k ρ') (hs : 0 ≤ ρ'.2.1) (h1 : ρ'.1 = ρ.1) (h2 : ρ'.2.2.1 = ρ.2.2.1) : lwP (i + 1) W' ρ' im := by
  obtain ⟨a1, a2, a3, a4, a5, a6, a7, a8, a9⟩ := h
  have r1 := r.1
  have r2 := r.2.1
  refine ⟨v.up (by omega) (by omega), hk, hs, by omega, by omega, by rw [h1]; exact a6, fun k hk2 => by rw [h1]; exact a7 k hk2, fun k hk2 a ha => ?_, a9⟩
  have e : iV W' k = iV W k := funext (fun j => r.2.2 _ (by omega))
  obtain ⟨b1, b2, b3, b4⟩ := a8 k hk2 a ha
  rw [e, h2]
  exact ⟨b1, b2, by omega, by omega⟩
theorem lwP.same {i : Nat} (h : lwP i W ρ im) (hi : i < 512) : lwP (i + 1) W ρ im := h.step hi rl.rfl' (h.1.less (by omega)) h.2.1 h.2.2.1 rfl rfl
theorem PH_cg (hn : mo_n (W 13) ≤ 6) (h : ∀ j, j < 3137 → W' j = W j) : PH W' = PH W := by
  unfold PH
  rw [ro_cg hn (h 13 (by omega)) (fun j a b => h j (by omega)), h 15 (by omega), h 12 (by omega)]
theorem PG_cg (hn : mo_n (W 13) ≤ 6) (h : ∀ j, j < 3137 → W' j = W j) : PG W' = PG W := by
  unfold PG
  rw [rg_cg hn (h 13 (by omega)) (fun j a b => h j (by omega)), sp_cg (fun k hk => by rw [h _ (by omega)]), h 14 (by omega)]
theorem iv.cgA {c : Nat} (hv : iv c W) (h : ∀ j, j < 3137 → W' j = W j) : iv c W' := hv.free (fun j a => h j (by omega))
theorem mx_I.cgA (h : mx_I Γ x W ρ H) (q : ∀ j, j < 3137 → W' j = W j) (h1 : ρ'.2.1 = ρ.2.1) (h2 : ρ'.2.2.2 = ρ.2.2.2) : mx_I Γ x W' ρ' H := by
  unfold mx_I
  rw [h1, h2]
  exact ⟨h.1, h.2.1.cgA q, h.2.2.1, h.2.2.2⟩
theorem mo_bl2 {y : Int32} (h : mo_bl y 2 = true) : ∃ k, k < 2 ∧ y = nI k := mo_bl_t h (by omega)
/-- an image is kept -/
theorem kp_lo {k : Nat} (j : Nat) (hj : j < 3137) : va_cpy W W 0 (3137 * (k + 1)) 3137 j = W j := pk_cpy_out (by omega)
theorem kp_in {k : Nat} (j : Nat) (hj : j < 3137) : va_cpy W W 0 (3137 * (k + 1)) 3137 (3137 * (k + 1) + j) = W j := by
  rw [pk_cpy_in (by omega) (by omega), show 0 + (3137 * (k + 1) + j - 3137 * (k + 1)) = j by omega]
theorem kp_ot {k k2 : Nat} (hne : k2 ≠ k) (j : Nat) (hj : j < 3137) : va_cpy W W 0 (3137 * (k + 1)) 3137 (3137 * (k2 + 1) + j) = W (3137 * (k2 + 1) + j) := pk_cpy_out (by
  rcases Nat.lt_or_gt_of_ne hne with q | q
  · have : k2 + 1 ≤ k := q
    have := Nat.mul_le_mul_left 3137 (Nat.add_le_add_right this 1)
    omega
  · have : k + 1 ≤ k2 := q
    have := Nat.mul_le_mul_left 3137 (Nat.add_le_add_right this 1)
    omega)
theorem gb_in {k : Nat} (j : Nat) (hj : j < 3137) : va_cpy W W (3137 * (k + 1)) 0 3137 j = W (3137 * (k + 1) + j) := by
  rw [pk_cpy_in (by omega) (by omega), Nat.sub_zero]
theorem gb_hi {k : Nat} (j : Nat) (hj : 3137 ≤ j) : va_cpy W W (3137 * (k + 1)) 0 3137 j = W j := pk_cpy_out (by omega)
theorem bit_k : ∀ q, q < 4 → ∀ k, k < 2 → ∃ q2, q2 < 4 ∧ (nI q ||| nI 1 <<< (nI k &&& 31)) = nI q2 := by decide
theorem bit_s : ∀ q, q < 4 → ∀ k, k < 2 → ¬ ((nI q ||| nI 1 <<< (nI k &&& 31)) >>> (nI k &&& 31)) &&& nI 1 = 0 := by decide
theorem bit_o : ∀ q, q < 4 → ∀ k, k < 2 → ∀ k2, k2 < 2 → k2 ≠ k → (((nI q ||| nI 1 <<< (nI k &&& 31)) >>> (nI k2 &&& 31)) &&& nI 1 = 0 ↔ (nI q >>> (nI k2 &&& 31)) &&& nI 1 = 0) := by decide
end LW
