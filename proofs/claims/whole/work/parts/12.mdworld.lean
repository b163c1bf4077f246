/-! the reference's cells -/
abbrev md_R : Type := Int32 × Int32 × (Nat → Int32) × (Nat → Int32) × (Nat → Int32) × (Nat → Int32) × Int32
def md_I (Γ : mw_C) (mb : Nat) (W : Nat → Int32) (ρ : md_R) (H : Heap) : Prop :=
  mw_ob Γ mb 5 [.ref (mb + 1), .int ρ.1, .int ρ.2.1, .ref (mb + 2), .ref (mb + 3), .ref (mb + 4), .ref (mb + 5), .int ρ.2.2.2.2.2.2] H ∧ mw_ia Γ (mb + 1) 9411 W H ∧ mw_ia Γ (mb + 2) 2 ρ.2.2.1 H ∧ mw_ia Γ (mb + 3) 20 ρ.2.2.2.1 H ∧ mw_ia Γ (mb + 4) 20 ρ.2.2.2.2.1 H ∧ mw_ia Γ (mb + 5) 20 ρ.2.2.2.2.2.1 H
def md_A (mb : Nat) : Nat → Prop := fun q => mb ≤ q ∧ q < mb + 6
theorem md_A0 {mb : Nat} : md_A mb mb := ⟨Nat.le_refl _, by omega⟩
theorem md_A1 {mb : Nat} : md_A mb (mb + 1) := ⟨by omega, by omega⟩
theorem md_A2 {mb : Nat} : md_A mb (mb + 2) := ⟨by omega, by omega⟩
theorem md_A3 {mb : Nat} : md_A mb (mb + 3) := ⟨by omega, by omega⟩
theorem md_A4 {mb : Nat} : md_A mb (mb + 4) := ⟨by omega, by omega⟩
theorem md_A5 {mb : Nat} : md_A mb (mb + 5) := ⟨by omega, by omega⟩
theorem md_As {Γ : mw_C} {mb : Nat} (h : Γ.2.2.2 ≤ mb) : ∀ q, md_A mb q → Γ.2.2.2 ≤ q := fun _ hq => Nat.le_trans h hq.1
theorem md_I.stw {Γ : mw_C} {mb : Nat} {W W' : Nat → Int32} {ρ : md_R} {H H1 : Heap} (h : md_I Γ mb W ρ H) (o : mw_one (mb + 1) H H1) (c : mw_ia Γ (mb + 1) 9411 W' H1) : md_I Γ mb W' ρ H1 :=
  ⟨h.1.kept (o.2 _ (by omega)), c, h.2.2.1.kept (o.2 _ (by omega)), h.2.2.2.1.kept (o.2 _ (by omega)), h.2.2.2.2.1.kept (o.2 _ (by omega)), h.2.2.2.2.2.kept (o.2 _ (by omega))⟩
