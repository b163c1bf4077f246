/-! what is known at the law's entry; its own rows -/
theorem ka_over : Cond.arrayOver (.object "MovedWays$Ways") ∈ lw_tbl := List.mem_of_getElem? (i := 249) (by decide +kernel)
theorem ka_sizes : Cond.laysStatic "MovedWays" "SIZES" "[I" ∈ lw_tbl := List.mem_of_getElem? (i := 397) (by decide +kernel)
theorem lw_known {s : State} {b : Nat} (hts : ∀ w ∈ lw_tbl, w.before #[Value.ref b] s = true) (hgv : (Jvm.Cond.and given_1 narrow_1).before #[Value.ref b] s = true) : ∃ Γ : mw_C, Γ.2.2.2 = s.heap.size ∧ mw_KK Γ s := by
  obtain ⟨c0, i0, k0⟩ := u_known (C := RX0) (T := TX0) (N := 8) (n := 8) hts kw_X0 (hts _ kn_X0)
  obtain ⟨c1, i1, k1⟩ := u_known (C := RX1) (T := TX1) (N := 2) (n := 2) hts kw_X1 (hts _ kn_X1)
  obtain ⟨c2, i2, k2⟩ := u_known (C := RX2) (T := TX2) (N := 4) (n := 4) hts kw_X2 (hts _ kn_X2)
  obtain ⟨c3, i3, k3⟩ := u_known (C := RX3) (T := TX3) (N := 15) (n := 15) hts kw_X3 (hts _ kn_X3)
  obtain ⟨c4, i4, k4⟩ := u_known (C := RX4) (T := TX4) (N := 3) (n := 3) hts kw_X4 (hts _ kn_X4)
  obtain ⟨c5, i5, k5⟩ := u_known (C := RX5) (T := TX5) (N := 8) (n := 8) hts kw_X5 (hts _ kn_X5)
  obtain ⟨dC, dI, hKc⟩ : ∃ (dC : Nat → ClassId) (dI : Nat → Nat → Nat), ∀ (k : Nat) (q : vw_C), vwCl[k]? = some q → u_Kn s q.1 q.2.1 q.2.2 (dC k) (dI k) := by
    refine ⟨fun k => match k with | 0 => c0 | 1 => c1 | 2 => c2 | 3 => c3 | 4 => c4 | _ => c5, fun k => match k with | 0 => i0 | 1 => i1 | 2 => i2 | 3 => i3 | 4 => i4 | _ => i5, ?_⟩
    intro k q hq
    match k, hq with
    | 0, hq => cases hq; exact k0
    | 1, hq => cases hq; exact k1
    | 2, hq => cases hq; exact k2
    | 3, hq => cases hq; exact k3
    | 4, hq => cases hq; exact k4
    | 5, hq => cases hq; exact k5
    | k + 6, hq => simp [vwCl] at hq
  obtain ⟨cI, kI, pI, f1, f2, f3⟩ := Cond.arrayClass_spec (hts _ ka_int)
  obtain ⟨cJ, kJ, pJ, g1, g2, g3⟩ := Cond.arrayClass_spec (hts _ ka_long)
  obtain ⟨comp, cR, kR, r1, r2, r3, r4, r5⟩ := Cond.arrayOver_spec (hts _ ka_over)
  have hs := flat_of_before _ hgv
  have hA : ∀ a : Nat, a < s.heap.size → ¬ (fun q : Nat => s.heap.size ≤ q) a := fun a h => Nat.not_le.mpr h
  obtain ⟨t, ht, hT⟩ := va_Tof (tm := .static "MovedWays" "SIZES" "[I") (ty := .int) (N := 6) (f := fun j => .int (mw_sz j)) (A := fun q : Nat => s.heap.size ≤ q) (by decide) (hs (.arrayOf (.static "MovedWays" "SIZES" "[I") .int) (by decide +kernel)) (va_eqt (hs (.eq (.length (.static "MovedWays" "SIZES" "[I")) (.int 6)) (by decide +kernel))) (fun j hj => by
    match j, hj with
    | 0, _ => exact va_eqt (hs (.eq (.elem (.static "MovedWays" "SIZES" "[I") (.int 0)) (.int 5)) (by decide +kernel))
    | 1, _ => exact va_eqt (hs (.eq (.elem (.static "MovedWays" "SIZES" "[I") (.int 1)) (.int 4)) (by decide +kernel))
    | 2, _ => exact va_eqt (hs (.eq (.elem (.static "MovedWays" "SIZES" "[I") (.int 2)) (.int 4)) (by decide +kernel))
    | 3, _ => exact va_eqt (hs (.eq (.elem (.static "MovedWays" "SIZES" "[I") (.int 3)) (.int 3)) (by decide +kernel))
    | 4, _ => exact va_eqt (hs (.eq (.elem (.static "MovedWays" "SIZES" "[I") (.int 4)) (.int 2)) (by decide +kernel))
    | 5, _ => exact va_eqt (hs (.eq (.elem (.static "MovedWays" "SIZES" "[I") (.int 5)) (.int 2)) (by decide +kernel))
    | j + 6, hj => exact absurd hj (by omega)) hA
  have hZ := va_Zof (A := fun q : Nat => s.heap.size ≤ q) (hts _ ka_sizes) (hts _ k_inX4) ht hA
  refine ⟨((dC, dI), (cI, cJ, cR), t, s.heap.size), rfl, mw_KW.of hts, ⟨hKc, fun k q hq => ?_⟩, hZ, hT, va_AO.of (hts _ ka_over)⟩
  match k, hq with
  | 0, hq => cases hq; exact ⟨fun n z => ⟨fun k h => (by cases h), kI, f2, pI, f3⟩, f1⟩
  | 1, hq => cases hq; exact ⟨fun n z => ⟨fun k h => (by cases h), kJ, g2, pJ, g3⟩, g1⟩
  | 2, hq => cases hq; exact ⟨fun n z => ⟨fun k h => (by cases h), kR, r3, comp, r4⟩, kR, comp, r3, r4, r1, r5⟩
  | k + 3, hq => simp [mw_ty] at hq
def lw_d (n : String) : mw_M := (⟨"MovedWaysLaw", n, "([I)Z"⟩, code, 4, ret)
section SR
variable {Γ : mw_C} {p : Program} {l : Launch} {e : Env} {R : Room} {s : State} {m : MethodId} {args : Array Value} {below : List Frame} {meth : Method} {c : Code} {A : Nat → Prop} {Q : State → Prop} {I : Heap → Prop} {ce sl pc : Nat} {d : mw_M} {P : List (Nat × Instr × Nat)} {lv : List (Nat × Value)} {rest : List Value}
theorem mw_sld (X : mw_Ok Γ p s m args meth c A d P) {b L : Nat} {xs : Nat → Int32} (hX : va_X b L xs s s.heap) (hbl : b < s.heap.size) (hbA : ¬ A b) {i : Int32} (j : Nat) (hi : i = nI j) (hj : j < L) (hL : L ≤ 3072) (ha : mw_at P pc = some (.iaload, 1)) (kk : mw_G p l e R s m args below meth c A d.2.2.1 Q I ce sl (pc + 1) lv (.int (xs j) :: rest)) : mw_G p l e R s m args below meth c A d.2.2.1 Q I ce sl pc lv (.int i :: .ref b :: rest) := by
  intro H locs ls hH hS hl
  subst hi
  have hcl : (nI j).toNatClampNeg = j := nI_clamp (by omega)
  refine va_sld X.hx X.hb hX hbl hbA hS (nI_in hj (by omega)) (X.hd ha) ?_
  rw [hcl]
  exact kk H locs ls hH hS hl
theorem mw_slen (X : mw_Ok Γ p s m args meth c A d P) {b L : Nat} {xs : Nat → Int32} (hX : va_X b L xs s s.heap) (hbl : b < s.heap.size) (hbA : ¬ A b) (ha : mw_at P pc = some (.arraylength, 1)) (kk : mw_G p l e R s m args below meth c A d.2.2.1 Q I ce sl (pc + 1) lv (.int (nI L) :: rest)) : mw_G p l e R s m args below meth c A d.2.2.1 Q I ce sl pc lv (.ref b :: rest) := by
  intro H locs ls hH hS hl
  exact va_slen X.hx X.hb hX hbl hbA hS (X.hd ha) (kk H locs ls hH hS hl)
theorem ml_and31 (x : Int32) : ∃ r, r < 32 ∧ x &&& nI 31 = nI r := by
  have h1 : (x &&& nI 31).toBitVec.toNat = x.toBitVec.toNat % 32 := by
    rw [Int32.toBitVec_and, BitVec.toNat_and]
    exact Nat.and_two_pow_sub_one_eq_mod _ 5
  refine ⟨x.toBitVec.toNat % 32, Nat.mod_lt _ (by omega), ?_⟩
  apply Int32.toBitVec_inj.mp
  apply BitVec.eq_of_toNat_eq
  rw [h1]
  show _ = (BitVec.ofNat 32 (x.toBitVec.toNat % 32)).toNat
  rw [BitVec.toNat_ofNat]
  omega
end SR
