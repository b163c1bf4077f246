/-! what is known at the law's entry; its own rows -/
theorem ka_over : Cond.arrayOver (.object "MovedWays$Ways") ∈ lw_tbl := List.mem_of_getElem? (i := 249) (by decide +kernel)
theorem ka_sizes : Cond.laysStatic "MovedWays" "SIZES" "[I" ∈ lw_tbl := List.mem_of_getElem? (i := 397) (by decide +kernel)
theorem lw_known {s : State} {b : Nat} (hts : ∀ w ∈ lw_tbl, w.before #[Value.ref b] s = true) (hgv : (Jvm.Cond.and given_1 narrow_1).before #[Value.ref b] s = true) : ∃ Γ : mw_C, Γ.2.2.2 = s.heap.size ∧ mw_KK Γ s := by
  obtain ⟨c0, i0, k0⟩ := u_known (C := RX0) (T := TX0) (N := 8) (n := 8) hts kw_X0 (hts _ kn_X0)
  obtain ⟨c1, i1, k1⟩ := u_known (C := RX1) (T := TX1) (N := 2) (n := 2) hts kw_X1 (hts _ kn_X1)
  obtain ⟨c2, i2, k2⟩ := u_known (C := RX2) (T := TX2) (N := 4) (n := 4) hts kw_X2 (hts _ kn_X2)
  obtain ⟨c3, i3, k3⟩ := u_known (C := RX3) (T := TX3) (N := 15) (n := 15) hts kw_X3 (hts _ kn_X3)
  obtain ⟨c4, i4, k4⟩ := u_known (C := RX4) (T := TX4) (N := 3) (n := 3) hts kw_X4 (hts _ kn_X4)
  obtain ⟨c5, i5, k5⟩ := u_known (C := RX5) (T := TX5) (N := 8) (n := 8) hts kw_X5 (hts _ kn_X5)
  obtain ⟨dC, dI, hKc⟩ : ∃ (dC : Nat → ClassId) (dI : Nat → Nat → Nat), ∀ (k : Nat) (q : vw_C), vwCl[k]? = some q → u_Kn s q.1 q.2.1 q.2.2 (dC k) (dI k) := by
    refine ⟨fun k => match k with | 0 => c0 | 1 => c1 | 2 => c2 | 3 => c3 | 4 => c4 | _ => c5, fun k => match k with | 0 => i0 | 1 => i1 | 2 => i2 | 3 => i3 | 4 => i4 | _ => i5, ?_⟩
    intro k q hq
    match k, hq with
    | 0, hq => cases hq; exact k0
    | 1, hq => cases hq; exact k1
    | 2, hq => cases hq; exact k2
    | 3, hq => cases hq; exact k3
    | 4, hq => cases hq; exact k4
    | 5, hq => cases hq; exact k5
    | k + 6, hq => simp [vwCl] at hq
  obtain ⟨cI, kI, pI, f1, f2, f3⟩ := Cond.arrayClass_spec (hts _ ka_int)
  obtain ⟨cJ, kJ, pJ, g1, g2, g3⟩ := Cond.arrayClass_spec (hts _ ka_long)
  obtain ⟨comp, cR, kR, r1, r2, r3, r4, r5⟩ := Cond.arrayOver_spec (hts _ ka_over)
  have hs := flat_of_before _ hgv
  have hA : ∀ a : Nat, a < s.heap.size → ¬ (fun q : Nat => s.heap.size ≤ q) a := fun a h => Nat.not_le.mpr h
  obtain ⟨t, ht, hT⟩ := va_Tof (tm := .static "MovedWays" "SIZES" "[I") (ty := .int) (N := 6) (f := fun j => .int (mw_sz j)) (A := fun q : Nat => s.heap.size ≤ q) (by decide) (hs (.arrayOf (.static "MovedWays" "SIZES" "[I") .int) (by decide +kernel)) (va_eqt (hs (.eq (.length (.static "MovedWays" "SIZES" "[I")) (.int 6)) (by decide +kernel))) (fun j hj => by
    match j, hj with
    | 0, _ => exact va_eqt (hs (.eq (.elem (.static "MovedWays" "SIZES" "[I") (.int 0)) (.int 5)) (by decide +kernel))
    | 1, _ => exact va_eqt (hs (.eq (.elem (.static "MovedWays" "SIZES" "[I") (.int 1)) (.int 4)) (by decide +kernel))
    | 2, _ => exact va_eqt (hs (.eq (.elem (.static "MovedWays" "SIZES" "[I") (.int 2)) (.int 4)) (by decide +kernel))
    | 3, _ => exact va_eqt (hs (.eq (.elem (.static "MovedWays" "SIZES" "[I") (.int 3)) (.int 3)) (by decide +kernel))
    | 4, _ => exact va_eqt (hs (.eq (.elem (.static "MovedWays" "SIZES" "[I") (.int 4)) (.int 2)) (by decide +kernel))
    | 5, _ => exact va_eqt (hs (.eq (.elem (.static "MovedWays" "SIZES" "[I") (.int 5)) (.int 2)) (by decide +kernel))
    | j + 6, hj => exact absurd hj (by omega)) hA
  have hZ := va_Zof (A := fun q : Nat => s.heap.size ≤ q) (hts _ ka_sizes) (hts _ k_inX4) ht hA
  refine ⟨((dC, dI), (cI, cJ, cR), t, s.heap.size), rfl, mw_KW.of hts, ⟨hKc, fun k q hq => ?_⟩, hZ, hT, va_AO.of (hts _ ka_over)⟩
  match k, hq with
  | 0, hq => cases hq; exact ⟨fun n z => ⟨fun k h => (by cases h), kI, f2, pI, f3⟩, f1⟩
  | 1, hq => cases hq; exact ⟨fun n z => ⟨fun k h => (by cases h), kJ, g2, pJ, g3⟩, g1⟩
  | 2, hq => cases hq; exact ⟨fun n z => ⟨fun k h => (by cases h), kR, r3, comp, r4⟩, kR, comp, r3, r4, r1, r5⟩
  | k + 3, hq => simp [mw_ty] at hq
def lw_d (n : String) : mw_M := (⟨"MovedWaysLaw", n, "([I)Z"⟩, code, 4, ret)
section SR
variable {Γ : mw_C} {p : Program} {l : Launch} {e : Env} {R : Room} {s : State} {m : MethodId} {args : Array Value} {below : List Frame} {meth : Method} {c : Code} {A : Nat → Prop} {Q : State → Prop} {I : Heap → Prop} {ce sl pc : Nat} {d : mw_M} {P : List (Nat × Instr × Nat)} {lv : List (Nat × Value)} {rest : List Value}
theorem mw_sld (X : mw_Ok Γ p s m args meth c A d P) {b L : Nat} {xs : Nat → Int32} (hX : va_X b L xs s s.heap) (hbl : b < s.heap.size) (hbA : ¬ A b) {i : Int32} (j : Nat) (hi : i = nI j) (hj : j < L) (hL : L ≤ 3072) (ha : mw_at P pc = some (.iaload, 1)) (kk : mw_G p l e R s m args below meth c A d.2.2.1 Q I ce sl (pc + 1) lv (.int (xs j) :: rest)) : mw_G p l e R s m args below meth c A d.2.2.1 Q I ce sl pc lv (.int i :: .ref b :: rest) := by
  intro H locs ls hH hS hl
  subst hi
  have hcl : (nI j).toNatClampNeg = j := nI_clamp (by omega)
  refine va_sld X.hx X.hb hX hbl hbA hS (nI_in hj (by omega)) (X.hd ha) ?_
  rw [hcl]
  exact kk H locs ls hH hS hl
theorem mw_slen (X : mw_Ok Γ p s m args meth c A d P) {b L : Nat} {xs : Nat → Int32} (hX : va_X b L xs s s.heap) (hbl : b < s.heap.size) (hbA : ¬ A b) (ha : mw_at P pc = some (.arraylength, 1)) (kk : mw_G p l e R s m args below meth c A d.2.2.1 Q I ce sl (pc + 1) lv (.int (nI L) :: rest)) : mw_G p l e R s m args below meth c A d.2.2.1 Q I ce sl pc lv (.ref b :: rest) := by
  intro H locs ls hH hS hl
  exact va_slen X.hx X.hb hX hbl hbA hS (X.hd ha) (kk H locs ls hH hS hl)
theorem ml_and31 (x : Int32) : ∃ r, r < 32 ∧ x &&& nI 31 = nI r := by
  have h1 : (x &&& nI 31).toBitVec.toNat = x.toBitVec.toNat % 32 := by
    rw [Int32.toBitVec_and, BitVec.toNat_and]
    exact Nat.and_two_pow_sub_one_eq_mod _ 5
  refine ⟨x.toBitVec.toNat % 32, Nat.mod_lt _ (by omega), ?_⟩
  apply Int32.toBitVec_inj.mp
  apply BitVec.eq_of_toNat_eq
  rw [h1]
  show _ = (BitVec.ofNat 32 (x.toBitVec.toNat % 32)).toNat
  rw [BitVec.toNat_ofNat]
  omega
end SR
theorem mw_Ok.with {Γ : mw_C} {p : Program} {s : State} {m : MethodId} {args : Array Value} {meth : Method} {c : Code} {A : Nat → Prop} {d : mw_M} {P P' : List (Nat × Instr × Nat)} (X : mw_Ok Γ p s m args meth c A d P) (h : ∀ q ∈ P', decode d.2.1 q.1 = .ok (q.2.1, q.2.2)) : mw_Ok Γ p s m args meth c A d P' := by
  unfold mw_Ok at X ⊢
  exact ⟨X.1, X.2.1, X.2.2.1, X.2.2.2.1, X.2.2.2.2.1, X.2.2.2.2.2.1, X.2.2.2.2.2.2.1, X.2.2.2.2.2.2.2.1, h, X.2.2.2.2.2.2.2.2.2⟩
def pL_c0 : List (Nat × Instr × Nat) := [(148, .aload_n 1, 1), (149, .aload_n 0, 1), (150, .iload_n 3, 1), (151, .iconst 1, 1), (152, .iadd, 1), (153, .iaload, 1), (154, .invokevirtual 13, 3), (157, .aload_n 2, 1), (158, .aload_n 0, 1), (159, .iload_n 3, 1), (160, .iconst 1, 1), (161, .iadd, 1), (162, .iaload, 1), (163, .invokevirtual 17, 3), (166, .if_icmp .eq 637, 3), (169, .iconst 0, 1), (170, .ireturn, 1), (803, .iinc 3 6, 3), (806, .goto (-788), 3)]
theorem oL_c0 : ∀ q ∈ pL_c0, decode cL_law q.1 = .ok (q.2.1, q.2.2) := by decide +kernel
def pL_c1 : List (Nat × Instr × Nat) := [(171, .aload_n 1, 1), (172, .aload_n 0, 1), (173, .iload_n 3, 1), (174, .iconst 1, 1), (175, .iadd, 1), (176, .iaload, 1), (177, .aload_n 0, 1), (178, .iload_n 3, 1), (179, .iconst 2, 1), (180, .iadd, 1), (181, .iaload, 1), (182, .invokevirtual 18, 3), (185, .aload_n 2, 1), (186, .aload_n 0, 1), (187, .iload_n 3, 1), (188, .iconst 1, 1), (189, .iadd, 1), (190, .iaload, 1), (191, .aload_n 0, 1), (192, .iload_n 3, 1), (193, .iconst 2, 1), (194, .iadd, 1), (195, .iaload, 1), (196, .invokevirtual 22, 3), (199, .if_icmp .eq 604, 3), (202, .iconst 0, 1), (203, .ireturn, 1), (803, .iinc 3 6, 3), (806, .goto (-788), 3)]
theorem oL_c1 : ∀ q ∈ pL_c1, decode cL_law q.1 = .ok (q.2.1, q.2.2) := by decide +kernel
def pL_c2 : List (Nat × Instr × Nat) := [(204, .aload_n 1, 1), (205, .aload_n 0, 1), (206, .iload_n 3, 1), (207, .iconst 1, 1), (208, .iadd, 1), (209, .iaload, 1), (210, .aload_n 0, 1), (211, .iload_n 3, 1), (212, .iconst 2, 1), (213, .iadd, 1), (214, .iaload, 1), (215, .invokevirtual 23, 3), (218, .aload_n 2, 1), (219, .aload_n 0, 1), (220, .iload_n 3, 1), (221, .iconst 1, 1), (222, .iadd, 1), (223, .iaload, 1), (224, .aload_n 0, 1), (225, .iload_n 3, 1), (226, .iconst 2, 1), (227, .iadd, 1), (228, .iaload, 1), (229, .invokevirtual 26, 3), (232, .if_icmp .eq 571, 3), (235, .iconst 0, 1), (236, .ireturn, 1), (803, .iinc 3 6, 3), (806, .goto (-788), 3)]
theorem oL_c2 : ∀ q ∈ pL_c2, decode cL_law q.1 = .ok (q.2.1, q.2.2) := by decide +kernel
def pL_c3 : List (Nat × Instr × Nat) := [(237, .aload_n 1, 1), (238, .aload_n 0, 1), (239, .iload_n 3, 1), (240, .iconst 1, 1), (241, .iadd, 1), (242, .iaload, 1), (243, .aload_n 0, 1), (244, .iload_n 3, 1), (245, .iconst 2, 1), (246, .iadd, 1), (247, .iaload, 1), (248, .invokevirtual 27, 3), (251, .aload_n 2, 1), (252, .aload_n 0, 1), (253, .iload_n 3, 1), (254, .iconst 1, 1), (255, .iadd, 1), (256, .iaload, 1), (257, .aload_n 0, 1), (258, .iload_n 3, 1), (259, .iconst 2, 1), (260, .iadd, 1), (261, .iaload, 1), (262, .invokevirtual 30, 3), (265, .if_icmp .eq 538, 3), (268, .iconst 0, 1), (269, .ireturn, 1), (803, .iinc 3 6, 3), (806, .goto (-788), 3)]
theorem oL_c3 : ∀ q ∈ pL_c3, decode cL_law q.1 = .ok (q.2.1, q.2.2) := by decide +kernel
def pL_c4 : List (Nat × Instr × Nat) := [(270, .aload_n 1, 1), (271, .aload_n 0, 1), (272, .iload_n 3, 1), (273, .iconst 1, 1), (274, .iadd, 1), (275, .iaload, 1), (276, .aload_n 0, 1), (277, .iload_n 3, 1), (278, .iconst 2, 1), (279, .iadd, 1), (280, .iaload, 1), (281, .invokevirtual 31, 3), (284, .aload_n 2, 1), (285, .aload_n 0, 1), (286, .iload_n 3, 1), (287, .iconst 1, 1), (288, .iadd, 1), (289, .iaload, 1), (290, .aload_n 0, 1), (291, .iload_n 3, 1), (292, .iconst 2, 1), (293, .iadd, 1), (294, .iaload, 1), (295, .invokevirtual 34, 3), (298, .if_icmp .eq 505, 3), (301, .iconst 0, 1), (302, .ireturn, 1), (803, .iinc 3 6, 3), (806, .goto (-788), 3)]
theorem oL_c4 : ∀ q ∈ pL_c4, decode cL_law q.1 = .ok (q.2.1, q.2.2) := by decide +kernel
def pL_c5 : List (Nat × Instr × Nat) := [(303, .aload_n 1, 1), (304, .aload_n 0, 1), (305, .iload_n 3, 1), (306, .iconst 1, 1), (307, .iadd, 1), (308, .iaload, 1), (309, .aload_n 0, 1), (310, .iload_n 3, 1), (311, .iconst 2, 1), (312, .iadd, 1), (313, .iaload, 1), (314, .invokevirtual 35, 3), (317, .aload_n 2, 1), (318, .aload_n 0, 1), (319, .iload_n 3, 1), (320, .iconst 1, 1), (321, .iadd, 1), (322, .iaload, 1), (323, .aload_n 0, 1), (324, .iload_n 3, 1), (325, .iconst 2, 1), (326, .iadd, 1), (327, .iaload, 1), (328, .invokevirtual 38, 3), (331, .if_icmp .eq 472, 3), (334, .iconst 0, 1), (335, .ireturn, 1), (803, .iinc 3 6, 3), (806, .goto (-788), 3)]
theorem oL_c5 : ∀ q ∈ pL_c5, decode cL_law q.1 = .ok (q.2.1, q.2.2) := by decide +kernel
def pL_c6 : List (Nat × Instr × Nat) := [(336, .aload_n 1, 1), (337, .aload_n 0, 1), (338, .iload_n 3, 1), (339, .iconst 1, 1), (340, .iadd, 1), (341, .iaload, 1), (342, .invokevirtual 39, 3), (345, .aload_n 2, 1), (346, .aload_n 0, 1), (347, .iload_n 3, 1), (348, .iconst 1, 1), (349, .iadd, 1), (350, .iaload, 1), (351, .invokevirtual 42, 3), (354, .if_icmp .eq 449, 3), (357, .iconst 0, 1), (358, .ireturn, 1), (803, .iinc 3 6, 3), (806, .goto (-788), 3)]
theorem oL_c6 : ∀ q ∈ pL_c6, decode cL_law q.1 = .ok (q.2.1, q.2.2) := by decide +kernel
def pL_c7 : List (Nat × Instr × Nat) := [(359, .aload_n 1, 1), (360, .aload_n 0, 1), (361, .iload_n 3, 1), (362, .iconst 1, 1), (363, .iadd, 1), (364, .iaload, 1), (365, .aload_n 0, 1), (366, .iload_n 3, 1), (367, .iconst 2, 1), (368, .iadd, 1), (369, .iaload, 1), (370, .invokevirtual 43, 3), (373, .aload_n 2, 1), (374, .aload_n 0, 1), (375, .iload_n 3, 1), (376, .iconst 1, 1), (377, .iadd, 1), (378, .iaload, 1), (379, .aload_n 0, 1), (380, .iload_n 3, 1), (381, .iconst 2, 1), (382, .iadd, 1), (383, .iaload, 1), (384, .invokevirtual 46, 3), (387, .if_icmp .eq 416, 3), (390, .iconst 0, 1), (391, .ireturn, 1), (803, .iinc 3 6, 3), (806, .goto (-788), 3)]
theorem oL_c7 : ∀ q ∈ pL_c7, decode cL_law q.1 = .ok (q.2.1, q.2.2) := by decide +kernel
def pL_c8 : List (Nat × Instr × Nat) := [(392, .aload_n 1, 1), (393, .invokevirtual 47, 3), (396, .aload_n 2, 1), (397, .invokevirtual 51, 3), (400, .if_icmp .eq 403, 3), (403, .iconst 0, 1), (404, .ireturn, 1), (803, .iinc 3 6, 3), (806, .goto (-788), 3)]
theorem oL_c8 : ∀ q ∈ pL_c8, decode cL_law q.1 = .ok (q.2.1, q.2.2) := by decide +kernel
def pL_c9 : List (Nat × Instr × Nat) := [(405, .aload_n 1, 1), (406, .aload_n 0, 1), (407, .iload_n 3, 1), (408, .iconst 1, 1), (409, .iadd, 1), (410, .iaload, 1), (411, .invokevirtual 52, 3), (414, .aload_n 2, 1), (415, .aload_n 0, 1), (416, .iload_n 3, 1), (417, .iconst 1, 1), (418, .iadd, 1), (419, .iaload, 1), (420, .invokevirtual 55, 3), (423, .if_icmp .eq 380, 3), (426, .iconst 0, 1), (427, .ireturn, 1), (803, .iinc 3 6, 3), (806, .goto (-788), 3)]
theorem oL_c9 : ∀ q ∈ pL_c9, decode cL_law q.1 = .ok (q.2.1, q.2.2) := by decide +kernel
def pL_c10 : List (Nat × Instr × Nat) := [(428, .aload_n 1, 1), (429, .aload_n 0, 1), (430, .iload_n 3, 1), (431, .iconst 1, 1), (432, .iadd, 1), (433, .iaload, 1), (434, .invokevirtual 56, 3), (437, .aload_n 2, 1), (438, .aload_n 0, 1), (439, .iload_n 3, 1), (440, .iconst 1, 1), (441, .iadd, 1), (442, .iaload, 1), (443, .invokevirtual 59, 3), (446, .if_icmp .eq 357, 3), (449, .iconst 0, 1), (450, .ireturn, 1), (803, .iinc 3 6, 3), (806, .goto (-788), 3)]
theorem oL_c10 : ∀ q ∈ pL_c10, decode cL_law q.1 = .ok (q.2.1, q.2.2) := by decide +kernel
def pL_c11 : List (Nat × Instr × Nat) := [(451, .aload_n 1, 1), (452, .aload_n 0, 1), (453, .iload_n 3, 1), (454, .iconst 1, 1), (455, .iadd, 1), (456, .iaload, 1), (457, .invokevirtual 60, 3), (460, .aload_n 2, 1), (461, .aload_n 0, 1), (462, .iload_n 3, 1), (463, .iconst 1, 1), (464, .iadd, 1), (465, .iaload, 1), (466, .invokevirtual 63, 3), (469, .if_icmp .eq 334, 3), (472, .iconst 0, 1), (473, .ireturn, 1), (803, .iinc 3 6, 3), (806, .goto (-788), 3)]
theorem oL_c11 : ∀ q ∈ pL_c11, decode cL_law q.1 = .ok (q.2.1, q.2.2) := by decide +kernel
def pL_c12 : List (Nat × Instr × Nat) := [(474, .aload_n 1, 1), (475, .invokevirtual 64, 3), (478, .aload_n 2, 1), (479, .invokevirtual 67, 3), (482, .if_icmp .eq 321, 3), (485, .iconst 0, 1), (486, .ireturn, 1), (803, .iinc 3 6, 3), (806, .goto (-788), 3)]
theorem oL_c12 : ∀ q ∈ pL_c12, decode cL_law q.1 = .ok (q.2.1, q.2.2) := by decide +kernel
def pL_c13 : List (Nat × Instr × Nat) := [(487, .aload_n 1, 1), (488, .aload_n 0, 1), (489, .iload_n 3, 1), (490, .iconst 1, 1), (491, .iadd, 1), (492, .iaload, 1), (493, .invokevirtual 68, 3), (496, .aload_n 2, 1), (497, .aload_n 0, 1), (498, .iload_n 3, 1), (499, .iconst 1, 1), (500, .iadd, 1), (501, .iaload, 1), (502, .invokevirtual 71, 3), (505, .if_icmp .eq 298, 3), (508, .iconst 0, 1), (509, .ireturn, 1), (803, .iinc 3 6, 3), (806, .goto (-788), 3)]
theorem oL_c13 : ∀ q ∈ pL_c13, decode cL_law q.1 = .ok (q.2.1, q.2.2) := by decide +kernel
def pL_c14 : List (Nat × Instr × Nat) := [(510, .aload_n 1, 1), (511, .aload_n 0, 1), (512, .iload_n 3, 1), (513, .iconst 1, 1), (514, .iadd, 1), (515, .iaload, 1), (516, .invokevirtual 72, 3), (519, .aload_n 2, 1), (520, .aload_n 0, 1), (521, .iload_n 3, 1), (522, .iconst 1, 1), (523, .iadd, 1), (524, .iaload, 1), (525, .invokevirtual 75, 3), (528, .if_icmp .eq 275, 3), (531, .iconst 0, 1), (532, .ireturn, 1), (803, .iinc 3 6, 3), (806, .goto (-788), 3)]
theorem oL_c14 : ∀ q ∈ pL_c14, decode cL_law q.1 = .ok (q.2.1, q.2.2) := by decide +kernel
def pL_c15 : List (Nat × Instr × Nat) := [(533, .aload_n 1, 1), (534, .aload_n 0, 1), (535, .iload_n 3, 1), (536, .iconst 1, 1), (537, .iadd, 1), (538, .iaload, 1), (539, .invokevirtual 76, 3), (542, .aload_n 2, 1), (543, .aload_n 0, 1), (544, .iload_n 3, 1), (545, .iconst 1, 1), (546, .iadd, 1), (547, .iaload, 1), (548, .invokevirtual 79, 3), (551, .if_icmp .eq 252, 3), (554, .iconst 0, 1), (555, .ireturn, 1), (803, .iinc 3 6, 3), (806, .goto (-788), 3)]
theorem oL_c15 : ∀ q ∈ pL_c15, decode cL_law q.1 = .ok (q.2.1, q.2.2) := by decide +kernel
def pL_c16 : List (Nat × Instr × Nat) := [(556, .aload_n 1, 1), (557, .aload_n 0, 1), (558, .iload_n 3, 1), (559, .iconst 1, 1), (560, .iadd, 1), (561, .iaload, 1), (562, .invokevirtual 80, 3), (565, .aload_n 2, 1), (566, .aload_n 0, 1), (567, .iload_n 3, 1), (568, .iconst 1, 1), (569, .iadd, 1), (570, .iaload, 1), (571, .invokevirtual 83, 3), (574, .if_icmp .eq 229, 3), (577, .iconst 0, 1), (578, .ireturn, 1), (803, .iinc 3 6, 3), (806, .goto (-788), 3)]
theorem oL_c16 : ∀ q ∈ pL_c16, decode cL_law q.1 = .ok (q.2.1, q.2.2) := by decide +kernel
def pL_c17 : List (Nat × Instr × Nat) := [(579, .aload_n 1, 1), (580, .aload_n 0, 1), (581, .iload_n 3, 1), (582, .iconst 1, 1), (583, .iadd, 1), (584, .iaload, 1), (585, .aload_n 0, 1), (586, .iload_n 3, 1), (587, .iconst 2, 1), (588, .iadd, 1), (589, .iaload, 1), (590, .aload_n 0, 1), (591, .iload_n 3, 1), (592, .iconst 3, 1), (593, .iadd, 1), (594, .iaload, 1), (595, .aload_n 0, 1), (596, .iload_n 3, 1), (597, .iconst 4, 1), (598, .iadd, 1), (599, .iaload, 1), (600, .aload_n 0, 1), (601, .iload_n 3, 1), (602, .iconst 5, 1), (603, .iadd, 1), (604, .iaload, 1), (605, .invokevirtual 84, 3), (608, .aload_n 2, 1), (609, .aload_n 0, 1), (610, .iload_n 3, 1), (611, .iconst 1, 1), (612, .iadd, 1), (613, .iaload, 1), (614, .aload_n 0, 1), (615, .iload_n 3, 1), (616, .iconst 2, 1), (617, .iadd, 1), (618, .iaload, 1), (619, .aload_n 0, 1), (620, .iload_n 3, 1), (621, .iconst 3, 1), (622, .iadd, 1), (623, .iaload, 1), (624, .aload_n 0, 1), (625, .iload_n 3, 1), (626, .iconst 4, 1), (627, .iadd, 1), (628, .iaload, 1), (629, .aload_n 0, 1), (630, .iload_n 3, 1), (631, .iconst 5, 1), (632, .iadd, 1), (633, .iaload, 1), (634, .invokevirtual 88, 3), (637, .if_icmp .eq 166, 3), (640, .iconst 0, 1), (641, .ireturn, 1), (803, .iinc 3 6, 3), (806, .goto (-788), 3)]
theorem oL_c17 : ∀ q ∈ pL_c17, decode cL_law q.1 = .ok (q.2.1, q.2.2) := by decide +kernel
def pL_c18 : List (Nat × Instr × Nat) := [(642, .aload_n 1, 1), (643, .invokevirtual 89, 3), (646, .aload_n 2, 1), (647, .invokevirtual 92, 3), (650, .if_icmp .eq 153, 3), (653, .iconst 0, 1), (654, .ireturn, 1), (803, .iinc 3 6, 3), (806, .goto (-788), 3)]
theorem oL_c18 : ∀ q ∈ pL_c18, decode cL_law q.1 = .ok (q.2.1, q.2.2) := by decide +kernel
def pL_c19 : List (Nat × Instr × Nat) := [(655, .aload_n 1, 1), (656, .aload_n 0, 1), (657, .iload_n 3, 1), (658, .iconst 1, 1), (659, .iadd, 1), (660, .iaload, 1), (661, .invokevirtual 93, 3), (664, .aload_n 2, 1), (665, .aload_n 0, 1), (666, .iload_n 3, 1), (667, .iconst 1, 1), (668, .iadd, 1), (669, .iaload, 1), (670, .invokevirtual 96, 3), (673, .if_icmp .eq 130, 3), (676, .iconst 0, 1), (677, .ireturn, 1), (803, .iinc 3 6, 3), (806, .goto (-788), 3)]
theorem oL_c19 : ∀ q ∈ pL_c19, decode cL_law q.1 = .ok (q.2.1, q.2.2) := by decide +kernel
def pL_c20 : List (Nat × Instr × Nat) := [(678, .aload_n 1, 1), (679, .aload_n 0, 1), (680, .iload_n 3, 1), (681, .iconst 1, 1), (682, .iadd, 1), (683, .iaload, 1), (684, .aload_n 0, 1), (685, .iload_n 3, 1), (686, .iconst 2, 1), (687, .iadd, 1), (688, .iaload, 1), (689, .aload_n 0, 1), (690, .iload_n 3, 1), (691, .iconst 3, 1), (692, .iadd, 1), (693, .iaload, 1), (694, .invokevirtual 97, 3), (697, .aload_n 2, 1), (698, .aload_n 0, 1), (699, .iload_n 3, 1), (700, .iconst 1, 1), (701, .iadd, 1), (702, .iaload, 1), (703, .aload_n 0, 1), (704, .iload_n 3, 1), (705, .iconst 2, 1), (706, .iadd, 1), (707, .iaload, 1), (708, .aload_n 0, 1), (709, .iload_n 3, 1), (710, .iconst 3, 1), (711, .iadd, 1), (712, .iaload, 1), (713, .invokevirtual 101, 3), (716, .if_icmp .eq 87, 3), (719, .iconst 0, 1), (720, .ireturn, 1), (803, .iinc 3 6, 3), (806, .goto (-788), 3)]
theorem oL_c20 : ∀ q ∈ pL_c20, decode cL_law q.1 = .ok (q.2.1, q.2.2) := by decide +kernel
def pL_c21 : List (Nat × Instr × Nat) := [(721, .aload_n 1, 1), (722, .invokevirtual 102, 3), (725, .aload_n 2, 1), (726, .invokevirtual 105, 3), (729, .if_icmp .eq 74, 3), (732, .iconst 0, 1), (733, .ireturn, 1), (803, .iinc 3 6, 3), (806, .goto (-788), 3)]
theorem oL_c21 : ∀ q ∈ pL_c21, decode cL_law q.1 = .ok (q.2.1, q.2.2) := by decide +kernel
def pL_c22 : List (Nat × Instr × Nat) := [(734, .aload_n 1, 1), (735, .aload_n 0, 1), (736, .iload_n 3, 1), (737, .iconst 1, 1), (738, .iadd, 1), (739, .iaload, 1), (740, .invokevirtual 106, 3), (743, .aload_n 2, 1), (744, .aload_n 0, 1), (745, .iload_n 3, 1), (746, .iconst 1, 1), (747, .iadd, 1), (748, .iaload, 1), (749, .invokevirtual 109, 3), (752, .if_icmp .eq 51, 3), (755, .iconst 0, 1), (756, .ireturn, 1), (803, .iinc 3 6, 3), (806, .goto (-788), 3)]
theorem oL_c22 : ∀ q ∈ pL_c22, decode cL_law q.1 = .ok (q.2.1, q.2.2) := by decide +kernel
def pL_c23 : List (Nat × Instr × Nat) := [(757, .aload_n 1, 1), (758, .aload_n 0, 1), (759, .iload_n 3, 1), (760, .iconst 1, 1), (761, .iadd, 1), (762, .iaload, 1), (763, .invokevirtual 110, 3), (766, .aload_n 2, 1), (767, .aload_n 0, 1), (768, .iload_n 3, 1), (769, .iconst 1, 1), (770, .iadd, 1), (771, .iaload, 1), (772, .invokevirtual 113, 3), (775, .if_icmp .eq 28, 3), (778, .iconst 0, 1), (779, .ireturn, 1), (803, .iinc 3 6, 3), (806, .goto (-788), 3)]
theorem oL_c23 : ∀ q ∈ pL_c23, decode cL_law q.1 = .ok (q.2.1, q.2.2) := by decide +kernel
def pL_c24 : List (Nat × Instr × Nat) := [(780, .aload_n 1, 1), (781, .aload_n 0, 1), (782, .iload_n 3, 1), (783, .iconst 1, 1), (784, .iadd, 1), (785, .iaload, 1), (786, .invokevirtual 114, 3), (789, .aload_n 2, 1), (790, .aload_n 0, 1), (791, .iload_n 3, 1), (792, .iconst 1, 1), (793, .iadd, 1), (794, .iaload, 1), (795, .invokevirtual 117, 3), (798, .if_icmp .eq 5, 3), (801, .iconst 0, 1), (802, .ireturn, 1), (803, .iinc 3 6, 3), (806, .goto (-788), 3)]
theorem oL_c24 : ∀ q ∈ pL_c24, decode cL_law q.1 = .ok (q.2.1, q.2.2) := by decide +kernel
def pL_h : List (Nat × Instr × Nat) := [(0, .new 7, 3), (3, .dup, 1), (4, .invokespecial 9, 3), (7, .astore_n 1, 1), (8, .new 10, 3), (11, .dup, 1), (12, .invokespecial 12, 3), (15, .astore_n 2, 1), (16, .iconst 0, 1), (17, .istore_n 3, 1), (18, .iload_n 3, 1), (19, .aload_n 0, 1), (20, .arraylength, 1), (21, .bipush 6, 2), (23, .isub, 1), (24, .if_icmp .gt 785, 3), (27, .aload_n 0, 1), (28, .iload_n 3, 1), (29, .iaload, 1), (30, .bipush 31, 2), (32, .iand, 1), (33, .tableswitch 770 0 24 #[115, 138, 171, 204, 237, 270, 303, 326, 359, 372, 395, 418, 441, 454, 477, 500, 523, 546, 609, 622, 645, 688, 701, 724, 747], 115), (803, .iinc 3 6, 3), (806, .goto (-788), 3), (809, .iconst 1, 1), (810, .ireturn, 1)]
theorem oL_h : ∀ q ∈ pL_h, decode cL_law q.1 = .ok (q.2.1, q.2.2) := by decide +kernel
