/-! longs as their bits -/
abbrev u64 (x : Int64) : Nat := x.toBitVec.toNat
theorem bu_amt : ∀ m : Nat, m < 64 → (((nI m).toInt64.toUInt64 &&& Int64.toUInt64 63).toBitVec % 64#64).toNat = m := by decide +kernel
theorem bu_shr (x : Int64) {m : Nat} (hm : m < 64) : u64 ((x.toUInt64 >>> ((nI m).toInt64.toUInt64 &&& Int64.toUInt64 63)).toInt64) = u64 x / 2 ^ m := by
  show (x.toBitVec >>> (((nI m).toInt64.toUInt64 &&& Int64.toUInt64 63).toBitVec % 64#64).toNat).toNat = _
  rw [bu_amt m hm, BitVec.toNat_ushiftRight, Nat.shiftRight_eq_div_pow]
theorem bu_and (x y : Int64) : u64 (x &&& y) = u64 x &&& u64 y := rfl
theorem bu_add (x y : Int64) (h : u64 x + u64 y < 2 ^ 64) : u64 (x + y) = u64 x + u64 y := by
  show (x.toBitVec + y.toBitVec).toNat = _
  rw [BitVec.toNat_add, Nat.mod_eq_of_lt h]
theorem bu_sub (x y : Int64) (h : u64 y ≤ u64 x) : u64 (x - y) = u64 x - u64 y := by
  show (x.toBitVec - y.toBitVec).toNat = _
  rw [BitVec.toNat_sub]
  have h1 : u64 x < 2 ^ 64 := x.toBitVec.isLt
  have h2 : u64 y < 2 ^ 64 := y.toBitVec.isLt
  unfold u64 at *
  omega
/-- how many bits of a long are set -/
def bcnt (x : Int64) : Nat := mo_cnt (fun k => x.toBitVec.getLsbD k) 64
abbrev bsh (x : Int64) (m : Nat) : Int64 := (x.toUInt64 >>> ((nI m).toInt64.toUInt64 &&& Int64.toUInt64 63)).toInt64
theorem bu_cnt {x x1 x2 x3 x4 x5 x6 : Int64} (h1 : x1 = x - (bsh x 1 &&& 6148914691236517205)) (h2 : x2 = (x1 &&& 3689348814741910323) + (bsh x1 2 &&& 3689348814741910323)) (h3 : x3 = (x2 + bsh x2 4) &&& 1085102592571150095) (h4 : x4 = x3 + bsh x3 8) (h5 : x5 = x4 + bsh x4 16) (h6 : x6 = x5 + bsh x5 32) : x6.toInt32 &&& nI 127 = nI (bcnt x) := by
  have m1 : u64 6148914691236517205 = bm 4 1 32 := by decide +kernel
  have m2 : u64 3689348814741910323 = bm 16 3 16 := by decide +kernel
  have m3 : u64 1085102592571150095 = bm 256 15 8 := by decide +kernel
  have X0 : u64 x < 4 ^ 32 := x.toBitVec.isLt
  have p1 := bp1 32 (u64 x) X0
  have a1 : u64 x1 = bg1 32 (u64 x) := by
    rw [h1, bu_sub, bu_and, bu_shr x (by decide), m1]
    · exact p1.2
    · rw [bu_and, bu_shr x (by decide), m1]; exact p1.1
  have s1 := bs1 32 (u64 x)
  rw [← a1] at s1
  have X1 : u64 x1 < 16 ^ 16 := x1.toBitVec.isLt
  have p2 := bp2 16 (u64 x1) X1
  have a2 : u64 x2 = bg2 16 (u64 x1) := by
    have hlt := bg2_lt 16 (u64 x1)
    rw [h2, bu_add, bu_and, bu_and, bu_shr x1 (by decide), m2]
    · exact p2
    · rw [bu_and, bu_and, bu_shr x1 (by decide), m2]
      rw [show (2 : Nat) ^ 2 = 4 from rfl, p2]
      exact hlt
  have s2 := bs2 16 (u64 x1) s1.2
  rw [← a2] at s2
  have X2 : u64 x2 < 256 ^ 8 := x2.toBitVec.isLt
  have p3 := bp3 8 (u64 x2) X2 s2.2
  have l2 : u64 x2 + u64 x2 / 16 < 2 ^ 64 := by
    have hd := s2.2
    have : u64 x2 < 2 ^ 63 := by
      have q : u64 x2 / 16 / 16 / 16 / 16 / 16 / 16 / 16 / 16 / 16 / 16 / 16 / 16 / 16 / 16 / 16 % 16 ≤ 4 := hd.2.2.2.2.2.2.2.2.2.2.2.2.2.2.2.1
      have X2' : u64 x2 < 2 ^ 64 := X2
      simp only [Nat.div_div_eq_div_mul, Nat.reduceMul] at q
      omega
    omega
  have a3 : u64 x3 = bg3 8 (u64 x2) := by
    rw [h3, bu_and, bu_add, bu_shr x2 (by decide), m3]
    · exact p3
    · rw [bu_shr x2 (by decide)]; exact l2
  have s3 := bs3 8 (u64 x2) s2.2
  rw [← a3] at s3
  have X3 : u64 x3 < 256 ^ 8 := x3.toBitVec.isLt
  have p4 := bp4 X3 s3.2
  have a4 : u64 x4 = u64 x3 + u64 x3 / 256 := by
    rw [h4, bu_add, bu_shr x3 (by decide)]
    rw [bu_shr x3 (by decide)]; exact p4.2.1
  have a5 : u64 x5 = u64 x4 + u64 x4 / 65536 := by
    rw [h5, bu_add, bu_shr x4 (by decide)]
    rw [bu_shr x4 (by decide), a4]; exact p4.2.2.1
  have a6 : u64 x6 = u64 x5 + u64 x5 / 4294967296 := by
    rw [h6, bu_add, bu_shr x5 (by decide)]
    rw [bu_shr x5 (by decide), a5, a4]; exact p4.2.2.2
  have e : u64 x6 % 128 = bcnt x := by
    rw [a6, a5, a4, p4.1, s3.1, s2.1, s1.1]
    exact bS2_cnt (u64 x) 64
  rw [pk_and _ 7 (by decide)]
  congr 1
  rw [← e]
  rw [Int64.toBitVec_toInt32]
  first | rw [BitVec.signExtend_eq_setWidth_of_le _ (by decide)] | rw [BitVec.signExtend_eq_setWidth_of_lt _ (by decide)]
  rw [BitVec.toNat_setWidth]
  unfold u64
  omega
/-- one bit -/
theorem bu_one (x : BitVec 64) : x &&& 1#64 = 1#64 ↔ x.getLsbD 0 = true := by
  constructor
  · intro h
    have := congrArg (fun z => BitVec.getLsbD z 0) h
    simpa using this
  · intro h
    apply BitVec.eq_of_getLsbD_eq
    intro i hi
    by_cases h0 : i = 0
    · subst h0; simp [h]
    · simp [h0]
theorem bu_get (x : Int64) {m : Nat} (hm : m < 64) : bsh x m &&& 1 = 1 ↔ x.toBitVec.getLsbD m = true := by
  rw [← Int64.toBitVec_inj]
  show (x.toBitVec >>> (((nI m).toInt64.toUInt64 &&& Int64.toUInt64 63).toBitVec % 64#64).toNat) &&& 1#64 = 1#64 ↔ _
  rw [bu_one, bu_amt m hm, BitVec.getLsbD_ushiftRight]
  simp
theorem bu_amtS : ∀ m : Nat, m < 64 → (((nI m).toInt64 &&& 63).toBitVec.smod 64).toNat = m := by decide +kernel
theorem bu_set (x : Int64) {m i : Nat} (hm : m < 64) (hi : i < 64) : (x ||| 1 <<< ((nI m).toInt64 &&& 63)).toBitVec.getLsbD i = (x.toBitVec.getLsbD i || decide (i = m)) := by
  show (x.toBitVec ||| (1#64 <<< (((nI m).toInt64 &&& 63).toBitVec.smod 64).toNat)).getLsbD i = _
  rw [bu_amtS m hm, BitVec.getLsbD_or, BitVec.getLsbD_shiftLeft]
  congr 1
  by_cases h1 : i = m
  · subst h1; simp [hi]
  · by_cases h2 : i < m
    · simp [h2, h1]
    · have h3 : i - m ≠ 0 := by omega
      simp [hi, h2, h1, h3]
theorem bu_clr (x : Int64) {m i : Nat} (hm : m < 64) (hi : i < 64) : (x &&& ((1 <<< ((nI m).toInt64 &&& 63)) ^^^ (-1))).toBitVec.getLsbD i = (x.toBitVec.getLsbD i && !decide (i = m)) := by
  show (x.toBitVec &&& ((1#64 <<< (((nI m).toInt64 &&& 63).toBitVec.smod 64).toNat) ^^^ BitVec.allOnes 64)).getLsbD i = _
  rw [bu_amtS m hm, BitVec.getLsbD_and, BitVec.getLsbD_xor, BitVec.getLsbD_shiftLeft, BitVec.getLsbD_allOnes]
  congr 1
  by_cases h1 : i = m
  · subst h1; simp [hi]
  · by_cases h2 : i < m
    · simp [h2, h1, hi]
    · have h3 : i - m ≠ 0 := by omega
      simp [hi, h2, h1, h3]
