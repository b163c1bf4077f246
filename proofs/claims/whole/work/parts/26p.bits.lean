/-! bits of longs; how many there are -/
theorem bl_and (w X m : Nat) : X &&& m = 2 ^ w * ((X / 2 ^ w) &&& (m / 2 ^ w)) + ((X % 2 ^ w) &&& (m % 2 ^ w)) := by
  rw [← Nat.and_div_two_pow, ← Nat.and_mod_two_pow]
  exact (Nat.div_add_mod _ _).symm
def bm (B d : Nat) : Nat → Nat
  | 0 => 0
  | n + 1 => B * bm B d n + d
def bg1 : Nat → Nat → Nat
  | 0, _ => 0
  | n + 1, X => 4 * bg1 n (X / 4) + (X % 4 - X % 4 / 2)
def bg2 : Nat → Nat → Nat
  | 0, _ => 0
  | n + 1, X => 16 * bg2 n (X / 16) + (X % 4 + X % 16 / 4)
def bg3 : Nat → Nat → Nat
  | 0, _ => 0
  | n + 1, X => 256 * bg3 n (X / 256) + (X % 16 + X % 256 / 16)
/-- the sum of the digits -/
def bS (B : Nat) : Nat → Nat → Nat
  | 0, _ => 0
  | n + 1, X => X % B + bS B n (X / B)
theorem bm_s (B d n : Nat) : bm B d (n + 1) = B * bm B d n + d := rfl
theorem bg1_s (n X : Nat) : bg1 (n + 1) X = 4 * bg1 n (X / 4) + (X % 4 - X % 4 / 2) := rfl
theorem bg2_s (n X : Nat) : bg2 (n + 1) X = 16 * bg2 n (X / 16) + (X % 4 + X % 16 / 4) := rfl
theorem bg3_s (n X : Nat) : bg3 (n + 1) X = 256 * bg3 n (X / 256) + (X % 16 + X % 256 / 16) := rfl
theorem bp1 : ∀ n X, X < 4 ^ n → (X / 2 &&& bm 4 1 n) ≤ X ∧ X - (X / 2 &&& bm 4 1 n) = bg1 n X
  | 0, X, h => by
    have : X = 0 := by simpa using h
    subst this
    exact ⟨by decide, by decide⟩
  | n + 1, X, h => by
    have ih := bp1 n (X / 4) (by rw [Nat.pow_succ] at h; omega)
    have e := bl_and 2 (X / 2) (bm 4 1 (n + 1))
    have e1 : X / 2 / 2 ^ 2 = X / 4 / 2 := by omega
    have e2 : bm 4 1 (n + 1) / 2 ^ 2 = bm 4 1 n := by rw [bm_s]; omega
    have e3 : bm 4 1 (n + 1) % 2 ^ 2 = 1 := by rw [bm_s]; omega
    have e4 : X / 2 % 2 ^ 2 &&& 1 = X / 2 % 2 := by
      have := Nat.and_two_pow_sub_one_eq_mod (X / 2 % 2 ^ 2) 1
      rw [show 2 ^ 1 - 1 = 1 from rfl] at this
      rw [this]; omega
    rw [e1, e2, e3, e4] at e
    rw [e]
    rw [bg1_s]
    generalize (X / 4 / 2 &&& bm 4 1 n) = a at *
    omega
theorem bp2 : ∀ n X, X < 16 ^ n → (X &&& bm 16 3 n) + (X / 4 &&& bm 16 3 n) = bg2 n X
  | 0, X, h => by
    have : X = 0 := by simpa using h
    subst this
    decide
  | n + 1, X, h => by
    have ih := bp2 n (X / 16) (by rw [Nat.pow_succ] at h; omega)
    have e := bl_and 4 X (bm 16 3 (n + 1))
    have e' := bl_and 4 (X / 4) (bm 16 3 (n + 1))
    have e1 : X / 4 / 2 ^ 4 = X / 16 / 4 := by omega
    have e2 : bm 16 3 (n + 1) / 2 ^ 4 = bm 16 3 n := by rw [bm_s]; omega
    have e3 : bm 16 3 (n + 1) % 2 ^ 4 = 3 := by rw [bm_s]; omega
    have e4 : ∀ z : Nat, z &&& 3 = z % 4 := fun z => Nat.and_two_pow_sub_one_eq_mod z 2
    rw [e2, e3, e4] at e e'
    rw [e1] at e'
    rw [show X / 2 ^ 4 = X / 16 from rfl] at e
    rw [e, e']
    rw [bg2_s]
    generalize (X / 16 &&& bm 16 3 n) = a at *
    generalize (X / 16 / 4 &&& bm 16 3 n) = b at *
    omega
/-- every digit is at most d -/
def bD (B d : Nat) : Nat → Nat → Prop
  | 0, _ => True
  | n + 1, X => X % B ≤ d ∧ bD B d n (X / B)
theorem bp3 : ∀ n X, X < 256 ^ n → bD 16 4 (n + n) X → (X + X / 16 &&& bm 256 15 n) = bg3 n X
  | 0, X, h, _ => by
    have : X = 0 := by simpa using h
    subst this
    decide
  | n + 1, X, h, hd => by
    rw [show n + 1 + (n + 1) = (n + n + 1) + 1 by omega] at hd
    have d1 : X % 16 ≤ 4 := hd.1
    have d2 : X / 16 % 16 ≤ 4 := hd.2.1
    have d3 : bD 16 4 (n + n) (X / 256) := by
      have := hd.2.2
      rw [Nat.div_div_eq_div_mul] at this
      exact this
    have ih := bp3 n (X / 256) (by rw [Nat.pow_succ] at h; omega) d3
    have d4 : X / 256 % 16 ≤ 4 := by
      cases n with
      | zero => rw [Nat.pow_succ] at h; simp at h; omega
      | succ n => rw [show n + 1 + (n + 1) = (n + n + 1) + 1 by omega] at d3; exact d3.1
    have e0 : X / 16 / 16 = X / 256 := Nat.div_div_eq_div_mul X 16 16
    have e := bl_and 8 (X + X / 16) (bm 256 15 (n + 1))
    have e1 : (X + X / 16) / 2 ^ 8 = X / 256 + X / 256 / 16 := by omega
    have e2 : bm 256 15 (n + 1) / 2 ^ 8 = bm 256 15 n := by rw [bm_s]; omega
    have e3 : bm 256 15 (n + 1) % 2 ^ 8 = 15 := by rw [bm_s]; omega
    have e4 : ∀ z : Nat, z &&& 15 = z % 16 := fun z => Nat.and_two_pow_sub_one_eq_mod z 4
    rw [e1, e2, e3, e4, ih] at e
    rw [e]
    rw [bg3_s]
    omega
theorem bs1 : ∀ n X, bS 4 n (bg1 n X) = bS 2 (n + n) X ∧ bD 4 2 n (bg1 n X)
  | 0, _ => ⟨rfl, trivial⟩
  | n + 1, X => by
    have e0 : X / 2 / 2 = X / 4 := Nat.div_div_eq_div_mul X 2 2
    have ih := bs1 n (X / 4)
    have e1 : (bg1 (n + 1) X) % 4 = X % 4 - X % 4 / 2 := by rw [bg1_s]; omega
    have e2 : (bg1 (n + 1) X) / 4 = bg1 n (X / 4) := by rw [bg1_s]; omega
    rw [show n + 1 + (n + 1) = (n + n + 1) + 1 by omega]
    refine ⟨?_, ?_, ?_⟩
    · show (bg1 (n + 1) X) % 4 + bS 4 n ((bg1 (n + 1) X) / 4) = X % 2 + (X / 2 % 2 + bS 2 (n + n) (X / 2 / 2))
      rw [e1, e2, ih.1, e0]
      omega
    · rw [e1]; omega
    · rw [e2]; exact ih.2
theorem bs2 : ∀ n X, bD 4 2 (n + n) X → bS 16 n (bg2 n X) = bS 4 (n + n) X ∧ bD 16 4 n (bg2 n X)
  | 0, _, _ => ⟨rfl, trivial⟩
  | n + 1, X, hd => by
    rw [show n + 1 + (n + 1) = (n + n + 1) + 1 by omega] at hd ⊢
    have d1 : X % 4 ≤ 2 := hd.1
    have d2 : X / 4 % 4 ≤ 2 := hd.2.1
    have d3 : bD 4 2 (n + n) (X / 16) := by
      have := hd.2.2
      rw [Nat.div_div_eq_div_mul] at this
      exact this
    have e0 : X / 4 / 4 = X / 16 := Nat.div_div_eq_div_mul X 4 4
    have ih := bs2 n (X / 16) d3
    have e1 : (bg2 (n + 1) X) % 16 = X % 4 + X % 16 / 4 := by rw [bg2_s]; omega
    have e2 : (bg2 (n + 1) X) / 16 = bg2 n (X / 16) := by rw [bg2_s]; omega
    refine ⟨?_, ?_, ?_⟩
    · show (bg2 (n + 1) X) % 16 + bS 16 n ((bg2 (n + 1) X) / 16) = X % 4 + (X / 4 % 4 + bS 4 (n + n) (X / 4 / 4))
      rw [e1, e2, ih.1, e0]
      omega
    · rw [e1]; omega
    · rw [e2]; exact ih.2
theorem bs3 : ∀ n X, bD 16 4 (n + n) X → bS 256 n (bg3 n X) = bS 16 (n + n) X ∧ bD 256 8 n (bg3 n X)
  | 0, _, _ => ⟨rfl, trivial⟩
  | n + 1, X, hd => by
    rw [show n + 1 + (n + 1) = (n + n + 1) + 1 by omega] at hd ⊢
    have d1 : X % 16 ≤ 4 := hd.1
    have d2 : X / 16 % 16 ≤ 4 := hd.2.1
    have d3 : bD 16 4 (n + n) (X / 256) := by
      have := hd.2.2
      rw [Nat.div_div_eq_div_mul] at this
      exact this
    have e0 : X / 16 / 16 = X / 256 := Nat.div_div_eq_div_mul X 16 16
    have ih := bs3 n (X / 256) d3
    have e1 : (bg3 (n + 1) X) % 256 = X % 16 + X % 256 / 16 := by rw [bg3_s]; omega
    have e2 : (bg3 (n + 1) X) / 256 = bg3 n (X / 256) := by rw [bg3_s]; omega
    refine ⟨?_, ?_, ?_⟩
    · show (bg3 (n + 1) X) % 256 + bS 256 n ((bg3 (n + 1) X) / 256) = X % 16 + (X / 16 % 16 + bS 16 (n + n) (X / 16 / 16))
      rw [e1, e2, ih.1, e0]
      omega
    · rw [e1]; omega
    · rw [e2]; exact ih.2
theorem bg1_lt : ∀ n X, bg1 n X < 4 ^ n
  | 0, _ => Nat.zero_lt_one
  | n + 1, X => by have := bg1_lt n (X / 4); rw [bg1_s]; rw [Nat.pow_succ]; omega
theorem bg2_lt : ∀ n X, bg2 n X < 16 ^ n
  | 0, _ => Nat.zero_lt_one
  | n + 1, X => by have := bg2_lt n (X / 16); rw [bg2_s]; rw [Nat.pow_succ]; omega
theorem bg3_lt : ∀ n X, bg3 n X < 256 ^ n
  | 0, _ => Nat.zero_lt_one
  | n + 1, X => by have := bg3_lt n (X / 256); rw [bg3_s]; rw [Nat.pow_succ]; omega
/-- the last steps: eight bytes are summed -/
theorem bp4' {X d0 d1 d2 d3 d4 d5 d6 d7 : Nat} (h0 : d0 ≤ 8) (h1 : d1 ≤ 8) (h2 : d2 ≤ 8) (h3 : d3 ≤ 8) (h4 : d4 ≤ 8) (h5 : d5 ≤ 8) (h6 : d6 ≤ 8) (h7 : d7 ≤ 8) (hX : X = 1 * d0 + 256 * d1 + 65536 * d2 + 16777216 * d3 + 4294967296 * d4 + 1099511627776 * d5 + 281474976710656 * d6 + 72057594037927936 * d7) : (X + X / 256 + (X + X / 256) / 65536 + (X + X / 256 + (X + X / 256) / 65536) / 4294967296) % 128 = d0 + (d1 + (d2 + (d3 + (d4 + (d5 + (d6 + d7)))))) ∧ X + X / 256 < 2 ^ 64 ∧ X + X / 256 + (X + X / 256) / 65536 < 2 ^ 64 ∧ X + X / 256 + (X + X / 256) / 65536 + (X + X / 256 + (X + X / 256) / 65536) / 4294967296 < 2 ^ 64 := by
  have e1 : X / 256 = 1 * (d1) + 256 * (d2) + 65536 * (d3) + 16777216 * (d4) + 4294967296 * (d5) + 1099511627776 * (d6) + 281474976710656 * (d7) := by omega
  have e2 : X + X / 256 = 1 * (d0 + d1) + 256 * (d1 + d2) + 65536 * (d2 + d3) + 16777216 * (d3 + d4) + 4294967296 * (d4 + d5) + 1099511627776 * (d5 + d6) + 281474976710656 * (d6 + d7) + 72057594037927936 * (d7 + 0) := by rw [e1]; omega
  generalize X + X / 256 = Y at *
  clear e1 hX
  have e3 : Y / 65536 = 1 * (d2 + d3) + 256 * (d3 + d4) + 65536 * (d4 + d5) + 16777216 * (d5 + d6) + 4294967296 * (d6 + d7) + 1099511627776 * (d7 + 0) := by omega
  have e4 : Y + Y / 65536 = 1 * (d0 + d1 + d2 + d3) + 256 * (d1 + d2 + d3 + d4) + 65536 * (d2 + d3 + d4 + d5) + 16777216 * (d3 + d4 + d5 + d6) + 4294967296 * (d4 + d5 + d6 + d7) + 1099511627776 * (d5 + d6 + d7 + 0) + 281474976710656 * (d6 + d7 + 0 + 0) + 72057594037927936 * (d7 + 0 + 0 + 0) := by rw [e3]; omega
  have hY : Y < 2 ^ 64 := by omega
  generalize Y + Y / 65536 = Z at *
  clear e2 e3
  have e5 : Z / 4294967296 = 1 * (d4 + d5 + d6 + d7) + 256 * (d5 + d6 + d7 + 0) + 65536 * (d6 + d7 + 0 + 0) + 16777216 * (d7 + 0 + 0 + 0) := by omega
  refine ⟨?_, hY, ?_, ?_⟩
  · rw [e5]; omega
  · omega
  · omega
theorem bp4 {X : Nat} (h : X < 256 ^ 8) (hd : bD 256 8 8 X) : (X + X / 256 + (X + X / 256) / 65536 + (X + X / 256 + (X + X / 256) / 65536) / 4294967296) % 128 = bS 256 8 X ∧ X + X / 256 < 2 ^ 64 ∧ X + X / 256 + (X + X / 256) / 65536 < 2 ^ 64 ∧ X + X / 256 + (X + X / 256) / 65536 + (X + X / 256 + (X + X / 256) / 65536) / 4294967296 < 2 ^ 64 := by
  obtain ⟨h0, h1, h2, h3, h4, h5, h6, h7, -⟩ := hd
  have q := bp4' (X := X) h0 h1 h2 h3 h4 h5 h6 h7 (by simp only [Nat.reducePow] at h; omega)
  exact ⟨q.1, q.2⟩
theorem bS2_cnt (X : Nat) : ∀ n, bS 2 n X = mo_cnt (fun k => X.testBit k) n := by
  have key : ∀ n Y, bS 2 (n + 1) Y = bS 2 n Y + Y / 2 ^ n % 2 := by
    intro n
    induction n with
    | zero => intro Y; simp [bS]
    | succ n ih =>
      intro Y
      show Y % 2 + bS 2 (n + 1) (Y / 2) = Y % 2 + bS 2 n (Y / 2) + _
      rw [ih, Nat.div_div_eq_div_mul, Nat.pow_succ, Nat.mul_comm]
      omega
  intro n
  induction n with
  | zero => rfl
  | succ n ih =>
    rw [key, ih]
    show _ = mo_cnt _ n + _
    congr 1
    show _ = if X.testBit n = true then 1 else 0
    rw [Nat.testBit_eq_decide_div_mod_eq]
    have : X / 2 ^ n % 2 < 2 := Nat.mod_lt _ (by decide)
    split <;> rename_i h <;> simp at h <;> omega
