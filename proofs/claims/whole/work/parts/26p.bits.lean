/-! bits of longs; how many there are -/
theorem bl_and (w X m : Nat) : X &&& m = 2 ^ w * ((X / 2 ^ w) &&& (m / 2 ^ w)) + ((X % 2 ^ w) &&& (m % 2 ^ w)) := by
  rw [← Nat.and_div_two_pow, ← Nat.and_mod_two_pow]
  exact (Nat.div_add_mod _ _).symm
def bm (B d : Nat) : Nat → Nat
  | 0 => 0
  | n + 1 => B * bm B d n + d
def bg1 : Nat → Nat → Nat
  | 0, _ => 0
  | n + 1, X => 4 * bg1 n (X / 4) + (X % 4 - X % 4 / 2)
def bg2 : Nat → Nat → Nat
  | 0, _ => 0
  | n + 1, X => 16 * bg2 n (X / 16) + (X % 4 + X % 16 / 4)
def bg3 : Nat → Nat → Nat
  | 0, _ => 0
  | n + 1, X => 256 * bg3 n (X / 256) + (X % 16 + X % 256 / 16)
/-- the sum of the digits -/
def bS (B : Nat) : Nat → Nat → Nat
  | 0, _ => 0
  | n + 1, X => X % B + bS B n (X / B)
theorem bm_s (B d n : Nat) : bm B d (n + 1) = B * bm B d n + d := rfl
theorem bg1_s (n X : Nat) : bg1 (n + 1) X = 4 * bg1 n (X / 4) + (X % 4 - X % 4 / 2) := rfl
theorem bg2_s (n X : Nat) : bg2 (n + 1) X = 16 * bg2 n (X / 16) + (X % 4 + X % 16 / 4) := rfl
theorem bg3_s (n X : Nat) : bg3 (n + 1) X = 256 * bg3 n (X / 256) + (X % 16 + X % 256 / 16) := rfl
theorem bp1 : ∀ n X, X < 4 ^ n → (X / 2 &&& bm 4 1 n) ≤ X ∧ X - (X / 2 &&& bm 4 1 n) = bg1 n X
  | 0, X, h => by
    have : X = 0 := by simpa using h
    subst this
    exact ⟨by decide, by decide⟩
  | n + 1, X, h => by
    have ih := bp1 n (X / 4) (by rw [Nat.pow_succ] at h; omega)
    have e := bl_and 2 (X / 2) (bm 4 1 (n + 1))
    have e1 : X / 2 / 2 ^ 2 = X / 4 / 2 := by omega
    have e2 : bm 4 1 (n + 1) / 2 ^ 2 = bm 4 1 n := by rw [bm_s]; omega
    have e3 : bm 4 1 (n + 1) % 2 ^ 2 = 1 := by rw [bm_s]; omega
    have e4 : X / 2 % 2 ^ 2 &&& 1 = X / 2 % 2 := by
      have := Nat.and_two_pow_sub_one_eq_mod (X / 2 % 2 ^ 2) 1
      rw [show 2 ^ 1 - 1 = 1 from rfl] at this
      rw [this]; omega
    rw [e1, e2, e3, e4] at e
    rw [e]
    rw [bg1_s]
    generalize (X / 4 / 2 &&& bm 4 1 n) = a at *
    omega
theorem bp2 : ∀ n X, X < 16 ^ n → (X &&& bm 16 3 n) + (X / 4 &&& bm 16 3 n) = bg2 n X
  | 0, X, h => by
    have : X = 0 := by simpa using h
    subst this
    decide
  | n + 1, X, h => by
    have ih := bp2 n (X / 16) (by rw [Nat.pow_succ] at h; omega)
    have e := bl_and 4 X (bm 16 3 (n + 1))
    have e' := bl_and 4 (X / 4) (bm 16 3 (n + 1))
    have e1 : X / 4 / 2 ^ 4 = X / 16 / 4 := by omega
    have e2 : bm 16 3 (n + 1) / 2 ^ 4 = bm 16 3 n := by rw [bm_s]; omega
    have e3 : bm 16 3 (n + 1) % 2 ^ 4 = 3 := by rw [bm_s]; omega
    have e4 : ∀ z : Nat, z &&& 3 = z % 4 := fun z => Nat.and_two_pow_sub_one_eq_mod z 2
    rw [e2, e3, e4] at e e'
    rw [e1] at e'
    rw [show X / 2 ^ 4 = X / 16 from rfl] at e
    rw [e, e']
    rw [bg2_s]
    generalize (X / 16 &&& bm 16 3 n) = a at *
    generalize (X / 16 / 4 &&& bm 16 3 n) = b at *
    omega
/-- every digit is at most d -/
def bD (B d : Nat) : Nat → Nat → Prop
  | 0, _ => True
  | n + 1, X => X % B ≤ d ∧ bD B d n (X / B)
theorem bp3 : ∀ n X, X < 256 ^ n → bD 16 4 (n + n) X → (X + X / 16 &&& bm 256 15 n) = bg3 n X
  | 0, X, h, _ => by
    have : X = 0 := by simpa using h
    subst this
    decide
  | n + 1, X, h, hd => by
    rw [show n + 1 + (n + 1) = (n + n + 1) + 1 by omega] at hd
    have d1 : X % 16 ≤ 4 := hd.1
    have d2 : X / 16 % 16 ≤ 4 := hd.2.1
    have d3 : bD 16 4 (n + n) (X / 256) := by
      have := hd.2.2
      rw [Nat.div_div_eq_div_mul] at this
      exact this
    have ih := bp3 n (X / 256) (by rw [Nat.pow_succ] at h; omega) d3
    have d4 : X / 256 % 16 ≤ 4 := by
      cases n with
      | zero => rw [Nat.pow_succ] at h; simp at h; omega
      | succ n => rw [show n + 1 + (n + 1) = (n + n + 1) + 1 by omega] at d3; exact d3.1
    have e0 : X / 16 / 16 = X / 256 := Nat.div_div_eq_div_mul X 16 16
    have e := bl_and 8 (X + X / 16) (bm 256 15 (n + 1))
    have e1 : (X + X / 16) / 2 ^ 8 = X / 256 + X / 256 / 16 := by omega
    have e2 : bm 256 15 (n + 1) / 2 ^ 8 = bm 256 15 n := by rw [bm_s]; omega
    have e3 : bm 256 15 (n + 1) % 2 ^ 8 = 15 := by rw [bm_s]; omega
    have e4 : ∀ z : Nat, z &&& 15 = z % 16 := fun z => Nat.and_two_pow_sub_one_eq_mod z 4
    rw [e1, e2, e3, e4, ih] at e
    rw [e]
    rw [bg3_s]
    omega
theorem bs1 : ∀ n X, bS 4 n (bg1 n X) = bS 2 (n + n) X ∧ bD 4 2 n (bg1 n X)
  | 0, _ => ⟨rfl, trivial⟩
  | n + 1, X => by
    have e0 : X / 2 / 2 = X / 4 := Nat.div_div_eq_div_mul X 2 2
    have ih := bs1 n (X / 4)
    have e1 : (bg1 (n + 1) X) % 4 = X % 4 - X % 4 / 2 := by rw [bg1_s]; omega
    have e2 : (bg1 (n + 1) X) / 4 = bg1 n (X / 4) := by rw [bg1_s]; omega
    rw [show n + 1 + (n + 1) = (n + n + 1) + 1 by omega]
    refine ⟨?_, ?_, ?_⟩
    · show (bg1 (n + 1) X) % 4 + bS 4 n ((bg1 (n + 1) X) / 4) = X % 2 + (X / 2 % 2 + bS 2 (n + n) (X / 2 / 2))
      rw [e1, e2, ih.1, e0]
      omega
    · rw [e1]; omega
    · rw [e2]; exact ih.2
theorem bs2 : ∀ n X, bD 4 2 (n + n) X → bS 16 n (bg2 n X) = bS 4 (n + n) X ∧ bD 16 4 n (bg2 n X)
  | 0, _, _ => ⟨rfl, trivial⟩
  | n + 1, X, hd => by
    rw [show n + 1 + (n + 1) = (n + n + 1) + 1 by omega] at hd ⊢
    have d1 : X % 4 ≤ 2 := hd.1
    have d2 : X / 4 % 4 ≤ 2 := hd.2.1
    have d3 : bD 4 2 (n + n) (X / 16) := by
      have := hd.2.2
      rw [Nat.div_div_eq_div_mul] at this
      exact this
    have e0 : X / 4 / 4 = X / 16 := Nat.div_div_eq_div_mul X 4 4
    have ih := bs2 n (X / 16) d3
    have e1 : (bg2 (n + 1) X) % 16 = X % 4 + X % 16 / 4 := by rw [bg2_s]; omega
    have e2 : (bg2 (n + 1) X) / 16 = bg2 n (X / 16) := by rw [bg2_s]; omega
    refine ⟨?_, ?_, ?_⟩
    · show (bg2 (n + 1) X) % 16 + bS 16 n ((bg2 (n + 1) X) / 16) = X % 4 + (X / 4 % 4 + bS 4 (n + n) (X / 4 / 4))
      rw [e1, e2, ih.1, e0]
      omega
    · rw [e1]; omega
    · rw [e2]; exact ih.2
theorem bs3 : ∀ n X, bD 16 4 (n + n) X → bS 256 n (bg3 n X) = bS 16 (n + n) X ∧ bD 256 8 n (bg3 n X)
  | 0, _, _ => ⟨rfl, trivial⟩
  | n + 1, X, hd => by
    rw [show n + 1 + (n + 1) = (n + n + 1) + 1 by omega] at hd ⊢
    have d1 : X % 16 ≤ 4 := hd.1
    have d2 : X / 16 % 16 ≤ 4 := hd.2.1
    have d3 : bD 16 4 (n + n) (X / 256) := by
      have := hd.2.2
      rw [Nat.div_div_eq_div_mul] at this
      exact this
    have e0 : X / 16 / 16 = X / 256 := Nat.div_div_eq_div_mul X 16 16
    have ih := bs3 n (X / 256) d3
    have e1 : (bg3 (n + 1) X) % 256 = X % 16 + X % 256 / 16 := by rw [bg3_s]; omega
    have e2 : (bg3 (n + 1) X) / 256 = bg3 n (X / 256) := by rw [bg3_s]; omega
    refine ⟨?_, ?_, ?_⟩
    · show (bg3 (n + 1) X) % 256 + bS 256 n ((bg3 (n + 1) X) / 256) = X % 16 + (X / 16 % 16 + bS 16 (n + n) (X / 16 / 16))
      rw [e1, e2, ih.1, e0]
      omega
    · rw [e1]; omega
    · rw [e2]; exact ih.2
theorem bg1_lt : ∀ n X, bg1 n X < 4 ^ n
  | 0, _ => Nat.zero_lt_one
  | n + 1, X => by have := bg1_lt n (X / 4); rw [bg1_s]; rw [Nat.pow_succ]; omega
theorem bg2_lt : ∀ n X, bg2 n X < 16 ^ n
  | 0, _ => Nat.zero_lt_one
  | n + 1, X => by have := bg2_lt n (X / 16); rw [bg2_s]; rw [Nat.pow_succ]; omega
theorem bg3_lt : ∀ n X, bg3 n X < 256 ^ n
  | 0, _ => Nat.zero_lt_one
  | n + 1, X => by have := bg3_lt n (X / 256); rw [bg3_s]; rw [Nat.pow_succ]; omega
/-- the last steps: eight bytes are summed -/
theorem bh1 {X X1 X2 d0 d1 : Nat} (h : X = d0 + 256 * X1) (h1 : X1 = d1 + 256 * X2) : X + X1 = (d0 + d1) + 256 * (X1 + X2) := by omega
theorem bh2 {Y Y1 Y2 Y3 s t : Nat} (h : Y = s + 256 * Y1) (h2 : Y2 = t + 256 * Y3) : Y + Y2 = (s + t) + 256 * (Y1 + Y3) := by omega
theorem bd1 {Y s Y1 : Nat} (hs : s < 256) (h : Y = s + 256 * Y1) : Y / 256 = Y1 := by omega
theorem bd2 {Y s t Y1 Y2 : Nat} (hs : s < 256) (ht : t < 256) (h : Y = s + 256 * Y1) (h1 : Y1 = t + 256 * Y2) : Y / 65536 = Y2 := by
  rw [show 65536 = 256 * 256 from rfl, ← Nat.div_div_eq_div_mul, bd1 hs h, bd1 ht h1]
theorem ba {a b : Nat} (h : a ≤ 8) (h1 : b ≤ 8) : a + b < 256 := by omega
theorem ba2 {a b c d : Nat} (h : a ≤ 8) (h1 : b ≤ 8) (h2 : c ≤ 8) (h3 : d ≤ 8) : a + b + (c + d) < 256 := by omega
theorem ba8 {a b c d e f g h : Nat} (h0 : a ≤ 8) (h1 : b ≤ 8) (h2 : c ≤ 8) (h3 : d ≤ 8) (h4 : e ≤ 8) (h5 : f ≤ 8) (h6 : g ≤ 8) (h7 : h ≤ 8) : a + b + (c + d) + (e + f + (g + h)) ≤ 64 := by omega
theorem bb {X Y d n m : Nat} (h : Y ≤ n) (hd : d ≤ 8) (e : X = d + 256 * Y) (hm : 8 + 256 * n ≤ m) : X ≤ m := by omega
theorem bq {a b U V : Nat} (h : a + b ≤ 64) : (a + 256 * U + (b + 256 * V)) % 128 = a + b := by omega
theorem bp4' {X X1 X2 X3 X4 X5 X6 X7 d0 d1 d2 d3 d4 d5 d6 : Nat} (h0 : d0 ≤ 8) (h1 : d1 ≤ 8) (h2 : d2 ≤ 8) (h3 : d3 ≤ 8) (h4 : d4 ≤ 8) (h5 : d5 ≤ 8) (h6 : d6 ≤ 8) (h7 : X7 ≤ 8)
    (e0 : X = d0 + 256 * X1) (e1 : X1 = d1 + 256 * X2) (e2 : X2 = d2 + 256 * X3) (e3 : X3 = d3 + 256 * X4) (e4 : X4 = d4 + 256 * X5) (e5 : X5 = d5 + 256 * X6) (e6 : X6 = d6 + 256 * X7) : (X + X / 256 + (X + X / 256) / 65536 + (X + X / 256 + (X + X / 256) / 65536) / 4294967296) % 128 = d0 + (d1 + (d2 + (d3 + (d4 + (d5 + (d6 + X7)))))) ∧ X + X / 256 < 2 ^ 64 ∧ X + X / 256 + (X + X / 256) / 65536 < 2 ^ 64 ∧ X + X / 256 + (X + X / 256) / 65536 + (X + X / 256 + (X + X / 256) / 65536) / 4294967296 < 2 ^ 64 := by
  have e7 : X7 = X7 + 256 * 0 := rfl
  have y0 := bh1 e0 e1
  have y1 := bh1 e1 e2
  have y2 := bh1 e2 e3
  have y3 := bh1 e3 e4
  have y4 := bh1 e4 e5
  have y5 := bh1 e5 e6
  have y6 := bh1 e6 e7
  have z0 := bh2 y0 y2
  have z1 := bh2 y1 y3
  have z2 := bh2 y2 y4
  have z3 := bh2 y3 y5
  have z4 := bh2 y4 y6
  have q1 : X / 256 = X1 := bd1 (Nat.lt_of_le_of_lt h0 (by decide)) e0
  have q2 : (X + X1) / 65536 = X2 + X3 := bd2 (ba h0 h1) (ba h1 h2) y0 y1
  have q3 : (X + X1 + (X2 + X3)) / 4294967296 = X4 + X5 + (X6 + X7) := by
    rw [show 4294967296 = 65536 * 65536 from rfl, ← Nat.div_div_eq_div_mul, bd2 (ba2 h0 h1 h2 h3) (ba2 h1 h2 h3 h4) z0 z1, bd2 (ba2 h2 h3 h4 h5) (ba2 h3 h4 h5 h6) z2 z3]
  have b6 : X6 ≤ 2056 := bb h7 h6 e6 (Nat.le_of_ble_eq_true rfl)
  have b5 : X5 ≤ 526344 := bb b6 h5 e5 (Nat.le_of_ble_eq_true rfl)
  have b4 : X4 ≤ 134744072 := bb b5 h4 e4 (Nat.le_of_ble_eq_true rfl)
  have b3 : X3 ≤ 34494482440 := bb b4 h3 e3 (Nat.le_of_ble_eq_true rfl)
  have b2 : X2 ≤ 8830587504648 := bb b3 h2 e2 (Nat.le_of_ble_eq_true rfl)
  have b1 : X1 ≤ 2260630401189896 := bb b2 h1 e1 (Nat.le_of_ble_eq_true rfl)
  have b0 : X ≤ 578721382704613384 := bb b1 h0 e0 (Nat.le_of_ble_eq_true rfl)
  rw [q1, q2, q3]
  refine ⟨?_, ?_, ?_, ?_⟩
  · rw [z0, z4, bq (ba8 h0 h1 h2 h3 h4 h5 h6 h7)]; simp only [Nat.add_assoc]
  · exact Nat.lt_of_le_of_lt (Nat.add_le_add b0 b1) (by decide)
  · exact Nat.lt_of_le_of_lt (Nat.add_le_add (Nat.add_le_add b0 b1) (Nat.add_le_add b2 b3)) (by decide)
  · exact Nat.lt_of_le_of_lt (Nat.add_le_add (Nat.add_le_add (Nat.add_le_add b0 b1) (Nat.add_le_add b2 b3)) (Nat.add_le_add (Nat.add_le_add b4 b5) (Nat.add_le_add b6 h7))) (by decide)
theorem bp4 {X : Nat} (h : X < 256 ^ 8) (hd : bD 256 8 8 X) : (X + X / 256 + (X + X / 256) / 65536 + (X + X / 256 + (X + X / 256) / 65536) / 4294967296) % 128 = bS 256 8 X ∧ X + X / 256 < 2 ^ 64 ∧ X + X / 256 + (X + X / 256) / 65536 < 2 ^ 64 ∧ X + X / 256 + (X + X / 256) / 65536 + (X + X / 256 + (X + X / 256) / 65536) / 4294967296 < 2 ^ 64 := by
  obtain ⟨h0, h1, h2, h3, h4, h5, h6, h7, -⟩ := hd
  have dm : ∀ Y : Nat, Y = Y % 256 + 256 * (Y / 256) := fun Y => by omega
  have hl : ∀ (n Y : Nat), Y < 256 ^ (n + 1) → Y / 256 < 256 ^ n := fun n Y q => by rw [Nat.pow_succ] at q; omega
  have l7 := hl 1 _ (hl 2 _ (hl 3 _ (hl 4 _ (hl 5 _ (hl 6 _ (hl 7 _ h))))))
  have m7 : X / 256 / 256 / 256 / 256 / 256 / 256 / 256 % 256 = X / 256 / 256 / 256 / 256 / 256 / 256 / 256 := Nat.mod_eq_of_lt (by simpa using l7)
  rw [m7] at h7
  have q := bp4' (X := X) h0 h1 h2 h3 h4 h5 h6 h7 (dm _) (dm _) (dm _) (dm _) (dm _) (dm _) (dm _)
  refine ⟨q.1.trans ?_, q.2⟩
  show _ = X % 256 + (X / 256 % 256 + (X / 256 / 256 % 256 + (X / 256 / 256 / 256 % 256 + (X / 256 / 256 / 256 / 256 % 256 + (X / 256 / 256 / 256 / 256 / 256 % 256 + (X / 256 / 256 / 256 / 256 / 256 / 256 % 256 + (X / 256 / 256 / 256 / 256 / 256 / 256 / 256 % 256 + 0)))))))
  rw [m7, Nat.add_zero]
theorem bS2_cnt (X : Nat) : ∀ n, bS 2 n X = mo_cnt (fun k => X.testBit k) n := by
  have key : ∀ n Y, bS 2 (n + 1) Y = bS 2 n Y + Y / 2 ^ n % 2 := by
    intro n
    induction n with
    | zero => intro Y; simp [bS]
    | succ n ih =>
      intro Y
      show Y % 2 + bS 2 (n + 1) (Y / 2) = Y % 2 + bS 2 n (Y / 2) + _
      rw [ih, Nat.div_div_eq_div_mul, Nat.pow_succ, Nat.mul_comm]
      omega
  intro n
  induction n with
  | zero => rfl
  | succ n ih =>
    rw [key, ih]
    show _ = mo_cnt _ n + _
    congr 1
    show _ = if X.testBit n = true then 1 else 0
    rw [Nat.testBit_eq_decide_div_mod_eq]
    have : X / 2 ^ n % 2 < 2 := Nat.mod_lt _ (by decide)
    split <;> rename_i h <;> simp at h <;> omega
