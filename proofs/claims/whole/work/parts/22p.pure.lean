theorem md_I.stf {Γ : mw_C} {mb : Nat} {W : Nat → Int32} {ρ : md_R} {H H1 : Heap} {kp sd wr : Int32} (h : md_I Γ mb W ρ H) (o : mw_one mb H H1) (c : mw_ob Γ mb 5 [.ref (mb + 1), .int kp, .int sd, .ref (mb + 2), .ref (mb + 3), .ref (mb + 4), .ref (mb + 5), .int wr] H1) : md_I Γ mb W (kp, sd, ρ.2.2.1, ρ.2.2.2.1, ρ.2.2.2.2.1, ρ.2.2.2.2.2.1, wr) H1 :=
  ⟨c, h.2.1.kept (o.2 _ (by omega)), h.2.2.1.kept (o.2 _ (by omega)), h.2.2.2.1.kept (o.2 _ (by omega)), h.2.2.2.2.1.kept (o.2 _ (by omega)), h.2.2.2.2.2.kept (o.2 _ (by omega))⟩
theorem md_I.st2 {Γ : mw_C} {mb : Nat} {W f : Nat → Int32} {ρ : md_R} {H H1 : Heap} (h : md_I Γ mb W ρ H) (o : mw_one (mb + 2) H H1) (c : mw_ia Γ (mb + 2) 2 f H1) : md_I Γ mb W (ρ.1, ρ.2.1, f, ρ.2.2.2.1, ρ.2.2.2.2.1, ρ.2.2.2.2.2.1, ρ.2.2.2.2.2.2) H1 :=
  ⟨h.1.kept (o.2 _ (by omega)), h.2.1.kept (o.2 _ (by omega)), c, h.2.2.2.1.kept (o.2 _ (by omega)), h.2.2.2.2.1.kept (o.2 _ (by omega)), h.2.2.2.2.2.kept (o.2 _ (by omega))⟩
theorem md_I.st3 {Γ : mw_C} {mb : Nat} {W f : Nat → Int32} {ρ : md_R} {H H1 : Heap} (h : md_I Γ mb W ρ H) (o : mw_one (mb + 3) H H1) (c : mw_ia Γ (mb + 3) 20 f H1) : md_I Γ mb W (ρ.1, ρ.2.1, ρ.2.2.1, f, ρ.2.2.2.2.1, ρ.2.2.2.2.2.1, ρ.2.2.2.2.2.2) H1 :=
  ⟨h.1.kept (o.2 _ (by omega)), h.2.1.kept (o.2 _ (by omega)), h.2.2.1.kept (o.2 _ (by omega)), c, h.2.2.2.2.1.kept (o.2 _ (by omega)), h.2.2.2.2.2.kept (o.2 _ (by omega))⟩
theorem md_I.st4 {Γ : mw_C} {mb : Nat} {W f : Nat → Int32} {ρ : md_R} {H H1 : Heap} (h : md_I Γ mb W ρ H) (o : mw_one (mb + 4) H H1) (c : mw_ia Γ (mb + 4) 20 f H1) : md_I Γ mb W (ρ.1, ρ.2.1, ρ.2.2.1, ρ.2.2.2.1, f, ρ.2.2.2.2.2.1, ρ.2.2.2.2.2.2) H1 :=
  ⟨h.1.kept (o.2 _ (by omega)), h.2.1.kept (o.2 _ (by omega)), h.2.2.1.kept (o.2 _ (by omega)), h.2.2.2.1.kept (o.2 _ (by omega)), c, h.2.2.2.2.2.kept (o.2 _ (by omega))⟩
theorem md_I.st5 {Γ : mw_C} {mb : Nat} {W f : Nat → Int32} {ρ : md_R} {H H1 : Heap} (h : md_I Γ mb W ρ H) (o : mw_one (mb + 5) H H1) (c : mw_ia Γ (mb + 5) 20 f H1) : md_I Γ mb W (ρ.1, ρ.2.1, ρ.2.2.1, ρ.2.2.2.1, ρ.2.2.2.2.1, f, ρ.2.2.2.2.2.2) H1 :=
  ⟨h.1.kept (o.2 _ (by omega)), h.2.1.kept (o.2 _ (by omega)), h.2.2.1.kept (o.2 _ (by omega)), h.2.2.2.1.kept (o.2 _ (by omega)), h.2.2.2.2.1.kept (o.2 _ (by omega)), c⟩
/-- the draws as numbers -/
theorem ml_seed {s : Nat} (hs : s < 2 ^ 31) : mo_seed (nI s) = nI ((s * 1103515245 + 12345) % 2147483648) := by
  rw [mo_seed_e]
  unfold mo_seedR
  rw [nI_l hs, show (1103515245 : Int64) = lN 1103515245 from rfl, show (12345 : Int64) = lN 12345 from rfl, show (2147483648 : Int64) = lN 2147483648 from rfl, lN_mul, lN_add, pk_lRem (by omega) (by omega) (by omega), lN_i]
theorem ml_draw {s n : Nat} (hs : s < 2 ^ 31) (h0 : 0 < n) (hn : n < 2 ^ 31) : mo_draw (nI s) (nI n) = nI ((s * 1103515245 + 12345) % 2147483648 / 65536 % n) := by
  rw [mo_draw_e]
  unfold mo_drawR
  rw [← mo_seed_e]
  have hm : (s * 1103515245 + 12345) % 2147483648 < 2147483648 := Nat.mod_lt _ (by omega)
  rw [ml_seed hs, show (65536 : Int32) = nI 65536 from rfl, pk_div (by omega) (by omega) (by omega), pk_rem (by omega) h0 hn]
theorem ml_drawE {sd : Int32} {n : Nat} (hs : 0 ≤ sd) (h0 : 0 < n) (hn : n < 2 ^ 31) : (∃ j, j < n ∧ mo_draw sd (nI n) = nI j) ∧ 0 ≤ mo_seed sd := by
  obtain ⟨s, h1, rfl⟩ := nI_of (x := sd) (Int32.not_lt.mpr hs)
  have hm : (s * 1103515245 + 12345) % 2147483648 < 2147483648 := Nat.mod_lt _ (by omega)
  exact ⟨⟨_, Nat.mod_lt _ h0, ml_draw h1 h0 hn⟩, by rw [ml_seed h1]; exact nI_pos' (by omega)⟩
def op_write (ρ : md_R) (x y z : Int32) : Int32 × md_R :=
  if mo_bl x 2 = true then
    (if mo_bl y 40 = true ∧ mo_bl z 2 = true then
      (if ρ.2.2.2.2.2.2 = nI 20 then (oF, ρ)
       else (ρ.2.2.2.2.2.2 + nI 1, (ρ.1, ρ.2.1, ρ.2.2.1, upd ρ.2.2.2.1 (mo_n ρ.2.2.2.2.2.2) x, upd ρ.2.2.2.2.1 (mo_n ρ.2.2.2.2.2.2) y, upd ρ.2.2.2.2.2.1 (mo_n ρ.2.2.2.2.2.2) z, ρ.2.2.2.2.2.2 + nI 1)))
     else (oO, ρ))
  else (oU, ρ)
def op_tear (ρ : md_R) : Int32 × md_R := (ρ.2.2.2.2.2.2, (ρ.1, ρ.2.1, ρ.2.2.1, ρ.2.2.2.1, ρ.2.2.2.2.1, ρ.2.2.2.2.2.1, nI 0))
def op_seed (ρ : md_R) (x : Int32) : Int32 × md_R := if 0 ≤ x then (ρ.2.1, (ρ.1, x, ρ.2.2.1, ρ.2.2.2.1, ρ.2.2.2.2.1, ρ.2.2.2.2.2.1, ρ.2.2.2.2.2.2)) else (oO, ρ)
def op_keep (W : Nat → Int32) (ρ : md_R) (x : Int32) : Int32 × (Nat → Int32) × md_R :=
  if mo_bl x 2 = true then (nI 1, va_cpy W W 0 (3137 * (mo_n x + 1)) 3137, (ρ.1 ||| nI 1 <<< (x &&& 31), ρ.2.1, upd ρ.2.2.1 (mo_n x) ρ.2.1, ρ.2.2.2.1, ρ.2.2.2.2.1, ρ.2.2.2.2.2.1, ρ.2.2.2.2.2.2)) else (oU, W, ρ)
def op_goBack (W : Nat → Int32) (ρ : md_R) (x : Int32) : Int32 × (Nat → Int32) × md_R :=
  if mo_bl x 2 = true then
    (if (ρ.1 >>> (x &&& 31)) &&& nI 1 = 0 then (oN, W, ρ)
     else (nI 1, va_cpy W W (3137 * (mo_n x + 1)) 0 3137, (ρ.1, ρ.2.2.1 (mo_n x), ρ.2.2.1, ρ.2.2.2.1, ρ.2.2.2.2.1, ρ.2.2.2.2.2.1, ρ.2.2.2.2.2.2)))
  else (oU, W, ρ)
theorem ml_cpyT (W : Nat → Int32) {sp dp t : Nat} (h : sp + t < dp ∨ dp + t < sp) : upd (va_cpy W W sp dp t) (dp + t) (va_cpy W W sp dp t (sp + t)) = va_cpy W W sp dp (t + 1) := by
  funext j
  rw [pk_cpy_out (f := W) (g := W) (sp := sp) (dp := dp) (n := t) (j := sp + t) (by omega)]
  by_cases hj : j = dp + t
  · subst hj
    rw [pk_us, pk_cpy_in (by omega) (by omega)]
    congr 1
    omega
  · rw [pk_un hj]
    by_cases h2 : dp ≤ j ∧ j < dp + t
    · rw [pk_cpy_in h2.1 h2.2, pk_cpy_in h2.1 (by omega)]
    · rw [pk_cpy_out (by omega), pk_cpy_out (by omega)]
