/-! tables and sets by what is in them -/
def tc (Γ : mw_C) (t L C n : Nat) (g : Nat → Nat → Int32) (H : Heap) : Prop := ∃ f, tb_I Γ t L C (nI n) f H ∧ ∀ k, k < n → ∀ j, j < C → f (k * 6 + j) = g k j
def nc (Γ : mw_C) (t L M : Nat) (S : Nat → Bool) (H : Heap) : Prop := ∃ f, nb_I Γ t L M f H ∧ (∀ k, k < L → nb_bit f k = S k) ∧ ∀ k, L ≤ k → k < 64 * M → nb_bit f k = false
theorem mw_ob.kp {Γ : mw_C} {a ci : Nat} {fs : List Value} {H H1 : Heap} (h : mw_ob Γ a ci fs H) (hq : ∀ q : Nat, q < H.size → q = a → H1[q]? = H[q]?) : mw_ob Γ a ci fs H1 := h.kept (hq a h.lt rfl)
theorem tc.kp {Γ : mw_C} {t L C n : Nat} {g : Nat → Nat → Int32} {H H1 : Heap} (h : tc Γ t L C n g H) (hq : ∀ q : Nat, q < H.size → tb_A t q → H1[q]? = H[q]?) : tc Γ t L C n g H1 := by
  obtain ⟨f, h1, h2⟩ := h
  exact ⟨f, ⟨h1.1.kept (hq _ h1.1.lt (Or.inl rfl)), h1.2.kept (hq _ h1.2.lt (Or.inr rfl))⟩, h2⟩
theorem nc.kp {Γ : mw_C} {t L M : Nat} {S : Nat → Bool} {H H1 : Heap} (h : nc Γ t L M S H) (hq : ∀ q : Nat, q < H.size → tb_A t q → H1[q]? = H[q]?) : nc Γ t L M S H1 := by
  obtain ⟨f, h1, h2⟩ := h
  exact ⟨f, ⟨h1.1.kept (hq _ h1.1.lt (Or.inl rfl)), h1.2.kept (hq _ h1.2.lt (Or.inr rfl))⟩, h2⟩
theorem tc.to {Γ : mw_C} {t L C n : Nat} {g g' : Nat → Nat → Int32} {H : Heap} (h : tc Γ t L C n g H) (hg : ∀ k, k < n → ∀ j, j < C → g' k j = g k j) : tc Γ t L C n g' H := by
  obtain ⟨f, h1, h2⟩ := h
  exact ⟨f, h1, fun k hk j hj => (h2 k hk j hj).trans (hg k hk j hj).symm⟩
theorem nc.to {Γ : mw_C} {t L M : Nat} {S S' : Nat → Bool} {H : Heap} (h : nc Γ t L M S H) (hg : ∀ k, k < L → S' k = S k) : nc Γ t L M S' H := by
  obtain ⟨f, h1, h2, h3⟩ := h
  exact ⟨f, h1, fun k hk => (h2 k hk).trans (hg k hk).symm, h3⟩
theorem tc.ob {Γ : mw_C} {t L C n : Nat} {g : Nat → Nat → Int32} {H : Heap} (h : tc Γ t L C n g H) : ∃ fs, mw_ob Γ t 2 fs H := by obtain ⟨f, h1, -⟩ := h; exact ⟨_, h1.1⟩
theorem nc.ob {Γ : mw_C} {t L M : Nat} {S : Nat → Bool} {H : Heap} (h : nc Γ t L M S H) : ∃ fs, mw_ob Γ t 1 fs H := by obtain ⟨f, h1, -⟩ := h; exact ⟨_, h1.1⟩
section TC
variable {l : Launch} {Γ : mw_C} {t L C n : Nat} {g : Nat → Nat → Int32} {H : Heap}
theorem tk_size (ht : Γ.2.2.2 ≤ t) (hH : tc Γ t L C n g H) (hn : n ≤ L) (hL : L ≤ 24) (hC : C ≤ 6) : mw_Cr l Γ mX2_size 1 0 0 (tb_A t) [.ref t] H (some (.int (nI n))) (tc Γ t L C n g) := by
  obtain ⟨f, h1, h2⟩ := hH
  exact mw_Cn.mono (ct_size ht h1 hn hL hC) (fun v H' h => ⟨h.1, f, h.2, h2⟩)
theorem tk_isFull (ht : Γ.2.2.2 ≤ t) (hH : tc Γ t L C n g H) (hn : n ≤ L) (hL : L ≤ 24) (hC : C ≤ 6) : mw_Cr l Γ mX2_isFull 1 0 0 (tb_A t) [.ref t] H (some (.int (mo_b (decide (L ≤ n))))) (tc Γ t L C n g) := by
  obtain ⟨f, h1, h2⟩ := hH
  exact mw_Cn.mono (ct_isFull ht h1 hn hL hC) (fun v H' h => ⟨h.1, f, h.2, h2⟩)
theorem tk_hasRow {x : Int32} (ht : Γ.2.2.2 ≤ t) (hH : tc Γ t L C n g H) (hn : n ≤ L) (hL : L ≤ 24) (hC : C ≤ 6) : mw_Cr l Γ mX2_hasRow 1 0 0 (tb_A t) [.ref t, .int x] H (some (.int (mo_b (mo_bl x n)))) (tc Γ t L C n g) := by
  obtain ⟨f, h1, h2⟩ := hH
  exact mw_Cn.mono (ct_hasRow ht h1 hn hL hC) (fun v H' h => ⟨h.1, f, h.2, h2⟩)
theorem tk_hasCol {x : Int32} (ht : Γ.2.2.2 ≤ t) (hH : tc Γ t L C n g H) (hn : n ≤ L) (hL : L ≤ 24) (hC : C ≤ 6) : mw_Cr l Γ mX2_hasColumn 1 0 0 (tb_A t) [.ref t, .int x] H (some (.int (mo_b (mo_bl x C)))) (tc Γ t L C n g) := by
  obtain ⟨f, h1, h2⟩ := hH
  exact mw_Cn.mono (ct_hasCol ht h1 hn hL hC) (fun v H' h => ⟨h.1, f, h.2, h2⟩)
theorem tk_at {k j : Nat} (ht : Γ.2.2.2 ≤ t) (hH : tc Γ t L C n g H) (hn : n ≤ L) (hL : L ≤ 24) (hC : C ≤ 6) (hk : k < n) (hj : j < C) : mw_Cr l Γ mX2_at 1 0 0 (tb_A t) [.ref t, .int (nI k), .int (nI j)] H (some (.int (g k j))) (tc Γ t L C n g) := by
  obtain ⟨f, h1, h2⟩ := hH
  exact mw_Cn.mono (ct_at ht h1 hn hL hC hk hj) (fun v H' h => ⟨by rw [h.1, h2 k hk j hj], f, h.2, h2⟩)
theorem tk_atN {y : Int32} (ht : Γ.2.2.2 ≤ t) (hH : tc Γ t L C n g H) (hn : n ≤ L) (hL : L ≤ 24) (hC : C ≤ 6) : mw_Cr l Γ mX2_at 1 0 0 (tb_A t) [.ref t, .int (-1), .int y] H (some (.int (-1))) (tc Γ t L C n g) := by
  obtain ⟨f, h1, h2⟩ := hH
  exact mw_Cn.mono (ct_atN ht h1 hn hL hC) (fun v H' h => ⟨h.1, f, h.2, h2⟩)
theorem tk_put {k j : Nat} {x : Int32} {g' : Nat → Nat → Int32} (ht : Γ.2.2.2 ≤ t) (hH : tc Γ t L C n g H) (hn : n ≤ L) (hL : L ≤ 24) (hC : C ≤ 6) (hk : k < n) (hj : j < C) (hx : g' k j = x) (hg : ∀ a, a < n → ∀ b, b < C → ¬ (a = k ∧ b = j) → g' a b = g a b) : mw_Cr l Γ mX2_put 1 0 0 (tb_A t) [.ref t, .int (nI k), .int (nI j), .int x] H none (tc Γ t L C n g') := by
  obtain ⟨f, h1, h2⟩ := hH
  refine mw_Cn.mono (ct_put ht h1 hn hL hC hk hj) (fun v H' h => ⟨h.1, _, h.2, fun a ha b hb => ?_⟩)
  by_cases q : a = k ∧ b = j
  · rw [q.1, q.2, pk_us, hx]
  · rw [pk_un (by omega), h2 a ha b hb, hg a ha b hb q]
theorem tk_putN {x y : Int32} (ht : Γ.2.2.2 ≤ t) (hH : tc Γ t L C n g H) (hn : n ≤ L) (hL : L ≤ 24) (hC : C ≤ 6) : mw_Cr l Γ mX2_put 1 0 0 (tb_A t) [.ref t, .int (-1), .int y, .int x] H none (tc Γ t L C n g) := by
  obtain ⟨f, h1, h2⟩ := hH
  exact mw_Cn.mono (ct_putN ht h1 hn hL hC) (fun v H' h => ⟨h.1, f, h.2, h2⟩)
theorem tk_add {a0 a1 a2 a3 a4 a5 : Int32} {g' : Nat → Nat → Int32} (ht : Γ.2.2.2 ≤ t) (hH : tc Γ t L C n g H) (hn : n ≤ L) (hL : L ≤ 24) (hC : C ≤ 6) (hk : n < L) (hx : ∀ j, j < C → g' n j = mo_r6 a0 a1 a2 a3 a4 a5 j) (hg : ∀ a, a < n → ∀ b, b < C → g' a b = g a b) : mw_Cr l Γ mX2_add 1 0 0 (tb_A t) [.ref t, .int a0, .int a1, .int a2, .int a3, .int a4, .int a5] H none (tc Γ t L C (n + 1) g') := by
  obtain ⟨f, h1, h2⟩ := hH
  refine mw_Cn.mono (ct_add ht h1 hn hL hC hk) (fun v H' h => ⟨h.1, _, by rw [← nI_add]; exact h.2, fun a ha b hb => ?_⟩)
  by_cases q : a = n
  · subst q
    rw [hx b hb]
    rcases (show b = 0 ∨ b = 1 ∨ b = 2 ∨ b = 3 ∨ b = 4 ∨ b = 5 by omega) with rfl | rfl | rfl | rfl | rfl | rfl
    all_goals simp (disch := omega) only [pk_us, pk_un, Nat.add_zero]
    all_goals rfl
  · simp (disch := omega) only [pk_un]
    rw [h2 a (by omega) b hb, hg a (by omega) b hb]
theorem tk_repeat {k : Nat} {g' : Nat → Nat → Int32} (ht : Γ.2.2.2 ≤ t) (hH : tc Γ t L C n g H) (hn : n ≤ L) (hL : L ≤ 24) (hC : C ≤ 6) (hk : k < n) (hn2 : n < L) (hx : ∀ j, j < C → g' n j = g k j) (hg : ∀ a, a < n → ∀ b, b < C → g' a b = g a b) : mw_Cr l Γ mX2_repeat 1 0 0 (tb_A t) [.ref t, .int (nI k)] H none (tc Γ t L C (n + 1) g') := by
  obtain ⟨f, h1, h2⟩ := hH
  refine mw_Cn.mono (ct_repeat ht h1 hn hL hC hk hn2) (fun v H' h => ⟨h.1, _, by rw [← nI_add]; exact h.2, fun a ha b hb => ?_⟩)
  unfold va_cpy
  by_cases q : a = n
  · subst q
    rw [if_pos (by omega), hx b hb, ← h2 k hk b hb]
    congr 1
    omega
  · rw [if_neg (by omega), h2 a (by omega) b hb, hg a (by omega) b hb]
theorem tk_drop {k : Nat} {g' : Nat → Nat → Int32} (ht : Γ.2.2.2 ≤ t) (hH : tc Γ t L C n g H) (hn : n ≤ L) (hL : L ≤ 24) (hC : C ≤ 6) (hk : k < n) (hg1 : ∀ a, a < k → ∀ b, b < C → g' a b = g a b) (hg2 : ∀ a, k ≤ a → a + 1 < n → ∀ b, b < C → g' a b = g (a + 1) b) : mw_Cr l Γ mX2_drop 1 0 0 (tb_A t) [.ref t, .int (nI k)] H none (tc Γ t L C (n - 1) g') := by
  obtain ⟨f, h1, h2⟩ := hH
  by_cases q : k + 1 = n
  · refine mw_Cn.mono (ct_dropL ht h1 hn hL hC q) (fun v H' h => ⟨h.1, _, by rw [← ml_pred (by omega)]; exact h.2, fun a ha b hb => ?_⟩)
    rw [h2 a (by omega) b hb, hg1 a (by omega) b hb]
  · refine mw_Cn.mono (ct_dropM ht h1 hn hL hC (k := k) (by omega)) (fun v H' h => ⟨h.1, _, by rw [← ml_pred (by omega)]; exact h.2, fun a ha b hb => ?_⟩)
    unfold va_cpy
    by_cases q2 : a < k
    · rw [if_neg (by omega), h2 a (by omega) b hb, hg1 a q2 b hb]
    · rw [if_pos (by omega), hg2 a (by omega) (by omega) b hb, ← h2 (a + 1) (by omega) b hb]
      congr 1
      omega
theorem tk_dropN (ht : Γ.2.2.2 ≤ t) (hH : tc Γ t L C n g H) (hn : n ≤ L) (hL : L ≤ 24) (hC : C ≤ 6) : mw_Cr l Γ mX2_drop 1 0 0 (tb_A t) [.ref t, .int (-1)] H none (tc Γ t L C n g) := by
  obtain ⟨f, h1, h2⟩ := hH
  exact mw_Cn.mono (ct_dropN ht h1 hn hL hC) (fun v H' h => ⟨h.1, f, h.2, h2⟩)
theorem tk_empty {g' : Nat → Nat → Int32} (ht : Γ.2.2.2 ≤ t) (hH : tc Γ t L C n g H) (hn : n ≤ L) (hL : L ≤ 24) (hC : C ≤ 6) : mw_Cr l Γ mX2_empty 1 0 0 (tb_A t) [.ref t] H none (tc Γ t L C 0 g') := by
  obtain ⟨f, h1, h2⟩ := hH
  exact mw_Cn.mono (ct_empty ht h1 hn hL hC) (fun v H' h => ⟨h.1, f, h.2, fun k hk => absurd hk (Nat.not_lt_zero k)⟩)
theorem tk_becomes {t2 n2 : Nat} {g2 : Nat → Nat → Int32} (ht : Γ.2.2.2 ≤ t) (hH : tc Γ t L C n g H) (hn : n ≤ L) (hL : L ≤ 24) (hC : C ≤ 6) (hH2 : tc Γ t2 L C n2 g2 H) (hn2 : n2 ≤ L) (hd : t2 + 1 < t ∨ t + 1 < t2) : mw_Cr l Γ mX2_becomes 1 0 0 (tb_A t) [.ref t, .ref t2] H none (tc Γ t L C n2 g2) := by
  obtain ⟨f, h1, h2⟩ := hH
  obtain ⟨f2, h3, h4⟩ := hH2
  refine mw_Cn.mono (ct_becomes ht h1 hn hL hC h3 hd) (fun v H' h => ⟨h.1, _, h.2.1, fun a ha b hb => ?_⟩)
  unfold va_cpy
  rw [if_pos (by omega), ← h4 a ha b hb]
  congr 1
  omega
end TC
section NC
variable {l : Launch} {Γ : mw_C} {t L M : Nat} {S : Nat → Bool} {H : Heap}
theorem nk_has {x : Int32} (ht : Γ.2.2.2 ≤ t) (hH : nc Γ t L M S H) (hL : L ≤ 64 * M) (hM : M ≤ 512) : mw_Cr l Γ mX1_has 1 0 0 (tb_A t) [.ref t, .int x] H (some (.int (mo_b (mo_bl x L && S (mo_n x))))) (nc Γ t L M S) := by
  obtain ⟨f, h1, h2, h3⟩ := hH
  refine mw_Cn.mono (cn_has ht h1 hL hM) (fun v H' h => ⟨?_, f, h.2, h2, h3⟩)
  rw [h.1]
  unfold nb_has
  cases hb : mo_bl x L with
  | false => rfl
  | true =>
    obtain ⟨j, hj, rfl⟩ := mo_bl_t hb (by omega)
    rw [ml_n (by omega), h2 j hj]
theorem nk_add {k : Nat} {S' : Nat → Bool} (ht : Γ.2.2.2 ≤ t) (hH : nc Γ t L M S H) (hL : L ≤ 64 * M) (hM : M ≤ 512) (hk : k < L) (hS : ∀ j, j < L → S' j = (S j || decide (j = k))) : mw_Cr l Γ mX1_add 1 0 0 (tb_A t) [.ref t, .int (nI k)] H none (nc Γ t L M S') := by
  obtain ⟨f, h1, h2, h3⟩ := hH
  refine mw_Cn.mono (cn_add ht h1 hL hM) (fun v H' h => ⟨h.1, _, h.2, ?_⟩)
  rw [mo_bl_n hk (by omega), if_pos rfl, ml_n (by omega)]
  refine ⟨fun j hj => by rw [nb_bit_add, h2 j hj, hS j hj], fun j hj hj2 => by rw [nb_bit_add, h3 j hj hj2, decide_eq_false (by omega)]; rfl⟩
theorem nk_rem {k : Nat} {S' : Nat → Bool} (ht : Γ.2.2.2 ≤ t) (hH : nc Γ t L M S H) (hL : L ≤ 64 * M) (hM : M ≤ 512) (hk : k < L) (hS : ∀ j, j < L → S' j = (S j && !decide (j = k))) : mw_Cr l Γ mX1_remove 1 0 0 (tb_A t) [.ref t, .int (nI k)] H none (nc Γ t L M S') := by
  obtain ⟨f, h1, h2, h3⟩ := hH
  refine mw_Cn.mono (cn_rem ht h1 hL hM) (fun v H' h => ⟨h.1, _, h.2, ?_⟩)
  rw [mo_bl_n hk (by omega), if_pos rfl, ml_n (by omega)]
  refine ⟨fun j hj => by rw [nb_bit_rem, h2 j hj, hS j hj], fun j hj hj2 => by rw [nb_bit_rem, h3 j hj hj2]; rfl⟩
theorem mo_cnt_cg {P Q : Nat → Bool} : ∀ {n : Nat}, (∀ k, k < n → P k = Q k) → mo_cnt P n = mo_cnt Q n
  | 0, _ => rfl
  | n + 1, h => by
    show mo_cnt P n + _ = mo_cnt Q n + _
    rw [mo_cnt_cg (fun k hk => h k (by omega)), h n (by omega)]
theorem mo_cnt_app (P : Nat → Bool) (a : Nat) : ∀ b, mo_cnt P (a + b) = mo_cnt P a + mo_cnt (fun k => P (a + k)) b
  | 0 => rfl
  | b + 1 => by
    show mo_cnt P (a + b) + _ = mo_cnt P a + (mo_cnt (fun k => P (a + k)) b + _)
    rw [mo_cnt_app P a b, Nat.add_assoc]
    rfl
theorem mo_cnt_0 {P : Nat → Bool} : ∀ {n : Nat}, (∀ k, k < n → P k = false) → mo_cnt P n = 0
  | 0, _ => rfl
  | n + 1, h => by
    show mo_cnt P n + _ = 0
    rw [mo_cnt_0 (fun k hk => h k (by omega)), h n (by omega)]; rfl
theorem bsum_cnt (f : Nat → Int64) : ∀ m, bsum f m = mo_cnt (nb_bit f) (64 * m)
  | 0 => rfl
  | m + 1 => by
    show bsum f m + bcnt (f m) = _
    rw [bsum_cnt f m, show 64 * (m + 1) = 64 * m + 64 by omega, mo_cnt_app]
    congr 1
    refine mo_cnt_cg (fun k hk => ?_)
    unfold nb_bit
    rw [show (64 * m + k) / 64 = m by omega, show (64 * m + k) % 64 = k by omega]
theorem nk_size (ht : Γ.2.2.2 ≤ t) (hH : nc Γ t L M S H) (hL : L ≤ 64 * M) (hM : M ≤ 512) : mw_Cr l Γ mX1_size 2 0 0 (tb_A t) [.ref t] H (some (.int (nI (mo_cnt S L)))) (nc Γ t L M S) := by
  obtain ⟨f, h1, h2, h3⟩ := hH
  refine mw_Cn.mono (cn_size ht h1 hL hM) (fun v H' h => ⟨?_, f, h.2, h2, h3⟩)
  rw [h.1, bsum_cnt, show 64 * M = L + (64 * M - L) by omega, mo_cnt_app, mo_cnt_cg (fun k hk => h2 k hk), mo_cnt_0 (fun k hk => h3 (L + k) (by omega) (by omega))]
  rfl
theorem mo_fst_cg {P Q : Nat → Bool} : ∀ {n : Nat}, (∀ k, k < n → P k = Q k) → mo_fst P n = mo_fst Q n
  | 0, _ => rfl
  | n + 1, h => by
    unfold mo_fst
    rw [mo_fst_cg (fun k hk => h k (by omega)), h n (by omega)]
theorem nk_least (ht : Γ.2.2.2 ≤ t) (hH : nc Γ t L M S H) (hL : L ≤ 64 * M) (hM : M ≤ 512) : mw_Cr l Γ mX1_least 2 0 0 (tb_A t) [.ref t] H (some (.int (mo_ix (mo_fst S L) L))) (nc Γ t L M S) := by
  obtain ⟨f, h1, h2, h3⟩ := hH
  refine mw_Cn.mono (cn_least ht h1 hL hM) (fun v H' h => ⟨?_, f, h.2, h2, h3⟩)
  rw [h.1, mo_fst_cg (fun k hk => h2 k hk)]
theorem nk_inRow (ht : Γ.2.2.2 ≤ t) (hH : nc Γ t L M S H) (hL : L ≤ 64 * M) (hM : M ≤ 512) : mw_Cr l Γ mX1_inRow 2 0 0 (tb_A t) [.ref t] H (some (.int (nI (mo_fst (fun k => !S k) L)))) (nc Γ t L M S) := by
  obtain ⟨f, h1, h2, h3⟩ := hH
  refine mw_Cn.mono (cn_inRow ht h1 hL hM) (fun v H' h => ⟨?_, f, h.2, h2, h3⟩)
  rw [h.1, mo_fst_cg (P := fun k => !nb_bit f k) (Q := fun k => !S k) (fun k hk => by rw [h2 k hk])]
theorem nk_becomes {t2 : Nat} {S2 : Nat → Bool} (ht : Γ.2.2.2 ≤ t) (hH : nc Γ t L M S H) (hL : L ≤ 64 * M) (hM : M ≤ 512) (hH2 : nc Γ t2 L M S2 H) (hd : t2 + 1 < t ∨ t + 1 < t2) : mw_Cr l Γ mX1_becomes 1 0 0 (tb_A t) [.ref t, .ref t2] H none (nc Γ t L M S2) := by
  obtain ⟨f, h1, h2, h3⟩ := hH
  obtain ⟨f2, h4, h5, h6⟩ := hH2
  have e : ∀ k, k < 64 * M → nb_bit (va_cpy f2 f 0 0 M) k = nb_bit f2 k := fun k hk => by
    unfold nb_bit va_cpy
    rw [if_pos (by omega), Nat.sub_zero, Nat.zero_add]
  exact mw_Cn.mono (cn_becomes ht h1 hL hM h4 hd) (fun v H' h => ⟨h.1, _, h.2.1, fun k hk => by rw [e k (by omega), h5 k hk], fun k hk hk2 => by rw [e k hk2, h6 k hk hk2]⟩)
end NC
