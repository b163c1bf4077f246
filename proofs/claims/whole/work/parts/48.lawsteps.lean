/-! images in the law; loops whose room grows -/
theorem mw_Cn.wideA {l : Launch} {Γ : mw_C} {d : mw_M} {lev mc ms : Nat} {A A' : Nat → Prop} {as : List Value} {H : Heap} {E : Option Value → Heap → Prop} (h : mw_Cn l Γ d lev mc ms A as H E) (hA : ∀ q, A q → A' q) : mw_Cn l Γ d lev mc ms A' as H E := by
  intro p e ha hc hk s m args below hf happ hP hT
  obtain ⟨t, o, h1, h2, h3, ⟨hE, hF⟩, L, hL, hfree⟩ := h p e ha hc hk s m args below hf happ hP hT
  have hF2 := hF
  unfold va_F at hF2
  exact ⟨t, o, h1, h2, h3, ⟨hE, hF2.1, fun q a b => hF2.2 q a (fun z => b (hA q z))⟩, L, hL, fun q hq => hA _ (hfree q hq)⟩
theorem mw_Cr.wide' {l : Launch} {Γ : mw_C} {d : mw_M} {lev mc ms : Nat} {A : Nat → Prop} {as : List Value} {H : Heap} {ov : Option Value} {J J' : Heap → Prop} (h : mw_Cr l Γ d lev mc ms A as H ov J) (hJ : ∀ H', J H' → H.size ≤ H'.size → (∀ q : Nat, q < H.size → ¬ A q → H'[q]? = H[q]?) → J' H') : mw_Cr l Γ d lev mc ms A as H ov J' :=
  mw_Cn.mono (mw_Cn.frame h) (fun v H' h1 => ⟨h1.1.1, hJ H' h1.1.2 h1.2.1 h1.2.2⟩)
section WR
variable {p : Program} {l : Launch} {e : Env} {R : Room} {s : State} {m : MethodId} {args : Array Value} {below : List Frame} {meth : Method} {c : Code} {A : Nat → Prop} {Q : State → Prop} {pc nL : Nat} {st : List Value}
theorem mw_wfR {σ : Type} (μ : σ → Nat) (Pre : σ → Prop) (J : σ → Heap → Prop) (lvf : σ → List (Nat × Value)) (cef slf : σ → Nat) (h : ∀ a, Pre a → (∀ b, Pre b → μ b < μ a → mw_G p l e R s m args below meth c A nL Q (J b) (cef b) (slf b) pc (lvf b) st) → mw_G p l e R s m args below meth c A nL Q (J a) (cef a) (slf a) pc (lvf a) st) : ∀ a, Pre a → mw_G p l e R s m args below meth c A nL Q (J a) (cef a) (slf a) pc (lvf a) st := by
  have key : ∀ (n : Nat) (a : σ), μ a < n → Pre a → mw_G p l e R s m args below meth c A nL Q (J a) (cef a) (slf a) pc (lvf a) st := by
    intro n
    induction n with
    | zero => intro a ha; exact absurd ha (Nat.not_lt_zero _)
    | succ n ih => intro a ha hp; exact h a hp (fun b hb hlt => ih b (by omega) hb)
  intro a ha
  exact key (μ a + 1) a (Nat.lt_succ_self _) ha
theorem mw_ex {τ : Type} {I : τ → Heap → Prop} {ce sl : Nat} {lv : List (Nat × Value)} (k : ∀ z, mw_G p l e R s m args below meth c A nL Q (I z) ce sl pc lv st) : mw_G p l e R s m args below meth c A nL Q (fun H => ∃ z, I z H) ce sl pc lv st := fun H locs ls hI hS hl => by
  obtain ⟨z, hz⟩ := hI
  exact k z H locs ls hz hS hl
theorem mw_and {F : Prop} {I : Heap → Prop} {ce sl : Nat} {lv : List (Nat × Value)} (k : F → mw_G p l e R s m args below meth c A nL Q I ce sl pc lv st) : mw_G p l e R s m args below meth c A nL Q (fun H => F ∧ I H) ce sl pc lv st := fun H locs ls hI hS hl => k hI.1 H locs ls hI.2 hS hl
end WR
section LK
variable {l : Launch} {Γ : mw_C} {x : Nat} {W Wm : Nat → Int32} {ρ ρm : md_R} {im : Nat → Option Nat} {V : Nat → Nat → Int32} {vs : Nat → Int32} {H : Heap}
theorem lc_keepU {y : Int32} (hx : Γ.2.2.2 ≤ x) (h : HH Γ x W ρ im V vs Wm ρm H) (hy : mo_bl y 2 = false) : mw_Cr l Γ mX4_keep 1 0 0 (fun _ => False) [.ref x, .int y] H (some (.int oU)) (HH Γ x W ρ im V vs Wm ρm) :=
  (zx_keepU hx h.1 h.2.1 hy).wide (fun H1 hJ hs hf => ⟨hJ.1, hJ.2, fun k hk a ha => ⟨(h.2.2.1 k hk a ha).1, Nat.le_trans (h.2.2.1 k hk a ha).2.1 hs, (h.2.2.1 k hk a ha).2.2.kpA (fun q b z => hf q b (fun w => w))⟩, h.2.2.2.kpD (fun q b z => hf q b (fun w => w))⟩)
theorem lc_backU {y : Int32} (hx : Γ.2.2.2 ≤ x) (h : HH Γ x W ρ im V vs Wm ρm H) (hy : mo_bl y 2 = false) : mw_Cr l Γ mX4_goBack 1 0 0 (fun _ => False) [.ref x, .int y] H (some (.int oU)) (HH Γ x W ρ im V vs Wm ρm) :=
  (zx_goBackU hx h.1 h.2.1 hy).wide (fun H1 hJ hs hf => ⟨hJ.1, hJ.2, fun k hk a ha => ⟨(h.2.2.1 k hk a ha).1, Nat.le_trans (h.2.2.1 k hk a ha).2.1 hs, (h.2.2.1 k hk a ha).2.2.kpA (fun q b z => hf q b (fun w => w))⟩, h.2.2.2.kpD (fun q b z => hf q b (fun w => w))⟩)
theorem lc_backN {i : Nat} (hx : Γ.2.2.2 ≤ x) (h : HH Γ x W ρ im V vs Wm ρm H) (hi : i < 2) (him : im i = none) : mw_Cr l Γ mX4_goBack 1 0 0 (fun _ => False) [.ref x, .int (nI i)] H (some (.int oN)) (HH Γ x W ρ im V vs Wm ρm) :=
  (zx_goBackN hx h.1 h.2.1 hi him).wide (fun H1 hJ hs hf => ⟨hJ.1, hJ.2, fun k hk a ha => ⟨(h.2.2.1 k hk a ha).1, Nat.le_trans (h.2.2.1 k hk a ha).2.1 hs, (h.2.2.1 k hk a ha).2.2.kpA (fun q b z => hf q b (fun w => w))⟩, h.2.2.2.kpD (fun q b z => hf q b (fun w => w))⟩)
theorem lc_backS {i a : Nat} (hx : Γ.2.2.2 ≤ x) (h : HH Γ x W ρ im V vs Wm ρm H) (hi : i < 2) (him : im i = some a) : mw_Cr l Γ mX4_goBack 4 0 0 (mx_A x) [.ref x, .int (nI i)] H (some (.int (nI 1))) (HH Γ x (V i) (ρ.1, vs i, ρ.2.2.1, ρ.2.2.2.1, ρ.2.2.2.2.1, ρ.2.2.2.2.2.1, ρ.2.2.2.2.2.2) im V vs Wm ρm) := by
  have ha := h.2.2.1 i hi a him
  exact (zx_goBackS hx h.1 h.2.1 hi him (by omega) ha.2.2).wide (fun H1 hJ hs hf => ⟨hJ.1, hJ.2.1, fun k hk a ha => ⟨(h.2.2.1 k hk a ha).1, Nat.le_trans (h.2.2.1 k hk a ha).2.1 hs, (h.2.2.1 k hk a ha).2.2.kpA (fun q b z => hf q b (by have := (h.2.2.1 k hk a ha).1; unfold ws_A at z; unfold mx_A; omega))⟩, h.2.2.2.kpD (fun q b z => hf q b (by unfold md_A at z; unfold mx_A; omega))⟩)
theorem lc_keepS {i a : Nat} (hx : Γ.2.2.2 ≤ x) (h : HH Γ x W ρ im V vs Wm ρm H) (hi : i < 2) (him : im i = some a) (hd : ∀ k, k < 2 → k ≠ i → ∀ a2, im k = some a2 → a + 26 ≤ a2 ∨ a2 + 26 ≤ a) : mw_Cr l Γ mX4_keep 4 0 0 (ws_A a) [.ref x, .int (nI i)] H (some (.int (nI 1))) (HH Γ x W ρ im (fun q => if q = i then W else V q) (fun q => if q = i then ρ.2.1 else vs q) Wm ρm) := by
  have ha := h.2.2.1 i hi a him
  refine (zx_keepS hx h.1 h.2.1 hi him (by omega) ha.2.2).wide (fun H1 hJ hs hf => ⟨hJ.1, hJ.2.1, fun k hk a2 ha2 => ?_, h.2.2.2.kpD (fun q b z => hf q b (by unfold md_A at z; unfold ws_A; omega))⟩)
  have h2 := h.2.2.1 k hk a2 ha2
  refine ⟨h2.1, Nat.le_trans h2.2.1 hs, ?_⟩
  by_cases q : k = i
  · subst q
    dsimp only
    rw [if_pos rfl, if_pos rfl]
    rw [him] at ha2
    cases ha2
    exact hJ.2.2
  · dsimp only
    rw [if_neg q, if_neg q]
    have := hd k hk q a2 ha2
    exact h2.2.2.kpA (fun r b z => hf r b (by unfold ws_A at z ⊢; omega))
theorem lc_keepN {i : Nat} (hx : Γ.2.2.2 ≤ x) (h : HH Γ x W ρ im V vs Wm ρm H) (hi : i < 2) (him : im i = none) : mw_Cr l Γ mX4_keep 5 26 4225 (fun q => x + 29 ≤ q) [.ref x, .int (nI i)] H (some (.int (nI 1))) (fun H' => ∃ hz, (∀ k, k < 2 → k ≠ i → ∀ a2, im k = some a2 → a2 + 26 ≤ hz) ∧ HH Γ x W ρ (va_up im i (some hz)) (fun q => if q = i then W else V q) (fun q => if q = i then ρ.2.1 else vs q) Wm ρm H') := by
  have hsz : x + 36 ≤ H.size := by have := h.2.2.2.2.2.2.2.2.lt; omega
  refine mw_Cn.wideA (mw_Cr.wide' (zx_keepN (hz := H.size) hx h.1 h.2.1 hi him (by omega) rfl) (fun H1 hJ hs hf => ⟨H.size, fun k hk hne a2 ha2 => (h.2.2.1 k hk a2 ha2).2.1, hJ.1.1, hJ.1.2.1, fun k hk a2 ha2 => ?_, h.2.2.2.kpD (fun q b z => hf q b (by unfold md_A at z; rintro (w | w) <;> omega))⟩)) (fun q z => by rcases z with z | z <;> omega)
  by_cases q : k = i
  · subst q
    dsimp only
    rw [if_pos rfl, if_pos rfl]
    have e : a2 = H.size := by
      unfold va_up at ha2
      rw [if_pos rfl] at ha2
      cases ha2
      rfl
    rw [e]
    exact ⟨hsz, by have := hJ.2; omega, hJ.1.2.2⟩
  · dsimp only
    rw [if_neg q, if_neg q]
    unfold va_up at ha2
    rw [if_neg q] at ha2
    have h2 := h.2.2.1 k hk a2 ha2
    exact ⟨h2.1, Nat.le_trans h2.2.1 hs, h2.2.2.kpA (fun r b z => hf r b (by unfold ws_A at z; rintro (w | w) <;> omega))⟩
theorem op_keep_e {k : Nat} (hk : k < 2) : op_keep W ρ (nI k) = (nI 1, va_cpy W W 0 (3137 * (k + 1)) 3137, (ρ.1 ||| nI 1 <<< (nI k &&& 31), ρ.2.1, upd ρ.2.2.1 k ρ.2.1, ρ.2.2.2.1, ρ.2.2.2.2.1, ρ.2.2.2.2.2.1, ρ.2.2.2.2.2.2)) := by
  unfold op_keep
  rw [if_pos (mo_bl_n hk (by omega)), ml_n (by omega)]
theorem lwJ.keep {im' : Nat → Option Nat} {k : Nat} (hk : k < 2) (h : HH Γ x W ρ im' (fun q => if q = k then W else iV W q) (fun q => if q = k then ρ.2.1 else ρ.2.2.1 q) (op_keep W ρ (nI k)).2.1 (op_keep W ρ (nI k)).2.2 H) : lwJ Γ x (op_keep W ρ (nI k)).2.1 (op_keep W ρ (nI k)).2.2 im' H := by
  rw [op_keep_e hk] at h ⊢
  refine ⟨h.1.cgA (fun j hj => kp_lo j hj) rfl rfl, h.2.1, fun k2 hk2 a ha => ?_, h.2.2.2⟩
  have h2 := h.2.2.1 k2 hk2 a ha
  dsimp only at h2 ⊢
  refine ⟨h2.1, h2.2.1, ?_⟩
  by_cases q : k2 = k
  · subst q
    rw [if_pos rfl, if_pos rfl] at h2
    rw [pk_us]
    exact h2.2.2.cgA (fun j hj => kp_in j hj)
  · rw [if_neg q, if_neg q] at h2
    rw [pk_un q]
    exact h2.2.2.cgA (fun j hj => kp_ot q j hj)
theorem lwP.keep {im' : Nat → Option Nat} {i k : Nat} (h : lwP i W ρ im) (hi : i < 512) (hk : k < 2) (h1 : ∀ k2, k2 ≠ k → im' k2 = im k2) (h2 : im' k ≠ none) (hd : ∀ a0 a1, im' 0 = some a0 → im' 1 = some a1 → a0 + 26 ≤ a1 ∨ a1 + 26 ≤ a0) : lwP (i + 1) (op_keep W ρ (nI k)).2.1 (op_keep W ρ (nI k)).2.2 im' := by
  rw [op_keep_e hk]
  obtain ⟨a1, a2, a3, a4, a5, ⟨q0, hq0, hq⟩, a7, a8, a9⟩ := h
  have hn6 := ml_n6 a1.1
  have c1 : ∀ j, j < 3137 → va_cpy W W 0 (3137 * (k + 1)) 3137 j = W j := fun j hj => kp_lo j hj
  dsimp only
  refine ⟨a1.cgA c1, a2, a3, ?_, ?_, ?_, fun k2 hk2 => ?_, fun k2 hk2 a ha => ?_, hd⟩
  · rw [PH_cg hn6 c1]; omega
  · rw [PG_cg hn6 c1]; omega
  · rw [hq]; exact bit_k q0 hq0 k hk
  · rw [hq]
    by_cases z : k2 = k
    · subst z
      exact ⟨fun w => absurd w h2, fun w => absurd w (bit_s q0 hq0 k2 hk2)⟩
    · rw [h1 k2 z, bit_o q0 hq0 k hk k2 hk2 z, ← hq]
      exact a7 k2 hk2
  · by_cases z : k2 = k
    · subst z
      have c2 : ∀ j, j < 3137 → iV (va_cpy W W 0 (3137 * (k2 + 1)) 3137) k2 j = W j := fun j hj => kp_in j hj
      refine ⟨a1.cgA c2, by dsimp only; rw [pk_us]; exact a3, ?_, ?_⟩
      · rw [PH_cg hn6 c2]; omega
      · rw [PG_cg hn6 c2]; omega
    · have c2 : ∀ j, j < 3137 → iV (va_cpy W W 0 (3137 * (k + 1)) 3137) k2 j = iV W k2 j := fun j hj => kp_ot z j hj
      rw [h1 k2 z] at ha
      obtain ⟨b1, b2, b3, b4⟩ := a8 k2 hk2 a ha
      have hn62 := ml_n6 b1.1
      refine ⟨b1.cgA c2, by dsimp only; rw [pk_un z]; exact b2, ?_, ?_⟩
      · rw [PH_cg hn62 c2]; omega
      · rw [PG_cg hn62 c2]; omega
theorem op_back_e {k : Nat} (hk : k < 2) (hb : ¬ (ρ.1 >>> (nI k &&& 31)) &&& nI 1 = 0) : op_goBack W ρ (nI k) = (nI 1, va_cpy W W (3137 * (k + 1)) 0 3137, (ρ.1, ρ.2.2.1 k, ρ.2.2.1, ρ.2.2.2.1, ρ.2.2.2.2.1, ρ.2.2.2.2.2.1, ρ.2.2.2.2.2.2)) := by
  unfold op_goBack
  rw [if_pos (mo_bl_n hk (by omega)), if_neg hb, ml_n (by omega)]
theorem op_back_n {k : Nat} (hk : k < 2) (hb : (ρ.1 >>> (nI k &&& 31)) &&& nI 1 = 0) : op_goBack W ρ (nI k) = (oN, W, ρ) := by
  unfold op_goBack
  rw [if_pos (mo_bl_n hk (by omega)), if_pos hb]
theorem lwJ.back {k : Nat} (hk : k < 2) (hb : ¬ (ρ.1 >>> (nI k &&& 31)) &&& nI 1 = 0) (h : HH Γ x (iV W k) (ρ.1, ρ.2.2.1 k, ρ.2.2.1, ρ.2.2.2.1, ρ.2.2.2.2.1, ρ.2.2.2.2.2.1, ρ.2.2.2.2.2.2) im (iV W) ρ.2.2.1 (op_goBack W ρ (nI k)).2.1 (op_goBack W ρ (nI k)).2.2 H) : lwJ Γ x (op_goBack W ρ (nI k)).2.1 (op_goBack W ρ (nI k)).2.2 im H := by
  rw [op_back_e hk hb] at h ⊢
  refine ⟨h.1.cgA (fun j hj => gb_in j hj) rfl rfl, h.2.1, fun k2 hk2 a ha => ?_, h.2.2.2⟩
  have h2 := h.2.2.1 k2 hk2 a ha
  exact ⟨h2.1, h2.2.1, h2.2.2.cgA (fun j hj => gb_hi _ (by omega))⟩
theorem lwP.back {i k a : Nat} (h : lwP i W ρ im) (hi : i < 512) (hk : k < 2) (ha : im k = some a) (hb : ¬ (ρ.1 >>> (nI k &&& 31)) &&& nI 1 = 0) : lwP (i + 1) (op_goBack W ρ (nI k)).2.1 (op_goBack W ρ (nI k)).2.2 im := by
  rw [op_back_e hk hb]
  obtain ⟨a1, a2, a3, a4, a5, a6, a7, a8, a9⟩ := h
  obtain ⟨b1, b2, b3, b4⟩ := a8 k hk a ha
  have hn6 := ml_n6 b1.1
  have c1 : ∀ j, j < 3137 → va_cpy W W (3137 * (k + 1)) 0 3137 j = iV W k j := fun j hj => gb_in j hj
  dsimp only
  refine ⟨b1.cgA c1, a2, b2, ?_, ?_, a6, a7, fun k2 hk2 a2 ha2 => ?_, a9⟩
  · rw [PH_cg hn6 c1]; omega
  · rw [PG_cg hn6 c1]; omega
  · obtain ⟨d1, d2, d3, d4⟩ := a8 k2 hk2 a2 ha2
    have e : iV (va_cpy W W (3137 * (k + 1)) 0 3137) k2 = iV W k2 := funext (fun j => gb_hi _ (by omega))
    rw [e]
    exact ⟨d1, d2, by omega, by omega⟩
end LK
