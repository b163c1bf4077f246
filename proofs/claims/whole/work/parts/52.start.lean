/-! THE CLAIM OUT OF ONE WALK OF THE LAW'S BODY. Your part is whole_start (and what it stands on); all else here is the same for every law, but numbers. -/
def R_law : String := "MovedWaysLaw"
def lw_P (b : Addr) (xs : List Int32) (args : Array Value) (s : State) : Prop := args = #[.ref b] ∧ s.IntsAt b xs ∧ xs.length ≤ 3072 ∧ (Jvm.Cond.and given_1 narrow_1).before args s = true
def lw_Q (_ : Array Value) (s : State) (o : Outcome) (t : State) : Prop := o = .returned (some (.int 1)) ∧ Framed s o t [] room_1.cells room_1.slots
def lw_Z (below : List Frame) (a : Array Value) (s : State) : State → Prop := fun t => ∃ o, t.status = .running ∧ Ended t below o ∧ lw_Q a s o t
/-- the law's own end, with 1 on the stack, nothing written that was there before, its room as the claim has it -/
theorem lw_ret {p : Program} {l : Launch} {e : Env} {s : State} {m : MethodId} {below : List Frame} {meth : Method} {c : Code} {b : Nat} (hx : p.tables.exec = Jvm.exec) (hb : c.code = code) (hr : meth.sig.returnType = ret) (hlocks : meth.locks = false) {pc : Nat} {H : Heap} {ls : Array Slot} (hdg : decode code pc = .ok (.ireturn, 1)) : W p l e room_1 s m #[Value.ref b] below meth c H [] room_1.cells room_1.slots (lw_Z below #[Value.ref b] s) (F0 m pc ls [.int 1]) := by
  intro T hT X
  obtain ⟨fs, hret, hrun, hended, hW, hframe⟩ := X.leave (v := some (.int 1)) (hlocks := hlocks) (fun h => by rw [hr] at h; cases h)
  have hmeth' : T.vm.method? m = some meth := X.method'
  refine ⟨T.setFrames fs, ?_, .returned (some (.int 1)), hrun, hended, rfl, ⟨_, rfl⟩, hW, hframe⟩
  jvm_step X.here [X.here.top, hx, hb, hdg, hmeth', hr, ret, narrow_b1]
  (try refine ⟨rfl, ?_⟩); (try refine ⟨rfl, ?_⟩)
  first | (intro acts; rw [hret _ acts rfl rfl rfl]) | rw [hret _ _ rfl rfl rfl]
  exact Steps.refl _
/-- what holds at the law's entry: the machine, the code, the tables' words (any of lw_tbl by 'hts w (by decide +kernel)'), the script of L ints xs at the cell b, what the Statement gives of the start (any of its parts by flat_of_before) -/
def lw_At (p : Program) (s : State) (m : MethodId) (meth : Method) (c : Code) (b L : Nat) (xs : Nat → Int32) : Prop :=
  p.tables.exec = Jvm.exec ∧ c.code = code ∧ meth.sig.returnType = ret ∧ c.maxLocals = 4 ∧ s.vm.findClass R_law = some m.cls ∧ (∀ w ∈ lw_tbl, w.before #[Value.ref b] s = true) ∧ va_X b L xs s s.heap ∧ b < s.heap.size ∧ meth.locks = false ∧ (Jvm.Cond.and given_1 narrow_1).before #[Value.ref b] s = true
section LL
variable {Γ : mw_C} {p : Program} {l : Launch} {e : Env} {s : State} {m : MethodId} {below : List Frame} {meth : Method} {c : Code} {b L x : Nat} {xs : Nat → Int32}
theorem lw_len {L i : Nat} (hL : L ≤ 3072) (hi : i ≤ 512) (h : ¬ nI L - nI 6 < nI (6 * i)) : 6 * i + 6 ≤ L := by
  rw [Int32.lt_iff_toInt_lt, pk_sub_toInt (by omega) (by omega), nI_toInt (by omega)] at h
  omega
set_option maxHeartbeats 4000000 in
set_option maxRecDepth 20000 in
theorem lw_end (X : mw_Ok Γ p s m #[Value.ref b] meth c (fun q => s.heap.size ≤ q) (lw_d meth.name) pL_h) (hx : Γ.2.2.2 ≤ x) (hxs : s.heap.size ≤ x) (hX : va_X b L xs s s.heap) (hbl : b < s.heap.size) (hL : L ≤ 3072) {I : Heap → Prop} {ce sl : Nat} (hce : ce ≤ room_1.cells) (hsl : sl ≤ room_1.slots) {lv : List (Nat × Value)} : mw_G p l e room_1 s m #[Value.ref b] below meth c (fun q => s.heap.size ≤ q) (lw_d meth.name).2.2.1 (lw_Z below #[Value.ref b] s) I ce sl 810 lv [.int (nI 1)] := by
  intro H locs ls hI hS hl
  refine va_forget (fun q hq => hS.2.2 q hq) ?_
  refine W.widen hce hsl ?_
  exact lw_ret X.hx X.hb X.hr X.hlo (X.hd (pc := 810) rfl)
set_option maxHeartbeats 4000000 in
set_option maxRecDepth 20000 in
theorem lw_body (X : mw_Ok Γ p s m #[Value.ref b] meth c (fun q => s.heap.size ≤ q) (lw_d meth.name) pL_h) (hx : Γ.2.2.2 ≤ x) (hxs : s.heap.size ≤ x) (hX : va_X b L xs s s.heap) (hbl : b < s.heap.size) (hL : L ≤ 3072) {i : Nat} {W : Nat → Int32} {ρ : md_R} {im : Nat → Option Nat} (hi5 : i ≤ 512) (hP : lwP i W ρ im) (back : i < 512 → ∀ (W' : Nat → Int32) (ρ' : md_R) (im' : Nat → Option Nat), lwP (i + 1) W' ρ' im' → lwG Γ p l e s m below meth c (lw_Z below #[Value.ref b] s) b x (i + 1) W' ρ' im' 18) : lwG Γ p l e s m below meth c (lw_Z below #[Value.ref b] s) b x i W ρ im 18 := by
  have hgoal : lwG Γ p l e s m below meth c (lw_Z below #[Value.ref b] s) b x i W ρ im 18 ↔ lwG Γ p l e s m below meth c (lw_Z below #[Value.ref b] s) b x i W ρ im 18 := Iff.rfl
  unfold lwG
  refine mw_steps X 2 (pc' := 20) (lv' := [(3, .int (nI (6 * i))), (2, .ref (x + 30)), (1, .ref x), (0, .ref b)]) (st' := [.ref b, .int (nI (6 * i))]) rfl ?_
  refine mw_slen X hX hbl (Nat.not_le.mpr hbl) rfl ?_
  refine mw_steps X 2 (pc' := 24) (lv' := [(3, .int (nI (6 * i))), (2, .ref (x + 30)), (1, .ref x), (0, .ref b)]) (st' := [.int (nI L - nI 6), .int (nI (6 * i))]) rfl ?_
  refine mw_icmp_gt X 809 rfl rfl (fun c24 => ?_) (fun c24 => ?_)
  · refine mw_steps X 1 (pc' := 810) (lv' := [(3, .int (nI (6 * i))), (2, .ref (x + 30)), (1, .ref x), (0, .ref b)]) (st' := [.int (nI 1)]) rfl ?_
    exact lw_end X hx hxs hX hbl hL (by have := lw_capC; omega) (by have := lw_capS; omega)
  · have hi : 6 * i + 6 ≤ L := lw_len hL hi5 c24
    have back := back (by omega)
    refine mw_steps X 2 (pc' := 29) (lv' := [(3, .int (nI (6 * i))), (2, .ref (x + 30)), (1, .ref x), (0, .ref b)]) (st' := [.int (nI (6 * i)), .ref b]) rfl ?_
    refine mw_sld X hX hbl (Nat.not_le.mpr hbl) (6 * i) rfl (by omega) hL rfl ?_
    refine mw_steps X 2 (pc' := 33) (lv' := [(3, .int (nI (6 * i))), (2, .ref (x + 30)), (1, .ref x), (0, .ref b)]) (st' := [.int (xs (6 * i) &&& nI 31)]) rfl ?_
    obtain ⟨r, hr, hr2⟩ := ml_and31 (xs (6 * i))
    refine mw_top (y := nI r) hr2 ?_
    by_cases h25 : r < 25
    · rcases (show r = 0 ∨ r = 1 ∨ r = 2 ∨ r = 3 ∨ r = 4 ∨ r = 5 ∨ r = 6 ∨ r = 7 ∨ r = 8 ∨ r = 9 ∨ r = 10 ∨ r = 11 ∨ r = 12 ∨ r = 13 ∨ r = 14 ∨ r = 15 ∨ r = 16 ∨ r = 17 ∨ r = 18 ∨ r = 19 ∨ r = 20 ∨ r = 21 ∨ r = 22 ∨ r = 23 ∨ r = 24 by omega) with rfl | rfl | rfl | rfl | rfl | rfl | rfl | rfl | rfl | rfl | rfl | rfl | rfl | rfl | rfl | rfl | rfl | rfl | rfl | rfl | rfl | rfl | rfl | rfl | rfl
      · refine mw_tsIn X 0 rfl (by decide) 148 rfl (by decide) rfl rfl ?_
        exact lw_case0 X hx hxs hX hbl hL hi hP back
      · refine mw_tsIn X 1 rfl (by decide) 171 rfl (by decide) rfl rfl ?_
        exact lw_case1 X hx hxs hX hbl hL hi hP back
      · refine mw_tsIn X 2 rfl (by decide) 204 rfl (by decide) rfl rfl ?_
        exact lw_case2 X hx hxs hX hbl hL hi hP back
      · refine mw_tsIn X 3 rfl (by decide) 237 rfl (by decide) rfl rfl ?_
        exact lw_case3 X hx hxs hX hbl hL hi hP back
      · refine mw_tsIn X 4 rfl (by decide) 270 rfl (by decide) rfl rfl ?_
        exact lw_case4 X hx hxs hX hbl hL hi hP back
      · refine mw_tsIn X 5 rfl (by decide) 303 rfl (by decide) rfl rfl ?_
        exact lw_case5 X hx hxs hX hbl hL hi hP back
      · refine mw_tsIn X 6 rfl (by decide) 336 rfl (by decide) rfl rfl ?_
        exact lw_case6 X hx hxs hX hbl hL hi hP back
      · refine mw_tsIn X 7 rfl (by decide) 359 rfl (by decide) rfl rfl ?_
        exact lw_case7 X hx hxs hX hbl hL hi hP back
      · refine mw_tsIn X 8 rfl (by decide) 392 rfl (by decide) rfl rfl ?_
        exact lw_case8 X hx hxs hX hbl hL hi hP back
      · refine mw_tsIn X 9 rfl (by decide) 405 rfl (by decide) rfl rfl ?_
        exact lw_case9 X hx hxs hX hbl hL hi hP back
      · refine mw_tsIn X 10 rfl (by decide) 428 rfl (by decide) rfl rfl ?_
        exact lw_case10 X hx hxs hX hbl hL hi hP back
      · refine mw_tsIn X 11 rfl (by decide) 451 rfl (by decide) rfl rfl ?_
        exact lw_case11 X hx hxs hX hbl hL hi hP back
      · refine mw_tsIn X 12 rfl (by decide) 474 rfl (by decide) rfl rfl ?_
        exact lw_case12 X hx hxs hX hbl hL hi hP back
      · refine mw_tsIn X 13 rfl (by decide) 487 rfl (by decide) rfl rfl ?_
        exact lw_case13 X hx hxs hX hbl hL hi hP back
      · refine mw_tsIn X 14 rfl (by decide) 510 rfl (by decide) rfl rfl ?_
        exact lw_case14 X hx hxs hX hbl hL hi hP back
      · refine mw_tsIn X 15 rfl (by decide) 533 rfl (by decide) rfl rfl ?_
        exact lw_case15 X hx hxs hX hbl hL hi hP back
      · refine mw_tsIn X 16 rfl (by decide) 556 rfl (by decide) rfl rfl ?_
        exact lw_case16 X hx hxs hX hbl hL hi hP back
      · refine mw_tsIn X 17 rfl (by decide) 579 rfl (by decide) rfl rfl ?_
        exact lw_case17 X hx hxs hX hbl hL hi hP back
      · refine mw_tsIn X 18 rfl (by decide) 642 rfl (by decide) rfl rfl ?_
        exact lw_case18 X hx hxs hX hbl hL hi hP back
      · refine mw_tsIn X 19 rfl (by decide) 655 rfl (by decide) rfl rfl ?_
        exact lw_case19 X hx hxs hX hbl hL hi hP back
      · refine mw_tsIn X 20 rfl (by decide) 678 rfl (by decide) rfl rfl ?_
        exact lw_case20 X hx hxs hX hbl hL hi hP back
      · refine mw_tsIn X 21 rfl (by decide) 721 rfl (by decide) rfl rfl ?_
        exact lw_case21 X hx hxs hX hbl hL hi hP back
      · refine mw_tsIn X 22 rfl (by decide) 734 rfl (by decide) rfl rfl ?_
        exact lw_case22 X hx hxs hX hbl hL hi hP back
      · refine mw_tsIn X 23 rfl (by decide) 757 rfl (by decide) rfl rfl ?_
        cases hy : mo_bl (xs (6 * i + 1)) 2 with
        | false => exact lw_case23U X hx hxs hX hbl hL hi hP hy back
        | true =>
          obtain ⟨k, hk, hyk⟩ := mo_bl2 hy
          cases ha : im k with
          | none => exact lw_case23N X hx hxs hX hbl hL hi hP hk hyk ha back
          | some a => exact lw_case23S X hx hxs hX hbl hL hi hP hk hyk ha back
      · refine mw_tsIn X 24 rfl (by decide) 780 rfl (by decide) rfl rfl ?_
        cases hy : mo_bl (xs (6 * i + 1)) 2 with
        | false => exact lw_case24U X hx hxs hX hbl hL hi hP hy back
        | true =>
          obtain ⟨k, hk, hyk⟩ := mo_bl2 hy
          cases ha : im k with
          | none => exact lw_case24N X hx hxs hX hbl hL hi hP hk hyk ha back
          | some a => exact lw_case24S X hx hxs hX hbl hL hi hP hk hyk ha back
    · refine mw_tsOut X 803 rfl (Or.inr (by rw [nI_toInt (by omega)]; omega)) rfl ?_
      refine mw_steps X 2 (pc' := 18) (lv' := [(3, .int (nI (6 * i) + nI 6)), (2, .ref (x + 30)), (1, .ref x), (0, .ref b)]) (st' := []) rfl ?_
      refine mw_lveq (lv' := [(3, .int (nI (6 * (i + 1)))), (2, .ref (x + 30)), (1, .ref x), (0, .ref b)]) (by rw [nI_add]; rfl) ?_
      refine mw_widen (ce' := 36 + 26 * (i + 1)) (sl' := 13859 + 4225 * (i + 1)) (by omega) (by omega) ?_
      exact back W ρ im (hP.same (by omega))
theorem lw_loop (X : mw_Ok Γ p s m #[Value.ref b] meth c (fun q => s.heap.size ≤ q) (lw_d meth.name) pL_h) (hx : Γ.2.2.2 ≤ x) (hxs : s.heap.size ≤ x) (hX : va_X b L xs s s.heap) (hbl : b < s.heap.size) (hL : L ≤ 3072) {W : Nat → Int32} {ρ : md_R} {im : Nat → Option Nat} (hP : lwP 0 W ρ im) : lwG Γ p l e s m below meth c (lw_Z below #[Value.ref b] s) b x 0 W ρ im 18 := by
  have key := mw_wfR (p := p) (l := l) (e := e) (R := room_1) (s := s) (m := m) (args := #[Value.ref b]) (below := below) (meth := meth) (c := c) (A := fun q => s.heap.size ≤ q) (Q := lw_Z below #[Value.ref b] s) (pc := 18) (nL := (lw_d meth.name).2.2.1) (st := []) (σ := Nat × (Nat → Int32) × md_R × (Nat → Option Nat)) (fun q => 512 - q.1) (fun q => q.1 ≤ 512 ∧ lwP q.1 q.2.1 q.2.2.1 q.2.2.2) (fun q => lwJ Γ x q.2.1 q.2.2.1 q.2.2.2) (fun q => [(3, .int (nI (6 * q.1))), (2, .ref (x + 30)), (1, .ref x), (0, .ref b)]) (fun q => 36 + 26 * q.1) (fun q => 13859 + 4225 * q.1) (fun q hq ih => ?_) (0, W, ρ, im) ⟨Nat.zero_le _, hP⟩
  · exact key
  · obtain ⟨i, W, ρ, im⟩ := q
    exact lw_body X hx hxs hX hbl hL hq.1 hq.2 (fun hlt W' ρ' im' hP' => ih (i + 1, W', ρ', im') ⟨hlt, hP'⟩ (by show 512 - (i + 1) < 512 - i; omega))
theorem lw_P0 : lwP 0 mo_W0 mo_R0 (fun _ => none) := by
  have h89 : ∀ j, 89 ≤ j → mo_W0 j = 0 := fun j hj => mo_W0_hi hj
  refine ⟨?_, ⟨0, by omega, rfl, fun k hk => absurd hk (Nat.not_lt_zero k)⟩, by decide, by decide, by decide, ⟨0, by omega, rfl⟩, fun k hk => ⟨fun _ => by rcases (show k = 0 ∨ k = 1 by omega) with rfl | rfl <;> decide, fun _ => rfl⟩, fun k hk a ha => (by cases ha), fun a0 a1 h0 => (by cases h0)⟩
  refine ⟨⟨⟨0, by omega, rfl⟩, ⟨0, by omega, rfl⟩, ⟨0, by omega, rfl⟩⟩, ⟨⟨0, by omega, rfl⟩, ⟨0, by omega, rfl⟩⟩, fun k hk => absurd hk (Nat.not_lt_zero k), fun k hk => absurd hk (Nat.not_lt_zero k), fun k hk => absurd hk (Nat.not_lt_zero k), fun p hp => ?_, ⟨2, by omega, by omega, rfl, fun n hn => ?_⟩, fun e he => ?_, ?_⟩
  · rcases (show p = 0 ∨ p = 1 ∨ p = 2 ∨ p = 3 ∨ p = 4 by omega) with rfl | rfl | rfl | rfl | rfl
    · exact ⟨Or.inr ⟨0, by omega, rfl⟩, Or.inr rfl, Or.inr rfl⟩
    · exact ⟨Or.inl rfl, Or.inl rfl, Or.inl rfl⟩
    · exact ⟨Or.inl rfl, Or.inl rfl, Or.inl rfl⟩
    · exact ⟨Or.inl rfl, Or.inl rfl, Or.inl rfl⟩
    · exact ⟨Or.inl rfl, Or.inl rfl, Or.inl rfl⟩
  · have hall : ∀ n, n < 40 → (mo_W0 (47 + n) = nI 0 ∨ mo_W0 (47 + n) = nI 1) ∧ (2 ≤ n → mo_W0 (47 + n) = nI 0) ∧ (mo_W0 (87 + n) = nI 0 ∨ mo_W0 (87 + n) = nI 1 ∨ mo_W0 (87 + n) = nI 2) := by decide
    exact hall n hn
  · refine ⟨⟨0, by omega, ?_⟩, ⟨0, by omega, ?_⟩, ⟨0, by omega, ?_⟩, fun k hk => Or.inl (h89 _ (by omega))⟩
    all_goals rcases (show e = 0 ∨ e = 1 by omega) with rfl | rfl <;> rfl
  · exact ⟨Or.inl rfl, Or.inl rfl, Or.inl rfl⟩
end LL
set_option maxHeartbeats 4000000 in
set_option maxRecDepth 20000 in
theorem whole_start {p : Program} {e : Env} {s : State} {m : MethodId} {below : List Frame} {meth : Method} {c : Code} (l : Launch) (hflags : l.flags = flags0) {b L : Nat} {xs : Nat → Int32} (hL : L ≤ 3072) (C0 : lw_At p s m meth c b L xs) : W p l e room_1 s m #[Value.ref b] below meth c s.heap [] 0 0 (lw_Z below #[Value.ref b] s) (entryFrame m ([Value.ref b] : List Value).toArray 4) := by
  obtain ⟨hx, hb, hr, hml, hown, hts, hX, hbl, hlocks, hgv⟩ := id C0
  obtain ⟨Γ, hΓ, hK⟩ := lw_known hts hgv
  have X : mw_Ok Γ p s m #[Value.ref b] meth c (fun q => s.heap.size ≤ q) (lw_d meth.name) pL_h := ⟨hx, hb, hr, hml, hown, hK, hlocks, fun q hq => by rw [hΓ]; exact hq, oL_h, rfl⟩
  obtain ⟨x, hxd⟩ : ∃ x, x = s.heap.size := ⟨_, rfl⟩
  have hx0 : Γ.2.2.2 ≤ x := by omega
  have hl1 := lv_entry [Value.ref b] (n := 4) (Nat.le_of_ble_eq_true rfl)
  rw [lg_entry_eq]
  have G : mw_G p l e room_1 s m #[Value.ref b] below meth c (fun q => s.heap.size ≤ q) (lw_d meth.name).2.2.1 (lw_Z below #[Value.ref b] s) (fun H => H.size = x ∧ True) 0 0 0 [(0, .ref b)] [] := by
    refine mw_newo X [.null, .null, .null] (ci := 4) rfl kc_4 ko_L_7 kn_X4 k_inX4 tyX4_ok dfX4 ⟨Nat.le_of_ble_eq_true rfl, Nat.le_of_ble_eq_true rfl⟩ rfl (h := x) (I1 := fun H => H.size = x + 1 ∧ mw_ob Γ x 4 [.null, .null, .null] H ∧ True) (fun H h => ⟨h.1, fun H1 n c => ⟨n.2.1, c, trivial⟩⟩) ?_
    refine mw_steps X 1 (pc' := 4) (lv' := [(0, .ref b)]) (st' := [.ref x, .ref x]) rfl ?_
    refine mw_cI0 X kd_X4_init rfl rfl ki_X4_init (Or.inl kl_L_9) rfl (Nat.le_of_ble_eq_true rfl) ⟨Nat.le_of_ble_eq_true rfl, Nat.le_of_ble_eq_true rfl⟩ ⟨Nat.le_of_ble_eq_true rfl, Nat.le_of_ble_eq_true rfl⟩ (fun q z => by have z2 : x ≤ q := z; show s.heap.size ≤ q; omega) (fun H h => mw_Cr.wide (J' := fun H => H.size = x + 30 ∧ mx_I Γ x mo_W0 mo_R0 H ∧ mw_ra Γ (x + 29) 2 (fun _ => none) H ∧ True) (zi_mx (by omega) h.2.1 h.1) (fun H1 hJ _ hf => ⟨hJ.2, hJ.1.1, hJ.1.2, trivial⟩)) ?_
    refine mw_steps X 1 (pc' := 8) (lv' := [(1, .ref x), (0, .ref b)]) (st' := []) rfl ?_
    refine mw_newo X [.null, .int 0, .int 0, .null, .null, .null, .null, .int 0] (ci := 5) rfl kc_5 ko_L_10 kn_X5 k_inX5 tyX5_ok dfX5 ⟨Nat.le_of_ble_eq_true rfl, Nat.le_of_ble_eq_true rfl⟩ rfl (h := x + 30) (I1 := fun H => H.size = x + 31 ∧ mx_I Γ x mo_W0 mo_R0 H ∧ mw_ra Γ (x + 29) 2 (fun _ => none) H ∧ mw_ob Γ (x + 30) 5 [.null, .int 0, .int 0, .null, .null, .null, .null, .int 0] H ∧ True) (fun H h => ⟨h.1, fun H1 n c => ⟨n.2.1, h.2.1.kpM (fun q a z => n.2.2 q (by unfold mx_A at z; omega)), h.2.2.1.kept (n.2.2 _ (by omega)), c, trivial⟩⟩) ?_
    refine mw_steps X 1 (pc' := 12) (lv' := [(1, .ref x), (0, .ref b)]) (st' := [.ref (x + 30), .ref (x + 30)]) rfl ?_
    refine mw_cI0 X kd_X5_init rfl rfl ki_X5_init (Or.inl kl_L_12) rfl (Nat.le_of_ble_eq_true rfl) ⟨Nat.le_of_ble_eq_true rfl, Nat.le_of_ble_eq_true rfl⟩ ⟨Nat.le_of_ble_eq_true rfl, Nat.le_of_ble_eq_true rfl⟩ (fun q z => by have z2 : x + 30 ≤ q := z; show s.heap.size ≤ q; omega) (fun H h => mw_Cr.wide (J' := fun H => H.size = x + 36 ∧ mx_I Γ x mo_W0 mo_R0 H ∧ mw_ra Γ (x + 29) 2 (fun _ => none) H ∧ md_I Γ (x + 30) mo_W0 mo_R0 H ∧ True) (zi_md (by omega) h.2.2.2.1 h.1) (fun H1 hJ _ hf => ⟨hJ.2, h.2.1.kpM (fun q a z => hf q a (fun w => by have w2 : x + 30 ≤ q := w; unfold mx_A at z; omega)), h.2.2.1.kept (hf _ h.2.2.1.lt (fun w => by have w2 : x + 30 ≤ x + 29 := w; omega)), hJ.1, trivial⟩)) ?_
    refine mw_steps X 3 (pc' := 18) (lv' := [(3, .int (nI 0)), (2, .ref (x + 30)), (1, .ref x), (0, .ref b)]) (st' := []) rfl ?_
    refine mw_widen (ce' := 36 + 26 * 0) (sl' := 13859 + 4225 * 0) (by omega) (by omega) ?_
    refine mw_pre (I' := lwJ Γ x mo_W0 mo_R0 (fun _ => none)) (fun H h => ⟨h.2.1, h.2.2.1, fun k hk a ha => (by cases ha), h.2.2.2.1⟩) ?_
    exact lw_loop X hx0 (by omega) hX hbl hL lw_P0
  exact G s.heap [] _ ⟨hxd.symm, trivial⟩ va_S.rf hl1
