/-! arrays, new cells, calls, returns -/
theorem mw_updI (f : Nat → Int32) (k : Nat) (x : Int32) : updV (fun j => Value.int (f j)) k (.int x) = fun j => .int (upd f k x j) := by
  funext j
  by_cases h : j = k <;> simp [updV, upd, h]
theorem mw_updL (f : Nat → Int64) (k : Nat) (x : Int64) : updV (fun j => Value.long (f j)) k (.long x) = fun j => .long (vp_updL f k x j) := by
  funext j
  by_cases h : j = k <;> simp [updV, vp_updL, h]
theorem mw_updQ (f : Nat → Option Nat) (k : Nat) (x : Nat) : updV (fun j => va_rf (f j)) k (.ref x) = fun j => va_rf (va_up f k (some x) j) := by
  funext j
  by_cases h : j = k <;> simp [updV, va_up, va_rf, h]
section KA
variable {Γ : mw_C} {p : Program} {l : Launch} {e : Env} {R : Room} {s : State} {m : MethodId} {args : Array Value} {below : List Frame} {meth : Method} {c : Code} {A : Nat → Prop} {Q : State → Prop} {I I1 : Heap → Prop} {ce sl pc : Nat} {d : mw_M} {P : List (Nat × Instr × Nat)} {lv : List (Nat × Value)} {rest : List Value}
theorem mw_iald (X : mw_Ok Γ p s m args meth c A d P) {a : Nat} {i : Int32} {v : Int32} (j : Nat) (hi : i = nI j) (ha : mw_at P pc = some (.iaload, 1)) (hI : ∀ H, I H → ∃ n f, mw_ia Γ a n f H ∧ j < n ∧ n ≤ 100000 ∧ f j = v) (kk : mw_G p l e R s m args below meth c A d.2.2.1 Q I ce sl (pc + 1) lv (.int v :: rest)) : mw_G p l e R s m args below meth c A d.2.2.1 Q I ce sl pc lv (.int i :: .ref a :: rest) := by
  intro H locs ls hH hS hl
  obtain ⟨n, f, h1, hj, hn, rfl⟩ := hI H hH
  subst hi
  have hcl : (nI j).toNatClampNeg = j := nI_clamp (by omega)
  refine W.iald X.hx X.hb h1 ((X.hK.2.1.2 0 _ rfl).1 n _) (fun q => by cases q) (by rw [arrV_size]; exact nI_in hj (by omega)) (v := .int (f j)) (by rw [hcl, arrV_read _ _ hj]) rfl rfl (X.hd ha) (kk H locs ls hH hS hl)
theorem mw_iast (X : mw_Ok Γ p s m args meth c A d P) {a : Nat} {i : Int32} {x : Int32} (j : Nat) (hi : i = nI j) (ha : mw_at P pc = some (.iastore, 1)) (hI : ∀ H, I H → A a ∧ ∃ n f, mw_ia Γ a n f H ∧ j < n ∧ n ≤ 100000 ∧ ∀ H1, mw_one a H H1 → mw_ia Γ a n (upd f j x) H1 → I1 H1) (kk : mw_G p l e R s m args below meth c A d.2.2.1 Q I1 ce sl (pc + 1) lv rest) : mw_G p l e R s m args below meth c A d.2.2.1 Q I ce sl pc lv (.int x :: .int i :: .ref a :: rest) := by
  intro H locs ls hH hS hl
  obtain ⟨hA, n, f, h1, hj, hn, h2⟩ := hI H hH
  subst hi
  have hcl : (nI j).toNatClampNeg = j := nI_clamp (by omega)
  refine W.iast X.hx X.hb h1 ((X.hK.2.1.2 0 _ rfl).1 n _) (fun q => by cases q) (by rw [arrV_size]; exact nI_in hj (by omega)) rfl rfl (X.hd ha) (fun H1 e1 e2 e3 => ?_)
  rw [hcl, arrV_store, mw_updI] at e1
  have hone : mw_one a H H1 := ⟨e2, e3⟩
  exact kk H1 _ ls (h2 H1 hone e1) (hone.S hS hA) hl
theorem mw_lald (X : mw_Ok Γ p s m args meth c A d P) {a : Nat} {i : Int32} {v : Int64} (j : Nat) (hi : i = nI j) (ha : mw_at P pc = some (.laload, 1)) (hI : ∀ H, I H → ∃ n f, mw_la Γ a n f H ∧ j < n ∧ n ≤ 100000 ∧ f j = v) (kk : mw_G p l e R s m args below meth c A d.2.2.1 Q I ce sl (pc + 1) lv (.long v :: rest)) : mw_G p l e R s m args below meth c A d.2.2.1 Q I ce sl pc lv (.int i :: .ref a :: rest) := by
  intro H locs ls hH hS hl
  obtain ⟨n, f, h1, hj, hn, rfl⟩ := hI H hH
  subst hi
  have hcl : (nI j).toNatClampNeg = j := nI_clamp (by omega)
  refine W.lald X.hx X.hb h1 ((X.hK.2.1.2 1 _ rfl).1 n _) (fun q => by cases q) (by rw [arrV_size]; exact nI_in hj (by omega)) (v := .long (f j)) (by rw [hcl, arrV_read _ _ hj]) rfl rfl (X.hd ha) (kk H locs ls hH hS hl)
theorem mw_last (X : mw_Ok Γ p s m args meth c A d P) {a : Nat} {i : Int32} {x : Int64} (j : Nat) (hi : i = nI j) (ha : mw_at P pc = some (.lastore, 1)) (hI : ∀ H, I H → A a ∧ ∃ n f, mw_la Γ a n f H ∧ j < n ∧ n ≤ 100000 ∧ ∀ H1, mw_one a H H1 → mw_la Γ a n (vp_updL f j x) H1 → I1 H1) (kk : mw_G p l e R s m args below meth c A d.2.2.1 Q I1 ce sl (pc + 1) lv rest) : mw_G p l e R s m args below meth c A d.2.2.1 Q I ce sl pc lv (.long x :: .int i :: .ref a :: rest) := by
  intro H locs ls hH hS hl
  obtain ⟨hA, n, f, h1, hj, hn, h2⟩ := hI H hH
  subst hi
  have hcl : (nI j).toNatClampNeg = j := nI_clamp (by omega)
  refine W.last X.hx X.hb h1 ((X.hK.2.1.2 1 _ rfl).1 n _) (fun q => by cases q) (by rw [arrV_size]; exact nI_in hj (by omega)) rfl rfl (X.hd ha) (fun H1 e1 e2 e3 => ?_)
  rw [hcl, arrV_store, mw_updL] at e1
  have hone : mw_one a H H1 := ⟨e2, e3⟩
  exact kk H1 _ ls (h2 H1 hone e1) (hone.S hS hA) hl
theorem mw_aald (X : mw_Ok Γ p s m args meth c A d P) {a : Nat} {i : Int32} {v : Option Nat} (j : Nat) (hi : i = nI j) (ha : mw_at P pc = some (.aaload, 1)) (hI : ∀ H, I H → ∃ n f, mw_ra Γ a n f H ∧ j < n ∧ n ≤ 100000 ∧ f j = v) (kk : mw_G p l e R s m args below meth c A d.2.2.1 Q I ce sl (pc + 1) lv (va_rf v :: rest)) : mw_G p l e R s m args below meth c A d.2.2.1 Q I ce sl pc lv (.int i :: .ref a :: rest) := by
  intro H locs ls hH hS hl
  obtain ⟨n, f, h1, hj, hn, rfl⟩ := hI H hH
  subst hi
  have hcl : (nI j).toNatClampNeg = j := nI_clamp (by omega)
  refine W.aald X.hx X.hb h1 ((X.hK.2.1.2 2 _ rfl).1 n _) rfl (fun q => by cases q) (by rw [arrV_size]; exact nI_in hj (by omega)) (v := va_rf (f j)) (by rw [hcl, arrV_read _ _ hj]) rfl rfl (X.hd ha) (kk H locs ls hH hS hl)
theorem mw_aast (X : mw_Ok Γ p s m args meth c A d P) {a v : Nat} {i : Int32} (j : Nat) (hi : i = nI j) (ha : mw_at P pc = some (.aastore, 1)) (hI : ∀ H, I H → A a ∧ (∃ fs, mw_ob Γ v 3 fs H) ∧ ∃ n f, mw_ra Γ a n f H ∧ j < n ∧ n ≤ 100000 ∧ ∀ H1, mw_one a H H1 → mw_ra Γ a n (va_up f j (some v)) H1 → I1 H1) (kk : mw_G p l e R s m args below meth c A d.2.2.1 Q I1 ce sl (pc + 1) lv rest) : mw_G p l e R s m args below meth c A d.2.2.1 Q I ce sl pc lv (.ref v :: .int i :: .ref a :: rest) := by
  intro H locs ls hH hS hl
  obtain ⟨hA, ⟨fs, hv⟩, n, f, h1, hj, hn, h2⟩ := hI H hH
  subst hi
  have hcl : (nI j).toNatClampNeg = j := nI_clamp (by omega)
  obtain ⟨r', hr', cellV, g1, g2, g3, -⟩ := hv
  have hc : vwCl[3]? = some (RX3, TX3, 15) := rfl
  have hcls := (X.hK.2.1.1 3 _ hc).2
  obtain ⟨kA, comp, k1, k2, k3, -⟩ := (X.hK.2.1.2 2 _ rfl).2
  have hcomp : comp = Γ.1.1 3 := Option.some.inj (k3.symm.trans hcls.1)
  subst hcomp
  obtain ⟨kC, hkC, -⟩ := hcls.2
  refine W.aast X.hx X.hb h1 (fun q h => by cases h) (fun h => by cases h) k1 k2 rfl hkC ⟨nI_pos (by omega), by rw [arrV_size, hcl]; exact hj⟩ g1 (fun q h => by rw [g3] at h; cases h) (by rw [g2]; exact hkC) (by rw [g2]; exact va_assign hcls) rfl rfl (X.hd ha) fun H1 e1 e2 e3 => ?_
  rw [hcl, arrV_store, mw_updQ] at e1
  have hone : mw_one a H H1 := ⟨e2, e3⟩
  exact kk H1 _ ls (h2 H1 hone e1) (hone.S hS hA) hl
theorem mw_ilen (X : mw_Ok Γ p s m args meth c A d P) {a : Nat} (n : Nat) (ha : mw_at P pc = some (.arraylength, 1)) (hI : ∀ H, I H → ∃ f, mw_ia Γ a n f H) (kk : mw_G p l e R s m args below meth c A d.2.2.1 Q I ce sl (pc + 1) lv (.int (nI n) :: rest)) : mw_G p l e R s m args below meth c A d.2.2.1 Q I ce sl pc lv (.ref a :: rest) := by
  intro H locs ls hH hS hl
  obtain ⟨f, h1⟩ := hI H hH
  exact W.alen (n := nI n) X.hx X.hb h1 ((X.hK.2.1.2 0 _ rfl).1 n _) (by rw [arrV_size]; rfl) rfl rfl (X.hd ha) (kk H locs ls hH hS hl)
theorem mw_llen (X : mw_Ok Γ p s m args meth c A d P) {a : Nat} (n : Nat) (ha : mw_at P pc = some (.arraylength, 1)) (hI : ∀ H, I H → ∃ f, mw_la Γ a n f H) (kk : mw_G p l e R s m args below meth c A d.2.2.1 Q I ce sl (pc + 1) lv (.int (nI n) :: rest)) : mw_G p l e R s m args below meth c A d.2.2.1 Q I ce sl pc lv (.ref a :: rest) := by
  intro H locs ls hH hS hl
  obtain ⟨f, h1⟩ := hI H hH
  exact W.alen (n := nI n) X.hx X.hb h1 ((X.hK.2.1.2 1 _ rfl).1 n _) (by rw [arrV_size]; rfl) rfl rfl (X.hd ha) (kk H locs ls hH hS hl)
theorem mw_rlen (X : mw_Ok Γ p s m args meth c A d P) {a : Nat} (n : Nat) (ha : mw_at P pc = some (.arraylength, 1)) (hI : ∀ H, I H → ∃ f, mw_ra Γ a n f H) (kk : mw_G p l e R s m args below meth c A d.2.2.1 Q I ce sl (pc + 1) lv (.int (nI n) :: rest)) : mw_G p l e R s m args below meth c A d.2.2.1 Q I ce sl pc lv (.ref a :: rest) := by
  intro H locs ls hH hS hl
  obtain ⟨f, h1⟩ := hI H hH
  exact W.alen (n := nI n) X.hx X.hb h1 ((X.hK.2.1.2 2 _ rfl).1 n _) (by rw [arrV_size]; rfl) rfl rfl (X.hd ha) (kk H locs ls hH hS hl)
theorem mw_gets (X : mw_Ok Γ p s m args meth c A d P) (hown : d.1.cls = "MovedWays$Ways") (hw : Cond.fieldLinkNest "MovedWays$Ways" 163 "MovedWays" "SIZES" "[I" "MovedWays" ∈ lw_tbl) (ha : mw_at P pc = some (.getstatic 163, 3)) (kk : mw_G p l e R s m args below meth c A d.2.2.1 Q I ce sl (pc + 3) lv (.ref Γ.2.2.1 :: rest)) : mw_G p l e R s m args below meth c A d.2.2.1 Q I ce sl pc lv rest := by
  intro H locs ls hH hS hl
  exact va_getsN X.hx X.hb (X.hK.2.2.1.narrow X.hA) hS (by rw [← hown]; exact X.hown) (X.hw hw rfl) (fun _ h => h) (X.hd ha) (kk H locs ls hH hS hl)
theorem mw_szlen (X : mw_Ok Γ p s m args meth c A d P) (ha : mw_at P pc = some (.arraylength, 1)) (kk : mw_G p l e R s m args below meth c A d.2.2.1 Q I ce sl (pc + 1) lv (.int (nI 6) :: rest)) : mw_G p l e R s m args below meth c A d.2.2.1 Q I ce sl pc lv (.ref Γ.2.2.1 :: rest) := by
  intro H locs ls hH hS hl
  obtain ⟨cell, h1, h2, h3, h4, h5, h6, h7⟩ := (X.hK.2.2.2.1.narrow X.hA).kept hS.2.1
  exact W.alen (n := nI 6) X.hx X.hb h1 h2 h5 rfl rfl (X.hd ha) (kk H locs ls hH hS hl)
theorem mw_szld (X : mw_Ok Γ p s m args meth c A d P) {i : Int32} (j : Nat) (hi : i = nI j) (hj : j < 6) (ha : mw_at P pc = some (.iaload, 1)) (kk : mw_G p l e R s m args below meth c A d.2.2.1 Q I ce sl (pc + 1) lv (.int (mw_sz j) :: rest)) : mw_G p l e R s m args below meth c A d.2.2.1 Q I ce sl pc lv (.int i :: .ref Γ.2.2.1 :: rest) := by
  intro H locs ls hH hS hl
  obtain ⟨cell, h1, h2, h3, h4, h5, h6, h7⟩ := (X.hK.2.2.2.1.narrow X.hA).kept hS.2.1
  subst hi
  have hcl : (nI j).toNatClampNeg = j := nI_clamp (by omega)
  refine W.iald X.hx X.hb h1 h2 h3 ?_ (v := .int (mw_sz j)) (by rw [hcl]; exact h6 j hj) rfl rfl (X.hd ha) (kk H locs ls hH hS hl)
  rw [hcl]
  rintro (h | h)
  · exact nI_pos (by omega) h
  · omega
theorem mw_newo (X : mw_Ok Γ p s m args meth c A d P) {idx ci : Nat} {C : String} {T : u_T} {N : Nat} {ty : Nat → FieldType} (fs : List Value) (hc : vwCl[ci]? = some (C, T, N)) (hC : mw_Cl ci) (hl : Cond.classLink d.1.cls idx C ∈ lw_tbl) (hin : Cond.instantiable C N ∈ lw_tbl) (hini : Cond.initialized C ∈ lw_tbl) (hty : ∀ k, k < N → parseFieldDescriptor (T k).2.2.1 = some (ty k)) (hfs : ∀ j, j < N → defaultValue (ty j) = vp_V fs j) (hcap : ce + 1 ≤ R.cells ∧ sl + N ≤ R.slots) (ha : mw_at P pc = some (.new idx, 3)) {h : Nat} (hI : ∀ H, I H → H.size = h ∧ ∀ H1, mw_new h H H1 → mw_ob Γ h ci fs H1 → I1 H1) (kk : mw_G p l e R s m args below meth c A d.2.2.1 Q I1 (ce + 1) (sl + N) (pc + 3) lv (.ref h :: rest)) : mw_G p l e R s m args below meth c A d.2.2.1 Q I ce sl pc lv rest := by
  intro H locs ls hH hS hl2
  obtain ⟨hh, h1⟩ := hI H hH
  obtain ⟨hin1, -, -⟩ := hC C T N hc
  have hin' : ∀ w ∈ u_ws C T N, w.before args s = true := fun w hw => X.hw (hin1 w hw) (mw_gw_lay C T N w hw)
  have hKn := X.hK.2.1.1 ci _ hc
  refine W.newcK X.hx X.hb X.hown (X.hw hl rfl) (X.hw hin rfl) (X.hw hini rfl) rfl (X.hd ha) hcap.1 hcap.2 hKn.2.1 hh fun H1 kC hkC e1 z1 o1 => ?_
  have hnew : mw_new h H H1 := ⟨hh, z1, o1⟩
  exact kk H1 _ ls (h1 H1 hnew ⟨_, hc, (u_born ty hin' (fun _ h => h) hKn hkC e1 hty).to hfs⟩) (hnew.S hS) hl2
theorem mw_newi (X : mw_Ok Γ p s m args meth c A d P) {i : Int32} (n : Nat) (hi : i = nI n) (hn : n ≤ 60000) (hw : Cond.arrayClass .int ∈ lw_tbl) (hcap : ce + 1 ≤ R.cells ∧ sl + n ≤ R.slots) (ha : mw_at P pc = some (.newarray .int, 2)) {h : Nat} (hI : ∀ H, I H → H.size = h ∧ ∀ H1, mw_new h H H1 → mw_ia Γ h n (fun _ => 0) H1 → I1 H1) (kk : mw_G p l e R s m args below meth c A d.2.2.1 Q I1 (ce + 1) (sl + n) (pc + 2) lv (.ref h :: rest)) : mw_G p l e R s m args below meth c A d.2.2.1 Q I ce sl pc lv (.int i :: rest) := by
  intro H locs ls hH hS hl2
  obtain ⟨hh, h1⟩ := hI H hH
  subst hi
  refine va_newaK (atype := .int) X.hx X.hb (X.hw hw rfl) rfl (X.hd ha) rfl (nI_pos (by omega)) (nI_clamp (by omega)) (by show n * _ ≤ _; simp only [newarray.typeOf, componentBytes]; omega) hcap.1 hcap.2 hh fun H1 cA e1 z1 o1 hAr hNm => ?_
  have hcA : cA = Γ.2.1.1 := Option.some.inj (hNm.symm.trans (X.hK.2.1.2 0 _ rfl).2)
  subst hcA
  have hnew : mw_new h H H1 := ⟨hh, z1, o1⟩
  exact kk H1 _ ls (h1 H1 hnew e1) (hnew.S hS) hl2
theorem mw_newl (X : mw_Ok Γ p s m args meth c A d P) {i : Int32} (n : Nat) (hi : i = nI n) (hn : n ≤ 60000) (hw : Cond.arrayClass .long ∈ lw_tbl) (hcap : ce + 1 ≤ R.cells ∧ sl + n ≤ R.slots) (ha : mw_at P pc = some (.newarray .long, 2)) {h : Nat} (hI : ∀ H, I H → H.size = h ∧ ∀ H1, mw_new h H H1 → mw_la Γ h n (fun _ => 0) H1 → I1 H1) (kk : mw_G p l e R s m args below meth c A d.2.2.1 Q I1 (ce + 1) (sl + n) (pc + 2) lv (.ref h :: rest)) : mw_G p l e R s m args below meth c A d.2.2.1 Q I ce sl pc lv (.int i :: rest) := by
  intro H locs ls hH hS hl2
  obtain ⟨hh, h1⟩ := hI H hH
  subst hi
  refine va_newaK (atype := .long) X.hx X.hb (X.hw hw rfl) rfl (X.hd ha) rfl (nI_pos (by omega)) (nI_clamp (by omega)) (by show n * _ ≤ _; simp only [newarray.typeOf, componentBytes]; omega) hcap.1 hcap.2 hh fun H1 cA e1 z1 o1 hAr hNm => ?_
  have hcA : cA = Γ.2.1.2.1 := Option.some.inj (hNm.symm.trans (X.hK.2.1.2 1 _ rfl).2)
  subst hcA
  have hnew : mw_new h H H1 := ⟨hh, z1, o1⟩
  exact kk H1 _ ls (h1 H1 hnew e1) (hnew.S hS) hl2
theorem mw_newr (X : mw_Ok Γ p s m args meth c A d P) {i : Int32} {idx : Nat} (n : Nat) (hi : i = nI n) (hn : n ≤ 60000) (hl : Cond.classLink d.1.cls idx "MovedWays$Ways" ∈ lw_tbl) (hcap : ce + 1 ≤ R.cells ∧ sl + n ≤ R.slots) (ha : mw_at P pc = some (.anewarray idx, 3)) {h : Nat} (hI : ∀ H, I H → H.size = h ∧ ∀ H1, mw_new h H H1 → mw_ra Γ h n (fun _ => none) H1 → I1 H1) (kk : mw_G p l e R s m args below meth c A d.2.2.1 Q I1 (ce + 1) (sl + n) (pc + 3) lv (.ref h :: rest)) : mw_G p l e R s m args below meth c A d.2.2.1 Q I ce sl pc lv (.int i :: rest) := by
  intro H locs ls hH hS hl2
  obtain ⟨hh, h1⟩ := hI H hH
  subst hi
  have hcl : (nI n).toNatClampNeg = n := nI_clamp (by omega)
  refine W.anew X.hx X.hb X.hown (X.hw hl rfl) (va_AO.use X.hK.2.2.2.2) rfl (X.hd ha) rfl (nI_pos (by omega)) (by rw [hcl]; omega) hcap.1 (by rw [hcl]; exact hcap.2) fun cA kA comp f1 f2 f3 f4 => ?_
  rw [hcl]
  generalize hH1 : H.push ({ cls := cA, slots := Array.replicate n .null, vm := .none } : Cell) = H1
  have z1 : H1.size = h + 1 := by rw [← hH1, Array.size_push, hh]
  have e1 : H1[h]? = some (arrV cA n (fun _ => .null)) := by rw [← hH1, ← hh, Array.getElem?_push_size, ← arrV_new]
  have o1 : ∀ q : Nat, q < h → H1[q]? = H[q]? := fun q hq => by rw [← hH1, Array.getElem?_push, if_neg (by omega)]
  obtain ⟨kA2, comp2, -, -, -, k4⟩ := (X.hK.2.1.2 2 _ rfl).2
  have hcA : cA = Γ.2.1.2.2 := Option.some.inj (f1.symm.trans k4)
  subst hcA
  have hnew : mw_new h H H1 := ⟨hh, z1, o1⟩
  rw [hh]
  exact kk H1 _ ls (h1 H1 hnew e1) (hnew.S hS) hl2
end KA
