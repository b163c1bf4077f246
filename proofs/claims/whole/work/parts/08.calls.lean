/-! calls and returns -/
/-- the words on a method: its code, its class made ready, how many parameters -/
def mw_Md (d : mw_M) (n : Nat) : Prop := Cond.code d.1 d.2.1 d.2.2.1 d.2.2.2 ∈ lw_tbl ∧ Cond.initialized d.1.cls ∈ lw_tbl ∧ d.1.cls ≠ "java/lang/invoke/MethodHandle" ∧ d.1.cls ≠ "java/lang/invoke/VarHandle" ∧ (parseMethodDescriptor d.1.desc).map (fun q => q.parameters.length) = some n
def mw_Mv (d : mw_M) : Prop := Cond.instanceMethod d.1 ∈ lw_tbl ∧ Cond.selects d.1.cls d.1 d.1 ∈ lw_tbl
section KC
variable {Γ : mw_C} {p : Program} {l : Launch} {e : Env} {R : Room} {s : State} {m : MethodId} {args : Array Value} {below : List Frame} {meth : Method} {c : Code} {A : Nat → Prop} {Q : State → Prop} {I I1 : Heap → Prop} {ce sl pc : Nat} {d : mw_M} {P : List (Nat × Instr × Nat)} {lv : List (Nat × Value)} {rest : List Value}
variable {H H0 : Heap} {locs : List Loc} {ls : Array Slot} {mc ms lev : Nat} {A' : Nat → Prop} {d' : mw_M} {as : List Value} {E : Option Value → Heap → Prop} {st0 : List Value} {a : Array Value}
theorem mw_back (hr : va_Run p l e R s m args below meth c H locs ce sl mc ms (F0 m pc ls st0) rest (mw_Qc A' E a) A') (hS : va_S A H0 H locs) (hAA : ∀ q, A' q → A q)
    (kk : ∀ (v : Option Value) (H1 : Heap) (locs1 : List Loc), E v H1 → va_S A H0 H1 locs1 → W p l e R s m args below meth c H1 locs1 (ce + mc) (sl + ms) Q (F0 m (pc + 3) ls (v.toList ++ rest))) : W p l e R s m args below meth c H locs ce sl Q (F0 m pc ls st0) := by
  intro T hT X
  obtain ⟨v, st₀, t, T', L, h0, X', hL, e1, e2, ⟨⟨v2, hv, hE⟩, hz, hk⟩, st⟩ := hr T hT X
  cases hv
  rw [h0] at hz hk
  obtain ⟨t2, a1, b1⟩ := kk v T'.heap (locs ++ L) (by rw [e1]; exact hE)
    ⟨Nat.le_trans hS.1 (by rw [e1]; exact hz), fun q h1 h2 => by rw [e1, hk q (Nat.lt_of_lt_of_le h1 hS.1) (fun z => h2 (hAA q z))]; exact hS.2.1 q h1 h2, fun q hq => by
      rcases List.mem_append.mp hq with h | h
      · exact hS.2.2 q h
      · exact hAA _ (hL q h)⟩ T' rfl X'
  exact ⟨t2, st t2 a1, b1⟩
theorem mw_blind : FrameBlind (fun (v : Array Value) U => v = as.toArray ∧ mw_KK Γ U ∧ U.heap = H) := fun _ _ _ _ h => ⟨h.1, h.2.1.call, h.2.2⟩
theorem mw_good {n : Nat} (hM : mw_Md d' n) (X : mw_Ok Γ p s m args meth c A d P) : ∀ w ∈ [Cond.code d'.1 d'.2.1 d'.2.2.1 d'.2.2.2], ∀ (a' : Array Value) (U : State), s.WarmedH U.vm → w.before a' U = true := by
  intro w hw a' U hW
  rw [List.mem_singleton] at hw
  subst hw
  exact (X.hK.1.warm hW) _ hM.1 rfl a'
theorem mw_CB (X : mw_Ok Γ p s m args meth c A d P) {idx n : Nat} (hM : mw_Md d' n) (hL : Cond.methodLink d.1.cls idx d'.1 ∈ lw_tbl) (hlev : lev + 1 ≤ R.frames ∧ 8 + (d'.2.2.1 + 11) + 40 * lev ≤ R.locals) :
    CallB R s args d.1.cls idx d'.1 d'.2.1 d'.2.2.1 d'.2.2.2 [.code d'.1 d'.2.1 d'.2.2.1 d'.2.2.2] (mw_rm lev mc ms) mc ms n :=
  ⟨rfl, rfl, hlev.1, hlev.2, mw_good hM X, List.mem_singleton.mpr rfl, X.hw hM.1 rfl, X.hw hM.2.1 rfl, ⟨hM.2.2.1, hM.2.2.2.1⟩, fun sig h => by
    have h2 := hM.2.2.2.2
    rw [h] at h2
    exact (Option.some.inj h2).symm, X.hw hL rfl⟩
/-- a call of an object's method -/
theorem mw_cV (X : mw_Ok Γ p s m args meth c A d P) {idx b ci n : Nat} {T : u_T} {N : Nat} (hM : mw_Md d' n) (hV : mw_Mv d') (hL : Cond.methodLink d.1.cls idx d'.1 ∈ lw_tbl) (hn : as.length = n) (hci : vwCl[ci]? = some (d'.1.cls, T, N)) (ha : mw_at P pc = some (.invokevirtual idx, 3)) (hst : st0 = as.reverse ++ .ref b :: rest) (hcat : (rest.map fun v => v.category).sum ≤ 8) (hlev : lev + 1 ≤ R.frames ∧ 8 + (d'.2.2.1 + 11) + 40 * lev ≤ R.locals) (hcap : ce + mc ≤ R.cells ∧ sl + ms ≤ R.slots) (hAA : ∀ q, A' q → A q)
    (hI : ∀ H, I H → (∃ fs, mw_ob Γ b ci fs H) ∧ mw_Cn l Γ d' lev mc ms A' (.ref b :: as) H E) (kk : ∀ v, mw_G p l e R s m args below meth c A d.2.2.1 Q (E v) (ce + mc) (sl + ms) (pc + 3) lv (v.toList ++ rest)) : mw_G p l e R s m args below meth c A d.2.2.1 Q I ce sl pc lv st0 := by
  intro H locs ls hH hS hl
  obtain ⟨⟨fs, hob⟩, hC⟩ := hI H hH
  obtain ⟨r, hr1, cell, q1, q2, q3, -⟩ := hob
  have hrecv : ∃ cellB : Cell, H[b]? = some cellB ∧ cellB.vm.isStatics = false ∧ s.vm.findClass d'.1.cls = some cellB.cls :=
    ⟨cell, q1, by rw [q3]; rfl, by rw [q2]; exact (X.hK.2.1.1 ci _ hci).2.1⟩
  refine mw_back (va_runV (As := as) (rest := rest) (b := b) (Ts := []) ⟨X.hx, X.hb, X.hml, X.hown, fun w hw => by cases hw⟩ hC ⟨mw_CB X hM hL hlev, X.hw hV.1 rfl, X.hw hV.2 rfl⟩ ⟨mw_blind, hrecv, fun U hU hW => ⟨rfl, X.hK.warm hW hU X.hA hS, hU⟩⟩ rfl hn hl.1 hst (lv_room hcat) (X.hd ha) hcap) hS hAA (fun v H1 locs1 hE hS1 => kk v H1 locs1 ls hE hS1 hl)
theorem mw_cS (X : mw_Ok Γ p s m args meth c A d P) {idx n : Nat} (hM : mw_Md d' n) (hV : Cond.static d'.1 ∈ lw_tbl) (hL : Cond.methodLink d.1.cls idx d'.1 ∈ lw_tbl) (hn : as.length = n) (ha : mw_at P pc = some (.invokestatic idx, 3)) (hst : st0 = as.reverse ++ rest) (hcat : (rest.map fun v => v.category).sum ≤ 8) (hlev : lev + 1 ≤ R.frames ∧ 8 + (d'.2.2.1 + 11) + 40 * lev ≤ R.locals) (hcap : ce + mc ≤ R.cells ∧ sl + ms ≤ R.slots) (hAA : ∀ q, A' q → A q)
    (hI : ∀ H, I H → mw_Cn l Γ d' lev mc ms A' as H E) (kk : ∀ v, mw_G p l e R s m args below meth c A d.2.2.1 Q (E v) (ce + mc) (sl + ms) (pc + 3) lv (v.toList ++ rest)) : mw_G p l e R s m args below meth c A d.2.2.1 Q I ce sl pc lv st0 := by
  intro H locs ls hH hS hl
  refine mw_back (va_runS (As := as) (rest := rest) (Ts := []) ⟨X.hx, X.hb, X.hml, X.hown, fun w hw => by cases hw⟩ (hI H hH) ⟨mw_CB X hM hL hlev, X.hw hV rfl⟩ ⟨mw_blind, fun U hU hW => ⟨rfl, X.hK.warm hW hU X.hA hS, hU⟩⟩ rfl hn hl.1 hst (lv_room hcat) (X.hd ha) hcap) hS hAA (fun v H1 locs1 hE hS1 => kk v H1 locs1 ls hE hS1 hl)
theorem mw_cI (X : mw_Ok Γ p s m args meth c A d P) {idx b n : Nat} (hM : mw_Md d' n) (hret : d'.2.2.2 = none) (hnm : d'.1.name = "<init>") (hV : Cond.instanceMethod d'.1 ∈ lw_tbl) (hL : Cond.methodLink d.1.cls idx d'.1 ∈ lw_tbl ∨ ∃ host, Cond.methodLinkNest d.1.cls idx d'.1 host ∈ lw_tbl) (hn : as.length = n) (ha : mw_at P pc = some (.invokespecial idx, 3)) (hst : st0 = as.reverse ++ .ref b :: rest) (hcat : (rest.map fun v => v.category).sum ≤ 8) (hlev : lev + 1 ≤ R.frames ∧ 8 + (d'.2.2.1 + 11) + 40 * lev ≤ R.locals) (hcap : ce + mc ≤ R.cells ∧ sl + ms ≤ R.slots) (hAA : ∀ q, A' q → A q)
    (hI : ∀ H, I H → mw_Cn l Γ d' lev mc ms A' (.ref b :: as) H E) (kk : ∀ v, mw_G p l e R s m args below meth c A d.2.2.1 Q (E v) (ce + mc) (sl + ms) (pc + 3) lv (v.toList ++ rest)) : mw_G p l e R s m args below meth c A d.2.2.1 Q I ce sl pc lv st0 := by
  intro H locs ls hH hS hl
  rcases hL with hL | ⟨host, hL⟩
  · have hB := mw_CB (mc := mc) (ms := ms) X hM hL hlev
    rw [hret] at hB
    have hC := hI H hH
    unfold mw_Cn at hC
    rw [hret] at hC
    exact mw_back (va_runI (As := as) (rest := rest) (b := b) (Ts := []) ⟨X.hx, X.hb, X.hml, X.hown, fun w hw => by cases hw⟩ hC ⟨hB, hnm, X.hw hV rfl⟩ ⟨mw_blind, fun U hU hW => ⟨rfl, X.hK.warm hW hU X.hA hS, hU⟩⟩ rfl hn hl.1 hst (lv_room hcat) (X.hd ha) hcap) hS hAA (fun v H1 locs1 hE hS1 => kk v H1 locs1 ls hE hS1 hl)
  · have hg := mw_good hM X
    have hM1 := hM.1
    have hC := hI H hH
    unfold mw_Cn at hC
    rw [hret] at hC hg hM1
    have hN : va_CN R s args d.1.cls idx d'.1 host d'.2.1 d'.2.2.1 none [.code d'.1 d'.2.1 d'.2.2.1 none] (mw_rm lev mc ms) mc ms n :=
      ⟨⟨rfl, rfl, hlev.1, hlev.2, hg, List.mem_singleton.mpr rfl⟩, X.hw hM1 rfl, X.hw hM.2.1 rfl, ⟨hM.2.2.1, hM.2.2.2.1⟩, fun sig h => by
        have h2 := hM.2.2.2.2
        rw [h] at h2
        exact (Option.some.inj h2).symm, X.hw hL rfl⟩
    exact mw_back (va_runIN (As := as) (rest := rest) (b := b) (Ts := []) ⟨X.hx, X.hb, X.hml, X.hown, fun w hw => by cases hw⟩ hC ⟨hN, hnm, X.hw hV rfl⟩ ⟨mw_blind, fun U hU hW => ⟨rfl, X.hK.warm hW hU X.hA hS, hU⟩⟩ rfl hn hl.1 hst (lv_room hcat) (X.hd ha) hcap) hS hAA (fun v H1 locs1 hE hS1 => kk v H1 locs1 ls hE hS1 hl)
theorem mw_cV0v (X : mw_Ok Γ p s m args meth c A d P) {idx b ci : Nat}  {T : u_T} {N : Nat} (hM : mw_Md d' 0) (hV : mw_Mv d') (hL : Cond.methodLink d.1.cls idx d'.1 ∈ lw_tbl) (hci : vwCl[ci]? = some (d'.1.cls, T, N)) (ha : mw_at P pc = some (.invokevirtual idx, 3)) (hcat : (rest.map fun v => v.category).sum ≤ 8) (hlev : lev + 1 ≤ R.frames ∧ 8 + (d'.2.2.1 + 11) + 40 * lev ≤ R.locals) (hcap : ce + mc ≤ R.cells ∧ sl + ms ≤ R.slots) (hAA : ∀ q, A' q → A q) (hI : ∀ H, I H → (∃ fs, mw_ob Γ b ci fs H) ∧ mw_Cr l Γ d' lev mc ms A' (.ref b :: []) H none I1) (kk : mw_G p l e R s m args below meth c A d.2.2.1 Q I1 (ce + mc) (sl + ms) (pc + 3) lv rest) : mw_G p l e R s m args below meth c A d.2.2.1 Q I ce sl pc lv (.ref b :: rest) :=
  mw_cV X (as := []) hM hV hL rfl hci ha rfl hcat hlev hcap hAA hI (fun v => by
    intro H locs ls hE hS hl
    obtain ⟨rfl, hE⟩ := hE
    exact kk H locs ls hE hS hl)
theorem mw_cV0r (X : mw_Ok Γ p s m args meth c A d P) {idx b ci : Nat}  {v : Value} {T : u_T} {N : Nat} (hM : mw_Md d' 0) (hV : mw_Mv d') (hL : Cond.methodLink d.1.cls idx d'.1 ∈ lw_tbl) (hci : vwCl[ci]? = some (d'.1.cls, T, N)) (ha : mw_at P pc = some (.invokevirtual idx, 3)) (hcat : (rest.map fun v => v.category).sum ≤ 8) (hlev : lev + 1 ≤ R.frames ∧ 8 + (d'.2.2.1 + 11) + 40 * lev ≤ R.locals) (hcap : ce + mc ≤ R.cells ∧ sl + ms ≤ R.slots) (hAA : ∀ q, A' q → A q) (hI : ∀ H, I H → (∃ fs, mw_ob Γ b ci fs H) ∧ mw_Cr l Γ d' lev mc ms A' (.ref b :: []) H (some v) I1) (kk : mw_G p l e R s m args below meth c A d.2.2.1 Q I1 (ce + mc) (sl + ms) (pc + 3) lv (v :: rest)) : mw_G p l e R s m args below meth c A d.2.2.1 Q I ce sl pc lv (.ref b :: rest) :=
  mw_cV X (as := []) hM hV hL rfl hci ha rfl hcat hlev hcap hAA hI (fun v => by
    intro H locs ls hE hS hl
    obtain ⟨rfl, hE⟩ := hE
    exact kk H locs ls hE hS hl)
theorem mw_cS0v (X : mw_Ok Γ p s m args meth c A d P) {idx : Nat}   (hM : mw_Md d' 0) (hV : Cond.static d'.1 ∈ lw_tbl) (hL : Cond.methodLink d.1.cls idx d'.1 ∈ lw_tbl) (ha : mw_at P pc = some (.invokestatic idx, 3)) (hcat : (rest.map fun v => v.category).sum ≤ 8) (hlev : lev + 1 ≤ R.frames ∧ 8 + (d'.2.2.1 + 11) + 40 * lev ≤ R.locals) (hcap : ce + mc ≤ R.cells ∧ sl + ms ≤ R.slots) (hAA : ∀ q, A' q → A q) (hI : ∀ H, I H → mw_Cr l Γ d' lev mc ms A' [] H none I1) (kk : mw_G p l e R s m args below meth c A d.2.2.1 Q I1 (ce + mc) (sl + ms) (pc + 3) lv rest) : mw_G p l e R s m args below meth c A d.2.2.1 Q I ce sl pc lv (rest) :=
  mw_cS X (as := []) hM hV hL rfl ha rfl hcat hlev hcap hAA hI (fun v => by
    intro H locs ls hE hS hl
    obtain ⟨rfl, hE⟩ := hE
    exact kk H locs ls hE hS hl)
theorem mw_cS0r (X : mw_Ok Γ p s m args meth c A d P) {idx : Nat}  {v : Value}  (hM : mw_Md d' 0) (hV : Cond.static d'.1 ∈ lw_tbl) (hL : Cond.methodLink d.1.cls idx d'.1 ∈ lw_tbl) (ha : mw_at P pc = some (.invokestatic idx, 3)) (hcat : (rest.map fun v => v.category).sum ≤ 8) (hlev : lev + 1 ≤ R.frames ∧ 8 + (d'.2.2.1 + 11) + 40 * lev ≤ R.locals) (hcap : ce + mc ≤ R.cells ∧ sl + ms ≤ R.slots) (hAA : ∀ q, A' q → A q) (hI : ∀ H, I H → mw_Cr l Γ d' lev mc ms A' [] H (some v) I1) (kk : mw_G p l e R s m args below meth c A d.2.2.1 Q I1 (ce + mc) (sl + ms) (pc + 3) lv (v :: rest)) : mw_G p l e R s m args below meth c A d.2.2.1 Q I ce sl pc lv (rest) :=
  mw_cS X (as := []) hM hV hL rfl ha rfl hcat hlev hcap hAA hI (fun v => by
    intro H locs ls hE hS hl
    obtain ⟨rfl, hE⟩ := hE
    exact kk H locs ls hE hS hl)
theorem mw_cI0 (X : mw_Ok Γ p s m args meth c A d P) {idx b : Nat}  (hM : mw_Md d' 0) (hret : d'.2.2.2 = none) (hnm : d'.1.name = "<init>") (hV : Cond.instanceMethod d'.1 ∈ lw_tbl) (hL : Cond.methodLink d.1.cls idx d'.1 ∈ lw_tbl ∨ ∃ host, Cond.methodLinkNest d.1.cls idx d'.1 host ∈ lw_tbl) (ha : mw_at P pc = some (.invokespecial idx, 3)) (hcat : (rest.map fun v => v.category).sum ≤ 8) (hlev : lev + 1 ≤ R.frames ∧ 8 + (d'.2.2.1 + 11) + 40 * lev ≤ R.locals) (hcap : ce + mc ≤ R.cells ∧ sl + ms ≤ R.slots) (hAA : ∀ q, A' q → A q) (hI : ∀ H, I H → mw_Cr l Γ d' lev mc ms A' (.ref b :: []) H none I1) (kk : mw_G p l e R s m args below meth c A d.2.2.1 Q I1 (ce + mc) (sl + ms) (pc + 3) lv rest) : mw_G p l e R s m args below meth c A d.2.2.1 Q I ce sl pc lv (.ref b :: rest) :=
  mw_cI X (as := []) hM hret hnm hV hL rfl ha rfl hcat hlev hcap hAA hI (fun v => by
    intro H locs ls hE hS hl
    obtain ⟨rfl, hE⟩ := hE
    exact kk H locs ls hE hS hl)
theorem mw_cV1v (X : mw_Ok Γ p s m args meth c A d P) {idx b ci : Nat} {v1 : Value} {T : u_T} {N : Nat} (hM : mw_Md d' 1) (hV : mw_Mv d') (hL : Cond.methodLink d.1.cls idx d'.1 ∈ lw_tbl) (hci : vwCl[ci]? = some (d'.1.cls, T, N)) (ha : mw_at P pc = some (.invokevirtual idx, 3)) (hcat : (rest.map fun v => v.category).sum ≤ 8) (hlev : lev + 1 ≤ R.frames ∧ 8 + (d'.2.2.1 + 11) + 40 * lev ≤ R.locals) (hcap : ce + mc ≤ R.cells ∧ sl + ms ≤ R.slots) (hAA : ∀ q, A' q → A q) (hI : ∀ H, I H → (∃ fs, mw_ob Γ b ci fs H) ∧ mw_Cr l Γ d' lev mc ms A' (.ref b :: [v1]) H none I1) (kk : mw_G p l e R s m args below meth c A d.2.2.1 Q I1 (ce + mc) (sl + ms) (pc + 3) lv rest) : mw_G p l e R s m args below meth c A d.2.2.1 Q I ce sl pc lv (v1 :: .ref b :: rest) :=
  mw_cV X (as := [v1]) hM hV hL rfl hci ha rfl hcat hlev hcap hAA hI (fun v => by
    intro H locs ls hE hS hl
    obtain ⟨rfl, hE⟩ := hE
    exact kk H locs ls hE hS hl)
theorem mw_cV1r (X : mw_Ok Γ p s m args meth c A d P) {idx b ci : Nat} {v1 : Value} {v : Value} {T : u_T} {N : Nat} (hM : mw_Md d' 1) (hV : mw_Mv d') (hL : Cond.methodLink d.1.cls idx d'.1 ∈ lw_tbl) (hci : vwCl[ci]? = some (d'.1.cls, T, N)) (ha : mw_at P pc = some (.invokevirtual idx, 3)) (hcat : (rest.map fun v => v.category).sum ≤ 8) (hlev : lev + 1 ≤ R.frames ∧ 8 + (d'.2.2.1 + 11) + 40 * lev ≤ R.locals) (hcap : ce + mc ≤ R.cells ∧ sl + ms ≤ R.slots) (hAA : ∀ q, A' q → A q) (hI : ∀ H, I H → (∃ fs, mw_ob Γ b ci fs H) ∧ mw_Cr l Γ d' lev mc ms A' (.ref b :: [v1]) H (some v) I1) (kk : mw_G p l e R s m args below meth c A d.2.2.1 Q I1 (ce + mc) (sl + ms) (pc + 3) lv (v :: rest)) : mw_G p l e R s m args below meth c A d.2.2.1 Q I ce sl pc lv (v1 :: .ref b :: rest) :=
  mw_cV X (as := [v1]) hM hV hL rfl hci ha rfl hcat hlev hcap hAA hI (fun v => by
    intro H locs ls hE hS hl
    obtain ⟨rfl, hE⟩ := hE
    exact kk H locs ls hE hS hl)
theorem mw_cS1v (X : mw_Ok Γ p s m args meth c A d P) {idx : Nat} {v1 : Value}  (hM : mw_Md d' 1) (hV : Cond.static d'.1 ∈ lw_tbl) (hL : Cond.methodLink d.1.cls idx d'.1 ∈ lw_tbl) (ha : mw_at P pc = some (.invokestatic idx, 3)) (hcat : (rest.map fun v => v.category).sum ≤ 8) (hlev : lev + 1 ≤ R.frames ∧ 8 + (d'.2.2.1 + 11) + 40 * lev ≤ R.locals) (hcap : ce + mc ≤ R.cells ∧ sl + ms ≤ R.slots) (hAA : ∀ q, A' q → A q) (hI : ∀ H, I H → mw_Cr l Γ d' lev mc ms A' [v1] H none I1) (kk : mw_G p l e R s m args below meth c A d.2.2.1 Q I1 (ce + mc) (sl + ms) (pc + 3) lv rest) : mw_G p l e R s m args below meth c A d.2.2.1 Q I ce sl pc lv (v1 :: rest) :=
  mw_cS X (as := [v1]) hM hV hL rfl ha rfl hcat hlev hcap hAA hI (fun v => by
    intro H locs ls hE hS hl
    obtain ⟨rfl, hE⟩ := hE
    exact kk H locs ls hE hS hl)
theorem mw_cS1r (X : mw_Ok Γ p s m args meth c A d P) {idx : Nat} {v1 : Value} {v : Value}  (hM : mw_Md d' 1) (hV : Cond.static d'.1 ∈ lw_tbl) (hL : Cond.methodLink d.1.cls idx d'.1 ∈ lw_tbl) (ha : mw_at P pc = some (.invokestatic idx, 3)) (hcat : (rest.map fun v => v.category).sum ≤ 8) (hlev : lev + 1 ≤ R.frames ∧ 8 + (d'.2.2.1 + 11) + 40 * lev ≤ R.locals) (hcap : ce + mc ≤ R.cells ∧ sl + ms ≤ R.slots) (hAA : ∀ q, A' q → A q) (hI : ∀ H, I H → mw_Cr l Γ d' lev mc ms A' [v1] H (some v) I1) (kk : mw_G p l e R s m args below meth c A d.2.2.1 Q I1 (ce + mc) (sl + ms) (pc + 3) lv (v :: rest)) : mw_G p l e R s m args below meth c A d.2.2.1 Q I ce sl pc lv (v1 :: rest) :=
  mw_cS X (as := [v1]) hM hV hL rfl ha rfl hcat hlev hcap hAA hI (fun v => by
    intro H locs ls hE hS hl
    obtain ⟨rfl, hE⟩ := hE
    exact kk H locs ls hE hS hl)
theorem mw_cI1 (X : mw_Ok Γ p s m args meth c A d P) {idx b : Nat} {v1 : Value} (hM : mw_Md d' 1) (hret : d'.2.2.2 = none) (hnm : d'.1.name = "<init>") (hV : Cond.instanceMethod d'.1 ∈ lw_tbl) (hL : Cond.methodLink d.1.cls idx d'.1 ∈ lw_tbl ∨ ∃ host, Cond.methodLinkNest d.1.cls idx d'.1 host ∈ lw_tbl) (ha : mw_at P pc = some (.invokespecial idx, 3)) (hcat : (rest.map fun v => v.category).sum ≤ 8) (hlev : lev + 1 ≤ R.frames ∧ 8 + (d'.2.2.1 + 11) + 40 * lev ≤ R.locals) (hcap : ce + mc ≤ R.cells ∧ sl + ms ≤ R.slots) (hAA : ∀ q, A' q → A q) (hI : ∀ H, I H → mw_Cr l Γ d' lev mc ms A' (.ref b :: [v1]) H none I1) (kk : mw_G p l e R s m args below meth c A d.2.2.1 Q I1 (ce + mc) (sl + ms) (pc + 3) lv rest) : mw_G p l e R s m args below meth c A d.2.2.1 Q I ce sl pc lv (v1 :: .ref b :: rest) :=
  mw_cI X (as := [v1]) hM hret hnm hV hL rfl ha rfl hcat hlev hcap hAA hI (fun v => by
    intro H locs ls hE hS hl
    obtain ⟨rfl, hE⟩ := hE
    exact kk H locs ls hE hS hl)
theorem mw_cV2v (X : mw_Ok Γ p s m args meth c A d P) {idx b ci : Nat} {v1 v2 : Value} {T : u_T} {N : Nat} (hM : mw_Md d' 2) (hV : mw_Mv d') (hL : Cond.methodLink d.1.cls idx d'.1 ∈ lw_tbl) (hci : vwCl[ci]? = some (d'.1.cls, T, N)) (ha : mw_at P pc = some (.invokevirtual idx, 3)) (hcat : (rest.map fun v => v.category).sum ≤ 8) (hlev : lev + 1 ≤ R.frames ∧ 8 + (d'.2.2.1 + 11) + 40 * lev ≤ R.locals) (hcap : ce + mc ≤ R.cells ∧ sl + ms ≤ R.slots) (hAA : ∀ q, A' q → A q) (hI : ∀ H, I H → (∃ fs, mw_ob Γ b ci fs H) ∧ mw_Cr l Γ d' lev mc ms A' (.ref b :: [v1, v2]) H none I1) (kk : mw_G p l e R s m args below meth c A d.2.2.1 Q I1 (ce + mc) (sl + ms) (pc + 3) lv rest) : mw_G p l e R s m args below meth c A d.2.2.1 Q I ce sl pc lv (v2 :: v1 :: .ref b :: rest) :=
  mw_cV X (as := [v1, v2]) hM hV hL rfl hci ha rfl hcat hlev hcap hAA hI (fun v => by
    intro H locs ls hE hS hl
    obtain ⟨rfl, hE⟩ := hE
    exact kk H locs ls hE hS hl)
theorem mw_cV2r (X : mw_Ok Γ p s m args meth c A d P) {idx b ci : Nat} {v1 v2 : Value} {v : Value} {T : u_T} {N : Nat} (hM : mw_Md d' 2) (hV : mw_Mv d') (hL : Cond.methodLink d.1.cls idx d'.1 ∈ lw_tbl) (hci : vwCl[ci]? = some (d'.1.cls, T, N)) (ha : mw_at P pc = some (.invokevirtual idx, 3)) (hcat : (rest.map fun v => v.category).sum ≤ 8) (hlev : lev + 1 ≤ R.frames ∧ 8 + (d'.2.2.1 + 11) + 40 * lev ≤ R.locals) (hcap : ce + mc ≤ R.cells ∧ sl + ms ≤ R.slots) (hAA : ∀ q, A' q → A q) (hI : ∀ H, I H → (∃ fs, mw_ob Γ b ci fs H) ∧ mw_Cr l Γ d' lev mc ms A' (.ref b :: [v1, v2]) H (some v) I1) (kk : mw_G p l e R s m args below meth c A d.2.2.1 Q I1 (ce + mc) (sl + ms) (pc + 3) lv (v :: rest)) : mw_G p l e R s m args below meth c A d.2.2.1 Q I ce sl pc lv (v2 :: v1 :: .ref b :: rest) :=
  mw_cV X (as := [v1, v2]) hM hV hL rfl hci ha rfl hcat hlev hcap hAA hI (fun v => by
    intro H locs ls hE hS hl
    obtain ⟨rfl, hE⟩ := hE
    exact kk H locs ls hE hS hl)
theorem mw_cS2v (X : mw_Ok Γ p s m args meth c A d P) {idx : Nat} {v1 v2 : Value}  (hM : mw_Md d' 2) (hV : Cond.static d'.1 ∈ lw_tbl) (hL : Cond.methodLink d.1.cls idx d'.1 ∈ lw_tbl) (ha : mw_at P pc = some (.invokestatic idx, 3)) (hcat : (rest.map fun v => v.category).sum ≤ 8) (hlev : lev + 1 ≤ R.frames ∧ 8 + (d'.2.2.1 + 11) + 40 * lev ≤ R.locals) (hcap : ce + mc ≤ R.cells ∧ sl + ms ≤ R.slots) (hAA : ∀ q, A' q → A q) (hI : ∀ H, I H → mw_Cr l Γ d' lev mc ms A' [v1, v2] H none I1) (kk : mw_G p l e R s m args below meth c A d.2.2.1 Q I1 (ce + mc) (sl + ms) (pc + 3) lv rest) : mw_G p l e R s m args below meth c A d.2.2.1 Q I ce sl pc lv (v2 :: v1 :: rest) :=
  mw_cS X (as := [v1, v2]) hM hV hL rfl ha rfl hcat hlev hcap hAA hI (fun v => by
    intro H locs ls hE hS hl
    obtain ⟨rfl, hE⟩ := hE
    exact kk H locs ls hE hS hl)
theorem mw_cS2r (X : mw_Ok Γ p s m args meth c A d P) {idx : Nat} {v1 v2 : Value} {v : Value}  (hM : mw_Md d' 2) (hV : Cond.static d'.1 ∈ lw_tbl) (hL : Cond.methodLink d.1.cls idx d'.1 ∈ lw_tbl) (ha : mw_at P pc = some (.invokestatic idx, 3)) (hcat : (rest.map fun v => v.category).sum ≤ 8) (hlev : lev + 1 ≤ R.frames ∧ 8 + (d'.2.2.1 + 11) + 40 * lev ≤ R.locals) (hcap : ce + mc ≤ R.cells ∧ sl + ms ≤ R.slots) (hAA : ∀ q, A' q → A q) (hI : ∀ H, I H → mw_Cr l Γ d' lev mc ms A' [v1, v2] H (some v) I1) (kk : mw_G p l e R s m args below meth c A d.2.2.1 Q I1 (ce + mc) (sl + ms) (pc + 3) lv (v :: rest)) : mw_G p l e R s m args below meth c A d.2.2.1 Q I ce sl pc lv (v2 :: v1 :: rest) :=
  mw_cS X (as := [v1, v2]) hM hV hL rfl ha rfl hcat hlev hcap hAA hI (fun v => by
    intro H locs ls hE hS hl
    obtain ⟨rfl, hE⟩ := hE
    exact kk H locs ls hE hS hl)
theorem mw_cI2 (X : mw_Ok Γ p s m args meth c A d P) {idx b : Nat} {v1 v2 : Value} (hM : mw_Md d' 2) (hret : d'.2.2.2 = none) (hnm : d'.1.name = "<init>") (hV : Cond.instanceMethod d'.1 ∈ lw_tbl) (hL : Cond.methodLink d.1.cls idx d'.1 ∈ lw_tbl ∨ ∃ host, Cond.methodLinkNest d.1.cls idx d'.1 host ∈ lw_tbl) (ha : mw_at P pc = some (.invokespecial idx, 3)) (hcat : (rest.map fun v => v.category).sum ≤ 8) (hlev : lev + 1 ≤ R.frames ∧ 8 + (d'.2.2.1 + 11) + 40 * lev ≤ R.locals) (hcap : ce + mc ≤ R.cells ∧ sl + ms ≤ R.slots) (hAA : ∀ q, A' q → A q) (hI : ∀ H, I H → mw_Cr l Γ d' lev mc ms A' (.ref b :: [v1, v2]) H none I1) (kk : mw_G p l e R s m args below meth c A d.2.2.1 Q I1 (ce + mc) (sl + ms) (pc + 3) lv rest) : mw_G p l e R s m args below meth c A d.2.2.1 Q I ce sl pc lv (v2 :: v1 :: .ref b :: rest) :=
  mw_cI X (as := [v1, v2]) hM hret hnm hV hL rfl ha rfl hcat hlev hcap hAA hI (fun v => by
    intro H locs ls hE hS hl
    obtain ⟨rfl, hE⟩ := hE
    exact kk H locs ls hE hS hl)
theorem mw_cV3v (X : mw_Ok Γ p s m args meth c A d P) {idx b ci : Nat} {v1 v2 v3 : Value} {T : u_T} {N : Nat} (hM : mw_Md d' 3) (hV : mw_Mv d') (hL : Cond.methodLink d.1.cls idx d'.1 ∈ lw_tbl) (hci : vwCl[ci]? = some (d'.1.cls, T, N)) (ha : mw_at P pc = some (.invokevirtual idx, 3)) (hcat : (rest.map fun v => v.category).sum ≤ 8) (hlev : lev + 1 ≤ R.frames ∧ 8 + (d'.2.2.1 + 11) + 40 * lev ≤ R.locals) (hcap : ce + mc ≤ R.cells ∧ sl + ms ≤ R.slots) (hAA : ∀ q, A' q → A q) (hI : ∀ H, I H → (∃ fs, mw_ob Γ b ci fs H) ∧ mw_Cr l Γ d' lev mc ms A' (.ref b :: [v1, v2, v3]) H none I1) (kk : mw_G p l e R s m args below meth c A d.2.2.1 Q I1 (ce + mc) (sl + ms) (pc + 3) lv rest) : mw_G p l e R s m args below meth c A d.2.2.1 Q I ce sl pc lv (v3 :: v2 :: v1 :: .ref b :: rest) :=
  mw_cV X (as := [v1, v2, v3]) hM hV hL rfl hci ha rfl hcat hlev hcap hAA hI (fun v => by
    intro H locs ls hE hS hl
    obtain ⟨rfl, hE⟩ := hE
    exact kk H locs ls hE hS hl)
theorem mw_cV3r (X : mw_Ok Γ p s m args meth c A d P) {idx b ci : Nat} {v1 v2 v3 : Value} {v : Value} {T : u_T} {N : Nat} (hM : mw_Md d' 3) (hV : mw_Mv d') (hL : Cond.methodLink d.1.cls idx d'.1 ∈ lw_tbl) (hci : vwCl[ci]? = some (d'.1.cls, T, N)) (ha : mw_at P pc = some (.invokevirtual idx, 3)) (hcat : (rest.map fun v => v.category).sum ≤ 8) (hlev : lev + 1 ≤ R.frames ∧ 8 + (d'.2.2.1 + 11) + 40 * lev ≤ R.locals) (hcap : ce + mc ≤ R.cells ∧ sl + ms ≤ R.slots) (hAA : ∀ q, A' q → A q) (hI : ∀ H, I H → (∃ fs, mw_ob Γ b ci fs H) ∧ mw_Cr l Γ d' lev mc ms A' (.ref b :: [v1, v2, v3]) H (some v) I1) (kk : mw_G p l e R s m args below meth c A d.2.2.1 Q I1 (ce + mc) (sl + ms) (pc + 3) lv (v :: rest)) : mw_G p l e R s m args below meth c A d.2.2.1 Q I ce sl pc lv (v3 :: v2 :: v1 :: .ref b :: rest) :=
  mw_cV X (as := [v1, v2, v3]) hM hV hL rfl hci ha rfl hcat hlev hcap hAA hI (fun v => by
    intro H locs ls hE hS hl
    obtain ⟨rfl, hE⟩ := hE
    exact kk H locs ls hE hS hl)
theorem mw_cS3v (X : mw_Ok Γ p s m args meth c A d P) {idx : Nat} {v1 v2 v3 : Value}  (hM : mw_Md d' 3) (hV : Cond.static d'.1 ∈ lw_tbl) (hL : Cond.methodLink d.1.cls idx d'.1 ∈ lw_tbl) (ha : mw_at P pc = some (.invokestatic idx, 3)) (hcat : (rest.map fun v => v.category).sum ≤ 8) (hlev : lev + 1 ≤ R.frames ∧ 8 + (d'.2.2.1 + 11) + 40 * lev ≤ R.locals) (hcap : ce + mc ≤ R.cells ∧ sl + ms ≤ R.slots) (hAA : ∀ q, A' q → A q) (hI : ∀ H, I H → mw_Cr l Γ d' lev mc ms A' [v1, v2, v3] H none I1) (kk : mw_G p l e R s m args below meth c A d.2.2.1 Q I1 (ce + mc) (sl + ms) (pc + 3) lv rest) : mw_G p l e R s m args below meth c A d.2.2.1 Q I ce sl pc lv (v3 :: v2 :: v1 :: rest) :=
  mw_cS X (as := [v1, v2, v3]) hM hV hL rfl ha rfl hcat hlev hcap hAA hI (fun v => by
    intro H locs ls hE hS hl
    obtain ⟨rfl, hE⟩ := hE
    exact kk H locs ls hE hS hl)
theorem mw_cS3r (X : mw_Ok Γ p s m args meth c A d P) {idx : Nat} {v1 v2 v3 : Value} {v : Value}  (hM : mw_Md d' 3) (hV : Cond.static d'.1 ∈ lw_tbl) (hL : Cond.methodLink d.1.cls idx d'.1 ∈ lw_tbl) (ha : mw_at P pc = some (.invokestatic idx, 3)) (hcat : (rest.map fun v => v.category).sum ≤ 8) (hlev : lev + 1 ≤ R.frames ∧ 8 + (d'.2.2.1 + 11) + 40 * lev ≤ R.locals) (hcap : ce + mc ≤ R.cells ∧ sl + ms ≤ R.slots) (hAA : ∀ q, A' q → A q) (hI : ∀ H, I H → mw_Cr l Γ d' lev mc ms A' [v1, v2, v3] H (some v) I1) (kk : mw_G p l e R s m args below meth c A d.2.2.1 Q I1 (ce + mc) (sl + ms) (pc + 3) lv (v :: rest)) : mw_G p l e R s m args below meth c A d.2.2.1 Q I ce sl pc lv (v3 :: v2 :: v1 :: rest) :=
  mw_cS X (as := [v1, v2, v3]) hM hV hL rfl ha rfl hcat hlev hcap hAA hI (fun v => by
    intro H locs ls hE hS hl
    obtain ⟨rfl, hE⟩ := hE
    exact kk H locs ls hE hS hl)
theorem mw_cV4v (X : mw_Ok Γ p s m args meth c A d P) {idx b ci : Nat} {v1 v2 v3 v4 : Value} {T : u_T} {N : Nat} (hM : mw_Md d' 4) (hV : mw_Mv d') (hL : Cond.methodLink d.1.cls idx d'.1 ∈ lw_tbl) (hci : vwCl[ci]? = some (d'.1.cls, T, N)) (ha : mw_at P pc = some (.invokevirtual idx, 3)) (hcat : (rest.map fun v => v.category).sum ≤ 8) (hlev : lev + 1 ≤ R.frames ∧ 8 + (d'.2.2.1 + 11) + 40 * lev ≤ R.locals) (hcap : ce + mc ≤ R.cells ∧ sl + ms ≤ R.slots) (hAA : ∀ q, A' q → A q) (hI : ∀ H, I H → (∃ fs, mw_ob Γ b ci fs H) ∧ mw_Cr l Γ d' lev mc ms A' (.ref b :: [v1, v2, v3, v4]) H none I1) (kk : mw_G p l e R s m args below meth c A d.2.2.1 Q I1 (ce + mc) (sl + ms) (pc + 3) lv rest) : mw_G p l e R s m args below meth c A d.2.2.1 Q I ce sl pc lv (v4 :: v3 :: v2 :: v1 :: .ref b :: rest) :=
  mw_cV X (as := [v1, v2, v3, v4]) hM hV hL rfl hci ha rfl hcat hlev hcap hAA hI (fun v => by
    intro H locs ls hE hS hl
    obtain ⟨rfl, hE⟩ := hE
    exact kk H locs ls hE hS hl)
theorem mw_cV4r (X : mw_Ok Γ p s m args meth c A d P) {idx b ci : Nat} {v1 v2 v3 v4 : Value} {v : Value} {T : u_T} {N : Nat} (hM : mw_Md d' 4) (hV : mw_Mv d') (hL : Cond.methodLink d.1.cls idx d'.1 ∈ lw_tbl) (hci : vwCl[ci]? = some (d'.1.cls, T, N)) (ha : mw_at P pc = some (.invokevirtual idx, 3)) (hcat : (rest.map fun v => v.category).sum ≤ 8) (hlev : lev + 1 ≤ R.frames ∧ 8 + (d'.2.2.1 + 11) + 40 * lev ≤ R.locals) (hcap : ce + mc ≤ R.cells ∧ sl + ms ≤ R.slots) (hAA : ∀ q, A' q → A q) (hI : ∀ H, I H → (∃ fs, mw_ob Γ b ci fs H) ∧ mw_Cr l Γ d' lev mc ms A' (.ref b :: [v1, v2, v3, v4]) H (some v) I1) (kk : mw_G p l e R s m args below meth c A d.2.2.1 Q I1 (ce + mc) (sl + ms) (pc + 3) lv (v :: rest)) : mw_G p l e R s m args below meth c A d.2.2.1 Q I ce sl pc lv (v4 :: v3 :: v2 :: v1 :: .ref b :: rest) :=
  mw_cV X (as := [v1, v2, v3, v4]) hM hV hL rfl hci ha rfl hcat hlev hcap hAA hI (fun v => by
    intro H locs ls hE hS hl
    obtain ⟨rfl, hE⟩ := hE
    exact kk H locs ls hE hS hl)
theorem mw_cV5v (X : mw_Ok Γ p s m args meth c A d P) {idx b ci : Nat} {v1 v2 v3 v4 v5 : Value} {T : u_T} {N : Nat} (hM : mw_Md d' 5) (hV : mw_Mv d') (hL : Cond.methodLink d.1.cls idx d'.1 ∈ lw_tbl) (hci : vwCl[ci]? = some (d'.1.cls, T, N)) (ha : mw_at P pc = some (.invokevirtual idx, 3)) (hcat : (rest.map fun v => v.category).sum ≤ 8) (hlev : lev + 1 ≤ R.frames ∧ 8 + (d'.2.2.1 + 11) + 40 * lev ≤ R.locals) (hcap : ce + mc ≤ R.cells ∧ sl + ms ≤ R.slots) (hAA : ∀ q, A' q → A q) (hI : ∀ H, I H → (∃ fs, mw_ob Γ b ci fs H) ∧ mw_Cr l Γ d' lev mc ms A' (.ref b :: [v1, v2, v3, v4, v5]) H none I1) (kk : mw_G p l e R s m args below meth c A d.2.2.1 Q I1 (ce + mc) (sl + ms) (pc + 3) lv rest) : mw_G p l e R s m args below meth c A d.2.2.1 Q I ce sl pc lv (v5 :: v4 :: v3 :: v2 :: v1 :: .ref b :: rest) :=
  mw_cV X (as := [v1, v2, v3, v4, v5]) hM hV hL rfl hci ha rfl hcat hlev hcap hAA hI (fun v => by
    intro H locs ls hE hS hl
    obtain ⟨rfl, hE⟩ := hE
    exact kk H locs ls hE hS hl)
theorem mw_cV5r (X : mw_Ok Γ p s m args meth c A d P) {idx b ci : Nat} {v1 v2 v3 v4 v5 : Value} {v : Value} {T : u_T} {N : Nat} (hM : mw_Md d' 5) (hV : mw_Mv d') (hL : Cond.methodLink d.1.cls idx d'.1 ∈ lw_tbl) (hci : vwCl[ci]? = some (d'.1.cls, T, N)) (ha : mw_at P pc = some (.invokevirtual idx, 3)) (hcat : (rest.map fun v => v.category).sum ≤ 8) (hlev : lev + 1 ≤ R.frames ∧ 8 + (d'.2.2.1 + 11) + 40 * lev ≤ R.locals) (hcap : ce + mc ≤ R.cells ∧ sl + ms ≤ R.slots) (hAA : ∀ q, A' q → A q) (hI : ∀ H, I H → (∃ fs, mw_ob Γ b ci fs H) ∧ mw_Cr l Γ d' lev mc ms A' (.ref b :: [v1, v2, v3, v4, v5]) H (some v) I1) (kk : mw_G p l e R s m args below meth c A d.2.2.1 Q I1 (ce + mc) (sl + ms) (pc + 3) lv (v :: rest)) : mw_G p l e R s m args below meth c A d.2.2.1 Q I ce sl pc lv (v5 :: v4 :: v3 :: v2 :: v1 :: .ref b :: rest) :=
  mw_cV X (as := [v1, v2, v3, v4, v5]) hM hV hL rfl hci ha rfl hcat hlev hcap hAA hI (fun v => by
    intro H locs ls hE hS hl
    obtain ⟨rfl, hE⟩ := hE
    exact kk H locs ls hE hS hl)
theorem mw_cV6v (X : mw_Ok Γ p s m args meth c A d P) {idx b ci : Nat} {v1 v2 v3 v4 v5 v6 : Value} {T : u_T} {N : Nat} (hM : mw_Md d' 6) (hV : mw_Mv d') (hL : Cond.methodLink d.1.cls idx d'.1 ∈ lw_tbl) (hci : vwCl[ci]? = some (d'.1.cls, T, N)) (ha : mw_at P pc = some (.invokevirtual idx, 3)) (hcat : (rest.map fun v => v.category).sum ≤ 8) (hlev : lev + 1 ≤ R.frames ∧ 8 + (d'.2.2.1 + 11) + 40 * lev ≤ R.locals) (hcap : ce + mc ≤ R.cells ∧ sl + ms ≤ R.slots) (hAA : ∀ q, A' q → A q) (hI : ∀ H, I H → (∃ fs, mw_ob Γ b ci fs H) ∧ mw_Cr l Γ d' lev mc ms A' (.ref b :: [v1, v2, v3, v4, v5, v6]) H none I1) (kk : mw_G p l e R s m args below meth c A d.2.2.1 Q I1 (ce + mc) (sl + ms) (pc + 3) lv rest) : mw_G p l e R s m args below meth c A d.2.2.1 Q I ce sl pc lv (v6 :: v5 :: v4 :: v3 :: v2 :: v1 :: .ref b :: rest) :=
  mw_cV X (as := [v1, v2, v3, v4, v5, v6]) hM hV hL rfl hci ha rfl hcat hlev hcap hAA hI (fun v => by
    intro H locs ls hE hS hl
    obtain ⟨rfl, hE⟩ := hE
    exact kk H locs ls hE hS hl)
theorem mw_cV6r (X : mw_Ok Γ p s m args meth c A d P) {idx b ci : Nat} {v1 v2 v3 v4 v5 v6 : Value} {v : Value} {T : u_T} {N : Nat} (hM : mw_Md d' 6) (hV : mw_Mv d') (hL : Cond.methodLink d.1.cls idx d'.1 ∈ lw_tbl) (hci : vwCl[ci]? = some (d'.1.cls, T, N)) (ha : mw_at P pc = some (.invokevirtual idx, 3)) (hcat : (rest.map fun v => v.category).sum ≤ 8) (hlev : lev + 1 ≤ R.frames ∧ 8 + (d'.2.2.1 + 11) + 40 * lev ≤ R.locals) (hcap : ce + mc ≤ R.cells ∧ sl + ms ≤ R.slots) (hAA : ∀ q, A' q → A q) (hI : ∀ H, I H → (∃ fs, mw_ob Γ b ci fs H) ∧ mw_Cr l Γ d' lev mc ms A' (.ref b :: [v1, v2, v3, v4, v5, v6]) H (some v) I1) (kk : mw_G p l e R s m args below meth c A d.2.2.1 Q I1 (ce + mc) (sl + ms) (pc + 3) lv (v :: rest)) : mw_G p l e R s m args below meth c A d.2.2.1 Q I ce sl pc lv (v6 :: v5 :: v4 :: v3 :: v2 :: v1 :: .ref b :: rest) :=
  mw_cV X (as := [v1, v2, v3, v4, v5, v6]) hM hV hL rfl hci ha rfl hcat hlev hcap hAA hI (fun v => by
    intro H locs ls hE hS hl
    obtain ⟨rfl, hE⟩ := hE
    exact kk H locs ls hE hS hl)
theorem mw_vret (X : mw_Ok Γ p s m args meth c A d P) (hret : d.2.2.2 = none) (ha : mw_at P pc = some (.return_, 1)) (hI : ∀ H, I H → E none H) : mw_G p l e R s m args below meth c A d.2.2.1 (mw_Q A E below args s ce sl) I ce sl pc lv [] := by
  intro H locs ls hH hS hl
  exact W.vret X.hx X.hb (X.hr.trans hret) (fun t ht hW => ⟨⟨_, rfl, by rw [ht]; exact hI H hH⟩, hS.F ht⟩) hS.2.2 (X.hd ha) X.hlo
theorem mw_iret (X : mw_Ok Γ p s m args meth c A d P) {v : Int32} (hret : d.2.2.2 = some .int) (ha : mw_at P pc = some (.ireturn, 1)) (hI : ∀ H, I H → E (some (.int v)) H) : mw_G p l e R s m args below meth c A d.2.2.1 (mw_Q A E below args s ce sl) I ce sl pc lv [.int v] := by
  intro H locs ls hH hS hl
  exact W.iret X.hx X.hb (X.hr.trans hret) (fun t ht hW => ⟨⟨_, rfl, by rw [ht]; exact hI H hH⟩, hS.F ht⟩) hS.2.2 (X.hd ha) X.hlo
theorem mw_zret (X : mw_Ok Γ p s m args meth c A d P) {v : Int32} (hret : d.2.2.2 = some .boolean) (hv : v = 0 ∨ v = 1) (ha : mw_at P pc = some (.ireturn, 1)) (hI : ∀ H, I H → E (some (.int v)) H) : mw_G p l e R s m args below meth c A d.2.2.1 (mw_Q A E below args s ce sl) I ce sl pc lv [.int v] := by
  intro H locs ls hH hS hl
  exact W.zret X.hx X.hb (X.hr.trans hret) (by rcases hv with rfl | rfl <;> decide) (fun t ht hW => ⟨⟨_, rfl, by rw [ht]; exact hI H hH⟩, hS.F ht⟩) hS.2.2 (X.hd ha) X.hlo
theorem mw_aret (X : mw_Ok Γ p s m args meth c A d P) {v : Nat} {C : String} (hret : d.2.2.2 = some (.object C)) (ha : mw_at P pc = some (.areturn, 1)) (hI : ∀ H, I H → E (some (.ref v)) H) : mw_G p l e R s m args below meth c A d.2.2.1 (mw_Q A E below args s ce sl) I ce sl pc lv [.ref v] := by
  intro H locs ls hH hS hl
  exact W.aret X.hx X.hb (X.hr.trans hret) (Or.inl ⟨C, rfl⟩) (Or.inr ⟨v, rfl⟩) (fun t ht hW => ⟨⟨_, rfl, by rw [ht]; exact hI H hH⟩, hS.F ht⟩) hS.2.2 (X.hd ha) X.hlo
theorem mw_widen {ce' sl' : Nat} {st : List Value} (h1 : ce ≤ ce') (h2 : sl ≤ sl') (kk : mw_G p l e R s m args below meth c A d.2.2.1 Q I ce' sl' pc lv st) : mw_G p l e R s m args below meth c A d.2.2.1 Q I ce sl pc lv st := fun H locs ls hH hS hl => W.widen h1 h2 (kk H locs ls hH hS hl)
theorem mw_oinit (X : mw_Ok Γ p s m args meth c A d P) {b idx : Nat} (hlk : Cond.methodLink d.1.cls idx objectInit ∈ lw_tbl) (h2 : Cond.instanceMethod objectInit ∈ lw_tbl) (h3 : Cond.code objectInit ⟨#[0xb1]⟩ 1 none ∈ lw_tbl) (ha : mw_at P pc = some (.invokespecial idx, 3)) (hfr : 1 ≤ R.frames) (hlo : 12 ≤ R.locals) (kk : mw_G p l e R s m args below meth c A d.2.2.1 Q I ce sl (pc + 3) lv []) : mw_G p l e R s m args below meth c A d.2.2.1 Q I ce sl pc lv [.ref b] := by
  intro H locs ls hH hS hl
  exact W.objInit X.hx X.hb X.hown (X.hw hlk rfl) (X.hw h2 rfl) (X.hw h3 rfl) rfl (by rw [X.hml]; exact hl.1) rfl (X.hd ha) hfr hlo (kk H locs ls hH hS hl)
theorem mw_mmax (X : mw_Ok Γ p s m args meth c A d P) {idx : Nat} {x y : Int32} (hlk : Cond.methodLink d.1.cls idx Lib.Math.max.name ∈ lw_tbl) (h2 : Cond.static Lib.Math.max.name ∈ lw_tbl) (h3 : Cond.initialized "java/lang/Math" ∈ lw_tbl) (h4 : Cond.code Lib.Math.max.name Lib.Math.max.code 2 (some .int) ∈ lw_tbl) (ha : mw_at P pc = some (.invokestatic idx, 3)) (hcat : (rest.map fun v => v.category).sum + 13 ≤ R.locals) (hfr : 1 ≤ R.frames) (hcap : ce ≤ R.cells ∧ sl ≤ R.slots) (kk : mw_G p l e R s m args below meth c A d.2.2.1 Q I ce sl (pc + 3) lv (.int (if x < y then y else x) :: rest)) : mw_G p l e R s m args below meth c A d.2.2.1 Q I ce sl pc lv (.int y :: .int x :: rest) := by
  intro H locs ls hH hS hl
  exact va_mmax X.hx X.hb (by rw [X.hml]; exact hl.1.symm) X.hown (X.hw hlk rfl) (X.hw h2 rfl) (X.hw h3 rfl) (X.hw h4 rfl) hfr hcat hcap.1 hcap.2 (X.hd ha) (kk H locs ls hH hS hl)
theorem mw_mmin (X : mw_Ok Γ p s m args meth c A d P) {idx : Nat} {x y : Int32} (hlk : Cond.methodLink d.1.cls idx Lib.Math.min.name ∈ lw_tbl) (h2 : Cond.static Lib.Math.min.name ∈ lw_tbl) (h3 : Cond.initialized "java/lang/Math" ∈ lw_tbl) (h4 : Cond.code Lib.Math.min.name Lib.Math.min.code 2 (some .int) ∈ lw_tbl) (ha : mw_at P pc = some (.invokestatic idx, 3)) (hcat : (rest.map fun v => v.category).sum + 13 ≤ R.locals) (hfr : 1 ≤ R.frames) (hcap : ce ≤ R.cells ∧ sl ≤ R.slots) (kk : mw_G p l e R s m args below meth c A d.2.2.1 Q I ce sl (pc + 3) lv (.int (if y < x then y else x) :: rest)) : mw_G p l e R s m args below meth c A d.2.2.1 Q I ce sl pc lv (.int y :: .int x :: rest) := by
  intro H locs ls hH hS hl
  exact va_mmin X.hx X.hb (by rw [X.hml]; exact hl.1.symm) X.hown (X.hw hlk rfl) (X.hw h2 rfl) (X.hw h3 rfl) (X.hw h4 rfl) hfr hcat hcap.1 hcap.2 (X.hd ha) (kk H locs ls hH hS hl)
end KC
