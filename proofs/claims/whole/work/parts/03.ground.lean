/-! the ground: the tables' words at every state, contracts by heaps, and the walk's judgement -/
def mw_nest : Cond → Bool
  | .fieldLinkNest .. => true
  | .methodLinkNest .. => true
  | _ => false
/-- a word that stays true while the tables are warmed -/
def mw_gw (w : Cond) : Bool := goodWord w || mw_nest w
/-- every such word of the tables holds, at every list of arguments -/
def mw_KW (U : State) : Prop := ∀ w ∈ lw_tbl, mw_gw w = true → ∀ a : Array Value, w.before a U = true
theorem mw_KW.warm {s U : State} (h : mw_KW s) (hW : s.WarmedH U.vm) : mw_KW U := by
  intro w hw h0 a
  have h1 := h0
  simp only [mw_gw, Bool.or_eq_true] at h1
  rcases h1 with h1 | h1
  · exact word_at hW (good_of_word h1) (h w hw h0 #[])
  · cases w with
    | fieldLinkNest a1 i b1 n1 d1 h2 => exact va_Nw.use rfl (va_Nw.warmF hW (h _ hw h0 #[]))
    | methodLinkNest a1 i x1 h2 => exact va_Nw.use rfl (va_Nw.warmM hW (h _ hw h0 #[]))
    | _ => cases h1
theorem mw_KW.of {s : State} {a : Array Value} (h : ∀ w ∈ lw_tbl, w.before a s = true) : mw_KW s := by
  intro w hw h1 a'
  simp only [mw_gw, Bool.or_eq_true] at h1
  rcases h1 with h1 | h1
  · exact word_at (State.WarmedH.refl s) (good_of_word h1) (h w hw)
  · cases w with
    | fieldLinkNest a1 i b1 n1 d1 h2 => exact va_tabs rfl rfl (h _ hw)
    | methodLinkNest a1 i x1 h2 => exact va_tabs rfl rfl (h _ hw)
    | _ => cases h1
abbrev mw_C : Type := va_G × (ClassId × ClassId × ClassId) × Nat × Nat
def mw_ty (Y : ClassId × ClassId × ClassId) : List (ClassId × FieldType) := [(Y.1, .int), (Y.2.1, .long), (Y.2.2, .object "MovedWays$Ways")]
/-- the sizes of the kinds of letters -/
def mw_sz (j : Nat) : Int32 := match j with
  | 0 => 5
  | 1 => 4
  | 2 => 4
  | 3 => 3
  | _ => 2
/-- what stays known at every state: the tables' words, the classes' numbers and slots, the static row of sizes -/
def mw_KK (Γ : mw_C) (U : State) : Prop := mw_KW U ∧ va_K Γ.1 vwCl (mw_ty Γ.2.1) U ∧ va_Z "MovedWays" "SIZES" "[I" (.ref Γ.2.2.1) (fun q => Γ.2.2.2 ≤ q) U U.heap ∧ va_T .int Γ.2.2.1 6 (fun j => .int (mw_sz j)) (fun q => Γ.2.2.2 ≤ q) U U.heap ∧ va_AO "MovedWays$Ways" U
theorem mw_KK.call {Γ : mw_C} {U : State} {g : JFrame} {mk : MethodId} {a : Array Value} (h : mw_KK Γ U) : mw_KK Γ (U.calling g mk a) :=
  ⟨h.1.warm (State.WarmedH.refl U), va_K.moved (u := U) (U := U.calling g mk a) (Vm.Alike.refl U.vm) h.2.1, va_Z.moved (u := U) (U := U.calling g mk a) (Vm.Alike.refl U.vm) h.2.2.1, va_T.moved (u := U) (U := U.calling g mk a) (Vm.Alike.refl U.vm) h.2.2.2.1, va_AO.moved (u := U) (U := U.calling g mk a) (Vm.Alike.refl U.vm) h.2.2.2.2⟩
theorem mw_KK.warm {Γ : mw_C} {A : Nat → Prop} {s U : State} {H : Heap} {locs : List Loc} (h : mw_KK Γ s) (hW : s.WarmedH U.vm) (hU : U.heap = H) (hA : ∀ q, A q → Γ.2.2.2 ≤ q) (hS : va_S A s.heap H locs) : mw_KK Γ U := by
  have hq : ∀ a : Nat, a < s.heap.size → ¬ (fun q => Γ.2.2.2 ≤ q) a → U.heap[a]? = s.heap[a]? := fun a h1 h2 => by rw [hU]; exact hS.2.1 a h1 (fun z => h2 (hA a z))
  exact ⟨h.1.warm hW, va_K.moved hW.alike h.2.1, (h.2.2.1.kept hq).moved hW.alike, (h.2.2.2.1.kept hq).moved hW.alike, va_AO.moved hW.alike h.2.2.2.2⟩
/-- a method: its name, its bytes, how many locals, what it returns -/
abbrev mw_M : Type := MethodName × ByteArray × Nat × Option FieldType
abbrev mw_rm (lev mc ms : Nat) : Room := { frames := lev, cells := mc, slots := ms, locals := 40 * lev }
abbrev mw_Qc (A : Nat → Prop) (E : Option Value → Heap → Prop) : Array Value → State → Outcome → State → Prop := fun _ st o t => (∃ v, o = .returned v ∧ E v t.heap) ∧ va_F A st t
/-- THE CONTRACT, at one heap: called with these arguments the method returns, and 'E answer heap' -/
def mw_Cn (l : Launch) (Γ : mw_C) (d : mw_M) (lev mc ms : Nat) (A : Nat → Prop) (as : List Value) (H : Heap) (E : Option Value → Heap → Prop) : Prop :=
  Met l d.1 [.code d.1 d.2.1 d.2.2.1 d.2.2.2] (mw_rm lev mc ms) (fun v U => v = as.toArray ∧ mw_KK Γ U ∧ U.heap = H) (mw_Qc A E) mc ms A
/-- the contract with one known answer -/
abbrev mw_Cr (l : Launch) (Γ : mw_C) (d : mw_M) (lev mc ms : Nat) (A : Nat → Prop) (as : List Value) (H : Heap) (ov : Option Value) (J : Heap → Prop) : Prop :=
  mw_Cn l Γ d lev mc ms A as H (fun v H' => v = ov ∧ J H')
theorem mw_Cn.mono {l : Launch} {Γ : mw_C} {d : mw_M} {lev mc ms : Nat} {A : Nat → Prop} {as : List Value} {H : Heap} {E E' : Option Value → Heap → Prop} (h : mw_Cn l Γ d lev mc ms A as H E) (hE : ∀ v H', E v H' → E' v H') : mw_Cn l Γ d lev mc ms A as H E' := by
  intro p e ha hc hk s m args below hf happ hP hT
  obtain ⟨t, o, h1, h2, h3, ⟨⟨v, hv, hE1⟩, hF⟩, hL⟩ := h p e ha hc hk s m args below hf happ hP hT
  exact ⟨t, o, h1, h2, h3, ⟨⟨v, hv, hE v _ hE1⟩, hF⟩, hL⟩
abbrev mw_Q (A : Nat → Prop) (E : Option Value → Heap → Prop) (below : List Frame) (args : Array Value) (s : State) (mc ms : Nat) : State → Prop := MQ below (mw_Qc A E) args s mc ms A
/-- THE WALK: from every heap with I, at this place with these locals and this stack, the machine comes to Q -/
def mw_G (p : Program) (l : Launch) (e : Env) (R : Room) (s : State) (m : MethodId) (args : Array Value) (below : List Frame) (meth : Method) (c : Code) (A : Nat → Prop) (nL : Nat) (Q : State → Prop) (I : Heap → Prop) (ce sl pc : Nat) (lv : List (Nat × Value)) (st : List Value) : Prop :=
  ∀ (H : Heap) (locs : List Loc) (ls : Array Slot), I H → va_S A s.heap H locs → lv_has ls nL lv → W p l e R s m args below meth c H locs ce sl Q (F0 m pc ls st)
/-- what a walk knows of its method -/
def mw_Ok (Γ : mw_C) (p : Program) (s : State) (m : MethodId) (args : Array Value) (meth : Method) (c : Code) (A : Nat → Prop) (d : mw_M) (P : List (Nat × Instr × Nat)) : Prop :=
  p.tables.exec = Jvm.exec ∧ c.code = d.2.1 ∧ meth.sig.returnType = d.2.2.2 ∧ c.maxLocals = d.2.2.1 ∧ s.vm.findClass d.1.cls = some m.cls ∧ mw_KK Γ s ∧ meth.locks = false ∧ (∀ q, A q → Γ.2.2.2 ≤ q) ∧ (∀ q ∈ P, decode d.2.1 q.1 = .ok (q.2.1, q.2.2)) ∧ meth.name = d.1.name
/-- a contract by its walk -/
theorem mw_ofG {l : Launch} {Γ : mw_C} {d : mw_M} {lev mc ms : Nat} {A : Nat → Prop} {as : List Value} {H : Heap} {E : Option Value → Heap → Prop} {P : List (Nat × Instr × Nat)} (hy : plainName d.1.cls = true) (hA : ∀ q, A q → Γ.2.2.2 ≤ q) (hP : ∀ q ∈ P, decode d.2.1 q.1 = .ok (q.2.1, q.2.2)) (hl : (lg_sl as).length ≤ d.2.2.1)
    (body : ∀ p e s m below meth c, mw_Ok Γ p s m as.toArray meth c A d P → s.heap = H → mw_G p l e (mw_rm lev mc ms) s m as.toArray below meth c A d.2.2.1 (mw_Q A E below as.toArray s mc ms) (fun H' => H' = H) 0 0 0 (lv_args 0 as) []) : mw_Cn l Γ d lev mc ms A as H E := by
  refine Met.ofW (cc := d.2.1) (maxL := d.2.2.1) (ret := d.2.2.2) hy rfl ?_
  intro p e s m args below meth c s₁ B hml hv
  obtain ⟨rfl, hK, hH⟩ := hv
  have hown : s.vm.findClass d.1.cls = some m.cls := findClass_of_methodNamed B.named
  have hl1 := lv_entry as (n := d.2.2.1) hl
  rw [lg_entry_eq]
  exact body p e s m below meth c ⟨B.exec, B.bytes, B.returns, hml, hown, hK, B.notSynchronized, hA, hP, (name_of_methodNamed B.named B.method).1⟩ hH s.heap [] _ hH va_S.rf hl1
/-- a local, by its number -/
def mw_lk : List (Nat × Value) → Nat → Option Value
  | [], _ => none
  | q :: r, i => bif Nat.beq q.1 i then some q.2 else mw_lk r i
theorem mw_lk_mem : ∀ {lv : List (Nat × Value)} {i : Nat} {v : Value}, mw_lk lv i = some v → (i, v) ∈ lv
  | [], i, v, h => by cases h
  | q :: r, i, v, h => by
    unfold mw_lk at h
    cases hb : Nat.beq q.1 i with
    | true =>
      rw [hb] at h
      have h1 : q.1 = i := Nat.eq_of_beq_eq_true hb
      have h2 : q.2 = v := Option.some.inj h
      rw [← h1, ← h2]
      exact List.mem_cons_self
    | false =>
      rw [hb] at h
      exact List.mem_cons_of_mem _ (mw_lk_mem h)
/-- an instruction, by its place -/
def mw_at : List (Nat × Instr × Nat) → Nat → Option (Instr × Nat)
  | [], _ => none
  | q :: r, i => bif Nat.beq q.1 i then some q.2 else mw_at r i
theorem mw_at_mem : ∀ {P : List (Nat × Instr × Nat)} {i : Nat} {x : Instr × Nat}, mw_at P i = some x → (i, x) ∈ P
  | [], i, v, h => by cases h
  | q :: r, i, v, h => by
    unfold mw_at at h
    cases hb : Nat.beq q.1 i with
    | true =>
      rw [hb] at h
      have h1 : q.1 = i := Nat.eq_of_beq_eq_true hb
      have h2 : q.2 = v := Option.some.inj h
      rw [← h1, ← h2]
      exact List.mem_cons_self
    | false =>
      rw [hb] at h
      exact List.mem_cons_of_mem _ (mw_at_mem h)
def mw_put1 (lv : List (Nat × Value)) (i : Nat) (v : Value) : List (Nat × Value) := (i, v) :: lv.filter (fun q => !(q.1 == i) && !(q.1 + 1 == i && q.2.category == 2))
def mw_put2 (lv : List (Nat × Value)) (i : Nat) (v : Value) : List (Nat × Value) := (i, v) :: lv.filter (fun q => !(q.1 == i) && (!(q.1 == i + 1) && !(q.1 + 1 == i && q.2.category == 2)))
