/-- n pure instructions, one behind another -/
def mw_run (nL : Nat) (P : List (Nat × Instr × Nat)) : Nat → Nat → List (Nat × Value) → List Value → Option (Nat × List (Nat × Value) × List Value)
  | 0, pc, lv, st => some (pc, lv, st)
  | n + 1, pc, lv, st => match mw_at P pc with
    | some (ins, len) => match mw_s1 nL ins len pc lv st with
      | some (pc', lv', st') => mw_run nL P n pc' lv' st'
      | none => none
    | none => none
section PG
variable {Γ : mw_C} {p : Program} {l : Launch} {e : Env} {R : Room} {s : State} {m : MethodId} {args : Array Value} {below : List Frame} {meth : Method} {c : Code} {A : Nat → Prop} {Q : State → Prop} {I : Heap → Prop} {ce sl : Nat} {d : mw_M} {P : List (Nat × Instr × Nat)}
theorem mw_Ok.hx (X : mw_Ok Γ p s m args meth c A d P) : p.tables.exec = Jvm.exec := by unfold mw_Ok at X; exact X.1
theorem mw_Ok.hb (X : mw_Ok Γ p s m args meth c A d P) : c.code = d.2.1 := by unfold mw_Ok at X; exact X.2.1
theorem mw_Ok.hr (X : mw_Ok Γ p s m args meth c A d P) : meth.sig.returnType = d.2.2.2 := by unfold mw_Ok at X; exact X.2.2.1
theorem mw_Ok.hml (X : mw_Ok Γ p s m args meth c A d P) : c.maxLocals = d.2.2.1 := by unfold mw_Ok at X; exact X.2.2.2.1
theorem mw_Ok.hown (X : mw_Ok Γ p s m args meth c A d P) : s.vm.findClass d.1.cls = some m.cls := by unfold mw_Ok at X; exact X.2.2.2.2.1
theorem mw_Ok.hK (X : mw_Ok Γ p s m args meth c A d P) : mw_KK Γ s := by unfold mw_Ok at X; exact X.2.2.2.2.2.1
theorem mw_Ok.hlo (X : mw_Ok Γ p s m args meth c A d P) : meth.locks = false := by unfold mw_Ok at X; exact X.2.2.2.2.2.2.1
theorem mw_Ok.hA (X : mw_Ok Γ p s m args meth c A d P) : ∀ q, A q → Γ.2.2.2 ≤ q := by unfold mw_Ok at X; exact X.2.2.2.2.2.2.2.1
theorem mw_Ok.hP (X : mw_Ok Γ p s m args meth c A d P) : ∀ q ∈ P, decode d.2.1 q.1 = .ok (q.2.1, q.2.2) := by unfold mw_Ok at X; exact X.2.2.2.2.2.2.2.2.1
theorem mw_Ok.hn (X : mw_Ok Γ p s m args meth c A d P) : meth.name = d.1.name := by unfold mw_Ok at X; exact X.2.2.2.2.2.2.2.2.2
theorem mw_Ok.hd (X : mw_Ok Γ p s m args meth c A d P) {pc len : Nat} {ins : Instr} (h : mw_at P pc = some (ins, len)) : decode d.2.1 pc = .ok (ins, len) := X.hP (pc, ins, len) (mw_at_mem h)
theorem mw_Ok.hw (X : mw_Ok Γ p s m args meth c A d P) {w : Cond} (h : w ∈ lw_tbl) (hg : mw_gw w = true) : w.before args s = true := X.hK.1 w h hg args
theorem mw_steps (X : mw_Ok Γ p s m args meth c A d P) : ∀ (n : Nat) {pc : Nat} {lv : List (Nat × Value)} {st : List Value} {pc' : Nat} {lv' : List (Nat × Value)} {st' : List Value}, mw_run d.2.2.1 P n pc lv st = some (pc', lv', st') → mw_G p l e R s m args below meth c A d.2.2.1 Q I ce sl pc' lv' st' → mw_G p l e R s m args below meth c A d.2.2.1 Q I ce sl pc lv st
  | 0, pc, lv, st, pc', lv', st', h, kk => by cases h; exact kk
  | n + 1, pc, lv, st, pc', lv', st', h, kk => by
    unfold mw_run at h
    cases ha : mw_at P pc with
    | none => rw [ha] at h; cases h
    | some q =>
      obtain ⟨ins, len⟩ := q
      rw [ha] at h
      replace h : (match mw_s1 d.2.2.1 ins len pc lv st with | some (pc', lv', st') => mw_run d.2.2.1 P n pc' lv' st' | none => none) = some (pc', lv', st') := h
      cases hs : mw_s1 d.2.2.1 ins len pc lv st with
      | none => rw [hs] at h; cases h
      | some q =>
        obtain ⟨pc1, lv1, st1⟩ := q
        rw [hs] at h
        have ih := mw_steps X n h kk
        intro H locs ls hI hS hl
        exact mw_s1_ok (cc := d.2.1) X.hx X.hb (X.hd ha) hl hs (fun ls hl => ih H locs ls hI hS hl)
/-- less is known of the heap -/
theorem mw_pre {I' : Heap → Prop} {nL pc : Nat} {lv : List (Nat × Value)} {st : List Value} (h : ∀ H, I H → I' H) (k : mw_G p l e R s m args below meth c A nL Q I' ce sl pc lv st) : mw_G p l e R s m args below meth c A nL Q I ce sl pc lv st := fun H locs ls hI hS hl => k H locs ls (h H hI) hS hl
/-- a fact that the heap's picture gives -/
theorem mw_fact {F : Prop} {nL pc : Nat} {lv : List (Nat × Value)} {st : List Value} (h : ∀ H, I H → F) (k : F → mw_G p l e R s m args below meth c A nL Q I ce sl pc lv st) : mw_G p l e R s m args below meth c A nL Q I ce sl pc lv st := fun H locs ls hI hS hl => k (h H hI) H locs ls hI hS hl
end PG
