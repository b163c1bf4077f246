/-! loops; other names for locals -/
section PL
variable {p : Program} {l : Launch} {e : Env} {R : Room} {s : State} {m : MethodId} {args : Array Value} {below : List Frame} {meth : Method} {c : Code} {A : Nat → Prop} {Q : State → Prop} {ce sl pc nL : Nat} {st : List Value}
theorem mw_wf {σ : Type} (μ : σ → Nat) (Pre : σ → Prop) (J : σ → Heap → Prop) (lvf : σ → List (Nat × Value)) (h : ∀ a, Pre a → (∀ b, Pre b → μ b < μ a → mw_G p l e R s m args below meth c A nL Q (J b) ce sl pc (lvf b) st) → mw_G p l e R s m args below meth c A nL Q (J a) ce sl pc (lvf a) st) : ∀ a, Pre a → mw_G p l e R s m args below meth c A nL Q (J a) ce sl pc (lvf a) st := by
  have key : ∀ (n : Nat) (a : σ), μ a < n → Pre a → mw_G p l e R s m args below meth c A nL Q (J a) ce sl pc (lvf a) st := by
    intro n
    induction n with
    | zero => intro a ha; exact absurd ha (Nat.not_lt_zero _)
    | succ n ih => intro a ha hp; exact h a hp (fun b hb hlt => ih b (by omega) hb)
  intro a ha
  exact key (μ a + 1) a (Nat.lt_succ_self _) ha
theorem mw_lveq {I : Heap → Prop} {lv lv' : List (Nat × Value)} (h : lv = lv') (kk : mw_G p l e R s m args below meth c A nL Q I ce sl pc lv' st) : mw_G p l e R s m args below meth c A nL Q I ce sl pc lv st := h ▸ kk
theorem mw_steq {I : Heap → Prop} {lv : List (Nat × Value)} {st' : List Value} (h : st = st') (kk : mw_G p l e R s m args below meth c A nL Q I ce sl pc lv st') : mw_G p l e R s m args below meth c A nL Q I ce sl pc lv st := h ▸ kk
end PL
def mo_b (b : Bool) : Int32 := if b then nI 1 else nI 0
theorem mo_b_t : mo_b true = nI 1 := rfl
theorem mo_b_f : mo_b false = nI 0 := rfl
theorem mo_b_or (b : Bool) : mo_b b = 0 ∨ mo_b b = 1 := by cases b <;> decide
theorem mo_b_z {b : Bool} (h : mo_b b = 0) : b = false := by cases b; rfl; exact absurd h (by decide)
theorem mo_b_nz {b : Bool} (h : ¬ mo_b b = 0) : b = true := by cases b; exact absurd (by decide) h; rfl
