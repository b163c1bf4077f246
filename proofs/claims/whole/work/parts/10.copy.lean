/-! System.arraycopy over rows of ints and of longs -/
section KY
variable {Γ : mw_C} {p : Program} {l : Launch} {e : Env} {R : Room} {s : State} {m : MethodId} {args : Array Value} {below : List Frame} {meth : Method} {c : Code} {A : Nat → Prop} {Q : State → Prop} {I I1 : Heap → Prop} {ce sl pc : Nat} {d : mw_M} {P : List (Nat × Instr × Nat)} {lv : List (Nat × Value)} {rest : List Value}
set_option maxHeartbeats 1000000 in
theorem mw_copyi (X : mw_Ok Γ p s m args meth c A d P) {idx a0 a : Nat} {sp dp n : Int32} (jp jd jn : Nat) (h1 : sp = nI jp) (h2 : dp = nI jd) (h3 : n = nI jn) (hlk : Cond.methodLink d.1.cls idx arraycopyName ∈ lw_tbl) (ha : mw_at P pc = some (.invokestatic idx, 3)) (hfr : 1 ≤ R.frames) (hlo : (rest.map fun v => v.category).sum + (nativeFrameWords "java/lang/System" "arraycopy" 5 + 11) ≤ R.locals)
    (hI : ∀ H, I H → A a ∧ ∃ n0 n1 f g, mw_ia Γ a0 n0 f H ∧ mw_ia Γ a n1 g H ∧ jp + jn ≤ n0 ∧ jd + jn ≤ n1 ∧ n0 ≤ 100000 ∧ n1 ≤ 100000 ∧ ∀ H1, mw_one a H H1 → mw_ia Γ a n1 (va_cpy f g jp jd jn) H1 → I1 H1) (kk : mw_G p l e R s m args below meth c A d.2.2.1 Q I1 ce sl (pc + 3) lv rest) : mw_G p l e R s m args below meth c A d.2.2.1 Q I ce sl pc lv (.int n :: .int dp :: .ref a :: .int sp :: .ref a0 :: rest) := by
  intro H locs ls hH hS hl T hT Y
  obtain ⟨hA, n0, n1, f, g, hc0, hc1, b1, b2, b3, b4, h4⟩ := hI H hH
  subst h1; subst h2; subst h3
  have hc0 : H[a0]? = some (arrV Γ.2.1.1 n0 (fun j => .int (f j))) := hc0
  have hc1 : H[a]? = some (arrV Γ.2.1.1 n1 (fun j => .int (g j))) := hc1
  have cp : (nI jp).toNatClampNeg = jp := nI_clamp (by omega)
  have cd : (nI jd).toNatClampNeg = jd := nI_clamp (by omega)
  have cn : (nI jn).toNatClampNeg = jn := nI_clamp (by omega)
  have tp : (nI jp).toInt = (jp : Int) := nI_toInt (by omega)
  have td : (nI jd).toInt = (jd : Int) := nI_toInt (by omega)
  have tn : (nI jn).toInt = (jn : Int) := nI_toInt (by omega)
  obtain ⟨-, k0, hk0, cm0, hkk0⟩ := (X.hK.2.1.2 0 _ rfl).1 n0 (fun j => .int (f j))
  obtain ⟨-, k1, hk1, cm1, hkk1⟩ := (X.hK.2.1.2 0 _ rfl).1 n1 (fun j => .int (g j))
  obtain ⟨vm', X', step⟩ := Y.arraycopy X.hx X.hown (X.hw hlk rfl) (X.hw kt_native rfl) (X.hw kt_stat rfl) (X.hw k_inJ10 rfl) (src := a0) (dst := a) (cs := arrV Γ.2.1.1 n0 (fun j => .int (f j))) (cd := arrV Γ.2.1.1 n1 (fun j => .int (g j))) (srcPos := nI jp) (destPos := nI jd) (n := nI jn) (by rw [hT]; exact hc0) (by rw [hT]; exact hc1)
    (fun _ h => by cases h) (fun _ h => by cases h) (fun h => by cases h) (fun h => by cases h) hk0 hk1 hkk0 hkk1 (by simp [show refKind .int = false from rfl]) (nI_pos (by omega)) (nI_pos (by omega)) (nI_pos (by omega))
    (by rw [tp, tn, arrV_size]; omega)
    (by rw [td, tn, arrV_size]; omega)
    (fun vm₁ _ i hi => by
      have e : (arrV Γ.2.1.1 n0 (fun j => Value.int (f j))).slots.getD ((nI jp).toNatClampNeg + i) .null = .int (f (jp + i)) := by
        rw [cn] at hi
        rw [Array.getD_eq_getD_getElem?, cp, arrV_read _ _ (by omega)]
        rfl
      refine ⟨?_, ?_⟩
      · rw [e]; rfl
      · rw [e]; exact trivial)
    (g := F0 m pc ls (.int (nI jn) :: .int (nI jd) :: .ref a :: .int (nI jp) :: .ref a0 :: rest)) rfl (by rw [X.hml]; exact hl.1) (rest := rest) rfl (by rw [X.hb]; exact X.hd ha) hfr (by show 2 * 0 + _ + _ ≤ _; omega)
  have e1 : copied (arrV Γ.2.1.1 n0 (fun j => Value.int (f j))) (arrV Γ.2.1.1 n1 (fun j => Value.int (g j))) (nI jp) (nI jd) (nI jn) = arrV Γ.2.1.1 n1 (fun j => .int (va_cpy f g jp jd jn j)) := by
    have := va_copied (fun z => Value.int z) Γ.2.1.1 Γ.2.1.1 (n1 := n1) (dp := jd) f g b1
    show (arrV Γ.2.1.1 n1 (fun j => Value.int (g j))).storeRun (nI jd).toNatClampNeg ((arrV Γ.2.1.1 n0 (fun j => Value.int (f j))).stretch (nI jp).toNatClampNeg (nI jn).toNatClampNeg) = _
    rw [cp, cd, cn]
    exact this
  rw [e1] at X' step
  have hlt : a < H.size := (Array.getElem?_eq_some_iff.mp hc1).1
  have hheap : ((T.setVm vm').setCell a (arrV Γ.2.1.1 n1 (fun j => .int (va_cpy f g jp jd jn j)))).heap = H.setIfInBounds a (arrV Γ.2.1.1 n1 (fun j => .int (va_cpy f g jp jd jn j))) := by rw [← hT]; rfl
  have hone : mw_one a H (H.setIfInBounds a (arrV Γ.2.1.1 n1 (fun j => .int (va_cpy f g jp jd jn j)))) := ⟨by simp, fun q hq => by simp [Array.getElem?_setIfInBounds, Ne.symm hq]⟩
  obtain ⟨t, a1, b5⟩ := kk _ _ ls (h4 _ hone (show (H.setIfInBounds a _)[a]? = some _ by simp [Array.getElem?_setIfInBounds, hlt])) ⟨by rw [hone.1]; exact hS.1, fun q g1 g2 => by
      rw [hone.2 q (fun e => g2 (by rw [e]; exact hA))]
      exact hS.2.1 q g1 g2, fun q hq => by
      rcases List.mem_append.mp hq with h | h
      · exact hS.2.2 q h
      · obtain ⟨z, -, hz⟩ := List.mem_map.mp h
        rw [← hz]
        exact hA⟩ hl _ hheap X'
  exact ⟨t, step t a1, b5⟩
set_option maxHeartbeats 1000000 in
theorem mw_copyl (X : mw_Ok Γ p s m args meth c A d P) {idx a0 a : Nat} {sp dp n : Int32} (jp jd jn : Nat) (h1 : sp = nI jp) (h2 : dp = nI jd) (h3 : n = nI jn) (hlk : Cond.methodLink d.1.cls idx arraycopyName ∈ lw_tbl) (ha : mw_at P pc = some (.invokestatic idx, 3)) (hfr : 1 ≤ R.frames) (hlo : (rest.map fun v => v.category).sum + (nativeFrameWords "java/lang/System" "arraycopy" 5 + 11) ≤ R.locals)
    (hI : ∀ H, I H → A a ∧ ∃ n0 n1 f g, mw_la Γ a0 n0 f H ∧ mw_la Γ a n1 g H ∧ jp + jn ≤ n0 ∧ jd + jn ≤ n1 ∧ n0 ≤ 100000 ∧ n1 ≤ 100000 ∧ ∀ H1, mw_one a H H1 → mw_la Γ a n1 (va_cpy f g jp jd jn) H1 → I1 H1) (kk : mw_G p l e R s m args below meth c A d.2.2.1 Q I1 ce sl (pc + 3) lv rest) : mw_G p l e R s m args below meth c A d.2.2.1 Q I ce sl pc lv (.int n :: .int dp :: .ref a :: .int sp :: .ref a0 :: rest) := by
  intro H locs ls hH hS hl T hT Y
  obtain ⟨hA, n0, n1, f, g, hc0, hc1, b1, b2, b3, b4, h4⟩ := hI H hH
  subst h1; subst h2; subst h3
  have hc0 : H[a0]? = some (arrV Γ.2.1.2.1 n0 (fun j => .long (f j))) := hc0
  have hc1 : H[a]? = some (arrV Γ.2.1.2.1 n1 (fun j => .long (g j))) := hc1
  have cp : (nI jp).toNatClampNeg = jp := nI_clamp (by omega)
  have cd : (nI jd).toNatClampNeg = jd := nI_clamp (by omega)
  have cn : (nI jn).toNatClampNeg = jn := nI_clamp (by omega)
  have tp : (nI jp).toInt = (jp : Int) := nI_toInt (by omega)
  have td : (nI jd).toInt = (jd : Int) := nI_toInt (by omega)
  have tn : (nI jn).toInt = (jn : Int) := nI_toInt (by omega)
  obtain ⟨-, k0, hk0, cm0, hkk0⟩ := (X.hK.2.1.2 1 _ rfl).1 n0 (fun j => .long (f j))
  obtain ⟨-, k1, hk1, cm1, hkk1⟩ := (X.hK.2.1.2 1 _ rfl).1 n1 (fun j => .long (g j))
  obtain ⟨vm', X', step⟩ := Y.arraycopy X.hx X.hown (X.hw hlk rfl) (X.hw kt_native rfl) (X.hw kt_stat rfl) (X.hw k_inJ10 rfl) (src := a0) (dst := a) (cs := arrV Γ.2.1.2.1 n0 (fun j => .long (f j))) (cd := arrV Γ.2.1.2.1 n1 (fun j => .long (g j))) (srcPos := nI jp) (destPos := nI jd) (n := nI jn) (by rw [hT]; exact hc0) (by rw [hT]; exact hc1)
    (fun _ h => by cases h) (fun _ h => by cases h) (fun h => by cases h) (fun h => by cases h) hk0 hk1 hkk0 hkk1 (by simp [show refKind .long = false from rfl]) (nI_pos (by omega)) (nI_pos (by omega)) (nI_pos (by omega))
    (by rw [tp, tn, arrV_size]; omega)
    (by rw [td, tn, arrV_size]; omega)
    (fun vm₁ _ i hi => by
      have e : (arrV Γ.2.1.2.1 n0 (fun j => Value.long (f j))).slots.getD ((nI jp).toNatClampNeg + i) .null = .long (f (jp + i)) := by
        rw [cn] at hi
        rw [Array.getD_eq_getD_getElem?, cp, arrV_read _ _ (by omega)]
        rfl
      refine ⟨?_, ?_⟩
      · rw [e]; rfl
      · rw [e]; exact trivial)
    (g := F0 m pc ls (.int (nI jn) :: .int (nI jd) :: .ref a :: .int (nI jp) :: .ref a0 :: rest)) rfl (by rw [X.hml]; exact hl.1) (rest := rest) rfl (by rw [X.hb]; exact X.hd ha) hfr (by show 2 * 0 + _ + _ ≤ _; omega)
  have e1 : copied (arrV Γ.2.1.2.1 n0 (fun j => Value.long (f j))) (arrV Γ.2.1.2.1 n1 (fun j => Value.long (g j))) (nI jp) (nI jd) (nI jn) = arrV Γ.2.1.2.1 n1 (fun j => .long (va_cpy f g jp jd jn j)) := by
    have := va_copied (fun z => Value.long z) Γ.2.1.2.1 Γ.2.1.2.1 (n1 := n1) (dp := jd) f g b1
    show (arrV Γ.2.1.2.1 n1 (fun j => Value.long (g j))).storeRun (nI jd).toNatClampNeg ((arrV Γ.2.1.2.1 n0 (fun j => Value.long (f j))).stretch (nI jp).toNatClampNeg (nI jn).toNatClampNeg) = _
    rw [cp, cd, cn]
    exact this
  rw [e1] at X' step
  have hlt : a < H.size := (Array.getElem?_eq_some_iff.mp hc1).1
  have hheap : ((T.setVm vm').setCell a (arrV Γ.2.1.2.1 n1 (fun j => .long (va_cpy f g jp jd jn j)))).heap = H.setIfInBounds a (arrV Γ.2.1.2.1 n1 (fun j => .long (va_cpy f g jp jd jn j))) := by rw [← hT]; rfl
  have hone : mw_one a H (H.setIfInBounds a (arrV Γ.2.1.2.1 n1 (fun j => .long (va_cpy f g jp jd jn j)))) := ⟨by simp, fun q hq => by simp [Array.getElem?_setIfInBounds, Ne.symm hq]⟩
  obtain ⟨t, a1, b5⟩ := kk _ _ ls (h4 _ hone (show (H.setIfInBounds a _)[a]? = some _ by simp [Array.getElem?_setIfInBounds, hlt])) ⟨by rw [hone.1]; exact hS.1, fun q g1 g2 => by
      rw [hone.2 q (fun e => g2 (by rw [e]; exact hA))]
      exact hS.2.1 q g1 g2, fun q hq => by
      rcases List.mem_append.mp hq with h | h
      · exact hS.2.2 q h
      · obtain ⟨z, -, hz⟩ := List.mem_map.mp h
        rw [← hz]
        exact hA⟩ hl _ hheap X'
  exact ⟨t, step t a1, b5⟩
end KY
