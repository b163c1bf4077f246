/-! the walk's key rows: branches, fields, arrays, new cells, calls, returns -/
def mw_ob (Γ : mw_C) (a ci : Nat) (fs : List Value) (H : Heap) : Prop := va_at Γ.1 vwCl (a, .inr (ci, fs)) H
def mw_ia (Γ : mw_C) (a n : Nat) (f : Nat → Int32) (H : Heap) : Prop := H[a]? = some (arrV Γ.2.1.1 n (fun j => .int (f j)))
def mw_la (Γ : mw_C) (a n : Nat) (f : Nat → Int64) (H : Heap) : Prop := H[a]? = some (arrV Γ.2.1.2.1 n (fun j => .long (f j)))
def mw_ra (Γ : mw_C) (a n : Nat) (f : Nat → Option Nat) (H : Heap) : Prop := H[a]? = some (arrV Γ.2.1.2.2 n (fun j => va_rf (f j)))
/-- one cell has changed -/
def mw_one (a : Nat) (H H1 : Heap) : Prop := H1.size = H.size ∧ ∀ q : Nat, q ≠ a → H1[q]? = H[q]?
/-- one cell is new -/
def mw_new (h : Nat) (H H1 : Heap) : Prop := H.size = h ∧ H1.size = h + 1 ∧ ∀ q : Nat, q < h → H1[q]? = H[q]?
theorem mw_ob.kept {Γ : mw_C} {a ci : Nat} {fs : List Value} {H H1 : Heap} (h : mw_ob Γ a ci fs H) (hq : H1[a]? = H[a]?) : mw_ob Γ a ci fs H1 := va_at.kept h hq
theorem mw_ob.lt {Γ : mw_C} {a ci : Nat} {fs : List Value} {H : Heap} (h : mw_ob Γ a ci fs H) : a < H.size := va_at.lt h
theorem mw_ia.lt {Γ : mw_C} {a n : Nat} {f : Nat → Int32} {H : Heap} (h : mw_ia Γ a n f H) : a < H.size := (Array.getElem?_eq_some_iff.mp h).1
theorem mw_la.lt {Γ : mw_C} {a n : Nat} {f : Nat → Int64} {H : Heap} (h : mw_la Γ a n f H) : a < H.size := (Array.getElem?_eq_some_iff.mp h).1
theorem mw_ra.lt {Γ : mw_C} {a n : Nat} {f : Nat → Option Nat} {H : Heap} (h : mw_ra Γ a n f H) : a < H.size := (Array.getElem?_eq_some_iff.mp h).1
theorem mw_ia.kept {Γ : mw_C} {a n : Nat} {f : Nat → Int32} {H H1 : Heap} (h : mw_ia Γ a n f H) (hq : H1[a]? = H[a]?) : mw_ia Γ a n f H1 := hq.trans h
theorem mw_la.kept {Γ : mw_C} {a n : Nat} {f : Nat → Int64} {H H1 : Heap} (h : mw_la Γ a n f H) (hq : H1[a]? = H[a]?) : mw_la Γ a n f H1 := hq.trans h
theorem mw_ra.kept {Γ : mw_C} {a n : Nat} {f : Nat → Option Nat} {H H1 : Heap} (h : mw_ra Γ a n f H) (hq : H1[a]? = H[a]?) : mw_ra Γ a n f H1 := hq.trans h
theorem mw_one.S {A : Nat → Prop} {H0 H H1 : Heap} {locs : List Loc} {a k : Nat} (h : mw_one a H H1) (hS : va_S A H0 H locs) (ha : A a) : va_S A H0 H1 (locs ++ [⟨a, k⟩]) := hS.put h.1 h.2 ha
theorem mw_new.S {A : Nat → Prop} {H0 H H1 : Heap} {locs : List Loc} {h : Nat} (hn : mw_new h H H1) (hS : va_S A H0 H locs) : va_S A H0 H1 locs :=
  ⟨Nat.le_trans hS.1 (by rw [hn.1, hn.2.1]; exact Nat.le_succ h), fun x h1 h2 => (hn.2.2 x (by rw [← hn.1]; exact Nat.lt_of_lt_of_le h1 hS.1)).trans (hS.2.1 x h1 h2), hS.2.2⟩
/-- the words on a field's place: which class's object, which slot -/
def mw_Fl (own : String) (idx ci k : Nat) : Prop := ∃ (C : String) (T : u_T) (N : Nat), vwCl[ci]? = some (C, T, N) ∧ k < N ∧ (Cond.fieldLink own idx (T k).1 (T k).2.1 (T k).2.2.1 ∈ lw_tbl ∨ ∃ host, Cond.fieldLinkNest own idx (T k).1 (T k).2.1 (T k).2.2.1 host ∈ lw_tbl)
def mw_FlO (own : String) (idx ci k : Nat) : Prop := ∃ (C : String) (T : u_T) (N : Nat), vwCl[ci]? = some (C, T, N) ∧ k < N ∧ Cond.fieldLink own idx (T k).1 (T k).2.1 (T k).2.2.1 ∈ lw_tbl
/-- what the tables say of a class: its slots' words, types, names -/
def mw_Cl (ci : Nat) : Prop := ∀ (C : String) (T : u_T) (N : Nat), vwCl[ci]? = some (C, T, N) → (∀ w ∈ u_ws C T N, w ∈ lw_tbl) ∧ (∃ ty : Nat → FieldType, ∀ k, k < N → parseFieldDescriptor (T k).2.2.1 = some (ty k)) ∧ (∀ a, a < N → ∀ b, b < N → a ≠ b → (T a).2.1 ≠ (T b).2.1)
theorem mw_gw_lay (C : String) (T : u_T) (N : Nat) : ∀ w ∈ u_ws C T N, mw_gw w = true := by
  intro w hw
  obtain ⟨k, -, rfl⟩ := List.mem_map.mp hw
  unfold u_lay
  split <;> rfl
section KG
variable {Γ : mw_C} {p : Program} {l : Launch} {e : Env} {R : Room} {s : State} {m : MethodId} {args : Array Value} {below : List Frame} {meth : Method} {c : Code} {A : Nat → Prop} {Q : State → Prop} {I I1 : Heap → Prop} {ce sl pc : Nat} {d : mw_M} {P : List (Nat × Instr × Nat)} {lv : List (Nat × Value)} {rest : List Value}
theorem mw_if_eq (X : mw_Ok Γ p s m args meth c A d P) {x : Int32} {off : Int} (tgt : Nat) (ha : mw_at P pc = some (.ifCond .eq off, 3)) (ht : mw_tg pc off = some tgt) (kt : x = 0 → mw_G p l e R s m args below meth c A d.2.2.1 Q I ce sl tgt lv rest) (kf : ¬ x = 0 → mw_G p l e R s m args below meth c A d.2.2.1 Q I ce sl (pc + 3) lv rest) : mw_G p l e R s m args below meth c A d.2.2.1 Q I ce sl pc lv (.int x :: rest) :=
  fun H locs ls hI hS hl => lv_if_eq X.hx X.hb (X.hd ha) (mw_tg_ok ht) (fun h => kt h H locs ls hI hS hl) (fun h => kf h H locs ls hI hS hl)
theorem mw_icmp_eq (X : mw_Ok Γ p s m args meth c A d P) {x y : Int32} {off : Int} (tgt : Nat) (ha : mw_at P pc = some (.if_icmp .eq off, 3)) (ht : mw_tg pc off = some tgt) (kt : x = y → mw_G p l e R s m args below meth c A d.2.2.1 Q I ce sl tgt lv rest) (kf : ¬ x = y → mw_G p l e R s m args below meth c A d.2.2.1 Q I ce sl (pc + 3) lv rest) : mw_G p l e R s m args below meth c A d.2.2.1 Q I ce sl pc lv (.int y :: .int x :: rest) :=
  fun H locs ls hI hS hl => lv_icmp_eq X.hx X.hb (X.hd ha) (mw_tg_ok ht) (fun h => kt h H locs ls hI hS hl) (fun h => kf h H locs ls hI hS hl)
theorem mw_if_ne (X : mw_Ok Γ p s m args meth c A d P) {x : Int32} {off : Int} (tgt : Nat) (ha : mw_at P pc = some (.ifCond .ne off, 3)) (ht : mw_tg pc off = some tgt) (kt : ¬ x = 0 → mw_G p l e R s m args below meth c A d.2.2.1 Q I ce sl tgt lv rest) (kf : x = 0 → mw_G p l e R s m args below meth c A d.2.2.1 Q I ce sl (pc + 3) lv rest) : mw_G p l e R s m args below meth c A d.2.2.1 Q I ce sl pc lv (.int x :: rest) :=
  fun H locs ls hI hS hl => lv_if_ne X.hx X.hb (X.hd ha) (mw_tg_ok ht) (fun h => kt h H locs ls hI hS hl) (fun h => kf h H locs ls hI hS hl)
theorem mw_icmp_ne (X : mw_Ok Γ p s m args meth c A d P) {x y : Int32} {off : Int} (tgt : Nat) (ha : mw_at P pc = some (.if_icmp .ne off, 3)) (ht : mw_tg pc off = some tgt) (kt : ¬ x = y → mw_G p l e R s m args below meth c A d.2.2.1 Q I ce sl tgt lv rest) (kf : x = y → mw_G p l e R s m args below meth c A d.2.2.1 Q I ce sl (pc + 3) lv rest) : mw_G p l e R s m args below meth c A d.2.2.1 Q I ce sl pc lv (.int y :: .int x :: rest) :=
  fun H locs ls hI hS hl => lv_icmp_ne X.hx X.hb (X.hd ha) (mw_tg_ok ht) (fun h => kt h H locs ls hI hS hl) (fun h => kf h H locs ls hI hS hl)
theorem mw_if_lt (X : mw_Ok Γ p s m args meth c A d P) {x : Int32} {off : Int} (tgt : Nat) (ha : mw_at P pc = some (.ifCond .lt off, 3)) (ht : mw_tg pc off = some tgt) (kt : x < 0 → mw_G p l e R s m args below meth c A d.2.2.1 Q I ce sl tgt lv rest) (kf : ¬ x < 0 → mw_G p l e R s m args below meth c A d.2.2.1 Q I ce sl (pc + 3) lv rest) : mw_G p l e R s m args below meth c A d.2.2.1 Q I ce sl pc lv (.int x :: rest) :=
  fun H locs ls hI hS hl => lv_if_lt X.hx X.hb (X.hd ha) (mw_tg_ok ht) (fun h => kt h H locs ls hI hS hl) (fun h => kf h H locs ls hI hS hl)
theorem mw_icmp_lt (X : mw_Ok Γ p s m args meth c A d P) {x y : Int32} {off : Int} (tgt : Nat) (ha : mw_at P pc = some (.if_icmp .lt off, 3)) (ht : mw_tg pc off = some tgt) (kt : x < y → mw_G p l e R s m args below meth c A d.2.2.1 Q I ce sl tgt lv rest) (kf : ¬ x < y → mw_G p l e R s m args below meth c A d.2.2.1 Q I ce sl (pc + 3) lv rest) : mw_G p l e R s m args below meth c A d.2.2.1 Q I ce sl pc lv (.int y :: .int x :: rest) :=
  fun H locs ls hI hS hl => lv_icmp_lt X.hx X.hb (X.hd ha) (mw_tg_ok ht) (fun h => kt h H locs ls hI hS hl) (fun h => kf h H locs ls hI hS hl)
theorem mw_if_ge (X : mw_Ok Γ p s m args meth c A d P) {x : Int32} {off : Int} (tgt : Nat) (ha : mw_at P pc = some (.ifCond .ge off, 3)) (ht : mw_tg pc off = some tgt) (kt : 0 ≤ x → mw_G p l e R s m args below meth c A d.2.2.1 Q I ce sl tgt lv rest) (kf : ¬ 0 ≤ x → mw_G p l e R s m args below meth c A d.2.2.1 Q I ce sl (pc + 3) lv rest) : mw_G p l e R s m args below meth c A d.2.2.1 Q I ce sl pc lv (.int x :: rest) :=
  fun H locs ls hI hS hl => lv_if_ge X.hx X.hb (X.hd ha) (mw_tg_ok ht) (fun h => kt h H locs ls hI hS hl) (fun h => kf h H locs ls hI hS hl)
theorem mw_icmp_ge (X : mw_Ok Γ p s m args meth c A d P) {x y : Int32} {off : Int} (tgt : Nat) (ha : mw_at P pc = some (.if_icmp .ge off, 3)) (ht : mw_tg pc off = some tgt) (kt : y ≤ x → mw_G p l e R s m args below meth c A d.2.2.1 Q I ce sl tgt lv rest) (kf : ¬ y ≤ x → mw_G p l e R s m args below meth c A d.2.2.1 Q I ce sl (pc + 3) lv rest) : mw_G p l e R s m args below meth c A d.2.2.1 Q I ce sl pc lv (.int y :: .int x :: rest) :=
  fun H locs ls hI hS hl => lv_icmp_ge X.hx X.hb (X.hd ha) (mw_tg_ok ht) (fun h => kt h H locs ls hI hS hl) (fun h => kf h H locs ls hI hS hl)
theorem mw_if_gt (X : mw_Ok Γ p s m args meth c A d P) {x : Int32} {off : Int} (tgt : Nat) (ha : mw_at P pc = some (.ifCond .gt off, 3)) (ht : mw_tg pc off = some tgt) (kt : 0 < x → mw_G p l e R s m args below meth c A d.2.2.1 Q I ce sl tgt lv rest) (kf : ¬ 0 < x → mw_G p l e R s m args below meth c A d.2.2.1 Q I ce sl (pc + 3) lv rest) : mw_G p l e R s m args below meth c A d.2.2.1 Q I ce sl pc lv (.int x :: rest) :=
  fun H locs ls hI hS hl => lv_if_gt X.hx X.hb (X.hd ha) (mw_tg_ok ht) (fun h => kt h H locs ls hI hS hl) (fun h => kf h H locs ls hI hS hl)
theorem mw_icmp_gt (X : mw_Ok Γ p s m args meth c A d P) {x y : Int32} {off : Int} (tgt : Nat) (ha : mw_at P pc = some (.if_icmp .gt off, 3)) (ht : mw_tg pc off = some tgt) (kt : y < x → mw_G p l e R s m args below meth c A d.2.2.1 Q I ce sl tgt lv rest) (kf : ¬ y < x → mw_G p l e R s m args below meth c A d.2.2.1 Q I ce sl (pc + 3) lv rest) : mw_G p l e R s m args below meth c A d.2.2.1 Q I ce sl pc lv (.int y :: .int x :: rest) :=
  fun H locs ls hI hS hl => lv_icmp_gt X.hx X.hb (X.hd ha) (mw_tg_ok ht) (fun h => kt h H locs ls hI hS hl) (fun h => kf h H locs ls hI hS hl)
theorem mw_if_le (X : mw_Ok Γ p s m args meth c A d P) {x : Int32} {off : Int} (tgt : Nat) (ha : mw_at P pc = some (.ifCond .le off, 3)) (ht : mw_tg pc off = some tgt) (kt : x ≤ 0 → mw_G p l e R s m args below meth c A d.2.2.1 Q I ce sl tgt lv rest) (kf : ¬ x ≤ 0 → mw_G p l e R s m args below meth c A d.2.2.1 Q I ce sl (pc + 3) lv rest) : mw_G p l e R s m args below meth c A d.2.2.1 Q I ce sl pc lv (.int x :: rest) :=
  fun H locs ls hI hS hl => lv_if_le X.hx X.hb (X.hd ha) (mw_tg_ok ht) (fun h => kt h H locs ls hI hS hl) (fun h => kf h H locs ls hI hS hl)
theorem mw_icmp_le (X : mw_Ok Γ p s m args meth c A d P) {x y : Int32} {off : Int} (tgt : Nat) (ha : mw_at P pc = some (.if_icmp .le off, 3)) (ht : mw_tg pc off = some tgt) (kt : x ≤ y → mw_G p l e R s m args below meth c A d.2.2.1 Q I ce sl tgt lv rest) (kf : ¬ x ≤ y → mw_G p l e R s m args below meth c A d.2.2.1 Q I ce sl (pc + 3) lv rest) : mw_G p l e R s m args below meth c A d.2.2.1 Q I ce sl pc lv (.int y :: .int x :: rest) :=
  fun H locs ls hI hS hl => lv_icmp_le X.hx X.hb (X.hd ha) (mw_tg_ok ht) (fun h => kt h H locs ls hI hS hl) (fun h => kf h H locs ls hI hS hl)
theorem mw_ifnn (X : mw_Ok Γ p s m args meth c A d P) {x : Nat} {off : Int} (tgt : Nat) (ha : mw_at P pc = some (.ifnonnull off, 3)) (ht : mw_tg pc off = some tgt) (kt : mw_G p l e R s m args below meth c A d.2.2.1 Q I ce sl tgt lv rest) : mw_G p l e R s m args below meth c A d.2.2.1 Q I ce sl pc lv (.ref x :: rest) :=
  fun H locs ls hI hS hl => lv_ifnonnull X.hx X.hb (X.hd ha) (mw_tg_ok ht) (kt H locs ls hI hS hl)
theorem mw_ifnnN (X : mw_Ok Γ p s m args meth c A d P) {off : Int} (ha : mw_at P pc = some (.ifnonnull off, 3)) (kf : mw_G p l e R s m args below meth c A d.2.2.1 Q I ce sl (pc + 3) lv rest) : mw_G p l e R s m args below meth c A d.2.2.1 Q I ce sl pc lv (.null :: rest) :=
  fun H locs ls hI hS hl => lv_ifnonnullN X.hx X.hb (X.hd ha) (kf H locs ls hI hS hl)
theorem mw_tsIn (X : mw_Ok Γ p s m args meth c A d P) {x : Int32} (j : Nat) (hj : x = nI j) (hj2 : j < 2 ^ 31) {off dflt hi : Int} {offs : Array Int} {len : Nat} (tgt : Nat) (ha : mw_at P pc = some (.tableswitch dflt 0 hi offs, len)) (h2 : (j : Int) ≤ hi) (ho : offs[j]? = some off) (ht : mw_tg pc off = some tgt) (kt : mw_G p l e R s m args below meth c A d.2.2.1 Q I ce sl tgt lv rest) : mw_G p l e R s m args below meth c A d.2.2.1 Q I ce sl pc lv (.int x :: rest) :=
  fun H locs ls hI hS hl => lv_tableIn X.hx X.hb (X.hd ha) (by rw [hj, nI_toInt hj2]; omega) (by rw [hj, nI_toInt hj2]; omega) (by rw [hj, nI_toInt hj2]; simpa using ho) (mw_tg_ok ht) (kt H locs ls hI hS hl)
theorem mw_tsOut (X : mw_Ok Γ p s m args meth c A d P) {x : Int32} {dflt lo hi : Int} {offs : Array Int} {len : Nat} (tgt : Nat) (ha : mw_at P pc = some (.tableswitch dflt lo hi offs, len)) (h : x.toInt < lo ∨ hi < x.toInt) (ht : mw_tg pc dflt = some tgt) (kt : mw_G p l e R s m args below meth c A d.2.2.1 Q I ce sl tgt lv rest) : mw_G p l e R s m args below meth c A d.2.2.1 Q I ce sl pc lv (.int x :: rest) :=
  fun H locs ls hI hS hl => lv_tableOut X.hx X.hb (X.hd ha) h (mw_tg_ok ht) (kt H locs ls hI hS hl)
theorem mw_ldc (X : mw_Ok Γ p s m args meth c A d P) {idx : Nat} {v : Int32} (hw : Cond.constant d.1.cls idx v ∈ lw_tbl) (ha : mw_at P pc = some (.ldc idx, 2)) (kk : mw_G p l e R s m args below meth c A d.2.2.1 Q I ce sl (pc + 2) lv (.int v :: rest)) : mw_G p l e R s m args below meth c A d.2.2.1 Q I ce sl pc lv rest :=
  fun H locs ls hI hS hl => lv_ldc X.hx X.hb X.hown (X.hw hw rfl) (X.hd ha) (kk H locs ls hI hS hl)
theorem mw_ldc2 (X : mw_Ok Γ p s m args meth c A d P) {idx : Nat} {v : Int64} (hw : Cond.constantLong d.1.cls idx v ∈ lw_tbl) (ha : mw_at P pc = some (.ldc2_w idx, 3)) (kk : mw_G p l e R s m args below meth c A d.2.2.1 Q I ce sl (pc + 3) lv (.long v :: rest)) : mw_G p l e R s m args below meth c A d.2.2.1 Q I ce sl pc lv rest :=
  fun H locs ls hI hS hl => lv_ldc2 X.hx X.hb X.hown (X.hw hw rfl) (X.hd ha) (kk H locs ls hI hS hl)
theorem mw_idiv (X : mw_Ok Γ p s m args meth c A d P) {x y : Int32} (hne : ¬ y = 0) (ha : mw_at P pc = some (.idiv, 1)) (kk : mw_G p l e R s m args below meth c A d.2.2.1 Q I ce sl (pc + 1) lv (.int (x / y) :: rest)) : mw_G p l e R s m args below meth c A d.2.2.1 Q I ce sl pc lv (.int y :: .int x :: rest) :=
  fun H locs ls hI hS hl => lv_idiv X.hx X.hb (X.hd ha) hne (kk H locs ls hI hS hl)
theorem mw_irem (X : mw_Ok Γ p s m args meth c A d P) {x y : Int32} (hne : ¬ y = 0) (ha : mw_at P pc = some (.irem, 1)) (kk : mw_G p l e R s m args below meth c A d.2.2.1 Q I ce sl (pc + 1) lv (.int (x - x / y * y) :: rest)) : mw_G p l e R s m args below meth c A d.2.2.1 Q I ce sl pc lv (.int y :: .int x :: rest) :=
  fun H locs ls hI hS hl => lv_irem X.hx X.hb (X.hd ha) hne (kk H locs ls hI hS hl)
theorem mw_lrem (X : mw_Ok Γ p s m args meth c A d P) {x y : Int64} (hne : ¬ y = 0) (ha : mw_at P pc = some (.lrem, 1)) (kk : mw_G p l e R s m args below meth c A d.2.2.1 Q I ce sl (pc + 1) lv (.long (x - x / y * y) :: rest)) : mw_G p l e R s m args below meth c A d.2.2.1 Q I ce sl pc lv (.long y :: .long x :: rest) :=
  fun H locs ls hI hS hl => lv_lrem X.hx X.hb (X.hd ha) hne (kk H locs ls hI hS hl)
/-- another name for the number on top -/
theorem mw_top {x y : Int32} (h : x = y) (kk : mw_G p l e R s m args below meth c A d.2.2.1 Q I ce sl pc lv (.int y :: rest)) : mw_G p l e R s m args below meth c A d.2.2.1 Q I ce sl pc lv (.int x :: rest) := by rw [h]; exact kk
theorem mw_top2 {x y : Int32} {v : Value} (h : x = y) (kk : mw_G p l e R s m args below meth c A d.2.2.1 Q I ce sl pc lv (v :: .int y :: rest)) : mw_G p l e R s m args below meth c A d.2.2.1 Q I ce sl pc lv (v :: .int x :: rest) := by rw [h]; exact kk
theorem mw_get (X : mw_Ok Γ p s m args meth c A d P) {idx ci k a : Nat} {v : Value} (hF : mw_Fl d.1.cls idx ci k) (hC : mw_Cl ci) (ha : mw_at P pc = some (.getfield idx, 3)) (hI : ∀ H, I H → ∃ fs, mw_ob Γ a ci fs H ∧ fs[k]? = some v) (kk : mw_G p l e R s m args below meth c A d.2.2.1 Q I ce sl (pc + 3) lv (v :: rest)) : mw_G p l e R s m args below meth c A d.2.2.1 Q I ce sl pc lv (.ref a :: rest) := by
  intro H locs ls hH hS hl
  obtain ⟨fs, h1, hv⟩ := hI H hH
  obtain ⟨Cn, T, N, hc, hk, hw⟩ := hF
  obtain ⟨hin, -, -⟩ := hC Cn T N hc
  have hin' : ∀ w ∈ u_ws Cn T N, w.before args s = true := fun w hw => X.hw (hin w hw) (mw_gw_lay Cn T N w hw)
  have hP : va_P Γ.1 vwCl [(a, .inr (ci, fs))] H := fun j q hq => by
    have hz : j < 1 := (List.getElem?_eq_some_iff.mp hq).1
    rw [show j = 0 by omega] at hq
    cases hq
    exact h1
  rcases hw with hw | ⟨host, hw⟩
  · exact va_get X.hx X.hb hin' (fun _ h => h) X.hown X.hK.2.1 hP 0 rfl hc k hk (X.hw hw rfl) (fun _ h => h) hv (X.hd ha) (kk H locs ls hH hS hl)
  · exact va_getN X.hx X.hb hin' (fun _ h => h) X.hown X.hK.2.1 hP 0 rfl hc k hk (X.hw hw rfl) (fun _ h => h) hv (X.hd ha) (kk H locs ls hH hS hl)
/-- what a slot may take -/
def mw_fit (ci k : Nat) (fin : Bool) (v : Value) : Prop := ∃ (C : String) (T : u_T) (N : Nat) (ty : FieldType), vwCl[ci]? = some (C, T, N) ∧ (T k).2.2.2 = fin ∧ parseFieldDescriptor (T k).2.2.1 = some ty ∧ narrow ty v = v ∧ fits ty v = true
set_option maxHeartbeats 1000000 in
theorem mw_put (X : mw_Ok Γ p s m args meth c A d P) {idx ci k a : Nat} {v : Value} (hF : mw_Fl d.1.cls idx ci k) (hC : mw_Cl ci) (hft : mw_fit ci k false v) (ha : mw_at P pc = some (.putfield idx, 3)) (hI : ∀ H, I H → A a ∧ ∃ fs, mw_ob Γ a ci fs H ∧ k < fs.length ∧ ∀ H1, mw_one a H H1 → mw_ob Γ a ci (fs.set k v) H1 → I1 H1) (kk : mw_G p l e R s m args below meth c A d.2.2.1 Q I1 ce sl (pc + 3) lv rest) : mw_G p l e R s m args below meth c A d.2.2.1 Q I ce sl pc lv (v :: .ref a :: rest) := by
  intro H locs ls hH hS0 hl
  obtain ⟨hAa, fs, h1, hlen, hI1⟩ := hI H hH
  obtain ⟨Cn, T, N, hc, hk, hw⟩ := hF
  obtain ⟨hin, ⟨ty0, hty⟩, hnm⟩ := hC Cn T N hc
  obtain ⟨Cn2, T2, N2, ty, hc2, hfin, hd, hn, hfit⟩ := hft
  have he : (Cn2, T2, N2) = (Cn, T, N) := Option.some.inj (hc2.symm.trans hc)
  cases he
  have hin' : ∀ w ∈ u_ws Cn T N, w.before args s = true := fun w hw => X.hw (hin w hw) (mw_gw_lay Cn T N w hw)
  have hap := va_apart (own := d.1.cls) hin' (fun _ h => h) ty0 hty hnm X.hK.2.1 hc
  obtain ⟨r, h2, cell, q1, q2, q3, q4⟩ := h1
  have hr : r = (Cn, T, N) := Option.some.inj (h2.symm.trans hc)
  subst hr
  obtain ⟨hS, hfc, kC, hkC, hkind⟩ := X.hK.2.1.1 ci _ hc
  obtain ⟨cf, kf, fi, f, hi, hsl⟩ := hS k hk
  have hlay := hin' _ (u_in_lay hk)
  unfold u_lay at hlay
  rw [if_neg (by rw [hfin]; decide)] at hlay
  have hst := (u_facts hfc hkC (u_lays hin' (fun _ h => h) hk) hi).1
  have h6 := u_store hfc hkC hkind hlay hi hd hn hfit
  have fin : ∀ H' : Heap, H'[a]? = some (cell.setSlot f.slot v) → H'.size = H.size → (∀ q, q ≠ a → H'[q]? = H[q]?) → W p l e R s m args below meth c H' (locs ++ [⟨a, f.slot⟩]) ce sl Q (F0 m (pc + 3) ls rest) := fun H' e1 e2 e3 => by
    rw [hsl] at e1 ⊢
    have hone : mw_one a H H' := ⟨e2, e3⟩
    refine kk H' _ ls (hI1 H' hone ⟨_, hc, t_OB.to (V := updV (vp_V fs) k v) ⟨_, e1, q2, q3, t_set q4 hap hk v⟩ (fun j _ => vp_updV_set hlen v j)⟩) (hone.S hS0 hAa) hl
  rcases hw with hw | ⟨host, hw⟩
  · exact W.putK X.hx X.hb (f := f) ⟨X.hown, X.hw hw rfl, ⟨_, _, _, hi⟩, hst⟩ (by rw [q2]; exact h6) q1 q3 (by rw [hsl]; exact k2_hasslot (q4 k hk)) rfl rfl (X.hd ha) fin
  · exact va_WputK X.hx X.hb (f := f) X.hown (X.hw hw rfl) hi hst (by rw [q2]; exact h6) q1 q3 (by rw [hsl]; exact k2_hasslot (q4 k hk)) rfl rfl (X.hd ha) fin
set_option maxHeartbeats 1000000 in
theorem mw_putF (X : mw_Ok Γ p s m args meth c A d P) {idx ci k a : Nat} {v : Value} (hF : mw_FlO d.1.cls idx ci k) (hC : mw_Cl ci) (hft : mw_fit ci k true v) (hini : d.1.name = "<init>") (hdecl : ∀ (C : String) (T : u_T) (N : Nat), vwCl[ci]? = some (C, T, N) → (T k).1 = d.1.cls) (ha : mw_at P pc = some (.putfield idx, 3)) (hI : ∀ H, I H → A a ∧ ∃ fs, mw_ob Γ a ci fs H ∧ k < fs.length ∧ ∀ H1, mw_one a H H1 → mw_ob Γ a ci (fs.set k v) H1 → I1 H1) (kk : mw_G p l e R s m args below meth c A d.2.2.1 Q I1 ce sl (pc + 3) lv rest) : mw_G p l e R s m args below meth c A d.2.2.1 Q I ce sl pc lv (v :: .ref a :: rest) := by
  intro H locs ls hH hS0 hl
  obtain ⟨hAa, fs, h1, hlen, hI1⟩ := hI H hH
  obtain ⟨Cn, T, N, hc, hk, hw⟩ := hF
  obtain ⟨hin, ⟨ty0, hty⟩, hnm⟩ := hC Cn T N hc
  obtain ⟨Cn2, T2, N2, ty, hc2, hfin, hd, hn, hfit⟩ := hft
  have he : (Cn2, T2, N2) = (Cn, T, N) := Option.some.inj (hc2.symm.trans hc)
  cases he
  have hin' : ∀ w ∈ u_ws Cn T N, w.before args s = true := fun w hw => X.hw (hin w hw) (mw_gw_lay Cn T N w hw)
  have hap := va_apart (own := d.1.cls) hin' (fun _ h => h) ty0 hty hnm X.hK.2.1 hc
  obtain ⟨r, h2, cell, q1, q2, q3, q4⟩ := h1
  have hr : r = (Cn, T, N) := Option.some.inj (h2.symm.trans hc)
  subst hr
  obtain ⟨hS, hfc, kC, hkC, hkind⟩ := X.hK.2.1.1 ci _ hc
  obtain ⟨cf, kf, fi, f, hi, hsl⟩ := hS k hk
  have hlay := hin' _ (u_in_lay hk)
  unfold u_lay at hlay
  rw [if_pos hfin] at hlay
  have hst := (u_facts hfc hkC (u_lays hin' (fun _ h => h) hk) hi).1
  have hcf : m.cls = cf := by
    obtain ⟨_, _, c', _, _, _, -, -, hf', -, -, -, hown2, -⟩ := Cond.laysFinal_spec hlay
    have e1 : c' = cf := by have := hi.symm.trans hf'; simp at this; exact this.1.symm
    rw [hdecl _ _ _ hc] at hown2
    rw [← e1]; exact Option.some.inj (X.hown.symm.trans hown2)
  have h6 := u_fits hfc hkC hkind (Or.inr hlay) hi hd hn hfit
  refine W.putFinK X.hx X.hb X.hown (X.hw hw rfl) hi hst hcf (X.hn.trans hini) (by rw [q2]; exact h6) q1 q3 (by rw [hsl]; exact k2_hasslot (q4 k hk)) rfl rfl (X.hd ha) fun H' e1 e2 e3 => ?_
  rw [hsl] at e1 ⊢
  have hone : mw_one a H H' := ⟨e2, e3⟩
  exact kk H' _ ls (hI1 H' hone ⟨_, hc, t_OB.to (V := updV (vp_V fs) k v) ⟨_, e1, q2, q3, t_set q4 hap hk v⟩ (fun j _ => vp_updV_set hlen v j)⟩) (hone.S hS0 hAa) hl
end KG
