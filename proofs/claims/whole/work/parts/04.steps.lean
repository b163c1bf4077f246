/-! instructions on locals and stack alone, run by computation -/
def mw_ld (lv : List (Nat × Value)) (st : List Value) (i npc : Nat) (ty : Nat) : Option (Nat × List (Nat × Value) × List Value) := match mw_lk lv i, ty with
  | some (.int x), 0 => some (npc, lv, .int x :: st)
  | some (.long x), 1 => some (npc, lv, .long x :: st)
  | some (.ref x), 2 => some (npc, lv, .ref x :: st)
  | some .null, 2 => some (npc, lv, .null :: st)
  | _, _ => none
def mw_sto (nL : Nat) (lv : List (Nat × Value)) (st : List Value) (i npc : Nat) (ty : Nat) : Option (Nat × List (Nat × Value) × List Value) := match st, ty with
  | .int x :: r, 0 => bif Nat.blt i nL then some (npc, mw_put1 lv i (.int x), r) else none
  | .long x :: r, 1 => bif Nat.blt (i + 1) nL then some (npc, mw_put2 lv i (.long x), r) else none
  | .ref x :: r, 2 => bif Nat.blt i nL then some (npc, mw_put1 lv i (.ref x), r) else none
  | .null :: r, 2 => bif Nat.blt i nL then some (npc, mw_put1 lv i .null, r) else none
  | _, _ => none
def mw_tg (pc : Nat) (off : Int) : Option Nat := match (pc : Int) + off with
  | .ofNat n => some n
  | .negSucc _ => none
theorem mw_tg_ok {pc n : Nat} {off : Int} (h : mw_tg pc off = some n) : (pc : Int) + off = (n : Int) := by
  unfold mw_tg at h
  cases hz : (pc : Int) + off with
  | ofNat k => rw [hz] at h; cases h; rfl
  | negSucc k => rw [hz] at h; cases h
def mw_ii (npc : Nat) (lv : List (Nat × Value)) (st : List Value) (f : Int32 → Int32 → Int32) : Option (Nat × List (Nat × Value) × List Value) := match st with
  | .int y :: .int x :: r => some (npc, lv, .int (f x y) :: r)
  | _ => none
def mw_ll (npc : Nat) (lv : List (Nat × Value)) (st : List Value) (f : Int64 → Int64 → Int64) : Option (Nat × List (Nat × Value) × List Value) := match st with
  | .long y :: .long x :: r => some (npc, lv, .long (f x y) :: r)
  | _ => none
def mw_s1 (nL : Nat) (ins : Instr) (len pc : Nat) (lv : List (Nat × Value)) (st : List Value) : Option (Nat × List (Nat × Value) × List Value) := match ins, len with
  | .iconst n, 1 => some (pc + 1, lv, .int (Int32.ofInt n) :: st)
  | .bipush n, 2 => some (pc + 2, lv, .int (Int8.ofInt n).toInt32 :: st)
  | .sipush n, 3 => some (pc + 3, lv, .int (Int16.ofInt n).toInt32 :: st)
  | .lconst n, 1 => some (pc + 1, lv, .long (Int64.ofNat (n : Nat)) :: st)
  | .iload_n k, 1 => mw_ld lv st (k : Nat) (pc + 1) 0
  | .iload i, 2 => mw_ld lv st i (pc + 2) 0
  | .istore_n k, 1 => mw_sto nL lv st (k : Nat) (pc + 1) 0
  | .istore i, 2 => mw_sto nL lv st i (pc + 2) 0
  | .lload_n k, 1 => mw_ld lv st (k : Nat) (pc + 1) 1
  | .lload i, 2 => mw_ld lv st i (pc + 2) 1
  | .lstore_n k, 1 => mw_sto nL lv st (k : Nat) (pc + 1) 1
  | .lstore i, 2 => mw_sto nL lv st i (pc + 2) 1
  | .aload_n k, 1 => mw_ld lv st (k : Nat) (pc + 1) 2
  | .aload i, 2 => mw_ld lv st i (pc + 2) 2
  | .astore_n k, 1 => mw_sto nL lv st (k : Nat) (pc + 1) 2
  | .astore i, 2 => mw_sto nL lv st i (pc + 2) 2
  | .iinc i n, 3 => (match mw_lk lv i with | some (.int x) => bif Nat.blt i nL then some (pc + 3, mw_put1 lv i (.int (x + Int32.ofInt n)), st) else none | _ => none)
  | .iadd, 1 => mw_ii (pc + 1) lv st (fun x y => x + y)
  | .isub, 1 => mw_ii (pc + 1) lv st (fun x y => x - y)
  | .imul, 1 => mw_ii (pc + 1) lv st (fun x y => x * y)
  | .iand, 1 => mw_ii (pc + 1) lv st (fun x y => x &&& y)
  | .ior, 1 => mw_ii (pc + 1) lv st (fun x y => x ||| y)
  | .ishl, 1 => mw_ii (pc + 1) lv st (fun x y => x <<< (y &&& 31))
  | .ishr, 1 => mw_ii (pc + 1) lv st (fun x y => x >>> (y &&& 31))
  | .ladd, 1 => mw_ll (pc + 1) lv st (fun x y => x + y)
  | .lsub, 1 => mw_ll (pc + 1) lv st (fun x y => x - y)
  | .lmul, 1 => mw_ll (pc + 1) lv st (fun x y => x * y)
  | .land, 1 => mw_ll (pc + 1) lv st (fun x y => x &&& y)
  | .lor, 1 => mw_ll (pc + 1) lv st (fun x y => x ||| y)
  | .lxor, 1 => mw_ll (pc + 1) lv st (fun x y => x ^^^ y)
  | .i2l, 1 => (match st with | .int x :: r => some (pc + 1, lv, .long x.toInt64 :: r) | _ => none)
  | .l2i, 1 => (match st with | .long x :: r => some (pc + 1, lv, .int x.toInt32 :: r) | _ => none)
  | .lushr, 1 => (match st with | .int y :: .long x :: r => some (pc + 1, lv, .long (x.toUInt64 >>> (y.toInt64.toUInt64 &&& Int64.toUInt64 63)).toInt64 :: r) | _ => none)
  | .lshl, 1 => (match st with | .int y :: .long x :: r => some (pc + 1, lv, .long (x <<< (y.toInt64 &&& 63)) :: r) | _ => none)
  | .lcmp, 1 => (match st with | .long y :: .long x :: r => some (pc + 1, lv, .int (lg_cmp x y) :: r) | _ => none)
  | .dup, 1 => (match st with | .int x :: r => some (pc + 1, lv, .int x :: .int x :: r) | .ref x :: r => some (pc + 1, lv, .ref x :: .ref x :: r) | _ => none)
  | .dup2, 1 => (match st with | .int y :: .ref x :: r => some (pc + 1, lv, .int y :: .ref x :: .int y :: .ref x :: r) | _ => none)
  | .pop, 1 => (match st with | .int x :: r => some (pc + 1, lv, r) | _ => none)
  | .goto off, 3 => (match mw_tg pc off with | some n => some (n, lv, st) | none => none)
  | _, _ => none
section PS
variable {p : Program} {l : Launch} {e : Env} {R : Room} {s : State} {m : MethodId} {args : Array Value} {below : List Frame} {meth : Method} {c : Code} {H : Heap} {locs : List Loc} {ce sl : Nat} {Q : State → Prop} {ls : Array Slot} {cc : ByteArray} {nL pc len pc' : Nat} {lv lv' : List (Nat × Value)} {st st' : List Value} {ins : Instr}
theorem mw_lk_at {v : Value} {i : Nat} (h : lv_has ls nL lv) (hk : mw_lk lv i = some v) : ls[i]? = some (.val v) := h.2.2 (i, v) (mw_lk_mem hk)
theorem mw_lk_get {v : Value} {i : Nat} (hk : mw_lk lv i = some v) : ∃ k : Nat, lv[k]? = some (i, v) := List.getElem?_of_mem (mw_lk_mem hk)
theorem mw_blt {a b : Nat} (h : Nat.blt a b = true) : a < b := by simpa [Nat.blt_eq] using h
theorem mw_w_iload_n (k : Fin 4) (hx : p.tables.exec = Jvm.exec) (hb : c.code = cc) (hd : decode cc pc = .ok (.iload_n k, 1)) (hl : lv_has ls nL lv) (h : mw_ld lv st (k : Nat) (pc + 1) 0 = some (pc', lv', st')) (kk : ∀ ls, lv_has ls nL lv' → W p l e R s m args below meth c H locs ce sl Q (F0 m pc' ls st')) : W p l e R s m args below meth c H locs ce sl Q (F0 m pc ls st) := by
  unfold mw_ld at h
  cases hk : mw_lk lv (k : Nat) with
  | none => rw [hk] at h; cases h
  | some v =>
    rw [hk] at h
    cases v with
    | int x => cases h; exact lv_iload_n hx hb hd rfl (mw_lk_at hl hk) (kk ls hl)
    | _ => cases h
theorem mw_w_iload (k : Nat) (hx : p.tables.exec = Jvm.exec) (hb : c.code = cc) (hd : decode cc pc = .ok (.iload k, 2)) (hl : lv_has ls nL lv) (h : mw_ld lv st (k : Nat) (pc + 2) 0 = some (pc', lv', st')) (kk : ∀ ls, lv_has ls nL lv' → W p l e R s m args below meth c H locs ce sl Q (F0 m pc' ls st')) : W p l e R s m args below meth c H locs ce sl Q (F0 m pc ls st) := by
  unfold mw_ld at h
  cases hk : mw_lk lv (k : Nat) with
  | none => rw [hk] at h; cases h
  | some v =>
    rw [hk] at h
    cases v with
    | int x => cases h; exact lv_iload hx hb hd (mw_lk_at hl hk) (kk ls hl)
    | _ => cases h
theorem mw_w_lload_n (k : Fin 4) (hx : p.tables.exec = Jvm.exec) (hb : c.code = cc) (hd : decode cc pc = .ok (.lload_n k, 1)) (hl : lv_has ls nL lv) (h : mw_ld lv st (k : Nat) (pc + 1) 1 = some (pc', lv', st')) (kk : ∀ ls, lv_has ls nL lv' → W p l e R s m args below meth c H locs ce sl Q (F0 m pc' ls st')) : W p l e R s m args below meth c H locs ce sl Q (F0 m pc ls st) := by
  unfold mw_ld at h
  cases hk : mw_lk lv (k : Nat) with
  | none => rw [hk] at h; cases h
  | some v =>
    rw [hk] at h
    cases v with
    | long x => cases h; exact lv_lload_n hx hb hd rfl (mw_lk_at hl hk) (kk ls hl)
    | _ => cases h
theorem mw_w_lload (k : Nat) (hx : p.tables.exec = Jvm.exec) (hb : c.code = cc) (hd : decode cc pc = .ok (.lload k, 2)) (hl : lv_has ls nL lv) (h : mw_ld lv st (k : Nat) (pc + 2) 1 = some (pc', lv', st')) (kk : ∀ ls, lv_has ls nL lv' → W p l e R s m args below meth c H locs ce sl Q (F0 m pc' ls st')) : W p l e R s m args below meth c H locs ce sl Q (F0 m pc ls st) := by
  unfold mw_ld at h
  cases hk : mw_lk lv (k : Nat) with
  | none => rw [hk] at h; cases h
  | some v =>
    rw [hk] at h
    cases v with
    | long x => cases h; exact lv_lload hx hb hd (mw_lk_at hl hk) (kk ls hl)
    | _ => cases h
theorem mw_w_aload_n (k : Fin 4) (hx : p.tables.exec = Jvm.exec) (hb : c.code = cc) (hd : decode cc pc = .ok (.aload_n k, 1)) (hl : lv_has ls nL lv) (h : mw_ld lv st (k : Nat) (pc + 1) 2 = some (pc', lv', st')) (kk : ∀ ls, lv_has ls nL lv' → W p l e R s m args below meth c H locs ce sl Q (F0 m pc' ls st')) : W p l e R s m args below meth c H locs ce sl Q (F0 m pc ls st) := by
  unfold mw_ld at h
  cases hk : mw_lk lv (k : Nat) with
  | none => rw [hk] at h; cases h
  | some v =>
    rw [hk] at h
    cases v with
    | ref x => cases h; exact lv_aload_n hx hb hd rfl (mw_lk_at hl hk) (kk ls hl)
    | null => cases h; exact lv_aload_nN hx hb hd rfl (mw_lk_at hl hk) (kk ls hl)
    | _ => cases h
theorem mw_w_aload (k : Nat) (hx : p.tables.exec = Jvm.exec) (hb : c.code = cc) (hd : decode cc pc = .ok (.aload k, 2)) (hl : lv_has ls nL lv) (h : mw_ld lv st (k : Nat) (pc + 2) 2 = some (pc', lv', st')) (kk : ∀ ls, lv_has ls nL lv' → W p l e R s m args below meth c H locs ce sl Q (F0 m pc' ls st')) : W p l e R s m args below meth c H locs ce sl Q (F0 m pc ls st) := by
  unfold mw_ld at h
  cases hk : mw_lk lv (k : Nat) with
  | none => rw [hk] at h; cases h
  | some v =>
    rw [hk] at h
    cases v with
    | ref x => cases h; exact lv_aload hx hb hd (mw_lk_at hl hk) (kk ls hl)
    | null => cases h; exact lv_aloadN hx hb hd (mw_lk_at hl hk) (kk ls hl)
    | _ => cases h
theorem mw_w_istore_n (k : Fin 4) (hx : p.tables.exec = Jvm.exec) (hb : c.code = cc) (hd : decode cc pc = .ok (.istore_n k, 1)) (hl : lv_has ls nL lv) (h : mw_sto nL lv st (k : Nat) (pc + 1) 0 = some (pc', lv', st')) (kk : ∀ ls, lv_has ls nL lv' → W p l e R s m args below meth c H locs ce sl Q (F0 m pc' ls st')) : W p l e R s m args below meth c H locs ce sl Q (F0 m pc ls st) := by
  cases st with
  | nil => cases h
  | cons v r =>
    cases v with
    | int x =>
      replace h : (bif Nat.blt ((k : Nat)) nL then some (pc + 1, mw_put1 lv (k : Nat) (.int x), r) else none) = some (pc', lv', st') := h
      cases hn : Nat.blt ((k : Nat)) nL with
      | false => rw [hn] at h; cases h
      | true => rw [hn] at h; cases h; exact lv_istore_n hx hb hd rfl hl (mw_blt hn) rfl kk
    | _ => cases h
theorem mw_w_istore (k : Nat) (hx : p.tables.exec = Jvm.exec) (hb : c.code = cc) (hd : decode cc pc = .ok (.istore k, 2)) (hl : lv_has ls nL lv) (h : mw_sto nL lv st (k : Nat) (pc + 2) 0 = some (pc', lv', st')) (kk : ∀ ls, lv_has ls nL lv' → W p l e R s m args below meth c H locs ce sl Q (F0 m pc' ls st')) : W p l e R s m args below meth c H locs ce sl Q (F0 m pc ls st) := by
  cases st with
  | nil => cases h
  | cons v r =>
    cases v with
    | int x =>
      replace h : (bif Nat.blt ((k : Nat)) nL then some (pc + 2, mw_put1 lv (k : Nat) (.int x), r) else none) = some (pc', lv', st') := h
      cases hn : Nat.blt ((k : Nat)) nL with
      | false => rw [hn] at h; cases h
      | true => rw [hn] at h; cases h; exact lv_istore hx hb hd hl (mw_blt hn) rfl kk
    | _ => cases h
theorem mw_w_lstore_n (k : Fin 4) (hx : p.tables.exec = Jvm.exec) (hb : c.code = cc) (hd : decode cc pc = .ok (.lstore_n k, 1)) (hl : lv_has ls nL lv) (h : mw_sto nL lv st (k : Nat) (pc + 1) 1 = some (pc', lv', st')) (kk : ∀ ls, lv_has ls nL lv' → W p l e R s m args below meth c H locs ce sl Q (F0 m pc' ls st')) : W p l e R s m args below meth c H locs ce sl Q (F0 m pc ls st) := by
  cases st with
  | nil => cases h
  | cons v r =>
    cases v with
    | long x =>
      replace h : (bif Nat.blt ((k : Nat) + 1) nL then some (pc + 1, mw_put2 lv (k : Nat) (.long x), r) else none) = some (pc', lv', st') := h
      cases hn : Nat.blt ((k : Nat) + 1) nL with
      | false => rw [hn] at h; cases h
      | true => rw [hn] at h; cases h; exact lv_lstore_n hx hb hd rfl hl (mw_blt hn) rfl kk
    | _ => cases h
theorem mw_w_lstore (k : Nat) (hx : p.tables.exec = Jvm.exec) (hb : c.code = cc) (hd : decode cc pc = .ok (.lstore k, 2)) (hl : lv_has ls nL lv) (h : mw_sto nL lv st (k : Nat) (pc + 2) 1 = some (pc', lv', st')) (kk : ∀ ls, lv_has ls nL lv' → W p l e R s m args below meth c H locs ce sl Q (F0 m pc' ls st')) : W p l e R s m args below meth c H locs ce sl Q (F0 m pc ls st) := by
  cases st with
  | nil => cases h
  | cons v r =>
    cases v with
    | long x =>
      replace h : (bif Nat.blt ((k : Nat) + 1) nL then some (pc + 2, mw_put2 lv (k : Nat) (.long x), r) else none) = some (pc', lv', st') := h
      cases hn : Nat.blt ((k : Nat) + 1) nL with
      | false => rw [hn] at h; cases h
      | true => rw [hn] at h; cases h; exact lv_lstore hx hb hd hl (mw_blt hn) rfl kk
    | _ => cases h
theorem mw_w_astore_n (k : Fin 4) (hx : p.tables.exec = Jvm.exec) (hb : c.code = cc) (hd : decode cc pc = .ok (.astore_n k, 1)) (hl : lv_has ls nL lv) (h : mw_sto nL lv st (k : Nat) (pc + 1) 2 = some (pc', lv', st')) (kk : ∀ ls, lv_has ls nL lv' → W p l e R s m args below meth c H locs ce sl Q (F0 m pc' ls st')) : W p l e R s m args below meth c H locs ce sl Q (F0 m pc ls st) := by
  cases st with
  | nil => cases h
  | cons v r =>
    cases v with
    | ref x =>
      replace h : (bif Nat.blt ((k : Nat)) nL then some (pc + 1, mw_put1 lv (k : Nat) (.ref x), r) else none) = some (pc', lv', st') := h
      cases hn : Nat.blt ((k : Nat)) nL with
      | false => rw [hn] at h; cases h
      | true => rw [hn] at h; cases h; exact lv_astore_n hx hb hd rfl hl (mw_blt hn) rfl kk
    | null =>
      replace h : (bif Nat.blt ((k : Nat)) nL then some (pc + 1, mw_put1 lv (k : Nat) (.null), r) else none) = some (pc', lv', st') := h
      cases hn : Nat.blt ((k : Nat)) nL with
      | false => rw [hn] at h; cases h
      | true => rw [hn] at h; cases h; exact lv_astore_nN hx hb hd rfl hl (mw_blt hn) rfl kk
    | _ => cases h
theorem mw_w_astore (k : Nat) (hx : p.tables.exec = Jvm.exec) (hb : c.code = cc) (hd : decode cc pc = .ok (.astore k, 2)) (hl : lv_has ls nL lv) (h : mw_sto nL lv st (k : Nat) (pc + 2) 2 = some (pc', lv', st')) (kk : ∀ ls, lv_has ls nL lv' → W p l e R s m args below meth c H locs ce sl Q (F0 m pc' ls st')) : W p l e R s m args below meth c H locs ce sl Q (F0 m pc ls st) := by
  cases st with
  | nil => cases h
  | cons v r =>
    cases v with
    | ref x =>
      replace h : (bif Nat.blt ((k : Nat)) nL then some (pc + 2, mw_put1 lv (k : Nat) (.ref x), r) else none) = some (pc', lv', st') := h
      cases hn : Nat.blt ((k : Nat)) nL with
      | false => rw [hn] at h; cases h
      | true => rw [hn] at h; cases h; exact lv_astore hx hb hd hl (mw_blt hn) rfl kk
    | null =>
      replace h : (bif Nat.blt ((k : Nat)) nL then some (pc + 2, mw_put1 lv (k : Nat) (.null), r) else none) = some (pc', lv', st') := h
      cases hn : Nat.blt ((k : Nat)) nL with
      | false => rw [hn] at h; cases h
      | true => rw [hn] at h; cases h; exact lv_astoreN hx hb hd hl (mw_blt hn) rfl kk
    | _ => cases h
theorem mw_w_iinc {i : Nat} {n : Int} (hx : p.tables.exec = Jvm.exec) (hb : c.code = cc) (hd : decode cc pc = .ok (.iinc i n, 3)) (hl : lv_has ls nL lv) (h : mw_s1 nL (.iinc i n) 3 pc lv st = some (pc', lv', st')) (kk : ∀ ls, lv_has ls nL lv' → W p l e R s m args below meth c H locs ce sl Q (F0 m pc' ls st')) : W p l e R s m args below meth c H locs ce sl Q (F0 m pc ls st) := by
  replace h : (match mw_lk lv i with | some (.int x) => bif Nat.blt i nL then some (pc + 3, mw_put1 lv i (.int (x + Int32.ofInt n)), st) else none | _ => none) = some (pc', lv', st') := h
  cases hk : mw_lk lv i with
  | none => rw [hk] at h; cases h
  | some v =>
    rw [hk] at h
    cases v with
    | int x =>
      replace h : (bif Nat.blt i nL then some (pc + 3, mw_put1 lv i (.int (x + Int32.ofInt n)), st) else none) = some (pc', lv', st') := h
      cases hn : Nat.blt i nL with
      | false => rw [hn] at h; cases h
      | true =>
        rw [hn] at h
        cases h
        obtain ⟨k, hk2⟩ := mw_lk_get hk
        exact lv_iinc hx hb hd hl hk2 rfl (mw_blt hn) rfl kk
    | _ => cases h
theorem mw_w_ii {f : Int32 → Int32 → Int32} {npc : Nat} (h : mw_ii npc lv st f = some (pc', lv', st')) : ∃ x y r, st = .int y :: .int x :: r ∧ pc' = npc ∧ lv' = lv ∧ st' = .int (f x y) :: r := by
  cases st with
  | nil => cases h
  | cons v r =>
    cases v with
    | int y =>
      cases r with
      | nil => cases h
      | cons v r =>
        cases v with
        | int x => cases h; exact ⟨x, y, r, rfl, rfl, rfl, rfl⟩
        | _ => cases h
    | _ => cases r <;> cases h
theorem mw_w_ll {f : Int64 → Int64 → Int64} {npc : Nat} (h : mw_ll npc lv st f = some (pc', lv', st')) : ∃ x y r, st = .long y :: .long x :: r ∧ pc' = npc ∧ lv' = lv ∧ st' = .long (f x y) :: r := by
  cases st with
  | nil => cases h
  | cons v r =>
    cases v with
    | long y =>
      cases r with
      | nil => cases h
      | cons v r =>
        cases v with
        | long x => cases h; exact ⟨x, y, r, rfl, rfl, rfl, rfl⟩
        | _ => cases h
    | _ => cases r <;> cases h
set_option maxHeartbeats 4000000 in
theorem mw_s1_ok (hx : p.tables.exec = Jvm.exec) (hb : c.code = cc) (hd : decode cc pc = .ok (ins, len)) (hl : lv_has ls nL lv) (h : mw_s1 nL ins len pc lv st = some (pc', lv', st')) (kk : ∀ ls, lv_has ls nL lv' → W p l e R s m args below meth c H locs ce sl Q (F0 m pc' ls st')) : W p l e R s m args below meth c H locs ce sl Q (F0 m pc ls st) := by
  unfold mw_s1 at h
  split at h
  · cases h; exact lv_iconst hx hb hd rfl (kk ls hl)
  · cases h; exact lv_bipush hx hb hd rfl (kk ls hl)
  · cases h; exact lv_sipush hx hb hd rfl (kk ls hl)
  · cases h; exact lv_lconst hx hb hd rfl (kk ls hl)
  · exact mw_w_iload_n _ hx hb hd hl h kk
  · exact mw_w_iload _ hx hb hd hl h kk
  · exact mw_w_istore_n _ hx hb hd hl h kk
  · exact mw_w_istore _ hx hb hd hl h kk
  · exact mw_w_lload_n _ hx hb hd hl h kk
  · exact mw_w_lload _ hx hb hd hl h kk
  · exact mw_w_lstore_n _ hx hb hd hl h kk
  · exact mw_w_lstore _ hx hb hd hl h kk
  · exact mw_w_aload_n _ hx hb hd hl h kk
  · exact mw_w_aload _ hx hb hd hl h kk
  · exact mw_w_astore_n _ hx hb hd hl h kk
  · exact mw_w_astore _ hx hb hd hl h kk
  · exact mw_w_iinc hx hb hd hl h kk
  · obtain ⟨x, y, r, rfl, rfl, rfl, rfl⟩ := mw_w_ii h; exact lv_iadd hx hb hd (kk ls hl)
  · obtain ⟨x, y, r, rfl, rfl, rfl, rfl⟩ := mw_w_ii h; exact lv_isub hx hb hd (kk ls hl)
  · obtain ⟨x, y, r, rfl, rfl, rfl, rfl⟩ := mw_w_ii h; exact lv_imul hx hb hd (kk ls hl)
  · obtain ⟨x, y, r, rfl, rfl, rfl, rfl⟩ := mw_w_ii h; exact lv_iand hx hb hd (kk ls hl)
  · obtain ⟨x, y, r, rfl, rfl, rfl, rfl⟩ := mw_w_ii h; exact lv_ior hx hb hd (kk ls hl)
  · obtain ⟨x, y, r, rfl, rfl, rfl, rfl⟩ := mw_w_ii h; exact lv_ishl hx hb hd (kk ls hl)
  · obtain ⟨x, y, r, rfl, rfl, rfl, rfl⟩ := mw_w_ii h; exact lv_ishr hx hb hd (kk ls hl)
  · obtain ⟨x, y, r, rfl, rfl, rfl, rfl⟩ := mw_w_ll h; exact lv_ladd hx hb hd (kk ls hl)
  · obtain ⟨x, y, r, rfl, rfl, rfl, rfl⟩ := mw_w_ll h; exact lv_lsub hx hb hd (kk ls hl)
  · obtain ⟨x, y, r, rfl, rfl, rfl, rfl⟩ := mw_w_ll h; exact lv_lmul hx hb hd (kk ls hl)
  · obtain ⟨x, y, r, rfl, rfl, rfl, rfl⟩ := mw_w_ll h; exact lv_land hx hb hd (kk ls hl)
  · obtain ⟨x, y, r, rfl, rfl, rfl, rfl⟩ := mw_w_ll h; exact lv_lor hx hb hd (kk ls hl)
  · obtain ⟨x, y, r, rfl, rfl, rfl, rfl⟩ := mw_w_ll h; exact lv_lxor hx hb hd (kk ls hl)
  · split at h
    · cases h; exact lv_i2l hx hb hd rfl (kk ls hl)
    · cases h
  · split at h
    · cases h; exact lv_l2i hx hb hd rfl (kk ls hl)
    · cases h
  · split at h
    · cases h; exact lv_lushr hx hb hd rfl (kk ls hl)
    · cases h
  · split at h
    · cases h; exact lv_lshl hx hb hd rfl (kk ls hl)
    · cases h
  · split at h
    · cases h; exact W.lcmp hx hb hd (kk ls hl)
    · cases h
  · split at h
    · cases h; exact lv_dup hx hb hd rfl (kk ls hl)
    · cases h; exact lv_dup hx hb hd rfl (kk ls hl)
    · cases h
  · split at h
    · cases h; exact lv_dup2_11 hx hb hd rfl rfl (kk ls hl)
    · cases h
  · split at h
    · cases h; exact lv_pop hx hb hd rfl (kk ls hl)
    · cases h
  · split at h
    · next n hn => cases h; exact lv_goto hx hb hd (mw_tg_ok hn) (kk ls hl)
    · cases h
  · cases h
end PS
