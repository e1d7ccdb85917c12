/-! THE SMALL MACHINE: values with addresses counted from the world's first cell; a constant text is a retAddr -/
def mj_v (z : Nat) (g : Nat → Nat) : Value → Value
  | .ref a => .ref (z + a)
  | .retAddr k => .ref (g k)
  | v => v
theorem mj_v_cat (z : Nat) (g : Nat → Nat) (v : Value) : (mj_v z g v).category = v.category := by cases v <;> rfl
def mj_rf : Option Nat → Value
  | none => .null
  | some a => .ref a
abbrev mj_L : Type := List (Option Value)
/-- the locals of the small machine stand in the machine's own -/
def mj_ls (z : Nat) (g : Nat → Nat) (ls : mj_L) (A : Array Slot) : Prop :=
  A.size = ls.length ∧ lv_wf A ∧ ∀ (i : Nat) (v : Value), ls[i]? = some (some v) → A[i]? = some (.val (mj_v z g v))
def mj_isL : Option Value → Bool
  | some (.long _) => true
  | some (.double _) => true
  | _ => false
def mj_cl1 (ls : mj_L) (i : Nat) : mj_L := match i with
  | 0 => ls
  | k + 1 => if mj_isL ((ls[k]?).join) then ls.set k none else ls
def mj_st1 (ls : mj_L) (i : Nat) (v : Value) : mj_L := (mj_cl1 ls i).set i (some v)
def mj_st2 (ls : mj_L) (i : Nat) (v : Value) : mj_L := ((mj_cl1 ls i).set i (some v)).set (i + 1) none
def mj_al1 (z : Nat) (g : Nat → Nat) (ls : mj_L) (i : Nat) : Option (Nat × Value) := match ls[i]? with
  | some (some v) => some (i, mj_v z g v)
  | _ => none
def mj_al (z : Nat) (g : Nat → Nat) (ls : mj_L) : List (Nat × Value) := (List.range ls.length).filterMap (mj_al1 z g ls)
theorem mj_al_mem {z : Nat} {g : Nat → Nat} {ls : mj_L} {i : Nat} {v : Value} (h : ls[i]? = some (some v)) : (i, mj_v z g v) ∈ mj_al z g ls := by
  refine List.mem_filterMap.mpr ⟨i, List.mem_range.mpr (List.getElem?_eq_some_iff.mp h).1, ?_⟩
  simp [mj_al1, h]
theorem mj_al_at {z : Nat} {g : Nat → Nat} {ls : mj_L} {q : Nat × Value} (h : q ∈ mj_al z g ls) : ∃ v, ls[q.1]? = some (some v) ∧ q.2 = mj_v z g v := by
  obtain ⟨i, -, hi⟩ := List.mem_filterMap.mp h
  unfold mj_al1 at hi
  split at hi
  · rename_i v hv
    cases hi
    exact ⟨v, hv, rfl⟩
  · cases hi
theorem mj_has {z : Nat} {g : Nat → Nat} {ls : mj_L} {A : Array Slot} (h : mj_ls z g ls A) : lv_has A ls.length (mj_al z g ls) := by
  refine ⟨h.1, h.2.1, fun q hq => ?_⟩
  obtain ⟨v, h1, h2⟩ := mj_al_at hq
  rw [h2]
  exact h.2.2 _ _ h1
theorem mj_cl1_len (ls : mj_L) (i : Nat) : (mj_cl1 ls i).length = ls.length := by
  unfold mj_cl1
  split
  · rfl
  · split <;> simp
theorem mj_isL_cat {v : Value} (h : mj_isL (some v) = false) : ¬ v.category = 2 := by
  cases v <;> simp_all [mj_isL, Value.category]
theorem mj_cl1_at {ls : mj_L} {i k : Nat} {v : Value} (h : (mj_cl1 ls i)[k]? = some (some v)) : ls[k]? = some (some v) ∧ (k + 1 = i → ¬ v.category = 2) := by
  unfold mj_cl1 at h
  split at h
  · exact ⟨h, fun e => by omega⟩
  · rename_i k0
    split at h
    · by_cases e : k = k0
      · subst e
        by_cases hl : k < ls.length
        · rw [List.getElem?_set_self hl] at h
          cases h
        · rw [List.getElem?_eq_none (by simp; omega)] at h
          cases h
      · rw [List.getElem?_set_ne (Ne.symm e)] at h
        exact ⟨h, fun q => by omega⟩
    · rename_i hL
      refine ⟨h, fun q => ?_⟩
      have e : k = k0 := by omega
      subst e
      rw [h] at hL
      exact mj_isL_cat (by simpa using hL)
theorem mj_of1 {z : Nat} {g : Nat → Nat} {ls : mj_L} {A : Array Slot} {i : Nat} {v : Value} (h : lv_has A ls.length ((i, mj_v z g v) :: (mj_al z g ls).filter (fun q => !(q.1 == i) && !(q.1 + 1 == i && q.2.category == 2)))) : mj_ls z g (mj_st1 ls i v) A := by
  refine ⟨by rw [h.1]; simp [mj_st1, mj_cl1_len], h.2.1, fun k w hk => ?_⟩
  unfold mj_st1 at hk
  by_cases e : k = i
  · subst e
    by_cases hl : k < (mj_cl1 ls k).length
    · rw [List.getElem?_set_self hl] at hk
      cases hk
      exact h.2.2 _ List.mem_cons_self
    · rw [List.getElem?_eq_none (by simp; omega)] at hk
      cases hk
  · rw [List.getElem?_set_ne (Ne.symm e)] at hk
    obtain ⟨h1, h2⟩ := mj_cl1_at hk
    refine h.2.2 (k, mj_v z g w) (List.mem_cons_of_mem _ (List.mem_filter.mpr ⟨mj_al_mem h1, ?_⟩))
    by_cases h3 : k + 1 = i
    · have h4 := h2 h3
      simp [e, mj_v_cat, h4]
    · simp [e, h3]
theorem mj_of2 {z : Nat} {g : Nat → Nat} {ls : mj_L} {A : Array Slot} {i : Nat} {v : Value} (h : lv_has A ls.length ((i, mj_v z g v) :: (mj_al z g ls).filter (fun q => !(q.1 == i) && (!(q.1 == i + 1) && !(q.1 + 1 == i && q.2.category == 2))))) : mj_ls z g (mj_st2 ls i v) A := by
  refine ⟨by rw [h.1]; simp [mj_st2, mj_cl1_len], h.2.1, fun k w hk => ?_⟩
  unfold mj_st2 at hk
  by_cases e1 : k = i + 1
  · subst e1
    by_cases hl : i + 1 < ((mj_cl1 ls i).set i (some v)).length
    · rw [List.getElem?_set_self hl] at hk
      cases hk
    · rw [List.getElem?_eq_none (by simp at hl ⊢; omega)] at hk
      cases hk
  · rw [List.getElem?_set_ne (Ne.symm e1)] at hk
    by_cases e : k = i
    · subst e
      by_cases hl : k < (mj_cl1 ls k).length
      · rw [List.getElem?_set_self hl] at hk
        cases hk
        exact h.2.2 _ List.mem_cons_self
      · rw [List.getElem?_eq_none (by simp; omega)] at hk
        cases hk
    · rw [List.getElem?_set_ne (Ne.symm e)] at hk
      obtain ⟨h1, h2⟩ := mj_cl1_at hk
      refine h.2.2 (k, mj_v z g w) (List.mem_cons_of_mem _ (List.mem_filter.mpr ⟨mj_al_mem h1, ?_⟩))
      by_cases h3 : k + 1 = i
      · have h4 := h2 h3
        simp [e, e1, mj_v_cat, h4]
      · simp [e, e1, h3]
/-- fewer known locals -/
theorem mj_ls_le {z : Nat} {g : Nat → Nat} {ls ls' : mj_L} {A : Array Slot} (h : mj_ls z g ls A) (hl : ls'.length = ls.length) (hs : ∀ (i : Nat) (v : Value), ls'[i]? = some (some v) → ls[i]? = some (some v)) : mj_ls z g ls' A :=
  ⟨by rw [hl]; exact h.1, h.2.1, fun i v hi => h.2.2 i v (hs i v hi)⟩
def mj_clear (is : List Nat) (ls : mj_L) : mj_L := is.foldl (fun l i => l.set i none) ls
theorem mj_set_none {ls : mj_L} {i k : Nat} {v : Value} (h : (ls.set i none)[k]? = some (some v)) : ls[k]? = some (some v) := by
  by_cases e : k = i
  · subst e
    by_cases hl : k < ls.length
    · rw [List.getElem?_set_self hl] at h
      cases h
    · rw [List.getElem?_eq_none (by simp; omega)] at h
      cases h
  · rw [List.getElem?_set_ne (Ne.symm e)] at h
    exact h
theorem mj_clear_len : ∀ (is : List Nat) (ls : mj_L), (mj_clear is ls).length = ls.length
  | [], _ => rfl
  | i :: is, ls => by
    show (mj_clear is (ls.set i none)).length = _
    rw [mj_clear_len is]
    simp
theorem mj_clear_at : ∀ (is : List Nat) (ls : mj_L) (k : Nat) (v : Value), (mj_clear is ls)[k]? = some (some v) → ls[k]? = some (some v)
  | [], _, _, _, h => h
  | i :: is, ls, k, v, h => mj_set_none (mj_clear_at is (ls.set i none) k v h)
theorem mj_ls_clear {z : Nat} {g : Nat → Nat} {ls : mj_L} {A : Array Slot} (h : mj_ls z g ls A) (is : List Nat) : mj_ls z g (mj_clear is ls) A :=
  mj_ls_le h (mj_clear_len is ls) (mj_clear_at is ls)
-- ===== pure instructions: the stack alone =====
def mj_ii (f : Int32 → Int32 → Option Value) : List Value → Option (List Value)
  | .int y :: .int x :: r => (f x y).map (· :: r)
  | _ => none
def mj_jj (f : Int64 → Int64 → Option Value) : List Value → Option (List Value)
  | .long y :: .long x :: r => (f x y).map (· :: r)
  | _ => none
def mj_ji (f : Int64 → Int32 → Option Value) : List Value → Option (List Value)
  | .int y :: .long x :: r => (f x y).map (· :: r)
  | _ => none
def mj_i1 (f : Int32 → Value) : List Value → Option (List Value)
  | .int x :: r => some (f x :: r)
  | _ => none
def mj_j1 (f : Int64 → Value) : List Value → Option (List Value)
  | .long x :: r => some (f x :: r)
  | _ => none
theorem mj_ii_inv {f : Int32 → Int32 → Option Value} {st st' : List Value} (h : mj_ii f st = some st') : ∃ x y r v, st = .int y :: .int x :: r ∧ f x y = some v ∧ st' = v :: r := by
  unfold mj_ii at h
  split at h
  · rename_i y x r
    cases hf : f x y with
    | none => rw [hf] at h; cases h
    | some v => rw [hf] at h; cases h; exact ⟨x, y, r, v, rfl, hf, rfl⟩
  · cases h
theorem mj_jj_inv {f : Int64 → Int64 → Option Value} {st st' : List Value} (h : mj_jj f st = some st') : ∃ x y r v, st = .long y :: .long x :: r ∧ f x y = some v ∧ st' = v :: r := by
  unfold mj_jj at h
  split at h
  · rename_i y x r
    cases hf : f x y with
    | none => rw [hf] at h; cases h
    | some v => rw [hf] at h; cases h; exact ⟨x, y, r, v, rfl, hf, rfl⟩
  · cases h
theorem mj_ji_inv {f : Int64 → Int32 → Option Value} {st st' : List Value} (h : mj_ji f st = some st') : ∃ x y r v, st = .int y :: .long x :: r ∧ f x y = some v ∧ st' = v :: r := by
  unfold mj_ji at h
  split at h
  · rename_i y x r
    cases hf : f x y with
    | none => rw [hf] at h; cases h
    | some v => rw [hf] at h; cases h; exact ⟨x, y, r, v, rfl, hf, rfl⟩
  · cases h
theorem mj_i1_inv {f : Int32 → Value} {st st' : List Value} (h : mj_i1 f st = some st') : ∃ x r, st = .int x :: r ∧ st' = f x :: r := by
  unfold mj_i1 at h
  split at h
  · rename_i x r; cases h; exact ⟨x, r, rfl, rfl⟩
  · cases h
theorem mj_j1_inv {f : Int64 → Value} {st st' : List Value} (h : mj_j1 f st = some st') : ∃ x r, st = .long x :: r ∧ st' = f x :: r := by
  unfold mj_j1 at h
  split at h
  · rename_i x r; cases h; exact ⟨x, r, rfl, rfl⟩
  · cases h
def mj_c1 (v : Value) : Bool := v.category == 1
def mj_pure (I : Instr) (st : List Value) : Option (List Value) := match I with
  | .iconst n => some (.int (Int32.ofInt n) :: st)
  | .lconst n => some (.long (Int64.ofNat (n : Nat)) :: st)
  | .aconst_null => some (.null :: st)
  | .iadd => mj_ii (fun x y => some (.int (x + y))) st
  | .isub => mj_ii (fun x y => some (.int (x - y))) st
  | .imul => mj_ii (fun x y => some (.int (x * y))) st
  | .iand => mj_ii (fun x y => some (.int (x &&& y))) st
  | .ior => mj_ii (fun x y => some (.int (x ||| y))) st
  | .ixor => mj_ii (fun x y => some (.int (x ^^^ y))) st
  | .ishl => mj_ii (fun x y => some (.int (x <<< (y &&& 31)))) st
  | .ishr => mj_ii (fun x y => some (.int (x >>> (y &&& 31)))) st
  | .iushr => mj_ii (fun x y => some (.int (x.toUInt32 >>> (y.toUInt32 &&& Int32.toUInt32 31)).toInt32)) st
  | .idiv => mj_ii (fun x y => if y = 0 then none else some (.int (x / y))) st
  | .irem => mj_ii (fun x y => if y = 0 then none else some (.int (x - x / y * y))) st
  | .ineg => mj_i1 (fun x => .int (-x)) st
  | .ladd => mj_jj (fun x y => some (.long (x + y))) st
  | .lsub => mj_jj (fun x y => some (.long (x - y))) st
  | .lmul => mj_jj (fun x y => some (.long (x * y))) st
  | .land => mj_jj (fun x y => some (.long (x &&& y))) st
  | .lor => mj_jj (fun x y => some (.long (x ||| y))) st
  | .lxor => mj_jj (fun x y => some (.long (x ^^^ y))) st
  | .lcmp => mj_jj (fun x y => some (.int (lg_cmp x y))) st
  | .lshl => mj_ji (fun x y => some (.long (x <<< (y.toInt64 &&& 63)))) st
  | .lshr => mj_ji (fun x y => some (.long (x >>> (y.toInt64 &&& 63)))) st
  | .lushr => mj_ji (fun x y => some (.long (x.toUInt64 >>> (y.toInt64.toUInt64 &&& Int64.toUInt64 63)).toInt64)) st
  | .i2l => mj_i1 (fun x => .long x.toInt64) st
  | .l2i => mj_j1 (fun x => .int x.toInt32) st
  | .i2b => mj_i1 (fun x => .int x.toInt8.toInt32) st
  | .i2s => mj_i1 (fun x => .int x.toInt16.toInt32) st
  | .i2c => mj_i1 (fun x => .int (x.toUInt32 % 65536).toInt32) st
  | .dup => match st with
    | a :: r => if mj_c1 a then some (a :: a :: r) else none
    | _ => none
  | .pop => match st with
    | a :: r => if mj_c1 a then some r else none
    | _ => none
  | .dup_x1 => match st with
    | a :: b :: r => if mj_c1 a && mj_c1 b then some (a :: b :: a :: r) else none
    | _ => none
  | .dup_x2 => match st with
    | a :: b :: d :: r => if mj_c1 a && mj_c1 b && mj_c1 d then some (a :: b :: d :: a :: r) else none
    | _ => none
  | .dup2 => match st with
    | .long x :: r => some (.long x :: .long x :: r)
    | a :: b :: r => if mj_c1 a && mj_c1 b then some (a :: b :: a :: b :: r) else none
    | _ => none
  | .dup2_x1 => match st with
    | .long x :: b :: r => if mj_c1 b then some (.long x :: b :: .long x :: r) else none
    | _ => none
  | .dup2_x2 => match st with
    | .long x :: b :: d :: r => if mj_c1 b && mj_c1 d then some (.long x :: b :: d :: .long x :: r) else none
    | _ => none
  | _ => none
theorem mj_c1_cat {z : Nat} {g : Nat → Nat} {v : Value} (h : mj_c1 v = true) : (mj_v z g v).category = 1 := by
  rw [mj_v_cat]
  simpa [mj_c1] using h
section MJP
variable {p : Program} {l : Launch} {e : Env} {R : Room} {s : State} {m : MethodId} {args : Array Value} {below : List Frame} {meth : Method} {c : Code} {H : Heap} {locs : List Loc} {cells slots : Nat} {Q : State → Prop}
variable {cc : ByteArray} {pc : Nat} {A : Array Slot} {z : Nat} {g : Nat → Nat}
theorem mj_pure_ok (hx : p.tables.exec = Jvm.exec) (hb : c.code = cc) {I : Instr} {st st' : List Value} (hp : mj_pure I st = some st') (hd : decode cc pc = .ok (I, 1))
    (k : W p l e R s m args below meth c H locs cells slots Q (F0 m (pc + 1) A (st'.map (mj_v z g)))) : W p l e R s m args below meth c H locs cells slots Q (F0 m pc A (st.map (mj_v z g))) := by
  cases I
  case iconst n => cases hp; exact lv_iconst hx hb hd rfl k
  case lconst n => cases hp; exact lv_lconst hx hb hd rfl k
  case aconst_null => cases hp; exact lv_null hx hb hd k
  case iadd => obtain ⟨x, y, r, v, rfl, hf, rfl⟩ := mj_ii_inv hp; cases hf; exact lv_iadd hx hb hd k
  case isub => obtain ⟨x, y, r, v, rfl, hf, rfl⟩ := mj_ii_inv hp; cases hf; exact lv_isub hx hb hd k
  case imul => obtain ⟨x, y, r, v, rfl, hf, rfl⟩ := mj_ii_inv hp; cases hf; exact lv_imul hx hb hd k
  case iand => obtain ⟨x, y, r, v, rfl, hf, rfl⟩ := mj_ii_inv hp; cases hf; exact lv_iand hx hb hd k
  case ior => obtain ⟨x, y, r, v, rfl, hf, rfl⟩ := mj_ii_inv hp; cases hf; exact lv_ior hx hb hd k
  case ixor => obtain ⟨x, y, r, v, rfl, hf, rfl⟩ := mj_ii_inv hp; cases hf; exact lv_ixor hx hb hd k
  case ishl => obtain ⟨x, y, r, v, rfl, hf, rfl⟩ := mj_ii_inv hp; cases hf; exact lv_ishl hx hb hd k
  case ishr => obtain ⟨x, y, r, v, rfl, hf, rfl⟩ := mj_ii_inv hp; cases hf; exact lv_ishr hx hb hd k
  case iushr => obtain ⟨x, y, r, v, rfl, hf, rfl⟩ := mj_ii_inv hp; cases hf; exact lv_iushr hx hb hd rfl k
  case idiv =>
    obtain ⟨x, y, r, v, rfl, hf, rfl⟩ := mj_ii_inv hp
    try dsimp only at hf
    split at hf
    · cases hf
    · rename_i hy; cases hf; exact lv_idiv hx hb hd hy k
  case irem =>
    obtain ⟨x, y, r, v, rfl, hf, rfl⟩ := mj_ii_inv hp
    try dsimp only at hf
    split at hf
    · cases hf
    · rename_i hy; cases hf; exact lv_irem hx hb hd hy k
  case ineg => obtain ⟨x, r, rfl, rfl⟩ := mj_i1_inv hp; exact lv_ineg hx hb hd k
  case ladd => obtain ⟨x, y, r, v, rfl, hf, rfl⟩ := mj_jj_inv hp; cases hf; exact lv_ladd hx hb hd k
  case lsub => obtain ⟨x, y, r, v, rfl, hf, rfl⟩ := mj_jj_inv hp; cases hf; exact lv_lsub hx hb hd k
  case lmul => obtain ⟨x, y, r, v, rfl, hf, rfl⟩ := mj_jj_inv hp; cases hf; exact lv_lmul hx hb hd k
  case land => obtain ⟨x, y, r, v, rfl, hf, rfl⟩ := mj_jj_inv hp; cases hf; exact lv_land hx hb hd k
  case lor => obtain ⟨x, y, r, v, rfl, hf, rfl⟩ := mj_jj_inv hp; cases hf; exact lv_lor hx hb hd k
  case lxor => obtain ⟨x, y, r, v, rfl, hf, rfl⟩ := mj_jj_inv hp; cases hf; exact lv_lxor hx hb hd k
  case lcmp => obtain ⟨x, y, r, v, rfl, hf, rfl⟩ := mj_jj_inv hp; cases hf; exact W.lcmp hx hb hd k
  case lshl => obtain ⟨x, y, r, v, rfl, hf, rfl⟩ := mj_ji_inv hp; cases hf; exact lv_lshl hx hb hd rfl k
  case lshr => obtain ⟨x, y, r, v, rfl, hf, rfl⟩ := mj_ji_inv hp; cases hf; exact lv_lshr hx hb hd rfl k
  case lushr => obtain ⟨x, y, r, v, rfl, hf, rfl⟩ := mj_ji_inv hp; cases hf; exact lv_lushr hx hb hd rfl k
  case i2l => obtain ⟨x, r, rfl, rfl⟩ := mj_i1_inv hp; exact lv_i2l hx hb hd rfl k
  case l2i => obtain ⟨x, r, rfl, rfl⟩ := mj_j1_inv hp; exact lv_l2i hx hb hd rfl k
  case i2b => obtain ⟨x, r, rfl, rfl⟩ := mj_i1_inv hp; exact lv_i2b hx hb hd rfl k
  case i2s => obtain ⟨x, r, rfl, rfl⟩ := mj_i1_inv hp; exact lv_i2s hx hb hd rfl k
  case i2c => obtain ⟨x, r, rfl, rfl⟩ := mj_i1_inv hp; exact lv_i2c hx hb hd rfl k
  case dup =>
    simp only [mj_pure] at hp
    split at hp
    · split at hp
      · rename_i h; cases hp; exact lv_dup hx hb hd (mj_c1_cat h) k
      · cases hp
    · cases hp
  case pop =>
    simp only [mj_pure] at hp
    split at hp
    · split at hp
      · rename_i h; cases hp; exact lv_pop hx hb hd (mj_c1_cat h) k
      · cases hp
    · cases hp
  case dup_x1 =>
    simp only [mj_pure] at hp
    split at hp
    · split at hp
      · rename_i h
        simp only [Bool.and_eq_true] at h
        cases hp; exact lv_dup_x1 hx hb hd (mj_c1_cat h.1) (mj_c1_cat h.2) k
      · cases hp
    · cases hp
  case dup_x2 =>
    simp only [mj_pure] at hp
    split at hp
    · split at hp
      · rename_i h
        simp only [Bool.and_eq_true] at h
        cases hp; exact lv_dup_x2 hx hb hd (mj_c1_cat h.1.1) (mj_c1_cat h.1.2) (mj_c1_cat h.2) k
      · cases hp
    · cases hp
  case dup2 =>
    simp only [mj_pure] at hp
    split at hp
    · cases hp; exact lv_dup2_2 hx hb hd rfl k
    · split at hp
      · rename_i h
        simp only [Bool.and_eq_true] at h
        cases hp; exact lv_dup2_11 hx hb hd (mj_c1_cat h.1) (mj_c1_cat h.2) k
      · cases hp
    · cases hp
  case dup2_x1 =>
    simp only [mj_pure] at hp
    split at hp
    · split at hp
      · rename_i h; cases hp; exact lv_dup2_x1_2 hx hb hd rfl (mj_c1_cat h) k
      · cases hp
    · cases hp
  case dup2_x2 =>
    simp only [mj_pure] at hp
    split at hp
    · split at hp
      · rename_i h
        simp only [Bool.and_eq_true] at h
        cases hp; exact lv_dup2_x2_2 hx hb hd rfl (mj_c1_cat h.1) (mj_c1_cat h.2) k
      · cases hp
    · cases hp
  all_goals (exfalso; simp [mj_pure] at hp)
end MJP
