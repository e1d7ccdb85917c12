-- ===== branches =====
def mj_b1 (f : Int32 → Bool) (o : Int) : List Value → Option (Bool × Int × List Value)
  | .int x :: r => some (f x, o, r)
  | _ => none
def mj_b2 (f : Int32 → Int32 → Bool) (o : Int) : List Value → Option (Bool × Int × List Value)
  | .int y :: .int x :: r => some (f x y, o, r)
  | _ => none
theorem mj_b1_inv {f : Int32 → Bool} {o o' : Int} {st r' : List Value} {b : Bool} (h : mj_b1 f o st = some (b, o', r')) : ∃ x, st = .int x :: r' ∧ f x = b ∧ o = o' := by
  unfold mj_b1 at h
  split at h
  · cases h; exact ⟨_, rfl, rfl, rfl⟩
  · cases h
theorem mj_b2_inv {f : Int32 → Int32 → Bool} {o o' : Int} {st r' : List Value} {b : Bool} (h : mj_b2 f o st = some (b, o', r')) : ∃ x y, st = .int y :: .int x :: r' ∧ f x y = b ∧ o = o' := by
  unfold mj_b2 at h
  split at h
  · cases h; exact ⟨_, _, rfl, rfl, rfl⟩
  · cases h
/-- a branch: whether it is taken, how far, what stays on the stack -/
def mj_br (I : Instr) (st : List Value) : Option (Bool × Int × List Value) := match I with
  | .ifCond .eq o => mj_b1 (fun x => decide (x = 0)) o st
  | .ifCond .ne o => mj_b1 (fun x => decide (¬ x = 0)) o st
  | .ifCond .lt o => mj_b1 (fun x => decide (x < 0)) o st
  | .ifCond .ge o => mj_b1 (fun x => decide (0 ≤ x)) o st
  | .ifCond .gt o => mj_b1 (fun x => decide (0 < x)) o st
  | .ifCond .le o => mj_b1 (fun x => decide (x ≤ 0)) o st
  | .if_icmp .eq o => mj_b2 (fun x y => decide (x = y)) o st
  | .if_icmp .ne o => mj_b2 (fun x y => decide (¬ x = y)) o st
  | .if_icmp .lt o => mj_b2 (fun x y => decide (x < y)) o st
  | .if_icmp .ge o => mj_b2 (fun x y => decide (y ≤ x)) o st
  | .if_icmp .gt o => mj_b2 (fun x y => decide (y < x)) o st
  | .if_icmp .le o => mj_b2 (fun x y => decide (x ≤ y)) o st
  | .ifnull o => match st with
    | .null :: r => some (true, o, r)
    | .ref _ :: r => some (false, o, r)
    | .retAddr _ :: r => some (false, o, r)
    | _ => none
  | .ifnonnull o => match st with
    | .null :: r => some (false, o, r)
    | .ref _ :: r => some (true, o, r)
    | .retAddr _ :: r => some (true, o, r)
    | _ => none
  | .goto o => some (true, o, st)
  | _ => none
/-- a switch: how far -/
def mj_sw (I : Instr) (st : List Value) : Option (Int × List Value) := match I with
  | .lookupswitch d ps => match st with
    | .int x :: r => if (ps.toList.zip (ps.toList.drop 1)).all (fun (a, next) => a.1 < next.1) then some (Op.lookupswitch.offset ps.toList d x.toInt, r) else none
    | _ => none
  | .tableswitch d lo hi offs => match st with
    | .int x :: r => if x.toInt < lo ∨ hi < x.toInt then some (d, r) else (offs[(x.toInt - lo).toNat]?).map (fun o => (o, r))
    | _ => none
  | _ => none
section MJB
variable {p : Program} {l : Launch} {e : Env} {R : Room} {s : State} {m : MethodId} {args : Array Value} {below : List Frame} {meth : Method} {c : Code} {H : Heap} {locs : List Loc} {cells slots : Nat} {Q : State → Prop}
variable {cc : ByteArray} {pc : Nat} {A : Array Slot} {z : Nat} {g : Nat → Nat}
theorem mj_br_ok (hx : p.tables.exec = Jvm.exec) (hb : c.code = cc) {I : Instr} {st st' : List Value} {b : Bool} {o : Int} {tgt : Nat} (hp : mj_br I st = some (b, o, st')) (hd : decode cc pc = .ok (I, 3)) (ht : (pc : Int) + o = (tgt : Int))
    (k : W p l e R s m args below meth c H locs cells slots Q (F0 m (if b then tgt else pc + 3) A (st'.map (mj_v z g)))) : W p l e R s m args below meth c H locs cells slots Q (F0 m pc A (st.map (mj_v z g))) := by
  cases I
  case ifCond cd o' =>
    cases cd
    all_goals (
      obtain ⟨x, rfl, hf, rfl⟩ := mj_b1_inv hp
      try dsimp only at hf)
    case eq => exact lv_if_eq hx hb hd ht (fun q => by rw [← hf, if_pos (by simpa using q)] at k; exact k) (fun q => by rw [← hf, if_neg (by simpa using q)] at k; exact k)
    case ne => exact lv_if_ne hx hb hd ht (fun q => by rw [← hf, if_pos (by simpa using q)] at k; exact k) (fun q => by rw [← hf, if_neg (by simpa using q)] at k; exact k)
    case lt => exact lv_if_lt hx hb hd ht (fun q => by rw [← hf, if_pos (by simpa using q)] at k; exact k) (fun q => by rw [← hf, if_neg (by simpa using q)] at k; exact k)
    case ge => exact lv_if_ge hx hb hd ht (fun q => by rw [← hf, if_pos (by simpa using q)] at k; exact k) (fun q => by rw [← hf, if_neg (by simpa using q)] at k; exact k)
    case gt => exact lv_if_gt hx hb hd ht (fun q => by rw [← hf, if_pos (by simpa using q)] at k; exact k) (fun q => by rw [← hf, if_neg (by simpa using q)] at k; exact k)
    case le => exact lv_if_le hx hb hd ht (fun q => by rw [← hf, if_pos (by simpa using q)] at k; exact k) (fun q => by rw [← hf, if_neg (by simpa using q)] at k; exact k)
  case if_icmp cd o' =>
    cases cd
    all_goals (
      obtain ⟨x, y, rfl, hf, rfl⟩ := mj_b2_inv hp
      try dsimp only at hf)
    case eq => exact lv_icmp_eq hx hb hd ht (fun q => by rw [← hf, if_pos (by simpa using q)] at k; exact k) (fun q => by rw [← hf, if_neg (by simpa using q)] at k; exact k)
    case ne => exact lv_icmp_ne hx hb hd ht (fun q => by rw [← hf, if_pos (by simpa using q)] at k; exact k) (fun q => by rw [← hf, if_neg (by simpa using q)] at k; exact k)
    case lt => exact lv_icmp_lt hx hb hd ht (fun q => by rw [← hf, if_pos (by simpa using q)] at k; exact k) (fun q => by rw [← hf, if_neg (by simpa using q)] at k; exact k)
    case ge => exact lv_icmp_ge hx hb hd ht (fun q => by rw [← hf, if_pos (by simpa using q)] at k; exact k) (fun q => by rw [← hf, if_neg (by simpa using q)] at k; exact k)
    case gt => exact lv_icmp_gt hx hb hd ht (fun q => by rw [← hf, if_pos (by simpa using q)] at k; exact k) (fun q => by rw [← hf, if_neg (by simpa using q)] at k; exact k)
    case le => exact lv_icmp_le hx hb hd ht (fun q => by rw [← hf, if_pos (by simpa using q)] at k; exact k) (fun q => by rw [← hf, if_neg (by simpa using q)] at k; exact k)
  case ifnull o' =>
    simp only [mj_br] at hp
    split at hp
    · cases hp; exact lv_ifnullN hx hb hd ht k
    · cases hp; exact lv_ifnull hx hb hd k
    · cases hp; exact lv_ifnull hx hb hd k
    · cases hp
  case ifnonnull o' =>
    simp only [mj_br] at hp
    split at hp
    · cases hp; exact lv_ifnonnullN hx hb hd k
    · cases hp; exact lv_ifnonnull hx hb hd ht k
    · cases hp; exact lv_ifnonnull hx hb hd ht k
    · cases hp
  case goto o' => cases hp; exact lv_goto hx hb hd ht k
  all_goals (exfalso; simp [mj_br] at hp)
theorem mj_sw_ok (hx : p.tables.exec = Jvm.exec) (hb : c.code = cc) {I : Instr} {n : Nat} {st st' : List Value} {o : Int} {tgt : Nat} (hp : mj_sw I st = some (o, st')) (hd : decode cc pc = .ok (I, n)) (ht : (pc : Int) + o = (tgt : Int))
    (k : W p l e R s m args below meth c H locs cells slots Q (F0 m tgt A (st'.map (mj_v z g)))) : W p l e R s m args below meth c H locs cells slots Q (F0 m pc A (st.map (mj_v z g))) := by
  cases I
  case lookupswitch d ps =>
    simp only [mj_sw] at hp
    split at hp
    · split at hp
      · rename_i h; cases hp; exact lv_lookup hx hb hd h rfl ht k
      · cases hp
    · cases hp
  case tableswitch d lo hi offs =>
    simp only [mj_sw] at hp
    split at hp
    · split at hp
      · rename_i h; cases hp; exact lv_tableOut hx hb hd h ht k
      · rename_i x r h
        obtain ⟨o1, h1, h2⟩ := Option.map_eq_some_iff.mp hp
        cases h2
        exact lv_tableIn hx hb hd (fun q => h (Or.inl q)) (fun q => h (Or.inr q)) h1 ht k
    · cases hp
  all_goals (exfalso; simp [mj_sw] at hp)
-- ===== locals =====
/-- loads: which local -/
def mj_ldi (I : Instr) : Option (Nat × Nat × Nat) := match I with
  | .iload i => some (i, 2, 0)
  | .iload_n i => some ((i : Nat), 1, 0)
  | .lload i => some (i, 2, 1)
  | .lload_n i => some ((i : Nat), 1, 1)
  | .aload i => some (i, 2, 2)
  | .aload_n i => some ((i : Nat), 1, 2)
  | _ => none
def mj_sti (I : Instr) : Option (Nat × Nat × Nat) := match I with
  | .istore i => some (i, 2, 0)
  | .istore_n i => some ((i : Nat), 1, 0)
  | .lstore i => some (i, 2, 1)
  | .lstore_n i => some ((i : Nat), 1, 1)
  | .astore i => some (i, 2, 2)
  | .astore_n i => some ((i : Nat), 1, 2)
  | _ => none
/-- a value of a kind: 0 an int, 1 a long, 2 a reference -/
def mj_kin : Nat → Value → Bool
  | 0, .int _ => true
  | 1, .long _ => true
  | 2, .ref _ => true
  | 2, .null => true
  | 2, .retAddr _ => true
  | _, _ => false
theorem mj_ld_ok (hx : p.tables.exec = Jvm.exec) (hb : c.code = cc) {I : Instr} {i n t : Nat} {ls : mj_L} {st : List Value} {v : Value} (hI : mj_ldi I = some (i, n, t)) (hl : mj_ls z g ls A) (hv : ls[i]? = some (some v)) (hk : mj_kin t v = true) (hd : decode cc pc = .ok (I, n))
    (k : W p l e R s m args below meth c H locs cells slots Q (F0 m (pc + n) A ((v :: st).map (mj_v z g)))) : W p l e R s m args below meth c H locs cells slots Q (F0 m pc A (st.map (mj_v z g))) := by
  have hA := hl.2.2 i v hv
  cases I
  case iload i' => cases hI; cases v <;> first | (cases hk; done) | exact lv_iload hx hb hd hA k
  case iload_n i' => cases hI; cases v <;> first | (cases hk; done) | exact lv_iload_n hx hb hd rfl hA k
  case lload i' => cases hI; cases v <;> first | (cases hk; done) | exact lv_lload hx hb hd hA k
  case lload_n i' => cases hI; cases v <;> first | (cases hk; done) | exact lv_lload_n hx hb hd rfl hA k
  case aload i' => cases hI; cases v <;> first | (cases hk; done) | exact lv_aload hx hb hd hA k | exact lv_aloadN hx hb hd hA k
  case aload_n i' => cases hI; cases v <;> first | (cases hk; done) | exact lv_aload_n hx hb hd rfl hA k | exact lv_aload_nN hx hb hd rfl hA k
  all_goals (exfalso; simp [mj_ldi] at hI)
def mj_sto (t : Nat) (ls : mj_L) (i : Nat) (v : Value) : mj_L := if t = 1 then mj_st2 ls i v else mj_st1 ls i v
theorem mj_st_ok (hx : p.tables.exec = Jvm.exec) (hb : c.code = cc) {I : Instr} {i n t : Nat} {ls : mj_L} {st : List Value} {v : Value} (hI : mj_sti I = some (i, n, t)) (hl : mj_ls z g ls A) (hi : i + (if t = 1 then 1 else 0) < ls.length) (hk : mj_kin t v = true) (hd : decode cc pc = .ok (I, n))
    (k : ∀ A' : Array Slot, mj_ls z g (mj_sto t ls i v) A' → W p l e R s m args below meth c H locs cells slots Q (F0 m (pc + n) A' (st.map (mj_v z g)))) : W p l e R s m args below meth c H locs cells slots Q (F0 m pc A ((v :: st).map (mj_v z g))) := by
  have hh := mj_has hl
  cases I
  case istore i' => cases hI; cases v <;> first | (cases hk; done) | exact lv_istore hx hb hd hh hi rfl (fun A' h' => k A' (mj_of1 h'))
  case istore_n i' => cases hI; cases v <;> first | (cases hk; done) | exact lv_istore_n hx hb hd rfl hh hi rfl (fun A' h' => k A' (mj_of1 h'))
  case lstore i' => cases hI; cases v <;> first | (cases hk; done) | exact lv_lstore hx hb hd hh hi rfl (fun A' h' => k A' (mj_of2 h'))
  case lstore_n i' => cases hI; cases v <;> first | (cases hk; done) | exact lv_lstore_n hx hb hd rfl hh hi rfl (fun A' h' => k A' (mj_of2 h'))
  case astore i' => cases hI; cases v <;> first | (cases hk; done) | exact lv_astore hx hb hd hh hi rfl (fun A' h' => k A' (mj_of1 h')) | exact lv_astoreN hx hb hd hh hi rfl (fun A' h' => k A' (mj_of1 h'))
  case astore_n i' => cases hI; cases v <;> first | (cases hk; done) | exact lv_astore_n hx hb hd rfl hh hi rfl (fun A' h' => k A' (mj_of1 h')) | exact lv_astore_nN hx hb hd rfl hh hi rfl (fun A' h' => k A' (mj_of1 h'))
  all_goals (exfalso; simp [mj_sti] at hI)
theorem mj_iinc_ok (hx : p.tables.exec = Jvm.exec) (hb : c.code = cc) {i : Nat} {n : Int} {ls : mj_L} {st : List Value} {x : Int32} (hl : mj_ls z g ls A) (hv : ls[i]? = some (some (.int x))) (hd : decode cc pc = .ok (.iinc i n, 3))
    (k : ∀ A' : Array Slot, mj_ls z g (mj_st1 ls i (.int (x + Int32.ofInt n))) A' → W p l e R s m args below meth c H locs cells slots Q (F0 m (pc + 3) A' (st.map (mj_v z g)))) : W p l e R s m args below meth c H locs cells slots Q (F0 m pc A (st.map (mj_v z g))) := by
  have hh := mj_has hl
  obtain ⟨q, hq⟩ := List.getElem?_of_mem (mj_al_mem (z := z) (g := g) hv)
  exact lv_iinc hx hb hd hh hq rfl (List.getElem?_eq_some_iff.mp hv).1 rfl (fun A' h' => k A' (mj_of1 h'))
end MJB
