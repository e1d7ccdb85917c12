-- ===== the run of the small machine =====
abbrev mj_X : Type := Instr × Nat × Nat × Nat × Nat
abbrev mj_N : Type := Nat × mj_L × List Value × mj_K × mj_H
def mj_kd (K : mj_K) (a : Nat) : Nat := ((K[a]?).getD (99999, 0)).1
def mj_ln (K : mj_K) (a : Nat) : Nat := ((K[a]?).getD (99999, 0)).2
theorem mj_kd_at {K : mj_K} {a k : Nat} (h : mj_kd K a = k) (hk : k ≠ 99999) : K[a]? = some (k, mj_ln K a) := by
  unfold mj_kd at h
  unfold mj_ln
  cases hq : K[a]? with
  | none => rw [hq] at h; exact absurd h.symm hk
  | some q =>
    rw [hq] at h
    obtain ⟨k', n'⟩ := q
    cases h
    rfl
def mj_cn (k : Nat) : Nat := ((mj_cl[k]?).map (fun r => r.2.2)).getD 0
def mj_cnm (k : Nat) : String := ((mj_cl[k]?).map (fun r => r.1)).getD ""
def mj_tgt (pc : Nat) (o : Int) : Option Nat := if 0 ≤ (pc : Int) + o then some ((pc : Int) + o).toNat else none
theorem mj_tgt_ok {pc t : Nat} {o : Int} (h : mj_tgt pc o = some t) : (pc : Int) + o = (t : Int) := by
  unfold mj_tgt at h
  split at h
  · rename_i h0; cases h; omega
  · cases h
/-- what is neither a heap's matter nor a call: locals, branches, pure -/
def mj_simple (I : Instr) (n pc : Nat) (ls : mj_L) (st : List Value) : Option (Nat × mj_L × List Value) := match mj_ldi I with
  | some (i, n', t) => match ls[i]? with
    | some (some v) => if n = n' ∧ mj_kin t v = true then some (pc + n, ls, v :: st) else none
    | _ => none
  | none => match mj_sti I with
    | some (i, n', t) => match st with
      | v :: r => if n = n' ∧ mj_kin t v = true ∧ i + (if t = 1 then 1 else 0) < ls.length then some (pc + n, mj_sto t ls i v, r) else none
      | _ => none
    | none => match mj_br I st with
      | some (b, o, r) => match mj_tgt pc o with
        | some t => if n = 3 then some (if b then t else pc + 3, ls, r) else none
        | none => none
      | none => match mj_sw I st with
        | some (o, r) => match mj_tgt pc o with
          | some t => some (t, ls, r)
          | none => none
        | none => match mj_pure I st with
          | some st' => if n = 1 then some (pc + 1, ls, st') else none
          | none => none
/-- the JDK's members that are taken as one step: 1000 String.length, 1001 String.charAt, 1002 Math.min, 1003 Object's constructor -/
def mj_intr (a d : Nat) (st : List Value) : Option (List Value) := match a with
  | 1000 => match st with
    | .retAddr k :: r => if 8 ≤ d ∧ k < mj_nS ∧ (r.map fun v => v.category).sum ≤ 8 then some (.int (Int32.ofNat (mj_str k).length) :: r) else none
    | _ => none
  | 1001 => match st with
    | .int i :: .retAddr k :: r => if 8 ≤ d ∧ k < mj_nS ∧ mj_in i (mj_str k).length ∧ (r.map fun v => v.category).sum ≤ 8 then some (.int (nI ((mj_str k).getD i.toNatClampNeg 0)) :: r) else none
    | _ => none
  | 1002 => match st with
    | .int y :: .int x :: r => if 1 ≤ d ∧ (r.map fun v => v.category).sum ≤ 8 then some (.int (if y < x then y else x) :: r) else none
    | _ => none
  | 1003 => match st with
    | .ref _ :: r => if 1 ≤ d ∧ (r.map fun v => v.category).sum ≤ 8 then some r else none
    | _ => none
  | _ => none
def mj_plain (x : mj_X) (d pc : Nat) (ls : mj_L) (st : List Value) (K : mj_K) (h : mj_H) : Option mj_N := match x with
  | (I, n, a, b, c0) => match I with
    | .getfield _ => match st with
      | .ref q :: r => if mj_kd K q = a then some (pc + 3, ls, mj_val h a q b :: r, K, h) else none
      | _ => none
    | .putfield _ => match st with
      | v :: .ref q :: r => if mj_kd K q = a ∧ mj_fit (mj_fty a b) v = true then some (pc + 3, ls, r, K, mj_w h q b v) else none
      | _ => none
    | .iaload => match st with
      | .int j :: .ref q :: r => if mj_kd K q = 100 + a ∧ mj_in j (mj_ln K q) = true then some (pc + 1, ls, mj_val h (100 + a) q j.toNatClampNeg :: r, K, h) else none
      | _ => none
    | .laload => match st with
      | .int j :: .ref q :: r => if mj_kd K q = 100 + a ∧ mj_in j (mj_ln K q) = true then some (pc + 1, ls, mj_val h (100 + a) q j.toNatClampNeg :: r, K, h) else none
      | _ => none
    | .caload => match st with
      | .int j :: .ref q :: r => if mj_kd K q = 100 + a ∧ mj_in j (mj_ln K q) = true then some (pc + 1, ls, mj_val h (100 + a) q j.toNatClampNeg :: r, K, h) else none
      | _ => none
    | .baload => match st with
      | .int j :: .ref q :: r => if mj_kd K q = 100 + a ∧ mj_in j (mj_ln K q) = true then some (pc + 1, ls, mj_val h (100 + a) q j.toNatClampNeg :: r, K, h) else none
      | _ => none
    | .aaload => match st with
      | .int j :: .ref q :: r => if mj_kd K q = 100 + a ∧ mj_in j (mj_ln K q) = true then some (pc + 1, ls, mj_val h (100 + a) q j.toNatClampNeg :: r, K, h) else none
      | _ => none
    | .iastore => match st with
      | .int v :: .int j :: .ref q :: r => if mj_kd K q = 100 + a ∧ mj_in j (mj_ln K q) = true then some (pc + 1, ls, r, K, mj_w h q j.toNatClampNeg (.int v)) else none
      | _ => none
    | .lastore => match st with
      | .long v :: .int j :: .ref q :: r => if mj_kd K q = 100 + a ∧ mj_in j (mj_ln K q) = true then some (pc + 1, ls, r, K, mj_w h q j.toNatClampNeg (.long v)) else none
      | _ => none
    | .castore => match st with
      | .int v :: .int j :: .ref q :: r => if mj_kd K q = 100 + a ∧ mj_in j (mj_ln K q) = true then some (pc + 1, ls, r, K, mj_w h q j.toNatClampNeg (.int (vp_nar .char v))) else none
      | _ => none
    | .bastore => match st with
      | .int v :: .int j :: .ref q :: r => if mj_kd K q = 100 + a ∧ mj_in j (mj_ln K q) = true then some (pc + 1, ls, r, K, mj_w h q j.toNatClampNeg (.int (vp_nar (mj_aty a) v))) else none
      | _ => none
    | .aastore => match st with
      | .ref v :: .int j :: .ref q :: r => if mj_kd K q = 100 + a ∧ mj_kd K v = b ∧ mj_in j (mj_ln K q) = true then some (pc + 1, ls, r, K, mj_w h q j.toNatClampNeg (.ref v)) else none
      | _ => none
    | .arraylength => match st with
      | .ref q :: r => if 100 ≤ mj_kd K q ∧ mj_kd K q < 200 then some (pc + 1, ls, .int (Int32.ofNat (mj_ln K q)) :: r, K, h) else none
      | _ => none
    | .new _ => some (pc + 3, ls, .ref K.length :: st, K ++ [(a, mj_cn a)], mj_zero h K.length)
    | .newarray _ => match st with
      | .int j :: r => if mj_in j 65536 = true then some (pc + 2, ls, .ref K.length :: r, K ++ [(100 + a, j.toNatClampNeg)], mj_zero h K.length) else none
      | _ => none
    | .anewarray _ => match st with
      | .int j :: r => if mj_in j 65536 = true then some (pc + 3, ls, .ref K.length :: r, K ++ [(100 + a, j.toNatClampNeg)], mj_zero h K.length) else none
      | _ => none
    | .iinc i k => match ls[i]? with
      | some (some (.int v)) => if n = 3 then some (pc + 3, mj_st1 ls i (.int (v + Int32.ofInt k)), st, K, h) else none
      | _ => none
    | .bipush k => some (pc + 2, ls, .int (Int8.ofInt k).toInt32 :: st, K, h)
    | .sipush k => some (pc + 3, ls, .int (Int16.ofInt k).toInt32 :: st, K, h)
    | .ldc _ => if c0 = 1 then some (pc + 2, ls, .retAddr a :: st, K, h) else some (pc + 2, ls, .int (mj_ci a) :: st, K, h)
    | .ldc2_w _ => some (pc + 3, ls, .long (mj_cj a) :: st, K, h)
    | .invokestatic _ => (mj_intr a d st).map (fun r => (pc + 3, ls, r, K, h))
    | .invokespecial _ => (mj_intr a d st).map (fun r => (pc + 3, ls, r, K, h))
    | .invokevirtual _ => (mj_intr a d st).map (fun r => (pc + 3, ls, r, K, h))
    | I => (mj_simple I n pc ls st).map (fun (pc', ls', st') => (pc', ls', st', K, h))
def mj_rr : Option FieldType → Bool
  | some (.object _) => true
  | some (.array _) => true
  | _ => false
/-- returns and calls: the answer; or the callee, its arguments and what stays on the stack -/
def mj_ctl (x : mj_X) (rt : Option FieldType) (st : List Value) : Option (Option Value ⊕ (Nat × List Value × List Value)) := match x with
  | (I, _, a, b, _) => match I with
    | .ireturn => match st with
      | [.int v] => match rt with
        | some .int => some (.inl (some (.int v)))
        | some .boolean => if v = 0 ∨ v = 1 then some (.inl (some (.int v))) else none
        | _ => none
      | _ => none
    | .lreturn => match st with
      | [.long v] => if rt = some .long then some (.inl (some (.long v))) else none
      | _ => none
    | .areturn => match st with
      | [v] => if mj_kin 2 v = true ∧ mj_rr rt = true then some (.inl (some v)) else none
      | _ => none
    | .return_ => match st with
      | [] => if rt = none then some (.inl none) else none
      | _ => none
    | .invokestatic _ => if a < 1000 ∧ b ≤ st.length then some (.inr (a, (st.take b).reverse, st.drop b)) else none
    | .invokespecial _ => if a < 1000 then (match st.drop b with
      | .ref q :: r => some (.inr (a, .ref q :: (st.take b).reverse, r))
      | _ => none) else none
    | .invokevirtual _ => if a < 1000 then (match st.drop b with
      | .ref q :: r => some (.inr (a, .ref q :: (st.take b).reverse, r))
      | _ => none) else none
    | _ => none
/-- the receiver's class -/
def mj_rok (x : mj_X) (K : mj_K) (As : List Value) : Bool := match x with
  | (I, _, _, _, c0) => match I with
    | .invokevirtual _ => match As with
      | .ref q :: _ => decide (mj_kd K q = c0 % 1000 / 2)
      | _ => false
    | _ => true
def mj_sl : List Value → mj_L
  | [] => []
  | v :: r => if v.category = 2 then some v :: none :: mj_sl r else some v :: mj_sl r
def mj_entry (j : Nat) (vs : List Value) : mj_L := mj_sl vs ++ List.replicate (mj_ml j - (mj_sl vs).length) none
def mj_run : Nat → Nat → Nat → Nat → mj_L → List Value → mj_K → mj_H → Option (Option Value × mj_K × mj_H)
  | 0, _, _, _, _, _, _, _ => none
  | f + 1, d, j, pc, ls, st, K, h => match mj_code j pc with
    | none => none
    | some x => match mj_ctl x (mj_ret j) st with
      | some (.inl v) => some (v, K, h)
      | some (.inr (j', As, rest)) => match d with
        | 0 => none
        | d' + 1 => if (mj_sl As).length ≤ mj_ml j' ∧ (rest.map fun v => v.category).sum ≤ 8 ∧ mj_rok x K As = true then
            (match mj_run f d' j' 0 (mj_entry j' As) [] K h with
            | none => none
            | some (v, K1, h1) => mj_run f (d' + 1) j (pc + 3) (mj_clear (mj_dead j (pc + 3)) ls) (v.toList ++ rest) K1 h1)
          else none
      | none => match mj_plain x d pc ls st K h with
        | none => none
        | some (pc', ls', st', K', h') => mj_run f d j pc' (mj_clear (mj_dead j pc') ls') st' K' h'
