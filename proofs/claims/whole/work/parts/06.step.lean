-- ===== links, as the tables have them =====
def mj_cr (k : Nat) : vw_C := (mj_cl[k]?).getD ("", fun _ => ("", "", "", false), 0)
theorem mj_cr_at {k : Nat} (h : k < mj_cl.length) : mj_cl[k]? = some (mj_cr k) := by
  unfold mj_cr
  rw [List.getElem?_eq_getElem h]
  rfl
def mj_fl (own : String) (i : Nat) (r : vw_C) (f : Nat) : Cond := .fieldLink own i (r.2.1 f).1 (r.2.1 f).2.1 (r.2.1 f).2.2.1
def mj_fn (own host : String) (i : Nat) (r : vw_C) (f : Nat) : Cond := .fieldLinkNest own i (r.2.1 f).1 (r.2.1 f).2.1 (r.2.1 f).2.2.1 host
def mj_fin (r : vw_C) (f : Nat) : Bool := (r.2.1 f).2.2.2
/-- a word of the tables, by its place -/
def mj_inx (k : Nat) (w : Cond) : Bool := decide (mj_at k = some w)
def mj_np (y : MethodName) : Option Nat := (parseMethodDescriptor y.desc).map (fun q => q.parameters.length)
/-- what the tables say of a method that is called -/
def mj_cal (a : Nat) : Bool := mj_inx (mj_ix a).1 (.code (mj_y a) (mj_b a) (mj_ml a) (mj_ret a)) && mj_inx (mj_ix a).2.1 (.initialized (mj_y a).cls) && decide (mj_np (mj_y a) = some (mj_nb a).1) && decide ((mj_y a).cls ≠ "java/lang/invoke/MethodHandle") && decide ((mj_y a).cls ≠ "java/lang/invoke/VarHandle") && plainName (mj_y a).cls && decide (mj_ml a + 19 ≤ mj_LW) && (match (mj_nb a).2 with
  | 0 => mj_inx (mj_ix a).2.2.1 (.static (mj_y a))
  | 1 => mj_inx (mj_ix a).2.2.1 (.instanceMethod (mj_y a)) && mj_inx (mj_ix a).2.2.2 (.selects (mj_y a).cls (mj_y a) (mj_y a))
  | _ => mj_inx (mj_ix a).2.2.1 (.instanceMethod (mj_y a)) && decide ((mj_y a).name = "<init>") && decide (mj_ret a = none))
/-- a call's words -/
def mj_cok (own host : String) (i a b q c0 : Nat) : Bool := decide (a < mj_nM) && decide (mj_nb a = (b, q)) && (if c0 % 2 = 0 then mj_inx (c0 / 1000) (.methodLink own i (mj_y a)) else mj_inx (c0 / 1000) (.methodLinkNest own i (mj_y a) host))
def mj_sok (own host : String) (ini : Bool) (x : mj_X) : Bool := match x with
  | (I, n, a, b, c0) => match I with
    | .getfield i => decide (a < mj_cl.length) && decide (b < (mj_cr a).2.2) && decide (n = 3) && (mj_inx (c0 / 1000) (mj_fl own i (mj_cr a) b) || mj_inx (c0 / 1000) (mj_fn own host i (mj_cr a) b))
    | .putfield i => decide (a < mj_cl.length) && decide (b < (mj_cr a).2.2) && decide (n = 3) && ((mj_inx (c0 / 1000) (mj_fl own i (mj_cr a) b) && (!(mj_fin (mj_cr a) b) || (ini && decide (((mj_cr a).2.1 b).1 = own)))) || (!(mj_fin (mj_cr a) b) && mj_inx (c0 / 1000) (mj_fn own host i (mj_cr a) b)))
    | .iaload => decide (n = 1) && decide (a < mj_nA) && mj_aldT .iaload (mj_aty a)
    | .laload => decide (n = 1) && decide (a < mj_nA) && mj_aldT .laload (mj_aty a)
    | .caload => decide (n = 1) && decide (a < mj_nA) && mj_aldT .caload (mj_aty a)
    | .baload => decide (n = 1) && decide (a < mj_nA) && mj_aldT .baload (mj_aty a)
    | .aaload => decide (n = 1) && decide (a < mj_nA) && mj_aldT .aaload (mj_aty a)
    | .iastore => decide (n = 1) && decide (a < mj_nA) && decide (mj_aty a = .int)
    | .lastore => decide (n = 1) && decide (a < mj_nA) && decide (mj_aty a = .long)
    | .castore => decide (n = 1) && decide (a < mj_nA) && decide (mj_aty a = .char)
    | .bastore => decide (n = 1) && decide (a < mj_nA) && (decide (mj_aty a = .boolean) || decide (mj_aty a = .byte))
    | .aastore => decide (n = 1) && decide (a < mj_nA) && decide (b < mj_cl.length) && decide (mj_aty a = .object (mj_cr b).1)
    | .arraylength => decide (n = 1)
    | .new i => decide (n = 3) && decide (a < mj_cl.length) && mj_inx (c0 / 1000) (.classLink own i (mj_cr a).1) && mj_inx (mj_kx a).1 (.instantiable (mj_cr a).1 (mj_cr a).2.2) && mj_inx (mj_kx a).2 (.initialized (mj_cr a).1)
    | .newarray t => decide (n = 2) && decide (a < mj_nA) && decide (newarray.typeOf t = mj_aty a) && decide (mj_aty a ≠ .float) && decide (mj_aty a ≠ .double) && mj_inx (c0 / 1000) (.arrayClass (mj_aty a))
    | .anewarray i => decide (n = 3) && decide (a < mj_nA) && (match mj_aty a with
      | .object C => mj_inx (c0 / 1000) (.classLink own i C) && decide (C ∈ mj_AOs)
      | _ => false)
    | .ireturn => decide (n = 1)
    | .lreturn => decide (n = 1)
    | .areturn => decide (n = 1)
    | .return_ => decide (n = 1)
    | .bipush _ => decide (n = 2)
    | .sipush _ => decide (n = 3)
    | .ldc i => decide (n = 2) && (if c0 = 1 then decide ((own, i, a) ∈ mj_SR) else mj_inx (c0 / 1000) (.constant own i (mj_ci a)))
    | .ldc2_w i => decide (n = 3) && mj_inx (c0 / 1000) (.constantLong own i (mj_cj a))
    | .invokestatic i => decide (n = 3) && (if a < 1000 then mj_cok own host i a b 0 c0 else decide (a = 1002) && mj_inx (c0 / 1000) (.methodLink own i Lib.Math.min.name) && mj_inx mj_x0.1 (.static Lib.Math.min.name) && mj_inx mj_x0.2.1 (.initialized "java/lang/Math") && mj_inx mj_x0.2.2 (.code Lib.Math.min.name Lib.Math.min.code 2 (some .int)))
    | .invokespecial i => decide (n = 3) && (if a < 1000 then mj_cok own host i a b 2 c0 else decide (a = 1003) && mj_inx (c0 / 1000) (.methodLink own i Lib.objectInit) && mj_inx mj_x1.1 (.instanceMethod Lib.objectInit) && mj_inx mj_x1.2 (.code Lib.objectInit ⟨#[0xb1]⟩ 1 none))
    | .invokevirtual i => decide (n = 3) && (if a < 1000 then mj_cok own host i a b 1 c0 && decide (c0 % 1000 / 2 < mj_cl.length) && decide ((mj_cr (c0 % 1000 / 2)).1 = (mj_y a).cls) else (if a = 1000 then decide ((own, i) ∈ mj_SL) else decide (a = 1001) && decide ((own, i) ∈ mj_SC)))
    | _ => true
theorem mj_ins_T {k : Nat} {w : Cond} (h : mj_inx k w = true) (hg : mj_goodB w = true) : w ∈ mj_T := mj_T_in (mj_at_mem (k := k) (by simpa [mj_inx] using h)) hg
theorem mj_ins_N {k : Nat} {w : Cond} (h : mj_inx k w = true) (hg : mj_nestB w = true) : w ∈ mj_NL := mj_NL_in (mj_at_mem (k := k) (by simpa [mj_inx] using h)) hg
section MJS
variable {p : Program} {l : Launch} {e : Env} {R : Room} {s : State} {m : MethodId} {args : Array Value} {below : List Frame} {meth : Method} {c : Code} {H : Heap} {locs : List Loc} {cells slots : Nat} {Q : State → Prop}
variable {cc : ByteArray} {pc : Nat} {A : Array Slot} {z : Nat} {g : Nat → Nat} {D : va_G} {dA : Nat → ClassId} {K : mj_K} {h : mj_H} {st : List Value} {own : String}
theorem mj_simple_ok (hx : p.tables.exec = Jvm.exec) (hb : c.code = cc) {I : Instr} {n pc' : Nat} {ls ls' : mj_L} {st st' : List Value} (hp : mj_simple I n pc ls st = some (pc', ls', st')) (hd : decode cc pc = .ok (I, n)) (hl : mj_ls z g ls A)
    (kk : ∀ A' : Array Slot, mj_ls z g ls' A' → W p l e R s m args below meth c H locs cells slots Q (F0 m pc' A' (st'.map (mj_v z g)))) : W p l e R s m args below meth c H locs cells slots Q (F0 m pc A (st.map (mj_v z g))) := by
  unfold mj_simple at hp
  split at hp
  · rename_i i n' t hI
    split at hp
    · rename_i v hv
      split at hp
      · rename_i hc
        cases hp
        obtain ⟨rfl, hk⟩ := hc
        exact mj_ld_ok hx hb hI hl hv hk hd (kk A hl)
      · cases hp
    · cases hp
  · split at hp
    · rename_i i n' t hI
      split at hp
      · rename_i v r
        by_cases hc : n = n' ∧ mj_kin t v = true ∧ i + (if t = 1 then 1 else 0) < ls.length
        · rw [if_pos hc] at hp
          cases hp
          obtain ⟨rfl, hk, hi⟩ := hc
          exact mj_st_ok hx hb hI hl hi hk hd kk
        · rw [if_neg hc] at hp
          cases hp
      · cases hp
    · split at hp
      · rename_i b o r hbr
        split at hp
        · rename_i t ht
          split at hp
          · rename_i hn
            cases hp
            subst hn
            exact mj_br_ok hx hb hbr hd (mj_tgt_ok ht) (kk A hl)
          · cases hp
        · cases hp
      · split at hp
        · rename_i o r hsw
          split at hp
          · rename_i t ht
            cases hp
            exact mj_sw_ok hx hb hsw hd (mj_tgt_ok ht) (kk A hl)
          · cases hp
        · split at hp
          · rename_i st2 hpu
            split at hp
            · rename_i hn
              cases hp
              subst hn
              exact mj_pure_ok hx hb hpu hd (kk A hl)
            · cases hp
          · cases hp
end MJS
