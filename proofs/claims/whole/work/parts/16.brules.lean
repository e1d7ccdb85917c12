-- ===== rules for single instructions that look into the heap =====
def mj_isld : Instr → Bool
  | .iaload => true
  | .laload => true
  | .caload => true
  | .baload => true
  | .aaload => true
  | _ => false
section MJR2
variable {K : mj_K} {d j pc : Nat} {ls ls2 : mj_L} {st : List Value} {h : mj_H} {Q : Option Value → mj_H → Prop}
theorem mr_get {i a b c0 q : Nat} {v : Value} (hc : mj_code j pc = some (.getfield i, 3, a, b, c0)) (hk : mj_kd K q = a) (hv : mj_val h a q b = v) (hl : mj_clear (mj_dead j (pc + 3)) ls = ls2) (k : mr_M K d j (pc + 3) ls2 (v :: st) h Q) : mr_M K d j pc ls (.ref q :: st) h Q :=
  mr_M.next hc rfl (by show (if mj_kd K q = a then _ else _) = _; rw [if_pos hk, hv]) hl k
theorem mr_put {i a b c0 q : Nat} {v : Value} (hc : mj_code j pc = some (.putfield i, 3, a, b, c0)) (hk : mj_kd K q = a) (hf : mj_fit (mj_fty a b) v = true) (hl : mj_clear (mj_dead j (pc + 3)) ls = ls2) (k : mr_M K d j (pc + 3) ls2 st (mj_w h q b v) Q) : mr_M K d j pc ls (v :: .ref q :: st) h Q :=
  mr_M.next hc rfl (by show (if mj_kd K q = a ∧ _ then _ else _) = _; rw [if_pos ⟨hk, hf⟩]) hl k
theorem mr_ald {I : Instr} {a b c0 q : Nat} {x : Int32} {v : Value} (hc : mj_code j pc = some (I, 1, a, b, c0)) (hI : mj_isld I = true) (hk : mj_kd K q = 100 + a) (hb : mj_in x (mj_ln K q) = true) (hv : mj_val h (100 + a) q x.toNatClampNeg = v) (hl : mj_clear (mj_dead j (pc + 1)) ls = ls2) (k : mr_M K d j (pc + 1) ls2 (v :: st) h Q) : mr_M K d j pc ls (.int x :: .ref q :: st) h Q := by
  cases I <;> first
    | (cases hI; done)
    | exact mr_M.next hc rfl (by show (if mj_kd K q = 100 + a ∧ _ then _ else _) = _; rw [if_pos ⟨hk, hb⟩, hv]) hl k
theorem mr_iast {a b c0 q : Nat} {x v : Int32} (hc : mj_code j pc = some (.iastore, 1, a, b, c0)) (hk : mj_kd K q = 100 + a) (hb : mj_in x (mj_ln K q) = true) (hl : mj_clear (mj_dead j (pc + 1)) ls = ls2) (k : mr_M K d j (pc + 1) ls2 st (mj_w h q x.toNatClampNeg (.int v)) Q) : mr_M K d j pc ls (.int v :: .int x :: .ref q :: st) h Q :=
  mr_M.next hc rfl (by show (if mj_kd K q = 100 + a ∧ _ then _ else _) = _; rw [if_pos ⟨hk, hb⟩]) hl k
theorem mr_last {a b c0 q : Nat} {x : Int32} {v : Int64} (hc : mj_code j pc = some (.lastore, 1, a, b, c0)) (hk : mj_kd K q = 100 + a) (hb : mj_in x (mj_ln K q) = true) (hl : mj_clear (mj_dead j (pc + 1)) ls = ls2) (k : mr_M K d j (pc + 1) ls2 st (mj_w h q x.toNatClampNeg (.long v)) Q) : mr_M K d j pc ls (.long v :: .int x :: .ref q :: st) h Q :=
  mr_M.next hc rfl (by show (if mj_kd K q = 100 + a ∧ _ then _ else _) = _; rw [if_pos ⟨hk, hb⟩]) hl k
theorem mr_cast {a b c0 q : Nat} {x v : Int32} (hc : mj_code j pc = some (.castore, 1, a, b, c0)) (hk : mj_kd K q = 100 + a) (hb : mj_in x (mj_ln K q) = true) (hl : mj_clear (mj_dead j (pc + 1)) ls = ls2) (k : mr_M K d j (pc + 1) ls2 st (mj_w h q x.toNatClampNeg (.int (vp_nar .char v))) Q) : mr_M K d j pc ls (.int v :: .int x :: .ref q :: st) h Q :=
  mr_M.next hc rfl (by show (if mj_kd K q = 100 + a ∧ _ then _ else _) = _; rw [if_pos ⟨hk, hb⟩]) hl k
theorem mr_bast {a b c0 q : Nat} {x v : Int32} (hc : mj_code j pc = some (.bastore, 1, a, b, c0)) (hk : mj_kd K q = 100 + a) (hb : mj_in x (mj_ln K q) = true) (hl : mj_clear (mj_dead j (pc + 1)) ls = ls2) (k : mr_M K d j (pc + 1) ls2 st (mj_w h q x.toNatClampNeg (.int (vp_nar (mj_aty a) v))) Q) : mr_M K d j pc ls (.int v :: .int x :: .ref q :: st) h Q :=
  mr_M.next hc rfl (by show (if mj_kd K q = 100 + a ∧ _ then _ else _) = _; rw [if_pos ⟨hk, hb⟩]) hl k
theorem mr_alen {a b c0 q : Nat} (hc : mj_code j pc = some (.arraylength, 1, a, b, c0)) (hk : 100 ≤ mj_kd K q ∧ mj_kd K q < 200) (hl : mj_clear (mj_dead j (pc + 1)) ls = ls2) (k : mr_M K d j (pc + 1) ls2 (.int (Int32.ofNat (mj_ln K q)) :: st) h Q) : mr_M K d j pc ls (.ref q :: st) h Q :=
  mr_M.next hc rfl (by show (if _ then _ else _) = _; rw [if_pos hk]) hl k
theorem mr_zret {n a b c0 : Nat} {v : Int32} (hc : mj_code j pc = some (.ireturn, n, a, b, c0)) (hr : mj_ret j = some .boolean) (hv : v = 0 ∨ v = 1) (k : Q (some (.int v)) h) : mr_M K d j pc ls [.int v] h Q :=
  mr_M.ret hc (by rw [hr]; show (if v = 0 ∨ v = 1 then _ else _) = _; rw [if_pos hv]) k
theorem mr_min {i b c0 : Nat} {x y : Int32} (hc : mj_code j pc = some (.invokestatic i, 3, 1002, b, c0)) (hd : 1 ≤ d) (hs : (st.map fun v => v.category).sum ≤ 8) (hl : mj_clear (mj_dead j (pc + 3)) ls = ls2) (k : mr_M K d j (pc + 3) ls2 (.int (if y < x then y else x) :: st) h Q) : mr_M K d j pc ls (.int y :: .int x :: st) h Q :=
  mr_M.next hc rfl (by show Option.map _ (if _ then _ else _) = _; rw [if_pos ⟨hd, hs⟩]; rfl) hl k
theorem mr_len {i b c0 t : Nat} (hc : mj_code j pc = some (.invokevirtual i, 3, 1000, b, c0)) (hd : 8 ≤ d) (ht : t < mj_nS) (hs : (st.map fun v => v.category).sum ≤ 8) (hl : mj_clear (mj_dead j (pc + 3)) ls = ls2) (k : mr_M K d j (pc + 3) ls2 (.int (Int32.ofNat (mj_str t).length) :: st) h Q) : mr_M K d j pc ls (.retAddr t :: st) h Q :=
  mr_M.next hc rfl (by show Option.map _ (if _ then _ else _) = _; rw [if_pos ⟨hd, ht, hs⟩]; rfl) hl k
theorem mr_chr {i b c0 t : Nat} {x : Int32} (hc : mj_code j pc = some (.invokevirtual i, 3, 1001, b, c0)) (hd : 8 ≤ d) (ht : t < mj_nS) (hx : mj_in x (mj_str t).length = true) (hs : (st.map fun v => v.category).sum ≤ 8) (hl : mj_clear (mj_dead j (pc + 3)) ls = ls2) (k : mr_M K d j (pc + 3) ls2 (.int (nI ((mj_str t).getD x.toNatClampNeg 0)) :: st) h Q) : mr_M K d j pc ls (.int x :: .retAddr t :: st) h Q :=
  mr_M.next hc rfl (by show Option.map _ (if _ then _ else _) = _; rw [if_pos ⟨hd, ht, hx, hs⟩]; rfl) hl k
theorem mr_rokV {i n a b c0 q : Nat} {r : List Value} (hk : mj_kd K q = c0 % 1000 / 2) : mj_rok (.invokevirtual i, n, a, b, c0) K (.ref q :: r) = true := by simp [mj_rok, hk]
theorem mr_div {x y : Int32} {a b c0 n : Nat} (hc : mj_code j pc = some (.idiv, 1, a, b, c0)) (hy : ¬ y = 0) (hl : mj_clear (mj_dead j (pc + 1)) ls = ls2) (k : mr_M K d j (pc + 1) ls2 (.int (x / y) :: st) h Q) : mr_M K d j pc ls (.int y :: .int x :: st) h Q :=
  mr_M.next hc rfl (by show Option.map _ (mj_simple .idiv 1 pc ls (.int y :: .int x :: st)) = _; simp [mj_simple, mj_ldi, mj_sti, mj_br, mj_sw, mj_pure, mj_ii, hy]) hl k
theorem mr_rem {x y : Int32} {a b c0 n : Nat} (hc : mj_code j pc = some (.irem, 1, a, b, c0)) (hy : ¬ y = 0) (hl : mj_clear (mj_dead j (pc + 1)) ls = ls2) (k : mr_M K d j (pc + 1) ls2 (.int (x - x / y * y) :: st) h Q) : mr_M K d j pc ls (.int y :: .int x :: st) h Q :=
  mr_M.next hc rfl (by show Option.map _ (mj_simple .irem 1 pc ls (.int y :: .int x :: st)) = _; simp [mj_simple, mj_ldi, mj_sti, mj_br, mj_sw, mj_pure, mj_ii, hy]) hl k
/-- a switch over 0 .. n - 1 (or from lo on) -/
theorem mr_swI {dflt lo hi : Int} {offs : Array Int} {n a b c0 t : Nat} {x : Int32} {o : Int} (hc : mj_code j pc = some (.tableswitch dflt lo hi offs, n, a, b, c0)) (h1 : ¬ (x.toInt < lo ∨ hi < x.toInt)) (ho : offs[(x.toInt - lo).toNat]? = some o) (ht : mj_tgt pc o = some t) (hl : mj_clear (mj_dead j t) ls = ls2) (k : mr_M K d j t ls2 st h Q) : mr_M K d j pc ls (.int x :: st) h Q :=
  mr_M.next hc rfl (by show Option.map _ (mj_simple (.tableswitch dflt lo hi offs) n pc ls (.int x :: st)) = some (t, ls, st, K, h); simp only [mj_simple, mj_ldi, mj_sti, mj_br, mj_sw, if_neg h1, ho, Option.map_some, ht]) hl k
theorem mr_swO {dflt lo hi : Int} {offs : Array Int} {n a b c0 t : Nat} {x : Int32} (hc : mj_code j pc = some (.tableswitch dflt lo hi offs, n, a, b, c0)) (h1 : x.toInt < lo ∨ hi < x.toInt) (ht : mj_tgt pc dflt = some t) (hl : mj_clear (mj_dead j t) ls = ls2) (k : mr_M K d j t ls2 st h Q) : mr_M K d j pc ls (.int x :: st) h Q :=
  mr_M.next hc rfl (by show Option.map _ (mj_simple (.tableswitch dflt lo hi offs) n pc ls (.int x :: st)) = some (t, ls, st, K, h); simp only [mj_simple, mj_ldi, mj_sti, mj_br, mj_sw, if_pos h1, Option.map_some, ht]) hl k
end MJR2
theorem mr_swN {x : Int32} {l2 h2 : Int} (lo hi : Nat) (e1 : l2 = (lo : Int)) (e2 : h2 = (hi : Int)) (h : ¬ (x.toInt < l2 ∨ h2 < x.toInt)) (hh : hi < 2 ^ 31) : ∃ n : Nat, x = nI n ∧ lo ≤ n ∧ n ≤ hi := by
  subst e1
  subst e2
  have h1 : (lo : Int) ≤ x.toInt := by omega
  have h2 : x.toInt ≤ (hi : Int) := by omega
  refine ⟨x.toInt.toNat, ?_, by omega, by omega⟩
  apply Int32.toInt_inj.mp
  rw [nI_toInt (by omega)]
  omega
